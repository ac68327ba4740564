/-! Helps of the walks: relations of ints, strings and statics of the start, lengths of pooled arrays. -/
theorem zq_lt_t {x y : Int32} (h : x < y) : x.toInt < y.toInt := by
  first | exact Int32.lt_iff_toInt_lt.mp h | exact Int32.le_iff_toInt_le.mp h
theorem zq_lt_f {x y : Int32} (h : ¬ x < y) : y.toInt ≤ x.toInt := by
  first | (rw [Int32.lt_iff_toInt_lt] at h; omega) | (rw [Int32.le_iff_toInt_le] at h; omega)
theorem zq_ge_t {x y : Int32} (h : y ≤ x) : y.toInt ≤ x.toInt := by
  first | exact Int32.lt_iff_toInt_lt.mp h | exact Int32.le_iff_toInt_le.mp h
theorem zq_ge_f {x y : Int32} (h : ¬ y ≤ x) : x.toInt < y.toInt := by
  first | (rw [Int32.lt_iff_toInt_lt] at h; omega) | (rw [Int32.le_iff_toInt_le] at h; omega)
theorem zq_gt_t {x y : Int32} (h : y < x) : y.toInt < x.toInt := by
  first | exact Int32.lt_iff_toInt_lt.mp h | exact Int32.le_iff_toInt_le.mp h
theorem zq_gt_f {x y : Int32} (h : ¬ y < x) : x.toInt ≤ y.toInt := by
  first | (rw [Int32.lt_iff_toInt_lt] at h; omega) | (rw [Int32.le_iff_toInt_le] at h; omega)
theorem zq_le_t {x y : Int32} (h : x ≤ y) : x.toInt ≤ y.toInt := by
  first | exact Int32.lt_iff_toInt_lt.mp h | exact Int32.le_iff_toInt_le.mp h
theorem zq_le_f {x y : Int32} (h : ¬ x ≤ y) : y.toInt < x.toInt := by
  first | (rw [Int32.lt_iff_toInt_lt] at h; omega) | (rw [Int32.le_iff_toInt_le] at h; omega)
theorem zq_eq_t {x y : Int32} (h : x = y) : x.toInt = y.toInt := by rw [h]
theorem zq_eq_f {x y : Int32} (h : ¬ x = y) : x.toInt ≠ y.toInt := fun q => h (Int32.toInt_inj.mp q)
theorem zq_ne_t {x y : Int32} (h : ¬ x = y) : x.toInt ≠ y.toInt := fun q => h (Int32.toInt_inj.mp q)
theorem zq_ne_f {x y : Int32} (h : x = y) : x.toInt = y.toInt := by rw [h]
/-- strings: class, place of the constant, length, text -/
def zSTR : List (String × Nat × Nat × String) := [(RX6, 62, 16, "SSH-2.0-client_1"), (RX6, 64, 16, "SSH-2.0-server_1"), (RX7, 100, 46, "curve25519-sha256,curve25519-sha256@libssh.org"), (RX7, 105, 11, "ssh-ed25519"), (RX7, 107, 4, "none"), (RX7, 115, 10, "aes128-ctr"), (RX7, 117, 10, "aes256-ctr"), (RX7, 119, 21, "aes128-ctr,aes256-ctr"), (RX7, 121, 21, "aes256-ctr,aes128-ctr"), (RX7, 123, 13, "hmac-sha2-256"), (RX7, 125, 29, "hmac-sha2-256-etm@openssh.com"), (RX7, 127, 43, "hmac-sha2-256,hmac-sha2-256-etm@openssh.com"), (RX7, 129, 43, "hmac-sha2-256-etm@openssh.com,hmac-sha2-256"), (RX12, 53, 16, "the tape is full"), (RX12, 63, 30, "the tape has not so many bytes"), (RX12, 71, 14, "no such secret"), (RX12, 74, 21, "a secret has 32 bytes"), (RX12, 102, 24, "no such name or password"), (RX12, 108, 24, "an account has that name"), (RX12, 113, 16, "no more accounts"), (RX12, 122, 15, "no such account"), (RX12, 124, 18, "a key has 32 bytes"), (RX12, 133, 22, "no such end or setting"), (RX12, 139, 13, "no such value"), (RX12, 161, 12, "no such port"), (RX12, 171, 26, "the server has no host key"), (RX12, 177, 11, "no such end"), (RX12, 179, 19, "fewer than one byte"), (RX12, 206, 13, "no such place"), (RX12, 216, 16, "the wire is full"), (RX12, 222, 20, "no such kind or host"), (RX12, 234, 24, "no channel can be opened"), (RX12, 244, 15, "no such channel"), (RX12, 246, 23, "the command is too long"), (RX12, 254, 28, "the channel takes no command"), (RX12, 263, 29, "no such channel or connection"), (RX12, 268, 22, "no more can be written"), (RX12, 272, 12, "no such kind"), (RX12, 277, 16, "not 1 .. 7 bytes"), (RX12, 290, 21, "no such way to finish"), (RX12, 292, 18, "it was done before"), (RX12, 304, 21, "no exchange can begin"), (RX12, 309, 19, "the end is not open"), (RX12, 314, 23, "nothing is told of that"), (RX12, 326, 25, "there was no such channel"), (RX21, 423, 16, "SSH-2.0-client_1"), (RX21, 425, 16, "SSH-2.0-server_1"), (RX21, 713, 7, "session"), (RX21, 714, 12, "direct-tcpip"), (RX21, 952, 7, "0.0.0.0"), (RX21, 852, 4, "exec")]
def zSt (E : zEn) : Prop := ∀ (own : String) (idx n : Nat) (tx : String), (own, idx, n, tx) ∈ zSTR → ∃ (a v : Nat), (own, idx, tx, a) ∈ E.2.2.1 ∧ (a, v, n) ∈ E.2.2.2
theorem zstr_RX6_62 : (RX6, 62, 16, "SSH-2.0-client_1") ∈ zSTR := List.mem_of_getElem? (i := 0) rfl
theorem zstr_RX6_64 : (RX6, 64, 16, "SSH-2.0-server_1") ∈ zSTR := List.mem_of_getElem? (i := 1) rfl
theorem zstr_RX7_100 : (RX7, 100, 46, "curve25519-sha256,curve25519-sha256@libssh.org") ∈ zSTR := List.mem_of_getElem? (i := 2) rfl
theorem zstr_RX7_105 : (RX7, 105, 11, "ssh-ed25519") ∈ zSTR := List.mem_of_getElem? (i := 3) rfl
theorem zstr_RX7_107 : (RX7, 107, 4, "none") ∈ zSTR := List.mem_of_getElem? (i := 4) rfl
theorem zstr_RX7_115 : (RX7, 115, 10, "aes128-ctr") ∈ zSTR := List.mem_of_getElem? (i := 5) rfl
theorem zstr_RX7_117 : (RX7, 117, 10, "aes256-ctr") ∈ zSTR := List.mem_of_getElem? (i := 6) rfl
theorem zstr_RX7_119 : (RX7, 119, 21, "aes128-ctr,aes256-ctr") ∈ zSTR := List.mem_of_getElem? (i := 7) rfl
theorem zstr_RX7_121 : (RX7, 121, 21, "aes256-ctr,aes128-ctr") ∈ zSTR := List.mem_of_getElem? (i := 8) rfl
theorem zstr_RX7_123 : (RX7, 123, 13, "hmac-sha2-256") ∈ zSTR := List.mem_of_getElem? (i := 9) rfl
theorem zstr_RX7_125 : (RX7, 125, 29, "hmac-sha2-256-etm@openssh.com") ∈ zSTR := List.mem_of_getElem? (i := 10) rfl
theorem zstr_RX7_127 : (RX7, 127, 43, "hmac-sha2-256,hmac-sha2-256-etm@openssh.com") ∈ zSTR := List.mem_of_getElem? (i := 11) rfl
theorem zstr_RX7_129 : (RX7, 129, 43, "hmac-sha2-256-etm@openssh.com,hmac-sha2-256") ∈ zSTR := List.mem_of_getElem? (i := 12) rfl
theorem zstr_RX12_53 : (RX12, 53, 16, "the tape is full") ∈ zSTR := List.mem_of_getElem? (i := 13) rfl
theorem zstr_RX12_63 : (RX12, 63, 30, "the tape has not so many bytes") ∈ zSTR := List.mem_of_getElem? (i := 14) rfl
theorem zstr_RX12_71 : (RX12, 71, 14, "no such secret") ∈ zSTR := List.mem_of_getElem? (i := 15) rfl
theorem zstr_RX12_74 : (RX12, 74, 21, "a secret has 32 bytes") ∈ zSTR := List.mem_of_getElem? (i := 16) rfl
theorem zstr_RX12_102 : (RX12, 102, 24, "no such name or password") ∈ zSTR := List.mem_of_getElem? (i := 17) rfl
theorem zstr_RX12_108 : (RX12, 108, 24, "an account has that name") ∈ zSTR := List.mem_of_getElem? (i := 18) rfl
theorem zstr_RX12_113 : (RX12, 113, 16, "no more accounts") ∈ zSTR := List.mem_of_getElem? (i := 19) rfl
theorem zstr_RX12_122 : (RX12, 122, 15, "no such account") ∈ zSTR := List.mem_of_getElem? (i := 20) rfl
theorem zstr_RX12_124 : (RX12, 124, 18, "a key has 32 bytes") ∈ zSTR := List.mem_of_getElem? (i := 21) rfl
theorem zstr_RX12_133 : (RX12, 133, 22, "no such end or setting") ∈ zSTR := List.mem_of_getElem? (i := 22) rfl
theorem zstr_RX12_139 : (RX12, 139, 13, "no such value") ∈ zSTR := List.mem_of_getElem? (i := 23) rfl
theorem zstr_RX12_161 : (RX12, 161, 12, "no such port") ∈ zSTR := List.mem_of_getElem? (i := 24) rfl
theorem zstr_RX12_171 : (RX12, 171, 26, "the server has no host key") ∈ zSTR := List.mem_of_getElem? (i := 25) rfl
theorem zstr_RX12_177 : (RX12, 177, 11, "no such end") ∈ zSTR := List.mem_of_getElem? (i := 26) rfl
theorem zstr_RX12_179 : (RX12, 179, 19, "fewer than one byte") ∈ zSTR := List.mem_of_getElem? (i := 27) rfl
theorem zstr_RX12_206 : (RX12, 206, 13, "no such place") ∈ zSTR := List.mem_of_getElem? (i := 28) rfl
theorem zstr_RX12_216 : (RX12, 216, 16, "the wire is full") ∈ zSTR := List.mem_of_getElem? (i := 29) rfl
theorem zstr_RX12_222 : (RX12, 222, 20, "no such kind or host") ∈ zSTR := List.mem_of_getElem? (i := 30) rfl
theorem zstr_RX12_234 : (RX12, 234, 24, "no channel can be opened") ∈ zSTR := List.mem_of_getElem? (i := 31) rfl
theorem zstr_RX12_244 : (RX12, 244, 15, "no such channel") ∈ zSTR := List.mem_of_getElem? (i := 32) rfl
theorem zstr_RX12_246 : (RX12, 246, 23, "the command is too long") ∈ zSTR := List.mem_of_getElem? (i := 33) rfl
theorem zstr_RX12_254 : (RX12, 254, 28, "the channel takes no command") ∈ zSTR := List.mem_of_getElem? (i := 34) rfl
theorem zstr_RX12_263 : (RX12, 263, 29, "no such channel or connection") ∈ zSTR := List.mem_of_getElem? (i := 35) rfl
theorem zstr_RX12_268 : (RX12, 268, 22, "no more can be written") ∈ zSTR := List.mem_of_getElem? (i := 36) rfl
theorem zstr_RX12_272 : (RX12, 272, 12, "no such kind") ∈ zSTR := List.mem_of_getElem? (i := 37) rfl
theorem zstr_RX12_277 : (RX12, 277, 16, "not 1 .. 7 bytes") ∈ zSTR := List.mem_of_getElem? (i := 38) rfl
theorem zstr_RX12_290 : (RX12, 290, 21, "no such way to finish") ∈ zSTR := List.mem_of_getElem? (i := 39) rfl
theorem zstr_RX12_292 : (RX12, 292, 18, "it was done before") ∈ zSTR := List.mem_of_getElem? (i := 40) rfl
theorem zstr_RX12_304 : (RX12, 304, 21, "no exchange can begin") ∈ zSTR := List.mem_of_getElem? (i := 41) rfl
theorem zstr_RX12_309 : (RX12, 309, 19, "the end is not open") ∈ zSTR := List.mem_of_getElem? (i := 42) rfl
theorem zstr_RX12_314 : (RX12, 314, 23, "nothing is told of that") ∈ zSTR := List.mem_of_getElem? (i := 43) rfl
theorem zstr_RX12_326 : (RX12, 326, 25, "there was no such channel") ∈ zSTR := List.mem_of_getElem? (i := 44) rfl
theorem zstr_RX21_423 : (RX21, 423, 16, "SSH-2.0-client_1") ∈ zSTR := List.mem_of_getElem? (i := 45) rfl
theorem zstr_RX21_425 : (RX21, 425, 16, "SSH-2.0-server_1") ∈ zSTR := List.mem_of_getElem? (i := 46) rfl
theorem zstr_RX21_713 : (RX21, 713, 7, "session") ∈ zSTR := List.mem_of_getElem? (i := 47) rfl
theorem zstr_RX21_714 : (RX21, 714, 12, "direct-tcpip") ∈ zSTR := List.mem_of_getElem? (i := 48) rfl
theorem zstr_RX21_952 : (RX21, 952, 7, "0.0.0.0") ∈ zSTR := List.mem_of_getElem? (i := 49) rfl
theorem zstr_RX21_852 : (RX21, 852, 4, "exec") ∈ zSTR := List.mem_of_getElem? (i := 50) rfl
/-- statics -/
def zSA (E : zEn) : Prop := ("java/lang/String", "COMPACT_STRINGS", "Z", Value.int 1) ∈ E.1
  ∧ (("jdk/internal/util/Preconditions", "SIOOBE_FORMATTER", "Ljava/util/function/BiFunction;", Value.null) ∈ E.1 ∨ ∃ t : Nat, ("jdk/internal/util/Preconditions", "SIOOBE_FORMATTER", "Ljava/util/function/BiFunction;", Value.ref t) ∈ E.1)
  ∧ (∃ t : Nat, ("ShellPairModel", "NOTHING", "[B", Value.ref t) ∈ E.1)
  ∧ (∃ (t : Nat) (f : Nat → Int32), ("ShellPair$Aes", "BOX", "[I", Value.ref t) ∈ E.1 ∧ (FieldType.int, t, 256, fun j => Value.int (f j)) ∈ E.2.1)
  ∧ (∃ (t : Nat) (f : Nat → Int64), ("ShellPair$Curve", "BASE_X", "[J", Value.ref t) ∈ E.1 ∧ (FieldType.long, t, 10, fun j => Value.long (f j)) ∈ E.2.1)
  ∧ (∃ (t : Nat) (f : Nat → Int64), ("ShellPair$Curve", "BASE_Y", "[J", Value.ref t) ∈ E.1 ∧ (FieldType.long, t, 10, fun j => Value.long (f j)) ∈ E.2.1)
theorem zSA_COMPACT_STRINGS {E : zEn} (h : zSA E) : ("java/lang/String", "COMPACT_STRINGS", "Z", Value.int 1) ∈ E.1 := h.1
theorem zSA_SIOOBE_FORMATTER {E : zEn} (h : zSA E) : ("jdk/internal/util/Preconditions", "SIOOBE_FORMATTER", "Ljava/util/function/BiFunction;", Value.null) ∈ E.1 ∨ ∃ t : Nat, ("jdk/internal/util/Preconditions", "SIOOBE_FORMATTER", "Ljava/util/function/BiFunction;", Value.ref t) ∈ E.1 := h.2.1
theorem zSA_NOTHING {E : zEn} (h : zSA E) : ∃ t : Nat, ("ShellPairModel", "NOTHING", "[B", Value.ref t) ∈ E.1 := h.2.2.1
theorem zSA_BOX {E : zEn} (h : zSA E) : ∃ (t : Nat) (f : Nat → Int32), ("ShellPair$Aes", "BOX", "[I", Value.ref t) ∈ E.1 ∧ (FieldType.int, t, 256, fun j => Value.int (f j)) ∈ E.2.1 := h.2.2.2.1
theorem zSA_BASE_X {E : zEn} (h : zSA E) : ∃ (t : Nat) (f : Nat → Int64), ("ShellPair$Curve", "BASE_X", "[J", Value.ref t) ∈ E.1 ∧ (FieldType.long, t, 10, fun j => Value.long (f j)) ∈ E.2.1 := h.2.2.2.2.1
theorem zSA_BASE_Y {E : zEn} (h : zSA E) : ∃ (t : Nat) (f : Nat → Int64), ("ShellPair$Curve", "BASE_Y", "[J", Value.ref t) ∈ E.1 ∧ (FieldType.long, t, 10, fun j => Value.long (f j)) ∈ E.2.1 := h.2.2.2.2.2
section ZD
variable {p : Program} {l : Launch} {e : Env} {R : Room} {s : State} {m : MethodId} {args : Array Value} {below : List Frame} {meth : Method} {c : Code} {H : Heap} {locs : List Loc} {cells slots : Nat} {Q : State → Prop}
variable {cc : ByteArray} {pc : Nat} {ls : Array Slot} {rest : List Value} {D : va_G} {cl : List vw_C} {A : Nat → Prop} {a : Nat} {tys : List (ClassId × FieldType)} {X Y : va_W} {L : List Nat} {T : Nat → va_E → Prop} {H0 : Heap} {E : zEn}
/-- the length of a pooled array -/
theorem z_alenP (hexec : p.tables.exec = Jvm.exec) (hb : c.code = cc) (hK : va_K D cl tys s) (hZ : zP D cl A X Y L T H) (t0 : Nat) {cA : ClassId} {n : Nat} {ty : FieldType} (ha : a ∈ L) (hT : T a = zI cA n) (ht : tys[t0]? = some (cA, ty)) (hdg : decode cc pc = .ok (.arraylength, 1))
    (kk : W p l e R s m args below meth c H locs cells slots Q (F0 m (pc + 1) ls (.int (nI n) :: rest))) : W p l e R s m args below meth c H locs cells slots Q (F0 m pc ls (.ref a :: rest)) := by
  obtain ⟨f, h1, h2, h3⟩ := hZ
  obtain ⟨g, hg⟩ : zI cA n (f a) := hT ▸ h1 a ha
  obtain ⟨k, hk⟩ := va_pl_get (X := X ++ Y) (f := f) ha
  rw [hg] at hk
  exact va_alen hexec hb hK h2 k t0 hk ht rfl hdg kk
theorem z_alenPJ (hexec : p.tables.exec = Jvm.exec) (hb : c.code = cc) (hK : va_K D cl tys s) (hZ : zP D cl A X Y L T H) (t0 : Nat) {cA : ClassId} {n : Nat} {ty : FieldType} (ha : a ∈ L) (hT : T a = zJ cA n) (ht : tys[t0]? = some (cA, ty)) (hdg : decode cc pc = .ok (.arraylength, 1))
    (kk : W p l e R s m args below meth c H locs cells slots Q (F0 m (pc + 1) ls (.int (nI n) :: rest))) : W p l e R s m args below meth c H locs cells slots Q (F0 m pc ls (.ref a :: rest)) := by
  obtain ⟨f, h1, h2, h3⟩ := hZ
  obtain ⟨g, hg⟩ : zJ cA n (f a) := hT ▸ h1 a ha
  obtain ⟨k, hk⟩ := va_pl_get (X := X ++ Y) (f := f) ha
  rw [hg] at hk
  exact va_alen hexec hb hK h2 k t0 hk ht rfl hdg kk
end ZD
theorem zn_char : ∀ j : Nat, j < 256 → narrow .char (.int (nI j)) = .int (nI j) := by decide +kernel
theorem zn_i2c : ∀ j : Nat, j < 256 → ((nI j).toUInt32 % 65536).toInt32 = nI j := by decide +kernel
theorem zP.pooled {D : va_G} {cl : List vw_C} {A : Nat → Prop} {X : va_W} {L : List Nat} {T : Nat → va_E → Prop} {H : Heap} (N : List (Nat × va_E × (va_E → Prop))) (Y : va_W) (h : zP D cl A X (Y ++ N.map (fun x => (x.1, x.2.1))) L T H) (hN : ∀ x ∈ N, x.2.2 x.2.1) : ∃ (L1 : List Nat) (T1 : Nat → va_E → Prop), zP D cl A X Y L1 T1 H ∧ zG L T L1 T1 ∧ ∀ x ∈ N, x.1 ∈ L1 ∧ T1 x.1 = x.2.2 := by
  obtain ⟨T1, h1, h2, h3⟩ := zP.pool N Y h hN
  exact ⟨_, T1, h1, h2, fun x hx => ⟨List.mem_append_left _ (List.mem_map.mpr ⟨x, hx, rfl⟩), h3 x hx⟩⟩
/-- the fresh channel, the fresh side: its state alone is told -/
def zCh : List Value → Prop := fun vs => vs[4]? = some (.int (-1))
def zSd : List Value → Prop := fun vs => vs[2]? = some (.int (-1)) ∧ vs[22]? = some (.int 0)
theorem zcst {s : State} {E : zEn} {A : Nat → Prop} {H : Heap} (hE : zE E A s H) {C : String} (h : C ∈ zXs) : va_Nw (.castable C C) s := hE.2.2.2.2.2.2.2.2.2.2.2.2.2.1 C h
theorem zdcx {s : State} {E : zEn} {A : Nat → Prop} {H : Heap} (hE : zE E A s H) {C : String} (h : C ∈ zDs) : va_Nw (.declares ⟨C, "<init>", "(Ljava/lang/String;)V"⟩) s := hE.2.2.2.2.2.2.2.2.2.2.2.2.2.2 C h
set_option maxRecDepth 100000 in
theorem zat_RX12_55 {args : Array Value} {s : State} {E : zEn} {A : Nat → Prop} {H : Heap} (hE : zE E A s H) (hts : ∀ w ∈ WR, w.before args s = true) : ∀ w ∈ vx_atS RX12 55 "java/lang/IllegalStateException" ["java/lang/RuntimeException", "java/lang/Exception"], w.before args s = true := vx_hat (B := [.castable "java/lang/IllegalStateException" "java/lang/IllegalStateException", .declares ⟨"java/lang/RuntimeException", "<init>", "(Ljava/lang/String;)V"⟩, .declares ⟨"java/lang/Exception", "<init>", "(Ljava/lang/String;)V"⟩, .declares ⟨"java/lang/Throwable", "<init>", "(Ljava/lang/String;)V"⟩]) (fun w h => hts w (zin_zat55 w h)) (by decide +kernel) (vx_c (va_Nw.use rfl (zcst hE (List.mem_of_getElem? (i := 0) rfl))) (vx_c (va_Nw.use rfl (zdcx hE (List.mem_of_getElem? (i := 0) rfl))) (vx_c (va_Nw.use rfl (zdcx hE (List.mem_of_getElem? (i := 1) rfl))) (vx_c (va_Nw.use rfl (zdcx hE (List.mem_of_getElem? (i := 2) rfl))) vx_n))))
set_option maxRecDepth 100000 in
theorem zat_RX12_65 {args : Array Value} {s : State} {E : zEn} {A : Nat → Prop} {H : Heap} (hE : zE E A s H) (hts : ∀ w ∈ WR, w.before args s = true) : ∀ w ∈ vx_atS RX12 65 "java/lang/IllegalArgumentException" ["java/lang/RuntimeException", "java/lang/Exception"], w.before args s = true := vx_hat (B := [.castable "java/lang/IllegalArgumentException" "java/lang/IllegalArgumentException", .declares ⟨"java/lang/RuntimeException", "<init>", "(Ljava/lang/String;)V"⟩, .declares ⟨"java/lang/Exception", "<init>", "(Ljava/lang/String;)V"⟩, .declares ⟨"java/lang/Throwable", "<init>", "(Ljava/lang/String;)V"⟩]) (fun w h => hts w (zin_zat65 w h)) (by decide +kernel) (vx_c (va_Nw.use rfl (zcst hE (List.mem_of_getElem? (i := 1) rfl))) (vx_c (va_Nw.use rfl (zdcx hE (List.mem_of_getElem? (i := 0) rfl))) (vx_c (va_Nw.use rfl (zdcx hE (List.mem_of_getElem? (i := 1) rfl))) (vx_c (va_Nw.use rfl (zdcx hE (List.mem_of_getElem? (i := 2) rfl))) vx_n))))
set_option maxRecDepth 100000 in
theorem zat_RX12_73 {args : Array Value} {s : State} {E : zEn} {A : Nat → Prop} {H : Heap} (hE : zE E A s H) (hts : ∀ w ∈ WR, w.before args s = true) : ∀ w ∈ vy_at RX12 73 "java/util/NoSuchElementException" 13 zNSE ["java/lang/RuntimeException", "java/lang/Exception"], w.before args s = true := vx_hat (B := [.castable "java/util/NoSuchElementException" "java/util/NoSuchElementException", .declares ⟨"java/lang/RuntimeException", "<init>", "(Ljava/lang/String;)V"⟩, .declares ⟨"java/lang/Exception", "<init>", "(Ljava/lang/String;)V"⟩, .declares ⟨"java/lang/Throwable", "<init>", "(Ljava/lang/String;)V"⟩]) (fun w h => hts w (zin_zat73 w h)) (by decide +kernel) (vx_c (va_Nw.use rfl (zcst hE (List.mem_of_getElem? (i := 2) rfl))) (vx_c (va_Nw.use rfl (zdcx hE (List.mem_of_getElem? (i := 0) rfl))) (vx_c (va_Nw.use rfl (zdcx hE (List.mem_of_getElem? (i := 1) rfl))) (vx_c (va_Nw.use rfl (zdcx hE (List.mem_of_getElem? (i := 2) rfl))) vx_n))))
set_option maxRecDepth 100000 in
theorem zat_RX12_208 {args : Array Value} {s : State} {E : zEn} {A : Nat → Prop} {H : Heap} (hE : zE E A s H) (hts : ∀ w ∈ WR, w.before args s = true) : ∀ w ∈ vx_atS RX12 208 "java/lang/IndexOutOfBoundsException" ["java/lang/RuntimeException", "java/lang/Exception"], w.before args s = true := vx_hat (B := [.castable "java/lang/IndexOutOfBoundsException" "java/lang/IndexOutOfBoundsException", .declares ⟨"java/lang/RuntimeException", "<init>", "(Ljava/lang/String;)V"⟩, .declares ⟨"java/lang/Exception", "<init>", "(Ljava/lang/String;)V"⟩, .declares ⟨"java/lang/Throwable", "<init>", "(Ljava/lang/String;)V"⟩]) (fun w h => hts w (zin_zat208 w h)) (by decide +kernel) (vx_c (va_Nw.use rfl (zcst hE (List.mem_of_getElem? (i := 3) rfl))) (vx_c (va_Nw.use rfl (zdcx hE (List.mem_of_getElem? (i := 0) rfl))) (vx_c (va_Nw.use rfl (zdcx hE (List.mem_of_getElem? (i := 1) rfl))) (vx_c (va_Nw.use rfl (zdcx hE (List.mem_of_getElem? (i := 2) rfl))) vx_n))))

section ZST
/-! THE CLAIM OUT OF ONE WALK OF THE LAW'S BODY. Your part is whole_start (and what it stands on); all else here is the same for every law, but numbers. -/
def R_law : String := "ShellPairLaw"
def lw_P (b : Addr) (xs : List Int32) (args : Array Value) (s : State) : Prop := args = #[.ref b] ∧ s.IntsAt b xs ∧ xs.length ≤ 6 ∧ (Jvm.Cond.and given_1 narrow_1).before args s = true
def lw_Q (_ : Array Value) (s : State) (o : Outcome) (t : State) : Prop := o = .returned (some (.int 1)) ∧ Framed s o t [] 600002 7302232
def lw_Z (below : List Frame) (a : Array Value) (s : State) : State → Prop := fun t => ∃ o, t.status = .running ∧ Ended t below o ∧ lw_Q a s o t
/-- the law's own end, with 1 on the stack, nothing written that was there before, its room as the claim has it -/
theorem lw_ret {p : Program} {l : Launch} {e : Env} {s : State} {m : MethodId} {below : List Frame} {meth : Method} {c : Code} {b : Nat} (hx : p.tables.exec = Jvm.exec) (hb : c.code = code) (hr : meth.sig.returnType = ret) (hlocks : meth.locks = false) {pc : Nat} {H : Heap} {ls : Array Slot} (hdg : decode code pc = .ok (.ireturn, 1)) : W p l e room_1 s m #[Value.ref b] below meth c H [] 600002 7302232 (lw_Z below #[Value.ref b] s) (F0 m pc ls [.int 1]) := by
  intro T hT X
  obtain ⟨fs, hret, hrun, hended, hW, hframe⟩ := X.leave (v := some (.int 1)) (hlocks := hlocks) (fun h => by rw [hr] at h; cases h)
  have hmeth' : T.vm.method? m = some meth := X.method'
  refine ⟨T.setFrames fs, ?_, .returned (some (.int 1)), hrun, hended, rfl, ⟨_, rfl⟩, hW, hframe⟩
  jvm_step X.here [X.here.top, hx, hb, hdg, hmeth', hr, ret, narrow_b1]
  (try refine ⟨rfl, ?_⟩); (try refine ⟨rfl, ?_⟩)
  first | (intro acts; rw [hret _ acts rfl rfl rfl]) | rw [hret _ _ rfl rfl rfl]
  exact Steps.refl _
/-- what holds at the law's entry: the machine, the code, the tables' words (any of lw_tbl by 'hts w (by decide +kernel)'), the script of L ints xs at the cell b, what the Statement gives of the start (any of its parts by flat_of_before) -/
def lw_At (p : Program) (s : State) (m : MethodId) (meth : Method) (c : Code) (b L : Nat) (xs : Nat → Int32) : Prop :=
  p.tables.exec = Jvm.exec ∧ c.code = code ∧ meth.sig.returnType = ret ∧ c.maxLocals = 8 ∧ s.vm.findClass R_law = some m.cls ∧ (∀ w ∈ lw_tbl, w.before #[Value.ref b] s = true) ∧ va_X b L xs s s.heap ∧ b < s.heap.size ∧ meth.locks = false ∧ (Jvm.Cond.and given_1 narrow_1).before #[Value.ref b] s = true
-- ===== YOUR PART BEGINS =====

theorem zstk {l : Launch} (h : l.flags = flags0) : l.stackTraces = false := by
  show (!l.flags.contains noTraceFlag) = false
  rw [h]
  decide +kernel
theorem zkc_of {s : State} {b : Nat} (hts : ∀ w ∈ lw_tbl, w.before #[Value.ref b] s = true) : ∃ D : va_G, ∀ (c : Nat) (q : vw_C), vwCl[c]? = some q → u_Kn s q.1 q.2.1 q.2.2 (D.1 c) (D.2 c) := by
  obtain ⟨c0, i0, k0⟩ := zkn_0 hts
  obtain ⟨c1, i1, k1⟩ := zkn_1 hts
  obtain ⟨c2, i2, k2⟩ := zkn_2 hts
  obtain ⟨c3, i3, k3⟩ := zkn_3 hts
  obtain ⟨c4, i4, k4⟩ := zkn_4 hts
  obtain ⟨c5, i5, k5⟩ := zkn_5 hts
  obtain ⟨c6, i6, k6⟩ := zkn_6 hts
  obtain ⟨c7, i7, k7⟩ := zkn_7 hts
  obtain ⟨c8, i8, k8⟩ := zkn_8 hts
  obtain ⟨c9, i9, k9⟩ := zkn_9 hts
  obtain ⟨c10, i10, k10⟩ := zkn_10 hts
  obtain ⟨c11, i11, k11⟩ := zkn_11 hts
  obtain ⟨c12, i12, k12⟩ := zkn_12 hts
  obtain ⟨c13, i13, k13⟩ := zkn_13 hts
  obtain ⟨c14, i14, k14⟩ := zkn_14 hts
  obtain ⟨c15, i15, k15⟩ := zkn_15 hts
  obtain ⟨c16, i16, k16⟩ := zkn_16 hts
  obtain ⟨c17, i17, k17⟩ := zkn_17 hts
  obtain ⟨c18, i18, k18⟩ := zkn_18 hts
  obtain ⟨c19, i19, k19⟩ := zkn_19 hts
  obtain ⟨c20, i20, k20⟩ := zkn_20 hts
  obtain ⟨c21, i21, k21⟩ := zkn_21 hts
  refine ⟨(fun k => match k with | 0 => c0 | 1 => c1 | 2 => c2 | 3 => c3 | 4 => c4 | 5 => c5 | 6 => c6 | 7 => c7 | 8 => c8 | 9 => c9 | 10 => c10 | 11 => c11 | 12 => c12 | 13 => c13 | 14 => c14 | 15 => c15 | 16 => c16 | 17 => c17 | 18 => c18 | 19 => c19 | 20 => c20 | 21 => c21 | _ => 0, fun k => match k with | 0 => i0 | 1 => i1 | 2 => i2 | 3 => i3 | 4 => i4 | 5 => i5 | 6 => i6 | 7 => i7 | 8 => i8 | 9 => i9 | 10 => i10 | 11 => i11 | 12 => i12 | 13 => i13 | 14 => i14 | 15 => i15 | 16 => i16 | 17 => i17 | 18 => i18 | 19 => i19 | 20 => i20 | 21 => i21 | _ => fun _ => 0), fun c q hq => ?_⟩
  match c, hq with
    | 0, hq => cases hq; exact k0
    | 1, hq => cases hq; exact k1
    | 2, hq => cases hq; exact k2
    | 3, hq => cases hq; exact k3
    | 4, hq => cases hq; exact k4
    | 5, hq => cases hq; exact k5
    | 6, hq => cases hq; exact k6
    | 7, hq => cases hq; exact k7
    | 8, hq => cases hq; exact k8
    | 9, hq => cases hq; exact k9
    | 10, hq => cases hq; exact k10
    | 11, hq => cases hq; exact k11
    | 12, hq => cases hq; exact k12
    | 13, hq => cases hq; exact k13
    | 14, hq => cases hq; exact k14
    | 15, hq => cases hq; exact k15
    | 16, hq => cases hq; exact k16
    | 17, hq => cases hq; exact k17
    | 18, hq => cases hq; exact k18
    | 19, hq => cases hq; exact k19
    | 20, hq => cases hq; exact k20
    | 21, hq => cases hq; exact k21
    | c + 22, hq => exact absurd hq (by simp [vwCl])
theorem zkp_of {args : Array Value} {s : State} (ty : FieldType) (h : (Cond.arrayClass ty).before args s = true) : ∃ cA : ClassId, ArrOfT s cA ty ∧ s.vm.findClass ("[" ++ ty.toString) = some cA := by
  obtain ⟨c, k, comp, h1, h2, h3⟩ := Cond.arrayClass_spec h
  exact ⟨c, fun n z => ⟨(fun k h => by cases h), k, h2, comp, h3⟩, h1⟩
theorem zko_of {s : State} (C : String) (h : va_AO C s) : ∃ cA : ClassId, ArrOfT s cA (.object C) ∧ va_RA s cA (.object C) := by
  obtain ⟨comp, c, k, h1, -, h2, h3, h4⟩ := Cond.arrayOver_spec (args := #[]) h
  exact ⟨c, fun n z => ⟨(fun k h => by cases h), k, h2, comp, h3⟩, k, comp, h2, h3, h1, h4⟩
theorem zkr_of {s : State} (ty : FieldType) (h : va_AOA ty s) : ∃ cA : ClassId, ArrOfT s cA (.array ty) ∧ s.vm.findClass ("[" ++ (FieldType.array ty).toString) = some cA := by
  obtain ⟨comp, c, k, -, -, h2, h3, h4⟩ := zAOA_spec h
  exact ⟨c, fun n z => ⟨(fun k h => by cases h), k, h2, comp, h3⟩, h4⟩
theorem zK_of {s : State} {b : Nat} (hts : ∀ w ∈ lw_tbl, w.before #[Value.ref b] s = true) (hvm : zVM s) : ∃ K : Nat → ClassId, ∀ (k : Nat) (q : ClassId × FieldType), (zT K)[k]? = some q → ArrOfT s q.1 q.2 ∧ va_RA s q.1 q.2 := by
  obtain ⟨c0, a0, b0⟩ := zkp_of .int (zt_of hts [.arrayClass .int] [(1, 126)] (by decide +kernel) _ List.mem_cons_self)
  obtain ⟨c1, a1, b1⟩ := zkp_of .long (zt_of hts [.arrayClass .long] [(1, 127)] (by decide +kernel) _ List.mem_cons_self)
  obtain ⟨c2, a2, b2⟩ := zkp_of .byte (zt_of hts [.arrayClass .byte] [(1, 105)] (by decide +kernel) _ List.mem_cons_self)
  obtain ⟨c3, a3, b3⟩ := zkp_of .boolean (zt_of hts [.arrayClass .boolean] [(13, 19)] (by decide +kernel) _ List.mem_cons_self)
  obtain ⟨c4, a4, b4⟩ := zko_of "ShellPair$Bytes" (hvm.1 _ (List.mem_of_getElem? (i := 0) rfl))
  obtain ⟨c5, a5, b5⟩ := zko_of "ShellPair$Channel" (hvm.1 _ (List.mem_of_getElem? (i := 1) rfl))
  obtain ⟨c6, a6, b6⟩ := zko_of "ShellPairModel$End" (hvm.1 _ (List.mem_of_getElem? (i := 2) rfl))
  obtain ⟨c7, a7, b7⟩ := zko_of "ShellPairModel$Row" (hvm.1 _ (List.mem_of_getElem? (i := 3) rfl))
  obtain ⟨c8, a8, b8⟩ := zko_of "ShellPairModel$Side" (hvm.1 _ (List.mem_of_getElem? (i := 4) rfl))
  obtain ⟨c9, a9, b9⟩ := zkr_of .byte hvm.2.1
  obtain ⟨c10, a10, b10⟩ := zkr_of .long hvm.2.2.1
  refine ⟨(fun k => match k with | 0 => c0 | 1 => c1 | 2 => c2 | 3 => c3 | 4 => c4 | 5 => c5 | 6 => c6 | 7 => c7 | 8 => c8 | 9 => c9 | 10 => c10 | _ => 0), fun k q hq => ?_⟩
  match k, hq with
  | 0, hq => cases hq; exact ⟨a0, b0⟩
  | 1, hq => cases hq; exact ⟨a1, b1⟩
  | 2, hq => cases hq; exact ⟨a2, b2⟩
  | 3, hq => cases hq; exact ⟨a3, b3⟩
  | 4, hq => cases hq; exact ⟨a4, b4⟩
  | 5, hq => cases hq; exact ⟨a5, b5⟩
  | 6, hq => cases hq; exact ⟨a6, b6⟩
  | 7, hq => cases hq; exact ⟨a7, b7⟩
  | 8, hq => cases hq; exact ⟨a8, b8⟩
  | 9, hq => cases hq; exact ⟨a9, b9⟩
  | 10, hq => cases hq; exact ⟨a10, b10⟩
  | k + 11, hq => exact absurd hq (by simp [zT])
theorem zE_of {s : State} {b L : Nat} {xs : Nat → Int32} {A : Nat → Prop} (hts : ∀ w ∈ lw_tbl, w.before #[Value.ref b] s = true) (hg : (Jvm.Cond.and given_1 narrow_1).before #[Value.ref b] s = true) (hA : ∀ a : Nat, a < s.heap.size → ¬ A a) (hX : va_X b L xs s s.heap) : ∃ E : zEn, zE E A s s.heap ∧ zSt E ∧ zSA E ∧ (FieldType.int, b, L, fun j => Value.int (xs j)) ∈ E.2.1 := by
  have hq := zsq_all hts hg hA
  have hch : ∀ x : String × Nat × Nat × String, ∃ av : Nat × Nat, x ∈ zSTR → vk_R x.1 x.2.1 x.2.2.2 av.1 s ∧ zStr av.1 av.2 x.2.2.1 A s s.heap := by
    intro x
    by_cases h : x ∈ zSTR
    · obtain ⟨a, v, h1⟩ := hq x h
      exact ⟨(a, v), fun _ => h1⟩
    · exact ⟨(0, 0), fun h9 => absurd h9 h⟩
  obtain ⟨ad, had⟩ := Classical.axiomOfChoice hch
  obtain ⟨tN, zN, -⟩ := zar_NOTHING hts hg hA
  obtain ⟨tB, zB1, aB⟩ := zar_BOX hts hg hA
  obtain ⟨tX, zX1, aX⟩ := zar_BASE_X hts hg hA
  obtain ⟨tY, zY1, aY⟩ := zar_BASE_Y hts hg hA
  have zC := zar_COMPACT_STRINGS hts hg hA
  have hS9 : ∃ v : Value, (v = .null ∨ ∃ t : Nat, v = .ref t) ∧ va_Z "jdk/internal/util/Preconditions" "SIOOBE_FORMATTER" "Ljava/util/function/BiFunction;" v A s s.heap := by
    rcases zar_SIOOBE_FORMATTER hts hg hA with h | ⟨t, h⟩
    · exact ⟨.null, Or.inl rfl, h⟩
    · exact ⟨.ref t, Or.inr ⟨t, rfl⟩, h⟩
  obtain ⟨v9, hv9, z9⟩ := hS9
  have aS : va_T .int b L (fun j => .int (xs j)) A s s.heap := by
    obtain ⟨scr, h1, h2, h3, h4, h5⟩ := hX
    exact ⟨scr, h1, h2, h3, Nat.le_of_eq h4.symm, by rw [h4] <;> rfl, h5, hA b (Array.getElem?_eq_some_iff.mp h1).1⟩
  refine ⟨([("java/lang/String", "COMPACT_STRINGS", "Z", .int 1), ("jdk/internal/util/Preconditions", "SIOOBE_FORMATTER", "Ljava/util/function/BiFunction;", v9), ("ShellPairModel", "NOTHING", "[B", .ref tN), ("ShellPair$Aes", "BOX", "[I", .ref tB), ("ShellPair$Curve", "BASE_X", "[J", .ref tX), ("ShellPair$Curve", "BASE_Y", "[J", .ref tY)],
    [(.int, tB, 256, fun j => .int (zv_BOX.getD j 0)), (.long, tX, 10, fun j => .long (zv_BASE_X.getD j 0)), (.long, tY, 10, fun j => .long (zv_BASE_Y.getD j 0)), (.int, b, L, fun j => .int (xs j))],
    zSTR.map (fun x => (x.1, x.2.1, x.2.2.2, (ad x).1)), zSTR.map (fun x => ((ad x).1, (ad x).2, x.2.2.1))), ⟨?_, ?_, ?_, ?_, zar_UNASSIGNED_STACK hts hg hA, zar_SUPPRESSED_SENTINEL hts hg hA, zvm_of hts hg⟩, ?_, ?_, (List.mem_of_getElem? (i := 3) rfl)⟩
  · exact List.forall_mem_cons.mpr ⟨zC, List.forall_mem_cons.mpr ⟨z9, List.forall_mem_cons.mpr ⟨zN, List.forall_mem_cons.mpr ⟨zB1, List.forall_mem_cons.mpr ⟨zX1, List.forall_mem_cons.mpr ⟨zY1, fun _ h => absurd h List.not_mem_nil⟩⟩⟩⟩⟩⟩
  · exact List.forall_mem_cons.mpr ⟨aB, List.forall_mem_cons.mpr ⟨aX, List.forall_mem_cons.mpr ⟨aY, List.forall_mem_cons.mpr ⟨aS, fun _ h => absurd h List.not_mem_nil⟩⟩⟩⟩
  · intro r hr
    obtain ⟨x, hx, rfl⟩ := List.mem_map.mp hr
    exact (had x hx).1
  · intro r hr
    obtain ⟨x, hx, rfl⟩ := List.mem_map.mp hr
    exact (had x hx).2
  · intro own idx n tx h
    exact ⟨(ad (own, idx, n, tx)).1, (ad (own, idx, n, tx)).2, List.mem_map.mpr ⟨_, h, rfl⟩, List.mem_map.mpr ⟨_, h, rfl⟩⟩
  · refine ⟨(List.mem_of_getElem? (i := 0) rfl), ?_, ⟨tN, (List.mem_of_getElem? (i := 2) rfl)⟩, ⟨tB, fun j => zv_BOX.getD j 0, (List.mem_of_getElem? (i := 3) rfl), (List.mem_of_getElem? (i := 0) rfl)⟩, ⟨tX, fun j => zv_BASE_X.getD j 0, (List.mem_of_getElem? (i := 4) rfl), (List.mem_of_getElem? (i := 1) rfl)⟩, ⟨tY, fun j => zv_BASE_Y.getD j 0, (List.mem_of_getElem? (i := 5) rfl), (List.mem_of_getElem? (i := 2) rfl)⟩⟩
    rcases hv9 with rfl | ⟨t9, rfl⟩
    · exact Or.inl (List.mem_of_getElem? (i := 1) rfl)
    · exact Or.inr ⟨t9, (List.mem_of_getElem? (i := 1) rfl)⟩
/-- YOUR PART: from the entry, for every script of at most 6 ints, the law comes to its end with true ('hflags': the launch's flags, for a law that throws: no stack traces) -/
theorem whole_start {p : Program} {e : Env} {s : State} {m : MethodId} {below : List Frame} {meth : Method} {c : Code} (l : Launch) (hflags : l.flags = flags0) {b L : Nat} {xs : Nat → Int32} (hL : L ≤ 6) (C0 : lw_At p s m meth c b L xs) : W p l e room_1 s m #[Value.ref b] below meth c s.heap [] 0 0 (lw_Z below #[Value.ref b] s) (entryFrame m ([Value.ref b] : List Value).toArray 8) := by
  obtain ⟨hx, hb, hr, hml, hown, hts, hX, hbl, hlocks, hgv⟩ := id C0
  have hA0 : ∀ a : Nat, a < s.heap.size → ¬ (fun q : Nat => s.heap.size ≤ q) a := fun a h => Nat.not_le.mpr h
  obtain ⟨D, hD⟩ := zkc_of hts
  obtain ⟨K, hK2⟩ := zK_of hts (zvm_of hts hgv)
  have hK : va_K D vwCl (zT K) s := ⟨hD, hK2⟩
  obtain ⟨E, hE, hSt, hSA, hsc⟩ := zE_of hts hgv hA0 hX
  have hS : va_S (fun q : Nat => s.heap.size ≤ q) s.heap s.heap [] := va_S.rf
  have hZ : zP D vwCl (fun q : Nat => s.heap.size ≤ q) [] [] [] (fun _ _ => True) s.heap := ⟨fun _ => .inr (0, []), fun a h => absurd h List.not_mem_nil, fun k q h => by simp [va_pl] at h, ⟨fun i j p q h => by simp [va_pl] at h, fun k q h => by simp [va_pl] at h⟩⟩
  have hl := lv_entry ([.ref b]) (n := 8) (Nat.le_of_ble_eq_true rfl)
  rw [lg_entry_eq]
  generalize (lg_sl ([.ref b]) ++ List.replicate (8 - (lg_sl ([.ref b])).length) Slot.unset).toArray = ls at hl ⊢
  have hl : lv_has ls 8 [(0, .ref b)] := hl
  have hend : ∀ (pc : Nat) (ls : Array Slot) (H : Heap) (locs : List Loc) (k n : Nat), k ≤ 3000 → n ≤ 2000000 → va_S (fun q : Nat => s.heap.size ≤ q) s.heap H locs → decode cL_law pc = .ok (.ireturn, 1) → W p l e room_1 s m [Value.ref b].toArray below meth c H locs k n (lw_Z below #[Value.ref b] s) (F0 m pc ls [.int (nI 1)]) := by
    intro pc ls H locs k n hk hn hS hdg
    refine W.widen (k := 600002) (n := 7302232) (by omega) (by omega) ?_
    refine va_forget (fun q hq => hS.2.2 q hq) ?_
    exact lw_ret hx hb hr hlocks hdg
  have hWR : ∀ w ∈ WR, w.before [Value.ref b].toArray s = true := fun w h => hts w (zWR_in w h)
  rcases (show L = 0 ∨ L = 1 ∨ L = 2 ∨ L = 3 ∨ L = 4 ∨ L = 5 ∨ L = 6 by omega) with rfl | rfl | rfl | rfl | rfl | rfl | rfl
  · exact z_law_n0 E l (zstk hflags) D K hsc hSt hSA hx hb hml hown hWR (fun _ h => h) hK hZ hS hE hl hend
  · exact z_law_n1 E l (zstk hflags) D K hsc hSt hSA hx hb hml hown hWR (fun _ h => h) hK hZ hS hE hl hend
  · exact z_law_n2 E l (zstk hflags) D K hsc hSt hSA hx hb hml hown hWR (fun _ h => h) hK hZ hS hE hl hend
  · exact z_law_n3 E l (zstk hflags) D K hsc hSt hSA hx hb hml hown hWR (fun _ h => h) hK hZ hS hE hl hend
  · exact z_law_n4 E l (zstk hflags) D K hsc hSt hSA hx hb hml hown hWR (fun _ h => h) hK hZ hS hE hl hend
  · exact z_law_n5 E l (zstk hflags) D K hsc hSt hSA hx hb hml hown hWR (fun _ h => h) hK hZ hS hE hl hend
  · exact z_law_n6 E l (zstk hflags) D K hsc hSt hSA hx hb hml hown hWR (fun _ h => h) hK hZ hS hE hl hend
-- ===== YOUR PART ENDS =====
set_option maxHeartbeats 4000000 in
theorem lw_walk (l : Launch) (hflags : l.flags = flags0) (b : Addr) (xs : List Int32) : MetFree l x (headSpec (Jvm.Cond.code x code maxLocals ret :: tables_1) room_1) (lw_P b xs) (fun _ _ _ _ _ => True) lw_Q := by
  refine MetFree.of_bodyS (code := code) (maxLocals := maxLocals) (ret := ret) (by decide) ?_ ?_
  · intro args s m h hn
    obtain ⟨meth, c, h1, h2, h3, h4, h5, h6, -, -⟩ := Cond.code_spec hn (atoms_spec (ws := Jvm.Cond.code x code maxLocals ret :: tables_1) h _ List.mem_cons_self)
    exact ⟨meth, c, h1, h2, h3, h4, h5, h6⟩
  · intro p e s m args below meth c s₁ B hml0 hP _
    obtain ⟨rfl, hx, hbd, hgv⟩ := hP
    obtain ⟨scr, harrAt, hlist, hof, hsmall⟩ := hx
    obtain ⟨hcb, hkn, -, -⟩ := State.arrayAt?_spec harrAt
    have hown : s.vm.findClass R_law = some m.cls := findClass_of_methodNamed B.named
    have hts0 : ∀ c ∈ (Jvm.Cond.code x code maxLocals ret :: tables_1), c.before #[Value.ref b] s = true := atoms_spec (ws := Jvm.Cond.code x code maxLocals ret :: tables_1) B.pre
    have hts : ∀ w ∈ lw_tbl, w.before #[Value.ref b] s = true := k2_hts_sels lw_privs (fun w hw => hts0 w (List.mem_cons_of_mem _ hw)) lw_privs_ok
    have hml : c.maxLocals = 8 := B.maxLocals_eq (hts0 _ List.mem_cons_self)
    have X₀ : Stand p l e room_1 s m #[Value.ref b] below meth c s₁ [] 0 0 := Stand.of_body B
    have hh0 : s₁.heap = s.heap := by rw [B.state]; rfl
    have hsz : scr.slots.size = xs.length := by rw [← Array.length_toList, hlist, List.length_map]
    have hval : ∀ j : Nat, j < xs.length → scr.slots[j]? = some (.int (xs.getD j 0)) := fun j hj => by
      rw [← Array.getElem?_toList, hlist]
      simp [hj]
    have hbl : b < s.heap.size := (Array.getElem?_eq_some_iff.mp hcb).1
    have hX : va_X b xs.length (fun j => xs.getD j 0) s s.heap := ⟨scr, hcb, hof, hkn, hsz, hval⟩
    have K : W p l e room_1 s m #[Value.ref b] below meth c s₁.heap [] 0 0 (lw_Z below #[Value.ref b] s) (entryFrame m ([Value.ref b] : List Value).toArray 8) := by
      rw [hh0]
      exact whole_start l hflags hbd ⟨B.exec, B.bytes, B.returns, hml, hown, hts, hX, hbl, B.notSynchronized, hgv⟩
    obtain ⟨t, a1, o, b1, b2, b3⟩ := K s₁ rfl X₀
    exact ⟨t, o, a1, b1, b2, b3⟩
theorem lw_pre_spec {args : Array Value} {s : State} (h : (Jvm.Cond.and given_1 narrow_1).before args s = true) (hr : rest_1_c.before args s = true) : ∃ (b : Addr) (xs : List Int32), lw_P b xs args s := by
  have hs := flat_of_before _ h
  have hq := flat_of_before _ hr
  have hc : (Cond.count 1).before args s = true := hs _ (by decide +kernel)
  have harr : (Cond.arrayOf (.arg 0) .int).before args s = true := hs _ (by decide +kernel)
  have hle : (Cond.le (.length (.arg 0)) (.int 6)).before args s = true := hs _ (by decide +kernel)
  have hlen : (Cond.isInt (.length (.arg 0))).before args s = true := hq _ (by decide +kernel)
  have hall : (Cond.all (.arg 0) (.isInt (.elem (.arg 0) (.index 0)))).before args s = true := hq _ (by decide +kernel)
  obtain ⟨b, xs, hb, hx⟩ := State.ints_of_pre rfl harr hlen hall
  have hsm : xs.length < 2 ^ 31 := hx.choose_spec.2.2.2
  have hev : (Term.length (.arg 0)).eval args s none [] s = some (.int xs.length.toInt32) := hx.length_eval hb
  have hv := Cond.le_ints hev (show (Term.int 6).eval args s none [] s = some (.int 6) from rfl)
  have hd : xs.length.toInt32 ≤ 6 := by
    simpa [Cond.before, Cond.holds, hv] using hle
  have hN : xs.length ≤ 6 := (Int32.ofNat_le_ofNat hsm (by decide)).mp (show Int32.ofNat xs.length ≤ Int32.ofNat 6 from hd)
  exact ⟨b, xs, Cond.one_arg hc (show args[0]? = some (.ref b) from hb), hx, hN, h⟩
theorem lw_comes (l : Launch) (hflags : l.flags = flags0) : Comes l x (Jvm.Cond.code x code maxLocals ret :: tables_1) room_1 (fun tb e args s => Calls_1 tb e args s ∧ rest_1 tb e args s ∧ Pre_1 tb e args s)
    (fun _ _ args s o t => lw_Q args s o t) := by
  intro p e ha hc hk s m args below hf hfit hheap happ hpre
  obtain ⟨b, xs, hP⟩ := lw_pre_spec hpre.2.2 hpre.2.1
  obtain ⟨k, o, h1, h2, h3, hQ⟩ := lw_walk l hflags b xs p e ha hc hk s m args below hf ((Spec.applies_iff_loose hf).mp happ).1 hP trivial
  exact ⟨k, o, h1, h2, h3, hQ⟩
theorem lw_frame {s t : State} {o : Outcome} {args : Array Value} (h : Framed s o t [] 600002 7302232) :
    Framed s o t (fieldLocs frame_1_writes args s ++ arrayLocs frame_1_arrays args s ++ staticLocs frame_1_statics s) 600002 7302232 := h
theorem lw_limb (L : Cond) (hL : ∀ (args : Array Value) (s t : State), L.after args s (.returned (some (.int 1))) t = true) :
    ArmFor flags0 classFile x code maxLocals ret World_1 tables_1 room_1 Calls_1 rest_1 Pre_1
      (fun tb e a s o t => postC L tb e a s o t ∧ Framed s o t (fieldLocs frame_1_writes a s ++ arrayLocs frame_1_arrays a s ++ staticLocs frame_1_statics s) 600002 7302232) := by
  intro l hflags _ _ p e ha hc hk s m args below hf hfit hheap happ hpre
  obtain ⟨k, o, h1, h2, h3, rfl, hF⟩ := lw_comes l hflags p e ha hc hk s m args below hf hfit hheap happ hpre
  exact ⟨k, _, h1, h2, h3, hL args s _, lw_frame hF⟩
theorem i_vc : Claimed_1_1 ∧ Claimed_1_2 := ⟨lw_limb limb_1_1 (fun args s t => by simp [limb_1_1, Cond.after, Cond.holds, Cond.value]), lw_limb limb_1_2 (fun args s t => Cond.after_iff.mpr (by
  first | (rw [show limb_1_2 = Cond.eq .result (.int 1) from rfl, Cond.eq_ints (x := 1) (y := 1) rfl rfl]; simp; done) | (simp [limb_1_2, Cond.value, Term.eval]; done)))⟩

end ZST

/-! What is told of the reference's pooled objects; its primes; a pooled object comes into a told row of references. -/
def zRw : List Value → Prop := fun vs => vs[1]? = some (.int (nI 0)) ∧ vs[2]? = some (.int (nI 0))
def zCi : List Value → Prop := fun vs => vs[7]? = some (.int (nI 0)) ∧ vs[8]? = some (.int (nI 0))
def zEn9 (e : Int32) (st ou sd : Nat) : List Value → Prop := fun vs => vs[0]? = some (.int e) ∧ vs[1]? = some (.ref st) ∧ vs[6]? = some (.int (nI 0)) ∧ vs[7]? = some (.int (nI 0)) ∧ vs[8]? = some (.int (nI 0)) ∧ vs[9]? = some (.int (nI 0)) ∧ vs[17]? = some (.ref ou) ∧ vs[28]? = some (.int (nI 0)) ∧ vs[38]? = some (.int (nI 0)) ∧ vs[41]? = some (.int (nI 0)) ∧ vs[46]? = some (.ref sd)
def zpt (k : Nat) : Nat := [1, 2, 3, 5, 7, 11, 13, 17, 19, 23, 29, 31, 37, 41, 43, 47, 53, 59, 61, 67, 71, 73, 79, 83, 89, 97, 101, 103, 107, 109, 113, 127, 131, 137, 139, 149, 151, 157, 163, 167, 173, 179, 181, 191, 193, 197, 199, 211, 223, 227, 229, 233, 239, 241, 251, 257, 263, 269, 271, 277, 281, 283, 293, 307, 311, 313, 317, 331, 337, 347, 349, 353, 359, 367, 373, 379, 383, 389, 397, 401, 409].getD k 0
def zprB (p : Nat) : Bool := (List.range 21).all (fun j => decide (j < 2) || decide (p < j * j) || decide (¬ p % j = 0))
theorem zprB_of {p : Nat} : zprB p = true ↔ zpr p 21 := by
  unfold zprB zpr
  rw [List.all_eq_true]
  constructor
  · intro h j h1 h2 h3
    have := h j (List.mem_range.mpr h2)
    simp only [Bool.or_eq_true, decide_eq_true_eq] at this
    rcases this with (q | q) | q
    · omega
    · omega
    · exact q
  · intro h j hj
    have hj := List.mem_range.mp hj
    simp only [Bool.or_eq_true, decide_eq_true_eq]
    by_cases h1 : j < 2
    · exact Or.inl (Or.inl h1)
    · by_cases h3 : p < j * j
      · exact Or.inl (Or.inr h3)
      · exact Or.inr (h j (by omega) hj (by omega))
def zchk (i : Nat) : Bool := decide (zpt i < 409) && decide (zpt i < zpt (i + 1)) && decide (zpt (i + 1) ≤ 409) && zprB (zpt (i + 1)) && (List.range (zpt (i + 1) - zpt i - 1)).all (fun k => !zprB (zpt i + 1 + k))
theorem zchk_all : ∀ i, i < 80 → zchk i = true := by decide +kernel
theorem zpt_ok (i : Nat) (hi : i < 80) : zpt i < 409 ∧ zpt i < zpt (i + 1) ∧ zpt (i + 1) ≤ 409 ∧ zpr (zpt (i + 1)) 21 ∧ ∀ y, zpt i < y → y < zpt (i + 1) → ¬ zpr y 21 := by
  have h := zchk_all i hi
  simp only [zchk, Bool.and_eq_true, decide_eq_true_eq] at h
  obtain ⟨⟨⟨⟨h1, h2⟩, h3⟩, h4⟩, h5⟩ := h
  refine ⟨h1, h2, h3, zprB_of.mp h4, fun y hy1 hy2 hy => ?_⟩
  have := List.all_eq_true.mp h5 (y - zpt i - 1) (List.mem_range.mpr (by omega))
  rw [show zpt i + 1 + (y - zpt i - 1) = y by omega, zprB_of.mpr hy] at this
  cases this
section ZMP
variable {p : Program} {l : Launch} {e : Env} {R : Room} {s : State} {m : MethodId} {args : Array Value} {below : List Frame} {meth : Method} {c : Code} {H : Heap} {locs : List Loc} {cells slots : Nat} {Q : State → Prop}
variable {cc : ByteArray} {pc : Nat} {ls : Array Slot} {rest : List Value} {D : va_G} {cl : List vw_C} {A : Nat → Prop} {a : Nat} {tys : List (ClassId × FieldType)} {X Y : va_W} {L : List Nat} {T : Nat → va_E → Prop} {H0 : Heap}
theorem z_astqP (hexec : p.tables.exec = Jvm.exec) (hb : c.code = cc) (hK : va_K D cl tys s) (hZ : zP D cl A X Y L T H) (hS : va_S A H0 H locs) (t0 j ci : Nat) {cA : ClassId} {r : vw_C} {n v : Nat} {P : List Value → Prop} {g : Nat → Option Nat} (he : Y[j]? = some (a, .inl (cA, n, .inr (.inr (.inr (.inr g)))))) (ht : tys[t0]? = some (cA, .object r.1)) (ha : v ∈ L) (hT : T v = zOp ci P) (hc : cl[ci]? = some r) {i : Int32} (hin : vp_in i n) (hdg : decode cc pc = .ok (.aastore, 1))
    (kk : ∀ (H1 : Heap) (locs1 : List Loc), zP D cl A X (Y.set j (a, .inl (cA, n, .inr (.inr (.inr (.inr (va_up g i.toNatClampNeg (some v)))))))) L T H1 → va_S A H0 H1 locs1 → W p l e R s m args below meth c H1 locs1 cells slots Q (F0 m (pc + 1) ls rest)) : W p l e R s m args below meth c H locs cells slots Q (F0 m pc ls (.ref v :: .int i :: .ref a :: rest)) := by
  obtain ⟨f, h1, h2, h3⟩ := hZ
  obtain ⟨vs, hg, -⟩ : zOp ci P (f v) := hT ▸ h1 v ha
  obtain ⟨q, hq⟩ := va_pl_get (X := X ++ Y) (f := f) ha
  rw [hg] at hq
  refine va_astq hexec hb hK h2 h3 hS (X.length + j) t0 q ci (zY_at he) ht hq hc hin hdg (fun H1 locs1 hP hD hS1 => kk H1 locs1 ⟨f, h1, ?_, ?_⟩ hS1)
  · rw [zY_set (List.getElem?_eq_some_iff.mp he).1] at hP; exact hP
  · rw [zY_set (List.getElem?_eq_some_iff.mp he).1] at hD; exact hD
end ZMP
section ZMT
variable {p : Program} {l : Launch} {e : Env} {R : Room} {s : State} {m : MethodId} {args : Array Value} {below : List Frame} {meth : Method} {c : Code} {H : Heap} {locs : List Loc} {cells slots : Nat} {Q : State → Prop}
variable {cc : ByteArray} {pc : Nat} {ls : Array Slot} {rest : List Value} {D : va_G} {cl : List vw_C} {A : Nat → Prop} {a : Nat} {tys : List (ClassId × FieldType)} {X Y : va_W} {L : List Nat} {T : Nat → va_E → Prop} {H0 : Heap} {E : zEn}
/-- throw new E("text"), the text by a wide index -/
theorem z_throwSW {Qc : Array Value → State → Outcome → State → Prop} {px : String → zU → Prop} (hexec : p.tables.exec = Jvm.exec) (hb : c.code = cc) (hl : l.stackTraces = false) {own cls text : String} {names : List String} {ik is ic mc ms sa : Nat} (hown : s.vm.findClass own = some m.cls) (hcls : Bundle.fit cls = true) (hnames : ∀ n ∈ names, Bundle.fit n = true)
    (hk : (Cond.classLink own ik cls).before args s = true) (hini : (Cond.initialized cls).before args s = true) (hE : zE E A s s.heap) (hstr : (own, is, text, sa) ∈ E.2.2.1) (hat : ∀ w ∈ vx_atS own ic cls names, w.before args s = true)
    (hgood : ∀ w ∈ Cond.classLink own ik cls :: Cond.initialized cls :: vx_atS own ic cls names, vx_ot w = true) (hK : va_K D cl tys s) (hZ : zP D cl A X Y L T H) (hS : va_S A s.heap H locs) (hlv : ls.size = c.maxLocals)
    (d0 : decode cc pc = .ok (.new ik, 3)) (d3 : decode cc (pc + 3) = .ok (.dup, 1)) (d4 : decode cc (pc + 4) = .ok (.ldc_w is, 3)) (d6 : decode cc (pc + 7) = .ok (.invokespecial ic, 3)) (d9 : decode cc (pc + 10) = .ok (.athrow, 1))
    (hout : ∀ x ∈ c.exceptionTable.toList, False) (hRframes : names.length + 3 < R.frames) (hRlocals : (rest.map fun v => v.category).sum + (13 * (names.length + 1) + 43) ≤ R.locals) (hRcells : cells + 1 ≤ R.cells) (hRslots : slots + 6 ≤ R.slots) (hlocks : meth.locks = false)
    (hp : px cls (Y, L, T)) (hc : cells + 1 ≤ mc) (hs : slots + 6 ≤ ms) :
    W p l e R s m args below meth c H locs cells slots (vx_MQ below Qc (zXC D cl tys A X px) args s mc ms A) (F0 m pc ls rest) := by
  refine vx_throwSW (A := A) hexec hb hl hown hcls hnames hk hini (hE.2.2.1 _ hstr) hat hgood hE.2.2.2.2.1 hE.2.2.2.2.2.1 hS hlv d0 d3 d4 d6 d9 (fun x hx => (hout x hx).elim) hRframes hRlocals hRcells hRslots hlocks (fun t hvm hsz hk => ⟨(Y, L, T), trivial, ⟨hp, hZ.kept hk, va_K.moved hvm hK⟩, ?_⟩) hS.2.2 hc hs
  have hS2 : va_S A s.heap t.heap locs := ⟨Nat.le_trans hS.1 hsz, fun q g1 g2 => (hk q (Nat.lt_of_lt_of_le g1 hS.1)).trans (hS.2.1 q g1 g2), hS.2.2⟩
  exact hS2.F rfl
end ZMT

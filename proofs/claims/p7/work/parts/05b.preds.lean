/-! What is told of the pooled objects of a fresh system; switches; channels' rows. -/
theorem zlk3 {a b c x y z d k : Int} (h1 : k ≠ a) (h2 : k ≠ b) (h3 : k ≠ c) : Op.lookupswitch.offset [(a, x), (b, y), (c, z)] d k = d := by
  rw [Op.lookupswitch.offset_cons, if_neg (Ne.symm h1), Op.lookupswitch.offset_cons, if_neg (Ne.symm h2), Op.lookupswitch.offset_cons, if_neg (Ne.symm h3), Op.lookupswitch.offset_nil]
/-- an empty row of bytes; a flow without keys; the exchange; the store -/
def zB0 : List Value → Prop := fun vs => vs[2]? = some (.int (nI 0))
def zFl : List Value → Prop := fun vs => vs[7]? = some (.int (nI 0)) ∧ vs[8]? = some (.int (nI 0)) ∧ vs[9]? = some (.int (nI 0))
def zEx (li se : Nat) : List Value → Prop := fun vs => vs[0]? = some (.ref li) ∧ vs[5]? = some (.ref se) ∧ vs[14]? = some (.int (nI 0)) ∧ vs[18]? = some (.int (nI 0))
def zSt0 : List Value → Prop := fun vs => vs[2]? = some (.int (nI 0))
/-- the client, the server -/
def zCl (ex ow iw st ch : Nat) : List Value → Prop := fun vs => vs[4]? = some (.ref ex) ∧ vs[5]? = some (.ref ow) ∧ vs[6]? = some (.ref iw) ∧ vs[7]? = some (.ref st) ∧ vs[8]? = some (.ref ch) ∧ vs[13]? = some (.int (nI 0)) ∧ vs[14]? = some (.int (nI 0)) ∧ vs[15]? = some (.int (nI 0)) ∧ vs[35]? = some (.int (nI 0))
def zSv (ex ow iw st ch so hk po : Nat) : List Value → Prop := fun vs => vs[4]? = some (.ref ex) ∧ vs[5]? = some (.ref ow) ∧ vs[6]? = some (.ref iw) ∧ vs[7]? = some (.ref st) ∧ vs[8]? = some (.ref ch) ∧ vs[13]? = some (.int (nI 0)) ∧ vs[14]? = some (.int (nI 0)) ∧ vs[15]? = some (.int (nI 0)) ∧ vs[19]? = some (.ref so) ∧ vs[20]? = some (.int (nI 0)) ∧ vs[23]? = some (.ref hk) ∧ vs[26]? = some (.ref po) ∧ vs[33]? = some (.int (nI 0))
/-- all of a row's first i have a predicate -/
def zAll (i : Nat) (g : Nat → Option Nat) (L : List Nat) (T : Nat → va_E → Prop) (P : va_E → Prop) : Prop := ∀ j, j < i → ∃ q, g j = some q ∧ q ∈ L ∧ T q = P
theorem zAll0 {g : Nat → Option Nat} {L : List Nat} {T : Nat → va_E → Prop} {P : va_E → Prop} : zAll 0 g L T P := fun j hj => absurd hj (Nat.not_lt_zero j)
theorem zAll.lift {i : Nat} {g : Nat → Option Nat} {L L1 : List Nat} {T T1 : Nat → va_E → Prop} {P : va_E → Prop} (h : zAll i g L T P) (hG : zG L T L1 T1) : zAll i g L1 T1 P := fun j hj => by
  obtain ⟨q, h1, h2, h3⟩ := h j hj
  exact ⟨q, h1, hG.1 q h2, (hG.2 q h2).trans h3⟩
theorem zAll.le {i k : Nat} {g : Nat → Option Nat} {L : List Nat} {T : Nat → va_E → Prop} {P : va_E → Prop} (h : zAll i g L T P) (hk : k ≤ i) : zAll k g L T P := fun j hj => h j (Nat.lt_of_lt_of_le hj hk)
theorem zAll.step {i q : Nat} {g : Nat → Option Nat} {L : List Nat} {T : Nat → va_E → Prop} {P : va_E → Prop} (h : zAll i g L T P) (h1 : q ∈ L) (h2 : T q = P) (hi : i < 2147483648) : zAll (i + 1) (va_up g (nI i).toNatClampNeg (some q)) L T P := by
  intro j hj
  rw [nI_clamp hi]
  by_cases e : j = i
  · subst e
    exact ⟨q, va_up_self _ _ _, h1, h2⟩
  · obtain ⟨q1, g1, g2, g3⟩ := h j (by omega)
    exact ⟨q1, by rw [va_up_ne _ _ e]; exact g1, g2, g3⟩
section ZLD
variable {p : Program} {l : Launch} {e : Env} {R : Room} {s : State} {m : MethodId} {args : Array Value} {below : List Frame} {meth : Method} {c : Code} {H : Heap} {locs : List Loc} {cells slots : Nat} {Q : State → Prop}
variable {cc : ByteArray} {pc : Nat} {ls : Array Slot} {rest : List Value} {A : Nat → Prop} {E : zEn}
theorem zE_str {A : Nat → Prop} {H : Heap} {own tx : String} {index q : Nat} (hE : zE E A s H) (hm : (own, index, tx, q) ∈ E.2.2.1) : vk_R own index tx q s := by
  obtain ⟨-, -, h, -⟩ := hE
  exact h _ hm
theorem z_ldcS (hexec : p.tables.exec = Jvm.exec) (hb : c.code = cc) {own tx : String} {index q : Nat} (hown : s.vm.findClass own = some m.cls) (hE : zE E A s s.heap) (hm : (own, index, tx, q) ∈ E.2.2.1) (hdg : decode cc pc = .ok (.ldc index, 2))
    (k : W p l e R s m args below meth c H locs cells slots Q (F0 m (pc + 2) ls (.ref q :: rest))) : W p l e R s m args below meth c H locs cells slots Q (F0 m pc ls rest) := va_ldcS hexec hb hown (zE_str hE hm) hdg k
theorem z_ldcwS (hexec : p.tables.exec = Jvm.exec) (hb : c.code = cc) {own tx : String} {index q : Nat} (hown : s.vm.findClass own = some m.cls) (hE : zE E A s s.heap) (hm : (own, index, tx, q) ∈ E.2.2.1) (hdg : decode cc pc = .ok (.ldc_w index, 3))
    (k : W p l e R s m args below meth c H locs cells slots Q (F0 m (pc + 3) ls (.ref q :: rest))) : W p l e R s m args below meth c H locs cells slots Q (F0 m pc ls rest) := zl_ldcwS hexec hb hown (zE_str hE hm) hdg k
end ZLD

/-! New cells: they come to the told ones; from there into the pool. -/
section ZN
variable {p : Program} {l : Launch} {e : Env} {R : Room} {s : State} {m : MethodId} {args : Array Value} {below : List Frame} {meth : Method} {c : Code} {H : Heap} {locs : List Loc} {cells slots : Nat} {Q : State → Prop}
variable {cc : ByteArray} {pc : Nat} {ls : Array Slot} {rest : List Value} {D : va_G} {cl : List vw_C} {A : Nat → Prop} {a : Nat} {tys : List (ClassId × FieldType)} {X Y : va_W} {L : List Nat} {T : Nat → va_E → Prop} {H0 : Heap}
theorem z_K_one {ty : FieldType} {cA cB : ClassId} {t0 : Nat} (hp : ∀ C, ty ≠ .object C) (hK : va_K D cl (tys ++ [(cA, ty)]) s) (ht : tys[t0]? = some (cB, ty)) : cA = cB := by
  have h1 := (hK.2 tys.length (cA, ty) (by rw [List.getElem?_append_right (Nat.le_refl _), Nat.sub_self]; rfl)).2
  have h2 := (hK.2 t0 (cB, ty) (by rw [List.getElem?_append_left (List.getElem?_eq_some_iff.mp ht).1]; exact ht)).2
  cases ty with
  | object C => exact absurd rfl (hp C)
  | _ => exact Option.some.inj (h1.symm.trans h2)
theorem z_K_oneQ {C : String} {cA cB : ClassId} {t0 : Nat} (hK : va_K D cl (tys ++ [(cA, .object C)]) s) (ht : tys[t0]? = some (cB, .object C)) : cA = cB := by
  obtain ⟨-, -, -, -, -, h1⟩ := (hK.2 tys.length (cA, .object C) (by rw [List.getElem?_append_right (Nat.le_refl _), Nat.sub_self]; rfl)).2
  obtain ⟨-, -, -, -, -, h2⟩ := (hK.2 t0 (cB, .object C) (by rw [List.getElem?_append_left (List.getElem?_eq_some_iff.mp ht).1]; exact ht)).2
  exact Option.some.inj (h1.symm.trans h2)
theorem z_told {f : Nat → va_E} {q : Nat × va_E} {H1 : Heap} {locs1 : List Loc} (hf : zF L T f) (hP : va_P D cl (((X ++ Y) ++ va_pl L f) ++ [q]) H1) (hD : va_D A (((X ++ Y) ++ va_pl L f) ++ [q])) : zP D cl A X (Y ++ [q]) L T H1 := by
  have h2 := va_P.swap hP
  have h3 := va_D.swap hD
  rw [List.append_assoc X] at h2 h3
  exact ⟨f, hf, h2, h3⟩
theorem z_newJ (hexec : p.tables.exec = Jvm.exec) (hb : c.code = cc) (harr : (Cond.arrayClass .long).before args s = true) (hK : va_K D cl tys s) (hZ : zP D cl A X Y L T H) (hS : va_S A H0 H locs) (hA : ∀ q, H0.size ≤ q → A q) (t0 : Nat) {cA : ClassId} (ht : tys[t0]? = some (cA, .long)) {n : Int32} {N : Nat} (hn : ¬ n < 0) (hN : n.toNatClampNeg = N) (hbytes : N * 8 ≤ 536870912) (hcells : cells + 1 ≤ R.cells) (hslots : slots + N ≤ R.slots) (hdg : decode cc pc = .ok (.newarray .long, 2))
    (kk : ∀ (q : Nat) (H1 : Heap), zP D cl A X (Y ++ [(q, .inl (cA, N, .inr (.inl (fun _ => 0))))]) L T H1 → va_S A H0 H1 locs → W p l e R s m args below meth c H1 locs (cells + 1) (slots + N) Q (F0 m (pc + 2) ls (.ref q :: rest))) : W p l e R s m args below meth c H locs cells slots Q (F0 m pc ls (.int n :: rest)) := by
  obtain ⟨f, h1, h2, h3⟩ := hZ
  refine va_newa (atype := .long) (ty := .long) (a0 := (N, .inr (.inl (fun _ => 0)))) hexec hb harr rfl hK h2 h3 hS hA (fun _ => rfl) hn hN hbytes hcells hslots hdg (fun q cB H1 hK1 hP hD hS1 => ?_)
  cases z_K_one (fun C h => by cases h) hK1 ht
  exact kk q H1 (z_told (locs1 := locs) h1 hP hD) hS1
theorem z_newI (hexec : p.tables.exec = Jvm.exec) (hb : c.code = cc) (harr : (Cond.arrayClass .int).before args s = true) (hK : va_K D cl tys s) (hZ : zP D cl A X Y L T H) (hS : va_S A H0 H locs) (hA : ∀ q, H0.size ≤ q → A q) (t0 : Nat) {cA : ClassId} (ht : tys[t0]? = some (cA, .int)) {n : Int32} {N : Nat} (hn : ¬ n < 0) (hN : n.toNatClampNeg = N) (hbytes : N * 4 ≤ 536870912) (hcells : cells + 1 ≤ R.cells) (hslots : slots + N ≤ R.slots) (hdg : decode cc pc = .ok (.newarray .int, 2))
    (kk : ∀ (q : Nat) (H1 : Heap), zP D cl A X (Y ++ [(q, .inl (cA, N, .inl (fun _ => 0)))]) L T H1 → va_S A H0 H1 locs → W p l e R s m args below meth c H1 locs (cells + 1) (slots + N) Q (F0 m (pc + 2) ls (.ref q :: rest))) : W p l e R s m args below meth c H locs cells slots Q (F0 m pc ls (.int n :: rest)) := by
  obtain ⟨f, h1, h2, h3⟩ := hZ
  refine va_newa (atype := .int) (ty := .int) (a0 := (N, .inl (fun _ => 0))) hexec hb harr rfl hK h2 h3 hS hA (fun _ => rfl) hn hN hbytes hcells hslots hdg (fun q cB H1 hK1 hP hD hS1 => ?_)
  cases z_K_one (fun C h => by cases h) hK1 ht
  exact kk q H1 (z_told (locs1 := locs) h1 hP hD) hS1
theorem z_newB (hexec : p.tables.exec = Jvm.exec) (hb : c.code = cc) (harr : (Cond.arrayClass .byte).before args s = true) (hK : va_K D cl tys s) (hZ : zP D cl A X Y L T H) (hS : va_S A H0 H locs) (hA : ∀ q, H0.size ≤ q → A q) (t0 : Nat) {cA : ClassId} (ht : tys[t0]? = some (cA, .byte)) {n : Int32} {N : Nat} (hn : ¬ n < 0) (hN : n.toNatClampNeg = N) (hbytes : N * 1 ≤ 536870912) (hcells : cells + 1 ≤ R.cells) (hslots : slots + N ≤ R.slots) (hdg : decode cc pc = .ok (.newarray .byte, 2))
    (kk : ∀ (q : Nat) (H1 : Heap), zP D cl A X (Y ++ [(q, .inl (cA, N, .inl (fun _ => 0)))]) L T H1 → va_S A H0 H1 locs → W p l e R s m args below meth c H1 locs (cells + 1) (slots + N) Q (F0 m (pc + 2) ls (.ref q :: rest))) : W p l e R s m args below meth c H locs cells slots Q (F0 m pc ls (.int n :: rest)) := by
  obtain ⟨f, h1, h2, h3⟩ := hZ
  refine va_newa (atype := .byte) (ty := .byte) (a0 := (N, .inl (fun _ => 0))) hexec hb harr rfl hK h2 h3 hS hA (fun _ => rfl) hn hN hbytes hcells hslots hdg (fun q cB H1 hK1 hP hD hS1 => ?_)
  cases z_K_one (fun C h => by cases h) hK1 ht
  exact kk q H1 (z_told (locs1 := locs) h1 hP hD) hS1
theorem z_newZ (hexec : p.tables.exec = Jvm.exec) (hb : c.code = cc) (harr : (Cond.arrayClass .boolean).before args s = true) (hK : va_K D cl tys s) (hZ : zP D cl A X Y L T H) (hS : va_S A H0 H locs) (hA : ∀ q, H0.size ≤ q → A q) (t0 : Nat) {cA : ClassId} (ht : tys[t0]? = some (cA, .boolean)) {n : Int32} {N : Nat} (hn : ¬ n < 0) (hN : n.toNatClampNeg = N) (hbytes : N * 1 ≤ 536870912) (hcells : cells + 1 ≤ R.cells) (hslots : slots + N ≤ R.slots) (hdg : decode cc pc = .ok (.newarray .boolean, 2))
    (kk : ∀ (q : Nat) (H1 : Heap), zP D cl A X (Y ++ [(q, .inl (cA, N, .inl (fun _ => 0)))]) L T H1 → va_S A H0 H1 locs → W p l e R s m args below meth c H1 locs (cells + 1) (slots + N) Q (F0 m (pc + 2) ls (.ref q :: rest))) : W p l e R s m args below meth c H locs cells slots Q (F0 m pc ls (.int n :: rest)) := by
  obtain ⟨f, h1, h2, h3⟩ := hZ
  refine va_newa (atype := .boolean) (ty := .boolean) (a0 := (N, .inl (fun _ => 0))) hexec hb harr rfl hK h2 h3 hS hA (fun _ => rfl) hn hN hbytes hcells hslots hdg (fun q cB H1 hK1 hP hD hS1 => ?_)
  cases z_K_one (fun C h => by cases h) hK1 ht
  exact kk q H1 (z_told (locs1 := locs) h1 hP hD) hS1
theorem z_newQ (hexec : p.tables.exec = Jvm.exec) (hb : c.code = cc) {own C : String} {index : Nat} (hown : s.vm.findClass own = some m.cls) (hclink : (Cond.classLink own index C).before args s = true) (hover : va_AO C s) (hK : va_K D cl tys s) (hZ : zP D cl A X Y L T H) (hS : va_S A H0 H locs) (hA : ∀ q, H0.size ≤ q → A q) (t0 : Nat) {cA : ClassId} (ht : tys[t0]? = some (cA, .object C)) {n : Int32} {N : Nat} (hn : ¬ n < 0) (hN : n.toNatClampNeg = N) (hbytes : N * 4 ≤ 536870912) (hcells : cells + 1 ≤ R.cells) (hslots : slots + N ≤ R.slots) (hdg : decode cc pc = .ok (.anewarray index, 3))
    (kk : ∀ (q : Nat) (H1 : Heap), zP D cl A X (Y ++ [(q, .inl (cA, N, .inr (.inr (.inr (.inr (fun _ => none))))))]) L T H1 → va_S A H0 H1 locs → W p l e R s m args below meth c H1 locs (cells + 1) (slots + N) Q (F0 m (pc + 3) ls (.ref q :: rest))) : W p l e R s m args below meth c H locs cells slots Q (F0 m pc ls (.int n :: rest)) := by
  obtain ⟨f, h1, h2, h3⟩ := hZ
  refine va_newq hexec hb hown hclink hover hK h2 h3 hS hA hn hN hbytes hcells hslots hdg (fun q cB H1 hK1 hP hD hS1 => ?_)
  cases z_K_oneQ hK1 ht
  exact kk q H1 (z_told (locs1 := locs) h1 hP hD) hS1
theorem z_new {own C : String} {TT : u_T} {N ci index : Nat} {Ts : List Cond} (hexec : p.tables.exec = Jvm.exec) (hb : c.code = cc) (hts : ∀ w ∈ Ts, w.before args s = true) (hin : ∀ w ∈ u_ws C TT N, w ∈ Ts) (ty : Nat → FieldType) (hty : ∀ k, k < N → parseFieldDescriptor (TT k).2.2.1 = some (ty k)) (hown : s.vm.findClass own = some m.cls) (hcl : (Cond.classLink own index C).before args s = true) (hinst : (Cond.instantiable C N).before args s = true) (hini : (Cond.initialized C).before args s = true)
    (hK : va_K D cl tys s) (hZ : zP D cl A X Y L T H) (hS : va_S A H0 H locs) (hA : ∀ q, H0.size ≤ q → A q) (hc : cl[ci]? = some (C, TT, N)) {fs : List Value} (hfs : ∀ j, j < N → defaultValue (ty j) = vp_V fs j) (hcells : cells + 1 ≤ R.cells) (hslots : slots + N ≤ R.slots) (hdg : decode cc pc = .ok (.new index, 3))
    (kk : ∀ (q : Nat) (H1 : Heap), zP D cl A X (Y ++ [(q, .inr (ci, fs))]) L T H1 → va_S A H0 H1 locs → W p l e R s m args below meth c H1 locs (cells + 1) (slots + N) Q (F0 m (pc + 3) ls (.ref q :: rest))) : W p l e R s m args below meth c H locs cells slots Q (F0 m pc ls rest) := by
  obtain ⟨f, h1, h2, h3⟩ := hZ
  refine va_new hexec hb hts hin ty hty hown hcl hinst hini hK h2 h3 hS hA hc hfs hcells hslots hdg (fun q H1 hP hD hS1 => ?_)
  exact kk q H1 (z_told (locs1 := locs) h1 hP hD) hS1
end ZN
theorem zP.pool1 {D : va_G} {cl : List vw_C} {A : Nat → Prop} {X Y : va_W} {L : List Nat} {T : Nat → va_E → Prop} {H : Heap} {q : Nat} {e : va_E} {P : va_E → Prop} (h : zP D cl A X (Y ++ [(q, e)]) L T H) (hP : P e) : q ∉ L ∧ zP D cl A X Y (q :: L) (fun a => if a = q then P else T a) H := by
  obtain ⟨f, h1, h2, h3⟩ := h
  have hq : q ∉ L := by
    intro hm
    obtain ⟨k, hk⟩ := va_pl_get (X := []) (f := f) hm
    have e1 : (X ++ (Y ++ [(q, e)]) ++ va_pl L f)[X.length + Y.length]? = some (q, e) := by
      rw [List.getElem?_append_left (by simp), List.getElem?_append_right (by omega), List.getElem?_append_right (by omega), show X.length + Y.length - X.length - Y.length = 0 by omega]
      rfl
    have e2 : (X ++ (Y ++ [(q, e)]) ++ va_pl L f)[(X ++ (Y ++ [(q, e)])).length + k]? = some (q, f q) := by
      rw [List.getElem?_append_right (by omega), Nat.add_sub_cancel_left]
      exact hk
    have := h3.1 _ _ _ _ e1 e2 rfl
    simp at this
    omega
  have hl : X ++ (Y ++ [(q, e)]) ++ va_pl L f = X ++ Y ++ va_pl (q :: L) (fun a => if a = q then e else f a) := by
    have : va_pl L f = va_pl L (fun a => if a = q then e else f a) := by
      unfold va_pl
      apply List.map_congr_left
      intro a ha
      have : a ≠ q := fun h => hq (h ▸ ha)
      simp [this]
    rw [this]
    simp [va_pl]
  rw [hl] at h2 h3
  refine ⟨hq, _, fun a ha => ?_, h2, h3⟩
  by_cases e : a = q
  · simp [e, hP]
  · simp only [e, if_false]
    rcases List.mem_cons.mp ha with h | h
    · exact absurd h e
    · exact h1 a h
/-- many told cells go into the pool -/
theorem zP.pool {D : va_G} {cl : List vw_C} {A : Nat → Prop} {X : va_W} {L : List Nat} {T : Nat → va_E → Prop} {H : Heap} : ∀ (N : List (Nat × va_E × (va_E → Prop))) (Y : va_W), zP D cl A X (Y ++ N.map (fun x => (x.1, x.2.1))) L T H → (∀ x ∈ N, x.2.2 x.2.1) → ∃ T1, zP D cl A X Y (N.map Prod.fst ++ L) T1 H ∧ zG L T (N.map Prod.fst ++ L) T1 ∧ ∀ x ∈ N, T1 x.1 = x.2.2
  | [], Y, h, _ => by
    simp only [List.map_nil, List.append_nil] at h
    exact ⟨T, h, zG.rf, fun x hx => absurd hx List.not_mem_nil⟩
  | x :: N, Y, h, hN => by
    have h2 : zP D cl A X ((Y ++ [(x.1, x.2.1)]) ++ N.map (fun x => (x.1, x.2.1))) L T H := by
      rw [List.append_assoc]
      exact h
    obtain ⟨T1, k1, k2, k3⟩ := zP.pool N _ h2 (fun y hy => hN y (List.mem_cons_of_mem _ hy))
    obtain ⟨hq, k4⟩ := k1.pool1 (P := x.2.2) (hN x List.mem_cons_self)
    refine ⟨_, k4, ⟨fun a ha => List.mem_cons_of_mem _ (k2.1 a ha), fun a ha => ?_⟩, fun y hy => ?_⟩
    · have : a ≠ x.1 := fun h => hq (h ▸ k2.1 a ha)
      simp only [this, if_false]
      exact k2.2 a ha
    · rcases List.mem_cons.mp hy with h | h
      · subst h; simp
      · have hm : y.1 ∈ N.map Prod.fst := List.mem_map.mpr ⟨y, h, rfl⟩
        have : y.1 ≠ x.1 := fun h => hq (h ▸ List.mem_append_left L hm)
        simp only [this, if_false]
        exact k3 y h

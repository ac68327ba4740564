/-! More rows over the worlds: places, predicates of pooled objects, told arrays, old arrays, throws. -/
section ZM
variable {p : Program} {l : Launch} {e : Env} {R : Room} {s : State} {m : MethodId} {args : Array Value} {below : List Frame} {meth : Method} {c : Code} {H : Heap} {locs : List Loc} {cells slots : Nat} {Q : State → Prop}
variable {cc : ByteArray} {pc : Nat} {ls : Array Slot} {rest : List Value} {D : va_G} {cl : List vw_C} {A : Nat → Prop} {a : Nat} {tys : List (ClassId × FieldType)} {X Y : va_W} {L : List Nat} {T : Nat → va_E → Prop} {H0 : Heap} {E : zEn}
theorem va_D_pw {A : Nat → Prop} {ws : va_W} : va_D A ws ↔ ws.Pairwise (fun p q => p.1 ≠ q.1) ∧ ∀ q ∈ ws, A q.1 := by
  constructor
  · intro h
    refine ⟨List.pairwise_iff_getElem.mpr (fun i j hi hj hij e => ?_), fun q hq => ?_⟩
    · have := h.1 i j _ _ (List.getElem?_eq_getElem hi) (List.getElem?_eq_getElem hj) e
      omega
    · obtain ⟨k, hk⟩ := List.getElem?_of_mem hq
      exact h.2 k q hk
  · intro ⟨h1, h2⟩
    refine ⟨fun i j p q hi hj e => ?_, fun k q hk => h2 q (List.mem_of_getElem? hk)⟩
    obtain ⟨hi', rfl⟩ := List.getElem?_eq_some_iff.mp hi
    obtain ⟨hj', rfl⟩ := List.getElem?_eq_some_iff.mp hj
    rcases Nat.lt_trichotomy i j with h | h | h
    · exact absurd e (List.pairwise_iff_getElem.mp h1 i j hi' hj' h)
    · exact h
    · exact absurd e.symm (List.pairwise_iff_getElem.mp h1 j i hj' hi' h)
/-- some told cells, in another order -/
theorem zP.pick (ps : List Nat) (Y' : va_W) (h : zP D cl A X Y L T H) (hps : ps.Nodup) (hY : Y' = ps.filterMap (fun i => Y[i]?)) : zP D cl A X Y' L T H := by
  obtain ⟨f, h1, h2, h3⟩ := h
  have hm : ∀ q ∈ Y', q ∈ Y := by
    intro q hq
    rw [hY] at hq
    obtain ⟨i, -, hi⟩ := List.mem_filterMap.mp hq
    exact List.mem_of_getElem? hi
  have hYp : Y'.Pairwise (fun p q => p.1 ≠ q.1) := by
    rw [hY]
    refine List.Pairwise.filterMap _ (fun i j hij p hp q hq e => ?_) hps
    have := h3.1 (X.length + i) (X.length + j) p q (zY_at hp) (zY_at hq) e
    omega
  have hpw := va_D_pw.mp h3
  have hsub : ∀ q ∈ (X ++ Y') ++ va_pl L f, q ∈ (X ++ Y) ++ va_pl L f := by
    intro q hq
    rcases List.mem_append.mp hq with h | h
    · rcases List.mem_append.mp h with h | h
      · exact List.mem_append_left _ (List.mem_append_left _ h)
      · exact List.mem_append_left _ (List.mem_append_right _ (hm q h))
    · exact List.mem_append_right _ h
  refine ⟨f, h1, fun k q hk => ?_, va_D_pw.mpr ⟨?_, fun q hq => hpw.2 q (hsub q hq)⟩⟩
  · obtain ⟨k2, hk2⟩ := List.getElem?_of_mem (hsub q (List.mem_of_getElem? hk))
    exact h2 k2 q hk2
  · have hw := hpw.1
    rw [List.pairwise_append, List.pairwise_append] at hw ⊢
    obtain ⟨⟨hx, hy, hxy⟩, hl, hc⟩ := hw
    refine ⟨⟨hx, hYp, fun a ha b hb => hxy a ha b (hm b hb)⟩, hl, fun a ha b hb => hc a ?_ b hb⟩
    rcases List.mem_append.mp ha with h | h
    · exact List.mem_append_left _ h
    · exact List.mem_append_right _ (hm a h)
/-- nothing that lay there has changed -/
theorem zP.kept {H1 : Heap} (h : zP D cl A X Y L T H) (hk : ∀ q : Nat, q < H.size → H1[q]? = H[q]?) : zP D cl A X Y L T H1 := by
  obtain ⟨f, h1, h2, h3⟩ := h
  exact ⟨f, h1, h2.kept (fun k q hq => hk q.1 (vx_lt h2 hq)), h3⟩
theorem zU3 {Y1 Y2 : va_W} {L1 L2 : List Nat} {T1 T2 : Nat → va_E → Prop} (h : ((Y1, L1, T1) : zU) = (Y2, L2, T2)) : Y1 = Y2 ∧ L1 = L2 ∧ T1 = T2 := by cases h; exact ⟨rfl, rfl, rfl⟩
/-- an object of which something is known -/
def zOp (ci : Nat) (P : List Value → Prop) : va_E → Prop := fun e => ∃ vs, e = .inr (ci, vs) ∧ P vs
theorem z_getPp (hexec : p.tables.exec = Jvm.exec) (hb : c.code = cc) {own ref C : String} {TT : u_T} {N ci index : Nat} {Ts : List Cond} (hts : ∀ w ∈ Ts, w.before args s = true) (hin : ∀ w ∈ u_ws C TT N, w ∈ Ts) (hown : s.vm.findClass own = some m.cls) (hK : va_K D cl tys s) (hZ : zP D cl A X Y L T H) {P : List Value → Prop} (ha : a ∈ L) (hT : T a = zOp ci P) (hc : cl[ci]? = some (C, TT, N)) (k : Nat) (hk : k < N) (hlink : (Cond.fieldLink own index ref (TT k).2.1 (TT k).2.2.1).before args s = true) (hsame : ∀ x, s.fieldFound? (TT k).1 (TT k).2.1 (TT k).2.2.1 = some x → s.fieldFound? ref (TT k).2.1 (TT k).2.2.1 = some x) {v : Value} (hv : ∀ vs, P vs → vs[k]? = some v) (hdg : decode cc pc = .ok (.getfield index, 3))
    (kk : W p l e R s m args below meth c H locs cells slots Q (F0 m (pc + 3) ls (v :: rest))) : W p l e R s m args below meth c H locs cells slots Q (F0 m pc ls (.ref a :: rest)) := by
  obtain ⟨f, h1, h2, h3⟩ := hZ
  obtain ⟨vs, hg, hP⟩ : zOp ci P (f a) := hT ▸ h1 a ha
  obtain ⟨q, hq⟩ := va_pl_get (X := X ++ Y) (f := f) ha
  rw [hg] at hq
  exact va_get hexec hb hts hin hown hK h2 q hq hc k hk hlink hsame (hv vs hP) hdg kk
theorem z_recvPp (hK : va_K D cl tys s) (hZ : zP D cl A X Y L T H) {ci : Nat} {P : List Value → Prop} {r : vw_C} (ha : a ∈ L) (hT : T a = zOp ci P) (hc : cl[ci]? = some r) : ∃ cell : Cell, H[a]? = some cell ∧ cell.vm.isStatics = false ∧ s.vm.findClass r.1 = some cell.cls := by
  obtain ⟨f, h1, h2, h3⟩ := hZ
  obtain ⟨vs, hg, hP⟩ : zOp ci P (f a) := hT ▸ h1 a ha
  obtain ⟨q, hq⟩ := va_pl_get (X := X ++ Y) (f := f) ha
  rw [hg] at hq
  exact va_recv hK h2 hc hq
/-- told arrays are read -/
theorem z_ialdY (hexec : p.tables.exec = Jvm.exec) (hb : c.code = cc) (hK : va_K D cl tys s) (hZ : zP D cl A X Y L T H) (t0 j : Nat) {cA : ClassId} {n : Nat} {g : Nat → Int32} (he : Y[j]? = some (a, .inl (cA, n, .inl g))) (ht : tys[t0]? = some (cA, .int)) {i : Int32} (hin : vp_in i n) {v : Int32} (hv : g i.toNatClampNeg = v) (hdg : decode cc pc = .ok (.iaload, 1))
    (kk : W p l e R s m args below meth c H locs cells slots Q (F0 m (pc + 1) ls (.int v :: rest))) : W p l e R s m args below meth c H locs cells slots Q (F0 m pc ls (.int i :: .ref a :: rest)) := by
  obtain ⟨f, h1, h2, h3⟩ := hZ
  subst hv
  exact va_iald hexec hb hK h2 (X.length + j) t0 (zY_at he) ht hin hdg kk
theorem z_baldY (hexec : p.tables.exec = Jvm.exec) (hb : c.code = cc) (hK : va_K D cl tys s) (hZ : zP D cl A X Y L T H) (t0 j : Nat) {cA : ClassId} {n : Nat} {g : Nat → Int32} (he : Y[j]? = some (a, .inl (cA, n, .inl g))) (ht : tys[t0]? = some (cA, .byte)) {i : Int32} (hin : vp_in i n) {v : Int32} (hv : g i.toNatClampNeg = v) (hdg : decode cc pc = .ok (.baload, 1))
    (kk : W p l e R s m args below meth c H locs cells slots Q (F0 m (pc + 1) ls (.int v :: rest))) : W p l e R s m args below meth c H locs cells slots Q (F0 m pc ls (.int i :: .ref a :: rest)) := by
  obtain ⟨f, h1, h2, h3⟩ := hZ
  subst hv
  exact va_bald hexec hb hK h2 (X.length + j) t0 (zY_at he) ht hin hdg kk
theorem z_zaldY (hexec : p.tables.exec = Jvm.exec) (hb : c.code = cc) (hK : va_K D cl tys s) (hZ : zP D cl A X Y L T H) (t0 j : Nat) {cA : ClassId} {n : Nat} {g : Nat → Int32} (he : Y[j]? = some (a, .inl (cA, n, .inl g))) (ht : tys[t0]? = some (cA, .boolean)) {i : Int32} (hin : vp_in i n) {v : Int32} (hv : g i.toNatClampNeg = v) (hdg : decode cc pc = .ok (.baload, 1))
    (kk : W p l e R s m args below meth c H locs cells slots Q (F0 m (pc + 1) ls (.int v :: rest))) : W p l e R s m args below meth c H locs cells slots Q (F0 m pc ls (.int i :: .ref a :: rest)) := by
  obtain ⟨f, h1, h2, h3⟩ := hZ
  subst hv
  exact va_zald hexec hb hK h2 (X.length + j) t0 (zY_at he) ht hin hdg kk
theorem z_laldY (hexec : p.tables.exec = Jvm.exec) (hb : c.code = cc) (hK : va_K D cl tys s) (hZ : zP D cl A X Y L T H) (t0 j : Nat) {cA : ClassId} {n : Nat} {g : Nat → Int64} (he : Y[j]? = some (a, .inl (cA, n, .inr (.inl g)))) (ht : tys[t0]? = some (cA, .long)) {i : Int32} (hin : vp_in i n) {v : Int64} (hv : g i.toNatClampNeg = v) (hdg : decode cc pc = .ok (.laload, 1))
    (kk : W p l e R s m args below meth c H locs cells slots Q (F0 m (pc + 1) ls (.long v :: rest))) : W p l e R s m args below meth c H locs cells slots Q (F0 m pc ls (.int i :: .ref a :: rest)) := by
  obtain ⟨f, h1, h2, h3⟩ := hZ
  subst hv
  exact va_lald hexec hb hK h2 (X.length + j) t0 (zY_at he) ht hin hdg kk
theorem z_aldqY (hexec : p.tables.exec = Jvm.exec) (hb : c.code = cc) (hK : va_K D cl tys s) (hZ : zP D cl A X Y L T H) (t0 j : Nat) {cA : ClassId} {C : String} {n : Nat} {g : Nat → Option Nat} (he : Y[j]? = some (a, .inl (cA, n, .inr (.inr (.inr (.inr g)))))) (ht : tys[t0]? = some (cA, .object C)) {i : Int32} (hin : vp_in i n) {v : Value} (hv : va_rf (g i.toNatClampNeg) = v) (hdg : decode cc pc = .ok (.aaload, 1))
    (kk : W p l e R s m args below meth c H locs cells slots Q (F0 m (pc + 1) ls (v :: rest))) : W p l e R s m args below meth c H locs cells slots Q (F0 m pc ls (.int i :: .ref a :: rest)) := by
  obtain ⟨f, h1, h2, h3⟩ := hZ
  subst hv
  exact va_aldq hexec hb hK h2 (X.length + j) t0 (zY_at he) ht hin hdg kk
/-- .. of arrays -/
theorem z_aldqA (hexec : p.tables.exec = Jvm.exec) (hb : c.code = cc) (hK : va_K D cl tys s) (hZ : zP D cl A X Y L T H) (t0 j : Nat) {cA : ClassId} {ty : FieldType} {n : Nat} {g : Nat → Option Nat} (he : Y[j]? = some (a, .inl (cA, n, .inr (.inr (.inr (.inr g)))))) (ht : tys[t0]? = some (cA, .array ty)) {i : Int32} (hin : vp_in i n) {v : Value} (hv : va_rf (g i.toNatClampNeg) = v) (hdg : decode cc pc = .ok (.aaload, 1))
    (kk : W p l e R s m args below meth c H locs cells slots Q (F0 m (pc + 1) ls (v :: rest))) : W p l e R s m args below meth c H locs cells slots Q (F0 m pc ls (.int i :: .ref a :: rest)) := by
  obtain ⟨f, h1, h2, h3⟩ := hZ
  subst hv
  have hlt : i.toNatClampNeg < n := Nat.not_le.mp fun q => hin (Or.inr q)
  exact W.aald (v := va_rf (g i.toNatClampNeg)) (ty := .array ty) hexec hb (h2 (X.length + j) _ (zY_at he)) ((hK.2 t0 _ ht).1 n (fun j => va_rf (g j))) rfl (fun q => by cases q) (by show ¬ (i < 0 ∨ (arrV _ _ _).slots.size ≤ _); rw [arrV_size]; exact hin) (by show (arrV _ _ _).slots[_]? = _; rw [arrV_read _ _ hlt]) rfl rfl hdg kk
/-- told arrays are written -/
theorem z_bastY (hexec : p.tables.exec = Jvm.exec) (hb : c.code = cc) (hK : va_K D cl tys s) (hZ : zP D cl A X Y L T H) (hS : va_S A H0 H locs) (t0 j : Nat) {cA : ClassId} {n : Nat} {g : Nat → Int32} (he : Y[j]? = some (a, .inl (cA, n, .inl g))) (ht : tys[t0]? = some (cA, .byte)) {i : Int32} {x : Int32} (hin : vp_in i n) (hdg : decode cc pc = .ok (.bastore, 1))
    (kk : ∀ (g1 : Nat → Int32) (H1 : Heap) (locs1 : List Loc), zP D cl A X (Y.set j (a, .inl (cA, n, .inl g1))) L T H1 → va_S A H0 H1 locs1 → W p l e R s m args below meth c H1 locs1 cells slots Q (F0 m (pc + 1) ls rest)) : W p l e R s m args below meth c H locs cells slots Q (F0 m pc ls (.int x :: .int i :: .ref a :: rest)) := by
  obtain ⟨f, h1, h2, h3⟩ := hZ
  refine va_bast hexec hb hK h2 h3 hS (X.length + j) t0 (zY_at he) ht hin hdg (fun H1 locs1 hP hD hS1 => kk (upd g i.toNatClampNeg (vp_nar .byte x)) H1 locs1 ⟨f, h1, ?_, ?_⟩ hS1)
  · rw [zY_set (List.getElem?_eq_some_iff.mp he).1] at hP; exact hP
  · rw [zY_set (List.getElem?_eq_some_iff.mp he).1] at hD; exact hD
theorem z_zastY (hexec : p.tables.exec = Jvm.exec) (hb : c.code = cc) (hK : va_K D cl tys s) (hZ : zP D cl A X Y L T H) (hS : va_S A H0 H locs) (t0 j : Nat) {cA : ClassId} {n : Nat} {g : Nat → Int32} (he : Y[j]? = some (a, .inl (cA, n, .inl g))) (ht : tys[t0]? = some (cA, .boolean)) {i : Int32} {x : Int32} (hin : vp_in i n) (hdg : decode cc pc = .ok (.bastore, 1))
    (kk : ∀ (g1 : Nat → Int32) (H1 : Heap) (locs1 : List Loc), zP D cl A X (Y.set j (a, .inl (cA, n, .inl g1))) L T H1 → va_S A H0 H1 locs1 → W p l e R s m args below meth c H1 locs1 cells slots Q (F0 m (pc + 1) ls rest)) : W p l e R s m args below meth c H locs cells slots Q (F0 m pc ls (.int x :: .int i :: .ref a :: rest)) := by
  obtain ⟨f, h1, h2, h3⟩ := hZ
  refine va_zast hexec hb hK h2 h3 hS (X.length + j) t0 (zY_at he) ht hin hdg (fun H1 locs1 hP hD hS1 => kk (upd g i.toNatClampNeg (vp_nar .boolean x)) H1 locs1 ⟨f, h1, ?_, ?_⟩ hS1)
  · rw [zY_set (List.getElem?_eq_some_iff.mp he).1] at hP; exact hP
  · rw [zY_set (List.getElem?_eq_some_iff.mp he).1] at hD; exact hD
theorem z_iastG (hexec : p.tables.exec = Jvm.exec) (hb : c.code = cc) (hK : va_K D cl tys s) (hZ : zP D cl A X Y L T H) (hS : va_S A H0 H locs) (t0 j : Nat) {cA : ClassId} {n : Nat} {g : Nat → Int32} (he : Y[j]? = some (a, .inl (cA, n, .inl g))) (ht : tys[t0]? = some (cA, .int)) {i : Int32} {x : Int32} (hin : vp_in i n) (hdg : decode cc pc = .ok (.iastore, 1))
    (kk : ∀ (g1 : Nat → Int32) (H1 : Heap) (locs1 : List Loc), zP D cl A X (Y.set j (a, .inl (cA, n, .inl g1))) L T H1 → va_S A H0 H1 locs1 → W p l e R s m args below meth c H1 locs1 cells slots Q (F0 m (pc + 1) ls rest)) : W p l e R s m args below meth c H locs cells slots Q (F0 m pc ls (.int x :: .int i :: .ref a :: rest)) :=
  z_iastY hexec hb hK hZ hS t0 j he ht hin hdg (fun H1 locs1 hZ1 hS1 => kk _ H1 locs1 hZ1 hS1)
theorem z_lastY (hexec : p.tables.exec = Jvm.exec) (hb : c.code = cc) (hK : va_K D cl tys s) (hZ : zP D cl A X Y L T H) (hS : va_S A H0 H locs) (t0 j : Nat) {cA : ClassId} {n : Nat} {g : Nat → Int64} (he : Y[j]? = some (a, .inl (cA, n, .inr (.inl g)))) (ht : tys[t0]? = some (cA, .long)) {i : Int32} {x : Int64} (hin : vp_in i n) (hdg : decode cc pc = .ok (.lastore, 1))
    (kk : ∀ (H1 : Heap) (locs1 : List Loc), zP D cl A X (Y.set j (a, .inl (cA, n, .inr (.inl (vp_updL g i.toNatClampNeg x))))) L T H1 → va_S A H0 H1 locs1 → W p l e R s m args below meth c H1 locs1 cells slots Q (F0 m (pc + 1) ls rest)) : W p l e R s m args below meth c H locs cells slots Q (F0 m pc ls (.long x :: .int i :: .ref a :: rest)) := by
  obtain ⟨f, h1, h2, h3⟩ := hZ
  refine va_last hexec hb hK h2 h3 hS (X.length + j) t0 (zY_at he) ht hin hdg (fun H1 locs1 hP hD hS1 => kk H1 locs1 ⟨f, h1, ?_, ?_⟩ hS1)
  · rw [zY_set (List.getElem?_eq_some_iff.mp he).1] at hP; exact hP
  · rw [zY_set (List.getElem?_eq_some_iff.mp he).1] at hD; exact hD
/-- lengths -/
theorem z_alenY (hexec : p.tables.exec = Jvm.exec) (hb : c.code = cc) (hK : va_K D cl tys s) (hZ : zP D cl A X Y L T H) (t0 j : Nat) {cA : ClassId} {x : vp_A} (he : Y[j]? = some (a, .inl (cA, x))) {ty : FieldType} (ht : tys[t0]? = some (cA, ty)) {v : Int32} (hv : Int32.ofNat x.1 = v) (hdg : decode cc pc = .ok (.arraylength, 1))
    (kk : W p l e R s m args below meth c H locs cells slots Q (F0 m (pc + 1) ls (.int v :: rest))) : W p l e R s m args below meth c H locs cells slots Q (F0 m pc ls (.ref a :: rest)) := by
  obtain ⟨f, h1, h2, h3⟩ := hZ
  exact va_alen hexec hb hK h2 (X.length + j) t0 (zY_at he) ht hv hdg kk
/-- old arrays -/
theorem z_toldlen (hexec : p.tables.exec = Jvm.exec) (hb : c.code = cc) {ty : FieldType} {t N : Nat} {f : Nat → Value} (hT : va_T ty t N f A s s.heap) (hS : va_S A s.heap H locs) {v : Int32} (hv : Int32.ofNat N = v) (hdg : decode cc pc = .ok (.arraylength, 1))
    (kk : W p l e R s m args below meth c H locs cells slots Q (F0 m (pc + 1) ls (.int v :: rest))) : W p l e R s m args below meth c H locs cells slots Q (F0 m pc ls (.ref t :: rest)) := va_tlen hexec hb hT hS hv hdg kk
end ZM
/-! Methods that may throw. -/
def zXC (D : va_G) (cl : List vw_C) (tys : List (ClassId × FieldType)) (A : Nat → Prop) (X : va_W) (px : String → zU → Prop) : String → State → State → Prop := vx_X (fun _ : zU => True) (fun E u t => px E u ∧ zB D cl tys A X u t) A
def zX (E : zEn) (l : Launch) (D : va_G) (cl : List vw_C) (tys : List (ClassId × FieldType)) (y : MethodName) (ws : List Cond) (rm : Room) (mc ms : Nat) (av : List Value) (X Y : va_W) (L : List Nat) (T : Nat → va_E → Prop) (post : zU → Prop) (px : String → zU → Prop) : Prop :=
  ∀ sz : Nat, vx_Met l y ws rm (zPre E D cl tys av X Y L T sz) (va_Qv post (zB D cl tys (zA X Y L sz) X) (zA X Y L sz)) (zXC D cl tys (zA X Y L sz) X px) mc ms (zA X Y L sz)
def zXi (E : zEn) (l : Launch) (D : va_G) (cl : List vw_C) (tys : List (ClassId × FieldType)) (y : MethodName) (ws : List Cond) (rm : Room) (mc ms : Nat) (av : List Value) (X Y : va_W) (L : List Nat) (T : Nat → va_E → Prop) (post : Int32 → zU → Prop) (px : String → zU → Prop) : Prop :=
  ∀ sz : Nat, vx_Met l y ws rm (zPre E D cl tys av X Y L T sz) (va_Qi post (zB D cl tys (zA X Y L sz) X) (zA X Y L sz)) (zXC D cl tys (zA X Y L sz) X px) mc ms (zA X Y L sz)
def zXl (E : zEn) (l : Launch) (D : va_G) (cl : List vw_C) (tys : List (ClassId × FieldType)) (y : MethodName) (ws : List Cond) (rm : Room) (mc ms : Nat) (av : List Value) (X Y : va_W) (L : List Nat) (T : Nat → va_E → Prop) (post : Int64 → zU → Prop) (px : String → zU → Prop) : Prop :=
  ∀ sz : Nat, vx_Met l y ws rm (zPre E D cl tys av X Y L T sz) (va_Ql post (zB D cl tys (zA X Y L sz) X) (zA X Y L sz)) (zXC D cl tys (zA X Y L sz) X px) mc ms (zA X Y L sz)
section ZX
variable {p : Program} {l : Launch} {e : Env} {R : Room} {s : State} {m : MethodId} {args : Array Value} {below : List Frame} {meth : Method} {c : Code} {H : Heap} {locs : List Loc} {cells slots : Nat} {Q : State → Prop}
variable {cc : ByteArray} {pc : Nat} {ls : Array Slot} {rest : List Value} {D : va_G} {cl : List vw_C} {A : Nat → Prop} {a : Nat} {tys : List (ClassId × FieldType)} {X Y : va_W} {L : List Nat} {T : Nat → va_E → Prop} {H0 : Heap} {E : zEn}
theorem z_ofWX {y : MethodName} {ws ws' : List Cond} {rm : Room} {mc ms : Nat} {av : List Value} {maxL : Nat} {ret : Option FieldType} {Qc : (Nat → Prop) → Array Value → State → Outcome → State → Prop} {XC : (Nat → Prop) → String → State → State → Prop} (hy : plainName y.cls = true) (hw : ws = Cond.code y cc maxL ret :: ws') (hn : (lg_sl av).length ≤ maxL)
    (body : ∀ (p : Program) (e : Env) (s : State) (m : MethodId) (below : List Frame) (meth : Method) (c : Code) (A : Nat → Prop) (ls : Array Slot), p.tables.exec = Jvm.exec → c.code = cc → c.maxLocals = maxL → meth.sig.returnType = ret → (∀ w ∈ ws, w.before av.toArray s = true) → s.vm.findClass y.cls = some m.cls → meth.locks = false → (∀ x ∈ c.exceptionTable.toList, False) → (∀ q, s.heap.size ≤ q → A q) → va_K D cl tys s → zP D cl A X Y L T s.heap → va_S A s.heap s.heap [] → zE E A s s.heap → lv_has ls maxL (lv_args 0 av) → W p l e rm s m av.toArray below meth c s.heap [] 0 0 (vx_MQ below (Qc A) (XC A) av.toArray s mc ms A) (F0 m 0 ls [])) (sz : Nat) :
    vx_Met l y ws rm (zPre E D cl tys av X Y L T sz) (Qc (zA X Y L sz)) (XC (zA X Y L sz)) mc ms (zA X Y L sz) := by
  refine vx_ofW (cc := cc) (maxL := maxL) (ret := ret) hy hw ?_
  intro p e s m args below meth c s₁ B hml ht hv
  obtain ⟨rfl, hsz, hZ, hK, hE⟩ := hv
  have hx := B.exec
  have hb := B.bytes
  have hr := B.returns
  have hts := atoms_spec (ws := ws) B.pre
  have hown : s.vm.findClass y.cls = some m.cls := findClass_of_methodNamed B.named
  have hlocks := B.notSynchronized
  subst hsz
  have hZ := hZ.own (sz := s.heap.size)
  have hA : ∀ q : Nat, s.heap.size ≤ q → zA X Y L s.heap.size q := fun q h => Or.inr (Or.inr h)
  have hl := lv_entry av (n := maxL) hn
  rw [lg_entry_eq]
  exact body p e s m below meth c _ _ hx hb hml hr hts hown hlocks ht hA hK hZ va_S.rf hE hl
theorem z_ofWH {y : MethodName} {ws ws' : List Cond} {rm : Room} {mc ms : Nat} {av : List Value} {maxL : Nat} {ret : Option FieldType} {hh : List (Nat × Nat × Nat × Nat)} {Qc : (Nat → Prop) → Array Value → State → Outcome → State → Prop} {XC : (Nat → Prop) → String → State → State → Prop} (hy : plainName y.cls = true) (hw : ws = Cond.codeWith y cc maxL ret hh :: ws') (hn : (lg_sl av).length ≤ maxL)
    (body : ∀ (p : Program) (e : Env) (s : State) (m : MethodId) (below : List Frame) (meth : Method) (c : Code) (A : Nat → Prop) (ls : Array Slot), p.tables.exec = Jvm.exec → c.code = cc → c.maxLocals = maxL → meth.sig.returnType = ret → (∀ w ∈ ws, w.before av.toArray s = true) → s.vm.findClass y.cls = some m.cls → meth.locks = false → c.exceptionTable.toList = tableOf hh → (∀ q, s.heap.size ≤ q → A q) → va_K D cl tys s → zP D cl A X Y L T s.heap → va_S A s.heap s.heap [] → zE E A s s.heap → lv_has ls maxL (lv_args 0 av) → W p l e rm s m av.toArray below meth c s.heap [] 0 0 (vx_MQ below (Qc A) (XC A) av.toArray s mc ms A) (F0 m 0 ls [])) (sz : Nat) :
    vx_Met l y ws rm (zPre E D cl tys av X Y L T sz) (Qc (zA X Y L sz)) (XC (zA X Y L sz)) mc ms (zA X Y L sz) := by
  refine vx_ofWH (cc := cc) (maxL := maxL) (ret := ret) (hh := hh) hy hw ?_
  intro p e s m args below meth c s₁ B hml hv
  obtain ⟨rfl, hsz, hZ, hK, hE⟩ := hv
  have hx := B.exec
  have hb := B.bytes
  have hr := B.returns
  have hts := atoms_spec (ws := ws) B.pre
  have htab : c.exceptionTable.toList = tableOf hh := vx_table (x := y) B (hts _ (by rw [hw]; exact List.mem_cons_self))
  have hown : s.vm.findClass y.cls = some m.cls := findClass_of_methodNamed B.named
  have hlocks := B.notSynchronized
  subst hsz
  have hZ := hZ.own (sz := s.heap.size)
  have hA : ∀ q : Nat, s.heap.size ≤ q → zA X Y L s.heap.size q := fun q h => Or.inr (Or.inr h)
  have hl := lv_entry av (n := maxL) hn
  rw [lg_entry_eq]
  exact body p e s m below meth c _ _ hx hb hml hr hts hown hlocks htab hA hK hZ va_S.rf hE hl
theorem z_goX {mc ms : Nat} {st0 : List Value} {post : zU → Prop} {px : String → zU → Prop} {av : Array Value} (hr : vx_Run p l e R s m args below meth c H locs cells slots mc ms (F0 m pc ls st0) rest (va_Qv post (zB D cl tys (zA X Y L H.size) X) (zA X Y L H.size) av) (zXC D cl tys (zA X Y L H.size) X px) (zA X Y L H.size)) (hZ : zP D cl A X Y L T H) (hS : va_S A H0 H locs) (hA : ∀ q, H0.size ≤ q → A q)
    (kx : ∀ (E : String) (ce : Cell) (q9 : Addr) (Y1 : va_W) (L1 : List Nat) (T1 : Nat → va_E → Prop) (H1 : Heap) (locs1 : List Loc), px E (Y1, L1, T1) → zP D cl A X Y1 L1 T1 H1 → va_S A H0 H1 locs1 → H1[q9]? = some ce → ce.vm = .none → s.vm.findClass E = some ce.cls → vx_W p l e R s m args below meth c H1 locs1 (cells + mc) (slots + ms) Q (F0 m pc ls rest) q9)
    (kk : ∀ (Y1 : va_W) (L1 : List Nat) (T1 : Nat → va_E → Prop) (H1 : Heap) (locs1 : List Loc), post (Y1, L1, T1) → zP D cl A X Y1 L1 T1 H1 → va_S A H0 H1 locs1 → W p l e R s m args below meth c H1 locs1 (cells + mc) (slots + ms) Q (F0 m (pc + 3) ls rest)) : W p l e R s m args below meth c H locs cells slots Q (F0 m pc ls st0) := by
  have hF := zA_of hZ hS hA
  refine vx_callv (hr := hr) hS (fun q _ h => hF q h) hF (fun q _ h => hF q h) (fun E ce q9 u t H1 locs1 ht hvm _ hB hz1 hk1 hS1 hce hcv hcl => ?_) (fun u t H1 locs1 ht hvm hw hB hz1 hk1 hS1 => ?_)
  · obtain ⟨Y1, L1, T1⟩ := u
    obtain ⟨hp, hZ1, -⟩ := hB
    rw [ht] at hZ1
    exact kx E ce q9 Y1 L1 T1 H1 locs1 hp (hZ1.weaken hF) hS1 hce hcv hcl
  · obtain ⟨Y1, L1, T1⟩ := u
    obtain ⟨hZ1, -⟩ := hB
    rw [ht] at hZ1
    exact kk Y1 L1 T1 H1 locs1 hw (hZ1.weaken hF) hS1
theorem z_goXI {mc ms : Nat} {st0 : List Value} {post : Int32 → zU → Prop} {px : String → zU → Prop} {av : Array Value} (hr : vx_Run p l e R s m args below meth c H locs cells slots mc ms (F0 m pc ls st0) rest (va_Qi post (zB D cl tys (zA X Y L H.size) X) (zA X Y L H.size) av) (zXC D cl tys (zA X Y L H.size) X px) (zA X Y L H.size)) (hZ : zP D cl A X Y L T H) (hS : va_S A H0 H locs) (hA : ∀ q, H0.size ≤ q → A q)
    (kx : ∀ (E : String) (ce : Cell) (q9 : Addr) (Y1 : va_W) (L1 : List Nat) (T1 : Nat → va_E → Prop) (H1 : Heap) (locs1 : List Loc), px E (Y1, L1, T1) → zP D cl A X Y1 L1 T1 H1 → va_S A H0 H1 locs1 → H1[q9]? = some ce → ce.vm = .none → s.vm.findClass E = some ce.cls → vx_W p l e R s m args below meth c H1 locs1 (cells + mc) (slots + ms) Q (F0 m pc ls rest) q9)
    (kk : ∀ (r : Int32) (Y1 : va_W) (L1 : List Nat) (T1 : Nat → va_E → Prop) (H1 : Heap) (locs1 : List Loc), post r (Y1, L1, T1) → zP D cl A X Y1 L1 T1 H1 → va_S A H0 H1 locs1 → W p l e R s m args below meth c H1 locs1 (cells + mc) (slots + ms) Q (F0 m (pc + 3) ls (.int r :: rest))) : W p l e R s m args below meth c H locs cells slots Q (F0 m pc ls st0) := by
  have hF := zA_of hZ hS hA
  refine vx_calli (hr := hr) hS (fun q _ h => hF q h) hF (fun q _ h => hF q h) (fun E ce q9 u t H1 locs1 ht hvm _ hB hz1 hk1 hS1 hce hcv hcl => ?_) (fun r u t H1 locs1 ht hvm hw hB hz1 hk1 hS1 => ?_)
  · obtain ⟨Y1, L1, T1⟩ := u
    obtain ⟨hp, hZ1, -⟩ := hB
    rw [ht] at hZ1
    exact kx E ce q9 Y1 L1 T1 H1 locs1 hp (hZ1.weaken hF) hS1 hce hcv hcl
  · obtain ⟨Y1, L1, T1⟩ := u
    obtain ⟨hZ1, -⟩ := hB
    rw [ht] at hZ1
    exact kk r Y1 L1 T1 H1 locs1 hw (hZ1.weaken hF) hS1
theorem z_goXL {mc ms : Nat} {st0 : List Value} {post : Int64 → zU → Prop} {px : String → zU → Prop} {av : Array Value} (hr : vx_Run p l e R s m args below meth c H locs cells slots mc ms (F0 m pc ls st0) rest (va_Ql post (zB D cl tys (zA X Y L H.size) X) (zA X Y L H.size) av) (zXC D cl tys (zA X Y L H.size) X px) (zA X Y L H.size)) (hZ : zP D cl A X Y L T H) (hS : va_S A H0 H locs) (hA : ∀ q, H0.size ≤ q → A q)
    (kx : ∀ (E : String) (ce : Cell) (q9 : Addr) (Y1 : va_W) (L1 : List Nat) (T1 : Nat → va_E → Prop) (H1 : Heap) (locs1 : List Loc), px E (Y1, L1, T1) → zP D cl A X Y1 L1 T1 H1 → va_S A H0 H1 locs1 → H1[q9]? = some ce → ce.vm = .none → s.vm.findClass E = some ce.cls → vx_W p l e R s m args below meth c H1 locs1 (cells + mc) (slots + ms) Q (F0 m pc ls rest) q9)
    (kk : ∀ (r : Int64) (Y1 : va_W) (L1 : List Nat) (T1 : Nat → va_E → Prop) (H1 : Heap) (locs1 : List Loc), post r (Y1, L1, T1) → zP D cl A X Y1 L1 T1 H1 → va_S A H0 H1 locs1 → W p l e R s m args below meth c H1 locs1 (cells + mc) (slots + ms) Q (F0 m (pc + 3) ls (.long r :: rest))) : W p l e R s m args below meth c H locs cells slots Q (F0 m pc ls st0) := by
  have hF := zA_of hZ hS hA
  refine vx_calll (hr := hr) hS (fun q _ h => hF q h) hF (fun q _ h => hF q h) (fun E ce q9 u t H1 locs1 ht hvm _ hB hz1 hk1 hS1 hce hcv hcl => ?_) (fun r u t H1 locs1 ht hvm hw hB hz1 hk1 hS1 => ?_)
  · obtain ⟨Y1, L1, T1⟩ := u
    obtain ⟨hp, hZ1, -⟩ := hB
    rw [ht] at hZ1
    exact kx E ce q9 Y1 L1 T1 H1 locs1 hp (hZ1.weaken hF) hS1 hce hcv hcl
  · obtain ⟨Y1, L1, T1⟩ := u
    obtain ⟨hZ1, -⟩ := hB
    rw [ht] at hZ1
    exact kk r Y1 L1 T1 H1 locs1 hw (hZ1.weaken hF) hS1
/-- throw new E("text") -/
theorem z_throwS {Qc : Array Value → State → Outcome → State → Prop} {px : String → zU → Prop} (hexec : p.tables.exec = Jvm.exec) (hb : c.code = cc) (hl : l.stackTraces = false) {own cls text : String} {names : List String} {ik is ic mc ms sa : Nat} (hown : s.vm.findClass own = some m.cls) (hcls : Bundle.fit cls = true) (hnames : ∀ n ∈ names, Bundle.fit n = true)
    (hk : (Cond.classLink own ik cls).before args s = true) (hini : (Cond.initialized cls).before args s = true) (hE : zE E A s s.heap) (hstr : (own, is, text, sa) ∈ E.2.2.1) (hat : ∀ w ∈ vx_atS own ic cls names, w.before args s = true)
    (hgood : ∀ w ∈ Cond.classLink own ik cls :: Cond.initialized cls :: vx_atS own ic cls names, vx_ot w = true) (hK : va_K D cl tys s) (hZ : zP D cl A X Y L T H) (hS : va_S A s.heap H locs) (hlv : ls.size = c.maxLocals)
    (d0 : decode cc pc = .ok (.new ik, 3)) (d3 : decode cc (pc + 3) = .ok (.dup, 1)) (d4 : decode cc (pc + 4) = .ok (.ldc is, 2)) (d6 : decode cc (pc + 6) = .ok (.invokespecial ic, 3)) (d9 : decode cc (pc + 9) = .ok (.athrow, 1))
    (hout : ∀ x ∈ c.exceptionTable.toList, False) (hRframes : names.length + 3 < R.frames) (hRlocals : (rest.map fun v => v.category).sum + (13 * (names.length + 1) + 43) ≤ R.locals) (hRcells : cells + 1 ≤ R.cells) (hRslots : slots + 6 ≤ R.slots) (hlocks : meth.locks = false)
    (hp : px cls (Y, L, T)) (hc : cells + 1 ≤ mc) (hs : slots + 6 ≤ ms) :
    W p l e R s m args below meth c H locs cells slots (vx_MQ below Qc (zXC D cl tys A X px) args s mc ms A) (F0 m pc ls rest) := by
  refine vx_throwS (A := A) hexec hb hl hown hcls hnames hk hini (hE.2.2.1 _ hstr) hat hgood hE.2.2.2.2.1 hE.2.2.2.2.2.1 hS hlv d0 d3 d4 d6 d9 (fun x hx => (hout x hx).elim) hRframes hRlocals hRcells hRslots hlocks (fun t hvm hsz hk => ⟨(Y, L, T), trivial, ⟨hp, hZ.kept hk, va_K.moved hvm hK⟩, ?_⟩) hS.2.2 hc hs
  have hS2 : va_S A s.heap t.heap locs := ⟨Nat.le_trans hS.1 hsz, fun q g1 g2 => (hk q (Nat.lt_of_lt_of_le g1 hS.1)).trans (hS.2.1 q g1 g2), hS.2.2⟩
  exact hS2.F rfl
end ZX
section ZA
variable {p : Program} {l : Launch} {e : Env} {R : Room} {s : State} {m : MethodId} {args : Array Value} {below : List Frame} {meth : Method} {c : Code} {H : Heap} {locs : List Loc} {cells slots : Nat} {Q : State → Prop}
variable {cc : ByteArray} {pc : Nat} {ls : Array Slot} {rest : List Value} {D : va_G} {cl : List vw_C} {A : Nat → Prop} {a : Nat} {tys : List (ClassId × FieldType)} {X Y : va_W} {L : List Nat} {T : Nat → va_E → Prop} {H0 : Heap} {E : zEn}
/-- a new array of arrays -/
theorem z_newA (hexec : p.tables.exec = Jvm.exec) (hb : c.code = cc) {own : String} {ty : FieldType} {index : Nat} (hown : s.vm.findClass own = some m.cls) (hclink : (Cond.classLink own index (FieldType.array ty).toString).before args s = true) (hover : va_AOA ty s) (hK : va_K D cl tys s) (hZ : zP D cl A X Y L T H) (hS : va_S A H0 H locs) (hA : ∀ q, H0.size ≤ q → A q) (t0 : Nat) {cA : ClassId} (ht : tys[t0]? = some (cA, .array ty)) {n : Int32} {N : Nat} (hn : ¬ n < 0) (hN : n.toNatClampNeg = N) (hbytes : N * 4 ≤ 536870912) (hcells : cells + 1 ≤ R.cells) (hslots : slots + N ≤ R.slots) (hdg : decode cc pc = .ok (.anewarray index, 3))
    (kk : ∀ (q : Nat) (H1 : Heap), zP D cl A X (Y ++ [(q, .inl (cA, N, .inr (.inr (.inr (.inr (fun _ => none))))))]) L T H1 → va_S A H0 H1 locs → W p l e R s m args below meth c H1 locs (cells + 1) (slots + N) Q (F0 m (pc + 3) ls (.ref q :: rest))) : W p l e R s m args below meth c H locs cells slots Q (F0 m pc ls (.int n :: rest)) := by
  obtain ⟨f, h1, hP, hD⟩ := hZ
  subst hN
  refine W.anewA hexec hb hown hclink (va_AOA.use hover) rfl hdg rfl hn hbytes hcells hslots fun cB kA comp f1 f2 f3 f4 => ?_
  have hcc : cB = cA := Option.some.inj (f1.symm.trans (hK.2 t0 _ ht).2)
  subst hcc
  generalize hH1 : H.push ({ cls := cB, slots := Array.replicate n.toNatClampNeg .null, vm := .none } : Cell) = H1
  have z1 : H1.size = H.size + 1 := by rw [← hH1, Array.size_push]
  have e1 : H1[H.size]? = some (arrV cB n.toNatClampNeg (fun _ => .null)) := by rw [← hH1, Array.getElem?_push_size, ← arrV_new]
  have o1 : ∀ q : Nat, q < H.size → H1[q]? = H[q]? := fun q hq => by rw [← hH1, Array.getElem?_push, if_neg (Nat.ne_of_lt hq)]
  have hk : ∀ (k : Nat) (x : Nat × va_E), ((X ++ Y) ++ va_pl L f)[k]? = some x → H1[x.1]? = H[x.1]? := fun k x hx => o1 x.1 ((hP k x hx).lt)
  refine kk H.size H1 (z_told (locs1 := locs) h1 ((hP.kept hk).app (fun k x hx => ?_)) (hD.push hP rfl (hA _ hS.1))) ⟨Nat.le_trans hS.1 (by omega), fun x h1 h2 => (o1 x (Nat.lt_of_lt_of_le h1 hS.1)).trans (hS.2.1 x h1 h2), hS.2.2⟩
  have hz : k < 1 := (List.getElem?_eq_some_iff.mp hx).1
  rw [show k = 0 by omega] at hx
  cases hx
  show H1[H.size]? = some (vp_cell _ _)
  rw [vp_cell_q]
  exact e1
/-- what was pooled since may be forgotten -/
theorem zP.nodup (h : zP D cl A X Y L T H) : L.Nodup := by
  obtain ⟨f, h1, h2, h3⟩ := h
  have hw := (va_D_pw.mp h3).1
  rw [List.pairwise_append] at hw
  have := hw.2.1
  unfold va_pl at this
  rw [List.pairwise_map] at this
  exact this
theorem zP.forget {L1 : List Nat} {T1 : Nat → va_E → Prop} (h : zP D cl A X Y L1 T1 H) (hg : zG L T L1 T1) (hn : L.Nodup) : zP D cl A X Y L T H := by
  obtain ⟨f, h1, h2, h3⟩ := h
  have hm : ∀ q ∈ va_pl L f, q ∈ va_pl L1 f := fun q hq => by
    obtain ⟨a, ha, rfl⟩ := List.mem_map.mp hq
    exact List.mem_map.mpr ⟨a, hg.1 a ha, rfl⟩
  have hsub : ∀ q ∈ (X ++ Y) ++ va_pl L f, q ∈ (X ++ Y) ++ va_pl L1 f := fun q hq => (List.mem_append.mp hq).elim (fun h => List.mem_append_left _ h) (fun h => List.mem_append_right _ (hm q h))
  have hpw := va_D_pw.mp h3
  refine ⟨f, fun a ha => ?_, fun k q hk => ?_, va_D_pw.mpr ⟨?_, fun q hq => hpw.2 q (hsub q hq)⟩⟩
  · have := h1 a (hg.1 a ha)
    rw [hg.2 a ha] at this
    exact this
  · obtain ⟨k2, hk2⟩ := List.getElem?_of_mem (hsub q (List.mem_of_getElem? hk))
    exact h2 k2 q hk2
  · have hw := hpw.1
    rw [List.pairwise_append] at hw ⊢
    refine ⟨hw.1, ?_, fun a ha b hb => hw.2.2 a ha b (hm b hb)⟩
    unfold va_pl
    rw [List.pairwise_map]
    exact hn
/-- arraycopy of an old long array into a pooled one -/
theorem z_copyTl (hexec : p.tables.exec = Jvm.exec) (hb : c.code = cc) (hml : c.maxLocals = ls.size) {own : String} {index : Nat} (hown : s.vm.findClass own = some m.cls) (hlink : (Cond.methodLink own index arraycopyName).before args s = true) (hnat : (Cond.native arraycopyName).before args s = true) (hstat : (Cond.static arraycopyName).before args s = true) (hini : (Cond.initialized "java/lang/System").before args s = true)
    (hK : va_K D cl tys s) (hZ : zP D cl A X Y L T H) (hS : va_S A s.heap H locs) {b0 n0 n1 : Nat} {f : Nat → Int64} (hX : va_T .long b0 n0 (fun j => .long (f j)) A s s.heap) (t1 : Nat) {c1 : ClassId} (ha : a ∈ L) (hT : T a = zJ c1 n1) (ht1 : tys[t1]? = some (c1, .long))
    {sp dp n : Int32} (h1 : ¬ sp < 0) (h2 : ¬ dp < 0) (h3 : ¬ n < 0) (h4 : sp.toNatClampNeg + n.toNatClampNeg ≤ n0) (h5 : dp.toNatClampNeg + n.toNatClampNeg ≤ n1)
    (hframes : 1 ≤ R.frames) (hlocals : (rest.map fun v => v.category).sum + (nativeFrameWords "java/lang/System" "arraycopy" 5 + 11) ≤ R.locals) (hdg : decode cc pc = .ok (.invokestatic index, 3))
    (kk : ∀ (H1 : Heap) (locs1 : List Loc), zP D cl A X Y L T H1 → va_S A s.heap H1 locs1 → W p l e R s m args below meth c H1 locs1 cells slots Q (F0 m (pc + 3) ls rest)) : W p l e R s m args below meth c H locs cells slots Q (F0 m pc ls (.int n :: .int dp :: .ref a :: .int sp :: .ref b0 :: rest)) := by
  obtain ⟨ff, k1, hP, hD⟩ := hZ
  obtain ⟨g, hg⟩ : zJ c1 n1 (ff a) := hT ▸ k1 a ha
  obtain ⟨q1, hq1⟩ := va_pl_get (X := X ++ Y) (f := ff) ha
  have hq1' := hq1
  rw [hg] at hq1
  have nn : ∀ z : Int32, ¬ z < 0 → z.toInt = (z.toNatClampNeg : Int) := by
    intro z hz
    have hz0 : (0 : Int) ≤ z.toInt := by
      have := Int32.not_lt.mp hz
      simpa using Int32.le_iff_toInt_le.mp this
    show z.toInt = ((z.toInt.toNat : Nat) : Int)
    omega
  intro T9 hT9 X9
  obtain ⟨scr, hs1, hs2, hs3, hs4, -, hs5, hs7⟩ := hX
  have hc0 : H[b0]? = some scr := by rw [hS.2.1 b0 (Array.getElem?_eq_some_iff.mp hs1).1 hs7]; exact hs1
  have hc1 : H[a]? = some (vp_cell c1 (n1, .inr (.inl g))) := hP q1 _ hq1
  obtain ⟨hs6, k0, hk0, cm0, hkk0⟩ := hs2
  obtain ⟨-, kk1, hk1, cm1, hkk1⟩ := (hK.2 t1 _ ht1).1 n1 (fun j => .long (g j))
  obtain ⟨vm', X', step⟩ := X9.arraycopy hexec hown hlink hnat hstat hini (src := b0) (dst := a) (cs := scr) (cd := vp_cell c1 (n1, .inr (.inl g))) (srcPos := sp) (destPos := dp) (n := n) (by rw [hT9]; exact hc0) (by rw [hT9]; exact hc1)
    hs6 (fun _ h => by cases h) hs3 (fun h => by cases h) hk0 hk1 hkk0 hkk1 (by simp [refKind]) h1 h2 h3
    (by rw [nn sp h1, nn n h3]; omega)
    (by rw [nn dp h2, nn n h3]; show ¬ _ > ((arrV c1 n1 (fun j => .long (g j))).slots.size : Int); rw [arrV_size]; omega)
    (fun vm₁ _ i hi => by
      have e : scr.slots.getD (sp.toNatClampNeg + i) .null = .long (f (sp.toNatClampNeg + i)) := by
        rw [Array.getD_eq_getD_getElem?, hs5 _ (by omega)]
        rfl
      refine ⟨?_, ?_⟩
      · rw [e]
        rfl
      · rw [e]
        exact trivial)
    (g := F0 m pc ls (.int n :: .int dp :: .ref a :: .int sp :: .ref b0 :: rest)) rfl (by rw [hml]) (rest := rest) rfl (by rw [hb]; exact hdg) hframes (by show 2 * 0 + _ + _ ≤ _; omega)
  have e1 : copied scr (vp_cell c1 (n1, .inr (.inl g))) sp dp n = vp_cell c1 (n1, .inr (.inl (va_cpy f g sp.toNatClampNeg dp.toNatClampNeg n.toNatClampNeg))) := va_copiedX (fun z => .long z) scr c1 f g hs5 h4
  rw [e1] at X' step
  generalize hg2 : va_cpy f g sp.toNatClampNeg dp.toNatClampNeg n.toNatClampNeg = g2 at X' step
  have hl : a < H.size := (Array.getElem?_eq_some_iff.mp hc1).1
  have hheap : ((T9.setVm vm').setCell a (vp_cell c1 (n1, .inr (.inl g2)))).heap = H.setIfInBounds a (vp_cell c1 (n1, .inr (.inl g2))) := by rw [← hT9]; rfl
  have oq : ∀ q : Nat, q ≠ a → (H.setIfInBounds a (vp_cell c1 (n1, .inr (.inl g2))))[q]? = H[q]? := fun q hq => by simp [Array.getElem?_setIfInBounds, Ne.symm hq]
  have hat : va_at D cl (a, .inl (c1, n1, .inr (.inl g2))) (H.setIfInBounds a (vp_cell c1 (n1, .inr (.inl g2)))) := by
    show (H.setIfInBounds a (vp_cell c1 (n1, .inr (.inl g2))))[a]? = some (vp_cell c1 (n1, .inr (.inl g2)))
    simp [Array.getElem?_setIfInBounds, hl]
  have hP2 := hP.set hD hq1 hat oq
  have hD2 := hD.set (e := .inl (c1, n1, .inr (.inl g2))) hq1
  rw [va_pl_set hD ha hq1'] at hP2 hD2
  have hF2 : zF L T (va_up ff a (.inl (c1, n1, .inr (.inl g2)))) := by
    intro b hb
    by_cases e : b = a
    · subst e
      rw [va_up_self, hT]
      exact ⟨_, rfl⟩
    · rw [va_up_ne _ _ e]
      exact k1 b hb
  obtain ⟨t, a1, b1⟩ := kk _ _ ⟨_, hF2, hP2, hD2⟩ ⟨by simp; exact hS.1, fun q g1 g2 => by
      rw [oq q (fun e => g2 (by rw [e]; exact hD.2 q1 _ hq1))]
      exact hS.2.1 q g1 g2, fun q hq => by
      rcases List.mem_append.mp hq with h | h
      · exact hS.2.2 q h
      · obtain ⟨z, -, hz⟩ := List.mem_map.mp h
        rw [← hz]
        exact hD.2 q1 _ hq1⟩ _ hheap X'
  · exact ⟨t, step t a1, b1⟩
theorem z_recvS {a v n : Nat} (hE : zE E A s s.heap) (h : (a, v, n) ∈ E.2.2.2) (hS : va_S A s.heap H locs) : ∃ cell : Cell, H[a]? = some cell ∧ cell.vm.isStatics = false ∧ s.vm.findClass "java/lang/String" = some cell.cls := by
  obtain ⟨cell, h1, h2, h3, -⟩ := (hE.2.2.2.1 _ h).1.kept hS.2.1
  exact ⟨cell, h1, h2, h3⟩
end ZA
theorem zao {s : State} {E : zEn} {A : Nat → Prop} {H : Heap} (hE : zE E A s H) {C : String} (h : C ∈ zAOs) : va_AO C s := hE.2.2.2.2.2.2.1 C h
theorem zaoB {s : State} {E : zEn} {A : Nat → Prop} {H : Heap} (hE : zE E A s H) : va_AOA .byte s := hE.2.2.2.2.2.2.2.1
theorem zaoJ {s : State} {E : zEn} {A : Nat → Prop} {H : Heap} (hE : zE E A s H) : va_AOA .long s := hE.2.2.2.2.2.2.2.2.1
theorem znm {s : State} {E : zEn} {A : Nat → Prop} {H : Heap} (hE : zE E A s H) {x : String × Nat × MethodName × String} (h : x ∈ zNM) : va_Nw (.methodLinkNest x.1 x.2.1 x.2.2.1 x.2.2.2) s := hE.2.2.2.2.2.2.2.2.2.1 x h
theorem znf {s : State} {E : zEn} {A : Nat → Prop} {H : Heap} (hE : zE E A s H) {x : String × Nat × String × String × String × String} (h : x ∈ zNF) : va_Nw (.fieldLinkNest x.1 x.2.1 x.2.2.1 x.2.2.2.1 x.2.2.2.2.1 x.2.2.2.2.2) s := hE.2.2.2.2.2.2.2.2.2.2.1 x h
theorem znc {s : State} {E : zEn} {A : Nat → Prop} {H : Heap} (hE : zE E A s H) {x : String × String} (h : x ∈ zNC) : va_Nc x.1 x.2 s := hE.2.2.2.2.2.2.2.2.2.2.2.1 x h
theorem zdcl {s : State} {E : zEn} {A : Nat → Prop} {H : Heap} (hE : zE E A s H) : va_Nw (.declares ⟨"ShellPair$End", "asked", "()I"⟩) s := hE.2.2.2.2.2.2.2.2.2.2.2.2.1
theorem zmaxI {a b : Nat} (ha : a < 2147483648) (hb : b < 2147483648) : (if nI a < nI b then nI b else nI a) = nI (max a b) := by
  by_cases h : a < b
  · rw [if_pos (nI_lt h (by omega)), Nat.max_eq_right (by omega)]
  · rw [if_neg (nI_nlt (by omega) (by omega)), Nat.max_eq_left (by omega)]
theorem zminI {a b : Nat} (ha : a < 2147483648) (hb : b < 2147483648) : (if nI b < nI a then nI b else nI a) = nI (min a b) := by
  by_cases h : b < a
  · rw [if_pos (nI_lt h (by omega)), Nat.min_eq_right (by omega)]
  · rw [if_neg (nI_nlt (by omega) (by omega)), Nat.min_eq_left (by omega)]
section ZTB
variable {p : Program} {l : Launch} {e : Env} {R : Room} {s : State} {m : MethodId} {args : Array Value} {below : List Frame} {meth : Method} {c : Code} {H : Heap} {locs : List Loc} {cells slots : Nat} {Q : State → Prop}
variable {cc : ByteArray} {pc : Nat} {ls : Array Slot} {rest : List Value} {A : Nat → Prop}
/-- a byte of an old array of which the length alone is known -/
theorem z_tb (hexec : p.tables.exec = Jvm.exec) (hb : c.code = cc) {t N : Nat} (hT : ∃ f : Nat → Int32, va_T .byte t N (fun j => .int (f j)) A s s.heap) (hS : va_S A s.heap H locs) {i : Int32} (hin : vp_in i N) (hdg : decode cc pc = .ok (.baload, 1))
    (kk : ∀ v : Int32, W p l e R s m args below meth c H locs cells slots Q (F0 m (pc + 1) ls (.int v :: rest))) : W p l e R s m args below meth c H locs cells slots Q (F0 m pc ls (.int i :: .ref t :: rest)) := by
  obtain ⟨f, hT⟩ := hT
  exact va_tb hexec hb hT hS hin rfl hdg (kk _)
end ZTB
section ZAA
variable {p : Program} {l : Launch} {e : Env} {R : Room} {s : State} {m : MethodId} {args : Array Value} {below : List Frame} {meth : Method} {c : Code} {H : Heap} {locs : List Loc} {cells slots : Nat} {Q : State → Prop}
variable {cc : ByteArray} {pc : Nat} {ls : Array Slot} {rest : List Value} {D : va_G} {cl : List vw_C} {A : Nat → Prop} {a : Nat} {tys : List (ClassId × FieldType)} {X Y : va_W} {L : List Nat} {T : Nat → va_E → Prop} {H0 : Heap} {E : zEn}
/-- a row of bytes comes into a row of such rows -/
theorem z_astqB (hexec : p.tables.exec = Jvm.exec) (hb : c.code = cc) (hover : va_AOA .byte s) (hK : va_K D cl tys s) (hZ : zP D cl A X Y L T H) (hS : va_S A H0 H locs) (t0 t1 j k : Nat) {cA cB : ClassId} {n v n1 : Nat} {g : Nat → Option Nat} {f1 : Nat → Int32} (he : Y[j]? = some (a, .inl (cA, n, .inr (.inr (.inr (.inr g)))))) (ht : tys[t0]? = some (cA, .array .byte)) (hv : Y[k]? = some (v, .inl (cB, n1, .inl f1))) (ht1 : tys[t1]? = some (cB, .byte)) {i : Int32} (hin : vp_in i n) (hdg : decode cc pc = .ok (.aastore, 1))
    (kk : ∀ (H1 : Heap) (locs1 : List Loc), zP D cl A X (Y.set j (a, .inl (cA, n, .inr (.inr (.inr (.inr (va_up g i.toNatClampNeg (some v)))))))) L T H1 → va_S A H0 H1 locs1 → W p l e R s m args below meth c H1 locs1 cells slots Q (F0 m (pc + 1) ls rest)) : W p l e R s m args below meth c H locs cells slots Q (F0 m pc ls (.ref v :: .int i :: .ref a :: rest)) := by
  obtain ⟨f, h1, hP, hD⟩ := hZ
  have ha := zY_at (X := X) (L := L) (f := f) he
  have hq := zY_at (X := X) (L := L) (f := f) hv
  have hlt : i.toNatClampNeg < n := Nat.not_le.mp fun q => hin (Or.inr q)
  have h0 : ¬ i < 0 := fun q => hin (Or.inl q)
  obtain ⟨comp, c9, k9, o1, -, o3, o4, o5⟩ := zAOA_spec hover
  have hcA : c9 = cA := Option.some.inj (o5.symm.trans (hK.2 t0 _ ht).2)
  subst hcA
  have hcB : comp = cB := Option.some.inj (o1.symm.trans (hK.2 t1 _ ht1).2)
  subst hcB
  obtain ⟨-, kv, hkv, cm, -⟩ := (hK.2 t1 _ ht1).1 n1 (fun j => .int (f1 j))
  refine W.aast hexec hb (hP _ _ ha) (fun q h => by cases h) (fun h => by cases h) o3 o4 rfl hkv ⟨h0, by show _ < (arrV _ _ _).slots.size; rw [arrV_size]; exact hlt⟩ (hP _ _ hq) (fun q h => by cases h) hkv (va_asg _ _) rfl rfl hdg fun H1 e z oq => ?_
  have hset : va_at D cl (a, .inl (c9, n, .inr (.inr (.inr (.inr (va_up g i.toNatClampNeg (some v))))))) H1 := by
    show H1[a]? = some (vp_cell _ _)
    rw [e]
    rw [vp_cell_q, vp_cell_q, arrV_store]
    congr 2
    funext q
    by_cases hq : q = i.toNatClampNeg
    · subst hq
      simp [updV, va_up, va_rf]
    · simp [updV, va_up, hq]
  refine kk H1 _ ⟨f, h1, ?_, ?_⟩ (hS.put z oq (hD.2 _ _ ha))
  · have := hP.set hD ha hset oq
    rw [zY_set (List.getElem?_eq_some_iff.mp he).1] at this
    exact this
  · have := hD.set (e := .inl (c9, n, .inr (.inr (.inr (.inr (va_up g i.toNatClampNeg (some v))))))) ha
    rw [zY_set (List.getElem?_eq_some_iff.mp he).1] at this
    exact this
end ZAA
section ZLQ
variable {p : Program} {l : Launch} {e : Env} {R : Room} {s : State} {m : MethodId} {args : Array Value} {below : List Frame} {meth : Method} {c : Code} {H : Heap} {locs : List Loc} {cells slots : Nat} {Q : State → Prop}
variable {cc : ByteArray} {pc : Nat} {ls : Array Slot} {rest : List Value}
theorem zl_ldcwS (hexec : p.tables.exec = Jvm.exec) (hb : c.code = cc) {own tx : String} {index q : Nat} (hown : s.vm.findClass own = some m.cls) (hZ : vk_R own index tx q s) (hdg : decode cc pc = .ok (.ldc_w index, 3))
    (k : W p l e R s m args below meth c H locs cells slots Q (F0 m (pc + 3) ls (.ref q :: rest))) : W p l e R s m args below meth c H locs cells slots Q (F0 m pc ls rest) := by
  intro T hT X
  obtain ⟨t, a1, b1⟩ := k T hT X
  exact ⟨t, X.ldcStringW hexec hown (text := tx) (a := q) hZ.1 hZ.2 (g := F0 m pc ls rest) rfl (by rw [hb]; exact hdg) t a1, b1⟩
theorem zl_aload_nQ (hexec : p.tables.exec = Jvm.exec) (hb : c.code = cc) {k : Fin 4} {i : Nat} {r : Option Nat} (hdg : decode cc pc = .ok (.aload_n k, 1)) (hi : (k : Nat) = i) (hl : ls[i]? = some (.val (va_rf r)))
    (kk : W p l e R s m args below meth c H locs cells slots Q (F0 m (pc + 1) ls (va_rf r :: rest))) : W p l e R s m args below meth c H locs cells slots Q (F0 m pc ls rest) := by
  cases r with
  | none => exact lv_aload_nN hexec hb hdg hi hl kk
  | some a => exact lv_aload_n hexec hb hdg hi hl kk
end ZLQ

section
/-- (the printed head names va_AOA and va_AOA.use, which stand nowhere: by the pattern of va_AO) -/
def va_AOA (ty : FieldType) (U : State) : Prop := (Cond.arrayOver (.array ty)).before #[] U = true
theorem va_AOA.of {ty : FieldType} {A : Array Value} {U : State} (h : (Cond.arrayOver (.array ty)).before A U = true) : va_AOA ty U := h
theorem va_AOA.use {ty : FieldType} {A : Array Value} {U : State} (h : va_AOA ty U) : (Cond.arrayOver (.array ty)).before A U = true := h
/-! ===== BEGIN words of one list among another's, by their places ===== -/
theorem goodIn_r {big : List Cond} (ws : List Cond) (ps : List Nat) (hp : ws = ps.filterMap (fun i => big[i]?)) (h : ws.all goodWord = true) : GoodIn big ws := by
  intro w hw
  have h1 := List.all_eq_true.mp h w hw
  rw [hp] at hw
  obtain ⟨i, -, hi⟩ := List.mem_filterMap.mp hw
  have hm : w ∈ big := by first | exact List.mem_of_getElem? hi | exact List.getElem?_mem hi
  exact ⟨hm, good_of_word h1⟩
theorem goodIn_app {big a b : List Cond} (ha : GoodIn big a) (hb : GoodIn big b) : GoodIn big (a ++ b) := fun w h => (List.mem_append.mp h).elim (ha w) (hb w)
theorem goodIn_ca {big a b : List Cond} {c : Cond} (ha : GoodIn big (c :: a)) (hb : GoodIn big b) : GoodIn big (c :: (a ++ b)) := fun w h => (List.mem_cons.mp h).elim (fun e => ha w (List.mem_cons.mpr (Or.inl e))) (fun h => (List.mem_append.mp h).elim (fun h => ha w (List.mem_cons.mpr (Or.inr h))) (hb w))
theorem goodIn_sub {big ws : List Cond} (hm : ∀ w ∈ ws, w ∈ big) (h : ws.all goodWord = true) : GoodIn big ws := fun w hw => ⟨hm w hw, good_of_word (List.all_eq_true.mp h w hw)⟩
/-! ===== END ===== -/

/-! ===== BEGIN new T[n][m]: the outer array a place, the inner ones among the pooled ===== -/
/-- f, but v at every address of l -/
def vr_up {α : Type} (f : Nat → α) (l : List Nat) (v : α) : Nat → α := fun a => if a ∈ l then v else f a
theorem vr_up_in {α : Type} {f : Nat → α} {l : List Nat} {v : α} {a : Nat} (h : a ∈ l) : vr_up f l v a = v := if_pos h
theorem vr_up_ne {α : Type} {f : Nat → α} {l : List Nat} {v : α} {a : Nat} (h : a ∉ l) : vr_up f l v a = f a := if_neg h
theorem vr_rows {L l : List Nat} {f : Nat → va_E} {e : va_E} (h : ∀ a, a ∈ l → a ∉ L) : va_pl L f ++ l.map (fun a => (a, e)) = va_pl (L ++ l) (vr_up f l e) := by
  unfold va_pl
  rw [List.map_append]
  congr 1
  · apply List.map_congr_left
    intro a ha
    rw [vr_up_ne (fun q => h a q ha)]
  · apply List.map_congr_left
    intro a ha
    rw [vr_up_in ha]
theorem vr_lay {X rows : va_W} {x : Nat × va_E} {pl : va_W} {D : va_G} {cl : List vw_C} {H : Heap} (hP : va_P D cl (((X ++ pl) ++ [x]) ++ rows) H) : va_P D cl ((X ++ [x]) ++ (pl ++ rows)) H := by
  rw [List.append_assoc (X ++ pl)] at hP
  have h := va_P.swap hP
  rw [← List.append_assoc X] at h
  have h2 := va_P.swap h
  rw [List.append_assoc (X ++ [x])] at h2
  exact h2
theorem vr_layD {X rows : va_W} {x : Nat × va_E} {pl : va_W} {A : Nat → Prop} (hD : va_D A (((X ++ pl) ++ [x]) ++ rows)) : va_D A ((X ++ [x]) ++ (pl ++ rows)) := by
  rw [List.append_assoc (X ++ pl)] at hD
  have h := va_D.swap hD
  rw [← List.append_assoc X] at h
  have h2 := va_D.swap h
  rw [List.append_assoc (X ++ [x])] at h2
  exact h2
theorem vr_outer (c : ClassId) (N h0 : Nat) : ∀ i : Nat, Jvm.Free.Multi.outerC c N h0 i = arrV c N (fun j => va_rf (if j < i then some (h0 + 1 + j) else none))
  | 0 => by
    show ({ cls := c, slots := Array.replicate N .null, vm := .none } : Cell) = _
    rw [arrV_new]
    refine congrArg (arrV c N) (funext fun j => ?_)
    simp [va_rf]
  | i + 1 => by
    show (Jvm.Free.Multi.outerC c N h0 i).setSlot i (.ref (h0 + 1 + i)) = _
    rw [vr_outer c N h0 i, arrV_store]
    refine congrArg (arrV c N) (funext fun j => ?_)
    by_cases e : j = i
    · subst e
      simp [updV, va_rf]
    · by_cases h : j < i
      · simp [updV, e, h, Nat.lt_succ_of_lt h]
      · simp [updV, e, h, show ¬ j < i + 1 by omega]
section VGM
variable {p : Program} {l : Launch} {e : Env} {R : Room} {s : State} {m : MethodId} {args : Array Value} {below : List Frame} {meth : Method} {c : Code} {H : Heap} {locs : List Loc} {cells slots : Nat} {Q : State → Prop}
variable {cc : ByteArray} {pc : Nat} {ls : Array Slot} {rest : List Value} {D : va_G} {cl : List vw_C} {A : Nat → Prop} {a : Nat} {tys : List (ClassId × FieldType)} {ws : va_W} {H0 : Heap}
theorem va_mna {X : va_W} {L : List Nat} {f : Nat → va_E} {cc : ByteArray} (hexec : p.tables.exec = Jvm.exec) (hb : c.code = cc) {own : String} {index : Nat} {ty : FieldType} {cy : ClassId} (hown : s.vm.findClass own = some m.cls) (hclink : (Cond.classLink own index ("[" ++ (FieldType.array ty).toString)).before args s = true) (hover : va_AOA ty s) (harr : (Cond.arrayClass ty).before args s = true) (hcy : s.vm.findClass (FieldType.array ty).toString = some cy)
    (hK : va_K D cl tys s) (hP : va_P D cl (X ++ va_pl L f) H) (hD : va_D A (X ++ va_pl L f)) (hS : va_S A H0 H locs) (hA : ∀ q, H0.size ≤ q → A q) {n k : Int32} {N' K' : Nat} {z : vp_A} (hn : ¬ n < 0) (hk : ¬ k < 0) (hN : n.toNatClampNeg = N') (hM : k.toNatClampNeg = K')
    (hb1 : N' * 4 ≤ 536870912) (hb2 : K' * componentBytes ty ≤ 536870912) (hb3 : K' ≤ 536870912) (hdf : fits ty (defaultValue ty) = true) (hdd : (defaultValue ty).isDefault = true) (hcells : cells + (1 + N') ≤ R.cells) (hslots : slots + (N' + N' * K') ≤ R.slots) (hz : ∀ c : ClassId, Jvm.Free.Multi.innerC c K' (defaultValue ty) = vp_cell c z) (hdg : decode cc pc = .ok (.multianewarray index 2, 4))
    (kk : ∀ (q : Nat) (r : Nat → Nat) (cA : ClassId) (H1 : Heap), (∀ i j : Nat, i < N' → j < N' → r i = r j → i = j) → (∀ i : Nat, i < N' → r i ∉ L) → va_K D cl (tys ++ [(cA, .array ty)]) s →
      va_P D cl ((X ++ [(q, .inl (cA, N', .inr (.inr (.inr (.inr (fun i => if i < N' then some (r i) else none))))))]) ++ va_pl (L ++ (List.range N').map r) (vr_up f ((List.range N').map r) (.inl (cy, z)))) H1 → va_D A ((X ++ [(q, .inl (cA, N', .inr (.inr (.inr (.inr (fun i => if i < N' then some (r i) else none))))))]) ++ va_pl (L ++ (List.range N').map r) (vr_up f ((List.range N').map r) (.inl (cy, z)))) → va_S A H0 H1 locs →
      W p l e R s m args below meth c H1 locs (cells + 1 + N') (slots + N' + N' * K') Q (F0 m (pc + 4) ls (.ref q :: rest))) : W p l e R s m args below meth c H locs cells slots Q (F0 m pc ls (.int k :: .int n :: rest)) := by
  subst hN
  subst hM
  intro T hT Xs
  obtain ⟨vm₁, cA, comp, -, fA, fC, hO, -, X', step⟩ := Xs.multianewarray2F hexec hown hclink (va_AOA.use hover) harr (g := F0 m pc ls (.int k :: .int n :: rest)) rfl (by rw [hb]; exact hdg) rfl hn hk hb1 hb2 hb3 hdf hdd hcells hslots
  have ec : some cy = some comp := hcy.symm.trans fC
  cases ec
  generalize hF : Jvm.Free.Multi.fill (T.setVm vm₁) cA cy n.toNatClampNeg k.toNatClampNeg (defaultValue ty) n.toNatClampNeg = F at X' step
  have hTh : (T.setVm vm₁).heap = H := hT
  obtain ⟨f1, f2, -, -⟩ := Jvm.Free.Multi.fill_facts (T.setVm vm₁) cA cy n.toNatClampNeg k.toNatClampNeg (defaultValue ty) n.toNatClampNeg
  rw [hF, hTh] at f1 f2
  have hold : ∀ x : Nat, x < H.size → F.heap[x]? = H[x]? := fun x hx => by
    have := Jvm.Free.Multi.fill_old (T.setVm vm₁) cA cy n.toNatClampNeg k.toNatClampNeg (defaultValue ty) (a := x) (by rw [hTh]; exact hx) n.toNatClampNeg
    rw [hF, hTh] at this
    exact this
  have hrow : ∀ j : Nat, j < n.toNatClampNeg → F.heap[H.size + 1 + j]? = some (vp_cell cy z) := fun j hj => by
    have := Jvm.Free.Multi.fill_inner (T.setVm vm₁) cA cy n.toNatClampNeg k.toNatClampNeg (defaultValue ty) n.toNatClampNeg j hj
    rw [hF, hTh, hz] at this
    exact this
  have hout : Jvm.Free.Multi.outerC cA n.toNatClampNeg H.size n.toNatClampNeg = vp_cell cA (n.toNatClampNeg, .inr (.inr (.inr (.inr (fun i => if i < n.toNatClampNeg then some (H.size + 1 + i) else none))))) := by
    rw [vp_cell_q]
    exact vr_outer cA n.toNatClampNeg H.size n.toNatClampNeg
  rw [hout] at f2
  have hlt : ∀ a, a ∈ L → a < H.size := fun a ha => by
    obtain ⟨k9, hk9⟩ := va_pl_get (X := X) (f := f) ha
    exact (hP k9 _ hk9).lt
  have hnl : ∀ i : Nat, i < n.toNatClampNeg → H.size + 1 + i ∉ L := fun i _ h => by
    have := hlt _ h
    omega
  have hnm : ∀ a, a ∈ (List.range n.toNatClampNeg).map (fun i => H.size + 1 + i) → a ∉ L := fun a ha h => by
    obtain ⟨i, -, rfl⟩ := List.mem_map.mp ha
    have := hlt _ h
    omega
  have hP0 : va_P D cl (X ++ va_pl L f) F.heap := hP.kept (fun k9 x hx => hold x.1 ((hP k9 x hx).lt))
  have hP1 : va_P D cl ((X ++ va_pl L f) ++ [(H.size, .inl (cA, n.toNatClampNeg, .inr (.inr (.inr (.inr (fun i => if i < n.toNatClampNeg then some (H.size + 1 + i) else none))))))]) F.heap := hP0.app (fun k9 x hx => by
    have h0 : k9 < 1 := (List.getElem?_eq_some_iff.mp hx).1
    rw [show k9 = 0 by omega] at hx
    cases hx
    exact f2)
  have hP2 : va_P D cl (((X ++ va_pl L f) ++ [(H.size, .inl (cA, n.toNatClampNeg, .inr (.inr (.inr (.inr (fun i => if i < n.toNatClampNeg then some (H.size + 1 + i) else none))))))]) ++ ((List.range n.toNatClampNeg).map (fun i => H.size + 1 + i)).map (fun a => (a, .inl (cy, z)))) F.heap := hP1.app (fun k9 x hx => by
    obtain ⟨a, ha, rfl⟩ := List.mem_map.mp (List.mem_of_getElem? hx)
    obtain ⟨i, hi, rfl⟩ := List.mem_map.mp ha
    exact hrow i (List.mem_range.mp hi))
  have hD2 : va_D A (((X ++ va_pl L f) ++ [(H.size, .inl (cA, n.toNatClampNeg, .inr (.inr (.inr (.inr (fun i => if i < n.toNatClampNeg then some (H.size + 1 + i) else none))))))]) ++ ((List.range n.toNatClampNeg).map (fun i => H.size + 1 + i)).map (fun a => (a, .inl (cy, z)))) := by
    have hD1 := hD.push (e := .inl (cA, n.toNatClampNeg, .inr (.inr (.inr (.inr (fun i => if i < n.toNatClampNeg then some (H.size + 1 + i) else none)))))) hP rfl (hA _ hS.1)
    generalize hW1 : (X ++ va_pl L f) ++ [(H.size, .inl (cA, n.toNatClampNeg, .inr (.inr (.inr (.inr (fun i => if i < n.toNatClampNeg then some (H.size + 1 + i) else none))))))] = W1 at hD1 hP1 ⊢
    have hle : ∀ (k9 : Nat) (x : Nat × va_E), W1[k9]? = some x → x.1 ≤ H.size := fun k9 x hx => by
      rw [← hW1] at hx
      by_cases hl : k9 < (X ++ va_pl L f).length
      · rw [List.getElem?_append_left hl] at hx
        exact Nat.le_of_lt ((hP k9 x hx).lt)
      · rw [List.getElem?_append_right (by omega)] at hx
        have h0 : k9 - (X ++ va_pl L f).length < 1 := (List.getElem?_eq_some_iff.mp hx).1
        rw [show k9 - (X ++ va_pl L f).length = 0 by omega] at hx
        cases hx
        exact Nat.le_refl _
    have hr : ∀ (k9 : Nat) (x : Nat × va_E), (((List.range n.toNatClampNeg).map (fun i => H.size + 1 + i)).map (fun a => ((a, .inl (cy, z)) : Nat × va_E)))[k9]? = some x → x.1 = H.size + 1 + k9 := fun k9 x hx => by
      rw [List.getElem?_map, List.getElem?_map] at hx
      by_cases h9 : k9 < n.toNatClampNeg
      · rw [List.getElem?_range h9] at hx
        cases hx
        rfl
      · have hn0 : (List.range n.toNatClampNeg)[k9]? = none := List.getElem?_eq_none (by rw [List.length_range]; omega)
        rw [hn0] at hx
        cases hx
    refine ⟨fun i j x y hi hj hxy => ?_, fun k9 x hx => ?_⟩
    · by_cases h1 : i < W1.length <;> by_cases h2 : j < W1.length
      · rw [List.getElem?_append_left h1] at hi
        rw [List.getElem?_append_left h2] at hj
        exact hD1.1 i j x y hi hj hxy
      · rw [List.getElem?_append_left h1] at hi
        rw [List.getElem?_append_right (by omega)] at hj
        have := hle _ _ hi
        have := hr _ _ hj
        omega
      · rw [List.getElem?_append_right (by omega)] at hi
        rw [List.getElem?_append_left h2] at hj
        have := hle _ _ hj
        have := hr _ _ hi
        omega
      · rw [List.getElem?_append_right (by omega)] at hi hj
        have := hr _ _ hi
        have := hr _ _ hj
        omega
    · by_cases h1 : k9 < W1.length
      · rw [List.getElem?_append_left h1] at hx
        exact hD1.2 k9 x hx
      · rw [List.getElem?_append_right (by omega)] at hx
        have := hr _ _ hx
        exact hA _ (by have := hS.1; omega)
  have hAr : ArrOfT s cA (.array ty) := fun N9 z9 => by
    obtain ⟨-, k9, hk9, cm9, hkk9⟩ := (hO 0 0 0).1
    exact ⟨(fun q hq => by cases hq), k9, hk9, cm9, hkk9⟩
  have hK2 : va_K D cl (tys ++ [(cA, .array ty)]) s := ⟨hK.1, fun k9 x hx => by
    by_cases hl : k9 < tys.length
    · rw [List.getElem?_append_left hl] at hx
      exact hK.2 k9 x hx
    · rw [List.getElem?_append_right (by omega)] at hx
      have h0 : k9 - tys.length < 1 := (List.getElem?_eq_some_iff.mp hx).1
      rw [show k9 - tys.length = 0 by omega] at hx
      cases hx
      exact ⟨hAr, fA⟩⟩
  obtain ⟨t, a1, b1⟩ := kk H.size (fun i => H.size + 1 + i) cA F.heap (fun i j _ _ h => by have h9 : H.size + 1 + i = H.size + 1 + j := h; omega) hnl hK2 (by rw [← vr_rows hnm]; exact vr_lay hP2) (by rw [← vr_rows hnm]; exact vr_layD hD2) ⟨by rw [f1]; have := hS.1; omega, fun x h1 h2 => (hold x (Nat.lt_of_lt_of_le h1 hS.1)).trans (hS.2.1 x h1 h2), hS.2.2⟩ F rfl X'
  refine ⟨t, step t ?_, b1⟩
  have e : T.heap.size = H.size := by rw [hT]
  rw [e]
  exact a1
end VGM
/-! ===== END ===== -/

/-! ===== BEGIN exceptions that leave a method, and their catching by the caller (launches without stack traces) ===== -/
section VXA
/-! The laws vx_back, vx_callV, vx_callS, vx_callSW, vx_throw0, vx_throwS follow proofs of the library, with one case more: JvmDerived/Free/Laws.lean (Back.of_free), Shelf42/LK1.lean (callV, callS), Shelf/KitTraced.lean (throwNew0V, throwNewS). -/
/-- where a method has thrown q: the class by its name, the cell, what was written, the world -/
def vx_T (XC : String → State → State → Prop) (st : State) (q : Addr) (t : State) (mc ms : Nat) (free : Addr → Prop) : Prop :=
  ∃ (E : String) (ce : Cell) (L : List Loc), XC E st t ∧ t.heap[q]? = some ce ∧ ce.vm = .none ∧ st.vm.findClass E = some ce.cls ∧ st.WarmedH t.vm ∧ st.sameButNew ({ t with vm := st.vm } : State) L mc ms ∧ ∀ z ∈ L, free z.base
def vx_Q (Qc : Array Value → State → Outcome → State → Prop) (XC : String → State → State → Prop) (mc ms : Nat) (free : Addr → Prop) : Array Value → State → Outcome → State → Prop := fun a st o t =>
  (Qc a st o t ∧ ∃ L, FrameEnd st o t L mc ms ∧ ∀ q ∈ L, free q.base) ∨ ∃ q, o = .threw q ∧ vx_T XC st q t mc ms free
/-- a callee that returns or throws -/
def vx_Met (l : Launch) (y : MethodName) (ws : List Cond) (rm : Room) (Pc : Array Value → State → Prop) (Qc : Array Value → State → Outcome → State → Prop) (XC : String → State → State → Prop) (mc ms : Nat) (free : Addr → Prop) : Prop :=
  MetFree l y (headSpec ws rm) Pc (fun _ _ _ _ _ => True) (vx_Q Qc XC mc ms free)
def vx_Post (XC : String → State → State → Prop) (mc ms : Nat) (free : Addr → Prop) : Pt → Array Value → Addr → Pt → Prop := fun A a q B =>
  ∃ (g : JFrame) (mk : MethodId) (t : State) (L : List Loc) (E : String) (ce : Cell), B.U.heap = t.heap ∧ B.U.vm = t.vm ∧ XC E (A.U.calling g mk a) t ∧ t.heap[q]? = some ce ∧ ce.vm = .none ∧ A.U.vm.findClass E = some ce.cls ∧ B.locs = A.locs ++ L ∧ (∀ z ∈ L, free z.base) ∧ B.cells = A.cells + mc ∧ B.slots = A.slots + ms
def vx_Back (l : Launch) (R : Room) (p : Program) (e : Env) (below : List Frame) (s : State) (sargs : Array Value) (y : MethodName) (len W9 : Nat)
    (Pre : Pt → Array Value → Prop) (Post : Pt → Array Value → Option Value → Pt → Prop) (PostX : Pt → Array Value → Addr → Pt → Prop) : Prop :=
  ∀ (m : MethodId) (meth : Method) (c : Code) (A : Pt) (g : JFrame) (ig : Instr) (mk : MethodId) (a : Array Value),
    Stand p l e R s m sargs below meth c A.U A.locs A.cells A.slots → g.method = m → g.locals.size = c.maxLocals → decode c.code g.pc = .ok (ig, len) →
    2 * g.monitorRoom + (g.stack.map fun v => v.category).sum ≤ W9 → A.U.methodNamed? y = some mk → Pre A a →
    (∃ (v : Option Value) (B : Pt), Stand p l e R s m sargs below meth c B.U B.locs B.cells B.slots ∧ Post A a v B ∧
      Steps p.tables e below (doInvoke e (A.U.setTop g) [] mk a).1 (B.U.setTop { g with pc := g.pc + len, stack := v.toList ++ g.stack })) ∨
    (∃ (q : Addr) (B : Pt), Stand p l e R s m sargs below meth c B.U B.locs B.cells B.slots ∧ PostX A a q B ∧
      Steps p.tables e below (doInvoke e (A.U.setTop g) [] mk a).1 ((B.U.setTop g).pushFrame (.throwing q)))
section Payer
variable {l : Launch} {R : Room} {p : Program} {e : Env} {below : List Frame} {s : State} {sargs : Array Value} {y : MethodName} {len W9 : Nat}
theorem vx_back {ws : List Cond} {rm : Room} {Pc : Array Value → State → Prop} {Qc : Array Value → State → Outcome → State → Prop} {XC : String → State → State → Prop} {mc ms : Nat} {free : Addr → Prop} {bytes : ByteArray} {maxL : Nat} {ret : Option FieldType}
    (hM : vx_Met l y ws rm Pc Qc XC mc ms free) (hblind : FrameBlind Pc) (hrc : rm.cells = mc) (hrs : rm.slots = ms)
    (hframes : rm.frames + 1 ≤ R.frames) (hlocals : W9 + (maxL + 11) + rm.locals ≤ R.locals)
    (hws : ∀ w ∈ ws, ∀ a' U, s.WarmedH U.vm → w.before a' U = true) (hcode : Cond.code y bytes maxL ret ∈ ws) (hinit : ∀ a' U, s.WarmedH U.vm → (Cond.initialized y.cls).before a' U = true) :
    vx_Back l R p e below s sargs y len W9 (PreOf R mc ms Pc) (PostOf Qc mc ms free) (vx_Post XC mc ms free) := by
  intro m meth c A g ig mk a X hg hsize hdg hW hn hp
  have h1 : (headSpec ws rm).pre.before a A.U = true := atoms_intro fun w hw => hws w hw _ _ X.warmed
  have h2 : (Cond.code y bytes maxL ret).before a A.U = true := hws _ hcode _ _ X.warmed
  have h3 : (Cond.initialized y.cls).before a A.U = true := hinit _ _ X.warmed
  have h4 : A.cells + (headSpec ws rm).room.cells ≤ R.cells := by rw [show (headSpec ws rm).room.cells = mc from hrc]; exact hp.1
  have h5 : A.slots + (headSpec ws rm).room.slots ≤ R.slots := by rw [show (headSpec ws rm).room.slots = ms from hrs]; exact hp.2.1
  have hPc : Pc a (A.U.calling g mk a) := hblind _ _ _ _ hp.2.2
  obtain ⟨U, Ls, c0, s0⟩ := A
  dsimp only [Pt.U, Pt.locs, Pt.cells, Pt.slots] at h1 h2 h3 h4 h5 X hn hPc ⊢
  obtain ⟨methY, cY, hmY, hcY, -, hlY, -, -, -, -⟩ := Cond.code_spec hn h2
  obtain ⟨kY, hkY, -⟩ := className_of_methodNamed hn
  have hinitY : kY.init = .initialized := Cond.initialized_spec (findClass_of_methodNamed hn) hkY h3
  have h : At U g.method c below := by rw [hg]; exact X.here
  have hlocals9 : W9 + (maxL + 11) + (headSpec ws rm).room.locals ≤ R.locals := hlocals
  have happ : (headSpec ws rm).appliesLoose y e.platform (U.calling g mk a) = true :=
    Spec.appliesLoose_calling (g := g) h hdg hn hkY hinitY
      (X.room_calling (g := g) (R' := (headSpec ws rm).room) hsize hmY hcY hframes (by rw [hlY]; omega) h4 h5) h1
  obtain ⟨mid, hmid⟩ := h.above
  have hfr : (U.setTop g).frames = (.java g :: mid) ++ below := by rw [State.frames_setTop' g h.top, hmid]; rfl
  obtain ⟨o, s₂, hsteps, -, hend, hq⟩ := Steps.callFree hM p X.admits X.cas X.clock (acts := []) hfr happ hPc trivial
  have hq' : vx_Q Qc XC mc ms free a (U.calling g mk a) o s₂ := hq
  rw [State.frames_setTop' g h.top] at hend
  obtain ⟨g₀, hg0⟩ := Option.isSome_iff_exists.mp h.top
  obtain ⟨r, hr⟩ := State.topJava?_eq_some.mp hg0
  have hr' : (({ U with heap := s₂.heap, slotsUsed := s₂.slotsUsed } : State).setVm s₂.vm).frames = .java g₀ :: r := hr
  rcases hq' with ⟨hqc, L, hfe, hL⟩ | ⟨q, rfl, E, ce, L, hx, hce, hcv, hcl, hW₂, hsm, hL⟩
  · obtain ⟨⟨v, rfl⟩, hW₂, e2, q2, q3, q4, q5, q6⟩ := id hfe
    have e3 : s₂ = ({ (U.calling g mk a).setFrames s₂.frames with heap := s₂.heap, slotsUsed := s₂.slotsUsed } : State).setVm s₂.vm := by
      have : s₂ = ({ s₂ with vm := (U.calling g mk a).vm } : State).setVm s₂.vm := rfl
      rw [e2] at this
      exact this
    obtain ⟨c₂, i₂, len₂, hc₂, hd₂, hf₂⟩ := hend
    have hW' : U.WarmedH s₂.vm := hW₂
    have hcc : c₂ = c := by
      have h1 : s₂.code? g.method = U.code? g.method := by
        rw [State.code?_eq, State.code?_eq, hW'.alike.method?]
      exact Option.some.inj (hc₂.symm.trans (h1.trans h.code))
    subst hcc
    have hlen : len₂ = len := by rw [hdg] at hd₂; cases hd₂; rfl
    subst hlen
    have hs₂ : s₂ = (({ U with heap := s₂.heap, slotsUsed := s₂.slotsUsed } : State).setVm s₂.vm).setTop { g with pc := g.pc + len₂, stack := v.toList ++ g.stack } := by
      refine e3.trans ?_
      rw [hf₂, State.calling_eq h.top, State.setFrames_setFrames, State.setTop_of_frames _ hr', hr]
      rfl
    have hsame : U.sameButNew ({ U with heap := s₂.heap, slotsUsed := s₂.slotsUsed } : State) L mc ms := by
      refine ⟨?_, q2, q3, q4, q5, q6⟩
      obtain ⟨t, ht, -⟩ := State.frames_cons hr
      show ({ U with heap := s₂.heap, slotsUsed := s₂.slotsUsed } : State) = { U.setFrames U.frames with heap := s₂.heap, slotsUsed := s₂.slotsUsed }
      rw [State.setFrames_self ht]
    subst hg
    refine Or.inl ⟨v, ⟨(({ U with heap := s₂.heap, slotsUsed := s₂.slotsUsed } : State).setVm s₂.vm), Ls ++ L, c0 + mc, s0 + ms⟩,
      ⟨X.admits, X.cas, X.clock, X.frames, X.room, X.hears, X.method, X.code, (X.here.setHeapUsed s₂.heap s₂.slotsUsed).setVm hW'.alike, X.tail, State.WarmedH.trans X.warmed hW', X.limits, X.bytes, X.same.trans (hsame.setVm s.vm)⟩,
      ⟨g, mk, s₂, L, rfl, rfl, hqc, rfl, hL, rfl, rfl⟩, ?_⟩
    show Steps p.tables e below _ ((({ U with heap := s₂.heap, slotsUsed := s₂.slotsUsed } : State).setVm s₂.vm).setTop { g with pc := g.pc + len₂, stack := v.toList ++ g.stack })
    rw [← hs₂]
    exact hsteps
  · obtain ⟨e2, q2, q3, q4, q5, q6⟩ := id hsm
    have e3 : s₂ = ({ (U.calling g mk a).setFrames s₂.frames with heap := s₂.heap, slotsUsed := s₂.slotsUsed } : State).setVm s₂.vm := by
      have : s₂ = ({ s₂ with vm := (U.calling g mk a).vm } : State).setVm s₂.vm := rfl
      rw [e2] at this
      exact this
    have hf₂ : s₂.frames = .throwing q :: .java g :: U.frames.tail := hend
    have hW' : U.WarmedH s₂.vm := hW₂
    have hs₂ : s₂ = ((({ U with heap := s₂.heap, slotsUsed := s₂.slotsUsed } : State).setVm s₂.vm).setTop g).pushFrame (.throwing q) := by
      refine e3.trans ?_
      rw [hf₂, State.calling_eq h.top, State.setFrames_setFrames, State.pushFrame, State.frames_setTop _ hr', State.setTop_of_frames _ hr', State.setFrames_setFrames, hr]
      rfl
    have hsame : U.sameButNew ({ U with heap := s₂.heap, slotsUsed := s₂.slotsUsed } : State) L mc ms := by
      refine ⟨?_, q2, q3, q4, q5, q6⟩
      obtain ⟨t, ht, -⟩ := State.frames_cons hr
      show ({ U with heap := s₂.heap, slotsUsed := s₂.slotsUsed } : State) = { U.setFrames U.frames with heap := s₂.heap, slotsUsed := s₂.slotsUsed }
      rw [State.setFrames_self ht]
    subst hg
    refine Or.inr ⟨q, ⟨(({ U with heap := s₂.heap, slotsUsed := s₂.slotsUsed } : State).setVm s₂.vm), Ls ++ L, c0 + mc, s0 + ms⟩,
      ⟨X.admits, X.cas, X.clock, X.frames, X.room, X.hears, X.method, X.code, (X.here.setHeapUsed s₂.heap s₂.slotsUsed).setVm hW'.alike, X.tail, State.WarmedH.trans X.warmed hW', X.limits, X.bytes, X.same.trans (hsame.setVm s.vm)⟩,
      ⟨g, mk, s₂, L, E, ce, rfl, rfl, hx, hce, hcv, hcl, rfl, hL, rfl, rfl⟩, ?_⟩
    show Steps p.tables e below _ (((({ U with heap := s₂.heap, slotsUsed := s₂.slotsUsed } : State).setVm s₂.vm).setTop g).pushFrame (.throwing q))
    rw [← hs₂]
    exact hsteps
end Payer
section Calls
variable {p : Program} {l : Launch} {e : Env} {R : Room} {s : State} {m : MethodId} {args : Array Value} {below : List Frame} {meth : Method} {c : Code} {T : State} {locs : List Loc} {cells slots : Nat}
theorem vx_callV (X : Stand p l e R s m args below meth c T locs cells slots) (hexec : p.tables.exec = Jvm.exec) {own C : String} {index : Nat} {y : MethodName} {bytes : ByteArray} {maxL : Nat} {ret : Option FieldType}
    (hown : s.vm.findClass own = some m.cls) (hlink : (Cond.methodLink own index y).before args s = true) (hinst : (Cond.instanceMethod y).before args s = true) (hsel : (Cond.selects C y y).before args s = true)
    (hcode : (Cond.code y bytes maxL ret).before args s = true) (hy : y.cls ≠ "java/lang/invoke/MethodHandle" ∧ y.cls ≠ "java/lang/invoke/VarHandle")
    {W9 : Nat} {Pre : Pt → Array Value → Prop} {Post : Pt → Array Value → Option Value → Pt → Prop} {PostX : Pt → Array Value → Addr → Pt → Prop} (hK : vx_Back l R p e below s args y 3 W9 Pre Post PostX)
    {b : Addr} {cellB : Cell} (hcell : T.heap[b]? = some cellB) (hobj : cellB.vm.isStatics = false) (hcls : s.vm.findClass C = some cellB.cls)
    {g : JFrame} (hg : g.method = m) (hsize : g.locals.size = c.maxLocals) {argsL rest : List Value} (hlen : ∀ sig, parseMethodDescriptor y.desc = some sig → argsL.length = sig.parameters.length)
    (hstack : g.stack = argsL.reverse ++ .ref b :: rest) (hW : 2 * g.monitorRoom + (rest.map fun v => v.category).sum ≤ W9) (hdg : decode c.code g.pc = .ok (.invokevirtual index, 3))
    (hpre : ∀ vm₁, s.WarmedH vm₁ → Pre ⟨T.setVm vm₁, locs, cells, slots⟩ (Value.ref b :: argsL).toArray) :
    (∃ (v : Option Value) (vm₁ : Vm) (B : Pt), s.WarmedH vm₁ ∧ Stand p l e R s m args below meth c B.U B.locs B.cells B.slots ∧ Post ⟨T.setVm vm₁, locs, cells, slots⟩ (Value.ref b :: argsL).toArray v B ∧
      ∀ target, Steps p.tables e below (B.U.setTop { g with pc := g.pc + 3, stack := v.toList ++ rest }) target → Steps p.tables e below (T.setTop g) target) ∨
    (∃ (q : Addr) (vm₁ : Vm) (B : Pt), s.WarmedH vm₁ ∧ Stand p l e R s m args below meth c B.U B.locs B.cells B.slots ∧ PostX ⟨T.setVm vm₁, locs, cells, slots⟩ (Value.ref b :: argsL).toArray q B ∧
      Steps p.tables e below (T.setTop g) ((B.U.setTop { g with stack := rest }).pushFrame (.throwing q))) := by
  obtain ⟨mk, methM, hnamed, hmethM, hstM, habM⟩ := Cond.instanceMethod_spec hinst
  obtain ⟨methM', cM, hmethM', -, -, -, -, -, -, hsigM⟩ := Cond.code_spec hnamed hcode
  cases hmethM.symm.trans hmethM'
  obtain ⟨c2, r2, m2, q1, q2, q3, q4, kP, hkP, hkPi⟩ := Cond.selects_spec hsel
  cases hcls.symm.trans q1
  cases (State.methodFound?_of_named hnamed hy).symm.trans q2
  cases hnamed.symm.trans q3
  have hselP : selectMethod e.platform s.vm cellB.cls mk = .method mk := by rw [Launch.admits_selectMethod X.admits]; exact q4
  obtain ⟨vm₁, X₁, hstep₁⟩ := X.invokevirtual hexec hown hlink hnamed hmethM hstM hkP hkPi hy (a := b) (cell := cellB) hcell
    (fun z h => by rw [h] at hobj; cases hobj) hselP hmethM habM hkP hkPi (g := g) hg (argsL := argsL) (rest := rest) (hlen _ hsigM) hstack hdg
  rcases hK m meth c ⟨T.setVm vm₁, locs, cells, slots⟩ { g with stack := rest } (.invokevirtual index) mk (Value.ref b :: argsL).toArray X₁ hg hsize hdg hW (X₁.named hnamed) (hpre vm₁ X₁.warmed) with ⟨v, B, X', hpost, hsteps⟩ | ⟨q, B, X', hpost, hsteps⟩
  · exact Or.inl ⟨v, vm₁, B, X₁.warmed, X', hpost, fun target h => hstep₁ _ fun acts => by rw [doInvoke_state]; exact hsteps.trans h⟩
  · exact Or.inr ⟨q, vm₁, B, X₁.warmed, X', hpost, hstep₁ _ fun acts => by rw [doInvoke_state]; exact hsteps⟩
theorem vx_callS (X : Stand p l e R s m args below meth c T locs cells slots) (hexec : p.tables.exec = Jvm.exec) {own : String} {index : Nat} {y : MethodName} {bytes : ByteArray} {maxL : Nat} {ret : Option FieldType}
    (hown : s.vm.findClass own = some m.cls) (hlink : (Cond.methodLink own index y).before args s = true) (hstat : (Cond.static y).before args s = true) (hinit : (Cond.initialized y.cls).before args s = true)
    (hcode : (Cond.code y bytes maxL ret).before args s = true) (hy : y.cls ≠ "java/lang/invoke/MethodHandle" ∧ y.cls ≠ "java/lang/invoke/VarHandle")
    {W9 : Nat} {Pre : Pt → Array Value → Prop} {Post : Pt → Array Value → Option Value → Pt → Prop} {PostX : Pt → Array Value → Addr → Pt → Prop} (hK : vx_Back l R p e below s args y 3 W9 Pre Post PostX)
    {g : JFrame} (hg : g.method = m) (hsize : g.locals.size = c.maxLocals) {argsL rest : List Value} (hlen : ∀ sig, parseMethodDescriptor y.desc = some sig → argsL.length = sig.parameters.length)
    (hstack : g.stack = argsL.reverse ++ rest) (hW : 2 * g.monitorRoom + (rest.map fun v => v.category).sum ≤ W9) (hdg : decode c.code g.pc = .ok (.invokestatic index, 3))
    (hpre : ∀ vm₁, s.WarmedH vm₁ → Pre ⟨T.setVm vm₁, locs, cells, slots⟩ argsL.toArray) :
    (∃ (v : Option Value) (vm₁ : Vm) (B : Pt), s.WarmedH vm₁ ∧ Stand p l e R s m args below meth c B.U B.locs B.cells B.slots ∧ Post ⟨T.setVm vm₁, locs, cells, slots⟩ argsL.toArray v B ∧
      ∀ target, Steps p.tables e below (B.U.setTop { g with pc := g.pc + 3, stack := v.toList ++ rest }) target → Steps p.tables e below (T.setTop g) target) ∨
    (∃ (q : Addr) (vm₁ : Vm) (B : Pt), s.WarmedH vm₁ ∧ Stand p l e R s m args below meth c B.U B.locs B.cells B.slots ∧ PostX ⟨T.setVm vm₁, locs, cells, slots⟩ argsL.toArray q B ∧
      Steps p.tables e below (T.setTop g) ((B.U.setTop { g with stack := rest }).pushFrame (.throwing q))) := by
  obtain ⟨mk, hnamed⟩ := Cond.code_named hcode
  obtain ⟨methM, cM, hmethM, -, -, -, -, -, -, hsigM⟩ := Cond.code_spec hnamed hcode
  have hstatic : methM.isStatic = true := Cond.static_spec hnamed hmethM hstat
  obtain ⟨kP, hkP, -⟩ := className_of_methodNamed hnamed
  have hinitP : kP.init = .initialized := Cond.initialized_spec (findClass_of_methodNamed hnamed) hkP hinit
  obtain ⟨vm₁, X₁, hstep₁⟩ := X.invokestatic hexec hown hlink hnamed hmethM hstatic hkP hinitP hy (g := g) hg (argsL := argsL) (rest := rest) (hlen _ hsigM) hstack hdg
  rcases hK m meth c ⟨T.setVm vm₁, locs, cells, slots⟩ { g with stack := rest } (.invokestatic index) mk argsL.toArray X₁ hg hsize hdg hW (X₁.named hnamed) (hpre vm₁ X₁.warmed) with ⟨v, B, X', hpost, hsteps⟩ | ⟨q, B, X', hpost, hsteps⟩
  · exact Or.inl ⟨v, vm₁, B, X₁.warmed, X', hpost, fun target h => hstep₁ _ fun acts => by rw [doInvoke_state]; exact hsteps.trans h⟩
  · exact Or.inr ⟨q, vm₁, B, X₁.warmed, X', hpost, hstep₁ _ fun acts => by rw [doInvoke_state]; exact hsteps⟩
end Calls
theorem vx_cls {s : State} {T : State} {vm₁ : Vm} {E : String} {k : ClassId} (hW : s.WarmedH vm₁) (h : (T.setVm vm₁).vm.findClass E = some k) : s.vm.findClass E = some k := by
  have h1 : vm₁.findClass E = some k := h
  rw [hW.alike.findClass] at h1
  exact h1
/-- the method's frame g, with q thrown over it -/
def vx_W (p : Program) (l : Launch) (e : Env) (R : Room) (s : State) (m : MethodId) (args : Array Value) (below : List Frame) (meth : Method) (c : Code) (H : Heap) (locs : List Loc) (cells slots : Nat) (Q : State → Prop) (g : JFrame) (q : Addr) : Prop :=
  ∀ T : State, T.heap = H → Stand p l e R s m args below meth c T locs cells slots → ∃ t, Steps p.tables e below ((T.setTop g).pushFrame (.throwing q)) t ∧ Q t
def vx_Run (p : Program) (l : Launch) (e : Env) (R : Room) (s : State) (m : MethodId) (args : Array Value) (below : List Frame) (meth : Method) (c : Code) (H : Heap) (locs : List Loc) (cells slots mc ms : Nat) (g : JFrame) (rest : List Value) (Qa : State → Outcome → State → Prop) (XC : String → State → State → Prop) (free : Addr → Prop) : Prop :=
  ∀ T : State, T.heap = H → Stand p l e R s m args below meth c T locs cells slots →
    (∃ (v : Option Value) (st₀ t T' : State) (L : List Loc), st₀.heap = H ∧ Stand p l e R s m args below meth c T' (locs ++ L) (cells + mc) (slots + ms) ∧ (∀ q ∈ L, free q.base) ∧ T'.heap = t.heap ∧ T'.vm = t.vm ∧ Qa st₀ (.returned v) t ∧
      Goes p e below T g T' { g with pc := g.pc + 3, stack := v.toList ++ rest }) ∨
    (∃ (q : Addr) (st₀ t T' : State) (L : List Loc) (E : String) (ce : Cell), st₀.heap = H ∧ Stand p l e R s m args below meth c T' (locs ++ L) (cells + mc) (slots + ms) ∧ (∀ z ∈ L, free z.base) ∧ T'.heap = t.heap ∧ T'.vm = t.vm ∧ XC E st₀ t ∧ t.heap[q]? = some ce ∧ ce.vm = .none ∧ s.vm.findClass E = some ce.cls ∧
      Steps p.tables e below (T.setTop g) ((T'.setTop { g with stack := rest }).pushFrame (.throwing q)))
def vx_X {S : Type} (px : S → Prop) (B : String → S → State → Prop) (A : Nat → Prop) : String → State → State → Prop := fun E st t => ∃ u : S, px u ∧ B E u t ∧ va_F A st t
section Runs
variable {p : Program} {l : Launch} {e : Env} {R : Room} {s : State} {m : MethodId} {args : Array Value} {below : List Frame} {meth : Method} {c : Code} {H : Heap} {locs : List Loc} {cells slots : Nat}
variable {y : MethodName} {bytes cc : ByteArray} {maxL nL mc ms n index : Nat} {ret : Option FieldType} {ws : List Cond} {rm : Room} {Pc : Array Value → State → Prop} {Qc : Array Value → State → Outcome → State → Prop} {XC : String → State → State → Prop} {free : Addr → Prop} {Ts : List Cond} {own C : String} {b : Addr} {As rest : List Value} {g : JFrame}
theorem vx_callBack (cb : CallB R s args own index y bytes maxL ret ws rm mc ms n) (hM : vx_Met l y ws rm Pc Qc XC mc ms free) (hbl : FrameBlind Pc) : vx_Back l R p e below s args y 3 8 (PreOf R mc ms Pc) (PostOf Qc mc ms free) (vx_Post XC mc ms free) := by
  obtain ⟨hrc, hrs, hfr, hlo, hws, hcw, -, hini, -⟩ := cb
  exact vx_back (bytes := bytes) (maxL := maxL) (ret := ret) hM hbl hrc hrs hfr hlo hws hcw (fun a' U hW => word_at hW (Or.inl (by first | rfl | simp [Cond.onTables, Cond.keeps, Cond.steady])) hini)
theorem vx_runV (S : CallFix p m c cc nL s args Ts own) (hM : vx_Met l y ws rm Pc Qc XC mc ms free) (cw : CallW R s args own C index y bytes maxL ret ws rm mc ms n) (hp : PreV s H C b Pc As)
    (hg : g.method = m) (hn : As.length = n) (hsize : g.locals.size = nL) (hstack : g.stack = As.reverse ++ .ref b :: rest) (hW : 2 * g.monitorRoom + (rest.map fun v => v.category).sum ≤ 8) (hdg : decode cc g.pc = .ok (.invokevirtual index, 3)) (hf : cells + mc ≤ R.cells ∧ slots + ms ≤ R.slots) :
    vx_Run p l e R s m args below meth c H locs cells slots mc ms g rest (Qc (Value.ref b :: As).toArray) XC free := by
  have hK : vx_Back l R p e below s args y 3 8 (PreOf R mc ms Pc) (PostOf Qc mc ms free) (vx_Post XC mc ms free) := vx_callBack cw.1 hM hp.1
  obtain ⟨⟨-, -, -, -, -, -, hcode, -, hy, hlen, hl⟩, hin, hse⟩ := cw
  obtain ⟨hx, hb, hml, ho, -⟩ := S
  obtain ⟨-, ⟨cellB, hcB, hoB, hclB⟩, hPc⟩ := hp
  intro T hT X
  rcases vx_callV X hx (C := C) (bytes := bytes) (maxL := maxL) (ret := ret) ho hl hin hse hcode hy hK (by rw [hT]; exact hcB) hoB hclB hg (hsize.trans hml.symm) (argsL := As) (rest := rest) (fun sig h => hn.trans (hlen sig h)) hstack hW (by rw [hb]; exact hdg)
    (fun vm₁ hW₁ => ⟨hf.1, hf.2, hPc (T.setVm vm₁) hT hW₁⟩) with ⟨v, vm₁, ⟨U', l2, c2, s2⟩, hW₁, X', ⟨g', mk, t, L, e1, e2, hq, h1, hL, h2, h3⟩, st⟩ | ⟨q, vm₁, ⟨U', l2, c2, s2⟩, hW₁, X', ⟨g', mk, t, L, E, ce, e1, e2, hq, hce, hcv, hcl, h1, hL, h2, h3⟩, st⟩
  · dsimp only [Pt.U, Pt.locs, Pt.cells, Pt.slots] at X' e1 e2 h1 h2 h3 st
    subst h1; subst h2; subst h3
    exact Or.inl ⟨v, (T.setVm vm₁).calling g' mk (Value.ref b :: As).toArray, t, U', L, hT, X', hL, e1, e2, hq, st⟩
  · dsimp only [Pt.U, Pt.locs, Pt.cells, Pt.slots] at X' e1 e2 h1 h2 h3 st hcl
    subst h1; subst h2; subst h3
    exact Or.inr ⟨q, (T.setVm vm₁).calling g' mk (Value.ref b :: As).toArray, t, U', L, E, ce, hT, X', hL, e1, e2, hq, hce, hcv, vx_cls hW₁ hcl, st⟩
theorem vx_runS (S : CallFix p m c cc nL s args Ts own) (hM : vx_Met l y ws rm Pc Qc XC mc ms free) (cw : CallB R s args own index y bytes maxL ret ws rm mc ms n ∧ (Cond.static y).before args s = true) (hp : PreS s H Pc As)
    (hg : g.method = m) (hn : As.length = n) (hsize : g.locals.size = nL) (hstack : g.stack = As.reverse ++ rest) (hW : 2 * g.monitorRoom + (rest.map fun v => v.category).sum ≤ 8) (hdg : decode cc g.pc = .ok (.invokestatic index, 3)) (hf : cells + mc ≤ R.cells ∧ slots + ms ≤ R.slots) :
    vx_Run p l e R s m args below meth c H locs cells slots mc ms g rest (Qc As.toArray) XC free := by
  have hK : vx_Back l R p e below s args y 3 8 (PreOf R mc ms Pc) (PostOf Qc mc ms free) (vx_Post XC mc ms free) := vx_callBack cw.1 hM hp.1
  obtain ⟨⟨-, -, -, -, -, -, hcode, hini, hy, hlen, hl⟩, hstt⟩ := cw
  obtain ⟨hx, hb, hml, ho, -⟩ := S
  intro T hT X
  rcases vx_callS X hx (bytes := bytes) (maxL := maxL) (ret := ret) ho hl hstt hini hcode hy hK hg (hsize.trans hml.symm) (argsL := As) (rest := rest) (fun sig h => hn.trans (hlen sig h)) hstack hW (by rw [hb]; exact hdg)
    (fun vm₁ hW₁ => ⟨hf.1, hf.2, hp.2 (T.setVm vm₁) hT hW₁⟩) with ⟨v, vm₁, ⟨U', l2, c2, s2⟩, hW₁, X', ⟨g', mk, t, L, e1, e2, hq, h1, hL, h2, h3⟩, st⟩ | ⟨q, vm₁, ⟨U', l2, c2, s2⟩, hW₁, X', ⟨g', mk, t, L, E, ce, e1, e2, hq, hce, hcv, hcl, h1, hL, h2, h3⟩, st⟩
  · dsimp only [Pt.U, Pt.locs, Pt.cells, Pt.slots] at X' e1 e2 h1 h2 h3 st
    subst h1; subst h2; subst h3
    exact Or.inl ⟨v, (T.setVm vm₁).calling g' mk As.toArray, t, U', L, hT, X', hL, e1, e2, hq, st⟩
  · dsimp only [Pt.U, Pt.locs, Pt.cells, Pt.slots] at X' e1 e2 h1 h2 h3 st hcl
    subst h1; subst h2; subst h3
    exact Or.inr ⟨q, (T.setVm vm₁).calling g' mk As.toArray, t, U', L, E, ce, hT, X', hL, e1, e2, hq, hce, hcv, vx_cls hW₁ hcl, st⟩
end Runs
section Rows
variable {p : Program} {l : Launch} {e : Env} {R : Room} {s : State} {m : MethodId} {args : Array Value} {below : List Frame} {meth : Method} {c : Code} {H : Heap} {locs : List Loc} {cells slots : Nat} {Q : State → Prop}
variable {mc ms : Nat} {free : Addr → Prop} {A0 A1 : Nat → Prop} {H0 : Heap} {a : Array Value} {pc : Nat} {ls : Array Slot} {st0 rest : List Value}
theorem vx_keep {st₀ t T' : State} {L : List Loc} (h0 : st₀.heap = H) (e1 : T'.heap = t.heap) (hS : va_S A0 H0 H locs) (hA : ∀ q, q < H.size → A1 q → A0 q) (hf : ∀ q, free q → A0 q) (hL : ∀ q ∈ L, free q.base) (hF : va_F A1 st₀ t) :
    H.size ≤ T'.heap.size ∧ (∀ q : Nat, q < H.size → ¬ A1 q → T'.heap[q]? = H[q]?) ∧ va_S A0 H0 T'.heap (locs ++ L) := by
  obtain ⟨hz, hk⟩ := hF
  rw [h0] at hz hk
  exact ⟨by rw [e1]; exact hz, fun q h1 h2 => by rw [e1]; exact hk q h1 h2,
    ⟨Nat.le_trans hS.1 (by rw [e1]; exact hz), fun q h1 h2 => by rw [e1, hk q (Nat.lt_of_lt_of_le h1 hS.1) (fun z => h2 (hA q (Nat.lt_of_lt_of_le h1 hS.1) z))]; exact hS.2.1 q h1 h2, fun q hq => by
      rcases List.mem_append.mp hq with h | h
      · exact hS.2.2 q h
      · exact hf _ (hL q h)⟩⟩
theorem vx_calli {S SX : Type} {post : Int32 → S → Prop} {px : SX → Prop} {B : S → State → Prop} {BX : String → SX → State → Prop} {AX : Nat → Prop} (hr : vx_Run p l e R s m args below meth c H locs cells slots mc ms (F0 m pc ls st0) rest (va_Qi post B A1 a) (vx_X px BX AX) free) (hS : va_S A0 H0 H locs) (hA : ∀ q, q < H.size → A1 q → A0 q) (hf : ∀ q, free q → A0 q) (hAX : ∀ q, q < H.size → AX q → A0 q)
    (kx : ∀ (E : String) (ce : Cell) (q9 : Addr) (u : SX) (t : State) (H1 : Heap) (locs1 : List Loc), t.heap = H1 → s.vm.Alike t.vm → px u → BX E u t → H.size ≤ H1.size → (∀ q : Nat, q < H.size → ¬ AX q → H1[q]? = H[q]?) → va_S A0 H0 H1 locs1 → H1[q9]? = some ce → ce.vm = .none → s.vm.findClass E = some ce.cls → vx_W p l e R s m args below meth c H1 locs1 (cells + mc) (slots + ms) Q (F0 m pc ls rest) q9)
    (kk : ∀ (r : Int32) (u : S) (t : State) (H1 : Heap) (locs1 : List Loc), t.heap = H1 → s.vm.Alike t.vm → post r u → B u t → H.size ≤ H1.size → (∀ q : Nat, q < H.size → ¬ A1 q → H1[q]? = H[q]?) → va_S A0 H0 H1 locs1 → W p l e R s m args below meth c H1 locs1 (cells + mc) (slots + ms) Q (F0 m (pc + 3) ls (.int r :: rest))) : W p l e R s m args below meth c H locs cells slots Q (F0 m pc ls st0) := by
  intro T hT X
  rcases hr T hT X with ⟨v, st₀, t, T', L, h0, X', hL, e1, e2, ⟨⟨r, u, hv, hp, hb⟩, hF⟩, st⟩ | ⟨q, st₀, t, T', L, E, ce, h0, X', hL, e1, e2, ⟨u, hp, hb, hF⟩, hce, hcv, hcl, st⟩
  · cases hv
    obtain ⟨k1, k2, k3⟩ := vx_keep h0 e1 hS hA hf hL hF
    obtain ⟨t2, a1, b1⟩ := kk r u t T'.heap (locs ++ L) e1.symm (by rw [← e2]; exact X'.warmed.alike) hp hb k1 k2 k3 T' rfl X'
    exact ⟨t2, st t2 a1, b1⟩
  · obtain ⟨k1, k2, k3⟩ := vx_keep h0 e1 hS hAX hf hL hF
    obtain ⟨t2, a1, b1⟩ := kx E ce q u t T'.heap (locs ++ L) e1.symm (by rw [← e2]; exact X'.warmed.alike) hp hb k1 k2 k3 (by rw [e1]; exact hce) hcv hcl T' rfl X'
    exact ⟨t2, st.trans a1, b1⟩
theorem vx_calll {S SX : Type} {post : Int64 → S → Prop} {px : SX → Prop} {B : S → State → Prop} {BX : String → SX → State → Prop} {AX : Nat → Prop} (hr : vx_Run p l e R s m args below meth c H locs cells slots mc ms (F0 m pc ls st0) rest (va_Ql post B A1 a) (vx_X px BX AX) free) (hS : va_S A0 H0 H locs) (hA : ∀ q, q < H.size → A1 q → A0 q) (hf : ∀ q, free q → A0 q) (hAX : ∀ q, q < H.size → AX q → A0 q)
    (kx : ∀ (E : String) (ce : Cell) (q9 : Addr) (u : SX) (t : State) (H1 : Heap) (locs1 : List Loc), t.heap = H1 → s.vm.Alike t.vm → px u → BX E u t → H.size ≤ H1.size → (∀ q : Nat, q < H.size → ¬ AX q → H1[q]? = H[q]?) → va_S A0 H0 H1 locs1 → H1[q9]? = some ce → ce.vm = .none → s.vm.findClass E = some ce.cls → vx_W p l e R s m args below meth c H1 locs1 (cells + mc) (slots + ms) Q (F0 m pc ls rest) q9)
    (kk : ∀ (r : Int64) (u : S) (t : State) (H1 : Heap) (locs1 : List Loc), t.heap = H1 → s.vm.Alike t.vm → post r u → B u t → H.size ≤ H1.size → (∀ q : Nat, q < H.size → ¬ A1 q → H1[q]? = H[q]?) → va_S A0 H0 H1 locs1 → W p l e R s m args below meth c H1 locs1 (cells + mc) (slots + ms) Q (F0 m (pc + 3) ls (.long r :: rest))) : W p l e R s m args below meth c H locs cells slots Q (F0 m pc ls st0) := by
  intro T hT X
  rcases hr T hT X with ⟨v, st₀, t, T', L, h0, X', hL, e1, e2, ⟨⟨r, u, hv, hp, hb⟩, hF⟩, st⟩ | ⟨q, st₀, t, T', L, E, ce, h0, X', hL, e1, e2, ⟨u, hp, hb, hF⟩, hce, hcv, hcl, st⟩
  · cases hv
    obtain ⟨k1, k2, k3⟩ := vx_keep h0 e1 hS hA hf hL hF
    obtain ⟨t2, a1, b1⟩ := kk r u t T'.heap (locs ++ L) e1.symm (by rw [← e2]; exact X'.warmed.alike) hp hb k1 k2 k3 T' rfl X'
    exact ⟨t2, st t2 a1, b1⟩
  · obtain ⟨k1, k2, k3⟩ := vx_keep h0 e1 hS hAX hf hL hF
    obtain ⟨t2, a1, b1⟩ := kx E ce q u t T'.heap (locs ++ L) e1.symm (by rw [← e2]; exact X'.warmed.alike) hp hb k1 k2 k3 (by rw [e1]; exact hce) hcv hcl T' rfl X'
    exact ⟨t2, st.trans a1, b1⟩
theorem vx_callf {S SX : Type} {post : UInt32 → S → Prop} {px : SX → Prop} {B : S → State → Prop} {BX : String → SX → State → Prop} {AX : Nat → Prop} (hr : vx_Run p l e R s m args below meth c H locs cells slots mc ms (F0 m pc ls st0) rest (va_Qf post B A1 a) (vx_X px BX AX) free) (hS : va_S A0 H0 H locs) (hA : ∀ q, q < H.size → A1 q → A0 q) (hf : ∀ q, free q → A0 q) (hAX : ∀ q, q < H.size → AX q → A0 q)
    (kx : ∀ (E : String) (ce : Cell) (q9 : Addr) (u : SX) (t : State) (H1 : Heap) (locs1 : List Loc), t.heap = H1 → s.vm.Alike t.vm → px u → BX E u t → H.size ≤ H1.size → (∀ q : Nat, q < H.size → ¬ AX q → H1[q]? = H[q]?) → va_S A0 H0 H1 locs1 → H1[q9]? = some ce → ce.vm = .none → s.vm.findClass E = some ce.cls → vx_W p l e R s m args below meth c H1 locs1 (cells + mc) (slots + ms) Q (F0 m pc ls rest) q9)
    (kk : ∀ (r : UInt32) (u : S) (t : State) (H1 : Heap) (locs1 : List Loc), t.heap = H1 → s.vm.Alike t.vm → post r u → B u t → H.size ≤ H1.size → (∀ q : Nat, q < H.size → ¬ A1 q → H1[q]? = H[q]?) → va_S A0 H0 H1 locs1 → W p l e R s m args below meth c H1 locs1 (cells + mc) (slots + ms) Q (F0 m (pc + 3) ls (.float r :: rest))) : W p l e R s m args below meth c H locs cells slots Q (F0 m pc ls st0) := by
  intro T hT X
  rcases hr T hT X with ⟨v, st₀, t, T', L, h0, X', hL, e1, e2, ⟨⟨r, u, hv, hp, hb⟩, hF⟩, st⟩ | ⟨q, st₀, t, T', L, E, ce, h0, X', hL, e1, e2, ⟨u, hp, hb, hF⟩, hce, hcv, hcl, st⟩
  · cases hv
    obtain ⟨k1, k2, k3⟩ := vx_keep h0 e1 hS hA hf hL hF
    obtain ⟨t2, a1, b1⟩ := kk r u t T'.heap (locs ++ L) e1.symm (by rw [← e2]; exact X'.warmed.alike) hp hb k1 k2 k3 T' rfl X'
    exact ⟨t2, st t2 a1, b1⟩
  · obtain ⟨k1, k2, k3⟩ := vx_keep h0 e1 hS hAX hf hL hF
    obtain ⟨t2, a1, b1⟩ := kx E ce q u t T'.heap (locs ++ L) e1.symm (by rw [← e2]; exact X'.warmed.alike) hp hb k1 k2 k3 (by rw [e1]; exact hce) hcv hcl T' rfl X'
    exact ⟨t2, st.trans a1, b1⟩
theorem vx_calld {S SX : Type} {post : UInt64 → S → Prop} {px : SX → Prop} {B : S → State → Prop} {BX : String → SX → State → Prop} {AX : Nat → Prop} (hr : vx_Run p l e R s m args below meth c H locs cells slots mc ms (F0 m pc ls st0) rest (va_Qd post B A1 a) (vx_X px BX AX) free) (hS : va_S A0 H0 H locs) (hA : ∀ q, q < H.size → A1 q → A0 q) (hf : ∀ q, free q → A0 q) (hAX : ∀ q, q < H.size → AX q → A0 q)
    (kx : ∀ (E : String) (ce : Cell) (q9 : Addr) (u : SX) (t : State) (H1 : Heap) (locs1 : List Loc), t.heap = H1 → s.vm.Alike t.vm → px u → BX E u t → H.size ≤ H1.size → (∀ q : Nat, q < H.size → ¬ AX q → H1[q]? = H[q]?) → va_S A0 H0 H1 locs1 → H1[q9]? = some ce → ce.vm = .none → s.vm.findClass E = some ce.cls → vx_W p l e R s m args below meth c H1 locs1 (cells + mc) (slots + ms) Q (F0 m pc ls rest) q9)
    (kk : ∀ (r : UInt64) (u : S) (t : State) (H1 : Heap) (locs1 : List Loc), t.heap = H1 → s.vm.Alike t.vm → post r u → B u t → H.size ≤ H1.size → (∀ q : Nat, q < H.size → ¬ A1 q → H1[q]? = H[q]?) → va_S A0 H0 H1 locs1 → W p l e R s m args below meth c H1 locs1 (cells + mc) (slots + ms) Q (F0 m (pc + 3) ls (.double r :: rest))) : W p l e R s m args below meth c H locs cells slots Q (F0 m pc ls st0) := by
  intro T hT X
  rcases hr T hT X with ⟨v, st₀, t, T', L, h0, X', hL, e1, e2, ⟨⟨r, u, hv, hp, hb⟩, hF⟩, st⟩ | ⟨q, st₀, t, T', L, E, ce, h0, X', hL, e1, e2, ⟨u, hp, hb, hF⟩, hce, hcv, hcl, st⟩
  · cases hv
    obtain ⟨k1, k2, k3⟩ := vx_keep h0 e1 hS hA hf hL hF
    obtain ⟨t2, a1, b1⟩ := kk r u t T'.heap (locs ++ L) e1.symm (by rw [← e2]; exact X'.warmed.alike) hp hb k1 k2 k3 T' rfl X'
    exact ⟨t2, st t2 a1, b1⟩
  · obtain ⟨k1, k2, k3⟩ := vx_keep h0 e1 hS hAX hf hL hF
    obtain ⟨t2, a1, b1⟩ := kx E ce q u t T'.heap (locs ++ L) e1.symm (by rw [← e2]; exact X'.warmed.alike) hp hb k1 k2 k3 (by rw [e1]; exact hce) hcv hcl T' rfl X'
    exact ⟨t2, st.trans a1, b1⟩
theorem vx_callv {S SX : Type} {post : S → Prop} {px : SX → Prop} {B : S → State → Prop} {BX : String → SX → State → Prop} {AX : Nat → Prop} (hr : vx_Run p l e R s m args below meth c H locs cells slots mc ms (F0 m pc ls st0) rest (va_Qv post B A1 a) (vx_X px BX AX) free) (hS : va_S A0 H0 H locs) (hA : ∀ q, q < H.size → A1 q → A0 q) (hf : ∀ q, free q → A0 q) (hAX : ∀ q, q < H.size → AX q → A0 q)
    (kx : ∀ (E : String) (ce : Cell) (q9 : Addr) (u : SX) (t : State) (H1 : Heap) (locs1 : List Loc), t.heap = H1 → s.vm.Alike t.vm → px u → BX E u t → H.size ≤ H1.size → (∀ q : Nat, q < H.size → ¬ AX q → H1[q]? = H[q]?) → va_S A0 H0 H1 locs1 → H1[q9]? = some ce → ce.vm = .none → s.vm.findClass E = some ce.cls → vx_W p l e R s m args below meth c H1 locs1 (cells + mc) (slots + ms) Q (F0 m pc ls rest) q9)
    (kk : ∀ (u : S) (t : State) (H1 : Heap) (locs1 : List Loc), t.heap = H1 → s.vm.Alike t.vm → post u → B u t → H.size ≤ H1.size → (∀ q : Nat, q < H.size → ¬ A1 q → H1[q]? = H[q]?) → va_S A0 H0 H1 locs1 → W p l e R s m args below meth c H1 locs1 (cells + mc) (slots + ms) Q (F0 m (pc + 3) ls (rest))) : W p l e R s m args below meth c H locs cells slots Q (F0 m pc ls st0) := by
  intro T hT X
  rcases hr T hT X with ⟨v, st₀, t, T', L, h0, X', hL, e1, e2, ⟨⟨u, hv, hp, hb⟩, hF⟩, st⟩ | ⟨q, st₀, t, T', L, E, ce, h0, X', hL, e1, e2, ⟨u, hp, hb, hF⟩, hce, hcv, hcl, st⟩
  · cases hv
    obtain ⟨k1, k2, k3⟩ := vx_keep h0 e1 hS hA hf hL hF
    obtain ⟨t2, a1, b1⟩ := kk u t T'.heap (locs ++ L) e1.symm (by rw [← e2]; exact X'.warmed.alike) hp hb k1 k2 k3 T' rfl X'
    exact ⟨t2, st t2 a1, b1⟩
  · obtain ⟨k1, k2, k3⟩ := vx_keep h0 e1 hS hAX hf hL hF
    obtain ⟨t2, a1, b1⟩ := kx E ce q u t T'.heap (locs ++ L) e1.symm (by rw [← e2]; exact X'.warmed.alike) hp hb k1 k2 k3 (by rw [e1]; exact hce) hcv hcl T' rfl X'
    exact ⟨t2, st.trans a1, b1⟩
/-- caught by the row x of this method's table; the rows ahead don't take it -/
theorem vx_catch {own name : String} {E : String} {ce : Cell} {q : Addr} (hown : s.vm.findClass own = some m.cls) (pre : List ExceptionTableEntry) (x : ExceptionTableEntry) (suf : List ExceptionTableEntry) (hsplit : c.exceptionTable.toList = pre ++ x :: suf)
    (hpass : ∀ z ∈ pre, covers z pc = false ∨ (z.catchType ≠ 0 ∧ ∃ nm : String, (Cond.classLink own z.catchType nm).before args s = true ∧ va_Nc E nm s)) (hx : covers x pc = true) (h0 : x.catchType ≠ 0)
    (hlink : (Cond.classLink own x.catchType name).before args s = true) (hcast : (Cond.castable E name).before args s = true) (hcell : H[q]? = some ce) (hv : ce.vm = .none) (hcl : s.vm.findClass E = some ce.cls)
    (kk : W p l e R s m args below meth c H locs cells slots Q (F0 m x.handlerPc ls [.ref q])) : vx_W p l e R s m args below meth c H locs cells slots Q (F0 m pc ls rest) q := by
  intro T hT X
  have hpl : e.platform.magicAccessors = ({} : Platform).magicAccessors := by rw [X.admits.platform]
  obtain ⟨c3, c4, hc3, hc4, hasg⟩ := Cond.castable_spec hcast
  cases Option.some.inj (hc3.symm.trans hcl)
  obtain ⟨c5, hc5, hcl5⟩ := Cond.classLink_spec hown hlink e.platform hpl
  cases Option.some.inj (hc4.symm.trans hc5)
  obtain ⟨vm', X', st⟩ := X.thenCaughtThrough q (g := F0 m pc ls rest) rfl (Steps.refl _) (by rw [hT]; exact hcell) (by rw [hv]; rfl) (by obtain ⟨k9, h9, -⟩ := Vm.findClass_spec hcl; exact ⟨k9, h9⟩) pre x suf hsplit
    (fun z hz => by
      rcases hpass z hz with h | ⟨hz0, nm, hl1, hn1⟩
      · exact Or.inl h
      · obtain ⟨c6, hc6, hcl6⟩ := Cond.classLink_spec hown hl1 e.platform hpl
        obtain ⟨a8, b8, h1, h2, h3⟩ := hn1
        cases Option.some.inj (h1.symm.trans hcl)
        cases Option.some.inj (h2.symm.trans hc6)
        exact Or.inr ⟨hz0, _, hcl6, h3⟩) hx (Or.inr ⟨h0, c4, hcl5, hasg⟩)
  obtain ⟨t, a1, b1⟩ := kk (T.setVm vm') hT X'
  exact ⟨t, st.trans a1, b1⟩
end Rows
section Ends
variable {p : Program} {l : Launch} {e : Env} {R : Room} {s : State} {m : MethodId} {args : Array Value} {below : List Frame} {meth : Method} {c : Code} {H : Heap} {locs : List Loc} {cells slots : Nat} {Q : State → Prop}
variable {mc ms : Nat} {free : Addr → Prop} {A0 A1 : Nat → Prop} {H0 : Heap} {a : Array Value} {ls : Array Slot} {st0 rest : List Value}
variable {Qc : Array Value → State → Outcome → State → Prop} {XC : String → State → State → Prop}
/-- what a body that may throw owes at its end -/
def vx_MQ (below : List Frame) (Qc : Array Value → State → Outcome → State → Prop) (XC : String → State → State → Prop) (a : Array Value) (s : State) (mc ms : Nat) (free : Addr → Prop) : State → Prop := fun t =>
  ∃ o, t.status = .running ∧ Ended t below o ∧ vx_Q Qc XC mc ms free a s o t
theorem vx_ret {g : JFrame} {mc ms : Nat} (k : W p l e R s m args below meth c H locs cells slots (MQ below Qc args s mc ms free) g) : W p l e R s m args below meth c H locs cells slots (vx_MQ below Qc XC args s mc ms free) g := by
  intro T hT X
  obtain ⟨t, a1, o, b1, b2, b3, b4⟩ := k T hT X
  exact ⟨t, a1, o, b1, b2, Or.inl ⟨b3, b4⟩⟩
/-- not caught here: it goes on to the caller -/
theorem vx_widen {g : JFrame} {q : Addr} {k n : Nat} (h1 : cells ≤ k) (h2 : slots ≤ n) (kk : vx_W p l e R s m args below meth c H locs k n Q g q) : vx_W p l e R s m args below meth c H locs cells slots Q g q := fun T hT X => kk T hT (stand_widen X h1 h2)
theorem vx_out {pc : Nat} {E : String} {ce : Cell} {q : Addr} {mc ms : Nat} (hout : ∀ x ∈ c.exceptionTable.toList, covers x pc = false) (hlocks : meth.locks = false) (hcell : H[q]? = some ce) (hv : ce.vm = .none) (hcl : s.vm.findClass E = some ce.cls)
    (hx : ∀ t : State, t.heap = H → s.vm.Alike t.vm → XC E s t) (hf : ∀ z ∈ locs, free z.base) (hc : cells ≤ mc) (hs : slots ≤ ms) :
    vx_W p l e R s m args below meth c H locs cells slots (vx_MQ below Qc XC args s mc ms free) (F0 m pc ls rest) q := by
  intro T hT X
  obtain ⟨st1, hrun, hend, hW, hsm⟩ := X.leaveThrown q (g := F0 m pc ls rest) rfl rfl rfl hout hlocks
  have hcell9 : (T.setFrames (.throwing q :: below)).heap[q]? = some ce := by
    show T.heap[q]? = some ce
    rw [hT]; exact hcell
  exact ⟨_, st1, .threw q, hrun, hend, Or.inr ⟨q, rfl, E, ce, locs, hx _ hT hW.alike, hcell9, hv, hcl, hW, hsm.mono hc hs, hf⟩⟩
theorem vx_frame {U : State} {k n : Nat} (h : s.sameButNew ({ U with vm := s.vm } : State) locs k n) : s.heap.size ≤ U.heap.size ∧ ∀ q : Nat, q < s.heap.size → (∀ z ∈ locs, z.base ≠ q) → U.heap[q]? = s.heap[q]? := by
  obtain ⟨-, h2, -, -, -, h6⟩ := h
  refine ⟨h2, fun q hq hz => ?_⟩
  obtain ⟨c9, e1, e2, e3, e4⟩ := h6 q _ (Array.getElem?_eq_getElem hq)
  have hs : c9.slots = (s.heap[q]).slots := Array.ext_getElem? fun i => e4 i fun hm => hz _ hm rfl
  have h9 : c9 = s.heap[q] := by
    rw [hs] at e2
    exact e2
  have e5 : U.heap[q]? = some c9 := e1
  rw [e5, h9, Array.getElem?_eq_getElem hq]
/-- the words of a throw but the four that speak of the heap -/
def vx_no (w : Cond) : Bool := decide (w ≠ .isRef (.static Bundle.tN "UNASSIGNED_STACK" Bundle.steD)) && decide (w ≠ .isRef (.static Bundle.tN "SUPPRESSED_SENTINEL" Bundle.listD)) && decide (w ≠ .laysStatic Bundle.tN "UNASSIGNED_STACK" Bundle.steD) && decide (w ≠ .laysStatic Bundle.tN "SUPPRESSED_SENTINEL" Bundle.listD)
def vx_at0 (own : String) (ic : Nat) (X : String) (names : List String) : List Cond := (Bundle.ownAtoms0 own ic X names).filter vx_no
def vx_atS (own : String) (ic : Nat) (X : String) (names : List String) : List Cond := (Bundle.ownAtoms own ic X names).filter vx_no
/-- a word that the tables alone decide, or a good one -/
def vx_ot (w : Cond) : Bool := w.onTables || goodWord w
theorem vx_ot_at {args a' : Array Value} {s U : State} {w : Cond} (hW : s.WarmedH U.vm) (hvm : s.vm = U.vm) (hg : vx_ot w = true) (h : w.before args s = true) : w.before a' U = true := by
  simp only [vx_ot, Bool.or_eq_true] at hg
  rcases hg with hg | hg
  · exact va_tabs hg hvm h
  · exact word_at hW (good_of_word hg) h
/-- a list's words: the good ones out of the method's own list, the others by premises of their own -/
theorem vx_hat {args : Array Value} {s : State} {L B : List Cond} (h1 : ∀ w ∈ L.filter goodWord, w.before args s = true) (h2 : ∀ w ∈ L.filter (fun w => !goodWord w), w ∈ B) (h3 : ∀ w ∈ B, w.before args s = true) : ∀ w ∈ L, w.before args s = true := by
  intro w hw
  by_cases g : goodWord w = true
  · exact h1 w (List.mem_filter.mpr ⟨hw, g⟩)
  · refine h3 w (h2 w (List.mem_filter.mpr ⟨hw, ?_⟩))
    show (!goodWord w) = true
    cases hgw : goodWord w
    · rfl
    · exact absurd hgw g
theorem vx_c {args : Array Value} {s : State} {w : Cond} {B : List Cond} (h : w.before args s = true) (t : ∀ w ∈ B, w.before args s = true) : ∀ w' ∈ w :: B, w'.before args s = true := fun w' h' => (List.mem_cons.mp h').elim (fun e => by rw [e]; exact h) (t w')
theorem vx_n {args : Array Value} {s : State} : ∀ w ∈ ([] : List Cond), w.before args s = true := fun _ h => nomatch h
theorem vx_own {args : Array Value} {s : State} {L : List Cond} (h1 : ∀ w ∈ L.filter vx_no, w.before args s = true)
    (hU : (Cond.isRef (.static Bundle.tN "UNASSIGNED_STACK" Bundle.steD)).before args s = true) (hN : (Cond.isRef (.static Bundle.tN "SUPPRESSED_SENTINEL" Bundle.listD)).before args s = true)
    (lU : (Cond.laysStatic Bundle.tN "UNASSIGNED_STACK" Bundle.steD).before args s = true) (lN : (Cond.laysStatic Bundle.tN "SUPPRESSED_SENTINEL" Bundle.listD).before args s = true) : ∀ w ∈ L, w.before args s = true := by
  intro w hw
  by_cases e1 : w = .isRef (.static Bundle.tN "UNASSIGNED_STACK" Bundle.steD)
  · rw [e1]; exact hU
  · by_cases e2 : w = .isRef (.static Bundle.tN "SUPPRESSED_SENTINEL" Bundle.listD)
    · rw [e2]; exact hN
    · by_cases e3 : w = .laysStatic Bundle.tN "UNASSIGNED_STACK" Bundle.steD
      · rw [e3]; exact lU
      · by_cases e4 : w = .laysStatic Bundle.tN "SUPPRESSED_SENTINEL" Bundle.listD
        · rw [e4]; exact lN
        · exact h1 w (List.mem_filter.mpr ⟨hw, by unfold vx_no; rw [decide_eq_true e1, decide_eq_true e2, decide_eq_true e3, decide_eq_true e4]; rfl⟩)
/-- where a static field lies, its class's statics cell in H -/
def vx_L (C n d : String) (A : Nat → Prop) (U : State) (H : Heap) : Prop := ∃ (c : ClassId) (k : Class) (i : Nat) (f : Field) (a : Nat) (cell : Cell), U.vm.findClass C = some c ∧ U.fieldFound? C n d = some (c, k, i, f) ∧ f.isStatic = true ∧ k.statics = some a ∧ H[a]? = some cell ∧ cell.vm.isStatics = true ∧ cell.cls = c ∧ f.slot < cell.slots.size ∧ k.staticTypes[f.slot]? = some f.type ∧ ¬ A a
theorem vx_L.moved {C n d : String} {A : Nat → Prop} {u U : State} {H : Heap} (hvm : u.vm.Alike U.vm) (h : vx_L C n d A u H) : vx_L C n d A U H := by
  obtain ⟨c, k, i, f, a, cell, h1, h2, h3, h4, h5, h6, h7, h8, h9, h10⟩ := h
  obtain ⟨k', hi', he⟩ := State.fieldFound?_setVm hvm h2
  exact ⟨c, k', i, f, a, cell, by rw [hvm.findClass]; exact h1, hi', h3, by rw [he]; exact h4, h5, h6, h7, h8, by rw [he]; exact h9, h10⟩
theorem vx_L.kept {C n d : String} {A : Nat → Prop} {U : State} {H H1 : Heap} (h : vx_L C n d A U H) (hq : ∀ a : Nat, a < H.size → ¬ A a → H1[a]? = H[a]?) : vx_L C n d A U H1 := by
  obtain ⟨c, k, i, f, a, cell, h1, h2, h3, h4, h5, h6, h7, h8, h9, h10⟩ := h
  exact ⟨c, k, i, f, a, cell, h1, h2, h3, h4, by rw [hq a (Array.getElem?_eq_some_iff.mp h5).1 h10]; exact h5, h6, h7, h8, h9, h10⟩
theorem vx_L.narrow {C n d : String} {A B : Nat → Prop} {U : State} {H : Heap} (h : vx_L C n d A U H) (hAB : ∀ q, B q → A q) : vx_L C n d B U H := by
  obtain ⟨c, k, i, f, a, cell, h1, h2, h3, h4, h5, h6, h7, h8, h9, h10⟩ := h
  exact ⟨c, k, i, f, a, cell, h1, h2, h3, h4, h5, h6, h7, h8, h9, fun z => h10 (hAB _ z)⟩
theorem vx_L.word {C n d : String} {A : Nat → Prop} {s : State} {args : Array Value} (h : vx_L C n d A s s.heap) : (Cond.laysStatic C n d).before args s = true := by
  obtain ⟨c, k, i, f, a, cell, h1, h2, h3, h4, h5, h6, h7, h8, h9, -⟩ := h
  show (Cond.laysStatic C n d).holds args s none s [] = true
  exact Cond.laysStatic_of h1 h2 h3 h4 h5 h6 h7 h8 h9
/-- .. and what it holds: null or some reference -/
def vx_Zq (C n d : String) (A : Nat → Prop) (U : State) (H : Heap) : Prop := va_Zq C n d A U H ∧ vx_L C n d A U H
theorem vx_Zq.moved {C n d : String} {A : Nat → Prop} {u U : State} {H : Heap} (hvm : u.vm.Alike U.vm) (h : vx_Zq C n d A u H) : vx_Zq C n d A U H := ⟨va_Zq.moved hvm h.1, vx_L.moved hvm h.2⟩
theorem vx_Zq.kept {C n d : String} {A : Nat → Prop} {U : State} {H H1 : Heap} (h : vx_Zq C n d A U H) (hq : ∀ a : Nat, a < H.size → ¬ A a → H1[a]? = H[a]?) : vx_Zq C n d A U H1 := ⟨va_Zq.kept h.1 hq, vx_L.kept h.2 hq⟩
theorem vx_Zq.narrow {C n d : String} {A B : Nat → Prop} {U : State} {H : Heap} (h : vx_Zq C n d A U H) (hAB : ∀ q, B q → A q) : vx_Zq C n d B U H := ⟨va_Zq.narrow h.1 hAB, vx_L.narrow h.2 hAB⟩
theorem vx_Zqof {args : Array Value} {s : State} {C n d : String} {A : Nat → Prop} (hl : (Cond.laysStatic C n d).before args s = true) (hini : (Cond.initialized C).before args s = true) (h : (Cond.isRef (.static C n d)).before args s = true) (hA : ∀ a : Nat, a < s.heap.size → ¬ A a) : vx_Zq C n d A s s.heap := by
  refine ⟨va_Zqof hl hini h hA, ?_⟩
  obtain ⟨c, k, i, f, a, cell, h1, h2, h3, h4, h5, h6, h7, h8, h9⟩ := Cond.laysStatic_spec hl
  exact ⟨c, k, i, f, a, cell, h1, h2, h3, h4, h5, h6, h7, h8, h9, hA a (Array.getElem?_eq_some_iff.mp h5).1⟩
theorem vx_isRef {C n d : String} {v : Value} {A : Nat → Prop} {s : State} {args : Array Value} (h : va_Z C n d v A s s.heap) (hv : v.isRef = true) : (Cond.isRef (.static C n d)).before args s = true := by
  obtain ⟨cf, kf, fi, f, a, cell, h1, h2, h3, h4, h5, h6, h7, -⟩ := h
  have he : (Term.static C n d).eval args s none [] s = some v := by
    simp [Term.eval, State.fieldNamed?, h1, h2, h4, h5, h6, h7]
  simp only [Cond.before, Cond.holds, Cond.value, he]
  cases v <;> simp_all [Value.isRef]
theorem vx_isRefq {C n d : String} {A : Nat → Prop} {s : State} {args : Array Value} (h : va_Zq C n d A s s.heap) : (Cond.isRef (.static C n d)).before args s = true := by
  rcases h with h | ⟨t, h⟩
  · exact vx_isRef h rfl
  · exact vx_isRef h rfl
/-- the same frame, seen from here: as if the method were called anew in this heap -/
theorem vx_rebase {T : State} (X : Stand p l e R s m args below meth c T locs cells slots) {R' : Room} (hf : R'.frames ≤ R.frames) (hl : R'.locals ≤ R.locals) (hc : cells + R'.cells ≤ R.cells) (hs : slots + R'.slots ≤ R.slots) :
    Stand p l e R' ((T.setVm s.vm).setFrames (.invoking m args :: below)) m args below meth c T [] 0 0 := by
  have htop : (T.setVm s.vm).topJava?.isSome := X.here.top
  have hF : ((T.setVm s.vm).setFrames (.invoking m args :: below)).frames = .invoking m args :: below := State.frames_setFrames _ (State.cur_lt_of_top htop)
  obtain ⟨g₀, hg0⟩ := Option.isSome_iff_exists.mp htop
  obtain ⟨r, hr⟩ := State.topJava?_eq_some.mp hg0
  have hl9 : e.platform.stackLimits (T.setVm s.vm).me = e.platform.stackLimits s.me := X.limits
  have hb9 : (T.setVm s.vm).me.stackBytes = s.me.stackBytes := X.bytes
  refine ⟨X.admits, X.cas, X.clock, hF, ?_, X.hears, X.method, X.code, X.here, X.tail, X.warmed, ?_, ?_, ?_⟩
  · have h := X.room
    have hU : ((T.setVm s.vm).setFrames (.invoking m args :: below)).localsInUse = s.localsInUse := by
      rw [State.localsInUse_invoking hF (meth := meth) (c := c) X.method X.code, State.localsInUse_invoking X.frames X.method X.code]
    simp only [State.hasRoom, Bool.and_eq_true, decide_eq_true_eq] at h ⊢
    obtain ⟨⟨⟨⟨h1, h2, h3, h4, h5, h6⟩, h7⟩, h8⟩, h9⟩ := h
    rw [X.frames, List.length_cons] at h2 h3
    have q1 := X.heapSize
    have q2 := X.used
    simp only [hF, hU, List.length_cons, State.stackLimits_setFrames, State.stackBytes_setFrames, hl9, hb9]
    refine ⟨⟨⟨⟨by omega, by omega, by omega, by omega, by omega, h6⟩, ?_⟩, ?_⟩, X.book⟩
    · show T.heap.size + R'.cells ≤ e.platform.maxCells
      omega
    · show T.slotsUsed + R'.slots ≤ e.platform.maxSlots
      omega
  · rw [State.stackLimits_setFrames]; rfl
  · rw [State.stackBytes_setFrames]; rfl
  · refine ⟨?_, Nat.le_refl _, Nat.le_refl _, ?_, ?_, fun a c9 h9 => ⟨c9, h9, rfl, rfl, fun _ _ => rfl⟩⟩
    · obtain ⟨t, ht, -⟩ := State.frames_cons hr
      show T.setVm s.vm = { ((T.setVm s.vm).setFrames (.invoking m args :: below)).setFrames (T.setVm s.vm).frames with heap := T.heap, slotsUsed := T.slotsUsed }
      rw [State.setFrames_setFrames, State.setFrames_self ht]
      rfl
    · show T.slotsUsed = T.slotsUsed + ((T.heap.toList.drop T.heap.size).map (·.slots.size)).sum
      rw [List.drop_eq_nil_of_le (Nat.le_of_eq Array.length_toList)]
      rfl
    · show ((T.heap.toList.drop T.heap.size).map (·.slots.size)).sum ≤ 0
      rw [List.drop_eq_nil_of_le (Nat.le_of_eq Array.length_toList)]
      exact Nat.le_refl _
/-- 'throw new E()': new; dup; invokespecial; athrow -/
theorem vx_throw0 {cc : ByteArray} {pc : Nat} (hexec : p.tables.exec = Jvm.exec) (hb : c.code = cc) (hl : l.stackTraces = false) {own cls : String} {names : List String} {ik ic mc ms : Nat} {A : Nat → Prop}
    (hown : s.vm.findClass own = some m.cls) (hcls : Bundle.fit cls = true) (hnames : ∀ n ∈ names, Bundle.fit n = true)
    (hk : (Cond.classLink own ik cls).before args s = true) (hini : (Cond.initialized cls).before args s = true) (hat : ∀ w ∈ vx_at0 own ic cls names, w.before args s = true)
    (hgood : ∀ w ∈ Cond.classLink own ik cls :: Cond.initialized cls :: vx_at0 own ic cls names, vx_ot w = true)
    (hU : vx_Zq Bundle.tN "UNASSIGNED_STACK" Bundle.steD A s s.heap) (hN : vx_Zq Bundle.tN "SUPPRESSED_SENTINEL" Bundle.listD A s s.heap) (hS : va_S A s.heap H locs) (hsize : ls.size = c.maxLocals)
    (d0 : decode cc pc = .ok (.new ik, 3)) (d3 : decode cc (pc + 3) = .ok (.dup, 1)) (d4 : decode cc (pc + 4) = .ok (.invokespecial ic, 3)) (d7 : decode cc (pc + 7) = .ok (.athrow, 1))
    (hout : ∀ x ∈ c.exceptionTable.toList, covers x (pc + 7) = false)
    (hRframes : names.length + 3 < R.frames) (hRlocals : (rest.map fun v => v.category).sum + (13 * (names.length + 1) + 42) ≤ R.locals) (hRcells : cells + 1 ≤ R.cells) (hRslots : slots + 6 ≤ R.slots) (hlocks : meth.locks = false)
    (hx : ∀ t : State, s.vm.Alike t.vm → H.size ≤ t.heap.size → (∀ q : Nat, q < H.size → t.heap[q]? = H[q]?) → XC cls s t)
    (hf : ∀ z ∈ locs, free z.base) (hc : cells + 1 ≤ mc) (hs : slots + 6 ≤ ms) :
    W p l e R s m args below meth c H locs cells slots (vx_MQ below Qc XC args s mc ms free) (F0 m pc ls rest) := by
  intro T hT X
  have htr : e.platform.stackTraces = false := (show e.platform.stackTraces = l.stackTraces by rw [X.admits.platform]).trans hl
  have Y := vx_rebase X (R' := { frames := R.frames, locals := R.locals, cells := 1, slots := 6 }) (Nat.le_refl _) (Nat.le_refl _) hRcells hRslots
  obtain ⟨s', hA⟩ : ∃ z, z = (T.setVm s.vm).setFrames (.invoking m args :: below) := ⟨_, rfl⟩
  rw [← hA] at Y
  have hvm : s'.vm = s.vm := by rw [hA]; rfl
  have hhp : s'.heap = H := by rw [hA]; exact hT
  have hW0 : s.WarmedH s'.vm := by rw [hvm]; exact State.WarmedH.refl s
  have hat' : ∀ w ∈ vx_at0 own ic cls names, w.before args s' = true := fun w hw => vx_ot_at hW0 hvm.symm (hgood w (List.mem_cons_of_mem _ (List.mem_cons_of_mem _ hw))) (hat w hw)
  have hk' : (Cond.classLink own ik cls).before args s' = true := vx_ot_at hW0 hvm.symm (hgood _ List.mem_cons_self) hk
  have hini' : (Cond.initialized cls).before args s' = true := vx_ot_at hW0 hvm.symm (hgood _ (List.mem_cons_of_mem _ List.mem_cons_self)) hini
  have hU' : vx_Zq Bundle.tN "UNASSIGNED_STACK" Bundle.steD A s' s'.heap := by rw [hhp]; exact vx_Zq.moved hW0.alike (hU.kept hS.2.1)
  have hN' : vx_Zq Bundle.tN "SUPPRESSED_SENTINEL" Bundle.listD A s' s'.heap := by rw [hhp]; exact vx_Zq.moved hW0.alike (hN.kept hS.2.1)
  have h : ∀ w ∈ Bundle.ownAtoms0 own ic cls names, w.before args s' = true := vx_own hat' (vx_isRefq hU'.1) (vx_isRefq hN'.1) hU'.2.word hN'.2.word
  have hown' : s'.vm.findClass own = some m.cls := by rw [hvm]; exact hown
  have hins : (Cond.instantiable cls 6).before args s' = true := h _ (by simp [Bundle.ownAtoms0])
  obtain ⟨vm₁, cX, kX, hfX, hkX, -, -, X₁, st1⟩ := Y.newCold hexec (own := own) (C := cls) (index := ik) (n := 6) hown' hk' hins hini'
    (g := F0 m pc ls rest) rfl (by rw [hb]; exact d0) (Nat.le_refl _) (Nat.le_refl _)
  generalize hT1 : (T.setVm vm₁).pushCell { cls := cX, slots := kX.instanceTypes.map defaultValue, vm := .none } = T1 at X₁ st1
  have hcat : (Value.ref T.heap.size).category = 1 := rfl
  have hcellA : T1.heap[T.heap.size]? = some (freshCell cX kX) := by rw [← hT1]; exact State.heap_pushCell_size _ _
  have d3' : decode c.code (pc + 3) = .ok (.dup, 1) := by rw [hb]; exact d3
  obtain ⟨U, hsteps, hrun, hend, hW, hsame, ce, hce, hO⟩ := X₁.ctorThrow0 hexec htr (own := own) (cls := cls) (names := names) (ic := ic) hown' hcls hnames h (fun x hx => nomatch hx) hfX hkX hcellA (by rw [hhp, hT]; exact Nat.le_refl _)
    (g := { method := m, pc := pc + 4, locals := ls, stack := .ref T.heap.size :: .ref T.heap.size :: rest, locked := none }) rfl hsize rfl rfl (rest := rest) rfl
    (by rw [hb]; exact d4) (by rw [hb]; exact d7) hout hRframes (by simp only [List.map_cons, List.sum_cons, hcat]; omega) hlocks
  obtain ⟨f1, f2⟩ := vx_frame hsame
  rw [hhp] at f1 f2
  have hWs : s.WarmedH U.vm := State.WarmedH.trans hW0 hW
  have hcl : s.vm.findClass cls = some ce.cls := by
    have h9 := hO.cls
    rw [hvm] at h9
    exact h9
  have hall : s.sameButNew ({ U with vm := s.vm } : State) locs mc ms := by
    subst hA
    obtain ⟨e1, e2⟩ := hsame
    rw [State.setFrames_setFrames] at e1
    have h2 : (T.setVm s.vm).sameButNew ({ U with vm := s.vm } : State) [] (0 + 1) (0 + 6) := ⟨e1, e2⟩
    have h3 := X.same.trans h2
    rw [List.append_nil] at h3
    exact h3.mono hc hs
  refine ⟨U, ?_, .threw T.heap.size, hrun, hend, Or.inr ⟨T.heap.size, rfl, cls, ce, locs, hx U hWs.alike f1 (fun q hq => f2 q hq (fun z hz => nomatch hz)), hce, hO.vm, hcl, hWs, hall, hf⟩⟩
  refine st1 _ ?_
  show Steps p.tables e below (T1.setTop { method := m, pc := pc + 3, locals := ls, stack := .ref T.heap.size :: rest, locked := none }) _
  jvm_step X₁.here [X₁.here.top, hexec, d3', Value.category]
  exact hsteps
/-- 'throw new E("text")': new; dup; ldc; invokespecial; athrow -/
theorem vx_throwS {cc : ByteArray} {pc : Nat} (hexec : p.tables.exec = Jvm.exec) (hb : c.code = cc) (hl : l.stackTraces = false) {own cls text : String} {names : List String} {ik is ic mc ms sa : Nat} {A : Nat → Prop}
    (hown : s.vm.findClass own = some m.cls) (hcls : Bundle.fit cls = true) (hnames : ∀ n ∈ names, Bundle.fit n = true)
    (hk : (Cond.classLink own ik cls).before args s = true) (hini : (Cond.initialized cls).before args s = true) (hstr : vk_R own is text sa s) (hat : ∀ w ∈ vx_atS own ic cls names, w.before args s = true)
    (hgood : ∀ w ∈ Cond.classLink own ik cls :: Cond.initialized cls :: vx_atS own ic cls names, vx_ot w = true)
    (hU : vx_Zq Bundle.tN "UNASSIGNED_STACK" Bundle.steD A s s.heap) (hN : vx_Zq Bundle.tN "SUPPRESSED_SENTINEL" Bundle.listD A s s.heap) (hS : va_S A s.heap H locs) (hsize : ls.size = c.maxLocals)
    (d0 : decode cc pc = .ok (.new ik, 3)) (d3 : decode cc (pc + 3) = .ok (.dup, 1)) (d4 : decode cc (pc + 4) = .ok (.ldc is, 2)) (d6 : decode cc (pc + 6) = .ok (.invokespecial ic, 3)) (d9 : decode cc (pc + 9) = .ok (.athrow, 1))
    (hout : ∀ x ∈ c.exceptionTable.toList, covers x (pc + 9) = false)
    (hRframes : names.length + 3 < R.frames) (hRlocals : (rest.map fun v => v.category).sum + (13 * (names.length + 1) + 43) ≤ R.locals) (hRcells : cells + 1 ≤ R.cells) (hRslots : slots + 6 ≤ R.slots) (hlocks : meth.locks = false)
    (hx : ∀ t : State, s.vm.Alike t.vm → H.size ≤ t.heap.size → (∀ q : Nat, q < H.size → t.heap[q]? = H[q]?) → XC cls s t)
    (hf : ∀ z ∈ locs, free z.base) (hc : cells + 1 ≤ mc) (hs : slots + 6 ≤ ms) :
    W p l e R s m args below meth c H locs cells slots (vx_MQ below Qc XC args s mc ms free) (F0 m pc ls rest) := by
  intro T hT X
  have htr : e.platform.stackTraces = false := (show e.platform.stackTraces = l.stackTraces by rw [X.admits.platform]).trans hl
  have Y := vx_rebase X (R' := { frames := R.frames, locals := R.locals, cells := 1, slots := 6 }) (Nat.le_refl _) (Nat.le_refl _) hRcells hRslots
  obtain ⟨s', hA⟩ : ∃ z, z = (T.setVm s.vm).setFrames (.invoking m args :: below) := ⟨_, rfl⟩
  rw [← hA] at Y
  have hvm : s'.vm = s.vm := by rw [hA]; rfl
  have hhp : s'.heap = H := by rw [hA]; exact hT
  have hW0 : s.WarmedH s'.vm := by rw [hvm]; exact State.WarmedH.refl s
  have hat' : ∀ w ∈ vx_atS own ic cls names, w.before args s' = true := fun w hw => vx_ot_at hW0 hvm.symm (hgood w (List.mem_cons_of_mem _ (List.mem_cons_of_mem _ hw))) (hat w hw)
  have hk' : (Cond.classLink own ik cls).before args s' = true := vx_ot_at hW0 hvm.symm (hgood _ List.mem_cons_self) hk
  have hini' : (Cond.initialized cls).before args s' = true := vx_ot_at hW0 hvm.symm (hgood _ (List.mem_cons_of_mem _ List.mem_cons_self)) hini
  have hU' : vx_Zq Bundle.tN "UNASSIGNED_STACK" Bundle.steD A s' s'.heap := by rw [hhp]; exact vx_Zq.moved hW0.alike (hU.kept hS.2.1)
  have hN' : vx_Zq Bundle.tN "SUPPRESSED_SENTINEL" Bundle.listD A s' s'.heap := by rw [hhp]; exact vx_Zq.moved hW0.alike (hN.kept hS.2.1)
  have h : ∀ w ∈ Bundle.ownAtoms own ic cls names, w.before args s' = true := vx_own hat' (vx_isRefq hU'.1) (vx_isRefq hN'.1) hU'.2.word hN'.2.word
  have hown' : s'.vm.findClass own = some m.cls := by rw [hvm]; exact hown
  have hins : (Cond.instantiable cls 6).before args s' = true := h _ (by simp [Bundle.ownAtoms])
  obtain ⟨vm₁, cX, kX, hfX, hkX, -, -, X₁, st1⟩ := Y.newCold hexec (own := own) (C := cls) (index := ik) (n := 6) hown' hk' hins hini'
    (g := F0 m pc ls rest) rfl (by rw [hb]; exact d0) (Nat.le_refl _) (Nat.le_refl _)
  generalize hT1 : (T.setVm vm₁).pushCell { cls := cX, slots := kX.instanceTypes.map defaultValue, vm := .none } = T1 at X₁ st1
  have hcat : (Value.ref T.heap.size).category = 1 := rfl
  have hcellA : T1.heap[T.heap.size]? = some (freshCell cX kX) := by rw [← hT1]; exact State.heap_pushCell_size _ _
  have d3' : decode c.code (pc + 3) = .ok (.dup, 1) := by rw [hb]; exact d3
  have d4' : decode c.code (pc + 4) = .ok (.ldc is, 2) := by rw [hb]; exact d4
  have hstr' : vk_R own is text sa s' := vk_R.warm hW0 hstr
  obtain ⟨U, hsteps, hrun, hend, hW, hsame, ce, hce, hO⟩ := X₁.ctorThrowS hexec htr (own := own) (cls := cls) (names := names) (ic := ic) hown' hcls hnames h (fun x hx => nomatch hx) hfX hkX hcellA (by rw [hhp, hT]; exact Nat.le_refl _) (msg := .ref sa) rfl
    (g := { method := m, pc := pc + 6, locals := ls, stack := .ref sa :: .ref T.heap.size :: .ref T.heap.size :: rest, locked := none }) rfl hsize rfl rfl (rest := rest) rfl
    (by rw [hb]; exact d6) (by rw [hb]; exact d9) hout hRframes (by simp only [List.map_cons, List.sum_cons, hcat]; omega) hlocks
  obtain ⟨f1, f2⟩ := vx_frame hsame
  rw [hhp] at f1 f2
  have hWs : s.WarmedH U.vm := State.WarmedH.trans hW0 hW
  have hcl : s.vm.findClass cls = some ce.cls := by
    have h9 := hO.cls
    rw [hvm] at h9
    exact h9
  have hall : s.sameButNew ({ U with vm := s.vm } : State) locs mc ms := by
    subst hA
    obtain ⟨e1, e2⟩ := hsame
    rw [State.setFrames_setFrames] at e1
    have h2 : (T.setVm s.vm).sameButNew ({ U with vm := s.vm } : State) [] (0 + 1) (0 + 6) := ⟨e1, e2⟩
    have h3 := X.same.trans h2
    rw [List.append_nil] at h3
    exact h3.mono hc hs
  refine ⟨U, ?_, .threw T.heap.size, hrun, hend, Or.inr ⟨T.heap.size, rfl, cls, ce, locs, hx U hWs.alike f1 (fun q hq => f2 q hq (fun z hz => nomatch hz)), hce, hO.vm, hcl, hWs, hall, hf⟩⟩
  refine st1 _ ?_
  show Steps p.tables e below (T1.setTop { method := m, pc := pc + 3, locals := ls, stack := .ref T.heap.size :: rest, locked := none }) _
  jvm_step X₁.here [X₁.here.top, hexec, d3', Value.category]
  exact X₁.ldcString hexec (own := own) (text := text) (index := is) (a := sa) hown' hstr'.1 hstr'.2
    (g := { method := m, pc := pc + 4, locals := ls, stack := .ref T.heap.size :: .ref T.heap.size :: rest, locked := none }) rfl d4' _ hsteps
/-- 'throw new E("text")', the text by a wide index -/
theorem vx_throwSW {cc : ByteArray} {pc : Nat} (hexec : p.tables.exec = Jvm.exec) (hb : c.code = cc) (hl : l.stackTraces = false) {own cls text : String} {names : List String} {ik is ic mc ms sa : Nat} {A : Nat → Prop}
    (hown : s.vm.findClass own = some m.cls) (hcls : Bundle.fit cls = true) (hnames : ∀ n ∈ names, Bundle.fit n = true)
    (hk : (Cond.classLink own ik cls).before args s = true) (hini : (Cond.initialized cls).before args s = true) (hstr : vk_R own is text sa s) (hat : ∀ w ∈ vx_atS own ic cls names, w.before args s = true)
    (hgood : ∀ w ∈ Cond.classLink own ik cls :: Cond.initialized cls :: vx_atS own ic cls names, vx_ot w = true)
    (hU : vx_Zq Bundle.tN "UNASSIGNED_STACK" Bundle.steD A s s.heap) (hN : vx_Zq Bundle.tN "SUPPRESSED_SENTINEL" Bundle.listD A s s.heap) (hS : va_S A s.heap H locs) (hsize : ls.size = c.maxLocals)
    (d0 : decode cc pc = .ok (.new ik, 3)) (d3 : decode cc (pc + 3) = .ok (.dup, 1)) (d4 : decode cc (pc + 4) = .ok (.ldc_w is, 3)) (d7 : decode cc (pc + 7) = .ok (.invokespecial ic, 3)) (d10 : decode cc (pc + 10) = .ok (.athrow, 1))
    (hout : ∀ x ∈ c.exceptionTable.toList, covers x (pc + 10) = false)
    (hRframes : names.length + 3 < R.frames) (hRlocals : (rest.map fun v => v.category).sum + (13 * (names.length + 1) + 43) ≤ R.locals) (hRcells : cells + 1 ≤ R.cells) (hRslots : slots + 6 ≤ R.slots) (hlocks : meth.locks = false)
    (hx : ∀ t : State, s.vm.Alike t.vm → H.size ≤ t.heap.size → (∀ q : Nat, q < H.size → t.heap[q]? = H[q]?) → XC cls s t)
    (hf : ∀ z ∈ locs, free z.base) (hc : cells + 1 ≤ mc) (hs : slots + 6 ≤ ms) :
    W p l e R s m args below meth c H locs cells slots (vx_MQ below Qc XC args s mc ms free) (F0 m pc ls rest) := by
  intro T hT X
  have htr : e.platform.stackTraces = false := (show e.platform.stackTraces = l.stackTraces by rw [X.admits.platform]).trans hl
  have Y := vx_rebase X (R' := { frames := R.frames, locals := R.locals, cells := 1, slots := 6 }) (Nat.le_refl _) (Nat.le_refl _) hRcells hRslots
  obtain ⟨s', hA⟩ : ∃ z, z = (T.setVm s.vm).setFrames (.invoking m args :: below) := ⟨_, rfl⟩
  rw [← hA] at Y
  have hvm : s'.vm = s.vm := by rw [hA]; rfl
  have hhp : s'.heap = H := by rw [hA]; exact hT
  have hW0 : s.WarmedH s'.vm := by rw [hvm]; exact State.WarmedH.refl s
  have hat' : ∀ w ∈ vx_atS own ic cls names, w.before args s' = true := fun w hw => vx_ot_at hW0 hvm.symm (hgood w (List.mem_cons_of_mem _ (List.mem_cons_of_mem _ hw))) (hat w hw)
  have hk' : (Cond.classLink own ik cls).before args s' = true := vx_ot_at hW0 hvm.symm (hgood _ List.mem_cons_self) hk
  have hini' : (Cond.initialized cls).before args s' = true := vx_ot_at hW0 hvm.symm (hgood _ (List.mem_cons_of_mem _ List.mem_cons_self)) hini
  have hU' : vx_Zq Bundle.tN "UNASSIGNED_STACK" Bundle.steD A s' s'.heap := by rw [hhp]; exact vx_Zq.moved hW0.alike (hU.kept hS.2.1)
  have hN' : vx_Zq Bundle.tN "SUPPRESSED_SENTINEL" Bundle.listD A s' s'.heap := by rw [hhp]; exact vx_Zq.moved hW0.alike (hN.kept hS.2.1)
  have h : ∀ w ∈ Bundle.ownAtoms own ic cls names, w.before args s' = true := vx_own hat' (vx_isRefq hU'.1) (vx_isRefq hN'.1) hU'.2.word hN'.2.word
  have hown' : s'.vm.findClass own = some m.cls := by rw [hvm]; exact hown
  have hins : (Cond.instantiable cls 6).before args s' = true := h _ (by simp [Bundle.ownAtoms])
  obtain ⟨vm₁, cX, kX, hfX, hkX, -, -, X₁, st1⟩ := Y.newCold hexec (own := own) (C := cls) (index := ik) (n := 6) hown' hk' hins hini'
    (g := F0 m pc ls rest) rfl (by rw [hb]; exact d0) (Nat.le_refl _) (Nat.le_refl _)
  generalize hT1 : (T.setVm vm₁).pushCell { cls := cX, slots := kX.instanceTypes.map defaultValue, vm := .none } = T1 at X₁ st1
  have hcat : (Value.ref T.heap.size).category = 1 := rfl
  have hcellA : T1.heap[T.heap.size]? = some (freshCell cX kX) := by rw [← hT1]; exact State.heap_pushCell_size _ _
  have d3' : decode c.code (pc + 3) = .ok (.dup, 1) := by rw [hb]; exact d3
  have d4' : decode c.code (pc + 4) = .ok (.ldc_w is, 3) := by rw [hb]; exact d4
  have hstr' : vk_R own is text sa s' := vk_R.warm hW0 hstr
  obtain ⟨U, hsteps, hrun, hend, hW, hsame, ce, hce, hO⟩ := X₁.ctorThrowS hexec htr (own := own) (cls := cls) (names := names) (ic := ic) hown' hcls hnames h (fun x hx => nomatch hx) hfX hkX hcellA (by rw [hhp, hT]; exact Nat.le_refl _) (msg := .ref sa) rfl
    (g := { method := m, pc := pc + 7, locals := ls, stack := .ref sa :: .ref T.heap.size :: .ref T.heap.size :: rest, locked := none }) rfl hsize rfl rfl (rest := rest) rfl
    (by rw [hb]; exact d7) (by rw [hb]; exact d10) hout hRframes (by simp only [List.map_cons, List.sum_cons, hcat]; omega) hlocks
  obtain ⟨f1, f2⟩ := vx_frame hsame
  rw [hhp] at f1 f2
  have hWs : s.WarmedH U.vm := State.WarmedH.trans hW0 hW
  have hcl : s.vm.findClass cls = some ce.cls := by
    have h9 := hO.cls
    rw [hvm] at h9
    exact h9
  have hall : s.sameButNew ({ U with vm := s.vm } : State) locs mc ms := by
    subst hA
    obtain ⟨e1, e2⟩ := hsame
    rw [State.setFrames_setFrames] at e1
    have h2 : (T.setVm s.vm).sameButNew ({ U with vm := s.vm } : State) [] (0 + 1) (0 + 6) := ⟨e1, e2⟩
    have h3 := X.same.trans h2
    rw [List.append_nil] at h3
    exact h3.mono hc hs
  refine ⟨U, ?_, .threw T.heap.size, hrun, hend, Or.inr ⟨T.heap.size, rfl, cls, ce, locs, hx U hWs.alike f1 (fun q hq => f2 q hq (fun z hz => nomatch hz)), hce, hO.vm, hcl, hWs, hall, hf⟩⟩
  refine st1 _ ?_
  show Steps p.tables e below (T1.setTop { method := m, pc := pc + 3, locals := ls, stack := .ref T.heap.size :: rest, locked := none }) _
  jvm_step X₁.here [X₁.here.top, hexec, d3', Value.category]
  exact X₁.ldcStringW hexec (own := own) (text := text) (index := is) (a := sa) hown' hstr'.1 hstr'.2
    (g := { method := m, pc := pc + 4, locals := ls, stack := .ref T.heap.size :: .ref T.heap.size :: rest, locked := none }) rfl d4' _ hsteps
end Ends
section Bodies
variable {l : Launch}
theorem vx_ofW {y : MethodName} {ws ws' : List Cond} {rm : Room} {Pc : Array Value → State → Prop} {Qc : Array Value → State → Outcome → State → Prop} {XC : String → State → State → Prop} {mc ms : Nat} {free : Addr → Prop} {cc : ByteArray} {maxL : Nat} {ret : Option FieldType}
    (hy : plainName y.cls = true) (hw : ws = Cond.code y cc maxL ret :: ws')
    (body : ∀ p e s m args below meth c s₁, BodyLoose p l y (headSpec ws rm) cc maxL ret e s m args below meth c s₁ → c.maxLocals = maxL → (∀ x ∈ c.exceptionTable.toList, False) → Pc args s →
      W p l e (headSpec ws rm).room s m args below meth c s.heap [] 0 0 (vx_MQ below Qc XC args s mc ms free) (entryFrame m args maxL)) : vx_Met l y ws rm Pc Qc XC mc ms free := by
  refine MetFree.of_bodyS (code := cc) (maxLocals := maxL) (ret := ret) hy ?_ ?_
  · intro args s m h hn
    obtain ⟨meth, c, h1, h2, h3, h4, h5, h6, -, -⟩ := Cond.code_spec hn (atoms_spec (ws := ws) h _ (by rw [hw]; exact List.mem_cons_self))
    exact ⟨meth, c, h1, h2, h3, h4, h5, h6⟩
  · intro p e s m args below meth c s₁ B hml hP _
    have hh0 : s₁.heap = s.heap := by rw [B.state]; rfl
    have ht : ∀ x ∈ c.exceptionTable.toList, False := by
      obtain ⟨meth9, c9, h1, h2, -, -, -, -, h7, -⟩ := Cond.code_spec B.named (atoms_spec (ws := ws) B.pre _ (by rw [hw]; exact List.mem_cons_self))
      cases Option.some.inj (h1.symm.trans B.method)
      cases Option.some.inj (h2.symm.trans (Stand.of_body B).code)
      intro x hx
      rw [Array.isEmpty_iff.mp h7] at hx
      cases hx
    obtain ⟨t, a1, o, b1, b2, b3⟩ := body p e s m args below meth c s₁ B hml ht hP s₁ hh0 (Stand.of_body B)
    exact ⟨t, o, a1, b1, b2, b3⟩
/-- the table of a body with handlers -/
theorem vx_table {p : Program} {x y : MethodName} {S : Spec} {cc bytes : ByteArray} {maxL maxL' : Nat} {ret ret' : Option FieldType} {e : Env} {s s₁ : State} {m : MethodId} {args : Array Value} {below : List Frame} {meth : Method} {c : Code} {hh : List (Nat × Nat × Nat × Nat)}
    (B : BodyLoose p l y S cc maxL ret e s m args below meth c s₁) (h : (Cond.codeWith y bytes maxL' ret' hh).before args s = true) : c.exceptionTable.toList = tableOf hh := by
  obtain ⟨m9, meth9, c9, hn9, h1, h2, -, -, h6, -⟩ := Cond.codeWith_spec h
  cases Option.some.inj (hn9.symm.trans B.named)
  cases Option.some.inj (h1.symm.trans B.method)
  cases Option.some.inj (h2.symm.trans (Stand.of_body B).code)
  rw [← h6, table_eq]
end Bodies
end VXA
/-! ===== END ===== -/
/-! ===== BEGIN a static call of a method with an exception table ===== -/
section VXS
variable {p : Program} {l : Launch} {e : Env} {R : Room} {s : State} {m : MethodId} {args : Array Value} {below : List Frame} {meth : Method} {c : Code} {T : State} {H : Heap} {locs : List Loc} {cells slots : Nat}
abbrev vx_CSW (R : Room) (s : State) (args : Array Value) (own : String) (index : Nat) (y : MethodName) (bytes : ByteArray) (maxL : Nat) (ret : Option FieldType) (hh : List (Nat × Nat × Nat × Nat)) (ws : List Cond) (rm : Room) (mc ms n : Nat) : Prop :=
  (rm.cells = mc ∧ rm.slots = ms ∧ rm.frames + 1 ≤ R.frames ∧ 8 + (maxL + 11) + rm.locals ≤ R.locals ∧ (∀ w ∈ ws, ∀ (a' : Array Value) (U : State), s.WarmedH U.vm → w.before a' U = true) ∧ Cond.codeWith y bytes maxL ret hh ∈ ws) ∧
  (Cond.codeWith y bytes maxL ret hh).before args s = true ∧ (Cond.initialized y.cls).before args s = true ∧ (y.cls ≠ "java/lang/invoke/MethodHandle" ∧ y.cls ≠ "java/lang/invoke/VarHandle") ∧
  (∀ sig, parseMethodDescriptor y.desc = some sig → n = sig.parameters.length) ∧ (Cond.methodLink own index y).before args s = true ∧ (Cond.static y).before args s = true
theorem vx_cwSW {own : String} {index maxL mc ms : Nat} {y : MethodName} {bytes : ByteArray} {ret : Option FieldType} {hh : List (Nat × Nat × Nat × Nat)} {Ts ws ws' : List Cond} {rm : Room} (n : Nat) (ht : ∀ w ∈ Ts, w.before args s = true) (hT : GoodIn Ts (va_wsS own index y ws)) (hw : ws = Cond.codeWith y bytes maxL ret hh :: ws') (hrc : rm.cells = mc) (hrs : rm.slots = ms)
    (hd : y.cls ≠ "java/lang/invoke/MethodHandle" ∧ y.cls ≠ "java/lang/invoke/VarHandle" ∧ (parseMethodDescriptor y.desc).map (fun d => d.parameters.length) = some n) (hR : rm.frames + 1 ≤ R.frames ∧ 8 + (maxL + 11) + rm.locals ≤ R.locals) :
    vx_CSW R s args own index y bytes maxL ret hh ws rm mc ms n := by
  have ok : ∀ w ∈ va_wsS own index y ws, w.before args s = true := fun w h => ht w (hT w h).1
  have hG : GoodIn Ts ws := fun w h => hT w (by unfold va_wsS; exact List.mem_append_right _ h)
  have hc : Cond.codeWith y bytes maxL ret hh ∈ ws := by rw [hw]; exact List.mem_cons_self
  refine ⟨⟨hrc, hrs, hR.1, hR.2, pay_in ht hG, hc⟩, ht _ (hG _ hc).1, ok _ (by simp [va_wsS]), ⟨hd.1, hd.2.1⟩, fun sig h => ?_, ok _ (by simp [va_wsS]), ok _ (by simp [va_wsS])⟩
  have h2 := hd.2.2
  rw [h] at h2
  exact (Option.some.inj h2).symm
theorem vx_callSW (X : Stand p l e R s m args below meth c T locs cells slots) (hexec : p.tables.exec = Jvm.exec) {own : String} {index : Nat} {y : MethodName} {bytes : ByteArray} {maxL : Nat} {ret : Option FieldType} {hh : List (Nat × Nat × Nat × Nat)}
    (hown : s.vm.findClass own = some m.cls) (hlink : (Cond.methodLink own index y).before args s = true) (hstat : (Cond.static y).before args s = true) (hinit : (Cond.initialized y.cls).before args s = true)
    (hcode : (Cond.codeWith y bytes maxL ret hh).before args s = true) (hy : y.cls ≠ "java/lang/invoke/MethodHandle" ∧ y.cls ≠ "java/lang/invoke/VarHandle")
    {W9 : Nat} {Pre : Pt → Array Value → Prop} {Post : Pt → Array Value → Option Value → Pt → Prop} (hK : Back l R p e below s args y 3 W9 Pre Post)
    {g : JFrame} (hg : g.method = m) (hsize : g.locals.size = c.maxLocals) {argsL rest : List Value} (hlen : ∀ sig, parseMethodDescriptor y.desc = some sig → argsL.length = sig.parameters.length)
    (hstack : g.stack = argsL.reverse ++ rest) (hW : 2 * g.monitorRoom + (rest.map fun v => v.category).sum ≤ W9) (hdg : decode c.code g.pc = .ok (.invokestatic index, 3))
    (hpre : ∀ vm₁, s.WarmedH vm₁ → Pre ⟨T.setVm vm₁, locs, cells, slots⟩ argsL.toArray) :
    ∃ (v : Option Value) (vm₁ : Vm) (B : Pt), s.WarmedH vm₁ ∧ Stand p l e R s m args below meth c B.U B.locs B.cells B.slots ∧ Post ⟨T.setVm vm₁, locs, cells, slots⟩ argsL.toArray v B ∧
      ∀ target, Steps p.tables e below (B.U.setTop { g with pc := g.pc + 3, stack := v.toList ++ rest }) target → Steps p.tables e below (T.setTop g) target := by
  obtain ⟨mk, methM, cM, hnamed, hmethM, -, -, -, -, -, -, hsigM⟩ := Cond.codeWith_spec hcode
  have hstatic : methM.isStatic = true := Cond.static_spec hnamed hmethM hstat
  obtain ⟨kP, hkP, -⟩ := className_of_methodNamed hnamed
  have hinitP : kP.init = .initialized := Cond.initialized_spec (findClass_of_methodNamed hnamed) hkP hinit
  obtain ⟨vm₁, X₁, hstep₁⟩ := X.invokestatic hexec hown hlink hnamed hmethM hstatic hkP hinitP hy (g := g) hg (argsL := argsL) (rest := rest) (hlen _ hsigM) hstack hdg
  obtain ⟨v, B, X', hpost, hsteps⟩ := hK m meth c ⟨T.setVm vm₁, locs, cells, slots⟩ { g with stack := rest } (.invokestatic index) mk argsL.toArray X₁ hg hsize hdg hW (X₁.named hnamed) (hpre vm₁ X₁.warmed)
  exact ⟨v, vm₁, B, X₁.warmed, X', hpost, fun target h => hstep₁ _ fun acts => by rw [doInvoke_state]; exact hsteps.trans h⟩
theorem vx_runSW {y : MethodName} {bytes cc : ByteArray} {maxL nL mc ms n index : Nat} {ret : Option FieldType} {hh : List (Nat × Nat × Nat × Nat)} {ws : List Cond} {rm : Room} {Pc : Array Value → State → Prop} {Qc : Array Value → State → Outcome → State → Prop} {free : Addr → Prop} {Ts : List Cond} {own : String} {As rest : List Value} {g : JFrame}
    (S : CallFix p m c cc nL s args Ts own) (hM : Met l y ws rm Pc Qc mc ms free) (cw : vx_CSW R s args own index y bytes maxL ret hh ws rm mc ms n) (hp : PreS s H Pc As)
    (hg : g.method = m) (hn : As.length = n) (hsize : g.locals.size = nL) (hstack : g.stack = As.reverse ++ rest) (hW : 2 * g.monitorRoom + (rest.map fun v => v.category).sum ≤ 8) (hdg : decode cc g.pc = .ok (.invokestatic index, 3)) (hf : cells + mc ≤ R.cells ∧ slots + ms ≤ R.slots) :
    va_Run p l e R s m args below meth c H locs cells slots mc ms g rest (Qc As.toArray) (free) := by
  obtain ⟨⟨hrc, hrs, hfr, hlo, hws, hcw⟩, hcode, hini, hy, hlen, hl, hstt⟩ := cw
  have hK : Back l R p e below s args y 3 8 (PreOf R mc ms Pc) (PostOf Qc mc ms free) := va_backW (hh := hh) (bytes := bytes) (maxL := maxL) (ret := ret) hM hp.1 hrc hrs hfr hlo hws hcw (fun a' U hW => word_at hW (Or.inl (by first | rfl | simp [Cond.onTables, Cond.keeps, Cond.steady])) hini)
  obtain ⟨hx, hb, hml, ho, -⟩ := S
  intro T hT X
  obtain ⟨v, vm₁, ⟨U', l2, c2, s2⟩, hW₁, X', ⟨g', mk, t, L, e1, e2, hq, h1, hL, h2, h3⟩, st⟩ := vx_callSW X hx (hh := hh) (bytes := bytes) (maxL := maxL) (ret := ret) ho hl hstt hini hcode hy hK hg (hsize.trans hml.symm) (argsL := As) (rest := rest) (fun sig h => hn.trans (hlen sig h)) hstack hW (by rw [hb]; exact hdg)
    (fun vm₁ hW₁ => ⟨hf.1, hf.2, hp.2 (T.setVm vm₁) hT hW₁⟩)
  dsimp only [Pt.U, Pt.locs, Pt.cells, Pt.slots] at X' e1 e2 h1 h2 h3 st
  subst h1; subst h2; subst h3
  exact ⟨v, (T.setVm vm₁).calling g' mk As.toArray, t, U', L, hT, X', hL, e1, e2, hq, st⟩
/-- not caught here, past rows that name other classes: it goes on to the caller -/
theorem vx_outP {p : Program} {l : Launch} {e : Env} {R : Room} {s : State} {m : MethodId} {args : Array Value} {below : List Frame} {meth : Method} {c : Code} {H : Heap} {locs : List Loc} {cells slots : Nat} {free : Addr → Prop} {ls : Array Slot} {rest : List Value} {Qc : Array Value → State → Outcome → State → Prop} {XC : String → State → State → Prop}
    {pc : Nat} {own E : String} {ce : Cell} {q : Addr} {mc ms : Nat} (hown : s.vm.findClass own = some m.cls) (hlocks : meth.locks = false)
    (hpass : ∀ z ∈ c.exceptionTable.toList, covers z pc = false ∨ (z.catchType ≠ 0 ∧ ∃ nm : String, (Cond.classLink own z.catchType nm).before args s = true ∧ va_Nc E nm s)) (hcell : H[q]? = some ce) (hv : ce.vm = .none) (hcl : s.vm.findClass E = some ce.cls)
    (hx : ∀ t : State, t.heap = H → s.vm.Alike t.vm → XC E s t) (hf : ∀ z ∈ locs, free z.base) (hc : cells ≤ mc) (hs : slots ≤ ms) :
    vx_W p l e R s m args below meth c H locs cells slots (vx_MQ below Qc XC args s mc ms free) (F0 m pc ls rest) q := by
  intro T hT X
  have hpl : e.platform.magicAccessors = ({} : Platform).magicAccessors := by rw [X.admits.platform]
  obtain ⟨vm', hW', X', st⟩ := X.outThrough hlocks q (g := F0 m pc ls rest) rfl rfl rfl (cell := ce) (by rw [hT]; exact hcell) (by rw [hv]; rfl)
    (by obtain ⟨k9, h9, -⟩ := Vm.findClass_spec hcl; exact ⟨k9, h9⟩) (fun z hz => by
      rcases hpass z hz with h | ⟨hz0, nm, hl1, hn1⟩
      · exact Or.inl h
      · obtain ⟨c6, hc6, hcl6⟩ := Cond.classLink_spec hown hl1 e.platform hpl
        obtain ⟨a8, b8, h1, h2, h3⟩ := hn1
        cases Option.some.inj (h1.symm.trans hcl)
        cases Option.some.inj (h2.symm.trans hc6)
        exact Or.inr ⟨hz0, _, hcl6, h3⟩)
  obtain ⟨g₀, hfr⟩ := X'.frames_eq
  have hcell9 : ((T.setVm vm').setFrames (.throwing q :: below)).heap[q]? = some ce := by
    show T.heap[q]? = some ce
    rw [hT]; exact hcell
  have hend : Ended ((T.setVm vm').setFrames (.throwing q :: below)) below (.threw q) := State.frames_setFrames _ (State.cur_lt_of_frames hfr)
  refine ⟨(T.setVm vm').setFrames (.throwing q :: below), ?_, .threw q, X'.here.running, hend, Or.inr ⟨q, rfl, E, ce, locs, hx _ hT (X'.ends _).1.alike, hcell9, hv, hcl, (X'.ends _).1, (X'.ends _).2.mono hc hs, hf⟩⟩
  rw [X.pushThrowing_eq]
  exact st
/-- a thing of a world lies in the heap -/
theorem vx_lt {D : va_G} {cl : List vw_C} {ws : va_W} {H1 : Heap} (h : va_P D cl ws H1) {k : Nat} {q : Nat × va_E} (hk : ws[k]? = some q) : q.1 < H1.size := (h k q hk).lt
end VXS
/-! ===== END ===== -/
/-! ===== BEGIN methods with a table of their own: called by a name, returning or throwing ===== -/
section VXH
/-! vx_backW, vx_callVX, vx_callSX, vx_callVW, vx_runVW, vx_runVX, vx_runSX, vx_ofWH follow the same proofs as their sisters above (Free/Laws.lean, Shelf42/LK1.lean); vx_outP calls Shelf42/NT130.lean (outThrough). -/
section
variable {l : Launch} {R : Room} {p : Program} {e : Env} {below : List Frame} {s : State} {sargs : Array Value} {y : MethodName} {len W9 : Nat}
theorem vx_backW {ws : List Cond} {rm : Room} {Pc : Array Value → State → Prop} {Qc : Array Value → State → Outcome → State → Prop} {XC : String → State → State → Prop} {mc ms : Nat} {free : Addr → Prop} {bytes : ByteArray} {maxL : Nat} {ret : Option FieldType} {hh : List (Nat × Nat × Nat × Nat)}
    (hM : vx_Met l y ws rm Pc Qc XC mc ms free) (hblind : FrameBlind Pc) (hrc : rm.cells = mc) (hrs : rm.slots = ms)
    (hframes : rm.frames + 1 ≤ R.frames) (hlocals : W9 + (maxL + 11) + rm.locals ≤ R.locals)
    (hws : ∀ w ∈ ws, ∀ a' U, s.WarmedH U.vm → w.before a' U = true) (hcode : Cond.codeWith y bytes maxL ret hh ∈ ws) (hinit : ∀ a' U, s.WarmedH U.vm → (Cond.initialized y.cls).before a' U = true) :
    vx_Back l R p e below s sargs y len W9 (PreOf R mc ms Pc) (PostOf Qc mc ms free) (vx_Post XC mc ms free) := by
  intro m meth c A g ig mk a X hg hsize hdg hW hn hp
  have h1 : (headSpec ws rm).pre.before a A.U = true := atoms_intro fun w hw => hws w hw _ _ X.warmed
  have h2 : (Cond.codeWith y bytes maxL ret hh).before a A.U = true := hws _ hcode _ _ X.warmed
  have h3 : (Cond.initialized y.cls).before a A.U = true := hinit _ _ X.warmed
  have h4 : A.cells + (headSpec ws rm).room.cells ≤ R.cells := by rw [show (headSpec ws rm).room.cells = mc from hrc]; exact hp.1
  have h5 : A.slots + (headSpec ws rm).room.slots ≤ R.slots := by rw [show (headSpec ws rm).room.slots = ms from hrs]; exact hp.2.1
  have hPc : Pc a (A.U.calling g mk a) := hblind _ _ _ _ hp.2.2
  obtain ⟨U, Ls, c0, s0⟩ := A
  dsimp only [Pt.U, Pt.locs, Pt.cells, Pt.slots] at h1 h2 h3 h4 h5 X hn hPc ⊢
  obtain ⟨m9, methY, cY, hn9, hmY, hcY, -, hlY, -⟩ := Cond.codeWith_spec h2
  cases Option.some.inj (hn9.symm.trans hn)
  obtain ⟨kY, hkY, -⟩ := className_of_methodNamed hn
  have hinitY : kY.init = .initialized := Cond.initialized_spec (findClass_of_methodNamed hn) hkY h3
  have h : At U g.method c below := by rw [hg]; exact X.here
  have hlocals9 : W9 + (maxL + 11) + (headSpec ws rm).room.locals ≤ R.locals := hlocals
  have happ : (headSpec ws rm).appliesLoose y e.platform (U.calling g mk a) = true :=
    Spec.appliesLoose_calling (g := g) h hdg hn hkY hinitY
      (X.room_calling (g := g) (R' := (headSpec ws rm).room) hsize hmY hcY hframes (by rw [hlY]; omega) h4 h5) h1
  obtain ⟨mid, hmid⟩ := h.above
  have hfr : (U.setTop g).frames = (.java g :: mid) ++ below := by rw [State.frames_setTop' g h.top, hmid]; rfl
  obtain ⟨o, s₂, hsteps, -, hend, hq⟩ := Steps.callFree hM p X.admits X.cas X.clock (acts := []) hfr happ hPc trivial
  have hq' : vx_Q Qc XC mc ms free a (U.calling g mk a) o s₂ := hq
  rw [State.frames_setTop' g h.top] at hend
  obtain ⟨g₀, hg0⟩ := Option.isSome_iff_exists.mp h.top
  obtain ⟨r, hr⟩ := State.topJava?_eq_some.mp hg0
  have hr' : (({ U with heap := s₂.heap, slotsUsed := s₂.slotsUsed } : State).setVm s₂.vm).frames = .java g₀ :: r := hr
  rcases hq' with ⟨hqc, L, hfe, hL⟩ | ⟨q, rfl, E, ce, L, hx, hce, hcv, hcl, hW₂, hsm, hL⟩
  · obtain ⟨⟨v, rfl⟩, hW₂, e2, q2, q3, q4, q5, q6⟩ := id hfe
    have e3 : s₂ = ({ (U.calling g mk a).setFrames s₂.frames with heap := s₂.heap, slotsUsed := s₂.slotsUsed } : State).setVm s₂.vm := by
      have : s₂ = ({ s₂ with vm := (U.calling g mk a).vm } : State).setVm s₂.vm := rfl
      rw [e2] at this
      exact this
    obtain ⟨c₂, i₂, len₂, hc₂, hd₂, hf₂⟩ := hend
    have hW' : U.WarmedH s₂.vm := hW₂
    have hcc : c₂ = c := by
      have h1 : s₂.code? g.method = U.code? g.method := by
        rw [State.code?_eq, State.code?_eq, hW'.alike.method?]
      exact Option.some.inj (hc₂.symm.trans (h1.trans h.code))
    subst hcc
    have hlen : len₂ = len := by rw [hdg] at hd₂; cases hd₂; rfl
    subst hlen
    have hs₂ : s₂ = (({ U with heap := s₂.heap, slotsUsed := s₂.slotsUsed } : State).setVm s₂.vm).setTop { g with pc := g.pc + len₂, stack := v.toList ++ g.stack } := by
      refine e3.trans ?_
      rw [hf₂, State.calling_eq h.top, State.setFrames_setFrames, State.setTop_of_frames _ hr', hr]
      rfl
    have hsame : U.sameButNew ({ U with heap := s₂.heap, slotsUsed := s₂.slotsUsed } : State) L mc ms := by
      refine ⟨?_, q2, q3, q4, q5, q6⟩
      obtain ⟨t, ht, -⟩ := State.frames_cons hr
      show ({ U with heap := s₂.heap, slotsUsed := s₂.slotsUsed } : State) = { U.setFrames U.frames with heap := s₂.heap, slotsUsed := s₂.slotsUsed }
      rw [State.setFrames_self ht]
    subst hg
    refine Or.inl ⟨v, ⟨(({ U with heap := s₂.heap, slotsUsed := s₂.slotsUsed } : State).setVm s₂.vm), Ls ++ L, c0 + mc, s0 + ms⟩,
      ⟨X.admits, X.cas, X.clock, X.frames, X.room, X.hears, X.method, X.code, (X.here.setHeapUsed s₂.heap s₂.slotsUsed).setVm hW'.alike, X.tail, State.WarmedH.trans X.warmed hW', X.limits, X.bytes, X.same.trans (hsame.setVm s.vm)⟩,
      ⟨g, mk, s₂, L, rfl, rfl, hqc, rfl, hL, rfl, rfl⟩, ?_⟩
    show Steps p.tables e below _ ((({ U with heap := s₂.heap, slotsUsed := s₂.slotsUsed } : State).setVm s₂.vm).setTop { g with pc := g.pc + len₂, stack := v.toList ++ g.stack })
    rw [← hs₂]
    exact hsteps
  · obtain ⟨e2, q2, q3, q4, q5, q6⟩ := id hsm
    have e3 : s₂ = ({ (U.calling g mk a).setFrames s₂.frames with heap := s₂.heap, slotsUsed := s₂.slotsUsed } : State).setVm s₂.vm := by
      have : s₂ = ({ s₂ with vm := (U.calling g mk a).vm } : State).setVm s₂.vm := rfl
      rw [e2] at this
      exact this
    have hf₂ : s₂.frames = .throwing q :: .java g :: U.frames.tail := hend
    have hW' : U.WarmedH s₂.vm := hW₂
    have hs₂ : s₂ = ((({ U with heap := s₂.heap, slotsUsed := s₂.slotsUsed } : State).setVm s₂.vm).setTop g).pushFrame (.throwing q) := by
      refine e3.trans ?_
      rw [hf₂, State.calling_eq h.top, State.setFrames_setFrames, State.pushFrame, State.frames_setTop _ hr', State.setTop_of_frames _ hr', State.setFrames_setFrames, hr]
      rfl
    have hsame : U.sameButNew ({ U with heap := s₂.heap, slotsUsed := s₂.slotsUsed } : State) L mc ms := by
      refine ⟨?_, q2, q3, q4, q5, q6⟩
      obtain ⟨t, ht, -⟩ := State.frames_cons hr
      show ({ U with heap := s₂.heap, slotsUsed := s₂.slotsUsed } : State) = { U.setFrames U.frames with heap := s₂.heap, slotsUsed := s₂.slotsUsed }
      rw [State.setFrames_self ht]
    subst hg
    refine Or.inr ⟨q, ⟨(({ U with heap := s₂.heap, slotsUsed := s₂.slotsUsed } : State).setVm s₂.vm), Ls ++ L, c0 + mc, s0 + ms⟩,
      ⟨X.admits, X.cas, X.clock, X.frames, X.room, X.hears, X.method, X.code, (X.here.setHeapUsed s₂.heap s₂.slotsUsed).setVm hW'.alike, X.tail, State.WarmedH.trans X.warmed hW', X.limits, X.bytes, X.same.trans (hsame.setVm s.vm)⟩,
      ⟨g, mk, s₂, L, E, ce, rfl, rfl, hx, hce, hcv, hcl, rfl, hL, rfl, rfl⟩, ?_⟩
    show Steps p.tables e below _ (((({ U with heap := s₂.heap, slotsUsed := s₂.slotsUsed } : State).setVm s₂.vm).setTop g).pushFrame (.throwing q))
    rw [← hs₂]
    exact hsteps
end
variable {p : Program} {l : Launch} {e : Env} {R : Room} {s : State} {m : MethodId} {args : Array Value} {below : List Frame} {meth : Method} {c : Code} {T : State} {H : Heap} {locs : List Loc} {cells slots : Nat}
theorem vx_callVX (X : Stand p l e R s m args below meth c T locs cells slots) (hexec : p.tables.exec = Jvm.exec) {own C : String} {index : Nat} {y : MethodName} {bytes : ByteArray} {maxL : Nat} {ret : Option FieldType} {hh : List (Nat × Nat × Nat × Nat)}
    (hown : s.vm.findClass own = some m.cls) (hlink : (Cond.methodLink own index y).before args s = true) (hinst : (Cond.instanceMethod y).before args s = true) (hsel : (Cond.selects C y y).before args s = true)
    (hcode : (Cond.codeWith y bytes maxL ret hh).before args s = true) (hy : y.cls ≠ "java/lang/invoke/MethodHandle" ∧ y.cls ≠ "java/lang/invoke/VarHandle")
    {W9 : Nat} {Pre : Pt → Array Value → Prop} {Post : Pt → Array Value → Option Value → Pt → Prop} {PostX : Pt → Array Value → Addr → Pt → Prop} (hK : vx_Back l R p e below s args y 3 W9 Pre Post PostX)
    {b : Addr} {cellB : Cell} (hcell : T.heap[b]? = some cellB) (hobj : cellB.vm.isStatics = false) (hcls : s.vm.findClass C = some cellB.cls)
    {g : JFrame} (hg : g.method = m) (hsize : g.locals.size = c.maxLocals) {argsL rest : List Value} (hlen : ∀ sig, parseMethodDescriptor y.desc = some sig → argsL.length = sig.parameters.length)
    (hstack : g.stack = argsL.reverse ++ .ref b :: rest) (hW : 2 * g.monitorRoom + (rest.map fun v => v.category).sum ≤ W9) (hdg : decode c.code g.pc = .ok (.invokevirtual index, 3))
    (hpre : ∀ vm₁, s.WarmedH vm₁ → Pre ⟨T.setVm vm₁, locs, cells, slots⟩ (Value.ref b :: argsL).toArray) :
    (∃ (v : Option Value) (vm₁ : Vm) (B : Pt), s.WarmedH vm₁ ∧ Stand p l e R s m args below meth c B.U B.locs B.cells B.slots ∧ Post ⟨T.setVm vm₁, locs, cells, slots⟩ (Value.ref b :: argsL).toArray v B ∧
      ∀ target, Steps p.tables e below (B.U.setTop { g with pc := g.pc + 3, stack := v.toList ++ rest }) target → Steps p.tables e below (T.setTop g) target) ∨
    (∃ (q : Addr) (vm₁ : Vm) (B : Pt), s.WarmedH vm₁ ∧ Stand p l e R s m args below meth c B.U B.locs B.cells B.slots ∧ PostX ⟨T.setVm vm₁, locs, cells, slots⟩ (Value.ref b :: argsL).toArray q B ∧
      Steps p.tables e below (T.setTop g) ((B.U.setTop { g with stack := rest }).pushFrame (.throwing q))) := by
  obtain ⟨mk, methM, hnamed, hmethM, hstM, habM⟩ := Cond.instanceMethod_spec hinst
  obtain ⟨m8, methM', cM, hn8, hmethM', -, -, -, -, -, -, hsigM⟩ := Cond.codeWith_spec hcode
  cases Option.some.inj (hn8.symm.trans hnamed)
  cases hmethM.symm.trans hmethM'
  obtain ⟨c2, r2, m2, q1, q2, q3, q4, kP, hkP, hkPi⟩ := Cond.selects_spec hsel
  cases hcls.symm.trans q1
  cases (State.methodFound?_of_named hnamed hy).symm.trans q2
  cases hnamed.symm.trans q3
  have hselP : selectMethod e.platform s.vm cellB.cls mk = .method mk := by rw [Launch.admits_selectMethod X.admits]; exact q4
  obtain ⟨vm₁, X₁, hstep₁⟩ := X.invokevirtual hexec hown hlink hnamed hmethM hstM hkP hkPi hy (a := b) (cell := cellB) hcell
    (fun z h => by rw [h] at hobj; cases hobj) hselP hmethM habM hkP hkPi (g := g) hg (argsL := argsL) (rest := rest) (hlen _ hsigM) hstack hdg
  rcases hK m meth c ⟨T.setVm vm₁, locs, cells, slots⟩ { g with stack := rest } (.invokevirtual index) mk (Value.ref b :: argsL).toArray X₁ hg hsize hdg hW (X₁.named hnamed) (hpre vm₁ X₁.warmed) with ⟨v, B, X', hpost, hsteps⟩ | ⟨q, B, X', hpost, hsteps⟩
  · exact Or.inl ⟨v, vm₁, B, X₁.warmed, X', hpost, fun target h => hstep₁ _ fun acts => by rw [doInvoke_state]; exact hsteps.trans h⟩
  · exact Or.inr ⟨q, vm₁, B, X₁.warmed, X', hpost, hstep₁ _ fun acts => by rw [doInvoke_state]; exact hsteps⟩
theorem vx_callSX (X : Stand p l e R s m args below meth c T locs cells slots) (hexec : p.tables.exec = Jvm.exec) {own : String} {index : Nat} {y : MethodName} {bytes : ByteArray} {maxL : Nat} {ret : Option FieldType} {hh : List (Nat × Nat × Nat × Nat)}
    (hown : s.vm.findClass own = some m.cls) (hlink : (Cond.methodLink own index y).before args s = true) (hstat : (Cond.static y).before args s = true) (hinit : (Cond.initialized y.cls).before args s = true)
    (hcode : (Cond.codeWith y bytes maxL ret hh).before args s = true) (hy : y.cls ≠ "java/lang/invoke/MethodHandle" ∧ y.cls ≠ "java/lang/invoke/VarHandle")
    {W9 : Nat} {Pre : Pt → Array Value → Prop} {Post : Pt → Array Value → Option Value → Pt → Prop} {PostX : Pt → Array Value → Addr → Pt → Prop} (hK : vx_Back l R p e below s args y 3 W9 Pre Post PostX)
    {g : JFrame} (hg : g.method = m) (hsize : g.locals.size = c.maxLocals) {argsL rest : List Value} (hlen : ∀ sig, parseMethodDescriptor y.desc = some sig → argsL.length = sig.parameters.length)
    (hstack : g.stack = argsL.reverse ++ rest) (hW : 2 * g.monitorRoom + (rest.map fun v => v.category).sum ≤ W9) (hdg : decode c.code g.pc = .ok (.invokestatic index, 3))
    (hpre : ∀ vm₁, s.WarmedH vm₁ → Pre ⟨T.setVm vm₁, locs, cells, slots⟩ argsL.toArray) :
    (∃ (v : Option Value) (vm₁ : Vm) (B : Pt), s.WarmedH vm₁ ∧ Stand p l e R s m args below meth c B.U B.locs B.cells B.slots ∧ Post ⟨T.setVm vm₁, locs, cells, slots⟩ argsL.toArray v B ∧
      ∀ target, Steps p.tables e below (B.U.setTop { g with pc := g.pc + 3, stack := v.toList ++ rest }) target → Steps p.tables e below (T.setTop g) target) ∨
    (∃ (q : Addr) (vm₁ : Vm) (B : Pt), s.WarmedH vm₁ ∧ Stand p l e R s m args below meth c B.U B.locs B.cells B.slots ∧ PostX ⟨T.setVm vm₁, locs, cells, slots⟩ argsL.toArray q B ∧
      Steps p.tables e below (T.setTop g) ((B.U.setTop { g with stack := rest }).pushFrame (.throwing q))) := by
  obtain ⟨mk, methM, cM, hnamed, hmethM, -, -, -, -, -, -, hsigM⟩ := Cond.codeWith_spec hcode
  have hstatic : methM.isStatic = true := Cond.static_spec hnamed hmethM hstat
  obtain ⟨kP, hkP, -⟩ := className_of_methodNamed hnamed
  have hinitP : kP.init = .initialized := Cond.initialized_spec (findClass_of_methodNamed hnamed) hkP hinit
  obtain ⟨vm₁, X₁, hstep₁⟩ := X.invokestatic hexec hown hlink hnamed hmethM hstatic hkP hinitP hy (g := g) hg (argsL := argsL) (rest := rest) (hlen _ hsigM) hstack hdg
  rcases hK m meth c ⟨T.setVm vm₁, locs, cells, slots⟩ { g with stack := rest } (.invokestatic index) mk argsL.toArray X₁ hg hsize hdg hW (X₁.named hnamed) (hpre vm₁ X₁.warmed) with ⟨v, B, X', hpost, hsteps⟩ | ⟨q, B, X', hpost, hsteps⟩
  · exact Or.inl ⟨v, vm₁, B, X₁.warmed, X', hpost, fun target h => hstep₁ _ fun acts => by rw [doInvoke_state]; exact hsteps.trans h⟩
  · exact Or.inr ⟨q, vm₁, B, X₁.warmed, X', hpost, hstep₁ _ fun acts => by rw [doInvoke_state]; exact hsteps⟩
theorem vx_callVW (X : Stand p l e R s m args below meth c T locs cells slots) (hexec : p.tables.exec = Jvm.exec) {own C : String} {index : Nat} {y : MethodName} {bytes : ByteArray} {maxL : Nat} {ret : Option FieldType} {hh : List (Nat × Nat × Nat × Nat)}
    (hown : s.vm.findClass own = some m.cls) (hlink : (Cond.methodLink own index y).before args s = true) (hinst : (Cond.instanceMethod y).before args s = true) (hsel : (Cond.selects C y y).before args s = true)
    (hcode : (Cond.codeWith y bytes maxL ret hh).before args s = true) (hy : y.cls ≠ "java/lang/invoke/MethodHandle" ∧ y.cls ≠ "java/lang/invoke/VarHandle")
    {W9 : Nat} {Pre : Pt → Array Value → Prop} {Post : Pt → Array Value → Option Value → Pt → Prop} (hK : Back l R p e below s args y 3 W9 Pre Post)
    {b : Addr} {cellB : Cell} (hcell : T.heap[b]? = some cellB) (hobj : cellB.vm.isStatics = false) (hcls : s.vm.findClass C = some cellB.cls)
    {g : JFrame} (hg : g.method = m) (hsize : g.locals.size = c.maxLocals) {argsL rest : List Value} (hlen : ∀ sig, parseMethodDescriptor y.desc = some sig → argsL.length = sig.parameters.length)
    (hstack : g.stack = argsL.reverse ++ .ref b :: rest) (hW : 2 * g.monitorRoom + (rest.map fun v => v.category).sum ≤ W9) (hdg : decode c.code g.pc = .ok (.invokevirtual index, 3))
    (hpre : ∀ vm₁, s.WarmedH vm₁ → Pre ⟨T.setVm vm₁, locs, cells, slots⟩ (Value.ref b :: argsL).toArray) :
    ∃ (v : Option Value) (vm₁ : Vm) (B : Pt), s.WarmedH vm₁ ∧ Stand p l e R s m args below meth c B.U B.locs B.cells B.slots ∧ Post ⟨T.setVm vm₁, locs, cells, slots⟩ (Value.ref b :: argsL).toArray v B ∧
      ∀ target, Steps p.tables e below (B.U.setTop { g with pc := g.pc + 3, stack := v.toList ++ rest }) target → Steps p.tables e below (T.setTop g) target := by
  obtain ⟨mk, methM, hnamed, hmethM, hstM, habM⟩ := Cond.instanceMethod_spec hinst
  obtain ⟨m8, methM', cM, hn8, hmethM', -, -, -, -, -, -, hsigM⟩ := Cond.codeWith_spec hcode
  cases Option.some.inj (hn8.symm.trans hnamed)
  cases hmethM.symm.trans hmethM'
  obtain ⟨c2, r2, m2, q1, q2, q3, q4, kP, hkP, hkPi⟩ := Cond.selects_spec hsel
  cases hcls.symm.trans q1
  cases (State.methodFound?_of_named hnamed hy).symm.trans q2
  cases hnamed.symm.trans q3
  have hselP : selectMethod e.platform s.vm cellB.cls mk = .method mk := by rw [Launch.admits_selectMethod X.admits]; exact q4
  obtain ⟨vm₁, X₁, hstep₁⟩ := X.invokevirtual hexec hown hlink hnamed hmethM hstM hkP hkPi hy (a := b) (cell := cellB) hcell
    (fun z h => by rw [h] at hobj; cases hobj) hselP hmethM habM hkP hkPi (g := g) hg (argsL := argsL) (rest := rest) (hlen _ hsigM) hstack hdg
  obtain ⟨v, B, X', hpost, hsteps⟩ := hK m meth c ⟨T.setVm vm₁, locs, cells, slots⟩ { g with stack := rest } (.invokevirtual index) mk (Value.ref b :: argsL).toArray X₁ hg hsize hdg hW (X₁.named hnamed) (hpre vm₁ X₁.warmed)
  exact ⟨v, vm₁, B, X₁.warmed, X', hpost, fun target h => hstep₁ _ fun acts => by rw [doInvoke_state]; exact hsteps.trans h⟩
abbrev vx_CVW (R : Room) (s : State) (args : Array Value) (own C : String) (index : Nat) (y : MethodName) (bytes : ByteArray) (maxL : Nat) (ret : Option FieldType) (hh : List (Nat × Nat × Nat × Nat)) (ws : List Cond) (rm : Room) (mc ms n : Nat) : Prop :=
  (rm.cells = mc ∧ rm.slots = ms ∧ rm.frames + 1 ≤ R.frames ∧ 8 + (maxL + 11) + rm.locals ≤ R.locals ∧ (∀ w ∈ ws, ∀ (a' : Array Value) (U : State), s.WarmedH U.vm → w.before a' U = true) ∧ Cond.codeWith y bytes maxL ret hh ∈ ws) ∧
  (Cond.codeWith y bytes maxL ret hh).before args s = true ∧ (Cond.initialized y.cls).before args s = true ∧ (y.cls ≠ "java/lang/invoke/MethodHandle" ∧ y.cls ≠ "java/lang/invoke/VarHandle") ∧
  (∀ sig, parseMethodDescriptor y.desc = some sig → n = sig.parameters.length) ∧ (Cond.methodLink own index y).before args s = true ∧ (Cond.instanceMethod y).before args s = true ∧ (Cond.selects C y y).before args s = true
theorem vx_cwVW {own C : String} {index maxL mc ms : Nat} {y : MethodName} {bytes : ByteArray} {ret : Option FieldType} {hh : List (Nat × Nat × Nat × Nat)} {Ts ws ws' : List Cond} {rm : Room} (n : Nat) (ht : ∀ w ∈ Ts, w.before args s = true) (hT : GoodIn Ts (wsV own index C y ws)) (hw : ws = Cond.codeWith y bytes maxL ret hh :: ws') (hrc : rm.cells = mc) (hrs : rm.slots = ms)
    (hd : y.cls = C ∧ y.cls ≠ "java/lang/invoke/MethodHandle" ∧ y.cls ≠ "java/lang/invoke/VarHandle" ∧ (parseMethodDescriptor y.desc).map (fun d => d.parameters.length) = some n) (hR : rm.frames + 1 ≤ R.frames ∧ 8 + (maxL + 11) + rm.locals ≤ R.locals) :
    vx_CVW R s args own C index y bytes maxL ret hh ws rm mc ms n := by
  obtain ⟨hC, hd⟩ := hd
  subst hC
  have ok : ∀ w ∈ wsV own index y.cls y ws, w.before args s = true := fun w h => ht w (hT w h).1
  have hG : GoodIn Ts ws := fun w h => hT w (by unfold wsV; exact List.mem_append_right _ h)
  have hc : Cond.codeWith y bytes maxL ret hh ∈ ws := by rw [hw]; exact List.mem_cons_self
  refine ⟨⟨hrc, hrs, hR.1, hR.2, pay_in ht hG, hc⟩, ht _ (hG _ hc).1, ok _ (by simp [wsV]), ⟨hd.1, hd.2.1⟩, fun sig h => ?_, ok _ (by simp [wsV]), ok _ (by simp [wsV]), ok _ (by simp [wsV])⟩
  have h2 := hd.2.2
  rw [h] at h2
  exact (Option.some.inj h2).symm
theorem vx_runVW {y : MethodName} {bytes cc : ByteArray} {maxL nL mc ms n index : Nat} {ret : Option FieldType} {hh : List (Nat × Nat × Nat × Nat)} {ws : List Cond} {rm : Room} {Pc : Array Value → State → Prop} {Qc : Array Value → State → Outcome → State → Prop} {free : Addr → Prop} {Ts : List Cond} {own C : String} {b : Addr} {As rest : List Value} {g : JFrame}
    (S : CallFix p m c cc nL s args Ts own) (hM : Met l y ws rm Pc Qc mc ms free) (cw : vx_CVW R s args own C index y bytes maxL ret hh ws rm mc ms n) (hp : PreV s H C b Pc As)
    (hg : g.method = m) (hn : As.length = n) (hsize : g.locals.size = nL) (hstack : g.stack = As.reverse ++ .ref b :: rest) (hW : 2 * g.monitorRoom + (rest.map fun v => v.category).sum ≤ 8) (hdg : decode cc g.pc = .ok (.invokevirtual index, 3)) (hf : cells + mc ≤ R.cells ∧ slots + ms ≤ R.slots) :
    va_Run p l e R s m args below meth c H locs cells slots mc ms g rest (Qc (Value.ref b :: As).toArray) free := by
  obtain ⟨⟨hrc, hrs, hfr, hlo, hws, hcw⟩, hcode, hini, hy, hlen, hl, hin, hse⟩ := cw
  have hK : Back l R p e below s args y 3 8 (PreOf R mc ms Pc) (PostOf Qc mc ms free) := va_backW (hh := hh) (bytes := bytes) (maxL := maxL) (ret := ret) hM hp.1 hrc hrs hfr hlo hws hcw (fun a' U hW => word_at hW (Or.inl (by first | rfl | simp [Cond.onTables, Cond.keeps, Cond.steady])) hini)
  obtain ⟨hx, hb, hml, ho, -⟩ := S
  obtain ⟨-, ⟨cellB, hcB, hoB, hclB⟩, hPc⟩ := hp
  intro T hT X
  obtain ⟨v, vm₁, ⟨U', l2, c2, s2⟩, hW₁, X', ⟨g', mk, t, L, e1, e2, hq, h1, hL, h2, h3⟩, st⟩ := vx_callVW X hx (C := C) (hh := hh) (bytes := bytes) (maxL := maxL) (ret := ret) ho hl hin hse hcode hy hK (by rw [hT]; exact hcB) hoB hclB hg (hsize.trans hml.symm) (argsL := As) (rest := rest) (fun sig h => hn.trans (hlen sig h)) hstack hW (by rw [hb]; exact hdg)
    (fun vm₁ hW₁ => ⟨hf.1, hf.2, hPc (T.setVm vm₁) hT hW₁⟩)
  dsimp only [Pt.U, Pt.locs, Pt.cells, Pt.slots] at X' e1 e2 h1 h2 h3 st
  subst h1; subst h2; subst h3
  exact ⟨v, (T.setVm vm₁).calling g' mk (Value.ref b :: As).toArray, t, U', L, hT, X', hL, e1, e2, hq, st⟩
section
variable {y : MethodName} {bytes cc : ByteArray} {maxL nL mc ms n index : Nat} {ret : Option FieldType} {ws : List Cond} {rm : Room} {Pc : Array Value → State → Prop} {Qc : Array Value → State → Outcome → State → Prop} {XC : String → State → State → Prop} {free : Addr → Prop} {Ts : List Cond} {own C : String} {b : Addr} {As rest : List Value} {g : JFrame}
theorem vx_runVX {hh : List (Nat × Nat × Nat × Nat)} (S : CallFix p m c cc nL s args Ts own) (hM : vx_Met l y ws rm Pc Qc XC mc ms free) (cw : vx_CVW R s args own C index y bytes maxL ret hh ws rm mc ms n) (hp : PreV s H C b Pc As)
    (hg : g.method = m) (hn : As.length = n) (hsize : g.locals.size = nL) (hstack : g.stack = As.reverse ++ .ref b :: rest) (hW : 2 * g.monitorRoom + (rest.map fun v => v.category).sum ≤ 8) (hdg : decode cc g.pc = .ok (.invokevirtual index, 3)) (hf : cells + mc ≤ R.cells ∧ slots + ms ≤ R.slots) :
    vx_Run p l e R s m args below meth c H locs cells slots mc ms g rest (Qc (Value.ref b :: As).toArray) XC free := by
  obtain ⟨⟨hrc, hrs, hfr, hlo, hws, hcw⟩, hcode, hini, hy, hlen, hl, hin, hse⟩ := cw
  have hK : vx_Back l R p e below s args y 3 8 (PreOf R mc ms Pc) (PostOf Qc mc ms free) (vx_Post XC mc ms free) := vx_backW (hh := hh) (bytes := bytes) (maxL := maxL) (ret := ret) hM hp.1 hrc hrs hfr hlo hws hcw (fun a' U hW => word_at hW (Or.inl (by first | rfl | simp [Cond.onTables, Cond.keeps, Cond.steady])) hini)
  obtain ⟨hx, hb, hml, ho, -⟩ := S
  obtain ⟨-, ⟨cellB, hcB, hoB, hclB⟩, hPc⟩ := hp
  intro T hT X
  rcases vx_callVX X hx (C := C) (hh := hh) (bytes := bytes) (maxL := maxL) (ret := ret) ho hl hin hse hcode hy hK (by rw [hT]; exact hcB) hoB hclB hg (hsize.trans hml.symm) (argsL := As) (rest := rest) (fun sig h => hn.trans (hlen sig h)) hstack hW (by rw [hb]; exact hdg)
    (fun vm₁ hW₁ => ⟨hf.1, hf.2, hPc (T.setVm vm₁) hT hW₁⟩) with ⟨v, vm₁, ⟨U', l2, c2, s2⟩, hW₁, X', ⟨g', mk, t, L, e1, e2, hq, h1, hL, h2, h3⟩, st⟩ | ⟨q, vm₁, ⟨U', l2, c2, s2⟩, hW₁, X', ⟨g', mk, t, L, E, ce, e1, e2, hq, hce, hcv, hcl, h1, hL, h2, h3⟩, st⟩
  · dsimp only [Pt.U, Pt.locs, Pt.cells, Pt.slots] at X' e1 e2 h1 h2 h3 st
    subst h1; subst h2; subst h3
    exact Or.inl ⟨v, (T.setVm vm₁).calling g' mk (Value.ref b :: As).toArray, t, U', L, hT, X', hL, e1, e2, hq, st⟩
  · dsimp only [Pt.U, Pt.locs, Pt.cells, Pt.slots] at X' e1 e2 h1 h2 h3 st hcl
    subst h1; subst h2; subst h3
    exact Or.inr ⟨q, (T.setVm vm₁).calling g' mk (Value.ref b :: As).toArray, t, U', L, E, ce, hT, X', hL, e1, e2, hq, hce, hcv, vx_cls hW₁ hcl, st⟩
theorem vx_runSX {hh : List (Nat × Nat × Nat × Nat)} (S : CallFix p m c cc nL s args Ts own) (hM : vx_Met l y ws rm Pc Qc XC mc ms free) (cw : vx_CSW R s args own index y bytes maxL ret hh ws rm mc ms n) (hp : PreS s H Pc As)
    (hg : g.method = m) (hn : As.length = n) (hsize : g.locals.size = nL) (hstack : g.stack = As.reverse ++ rest) (hW : 2 * g.monitorRoom + (rest.map fun v => v.category).sum ≤ 8) (hdg : decode cc g.pc = .ok (.invokestatic index, 3)) (hf : cells + mc ≤ R.cells ∧ slots + ms ≤ R.slots) :
    vx_Run p l e R s m args below meth c H locs cells slots mc ms g rest (Qc As.toArray) XC free := by
  obtain ⟨⟨hrc, hrs, hfr, hlo, hws, hcw⟩, hcode, hini, hy, hlen, hl, hstt⟩ := cw
  have hK : vx_Back l R p e below s args y 3 8 (PreOf R mc ms Pc) (PostOf Qc mc ms free) (vx_Post XC mc ms free) := vx_backW (hh := hh) (bytes := bytes) (maxL := maxL) (ret := ret) hM hp.1 hrc hrs hfr hlo hws hcw (fun a' U hW => word_at hW (Or.inl (by first | rfl | simp [Cond.onTables, Cond.keeps, Cond.steady])) hini)
  obtain ⟨hx, hb, hml, ho, -⟩ := S
  intro T hT X
  rcases vx_callSX X hx (hh := hh) (bytes := bytes) (maxL := maxL) (ret := ret) ho hl hstt hini hcode hy hK hg (hsize.trans hml.symm) (argsL := As) (rest := rest) (fun sig h => hn.trans (hlen sig h)) hstack hW (by rw [hb]; exact hdg)
    (fun vm₁ hW₁ => ⟨hf.1, hf.2, hp.2 (T.setVm vm₁) hT hW₁⟩) with ⟨v, vm₁, ⟨U', l2, c2, s2⟩, hW₁, X', ⟨g', mk, t, L, e1, e2, hq, h1, hL, h2, h3⟩, st⟩ | ⟨q, vm₁, ⟨U', l2, c2, s2⟩, hW₁, X', ⟨g', mk, t, L, E, ce, e1, e2, hq, hce, hcv, hcl, h1, hL, h2, h3⟩, st⟩
  · dsimp only [Pt.U, Pt.locs, Pt.cells, Pt.slots] at X' e1 e2 h1 h2 h3 st
    subst h1; subst h2; subst h3
    exact Or.inl ⟨v, (T.setVm vm₁).calling g' mk As.toArray, t, U', L, hT, X', hL, e1, e2, hq, st⟩
  · dsimp only [Pt.U, Pt.locs, Pt.cells, Pt.slots] at X' e1 e2 h1 h2 h3 st hcl
    subst h1; subst h2; subst h3
    exact Or.inr ⟨q, (T.setVm vm₁).calling g' mk As.toArray, t, U', L, E, ce, hT, X', hL, e1, e2, hq, hce, hcv, vx_cls hW₁ hcl, st⟩
end
end VXH
theorem vx_ofWH {l : Launch} {y : MethodName} {ws ws' : List Cond} {rm : Room} {Pc : Array Value → State → Prop} {Qc : Array Value → State → Outcome → State → Prop} {XC : String → State → State → Prop} {mc ms : Nat} {free : Addr → Prop} {cc : ByteArray} {maxL : Nat} {ret : Option FieldType} {hh : List (Nat × Nat × Nat × Nat)}
    (hy : plainName y.cls = true) (hw : ws = Cond.codeWith y cc maxL ret hh :: ws')
    (body : ∀ p e s m args below meth c s₁, BodyLoose p l y (headSpec ws rm) cc maxL ret e s m args below meth c s₁ → c.maxLocals = maxL → Pc args s →
      W p l e (headSpec ws rm).room s m args below meth c s.heap [] 0 0 (vx_MQ below Qc XC args s mc ms free) (entryFrame m args maxL)) : vx_Met l y ws rm Pc Qc XC mc ms free := by
  refine MetFree.of_bodyS (code := cc) (maxLocals := maxL) (ret := ret) hy ?_ ?_
  · intro args s m h hn
    obtain ⟨m9, meth, c, hn9, h1, h2, h3, h4, -, h5, h6, -⟩ := Cond.codeWith_spec (atoms_spec (ws := ws) h _ (by rw [hw]; exact List.mem_cons_self))
    cases hn.symm.trans hn9
    exact ⟨meth, c, h1, h2, h3, h4, h5, h6⟩
  · intro p e s m args below meth c s₁ B hml hP _
    have hh0 : s₁.heap = s.heap := by rw [B.state]; rfl
    obtain ⟨t, a1, o, b1, b2, b3⟩ := body p e s m args below meth c s₁ B hml hP s₁ hh0 (Stand.of_body B)
    exact ⟨t, o, a1, b1, b2, b3⟩
/-! ===== END ===== -/
end
section
/-! printed by claim/NAMES, cut down by wip/whole/names.py -/
def RX0 : String := "ShellPair$Aes"
def TX0 : u_T := fun k => match k with
  | 0 => ("ShellPair$Aes", "mixed", "[I", true)
  | 1 => ("ShellPair$Aes", "keys", "[I", true)
  | 2 => ("ShellPair$Aes", "counter", "[I", true)
  | 3 => ("ShellPair$Aes", "stream", "[I", true)
  | _ => ("ShellPair$Aes", "rounds", "I", false)
def tyX0 : Nat → FieldType := fun k => match k with
  | 0 => .array .int
  | 1 => .array .int
  | 2 => .array .int
  | 3 => .array .int
  | _ => .int
abbrev wsX00 : List Cond := u_ws RX0 TX0 5
theorem nmX0 : ∀ a, a < 5 → ∀ b, b < 5 → a ≠ b → (TX0 a).2.1 ≠ (TX0 b).2.1 := by decide +kernel
theorem tyX0_ok : ∀ k, k < 5 → parseFieldDescriptor (TX0 k).2.2.1 = some (tyX0 k) := by decide +kernel
abbrev cX0_init : ByteArray := prog_2_method_1_code
def yX0_init : MethodName := ⟨RX0, "<init>", "()V"⟩
abbrev cX0_forgetsKey : ByteArray := prog_2_method_2_code
def yX0_forgetsKey : MethodName := ⟨RX0, "forgetsKey", "()V"⟩
abbrev cX0_takesKey : ByteArray := prog_2_method_3_code
def yX0_takesKey : MethodName := ⟨RX0, "takesKey", "([BI[B)V"⟩
abbrev cX0_wordAt : ByteArray := prog_2_method_4_code
def yX0_wordAt : MethodName := ⟨RX0, "wordAt", "([BI)I"⟩
abbrev cX0_boxed : ByteArray := prog_2_method_5_code
def yX0_boxed : MethodName := ⟨RX0, "boxed", "(I)I"⟩
abbrev cX0_crypt : ByteArray := prog_2_method_6_code
def yX0_crypt : MethodName := ⟨RX0, "crypt", "([BII)V"⟩
abbrev cX0_makesStream : ByteArray := prog_2_method_7_code
def yX0_makesStream : MethodName := ⟨RX0, "makesStream", "()V"⟩
def RX1 : String := "ShellPair$Bytes"
def TX1 : u_T := fun k => match k with
  | 0 => ("ShellPair$Bytes", "data", "[B", false)
  | 1 => ("ShellPair$Bytes", "from", "I", false)
  | 2 => ("ShellPair$Bytes", "size", "I", false)
  | 3 => ("ShellPair$Bytes", "cursor", "I", false)
  | 4 => ("ShellPair$Bytes", "bad", "Z", false)
  | _ => ("ShellPair$Bytes", "textSize", "I", false)
def tyX1 : Nat → FieldType := fun k => match k with
  | 0 => .array .byte
  | 1 => .int
  | 2 => .int
  | 3 => .int
  | 4 => .boolean
  | _ => .int
abbrev wsX10 : List Cond := u_ws RX1 TX1 6
theorem nmX1 : ∀ a, a < 6 → ∀ b, b < 6 → a ≠ b → (TX1 a).2.1 ≠ (TX1 b).2.1 := by decide +kernel
theorem tyX1_ok : ∀ k, k < 6 → parseFieldDescriptor (TX1 k).2.2.1 = some (tyX1 k) := by decide +kernel
abbrev cX1_init : ByteArray := prog_3_method_1_code
def yX1_init : MethodName := ⟨RX1, "<init>", "(I)V"⟩
abbrev cX1_clear : ByteArray := prog_3_method_2_code
def yX1_clear : MethodName := ⟨RX1, "clear", "()V"⟩
abbrev cX1_rewind : ByteArray := prog_3_method_3_code
def yX1_rewind : MethodName := ⟨RX1, "rewind", "()V"⟩
abbrev cX1_become : ByteArray := prog_3_method_4_code
def yX1_become : MethodName := ⟨RX1, "become", "(LShellPair$Bytes;)V"⟩
abbrev cX1_cut : ByteArray := prog_3_method_5_code
def yX1_cut : MethodName := ⟨RX1, "cut", "(I)V"⟩
abbrev cX1_drop : ByteArray := prog_3_method_6_code
def yX1_drop : MethodName := ⟨RX1, "drop", "(I)V"⟩
abbrev cX1_take : ByteArray := prog_3_method_7_code
def yX1_take : MethodName := ⟨RX1, "take", "()I"⟩
abbrev cX1_makeRoom : ByteArray := prog_3_method_8_code
def yX1_makeRoom : MethodName := ⟨RX1, "makeRoom", "(I)V"⟩
abbrev cX1_put : ByteArray := prog_3_method_9_code
def yX1_put : MethodName := ⟨RX1, "put", "(I)V"⟩
abbrev cX1_putInt : ByteArray := prog_3_method_10_code
def yX1_putInt : MethodName := ⟨RX1, "putInt", "(I)V"⟩
abbrev cX1_putText : ByteArray := prog_3_method_11_code
def yX1_putText : MethodName := ⟨RX1, "putText", "(Ljava/lang/String;)V"⟩
abbrev cX1_putName : ByteArray := prog_3_method_12_code
def yX1_putName : MethodName := ⟨RX1, "putName", "(Ljava/lang/String;)V"⟩
abbrev cX1_putPart : ByteArray := prog_3_method_13_code
def yX1_putPart : MethodName := ⟨RX1, "putPart", "(LShellPair$Bytes;II)V"⟩
abbrev cX1_putAll : ByteArray := prog_3_method_14_code
def yX1_putAll : MethodName := ⟨RX1, "putAll", "(LShellPair$Bytes;)V"⟩
abbrev cX1_putString : ByteArray := prog_3_method_15_code
def yX1_putString : MethodName := ⟨RX1, "putString", "(LShellPair$Bytes;)V"⟩
abbrev cX1_putArray : ByteArray := prog_3_method_16_code
def yX1_putArray : MethodName := ⟨RX1, "putArray", "([BI)V"⟩
abbrev cX1_putArrayString : ByteArray := prog_3_method_17_code
def yX1_putArrayString : MethodName := ⟨RX1, "putArrayString", "([BI)V"⟩
abbrev cX1_replace : ByteArray := prog_3_method_18_code
def yX1_replace : MethodName := ⟨RX1, "replace", "(II)V"⟩
abbrev cX1_at : ByteArray := prog_3_method_19_code
def yX1_at : MethodName := ⟨RX1, "at", "(I)I"⟩
abbrev cX1_intAt : ByteArray := prog_3_method_20_code
def yX1_intAt : MethodName := ⟨RX1, "intAt", "(I)I"⟩
abbrev cX1_copyTo : ByteArray := prog_3_method_21_code
def yX1_copyTo : MethodName := ⟨RX1, "copyTo", "([BI)V"⟩
abbrev cX1_nextByte : ByteArray := prog_3_method_22_code
def yX1_nextByte : MethodName := ⟨RX1, "nextByte", "()I"⟩
abbrev cX1_nextInt : ByteArray := prog_3_method_23_code
def yX1_nextInt : MethodName := ⟨RX1, "nextInt", "()I"⟩
abbrev cX1_nextText : ByteArray := prog_3_method_24_code
def yX1_nextText : MethodName := ⟨RX1, "nextText", "()I"⟩
abbrev cX1_whole : ByteArray := prog_3_method_25_code
def yX1_whole : MethodName := ⟨RX1, "whole", "()Z"⟩
abbrev cX1_same : ByteArray := prog_3_method_26_code
def yX1_same : MethodName := ⟨RX1, "same", "(IILjava/lang/String;)Z"⟩
abbrev cX1_samePart : ByteArray := prog_3_method_27_code
def yX1_samePart : MethodName := ⟨RX1, "samePart", "(IILShellPair$Bytes;II)Z"⟩
abbrev cX1_sameArray : ByteArray := prog_3_method_28_code
def yX1_sameArray : MethodName := ⟨RX1, "sameArray", "(II[B)Z"⟩
abbrev cX1_hasShape : ByteArray := prog_3_method_29_code
def yX1_hasShape : MethodName := ⟨RX1, "hasShape", "(III)Z"⟩
abbrev cX1_nameEnd : ByteArray := prog_3_method_30_code
def yX1_nameEnd : MethodName := ⟨RX1, "nameEnd", "(II)I"⟩
abbrev cX1_listHas : ByteArray := prog_3_method_31_code
def yX1_listHas : MethodName := ⟨RX1, "listHas", "(IILShellPair$Bytes;II)Z"⟩
abbrev cX1_order : ByteArray := prog_3_method_32_code
def yX1_order : MethodName := ⟨RX1, "order", "(LShellPair$Bytes;)I"⟩
def RX2 : String := "ShellPair$Chance"
def TX2 : u_T := fun k => match k with
  | 0 => ("ShellPair$Chance", "sha", "LShellPair$Sha2;", true)
  | 1 => ("ShellPair$Chance", "seedAndNumber", "[B", true)
  | 2 => ("ShellPair$Chance", "block", "[B", true)
  | 3 => ("ShellPair$Chance", "number", "J", false)
  | _ => ("ShellPair$Chance", "used", "I", false)
def tyX2 : Nat → FieldType := fun k => match k with
  | 0 => .object "ShellPair$Sha2"
  | 1 => .array .byte
  | 2 => .array .byte
  | 3 => .long
  | _ => .int
abbrev wsX20 : List Cond := u_ws RX2 TX2 5
theorem nmX2 : ∀ a, a < 5 → ∀ b, b < 5 → a ≠ b → (TX2 a).2.1 ≠ (TX2 b).2.1 := by decide +kernel
theorem tyX2_ok : ∀ k, k < 5 → parseFieldDescriptor (TX2 k).2.2.1 = some (tyX2 k) := by decide +kernel
abbrev cX2_init : ByteArray := prog_4_method_1_code
def yX2_init : MethodName := ⟨RX2, "<init>", "(LShellPair$Sha2;)V"⟩
abbrev cX2_reseed : ByteArray := prog_4_method_2_code
def yX2_reseed : MethodName := ⟨RX2, "reseed", "(LShellPair$Bytes;)V"⟩
abbrev cX2_next : ByteArray := prog_4_method_3_code
def yX2_next : MethodName := ⟨RX2, "next", "()B"⟩
def RX3 : String := "ShellPair$Channel"
def TX3 : u_T := fun k => match k with
  | 0 => ("ShellPair$Channel", "in", "LShellPair$Bytes;", true)
  | 1 => ("ShellPair$Channel", "errors", "LShellPair$Bytes;", true)
  | 2 => ("ShellPair$Channel", "out", "LShellPair$Bytes;", true)
  | 3 => ("ShellPair$Channel", "command", "LShellPair$Bytes;", true)
  | 4 => ("ShellPair$Channel", "state", "I", false)
  | 5 => ("ShellPair$Channel", "port", "I", false)
  | 6 => ("ShellPair$Channel", "other", "I", false)
  | 7 => ("ShellPair$Channel", "window", "J", false)
  | 8 => ("ShellPair$Channel", "greatest", "I", false)
  | 9 => ("ShellPair$Channel", "granted", "I", false)
  | 10 => ("ShellPair$Channel", "told", "I", false)
  | 11 => ("ShellPair$Channel", "stage", "I", false)
  | 12 => ("ShellPair$Channel", "status", "I", false)
  | 13 => ("ShellPair$Channel", "reason", "I", false)
  | 14 => ("ShellPair$Channel", "waiting", "I", false)
  | 15 => ("ShellPair$Channel", "answered", "I", false)
  | 16 => ("ShellPair$Channel", "refused", "I", false)
  | _ => ("ShellPair$Channel", "marks", "I", false)
def tyX3 : Nat → FieldType := fun k => match k with
  | 0 => .object "ShellPair$Bytes"
  | 1 => .object "ShellPair$Bytes"
  | 2 => .object "ShellPair$Bytes"
  | 3 => .object "ShellPair$Bytes"
  | 4 => .int
  | 5 => .int
  | 6 => .int
  | 7 => .long
  | 8 => .int
  | 9 => .int
  | 10 => .int
  | 11 => .int
  | 12 => .int
  | 13 => .int
  | 14 => .int
  | 15 => .int
  | 16 => .int
  | _ => .int
abbrev wsX30 : List Cond := u_ws RX3 TX3 18
theorem nmX3 : ∀ a, a < 18 → ∀ b, b < 18 → a ≠ b → (TX3 a).2.1 ≠ (TX3 b).2.1 := by decide +kernel
theorem tyX3_ok : ∀ k, k < 18 → parseFieldDescriptor (TX3 k).2.2.1 = some (tyX3 k) := by decide +kernel
abbrev cX3_init : ByteArray := prog_5_method_1_code
def yX3_init : MethodName := ⟨RX3, "<init>", "()V"⟩
abbrev cX3_begins : ByteArray := prog_5_method_2_code
def yX3_begins : MethodName := ⟨RX3, "begins", "(II[I)V"⟩
abbrev cX3_isAnswered : ByteArray := prog_5_method_3_code
def yX3_isAnswered : MethodName := ⟨RX3, "isAnswered", "(III)V"⟩
abbrev cX3_inUse : ByteArray := prog_5_method_4_code
def yX3_inUse : MethodName := ⟨RX3, "inUse", "()Z"⟩
abbrev cX3_is : ByteArray := prog_5_method_5_code
def yX3_is : MethodName := ⟨RX3, "is", "(I)Z"⟩
abbrev cX3_mark : ByteArray := prog_5_method_6_code
def yX3_mark : MethodName := ⟨RX3, "mark", "(I)V"⟩
abbrev cX3_unmark : ByteArray := prog_5_method_7_code
def yX3_unmark : MethodName := ⟨RX3, "unmark", "(I)V"⟩
abbrev cX3_tells : ByteArray := prog_5_method_8_code
def yX3_tells : MethodName := ⟨RX3, "tells", "(I)I"⟩
def RX4 : String := "ShellPair$Client"
def TX4 : u_T := fun k => match k with
  | 0 => ("ShellPair$End", "isClient", "Z", true)
  | 1 => ("ShellPair$End", "wire", "LShellPair$Bytes;", true)
  | 2 => ("ShellPair$End", "chance", "LShellPair$Chance;", true)
  | 3 => ("ShellPair$End", "curve", "LShellPair$Curve;", true)
  | 4 => ("ShellPair$End", "exchange", "LShellPair$Exchange;", true)
  | 5 => ("ShellPair$End", "outward", "LShellPair$Flow;", true)
  | 6 => ("ShellPair$End", "inward", "LShellPair$Flow;", true)
  | 7 => ("ShellPair$End", "settings", "[I", true)
  | 8 => ("ShellPair$End", "channels", "[LShellPair$Channel;", true)
  | 9 => ("ShellPair$End", "message", "LShellPair$Bytes;", true)
  | 10 => ("ShellPair$End", "body", "LShellPair$Bytes;", true)
  | 11 => ("ShellPair$End", "gathered", "LShellPair$Bytes;", true)
  | 12 => ("ShellPair$End", "packet", "LShellPair$Bytes;", true)
  | 13 => ("ShellPair$End", "state", "I", false)
  | 14 => ("ShellPair$End", "reason", "I", false)
  | 15 => ("ShellPair$End", "proven", "Z", false)
  | 16 => ("ShellPair$End", "linesPassed", "I", false)
  | 17 => ("ShellPair$End", "length", "I", false)
  | 18 => ("ShellPair$Client", "knownHost", "LShellPair$Bytes;", true)
  | 19 => ("ShellPair$Client", "user", "LShellPair$Bytes;", true)
  | 20 => ("ShellPair$Client", "password", "LShellPair$Bytes;", true)
  | 21 => ("ShellPair$Client", "identity", "[B", true)
  | 22 => ("ShellPair$Client", "identityPublic", "[B", true)
  | 23 => ("ShellPair$Client", "askedUser", "LShellPair$Bytes;", true)
  | 24 => ("ShellPair$Client", "askedIdentity", "[B", true)
  | 25 => ("ShellPair$Client", "askedPublic", "[B", true)
  | 26 => ("ShellPair$Client", "hostKey", "LShellPair$Bytes;", true)
  | 27 => ("ShellPair$Client", "text", "LShellPair$Bytes;", true)
  | 28 => ("ShellPair$Client", "key", "[B", true)
  | 29 => ("ShellPair$Client", "signature", "[B", true)
  | 30 => ("ShellPair$Client", "hasIdentity", "Z", false)
  | 31 => ("ShellPair$Client", "serviceGiven", "Z", false)
  | 32 => ("ShellPair$Client", "triedKey", "Z", false)
  | 33 => ("ShellPair$Client", "triedPassword", "Z", false)
  | 34 => ("ShellPair$Client", "answerDue", "I", false)
  | _ => ("ShellPair$Client", "requests", "I", false)
def tyX4 : Nat → FieldType := fun k => match k with
  | 0 => .boolean
  | 1 => .object "ShellPair$Bytes"
  | 2 => .object "ShellPair$Chance"
  | 3 => .object "ShellPair$Curve"
  | 4 => .object "ShellPair$Exchange"
  | 5 => .object "ShellPair$Flow"
  | 6 => .object "ShellPair$Flow"
  | 7 => .array .int
  | 8 => .array (.object "ShellPair$Channel")
  | 9 => .object "ShellPair$Bytes"
  | 10 => .object "ShellPair$Bytes"
  | 11 => .object "ShellPair$Bytes"
  | 12 => .object "ShellPair$Bytes"
  | 13 => .int
  | 14 => .int
  | 15 => .boolean
  | 16 => .int
  | 17 => .int
  | 18 => .object "ShellPair$Bytes"
  | 19 => .object "ShellPair$Bytes"
  | 20 => .object "ShellPair$Bytes"
  | 21 => .array .byte
  | 22 => .array .byte
  | 23 => .object "ShellPair$Bytes"
  | 24 => .array .byte
  | 25 => .array .byte
  | 26 => .object "ShellPair$Bytes"
  | 27 => .object "ShellPair$Bytes"
  | 28 => .array .byte
  | 29 => .array .byte
  | 30 => .boolean
  | 31 => .boolean
  | 32 => .boolean
  | 33 => .boolean
  | 34 => .int
  | _ => .int
abbrev wsX40 : List Cond := u_ws RX4 TX4 36
theorem nmX4 : ∀ a, a < 36 → ∀ b, b < 36 → a ≠ b → (TX4 a).2.1 ≠ (TX4 b).2.1 := by decide +kernel
theorem tyX4_ok : ∀ k, k < 36 → parseFieldDescriptor (TX4 k).2.2.1 = some (tyX4 k) := by decide +kernel
abbrev cX4_init : ByteArray := prog_6_method_1_code
def yX4_init : MethodName := ⟨RX4, "<init>", "(LShellPair$Bytes;LShellPair$Sha2;LShellPair$Curve;)V"⟩
abbrev cX4_takesIdentity : ByteArray := prog_6_method_2_code
def yX4_takesIdentity : MethodName := ⟨RX4, "takesIdentity", "(LShellPair$Bytes;)V"⟩
abbrev cX4_becomes : ByteArray := prog_6_method_3_code
def yX4_becomes : MethodName := ⟨RX4, "becomes", "(LShellPair$Bytes;I)V"⟩
abbrev cX4_forgetsAsking : ByteArray := prog_6_method_4_code
def yX4_forgetsAsking : MethodName := ⟨RX4, "forgetsAsking", "()V"⟩
abbrev cX4_asked : ByteArray := prog_6_method_5_code
def yX4_asked : MethodName := ⟨RX4, "asked", "()I"⟩
abbrev cX4_takesReply : ByteArray := prog_6_method_6_code
def yX4_takesReply : MethodName := ⟨RX4, "takesReply", "()I"⟩
abbrev cX4_firstExchangeIsComplete : ByteArray := prog_6_method_7_code
def yX4_firstExchangeIsComplete : MethodName := ⟨RX4, "firstExchangeIsComplete", "()V"⟩
abbrev cX4_answersAsking : ByteArray := prog_6_method_8_code
def yX4_answersAsking : MethodName := ⟨RX4, "answersAsking", "(I)I"⟩
abbrev cX4_takesSuccess : ByteArray := prog_6_method_9_code
def yX4_takesSuccess : MethodName := ⟨RX4, "takesSuccess", "()I"⟩
abbrev cX4_preparesFirst : ByteArray := prog_6_method_10_code
def yX4_preparesFirst : MethodName := ⟨RX4, "preparesFirst", "()I"⟩
abbrev cX4_beginsAsking : ByteArray := prog_6_method_11_code
def yX4_beginsAsking : MethodName := ⟨RX4, "beginsAsking", "(Ljava/lang/String;)V"⟩
abbrev cX4_preparesNext : ByteArray := prog_6_method_12_code
def yX4_preparesNext : MethodName := ⟨RX4, "preparesNext", "()I"⟩
abbrev cX4_isListed : ByteArray := prog_6_method_13_code
def yX4_isListed : MethodName := ⟨RX4, "isListed", "(IILjava/lang/String;)Z"⟩
abbrev cX4_putsKey : ByteArray := prog_6_method_14_code
def yX4_putsKey : MethodName := ⟨RX4, "putsKey", "()V"⟩
abbrev cX4_preparesProof : ByteArray := prog_6_method_15_code
def yX4_preparesProof : MethodName := ⟨RX4, "preparesProof", "()I"⟩
abbrev cX4_channelInUse : ByteArray := prog_6_method_16_code
def yX4_channelInUse : MethodName := ⟨RX4, "channelInUse", "(I)LShellPair$Channel;"⟩
abbrev cX4_channelEver : ByteArray := prog_6_method_17_code
def yX4_channelEver : MethodName := ⟨RX4, "channelEver", "(I)LShellPair$Channel;"⟩
abbrev cX4_asksChannel : ByteArray := prog_6_method_18_code
def yX4_asksChannel : MethodName := ⟨RX4, "asksChannel", "(ILShellPair$Bytes;)I"⟩
abbrev cX4_asksCommand : ByteArray := prog_6_method_19_code
def yX4_asksCommand : MethodName := ⟨RX4, "asksCommand", "(LShellPair$Channel;LShellPair$Bytes;)V"⟩
abbrev cX4_takesOpen : ByteArray := prog_6_method_20_code
def yX4_takesOpen : MethodName := ⟨RX4, "takesOpen", "()I"⟩
abbrev cX4_takesOpened : ByteArray := prog_6_method_21_code
def yX4_takesOpened : MethodName := ⟨RX4, "takesOpened", "()I"⟩
abbrev cX4_takesRefused : ByteArray := prog_6_method_22_code
def yX4_takesRefused : MethodName := ⟨RX4, "takesRefused", "()I"⟩
abbrev cX4_takesRequest : ByteArray := prog_6_method_23_code
def yX4_takesRequest : MethodName := ⟨RX4, "takesRequest", "(LShellPair$Channel;)I"⟩
abbrev cX4_works : ByteArray := prog_6_method_24_code
def yX4_works : MethodName := ⟨RX4, "works", "()V"⟩
abbrev cX4_worksOn : ByteArray := prog_6_method_25_code
def yX4_worksOn : MethodName := ⟨RX4, "worksOn", "(LShellPair$Channel;)V"⟩
def RX5 : String := "ShellPair$Curve"
def TX5 : u_T := fun k => match k with
  | 0 => ("ShellPair$Curve", "sha", "LShellPair$Sha2;", true)
  | 1 => ("ShellPair$Curve", "rows", "[[J", true)
  | 2 => ("ShellPair$Curve", "base", "[[J", true)
  | 3 => ("ShellPair$Curve", "sum", "[[J", true)
  | 4 => ("ShellPair$Curve", "key", "[[J", true)
  | 5 => ("ShellPair$Curve", "a24", "[J", true)
  | 6 => ("ShellPair$Curve", "wide", "[J", true)
  | 7 => ("ShellPair$Curve", "scalar", "[B", true)
  | 8 => ("ShellPair$Curve", "nonce", "[B", true)
  | 9 => ("ShellPair$Curve", "factor", "[B", true)
  | 10 => ("ShellPair$Curve", "zero", "[B", true)
  | 11 => ("ShellPair$Curve", "packed", "[B", true)
  | 12 => ("ShellPair$Curve", "digest", "[B", true)
  | _ => ("ShellPair$Curve", "head", "[B", true)
def tyX5 : Nat → FieldType := fun k => match k with
  | 0 => .object "ShellPair$Sha2"
  | 1 => .array (.array .long)
  | 2 => .array (.array .long)
  | 3 => .array (.array .long)
  | 4 => .array (.array .long)
  | 5 => .array .long
  | 6 => .array .long
  | 7 => .array .byte
  | 8 => .array .byte
  | 9 => .array .byte
  | 10 => .array .byte
  | 11 => .array .byte
  | 12 => .array .byte
  | _ => .array .byte
abbrev wsX50 : List Cond := u_ws RX5 TX5 14
theorem nmX5 : ∀ a, a < 14 → ∀ b, b < 14 → a ≠ b → (TX5 a).2.1 ≠ (TX5 b).2.1 := by decide +kernel
theorem tyX5_ok : ∀ k, k < 14 → parseFieldDescriptor (TX5 k).2.2.1 = some (tyX5 k) := by decide +kernel
abbrev cX5_init : ByteArray := prog_7_method_1_code
def yX5_init : MethodName := ⟨RX5, "<init>", "(LShellPair$Sha2;)V"⟩
abbrev cX5_agree : ByteArray := prog_7_method_2_code
def yX5_agree : MethodName := ⟨RX5, "agree", "([B[B[B)Z"⟩
abbrev cX5_ladder : ByteArray := prog_7_method_3_code
def yX5_ladder : MethodName := ⟨RX5, "ladder", "([J[J[J[J[J)V"⟩
abbrev cX5_agreeingKey : ByteArray := prog_7_method_4_code
def yX5_agreeingKey : MethodName := ⟨RX5, "agreeingKey", "([B[B)V"⟩
abbrev cX5_publicKey : ByteArray := prog_7_method_5_code
def yX5_publicKey : MethodName := ⟨RX5, "publicKey", "([B[B)V"⟩
abbrev cX5_sign : ByteArray := prog_7_method_6_code
def yX5_sign : MethodName := ⟨RX5, "sign", "([B[B[BLShellPair$Bytes;)V"⟩
abbrev cX5_verify : ByteArray := prog_7_method_7_code
def yX5_verify : MethodName := ⟨RX5, "verify", "([B[BLShellPair$Bytes;)Z"⟩
abbrev cX5_clamp : ByteArray := prog_7_method_8_code
def yX5_clamp : MethodName := ⟨RX5, "clamp", "([B)V"⟩
abbrev cX5_reduceDigest : ByteArray := prog_7_method_9_code
def yX5_reduceDigest : MethodName := ⟨RX5, "reduceDigest", "([B)V"⟩
abbrev cX5_reduce : ByteArray := prog_7_method_10_code
def yX5_reduce : MethodName := ⟨RX5, "reduce", "([B)V"⟩
abbrev cX5_isBelowOrder : ByteArray := prog_7_method_11_code
def yX5_isBelowOrder : MethodName := ⟨RX5, "isBelowOrder", "([B)Z"⟩
abbrev cX5_combine : ByteArray := prog_7_method_12_code
def yX5_combine : MethodName := ⟨RX5, "combine", "([B[B)V"⟩
abbrev cX5_addPoint : ByteArray := prog_7_method_13_code
def yX5_addPoint : MethodName := ⟨RX5, "addPoint", "([[J[[J)V"⟩
abbrev cX5_doublePoint : ByteArray := prog_7_method_14_code
def yX5_doublePoint : MethodName := ⟨RX5, "doublePoint", "([[J)V"⟩
abbrev cX5_encode : ByteArray := prog_7_method_15_code
def yX5_encode : MethodName := ⟨RX5, "encode", "([B)V"⟩
abbrev cX5_decode : ByteArray := prog_7_method_16_code
def yX5_decode : MethodName := ⟨RX5, "decode", "([B)Z"⟩
abbrev cX5_isSame : ByteArray := prog_7_method_17_code
def yX5_isSame : MethodName := ⟨RX5, "isSame", "([J[J)Z"⟩
abbrev cX5_power : ByteArray := prog_7_method_18_code
def yX5_power : MethodName := ⟨RX5, "power", "([J[JZ)V"⟩
abbrev cX5_become : ByteArray := prog_7_method_19_code
def yX5_become : MethodName := ⟨RX5, "become", "([JJ)V"⟩
abbrev cX5_add : ByteArray := prog_7_method_20_code
def yX5_add : MethodName := ⟨RX5, "add", "([J[J[J)V"⟩
abbrev cX5_sub : ByteArray := prog_7_method_21_code
def yX5_sub : MethodName := ⟨RX5, "sub", "([J[J[J)V"⟩
abbrev cX5_negate : ByteArray := prog_7_method_22_code
def yX5_negate : MethodName := ⟨RX5, "negate", "([J)V"⟩
abbrev cX5_mul : ByteArray := prog_7_method_23_code
def yX5_mul : MethodName := ⟨RX5, "mul", "([J[J[J)V"⟩
abbrev cX5_unpack : ByteArray := prog_7_method_24_code
def yX5_unpack : MethodName := ⟨RX5, "unpack", "([J[B)V"⟩
abbrev cX5_pack : ByteArray := prog_7_method_25_code
def yX5_pack : MethodName := ⟨RX5, "pack", "([B[J)V"⟩
def RX6 : String := "ShellPair$End"
def TX6 : u_T := fun k => match k with
  | _ => ("", "", "", false)
def tyX6 : Nat → FieldType := fun k => match k with
  | _ => .int
abbrev wsX60 : List Cond := u_ws RX6 TX6 0
theorem nmX6 : ∀ a, a < 0 → ∀ b, b < 0 → a ≠ b → (TX6 a).2.1 ≠ (TX6 b).2.1 := by decide +kernel
theorem tyX6_ok : ∀ k, k < 0 → parseFieldDescriptor (TX6 k).2.2.1 = some (tyX6 k) := by decide +kernel
abbrev cX6_init : ByteArray := prog_8_method_1_code
def yX6_init : MethodName := ⟨RX6, "<init>", "(ZLShellPair$Bytes;LShellPair$Sha2;LShellPair$Curve;)V"⟩
abbrev cX6_begins : ByteArray := prog_8_method_11_code
def yX6_begins : MethodName := ⟨RX6, "begins", "()V"⟩
abbrev cX6_tells : ByteArray := prog_8_method_12_code
def yX6_tells : MethodName := ⟨RX6, "tells", "(I)I"⟩
abbrev cX6_channelsInUse : ByteArray := prog_8_method_14_code
def yX6_channelsInUse : MethodName := ⟨RX6, "channelsInUse", "()I"⟩
abbrev cX6_freeNumber : ByteArray := prog_8_method_15_code
def yX6_freeNumber : MethodName := ⟨RX6, "freeNumber", "()I"⟩
abbrev cX6_takes : ByteArray := prog_8_method_16_code
def yX6_takes : MethodName := ⟨RX6, "takes", "(I)I"⟩
abbrev cX6_takesLineByte : ByteArray := prog_8_method_17_code
def yX6_takesLineByte : MethodName := ⟨RX6, "takesLineByte", "(I)I"⟩
abbrev cX6_isVersion : ByteArray := prog_8_method_18_code
def yX6_isVersion : MethodName := ⟨RX6, "isVersion", "(LShellPair$Bytes;)Z"⟩
abbrev cX6_takesPacketByte : ByteArray := prog_8_method_19_code
def yX6_takesPacketByte : MethodName := ⟨RX6, "takesPacketByte", "()I"⟩
abbrev cX6_handles : ByteArray := prog_8_method_20_code
def yX6_handles : MethodName := ⟨RX6, "handles", "(I)I"⟩
abbrev cX6_isNamed : ByteArray := prog_8_method_21_code
def yX6_isNamed : MethodName := ⟨RX6, "isNamed", "(I)Z"⟩
abbrev cX6_takesPlain : ByteArray := prog_8_method_22_code
def yX6_takesPlain : MethodName := ⟨RX6, "takesPlain", "(I)I"⟩
abbrev cX6_takesInit : ByteArray := prog_8_method_23_code
def yX6_takesInit : MethodName := ⟨RX6, "takesInit", "()I"⟩
abbrev cX6_takesNewKeys : ByteArray := prog_8_method_24_code
def yX6_takesNewKeys : MethodName := ⟨RX6, "takesNewKeys", "()I"⟩
abbrev cX6_beginsExchange : ByteArray := prog_8_method_25_code
def yX6_beginsExchange : MethodName := ⟨RX6, "beginsExchange", "()V"⟩
abbrev cX6_limitIsReached : ByteArray := prog_8_method_26_code
def yX6_limitIsReached : MethodName := ⟨RX6, "limitIsReached", "()Z"⟩
abbrev cX6_sendsNewKeys : ByteArray := prog_8_method_27_code
def yX6_sendsNewKeys : MethodName := ⟨RX6, "sendsNewKeys", "()V"⟩
abbrev cX6_sends : ByteArray := prog_8_method_28_code
def yX6_sends : MethodName := ⟨RX6, "sends", "(LShellPair$Bytes;)Z"⟩
abbrev cX6_waits : ByteArray := prog_8_method_29_code
def yX6_waits : MethodName := ⟨RX6, "waits", "(LShellPair$Bytes;)Z"⟩
abbrev cX6_puts : ByteArray := prog_8_method_30_code
def yX6_puts : MethodName := ⟨RX6, "puts", "(LShellPair$Bytes;)Z"⟩
abbrev cX6_isLost : ByteArray := prog_8_method_31_code
def yX6_isLost : MethodName := ⟨RX6, "isLost", "()V"⟩
abbrev cX6_disconnects : ByteArray := prog_8_method_32_code
def yX6_disconnects : MethodName := ⟨RX6, "disconnects", "(I)V"⟩
abbrev cX6_quits : ByteArray := prog_8_method_33_code
def yX6_quits : MethodName := ⟨RX6, "quits", "()V"⟩
abbrev cX6_sendsLast : ByteArray := prog_8_method_34_code
def yX6_sendsLast : MethodName := ⟨RX6, "sendsLast", "(I)Z"⟩
abbrev cX6_answersChannels : ByteArray := prog_8_method_35_code
def yX6_answersChannels : MethodName := ⟨RX6, "answersChannels", "(I)I"⟩
abbrev cX6_channelThere : ByteArray := prog_8_method_36_code
def yX6_channelThere : MethodName := ⟨RX6, "channelThere", "(I)LShellPair$Channel;"⟩
abbrev cX6_takesGlobalRequest : ByteArray := prog_8_method_37_code
def yX6_takesGlobalRequest : MethodName := ⟨RX6, "takesGlobalRequest", "()I"⟩
abbrev cX6_takesData : ByteArray := prog_8_method_38_code
def yX6_takesData : MethodName := ⟨RX6, "takesData", "(LShellPair$Channel;I)I"⟩
abbrev cX6_takesWindow : ByteArray := prog_8_method_39_code
def yX6_takesWindow : MethodName := ⟨RX6, "takesWindow", "(LShellPair$Channel;J)I"⟩
abbrev cX6_takesClose : ByteArray := prog_8_method_40_code
def yX6_takesClose : MethodName := ⟨RX6, "takesClose", "(LShellPair$Channel;)I"⟩
abbrev cX6_takesAnswer : ByteArray := prog_8_method_41_code
def yX6_takesAnswer : MethodName := ⟨RX6, "takesAnswer", "(LShellPair$Channel;Z)I"⟩
abbrev cX6_putsNumber : ByteArray := prog_8_method_42_code
def yX6_putsNumber : MethodName := ⟨RX6, "putsNumber", "(ILShellPair$Channel;)V"⟩
abbrev cX6_looksAtWindow : ByteArray := prog_8_method_43_code
def yX6_looksAtWindow : MethodName := ⟨RX6, "looksAtWindow", "(LShellPair$Channel;)V"⟩
abbrev cX6_pours : ByteArray := prog_8_method_44_code
def yX6_pours : MethodName := ⟨RX6, "pours", "(LShellPair$Channel;LShellPair$Bytes;I)V"⟩
abbrev cX6_endsWriting : ByteArray := prog_8_method_45_code
def yX6_endsWriting : MethodName := ⟨RX6, "endsWriting", "(LShellPair$Channel;)V"⟩
def RX7 : String := "ShellPair$Exchange"
def TX7 : u_T := fun k => match k with
  | 0 => ("ShellPair$Exchange", "lists", "LShellPair$Bytes;", true)
  | 1 => ("ShellPair$Exchange", "own", "LShellPair$Bytes;", true)
  | 2 => ("ShellPair$Exchange", "other", "LShellPair$Bytes;", true)
  | 3 => ("ShellPair$Exchange", "ownLine", "LShellPair$Bytes;", true)
  | 4 => ("ShellPair$Exchange", "otherLine", "LShellPair$Bytes;", true)
  | 5 => ("ShellPair$Exchange", "session", "LShellPair$Bytes;", true)
  | 6 => ("ShellPair$Exchange", "waiting", "LShellPair$Bytes;", true)
  | 7 => ("ShellPair$Exchange", "text", "LShellPair$Bytes;", true)
  | 8 => ("ShellPair$Exchange", "secret", "[B", true)
  | 9 => ("ShellPair$Exchange", "ownPublic", "[B", true)
  | 10 => ("ShellPair$Exchange", "otherPublic", "[B", true)
  | 11 => ("ShellPair$Exchange", "shared", "[B", true)
  | 12 => ("ShellPair$Exchange", "hash", "[B", true)
  | 13 => ("ShellPair$Exchange", "chosen", "[I", true)
  | 14 => ("ShellPair$Exchange", "sentInit", "Z", false)
  | 15 => ("ShellPair$Exchange", "holding", "Z", false)
  | 16 => ("ShellPair$Exchange", "passesNext", "Z", false)
  | 17 => ("ShellPair$Exchange", "due", "I", false)
  | 18 => ("ShellPair$Exchange", "complete", "I", false)
  | _ => ("ShellPair$Exchange", "sha", "LShellPair$Sha2;", true)
def tyX7 : Nat → FieldType := fun k => match k with
  | 0 => .object "ShellPair$Bytes"
  | 1 => .object "ShellPair$Bytes"
  | 2 => .object "ShellPair$Bytes"
  | 3 => .object "ShellPair$Bytes"
  | 4 => .object "ShellPair$Bytes"
  | 5 => .object "ShellPair$Bytes"
  | 6 => .object "ShellPair$Bytes"
  | 7 => .object "ShellPair$Bytes"
  | 8 => .array .byte
  | 9 => .array .byte
  | 10 => .array .byte
  | 11 => .array .byte
  | 12 => .array .byte
  | 13 => .array .int
  | 14 => .boolean
  | 15 => .boolean
  | 16 => .boolean
  | 17 => .int
  | 18 => .int
  | _ => .object "ShellPair$Sha2"
abbrev wsX70 : List Cond := u_ws RX7 TX7 20
theorem nmX7 : ∀ a, a < 20 → ∀ b, b < 20 → a ≠ b → (TX7 a).2.1 ≠ (TX7 b).2.1 := by decide +kernel
theorem tyX7_ok : ∀ k, k < 20 → parseFieldDescriptor (TX7 k).2.2.1 = some (tyX7 k) := by decide +kernel
abbrev cX7_init : ByteArray := prog_9_method_1_code
def yX7_init : MethodName := ⟨RX7, "<init>", "(LShellPair$Sha2;Ljava/lang/String;)V"⟩
abbrev cX7_begins : ByteArray := prog_9_method_2_code
def yX7_begins : MethodName := ⟨RX7, "begins", "()V"⟩
abbrev cX7_listsBy : ByteArray := prog_9_method_3_code
def yX7_listsBy : MethodName := ⟨RX7, "listsBy", "(II)V"⟩
abbrev cX7_inOrder : ByteArray := prog_9_method_4_code
def yX7_inOrder : MethodName := ⟨RX7, "inOrder", "(ILjava/lang/String;Ljava/lang/String;)Ljava/lang/String;"⟩
abbrev cX7_makesInit : ByteArray := prog_9_method_5_code
def yX7_makesInit : MethodName := ⟨RX7, "makesInit", "(LShellPair$Chance;)V"⟩
abbrev cX7_fits : ByteArray := prog_9_method_6_code
def yX7_fits : MethodName := ⟨RX7, "fits", "()Z"⟩
abbrev cX7_toLists : ByteArray := prog_9_method_7_code
def yX7_toLists : MethodName := ⟨RX7, "toLists", "(LShellPair$Bytes;)V"⟩
abbrev cX7_chooses : ByteArray := prog_9_method_8_code
def yX7_chooses : MethodName := ⟨RX7, "chooses", "(Z)Z"⟩
abbrev cX7_firstOfBoth : ByteArray := prog_9_method_9_code
def yX7_firstOfBoth : MethodName := ⟨RX7, "firstOfBoth", "(LShellPair$Bytes;IILShellPair$Bytes;I)I"⟩
abbrev cX7_guessedWrong : ByteArray := prog_9_method_10_code
def yX7_guessedWrong : MethodName := ⟨RX7, "guessedWrong", "()Z"⟩
abbrev cX7_takesSecret : ByteArray := prog_9_method_11_code
def yX7_takesSecret : MethodName := ⟨RX7, "takesSecret", "(LShellPair$Chance;LShellPair$Curve;)V"⟩
abbrev cX7_putShared : ByteArray := prog_9_method_12_code
def yX7_putShared : MethodName := ⟨RX7, "putShared", "()V"⟩
abbrev cX7_hashes : ByteArray := prog_9_method_13_code
def yX7_hashes : MethodName := ⟨RX7, "hashes", "(LShellPair$Bytes;Z)V"⟩
abbrev cX7_derives : ByteArray := prog_9_method_14_code
def yX7_derives : MethodName := ⟨RX7, "derives", "(LShellPair$Flow;Z)V"⟩
abbrev cX7_derive : ByteArray := prog_9_method_15_code
def yX7_derive : MethodName := ⟨RX7, "derive", "(I[B)V"⟩
abbrev cX7_sessionStart : ByteArray := prog_9_method_16_code
def yX7_sessionStart : MethodName := ⟨RX7, "sessionStart", "()I"⟩
def RX8 : String := "ShellPair$Flow"
def TX8 : u_T := fun k => match k with
  | 0 => ("ShellPair$Flow", "nextIv", "[B", true)
  | 1 => ("ShellPair$Flow", "nextKey", "[B", true)
  | 2 => ("ShellPair$Flow", "nextMacKey", "[B", true)
  | 3 => ("ShellPair$Flow", "nextCipher", "I", false)
  | 4 => ("ShellPair$Flow", "nextMac", "I", false)
  | 5 => ("ShellPair$Flow", "aes", "LShellPair$Aes;", true)
  | 6 => ("ShellPair$Flow", "tag", "[B", true)
  | 7 => ("ShellPair$Flow", "packets", "I", false)
  | 8 => ("ShellPair$Flow", "cipher", "I", false)
  | 9 => ("ShellPair$Flow", "mac", "I", false)
  | 10 => ("ShellPair$Flow", "bytes", "J", false)
  | 11 => ("ShellPair$Flow", "sha", "LShellPair$Sha2;", true)
  | 12 => ("ShellPair$Flow", "inner", "[B", true)
  | 13 => ("ShellPair$Flow", "outer", "[B", true)
  | _ => ("ShellPair$Flow", "half", "[B", true)
def tyX8 : Nat → FieldType := fun k => match k with
  | 0 => .array .byte
  | 1 => .array .byte
  | 2 => .array .byte
  | 3 => .int
  | 4 => .int
  | 5 => .object "ShellPair$Aes"
  | 6 => .array .byte
  | 7 => .int
  | 8 => .int
  | 9 => .int
  | 10 => .long
  | 11 => .object "ShellPair$Sha2"
  | 12 => .array .byte
  | 13 => .array .byte
  | _ => .array .byte
abbrev wsX80 : List Cond := u_ws RX8 TX8 15
theorem nmX8 : ∀ a, a < 15 → ∀ b, b < 15 → a ≠ b → (TX8 a).2.1 ≠ (TX8 b).2.1 := by decide +kernel
theorem tyX8_ok : ∀ k, k < 15 → parseFieldDescriptor (TX8 k).2.2.1 = some (tyX8 k) := by decide +kernel
abbrev cX8_init : ByteArray := prog_10_method_1_code
def yX8_init : MethodName := ⟨RX8, "<init>", "(LShellPair$Sha2;)V"⟩
abbrev cX8_begins : ByteArray := prog_10_method_2_code
def yX8_begins : MethodName := ⟨RX8, "begins", "()V"⟩
abbrev cX8_changesKeys : ByteArray := prog_10_method_3_code
def yX8_changesKeys : MethodName := ⟨RX8, "changesKeys", "()V"⟩
abbrev cX8_block : ByteArray := prog_10_method_4_code
def yX8_block : MethodName := ⟨RX8, "block", "()I"⟩
abbrev cX8_openBytes : ByteArray := prog_10_method_5_code
def yX8_openBytes : MethodName := ⟨RX8, "openBytes", "()I"⟩
abbrev cX8_headSize : ByteArray := prog_10_method_6_code
def yX8_headSize : MethodName := ⟨RX8, "headSize", "()I"⟩
abbrev cX8_tagSize : ByteArray := prog_10_method_7_code
def yX8_tagSize : MethodName := ⟨RX8, "tagSize", "()I"⟩
abbrev cX8_opensHead : ByteArray := prog_10_method_8_code
def yX8_opensHead : MethodName := ⟨RX8, "opensHead", "(LShellPair$Bytes;)V"⟩
abbrev cX8_opens : ByteArray := prog_10_method_9_code
def yX8_opens : MethodName := ⟨RX8, "opens", "(LShellPair$Bytes;I)Z"⟩
abbrev cX8_tags : ByteArray := prog_10_method_10_code
def yX8_tags : MethodName := ⟨RX8, "tags", "(LShellPair$Bytes;I)V"⟩
def RX9 : String := "ShellPair$Server"
def TX9 : u_T := fun k => match k with
  | 0 => ("ShellPair$End", "isClient", "Z", true)
  | 1 => ("ShellPair$End", "wire", "LShellPair$Bytes;", true)
  | 2 => ("ShellPair$End", "chance", "LShellPair$Chance;", true)
  | 3 => ("ShellPair$End", "curve", "LShellPair$Curve;", true)
  | 4 => ("ShellPair$End", "exchange", "LShellPair$Exchange;", true)
  | 5 => ("ShellPair$End", "outward", "LShellPair$Flow;", true)
  | 6 => ("ShellPair$End", "inward", "LShellPair$Flow;", true)
  | 7 => ("ShellPair$End", "settings", "[I", true)
  | 8 => ("ShellPair$End", "channels", "[LShellPair$Channel;", true)
  | 9 => ("ShellPair$End", "message", "LShellPair$Bytes;", true)
  | 10 => ("ShellPair$End", "body", "LShellPair$Bytes;", true)
  | 11 => ("ShellPair$End", "gathered", "LShellPair$Bytes;", true)
  | 12 => ("ShellPair$End", "packet", "LShellPair$Bytes;", true)
  | 13 => ("ShellPair$End", "state", "I", false)
  | 14 => ("ShellPair$End", "reason", "I", false)
  | 15 => ("ShellPair$End", "proven", "Z", false)
  | 16 => ("ShellPair$End", "linesPassed", "I", false)
  | 17 => ("ShellPair$End", "length", "I", false)
  | 18 => ("ShellPair$Server", "keys", "[LShellPair$Bytes;", true)
  | 19 => ("ShellPair$Server", "store", "LShellPair$Store;", true)
  | 20 => ("ShellPair$Server", "accounts", "I", false)
  | 21 => ("ShellPair$Server", "hostSecret", "[B", true)
  | 22 => ("ShellPair$Server", "hostPublic", "[B", true)
  | 23 => ("ShellPair$Server", "hostKey", "LShellPair$Bytes;", true)
  | 24 => ("ShellPair$Server", "names", "[LShellPair$Bytes;", true)
  | 25 => ("ShellPair$Server", "passwords", "[LShellPair$Bytes;", true)
  | 26 => ("ShellPair$Server", "ports", "[I", true)
  | 27 => ("ShellPair$Server", "sha", "LShellPair$Sha2;", true)
  | 28 => ("ShellPair$Server", "text", "LShellPair$Bytes;", true)
  | 29 => ("ShellPair$Server", "key", "[B", true)
  | 30 => ("ShellPair$Server", "signature", "[B", true)
  | 31 => ("ShellPair$Server", "sum", "[B", true)
  | 32 => ("ShellPair$Server", "serviceGiven", "Z", false)
  | _ => ("ShellPair$Server", "failures", "I", false)
def tyX9 : Nat → FieldType := fun k => match k with
  | 0 => .boolean
  | 1 => .object "ShellPair$Bytes"
  | 2 => .object "ShellPair$Chance"
  | 3 => .object "ShellPair$Curve"
  | 4 => .object "ShellPair$Exchange"
  | 5 => .object "ShellPair$Flow"
  | 6 => .object "ShellPair$Flow"
  | 7 => .array .int
  | 8 => .array (.object "ShellPair$Channel")
  | 9 => .object "ShellPair$Bytes"
  | 10 => .object "ShellPair$Bytes"
  | 11 => .object "ShellPair$Bytes"
  | 12 => .object "ShellPair$Bytes"
  | 13 => .int
  | 14 => .int
  | 15 => .boolean
  | 16 => .int
  | 17 => .int
  | 18 => .array (.object "ShellPair$Bytes")
  | 19 => .object "ShellPair$Store"
  | 20 => .int
  | 21 => .array .byte
  | 22 => .array .byte
  | 23 => .object "ShellPair$Bytes"
  | 24 => .array (.object "ShellPair$Bytes")
  | 25 => .array (.object "ShellPair$Bytes")
  | 26 => .array .int
  | 27 => .object "ShellPair$Sha2"
  | 28 => .object "ShellPair$Bytes"
  | 29 => .array .byte
  | 30 => .array .byte
  | 31 => .array .byte
  | 32 => .boolean
  | _ => .int
abbrev wsX90 : List Cond := u_ws RX9 TX9 34
theorem nmX9 : ∀ a, a < 34 → ∀ b, b < 34 → a ≠ b → (TX9 a).2.1 ≠ (TX9 b).2.1 := by decide +kernel
theorem tyX9_ok : ∀ k, k < 34 → parseFieldDescriptor (TX9 k).2.2.1 = some (tyX9 k) := by decide +kernel
abbrev cX9_init : ByteArray := prog_11_method_1_code
def yX9_init : MethodName := ⟨RX9, "<init>", "(LShellPair$Bytes;LShellPair$Sha2;LShellPair$Curve;)V"⟩
abbrev cX9_takesHostKey : ByteArray := prog_11_method_2_code
def yX9_takesHostKey : MethodName := ⟨RX9, "takesHostKey", "(LShellPair$Bytes;)V"⟩
abbrev cX9_hasHostKey : ByteArray := prog_11_method_3_code
def yX9_hasHostKey : MethodName := ⟨RX9, "hasHostKey", "()Z"⟩
abbrev cX9_accountOf : ByteArray := prog_11_method_4_code
def yX9_accountOf : MethodName := ⟨RX9, "accountOf", "(LShellPair$Bytes;II)I"⟩
abbrev cX9_addsAccount : ByteArray := prog_11_method_5_code
def yX9_addsAccount : MethodName := ⟨RX9, "addsAccount", "(LShellPair$Bytes;I)V"⟩
abbrev cX9_isPort : ByteArray := prog_11_method_6_code
def yX9_isPort : MethodName := ⟨RX9, "isPort", "(I)Z"⟩
abbrev cX9_opensPort : ByteArray := prog_11_method_7_code
def yX9_opensPort : MethodName := ⟨RX9, "opensPort", "(IZ)V"⟩
abbrev cX9_openPorts : ByteArray := prog_11_method_8_code
def yX9_openPorts : MethodName := ⟨RX9, "openPorts", "()I"⟩
abbrev cX9_connections : ByteArray := prog_11_method_9_code
def yX9_connections : MethodName := ⟨RX9, "connections", "()I"⟩
abbrev cX9_connectionAt : ByteArray := prog_11_method_10_code
def yX9_connectionAt : MethodName := ⟨RX9, "connectionAt", "(I)LShellPair$Channel;"⟩
abbrev cX9_forgetsAsking : ByteArray := prog_11_method_11_code
def yX9_forgetsAsking : MethodName := ⟨RX9, "forgetsAsking", "()V"⟩
abbrev cX9_asked : ByteArray := prog_11_method_12_code
def yX9_asked : MethodName := ⟨RX9, "asked", "()I"⟩
abbrev cX9_firstExchangeIsComplete : ByteArray := prog_11_method_13_code
def yX9_firstExchangeIsComplete : MethodName := ⟨RX9, "firstExchangeIsComplete", "()V"⟩
abbrev cX9_takesReply : ByteArray := prog_11_method_14_code
def yX9_takesReply : MethodName := ⟨RX9, "takesReply", "()I"⟩
abbrev cX9_answersAsking : ByteArray := prog_11_method_15_code
def yX9_answersAsking : MethodName := ⟨RX9, "answersAsking", "(I)I"⟩
abbrev cX9_givesService : ByteArray := prog_11_method_16_code
def yX9_givesService : MethodName := ⟨RX9, "givesService", "()I"⟩
abbrev cX9_judgesKey : ByteArray := prog_11_method_17_code
def yX9_judgesKey : MethodName := ⟨RX9, "judgesKey", "(I)I"⟩
abbrev cX9_judgesPassword : ByteArray := prog_11_method_18_code
def yX9_judgesPassword : MethodName := ⟨RX9, "judgesPassword", "(I)I"⟩
abbrev cX9_answersVerdict : ByteArray := prog_11_method_19_code
def yX9_answersVerdict : MethodName := ⟨RX9, "answersVerdict", "(I)I"⟩
abbrev cX9_takesOpen : ByteArray := prog_11_method_20_code
def yX9_takesOpen : MethodName := ⟨RX9, "takesOpen", "()I"⟩
abbrev cX9_mayConnect : ByteArray := prog_11_method_21_code
def yX9_mayConnect : MethodName := ⟨RX9, "mayConnect", "(I)Z"⟩
abbrev cX9_takesOpened : ByteArray := prog_11_method_22_code
def yX9_takesOpened : MethodName := ⟨RX9, "takesOpened", "()I"⟩
abbrev cX9_takesRefused : ByteArray := prog_11_method_23_code
def yX9_takesRefused : MethodName := ⟨RX9, "takesRefused", "()I"⟩
abbrev cX9_takesRequest : ByteArray := prog_11_method_24_code
def yX9_takesRequest : MethodName := ⟨RX9, "takesRequest", "(LShellPair$Channel;)I"⟩
abbrev cX9_works : ByteArray := prog_11_method_25_code
def yX9_works : MethodName := ⟨RX9, "works", "()V"⟩
abbrev cX9_worksOn : ByteArray := prog_11_method_26_code
def yX9_worksOn : MethodName := ⟨RX9, "worksOn", "(LShellPair$Channel;)V"⟩
abbrev cX9_endsChannel : ByteArray := prog_11_method_27_code
def yX9_endsChannel : MethodName := ⟨RX9, "endsChannel", "(LShellPair$Channel;)V"⟩
abbrev cX9_stageOf : ByteArray := prog_11_method_28_code
def yX9_stageOf : MethodName := ⟨RX9, "stageOf", "(LShellPair$Bytes;)I"⟩
abbrev cX9_takesInput : ByteArray := prog_11_method_29_code
def yX9_takesInput : MethodName := ⟨RX9, "takesInput", "(LShellPair$Channel;)V"⟩
abbrev cX9_fails : ByteArray := prog_11_method_30_code
def yX9_fails : MethodName := ⟨RX9, "fails", "(LShellPair$Channel;Ljava/lang/String;I)V"⟩
abbrev cX9_performs : ByteArray := prog_11_method_31_code
def yX9_performs : MethodName := ⟨RX9, "performs", "(LShellPair$Channel;)V"⟩
abbrev cX9_echoes : ByteArray := prog_11_method_32_code
def yX9_echoes : MethodName := ⟨RX9, "echoes", "(LShellPair$Channel;)V"⟩
abbrev cX9_exits : ByteArray := prog_11_method_33_code
def yX9_exits : MethodName := ⟨RX9, "exits", "(LShellPair$Channel;I)V"⟩
abbrev cX9_looksUp : ByteArray := prog_11_method_34_code
def yX9_looksUp : MethodName := ⟨RX9, "looksUp", "(LShellPair$Channel;I)V"⟩
abbrev cX9_putsDecimal : ByteArray := prog_11_method_35_code
def yX9_putsDecimal : MethodName := ⟨RX9, "putsDecimal", "(LShellPair$Bytes;I)V"⟩
abbrev cX9_wordsOf : ByteArray := prog_11_method_36_code
def yX9_wordsOf : MethodName := ⟨RX9, "wordsOf", "(LShellPair$Bytes;)I"⟩
abbrev cX9_wordAt : ByteArray := prog_11_method_37_code
def yX9_wordAt : MethodName := ⟨RX9, "wordAt", "(LShellPair$Bytes;I)I"⟩
abbrev cX9_wordSize : ByteArray := prog_11_method_38_code
def yX9_wordSize : MethodName := ⟨RX9, "wordSize", "(LShellPair$Bytes;I)I"⟩
abbrev cX9_isWord : ByteArray := prog_11_method_39_code
def yX9_isWord : MethodName := ⟨RX9, "isWord", "(LShellPair$Bytes;ILjava/lang/String;)Z"⟩
def RX10 : String := "ShellPair$Sha2"
def TX10 : u_T := fun k => match k with
  | 0 => ("ShellPair$Sha2", "words", "[I", true)
  | 1 => ("ShellPair$Sha2", "sums", "[I", true)
  | 2 => ("ShellPair$Sha2", "longWords", "[J", true)
  | _ => ("ShellPair$Sha2", "longSums", "[J", true)
def tyX10 : Nat → FieldType := fun k => match k with
  | 0 => .array .int
  | 1 => .array .int
  | 2 => .array .long
  | _ => .array .long
abbrev wsX100 : List Cond := u_ws RX10 TX10 4
theorem nmX10 : ∀ a, a < 4 → ∀ b, b < 4 → a ≠ b → (TX10 a).2.1 ≠ (TX10 b).2.1 := by decide +kernel
theorem tyX10_ok : ∀ k, k < 4 → parseFieldDescriptor (TX10 k).2.2.1 = some (tyX10 k) := by decide +kernel
abbrev cX10_init : ByteArray := prog_12_method_1_code
def yX10_init : MethodName := ⟨RX10, "<init>", "()V"⟩
abbrev cX10_digest256 : ByteArray := prog_12_method_2_code
def yX10_digest256 : MethodName := ⟨RX10, "digest256", "([BI[BII[B)V"⟩
abbrev cX10_digest512 : ByteArray := prog_12_method_3_code
def yX10_digest512 : MethodName := ⟨RX10, "digest512", "([BI[BII[B)V"⟩
abbrev cX10_compress512 : ByteArray := prog_12_method_4_code
def yX10_compress512 : MethodName := ⟨RX10, "compress512", "()V"⟩
def RX11 : String := "ShellPair$Store"
def TX11 : u_T := fun k => match k with
  | 0 => ("ShellPair$Store", "names", "[LShellPair$Bytes;", true)
  | 1 => ("ShellPair$Store", "contents", "[LShellPair$Bytes;", true)
  | 2 => ("ShellPair$Store", "size", "I", false)
  | _ => ("ShellPair$Store", "sought", "LShellPair$Bytes;", true)
def tyX11 : Nat → FieldType := fun k => match k with
  | 0 => .array (.object "ShellPair$Bytes")
  | 1 => .array (.object "ShellPair$Bytes")
  | 2 => .int
  | _ => .object "ShellPair$Bytes"
abbrev wsX110 : List Cond := u_ws RX11 TX11 4
theorem nmX11 : ∀ a, a < 4 → ∀ b, b < 4 → a ≠ b → (TX11 a).2.1 ≠ (TX11 b).2.1 := by decide +kernel
theorem tyX11_ok : ∀ k, k < 4 → parseFieldDescriptor (TX11 k).2.2.1 = some (tyX11 k) := by decide +kernel
abbrev cX11_init : ByteArray := prog_13_method_1_code
def yX11_init : MethodName := ⟨RX11, "<init>", "()V"⟩
abbrev cX11_total : ByteArray := prog_13_method_2_code
def yX11_total : MethodName := ⟨RX11, "total", "()I"⟩
abbrev cX11_placeOf : ByteArray := prog_13_method_3_code
def yX11_placeOf : MethodName := ⟨RX11, "placeOf", "(LShellPair$Bytes;II)I"⟩
abbrev cX11_keeps : ByteArray := prog_13_method_4_code
def yX11_keeps : MethodName := ⟨RX11, "keeps", "(LShellPair$Bytes;IILShellPair$Bytes;)Z"⟩
abbrev cX11_makesPlace : ByteArray := prog_13_method_5_code
def yX11_makesPlace : MethodName := ⟨RX11, "makesPlace", "()I"⟩
abbrev cX11_removes : ByteArray := prog_13_method_6_code
def yX11_removes : MethodName := ⟨RX11, "removes", "(I)V"⟩
abbrev cX11_lists : ByteArray := prog_13_method_7_code
def yX11_lists : MethodName := ⟨RX11, "lists", "(LShellPair$Bytes;)V"⟩
def RX12 : String := "ShellPair"
def TX12 : u_T := fun k => match k with
  | 0 => ("ShellPair", "tape", "LShellPair$Bytes;", true)
  | 1 => ("ShellPair", "wires", "[LShellPair$Bytes;", true)
  | 2 => ("ShellPair", "client", "LShellPair$Client;", true)
  | _ => ("ShellPair", "server", "LShellPair$Server;", true)
def tyX12 : Nat → FieldType := fun k => match k with
  | 0 => .object "ShellPair$Bytes"
  | 1 => .array (.object "ShellPair$Bytes")
  | 2 => .object "ShellPair$Client"
  | _ => .object "ShellPair$Server"
abbrev wsX120 : List Cond := u_ws RX12 TX12 4
theorem nmX12 : ∀ a, a < 4 → ∀ b, b < 4 → a ≠ b → (TX12 a).2.1 ≠ (TX12 b).2.1 := by decide +kernel
theorem tyX12_ok : ∀ k, k < 4 → parseFieldDescriptor (TX12 k).2.2.1 = some (tyX12 k) := by decide +kernel
abbrev cX12_init : ByteArray := prog_1_method_1_code
def yX12_init : MethodName := ⟨RX12, "<init>", "()V"⟩
abbrev cX12_feed : ByteArray := prog_1_method_2_code
def yX12_feed : MethodName := ⟨RX12, "feed", "(IIIII)I"⟩
abbrev cX12_end : ByteArray := prog_1_method_3_code
def yX12_end : MethodName := ⟨RX12, "end", "(I)I"⟩
abbrev cX12_secret : ByteArray := prog_1_method_4_code
def yX12_secret : MethodName := ⟨RX12, "secret", "(I)V"⟩
abbrev cX12_user : ByteArray := prog_1_method_5_code
def yX12_user : MethodName := ⟨RX12, "user", "(IZ)I"⟩
abbrev cX12_allow : ByteArray := prog_1_method_6_code
def yX12_allow : MethodName := ⟨RX12, "allow", "(I)V"⟩
abbrev cX12_set : ByteArray := prog_1_method_7_code
def yX12_set : MethodName := ⟨RX12, "set", "(III)I"⟩
abbrev cX12_port : ByteArray := prog_1_method_8_code
def yX12_port : MethodName := ⟨RX12, "port", "(IZ)V"⟩
abbrev cX12_start : ByteArray := prog_1_method_9_code
def yX12_start : MethodName := ⟨RX12, "start", "()V"⟩
abbrev cX12_move : ByteArray := prog_1_method_10_code
def yX12_move : MethodName := ⟨RX12, "move", "(II)I"⟩
abbrev cX12_flip : ByteArray := prog_1_method_11_code
def yX12_flip : MethodName := ⟨RX12, "flip", "(III)I"⟩
abbrev cX12_seen : ByteArray := prog_1_method_12_code
def yX12_seen : MethodName := ⟨RX12, "seen", "(II)I"⟩
abbrev cX12_inject : ByteArray := prog_1_method_13_code
def yX12_inject : MethodName := ⟨RX12, "inject", "(I)I"⟩
abbrev cX12_open : ByteArray := prog_1_method_14_code
def yX12_open : MethodName := ⟨RX12, "open", "(I)I"⟩
abbrev cX12_exec : ByteArray := prog_1_method_15_code
def yX12_exec : MethodName := ⟨RX12, "exec", "(I)V"⟩
abbrev cX12_write : ByteArray := prog_1_method_16_code
def yX12_write : MethodName := ⟨RX12, "write", "(IZ)I"⟩
abbrev cX12_read : ByteArray := prog_1_method_17_code
def yX12_read : MethodName := ⟨RX12, "read", "(III)J"⟩
abbrev cX12_finish : ByteArray := prog_1_method_18_code
def yX12_finish : MethodName := ⟨RX12, "finish", "(II)V"⟩
abbrev cX12_rekey : ByteArray := prog_1_method_19_code
def yX12_rekey : MethodName := ⟨RX12, "rekey", "(I)V"⟩
abbrev cX12_quit : ByteArray := prog_1_method_20_code
def yX12_quit : MethodName := ⟨RX12, "quit", "(I)V"⟩
abbrev cX12_about : ByteArray := prog_1_method_21_code
def yX12_about : MethodName := ⟨RX12, "about", "(II)I"⟩
abbrev cX12_channel : ByteArray := prog_1_method_22_code
def yX12_channel : MethodName := ⟨RX12, "channel", "(II)I"⟩
abbrev cX12_count : ByteArray := prog_1_method_23_code
def yX12_count : MethodName := ⟨RX12, "count", "(I)I"⟩
abbrev cX12_endOf : ByteArray := prog_1_method_24_code
def yX12_endOf : MethodName := ⟨RX12, "endOf", "(I)LShellPair$End;"⟩
abbrev cX12_isSetting : ByteArray := prog_1_method_25_code
def yX12_isSetting : MethodName := ⟨RX12, "isSetting", "(II)Z"⟩
def RX13 : String := "ShellPairModel$Cipher"
def TX13 : u_T := fun k => match k with
  | 0 => ("ShellPairModel$Cipher", "substitute", "[I", true)
  | 1 => ("ShellPairModel$Cipher", "round", "[I", true)
  | 2 => ("ShellPairModel$Cipher", "state", "[I", true)
  | 3 => ("ShellPairModel$Cipher", "moved", "[I", true)
  | 4 => ("ShellPairModel$Cipher", "four", "[I", true)
  | 5 => ("ShellPairModel$Cipher", "rounds", "I", false)
  | 6 => ("ShellPairModel$Cipher", "counter", "[I", true)
  | 7 => ("ShellPairModel$Cipher", "cipher", "I", false)
  | 8 => ("ShellPairModel$Cipher", "mac", "I", false)
  | _ => ("ShellPairModel$Cipher", "secret", "[B", true)
def tyX13 : Nat → FieldType := fun k => match k with
  | 0 => .array .int
  | 1 => .array .int
  | 2 => .array .int
  | 3 => .array .int
  | 4 => .array .int
  | 5 => .int
  | 6 => .array .int
  | 7 => .int
  | 8 => .int
  | _ => .array .byte
abbrev wsX130 : List Cond := u_ws RX13 TX13 10
theorem nmX13 : ∀ a, a < 10 → ∀ b, b < 10 → a ≠ b → (TX13 a).2.1 ≠ (TX13 b).2.1 := by decide +kernel
theorem tyX13_ok : ∀ k, k < 10 → parseFieldDescriptor (TX13 k).2.2.1 = some (tyX13 k) := by decide +kernel
abbrev cX13_init : ByteArray := prog_16_method_1_code
def yX13_init : MethodName := ⟨RX13, "<init>", "([I)V"⟩
abbrev cX13_box : ByteArray := prog_16_method_2_code
def yX13_box : MethodName := ⟨RX13, "box", "()[I"⟩
abbrev cX13_times : ByteArray := prog_16_method_3_code
def yX13_times : MethodName := ⟨RX13, "times", "(II)I"⟩
abbrev cX13_key : ByteArray := prog_16_method_4_code
def yX13_key : MethodName := ⟨RX13, "key", "([BI)V"⟩
abbrev cX13_turn : ByteArray := prog_16_method_5_code
def yX13_turn : MethodName := ⟨RX13, "turn", "()V"⟩
abbrev cX13_cover : ByteArray := prog_16_method_6_code
def yX13_cover : MethodName := ⟨RX13, "cover", "([BII)V"⟩
def RX14 : String := "ShellPairModel$Curve"
def TX14 : u_T := fun k => match k with
  | 0 => ("ShellPairModel$Numbers", "product", "[J", true)
  | 1 => ("ShellPairModel$Numbers", "sum", "[J", true)
  | 2 => ("ShellPairModel$Numbers", "u", "[J", true)
  | 3 => ("ShellPairModel$Numbers", "v", "[J", true)
  | 4 => ("ShellPairModel$Numbers", "x1", "[J", true)
  | 5 => ("ShellPairModel$Numbers", "x2", "[J", true)
  | 6 => ("ShellPairModel$Curve", "hasher", "LShellPairModel$Hash;", true)
  | 7 => ("ShellPairModel$Curve", "hashed", "[B", true)
  | 8 => ("ShellPairModel$Curve", "p", "[J", true)
  | 9 => ("ShellPairModel$Curve", "pt", "[J", true)
  | 10 => ("ShellPairModel$Curve", "order", "[J", true)
  | 11 => ("ShellPairModel$Curve", "ot", "[J", true)
  | 12 => ("ShellPairModel$Curve", "d", "[J", true)
  | 13 => ("ShellPairModel$Curve", "root", "[J", true)
  | 14 => ("ShellPairModel$Curve", "baseX", "[J", true)
  | 15 => ("ShellPairModel$Curve", "baseY", "[J", true)
  | 16 => ("ShellPairModel$Curve", "px", "[J", true)
  | 17 => ("ShellPairModel$Curve", "py", "[J", true)
  | 18 => ("ShellPairModel$Curve", "qx", "[J", true)
  | 19 => ("ShellPairModel$Curve", "qy", "[J", true)
  | 20 => ("ShellPairModel$Curve", "rx", "[J", true)
  | 21 => ("ShellPairModel$Curve", "ry", "[J", true)
  | 22 => ("ShellPairModel$Curve", "a", "[J", true)
  | 23 => ("ShellPairModel$Curve", "b", "[J", true)
  | 24 => ("ShellPairModel$Curve", "c", "[J", true)
  | 25 => ("ShellPairModel$Curve", "e", "[J", true)
  | 26 => ("ShellPairModel$Curve", "f", "[J", true)
  | 27 => ("ShellPairModel$Curve", "g", "[J", true)
  | 28 => ("ShellPairModel$Curve", "pz", "[J", true)
  | 29 => ("ShellPairModel$Curve", "sx", "[J", true)
  | 30 => ("ShellPairModel$Curve", "sy", "[J", true)
  | 31 => ("ShellPairModel$Curve", "sz", "[J", true)
  | 32 => ("ShellPairModel$Curve", "one", "[J", true)
  | 33 => ("ShellPairModel$Curve", "scalar", "[J", true)
  | 34 => ("ShellPairModel$Curve", "secret", "[J", true)
  | 35 => ("ShellPairModel$Curve", "number", "[J", true)
  | 36 => ("ShellPairModel$Curve", "ten", "[J", true)
  | 37 => ("ShellPairModel$Curve", "row", "[B", true)
  | 38 => ("ShellPairModel$Curve", "open", "[B", true)
  | 39 => ("ShellPairModel$Curve", "first", "[B", true)
  | 40 => ("ShellPairModel$Curve", "work", "[B", false)
  | _ => ("ShellPairModel$Curve", "low", "[I", true)
def tyX14 : Nat → FieldType := fun k => match k with
  | 0 => .array .long
  | 1 => .array .long
  | 2 => .array .long
  | 3 => .array .long
  | 4 => .array .long
  | 5 => .array .long
  | 6 => .object "ShellPairModel$Hash"
  | 7 => .array .byte
  | 8 => .array .long
  | 9 => .array .long
  | 10 => .array .long
  | 11 => .array .long
  | 12 => .array .long
  | 13 => .array .long
  | 14 => .array .long
  | 15 => .array .long
  | 16 => .array .long
  | 17 => .array .long
  | 18 => .array .long
  | 19 => .array .long
  | 20 => .array .long
  | 21 => .array .long
  | 22 => .array .long
  | 23 => .array .long
  | 24 => .array .long
  | 25 => .array .long
  | 26 => .array .long
  | 27 => .array .long
  | 28 => .array .long
  | 29 => .array .long
  | 30 => .array .long
  | 31 => .array .long
  | 32 => .array .long
  | 33 => .array .long
  | 34 => .array .long
  | 35 => .array .long
  | 36 => .array .long
  | 37 => .array .byte
  | 38 => .array .byte
  | 39 => .array .byte
  | 40 => .array .byte
  | _ => .array .int
abbrev wsX140 : List Cond := u_ws RX14 TX14 42
theorem nmX14 : ∀ a, a < 42 → ∀ b, b < 42 → a ≠ b → (TX14 a).2.1 ≠ (TX14 b).2.1 := by decide +kernel
theorem tyX14_ok : ∀ k, k < 42 → parseFieldDescriptor (TX14 k).2.2.1 = some (tyX14 k) := by decide +kernel
abbrev cX14_init : ByteArray := prog_17_method_1_code
def yX14_init : MethodName := ⟨RX14, "<init>", "(LShellPairModel$Hash;)V"⟩
abbrev cX14_power : ByteArray := prog_17_method_2_code
def yX14_power : MethodName := ⟨RX14, "power", "([J[J[J)V"⟩
abbrev cX14_decode : ByteArray := prog_17_method_3_code
def yX14_decode : MethodName := ⟨RX14, "decode", "()Z"⟩
abbrev cX14_encode : ByteArray := prog_17_method_4_code
def yX14_encode : MethodName := ⟨RX14, "encode", "([B[J[J)V"⟩
abbrev cX14_join : ByteArray := prog_17_method_5_code
def yX14_join : MethodName := ⟨RX14, "join", "([J[J[J[J[J[J)V"⟩
abbrev cX14_add : ByteArray := prog_17_method_6_code
def yX14_add : MethodName := ⟨RX14, "add", "([J[J[J[J)V"⟩
abbrev cX14_divide : ByteArray := prog_17_method_7_code
def yX14_divide : MethodName := ⟨RX14, "divide", "()V"⟩
abbrev cX14_multiply : ByteArray := prog_17_method_8_code
def yX14_multiply : MethodName := ⟨RX14, "multiply", "([J)V"⟩
abbrev cX14_fromBase : ByteArray := prog_17_method_9_code
def yX14_fromBase : MethodName := ⟨RX14, "fromBase", "([J)V"⟩
abbrev cX14_hashNumber : ByteArray := prog_17_method_10_code
def yX14_hashNumber : MethodName := ⟨RX14, "hashNumber", "([J)V"⟩
abbrev cX14_clamped : ByteArray := prog_17_method_11_code
def yX14_clamped : MethodName := ⟨RX14, "clamped", "([J[BI)V"⟩
abbrev cX14_hash : ByteArray := prog_17_method_12_code
def yX14_hash : MethodName := ⟨RX14, "hash", "([BI)V"⟩
abbrev cX14_opened : ByteArray := prog_17_method_13_code
def yX14_opened : MethodName := ⟨RX14, "opened", "([BI)V"⟩
abbrev cX14_hashMessage : ByteArray := prog_17_method_14_code
def yX14_hashMessage : MethodName := ⟨RX14, "hashMessage", "(I[BII)V"⟩
abbrev cX14_publicSigning : ByteArray := prog_17_method_15_code
def yX14_publicSigning : MethodName := ⟨RX14, "publicSigning", "([BI[B)V"⟩
abbrev cX14_sign : ByteArray := prog_17_method_16_code
def yX14_sign : MethodName := ⟨RX14, "sign", "([BI[BII[B)V"⟩
abbrev cX14_good : ByteArray := prog_17_method_17_code
def yX14_good : MethodName := ⟨RX14, "good", "([BI[BII[BII)Z"⟩
abbrev cX14_ladder : ByteArray := prog_17_method_18_code
def yX14_ladder : MethodName := ⟨RX14, "ladder", "()V"⟩
abbrev cX14_step : ByteArray := prog_17_method_19_code
def yX14_step : MethodName := ⟨RX14, "step", "([J[J[J[J)V"⟩
abbrev cX14_agree : ByteArray := prog_17_method_20_code
def yX14_agree : MethodName := ⟨RX14, "agree", "([BI[BI[B)Z"⟩
def RX15 : String := "ShellPairModel$End"
def TX15 : u_T := fun k => match k with
  | 0 => ("ShellPairModel$End", "e", "I", true)
  | 1 => ("ShellPairModel$End", "set", "[I", true)
  | 2 => ("ShellPairModel$End", "seed", "[B", true)
  | 3 => ("ShellPairModel$End", "blocks", "J", false)
  | 4 => ("ShellPairModel$End", "block", "[B", true)
  | 5 => ("ShellPairModel$End", "left", "I", false)
  | 6 => ("ShellPairModel$End", "state", "I", false)
  | 7 => ("ShellPairModel$End", "reason", "I", false)
  | 8 => ("ShellPairModel$End", "sent", "I", false)
  | 9 => ("ShellPairModel$End", "taken", "I", false)
  | 10 => ("ShellPairModel$End", "sequenceOut", "J", false)
  | 11 => ("ShellPairModel$End", "sequenceIn", "J", false)
  | 12 => ("ShellPairModel$End", "bytesSent", "J", false)
  | 13 => ("ShellPairModel$End", "line", "LShellPairModel$Row;", true)
  | 14 => ("ShellPairModel$End", "lineDone", "Z", false)
  | 15 => ("ShellPairModel$End", "passed", "I", false)
  | 16 => ("ShellPairModel$End", "version", "[B", false)
  | 17 => ("ShellPairModel$End", "out", "LShellPairModel$Cipher;", true)
  | 18 => ("ShellPairModel$End", "in", "LShellPairModel$Cipher;", true)
  | 19 => ("ShellPairModel$End", "packet", "[B", true)
  | 20 => ("ShellPairModel$End", "have", "I", false)
  | 21 => ("ShellPairModel$End", "whole", "I", false)
  | 22 => ("ShellPairModel$End", "initSent", "Z", false)
  | 23 => ("ShellPairModel$End", "initCame", "Z", false)
  | 24 => ("ShellPairModel$End", "newSent", "Z", false)
  | 25 => ("ShellPairModel$End", "newCame", "Z", false)
  | 26 => ("ShellPairModel$End", "skips", "Z", false)
  | 27 => ("ShellPairModel$End", "step", "I", false)
  | 28 => ("ShellPairModel$End", "exchanges", "I", false)
  | 29 => ("ShellPairModel$End", "own", "[B", false)
  | 30 => ("ShellPairModel$End", "others", "[B", false)
  | 31 => ("ShellPairModel$End", "chosen", "[I", true)
  | 32 => ("ShellPairModel$End", "secret", "[B", false)
  | 33 => ("ShellPairModel$End", "open", "[B", false)
  | 34 => ("ShellPairModel$End", "shared", "[B", false)
  | 35 => ("ShellPairModel$End", "hash", "[B", false)
  | 36 => ("ShellPairModel$End", "held", "LShellPairModel$Row;", false)
  | 37 => ("ShellPairModel$End", "spare", "LShellPairModel$Row;", false)
  | 38 => ("ShellPairModel$End", "failures", "I", false)
  | 39 => ("ShellPairModel$End", "serviceAsked", "Z", false)
  | 40 => ("ShellPairModel$End", "served", "Z", false)
  | 41 => ("ShellPairModel$End", "proven", "Z", false)
  | 42 => ("ShellPairModel$End", "triedKey", "Z", false)
  | 43 => ("ShellPairModel$End", "triedWord", "Z", false)
  | 44 => ("ShellPairModel$End", "answerDue", "Z", false)
  | 45 => ("ShellPairModel$End", "queryDue", "Z", false)
  | _ => ("ShellPairModel$End", "sides", "[LShellPairModel$Side;", true)
def tyX15 : Nat → FieldType := fun k => match k with
  | 0 => .int
  | 1 => .array .int
  | 2 => .array .byte
  | 3 => .long
  | 4 => .array .byte
  | 5 => .int
  | 6 => .int
  | 7 => .int
  | 8 => .int
  | 9 => .int
  | 10 => .long
  | 11 => .long
  | 12 => .long
  | 13 => .object "ShellPairModel$Row"
  | 14 => .boolean
  | 15 => .int
  | 16 => .array .byte
  | 17 => .object "ShellPairModel$Cipher"
  | 18 => .object "ShellPairModel$Cipher"
  | 19 => .array .byte
  | 20 => .int
  | 21 => .int
  | 22 => .boolean
  | 23 => .boolean
  | 24 => .boolean
  | 25 => .boolean
  | 26 => .boolean
  | 27 => .int
  | 28 => .int
  | 29 => .array .byte
  | 30 => .array .byte
  | 31 => .array .int
  | 32 => .array .byte
  | 33 => .array .byte
  | 34 => .array .byte
  | 35 => .array .byte
  | 36 => .object "ShellPairModel$Row"
  | 37 => .object "ShellPairModel$Row"
  | 38 => .int
  | 39 => .boolean
  | 40 => .boolean
  | 41 => .boolean
  | 42 => .boolean
  | 43 => .boolean
  | 44 => .boolean
  | 45 => .boolean
  | _ => .array (.object "ShellPairModel$Side")
abbrev wsX150 : List Cond := u_ws RX15 TX15 47
theorem nmX15 : ∀ a, a < 47 → ∀ b, b < 47 → a ≠ b → (TX15 a).2.1 ≠ (TX15 b).2.1 := by decide +kernel
theorem tyX15_ok : ∀ k, k < 47 → parseFieldDescriptor (TX15 k).2.2.1 = some (tyX15 k) := by decide +kernel
abbrev cX15_init : ByteArray := prog_18_method_1_code
def yX15_init : MethodName := ⟨RX15, "<init>", "(I[I)V"⟩
def RX16 : String := "ShellPairModel$Fields"
def TX16 : u_T := fun k => match k with
  | 0 => ("ShellPairModel$Fields", "b", "[B", false)
  | 1 => ("ShellPairModel$Fields", "at", "I", false)
  | 2 => ("ShellPairModel$Fields", "end", "I", false)
  | 3 => ("ShellPairModel$Fields", "bad", "Z", false)
  | 4 => ("ShellPairModel$Fields", "from", "I", false)
  | _ => ("ShellPairModel$Fields", "size", "I", false)
def tyX16 : Nat → FieldType := fun k => match k with
  | 0 => .array .byte
  | 1 => .int
  | 2 => .int
  | 3 => .boolean
  | 4 => .int
  | _ => .int
abbrev wsX160 : List Cond := u_ws RX16 TX16 6
theorem nmX16 : ∀ a, a < 6 → ∀ b, b < 6 → a ≠ b → (TX16 a).2.1 ≠ (TX16 b).2.1 := by decide +kernel
theorem tyX16_ok : ∀ k, k < 6 → parseFieldDescriptor (TX16 k).2.2.1 = some (tyX16 k) := by decide +kernel
abbrev cX16_init : ByteArray := prog_19_method_1_code
def yX16_init : MethodName := ⟨RX16, "<init>", "()V"⟩
abbrev cX16_on : ByteArray := prog_19_method_2_code
def yX16_on : MethodName := ⟨RX16, "on", "([BII)LShellPairModel$Fields;"⟩
abbrev cX16_four : ByteArray := prog_19_method_3_code
def yX16_four : MethodName := ⟨RX16, "four", "()J"⟩
abbrev cX16_one : ByteArray := prog_19_method_4_code
def yX16_one : MethodName := ⟨RX16, "one", "()I"⟩
abbrev cX16_pass : ByteArray := prog_19_method_5_code
def yX16_pass : MethodName := ⟨RX16, "pass", "(I)V"⟩
abbrev cX16_text : ByteArray := prog_19_method_6_code
def yX16_text : MethodName := ⟨RX16, "text", "()LShellPairModel$Fields;"⟩
abbrev cX16_is : ByteArray := prog_19_method_7_code
def yX16_is : MethodName := ⟨RX16, "is", "(Ljava/lang/String;)Z"⟩
abbrev cX16_is_ : ByteArray := prog_19_method_8_code
def yX16_is_ : MethodName := ⟨RX16, "is", "([B)Z"⟩
abbrev cX16_bytes : ByteArray := prog_19_method_9_code
def yX16_bytes : MethodName := ⟨RX16, "bytes", "()[B"⟩
abbrev cX16_done : ByteArray := prog_19_method_10_code
def yX16_done : MethodName := ⟨RX16, "done", "()Z"⟩
def RX17 : String := "ShellPairModel$Hash"
def TX17 : u_T := fun k => match k with
  | 0 => ("ShellPairModel$Hash", "roots", "[J", true)
  | 1 => ("ShellPairModel$Hash", "starts", "[J", true)
  | 2 => ("ShellPairModel$Hash", "words", "[J", true)
  | 3 => ("ShellPairModel$Hash", "state", "[J", true)
  | 4 => ("ShellPairModel$Hash", "left", "[J", true)
  | 5 => ("ShellPairModel$Hash", "cube", "[J", true)
  | 6 => ("ShellPairModel$Hash", "wide", "Z", false)
  | 7 => ("ShellPairModel$Hash", "out", "[B", true)
  | 8 => ("ShellPairModel$Hash", "pad", "[B", true)
  | 9 => ("ShellPairModel$Hash", "work", "[B", true)
  | 10 => ("ShellPairModel$Hash", "info", "[B", true)
  | 11 => ("ShellPairModel$Hash", "last", "[B", true)
  | 12 => ("ShellPairModel$Hash", "name", "[B", true)
  | _ => ("ShellPairModel$Hash", "empties", "[[B", true)
def tyX17 : Nat → FieldType := fun k => match k with
  | 0 => .array .long
  | 1 => .array .long
  | 2 => .array .long
  | 3 => .array .long
  | 4 => .array .long
  | 5 => .array .long
  | 6 => .boolean
  | 7 => .array .byte
  | 8 => .array .byte
  | 9 => .array .byte
  | 10 => .array .byte
  | 11 => .array .byte
  | 12 => .array .byte
  | _ => .array (.array .byte)
abbrev wsX170 : List Cond := u_ws RX17 TX17 14
theorem nmX17 : ∀ a, a < 14 → ∀ b, b < 14 → a ≠ b → (TX17 a).2.1 ≠ (TX17 b).2.1 := by decide +kernel
theorem tyX17_ok : ∀ k, k < 14 → parseFieldDescriptor (TX17 k).2.2.1 = some (tyX17 k) := by decide +kernel
abbrev cX17_init : ByteArray := prog_20_method_1_code
def yX17_init : MethodName := ⟨RX17, "<init>", "()V"⟩
abbrev cX17_prime : ByteArray := prog_20_method_2_code
def yX17_prime : MethodName := ⟨RX17, "prime", "(I)I"⟩
abbrev cX17_root : ByteArray := prog_20_method_3_code
def yX17_root : MethodName := ⟨RX17, "root", "(II)J"⟩
abbrev cX17_fits : ByteArray := prog_20_method_4_code
def yX17_fits : MethodName := ⟨RX17, "fits", "(JJII)Z"⟩
abbrev cX17_times : ByteArray := prog_20_method_5_code
def yX17_times : MethodName := ⟨RX17, "times", "(JJ)V"⟩
abbrev cX17_size : ByteArray := prog_20_method_6_code
def yX17_size : MethodName := ⟨RX17, "size", "(I)I"⟩
abbrev cX17_block : ByteArray := prog_20_method_7_code
def yX17_block : MethodName := ⟨RX17, "block", "(I)I"⟩
abbrev cX17_blocksOf : ByteArray := prog_20_method_8_code
def yX17_blocksOf : MethodName := ⟨RX17, "blocksOf", "(II)I"⟩
abbrev cX17_turned : ByteArray := prog_20_method_9_code
def yX17_turned : MethodName := ⟨RX17, "turned", "(JI)J"⟩
abbrev cX17_mixed : ByteArray := prog_20_method_10_code
def yX17_mixed : MethodName := ⟨RX17, "mixed", "(JIII)J"⟩
abbrev cX17_shifted : ByteArray := prog_20_method_11_code
def yX17_shifted : MethodName := ⟨RX17, "shifted", "(JIII)J"⟩
abbrev cX17_fit : ByteArray := prog_20_method_12_code
def yX17_fit : MethodName := ⟨RX17, "fit", "(J)J"⟩
abbrev cX17_padded : ByteArray := prog_20_method_13_code
def yX17_padded : MethodName := ⟨RX17, "padded", "([BIIII)I"⟩
abbrev cX17_hash : ByteArray := prog_20_method_14_code
def yX17_hash : MethodName := ⟨RX17, "hash", "(I[BII)V"⟩
abbrev cX17_over : ByteArray := prog_20_method_15_code
def yX17_over : MethodName := ⟨RX17, "over", "()V"⟩
abbrev cX17_hash_ : ByteArray := prog_20_method_16_code
def yX17_hash_ : MethodName := ⟨RX17, "hash", "(I[BII[BI)V"⟩
abbrev cX17_keyed : ByteArray := prog_20_method_17_code
def yX17_keyed : MethodName := ⟨RX17, "keyed", "(I[BII[BI[BI)V"⟩
def RX18 : String := "ShellPairModel$Numbers"
def TX18 : u_T := fun k => match k with
  | _ => ("", "", "", false)
def tyX18 : Nat → FieldType := fun k => match k with
  | _ => .int
abbrev wsX180 : List Cond := u_ws RX18 TX18 0
theorem nmX18 : ∀ a, a < 0 → ∀ b, b < 0 → a ≠ b → (TX18 a).2.1 ≠ (TX18 b).2.1 := by decide +kernel
theorem tyX18_ok : ∀ k, k < 0 → parseFieldDescriptor (TX18 k).2.2.1 = some (tyX18 k) := by decide +kernel
abbrev cX18_init : ByteArray := prog_21_method_1_code
def yX18_init : MethodName := ⟨RX18, "<init>", "()V"⟩
abbrev cX18_copy : ByteArray := prog_21_method_2_code
def yX18_copy : MethodName := ⟨RX18, "copy", "([J[J)V"⟩
abbrev cX18_set : ByteArray := prog_21_method_3_code
def yX18_set : MethodName := ⟨RX18, "set", "([JI)V"⟩
abbrev cX18_zero : ByteArray := prog_21_method_4_code
def yX18_zero : MethodName := ⟨RX18, "zero", "([J)Z"⟩
abbrev cX18_below : ByteArray := prog_21_method_5_code
def yX18_below : MethodName := ⟨RX18, "below", "([J[J)Z"⟩
abbrev cX18_alike : ByteArray := prog_21_method_6_code
def yX18_alike : MethodName := ⟨RX18, "alike", "([J[J)Z"⟩
abbrev cX18_less : ByteArray := prog_21_method_7_code
def yX18_less : MethodName := ⟨RX18, "less", "([J[J[J)V"⟩
abbrev cX18_plus : ByteArray := prog_21_method_8_code
def yX18_plus : MethodName := ⟨RX18, "plus", "([J[J[J[J)V"⟩
abbrev cX18_minus : ByteArray := prog_21_method_9_code
def yX18_minus : MethodName := ⟨RX18, "minus", "([J[J[J[J)V"⟩
abbrev cX18_remainders : ByteArray := prog_21_method_10_code
def yX18_remainders : MethodName := ⟨RX18, "remainders", "([J[J[J)V"⟩
abbrev cX18_reduce : ByteArray := prog_21_method_11_code
def yX18_reduce : MethodName := ⟨RX18, "reduce", "([J[J[J)V"⟩
abbrev cX18_times : ByteArray := prog_21_method_12_code
def yX18_times : MethodName := ⟨RX18, "times", "([J[J[J[J[J)V"⟩
abbrev cX18_half : ByteArray := prog_21_method_13_code
def yX18_half : MethodName := ⟨RX18, "half", "([J[J)V"⟩
abbrev cX18_halve : ByteArray := prog_21_method_14_code
def yX18_halve : MethodName := ⟨RX18, "halve", "([J)V"⟩
abbrev cX18_one : ByteArray := prog_21_method_15_code
def yX18_one : MethodName := ⟨RX18, "one", "([J)Z"⟩
abbrev cX18_inverse : ByteArray := prog_21_method_16_code
def yX18_inverse : MethodName := ⟨RX18, "inverse", "([J[J[J)V"⟩
abbrev cX18_bit : ByteArray := prog_21_method_17_code
def yX18_bit : MethodName := ⟨RX18, "bit", "([JI)I"⟩
def RX19 : String := "ShellPairModel$Row"
def TX19 : u_T := fun k => match k with
  | 0 => ("ShellPairModel$Row", "b", "[B", false)
  | 1 => ("ShellPairModel$Row", "n", "I", false)
  | _ => ("ShellPairModel$Row", "from", "I", false)
def tyX19 : Nat → FieldType := fun k => match k with
  | 0 => .array .byte
  | 1 => .int
  | _ => .int
abbrev wsX190 : List Cond := u_ws RX19 TX19 3
theorem nmX19 : ∀ a, a < 3 → ∀ b, b < 3 → a ≠ b → (TX19 a).2.1 ≠ (TX19 b).2.1 := by decide +kernel
theorem tyX19_ok : ∀ k, k < 3 → parseFieldDescriptor (TX19 k).2.2.1 = some (tyX19 k) := by decide +kernel
abbrev cX19_init : ByteArray := prog_22_method_1_code
def yX19_init : MethodName := ⟨RX19, "<init>", "()V"⟩
abbrev cX19_init_ : ByteArray := prog_22_method_2_code
def yX19_init_ : MethodName := ⟨RX19, "<init>", "(I)V"⟩
abbrev cX19_size : ByteArray := prog_22_method_3_code
def yX19_size : MethodName := ⟨RX19, "size", "()I"⟩
abbrev cX19_clear : ByteArray := prog_22_method_4_code
def yX19_clear : MethodName := ⟨RX19, "clear", "()V"⟩
abbrev cX19_add : ByteArray := prog_22_method_5_code
def yX19_add : MethodName := ⟨RX19, "add", "(I)V"⟩
abbrev cX19_four : ByteArray := prog_22_method_6_code
def yX19_four : MethodName := ⟨RX19, "four", "(J)V"⟩
abbrev cX19_add_ : ByteArray := prog_22_method_7_code
def yX19_add_ : MethodName := ⟨RX19, "add", "([BII)V"⟩
abbrev cX19_text : ByteArray := prog_22_method_8_code
def yX19_text : MethodName := ⟨RX19, "text", "([BII)V"⟩
abbrev cX19_text_ : ByteArray := prog_22_method_9_code
def yX19_text_ : MethodName := ⟨RX19, "text", "(Ljava/lang/String;)V"⟩
abbrev cX19_open : ByteArray := prog_22_method_10_code
def yX19_open : MethodName := ⟨RX19, "open", "()I"⟩
abbrev cX19_close : ByteArray := prog_22_method_11_code
def yX19_close : MethodName := ⟨RX19, "close", "(I)V"⟩
abbrev cX19_take : ByteArray := prog_22_method_12_code
def yX19_take : MethodName := ⟨RX19, "take", "()I"⟩
abbrev cX19_drop : ByteArray := prog_22_method_13_code
def yX19_drop : MethodName := ⟨RX19, "drop", "(I)V"⟩
abbrev cX19_into : ByteArray := prog_22_method_14_code
def yX19_into : MethodName := ⟨RX19, "into", "([B)[B"⟩
abbrev cX19_bytes : ByteArray := prog_22_method_15_code
def yX19_bytes : MethodName := ⟨RX19, "bytes", "()[B"⟩
def RX20 : String := "ShellPairModel$Side"
def TX20 : u_T := fun k => match k with
  | 0 => ("ShellPairModel$Side", "number", "I", false)
  | 1 => ("ShellPairModel$Side", "other", "I", false)
  | 2 => ("ShellPairModel$Side", "state", "I", false)
  | 3 => ("ShellPairModel$Side", "window", "J", false)
  | 4 => ("ShellPairModel$Side", "packet", "J", false)
  | 5 => ("ShellPairModel$Side", "granted", "J", false)
  | 6 => ("ShellPairModel$Side", "most", "J", false)
  | 7 => ("ShellPairModel$Side", "out", "LShellPairModel$Row;", true)
  | 8 => ("ShellPairModel$Side", "errors", "LShellPairModel$Row;", true)
  | 9 => ("ShellPairModel$Side", "in", "LShellPairModel$Row;", true)
  | 10 => ("ShellPairModel$Side", "inErrors", "LShellPairModel$Row;", true)
  | 11 => ("ShellPairModel$Side", "ends", "Z", false)
  | 12 => ("ShellPairModel$Side", "endSent", "Z", false)
  | 13 => ("ShellPairModel$Side", "endCame", "Z", false)
  | 14 => ("ShellPairModel$Side", "closeSent", "Z", false)
  | 15 => ("ShellPairModel$Side", "closeCame", "Z", false)
  | 16 => ("ShellPairModel$Side", "done", "Z", false)
  | 17 => ("ShellPairModel$Side", "reason", "I", false)
  | 18 => ("ShellPairModel$Side", "status", "I", false)
  | 19 => ("ShellPairModel$Side", "answered", "I", false)
  | 20 => ("ShellPairModel$Side", "denied", "I", false)
  | 21 => ("ShellPairModel$Side", "waits", "I", false)
  | 22 => ("ShellPairModel$Side", "session", "Z", false)
  | 23 => ("ShellPairModel$Side", "runs", "I", false)
  | 24 => ("ShellPairModel$Side", "port", "I", false)
  | 25 => ("ShellPairModel$Side", "name", "[B", false)
  | _ => ("ShellPairModel$Side", "kept", "LShellPairModel$Row;", true)
def tyX20 : Nat → FieldType := fun k => match k with
  | 0 => .int
  | 1 => .int
  | 2 => .int
  | 3 => .long
  | 4 => .long
  | 5 => .long
  | 6 => .long
  | 7 => .object "ShellPairModel$Row"
  | 8 => .object "ShellPairModel$Row"
  | 9 => .object "ShellPairModel$Row"
  | 10 => .object "ShellPairModel$Row"
  | 11 => .boolean
  | 12 => .boolean
  | 13 => .boolean
  | 14 => .boolean
  | 15 => .boolean
  | 16 => .boolean
  | 17 => .int
  | 18 => .int
  | 19 => .int
  | 20 => .int
  | 21 => .int
  | 22 => .boolean
  | 23 => .int
  | 24 => .int
  | 25 => .array .byte
  | _ => .object "ShellPairModel$Row"
abbrev wsX200 : List Cond := u_ws RX20 TX20 27
theorem nmX20 : ∀ a, a < 27 → ∀ b, b < 27 → a ≠ b → (TX20 a).2.1 ≠ (TX20 b).2.1 := by decide +kernel
theorem tyX20_ok : ∀ k, k < 27 → parseFieldDescriptor (TX20 k).2.2.1 = some (tyX20 k) := by decide +kernel
abbrev cX20_init : ByteArray := prog_23_method_1_code
def yX20_init : MethodName := ⟨RX20, "<init>", "()V"⟩
abbrev cX20_fresh : ByteArray := prog_23_method_2_code
def yX20_fresh : MethodName := ⟨RX20, "fresh", "(I)V"⟩
def RX21 : String := "ShellPairModel"
def TX21 : u_T := fun k => match k with
  | 0 => ("ShellPairModel", "thrown", "I", false)
  | 1 => ("ShellPairModel", "tape", "[B", true)
  | 2 => ("ShellPairModel", "tapes", "I", false)
  | 3 => ("ShellPairModel", "hash", "LShellPairModel$Hash;", true)
  | 4 => ("ShellPairModel", "curve", "LShellPairModel$Curve;", true)
  | 5 => ("ShellPairModel", "substitute", "[I", true)
  | 6 => ("ShellPairModel", "ends", "[LShellPairModel$End;", true)
  | 7 => ("ShellPairModel", "wire", "[LShellPairModel$Row;", true)
  | 8 => ("ShellPairModel", "hostKey", "[B", false)
  | 9 => ("ShellPairModel", "identity", "[B", false)
  | 10 => ("ShellPairModel", "knownKey", "[B", false)
  | 11 => ("ShellPairModel", "user", "[B", false)
  | 12 => ("ShellPairModel", "word", "[B", false)
  | 13 => ("ShellPairModel", "names", "[[B", true)
  | 14 => ("ShellPairModel", "words", "[[B", true)
  | 15 => ("ShellPairModel", "accountKeys", "[[B", true)
  | 16 => ("ShellPairModel", "accounts", "I", false)
  | 17 => ("ShellPairModel", "ports", "[Z", true)
  | 18 => ("ShellPairModel", "portCount", "I", false)
  | 19 => ("ShellPairModel", "storeNames", "[[B", true)
  | 20 => ("ShellPairModel", "store", "[[B", true)
  | 21 => ("ShellPairModel", "stored", "I", false)
  | 22 => ("ShellPairModel", "session", "[B", false)
  | 23 => ("ShellPairModel", "fields0", "LShellPairModel$Fields;", true)
  | 24 => ("ShellPairModel", "fields2", "LShellPairModel$Fields;", true)
  | 25 => ("ShellPairModel", "fields3", "LShellPairModel$Fields;", true)
  | 26 => ("ShellPairModel", "fields4", "LShellPairModel$Fields;", true)
  | 27 => ("ShellPairModel", "fields5", "LShellPairModel$Fields;", true)
  | 28 => ("ShellPairModel", "body", "LShellPairModel$Row;", true)
  | 29 => ("ShellPairModel", "packet", "LShellPairModel$Row;", true)
  | 30 => ("ShellPairModel", "work", "LShellPairModel$Row;", true)
  | 31 => ("ShellPairModel", "mac", "[B", true)
  | 32 => ("ShellPairModel", "mark", "[B", true)
  | 33 => ("ShellPairModel", "in", "[B", true)
  | 34 => ("ShellPairModel", "listAt", "I", false)
  | 35 => ("ShellPairModel", "listEnd", "I", false)
  | 36 => ("ShellPairModel", "choiceSize", "I", false)
  | 37 => ("ShellPairModel", "lines", "[[B", true)
  | 38 => ("ShellPairModel", "clientSession", "[B", false)
  | 39 => ("ShellPairModel", "heldOne", "LShellPairModel$Row;", true)
  | 40 => ("ShellPairModel", "current", "[B", true)
  | 41 => ("ShellPairModel", "tried", "[B", false)
  | _ => ("ShellPairModel", "triedUser", "[B", false)
def tyX21 : Nat → FieldType := fun k => match k with
  | 0 => .int
  | 1 => .array .byte
  | 2 => .int
  | 3 => .object "ShellPairModel$Hash"
  | 4 => .object "ShellPairModel$Curve"
  | 5 => .array .int
  | 6 => .array (.object "ShellPairModel$End")
  | 7 => .array (.object "ShellPairModel$Row")
  | 8 => .array .byte
  | 9 => .array .byte
  | 10 => .array .byte
  | 11 => .array .byte
  | 12 => .array .byte
  | 13 => .array (.array .byte)
  | 14 => .array (.array .byte)
  | 15 => .array (.array .byte)
  | 16 => .int
  | 17 => .array .boolean
  | 18 => .int
  | 19 => .array (.array .byte)
  | 20 => .array (.array .byte)
  | 21 => .int
  | 22 => .array .byte
  | 23 => .object "ShellPairModel$Fields"
  | 24 => .object "ShellPairModel$Fields"
  | 25 => .object "ShellPairModel$Fields"
  | 26 => .object "ShellPairModel$Fields"
  | 27 => .object "ShellPairModel$Fields"
  | 28 => .object "ShellPairModel$Row"
  | 29 => .object "ShellPairModel$Row"
  | 30 => .object "ShellPairModel$Row"
  | 31 => .array .byte
  | 32 => .array .byte
  | 33 => .array .byte
  | 34 => .int
  | 35 => .int
  | 36 => .int
  | 37 => .array (.array .byte)
  | 38 => .array .byte
  | 39 => .object "ShellPairModel$Row"
  | 40 => .array .byte
  | 41 => .array .byte
  | _ => .array .byte
abbrev wsX210 : List Cond := u_ws RX21 TX21 43
theorem nmX21 : ∀ a, a < 43 → ∀ b, b < 43 → a ≠ b → (TX21 a).2.1 ≠ (TX21 b).2.1 := by decide +kernel
theorem tyX21_ok : ∀ k, k < 43 → parseFieldDescriptor (TX21 k).2.2.1 = some (tyX21 k) := by decide +kernel
abbrev cX21_init : ByteArray := prog_15_method_1_code
def yX21_init : MethodName := ⟨RX21, "<init>", "()V"⟩
abbrev cX21_thrown : ByteArray := prog_15_method_2_code
def yX21_thrown : MethodName := ⟨RX21, "thrown", "()I"⟩
abbrev cX21_fail : ByteArray := prog_15_method_3_code
def yX21_fail : MethodName := ⟨RX21, "fail", "(I)I"⟩
abbrev cX21_take : ByteArray := prog_15_method_4_code
def yX21_take : MethodName := ⟨RX21, "take", "(LShellPairModel$End;)I"⟩
abbrev cX21_take_ : ByteArray := prog_15_method_5_code
def yX21_take_ : MethodName := ⟨RX21, "take", "(LShellPairModel$End;I)[B"⟩
abbrev cX21_etm : ByteArray := prog_15_method_6_code
def yX21_etm : MethodName := ⟨RX21, "etm", "(LShellPairModel$Cipher;)Z"⟩
abbrev cX21_vouch : ByteArray := prog_15_method_7_code
def yX21_vouch : MethodName := ⟨RX21, "vouch", "(LShellPairModel$Cipher;J[BII)V"⟩
abbrev cX21_send : ByteArray := prog_15_method_8_code
def yX21_send : MethodName := ⟨RX21, "send", "(LShellPairModel$End;[BI)V"⟩
abbrev cX21_waits : ByteArray := prog_15_method_9_code
def yX21_waits : MethodName := ⟨RX21, "waits", "(LShellPairModel$End;I)Z"⟩
abbrev cX21_say : ByteArray := prog_15_method_10_code
def yX21_say : MethodName := ⟨RX21, "say", "(LShellPairModel$End;LShellPairModel$Row;)V"⟩
abbrev cX21_limit : ByteArray := prog_15_method_11_code
def yX21_limit : MethodName := ⟨RX21, "limit", "(LShellPairModel$End;)V"⟩
abbrev cX21_complete : ByteArray := prog_15_method_12_code
def yX21_complete : MethodName := ⟨RX21, "complete", "(LShellPairModel$End;)Z"⟩
abbrev cX21_fresh : ByteArray := prog_15_method_13_code
def yX21_fresh : MethodName := ⟨RX21, "fresh", "(I)LShellPairModel$Row;"⟩
abbrev cX21_disconnect : ByteArray := prog_15_method_14_code
def yX21_disconnect : MethodName := ⟨RX21, "disconnect", "(LShellPairModel$End;II)V"⟩
abbrev cX21_fault : ByteArray := prog_15_method_15_code
def yX21_fault : MethodName := ⟨RX21, "fault", "(LShellPairModel$End;I)V"⟩
abbrev cX21_ciphers : ByteArray := prog_15_method_16_code
def yX21_ciphers : MethodName := ⟨RX21, "ciphers", "(I)Ljava/lang/String;"⟩
abbrev cX21_macs : ByteArray := prog_15_method_17_code
def yX21_macs : MethodName := ⟨RX21, "macs", "(I)Ljava/lang/String;"⟩
abbrev cX21_init_ : ByteArray := prog_15_method_18_code
def yX21_init_ : MethodName := ⟨RX21, "init", "(LShellPairModel$End;)V"⟩
abbrev cX21_same : ByteArray := prog_15_method_19_code
def yX21_same : MethodName := ⟨RX21, "same", "([B[B)Z"⟩
abbrev cX21_list : ByteArray := prog_15_method_20_code
def yX21_list : MethodName := ⟨RX21, "list", "([BI)V"⟩
abbrev cX21_nameEnd : ByteArray := prog_15_method_21_code
def yX21_nameEnd : MethodName := ⟨RX21, "nameEnd", "([BII)I"⟩
abbrev cX21_alike : ByteArray := prog_15_method_22_code
def yX21_alike : MethodName := ⟨RX21, "alike", "([BII[BII)Z"⟩
abbrev cX21_choice : ByteArray := prog_15_method_23_code
def yX21_choice : MethodName := ⟨RX21, "choice", "([B[BI)I"⟩
abbrev cX21_firstAlike : ByteArray := prog_15_method_24_code
def yX21_firstAlike : MethodName := ⟨RX21, "firstAlike", "([B[BI)Z"⟩
abbrev cX21_initCame : ByteArray := prog_15_method_25_code
def yX21_initCame : MethodName := ⟨RX21, "initCame", "(LShellPairModel$End;[BI)V"⟩
abbrev cX21_big : ByteArray := prog_15_method_26_code
def yX21_big : MethodName := ⟨RX21, "big", "(LShellPairModel$Row;[B)V"⟩
abbrev cX21_agreed : ByteArray := prog_15_method_27_code
def yX21_agreed : MethodName := ⟨RX21, "agreed", "(LShellPairModel$End;[B[B[B[B)[B"⟩
abbrev cX21_line : ByteArray := prog_15_method_28_code
def yX21_line : MethodName := ⟨RX21, "line", "(I)[B"⟩
abbrev cX21_blob : ByteArray := prog_15_method_29_code
def yX21_blob : MethodName := ⟨RX21, "blob", "([B)[B"⟩
abbrev cX21_inside : ByteArray := prog_15_method_30_code
def yX21_inside : MethodName := ⟨RX21, "inside", "([BI)[B"⟩
abbrev cX21_publicOf : ByteArray := prog_15_method_31_code
def yX21_publicOf : MethodName := ⟨RX21, "publicOf", "([B)[B"⟩
abbrev cX21_exchangeServer : ByteArray := prog_15_method_32_code
def yX21_exchangeServer : MethodName := ⟨RX21, "exchangeServer", "(LShellPairModel$End;[BI)V"⟩
abbrev cX21_sessionOf : ByteArray := prog_15_method_33_code
def yX21_sessionOf : MethodName := ⟨RX21, "sessionOf", "(LShellPairModel$End;)[B"⟩
abbrev cX21_exchangeClient : ByteArray := prog_15_method_34_code
def yX21_exchangeClient : MethodName := ⟨RX21, "exchangeClient", "(LShellPairModel$End;[BI)V"⟩
abbrev cX21_derived : ByteArray := prog_15_method_35_code
def yX21_derived : MethodName := ⟨RX21, "derived", "(LShellPairModel$End;I)[B"⟩
abbrev cX21_keyed : ByteArray := prog_15_method_36_code
def yX21_keyed : MethodName := ⟨RX21, "keyed", "(LShellPairModel$End;LShellPairModel$Cipher;I)V"⟩
abbrev cX21_renewed : ByteArray := prog_15_method_37_code
def yX21_renewed : MethodName := ⟨RX21, "renewed", "(LShellPairModel$End;)V"⟩
abbrev cX21_newCame : ByteArray := prog_15_method_38_code
def yX21_newCame : MethodName := ⟨RX21, "newCame", "(LShellPairModel$End;I)V"⟩
abbrev cX21_finished : ByteArray := prog_15_method_39_code
def yX21_finished : MethodName := ⟨RX21, "finished", "(LShellPairModel$End;)V"⟩
abbrev cX21_byteCame : ByteArray := prog_15_method_40_code
def yX21_byteCame : MethodName := ⟨RX21, "byteCame", "(LShellPairModel$End;I)V"⟩
abbrev cX21_lineByte : ByteArray := prog_15_method_41_code
def yX21_lineByte : MethodName := ⟨RX21, "lineByte", "(LShellPairModel$End;I)V"⟩
abbrev cX21_begins : ByteArray := prog_15_method_42_code
def yX21_begins : MethodName := ⟨RX21, "begins", "([BILjava/lang/String;)Z"⟩
abbrev cX21_headCame : ByteArray := prog_15_method_43_code
def yX21_headCame : MethodName := ⟨RX21, "headCame", "(LShellPairModel$End;I)V"⟩
abbrev cX21_packetCame : ByteArray := prog_15_method_44_code
def yX21_packetCame : MethodName := ⟨RX21, "packetCame", "(LShellPairModel$End;I)V"⟩
abbrev cX21_message : ByteArray := prog_15_method_45_code
def yX21_message : MethodName := ⟨RX21, "message", "(LShellPairModel$End;[BIJ)V"⟩
abbrev cX21_named : ByteArray := prog_15_method_46_code
def yX21_named : MethodName := ⟨RX21, "named", "(I)Z"⟩
abbrev cX21_due : ByteArray := prog_15_method_47_code
def yX21_due : MethodName := ⟨RX21, "due", "(LShellPairModel$End;I)Z"⟩
abbrev cX21_worked : ByteArray := prog_15_method_48_code
def yX21_worked : MethodName := ⟨RX21, "worked", "(LShellPairModel$End;I[BILShellPairModel$Fields;)V"⟩
abbrev cX21_service : ByteArray := prog_15_method_49_code
def yX21_service : MethodName := ⟨RX21, "service", "(LShellPairModel$End;LShellPairModel$Fields;)V"⟩
abbrev cX21_served : ByteArray := prog_15_method_50_code
def yX21_served : MethodName := ⟨RX21, "served", "(LShellPairModel$End;LShellPairModel$Fields;)V"⟩
abbrev cX21_ask : ByteArray := prog_15_method_51_code
def yX21_ask : MethodName := ⟨RX21, "ask", "(LShellPairModel$End;[BLjava/lang/String;)LShellPairModel$Row;"⟩
abbrev cX21_failed : ByteArray := prog_15_method_52_code
def yX21_failed : MethodName := ⟨RX21, "failed", "(LShellPairModel$End;LShellPairModel$Fields;)V"⟩
abbrev cX21_has : ByteArray := prog_15_method_53_code
def yX21_has : MethodName := ⟨RX21, "has", "([BLjava/lang/String;)Z"⟩
abbrev cX21_wouldDo : ByteArray := prog_15_method_54_code
def yX21_wouldDo : MethodName := ⟨RX21, "wouldDo", "(LShellPairModel$End;LShellPairModel$Fields;)V"⟩
abbrev cX21_proof : ByteArray := prog_15_method_55_code
def yX21_proof : MethodName := ⟨RX21, "proof", "([B[B[B)[B"⟩
abbrev cX21_asked : ByteArray := prog_15_method_56_code
def yX21_asked : MethodName := ⟨RX21, "asked", "(LShellPairModel$End;LShellPairModel$Fields;)V"⟩
abbrev cX21_byKey : ByteArray := prog_15_method_57_code
def yX21_byKey : MethodName := ⟨RX21, "byKey", "(LShellPairModel$End;LShellPairModel$Fields;[BI)V"⟩
abbrev cX21_byWord : ByteArray := prog_15_method_58_code
def yX21_byWord : MethodName := ⟨RX21, "byWord", "(LShellPairModel$End;LShellPairModel$Fields;I)V"⟩
abbrev cX21_answer : ByteArray := prog_15_method_59_code
def yX21_answer : MethodName := ⟨RX21, "answer", "(LShellPairModel$End;ZZ)V"⟩
abbrev cX21_side : ByteArray := prog_15_method_60_code
def yX21_side : MethodName := ⟨RX21, "side", "(LShellPairModel$End;J)LShellPairModel$Side;"⟩
abbrev cX21_used : ByteArray := prog_15_method_61_code
def yX21_used : MethodName := ⟨RX21, "used", "(LShellPairModel$Side;)Z"⟩
abbrev cX21_opened : ByteArray := prog_15_method_62_code
def yX21_opened : MethodName := ⟨RX21, "opened", "(LShellPairModel$End;LShellPairModel$Fields;)V"⟩
abbrev cX21_refuse : ByteArray := prog_15_method_63_code
def yX21_refuse : MethodName := ⟨RX21, "refuse", "(LShellPairModel$End;JI)V"⟩
abbrev cX21_farSide : ByteArray := prog_15_method_64_code
def yX21_farSide : MethodName := ⟨RX21, "farSide", "(I)LShellPairModel$Side;"⟩
abbrev cX21_channelMessage : ByteArray := prog_15_method_65_code
def yX21_channelMessage : MethodName := ⟨RX21, "channelMessage", "(LShellPairModel$End;ILShellPairModel$Fields;)V"⟩
abbrev cX21_granted : ByteArray := prog_15_method_66_code
def yX21_granted : MethodName := ⟨RX21, "granted", "(LShellPairModel$End;LShellPairModel$Side;LShellPairModel$Fields;)V"⟩
abbrev cX21_refused : ByteArray := prog_15_method_67_code
def yX21_refused : MethodName := ⟨RX21, "refused", "(LShellPairModel$End;LShellPairModel$Side;LShellPairModel$Fields;)V"⟩
abbrev cX21_to : ByteArray := prog_15_method_68_code
def yX21_to : MethodName := ⟨RX21, "to", "(LShellPairModel$Side;I)LShellPairModel$Row;"⟩
abbrev cX21_pump : ByteArray := prog_15_method_69_code
def yX21_pump : MethodName := ⟨RX21, "pump", "(LShellPairModel$End;LShellPairModel$Side;)V"⟩
abbrev cX21_close : ByteArray := prog_15_method_70_code
def yX21_close : MethodName := ⟨RX21, "close", "(LShellPairModel$End;LShellPairModel$Side;)V"⟩
abbrev cX21_gone : ByteArray := prog_15_method_71_code
def yX21_gone : MethodName := ⟨RX21, "gone", "(LShellPairModel$Side;)V"⟩
abbrev cX21_wasRead : ByteArray := prog_15_method_72_code
def yX21_wasRead : MethodName := ⟨RX21, "wasRead", "(LShellPairModel$End;LShellPairModel$Side;)V"⟩
abbrev cX21_data : ByteArray := prog_15_method_73_code
def yX21_data : MethodName := ⟨RX21, "data", "(LShellPairModel$End;LShellPairModel$Side;ILShellPairModel$Fields;)V"⟩
abbrev cX21_inputEnds : ByteArray := prog_15_method_74_code
def yX21_inputEnds : MethodName := ⟨RX21, "inputEnds", "(LShellPairModel$End;LShellPairModel$Side;)V"⟩
abbrev cX21_requested : ByteArray := prog_15_method_75_code
def yX21_requested : MethodName := ⟨RX21, "requested", "(LShellPairModel$End;LShellPairModel$Side;LShellPairModel$Fields;)V"⟩
abbrev cX21_ended : ByteArray := prog_15_method_76_code
def yX21_ended : MethodName := ⟨RX21, "ended", "(LShellPairModel$Side;I)V"⟩
abbrev cX21_line_ : ByteArray := prog_15_method_77_code
def yX21_line_ : MethodName := ⟨RX21, "line", "(LShellPairModel$Row;Ljava/lang/String;)V"⟩
abbrev cX21_error : ByteArray := prog_15_method_78_code
def yX21_error : MethodName := ⟨RX21, "error", "(LShellPairModel$Side;Ljava/lang/String;I)V"⟩
abbrev cX21_wordCount : ByteArray := prog_15_method_79_code
def yX21_wordCount : MethodName := ⟨RX21, "wordCount", "([B)I"⟩
abbrev cX21_word : ByteArray := prog_15_method_80_code
def yX21_word : MethodName := ⟨RX21, "word", "([BI)[B"⟩
abbrev cX21_spelled : ByteArray := prog_15_method_81_code
def yX21_spelled : MethodName := ⟨RX21, "spelled", "([BLjava/lang/String;)Z"⟩
abbrev cX21_find : ByteArray := prog_15_method_82_code
def yX21_find : MethodName := ⟨RX21, "find", "([B)I"⟩
abbrev cX21_bytesStored : ByteArray := prog_15_method_83_code
def yX21_bytesStored : MethodName := ⟨RX21, "bytesStored", "()I"⟩
abbrev cX21_begin : ByteArray := prog_15_method_84_code
def yX21_begin : MethodName := ⟨RX21, "begin", "(LShellPairModel$End;LShellPairModel$Side;[B)V"⟩
abbrev cX21_second : ByteArray := prog_15_method_85_code
def yX21_second : MethodName := ⟨RX21, "second", "(LShellPairModel$Side;[B[B)V"⟩
abbrev cX21_order : ByteArray := prog_15_method_86_code
def yX21_order : MethodName := ⟨RX21, "order", "([B[B)I"⟩
abbrev cX21_list_ : ByteArray := prog_15_method_87_code
def yX21_list_ : MethodName := ⟨RX21, "list", "(LShellPairModel$Side;)V"⟩
abbrev cX21_put : ByteArray := prog_15_method_88_code
def yX21_put : MethodName := ⟨RX21, "put", "(LShellPairModel$Side;)V"⟩
abbrev cX21_feed : ByteArray := prog_15_method_89_code
def yX21_feed : MethodName := ⟨RX21, "feed", "(IIIII)I"⟩
abbrev cX21_end : ByteArray := prog_15_method_90_code
def yX21_end : MethodName := ⟨RX21, "end", "(I)I"⟩
abbrev cX21_cut : ByteArray := prog_15_method_91_code
def yX21_cut : MethodName := ⟨RX21, "cut", "(II)[B"⟩
abbrev cX21_secret : ByteArray := prog_15_method_92_code
def yX21_secret : MethodName := ⟨RX21, "secret", "(I)V"⟩
abbrev cX21_user : ByteArray := prog_15_method_93_code
def yX21_user : MethodName := ⟨RX21, "user", "(IZ)I"⟩
abbrev cX21_allow : ByteArray := prog_15_method_94_code
def yX21_allow : MethodName := ⟨RX21, "allow", "(I)V"⟩
abbrev cX21_none : ByteArray := prog_15_method_95_code
def yX21_none : MethodName := ⟨RX21, "none", "(I)Z"⟩
abbrev cX21_set : ByteArray := prog_15_method_96_code
def yX21_set : MethodName := ⟨RX21, "set", "(III)I"⟩
abbrev cX21_port : ByteArray := prog_15_method_97_code
def yX21_port : MethodName := ⟨RX21, "port", "(IZ)V"⟩
abbrev cX21_begin_ : ByteArray := prog_15_method_98_code
def yX21_begin_ : MethodName := ⟨RX21, "begin", "(LShellPairModel$End;)V"⟩
abbrev cX21_start : ByteArray := prog_15_method_99_code
def yX21_start : MethodName := ⟨RX21, "start", "()V"⟩
abbrev cX21_move : ByteArray := prog_15_method_100_code
def yX21_move : MethodName := ⟨RX21, "move", "(II)I"⟩
abbrev cX21_flip : ByteArray := prog_15_method_101_code
def yX21_flip : MethodName := ⟨RX21, "flip", "(III)I"⟩
abbrev cX21_seen : ByteArray := prog_15_method_102_code
def yX21_seen : MethodName := ⟨RX21, "seen", "(II)I"⟩
abbrev cX21_inject : ByteArray := prog_15_method_103_code
def yX21_inject : MethodName := ⟨RX21, "inject", "(I)I"⟩
abbrev cX21_open : ByteArray := prog_15_method_104_code
def yX21_open : MethodName := ⟨RX21, "open", "(I)I"⟩
abbrev cX21_live : ByteArray := prog_15_method_105_code
def yX21_live : MethodName := ⟨RX21, "live", "(I)LShellPairModel$Side;"⟩
abbrev cX21_exec : ByteArray := prog_15_method_106_code
def yX21_exec : MethodName := ⟨RX21, "exec", "(I)V"⟩
abbrev cX21_write : ByteArray := prog_15_method_107_code
def yX21_write : MethodName := ⟨RX21, "write", "(IZ)I"⟩
abbrev cX21_read : ByteArray := prog_15_method_108_code
def yX21_read : MethodName := ⟨RX21, "read", "(III)J"⟩
abbrev cX21_finish : ByteArray := prog_15_method_109_code
def yX21_finish : MethodName := ⟨RX21, "finish", "(II)V"⟩
abbrev cX21_rekey : ByteArray := prog_15_method_110_code
def yX21_rekey : MethodName := ⟨RX21, "rekey", "(I)V"⟩
abbrev cX21_quit : ByteArray := prog_15_method_111_code
def yX21_quit : MethodName := ⟨RX21, "quit", "(I)V"⟩
abbrev cX21_about : ByteArray := prog_15_method_112_code
def yX21_about : MethodName := ⟨RX21, "about", "(II)I"⟩
abbrev cX21_channel : ByteArray := prog_15_method_113_code
def yX21_channel : MethodName := ⟨RX21, "channel", "(II)I"⟩
abbrev cX21_count : ByteArray := prog_15_method_114_code
def yX21_count : MethodName := ⟨RX21, "count", "(I)I"⟩
def RJx145de : String := "java/io/Serializable"
def TJx145de : u_T := fun k => match k with
  | _ => ("", "", "", false)
def tyJx145de : Nat → FieldType := fun k => match k with
  | _ => .int
abbrev wsJx145de0 : List Cond := u_ws RJx145de TJx145de 0
theorem nmJx145de : ∀ a, a < 0 → ∀ b, b < 0 → a ≠ b → (TJx145de a).2.1 ≠ (TJx145de b).2.1 := by decide +kernel
theorem tyJx145de_ok : ∀ k, k < 0 → parseFieldDescriptor (TJx145de k).2.2.1 = some (tyJx145de k) := by decide +kernel
def RJ5 : String := "java/lang/AbstractStringBuilder"
def TJ5 : u_T := fun k => match k with
  | _ => ("", "", "", false)
def tyJ5 : Nat → FieldType := fun k => match k with
  | _ => .int
abbrev wsJ50 : List Cond := u_ws RJ5 TJ5 0
theorem nmJ5 : ∀ a, a < 0 → ∀ b, b < 0 → a ≠ b → (TJ5 a).2.1 ≠ (TJ5 b).2.1 := by decide +kernel
theorem tyJ5_ok : ∀ k, k < 0 → parseFieldDescriptor (TJ5 k).2.2.1 = some (tyJ5 k) := by decide +kernel
abbrev cJ5_init_d00df : ByteArray := prog_25_method_2_code
def yJ5_init_d00df : MethodName := ⟨RJ5, "<init>", "(I)V"⟩
abbrev cJ5_length_8abf5 : ByteArray := prog_25_method_6_code
def yJ5_length_8abf5 : MethodName := ⟨RJ5, "length", "()I"⟩
abbrev cJ5_ensureCapacityInternal_d00df : ByteArray := prog_25_method_9_code
def yJ5_ensureCapacityInternal_d00df : MethodName := ⟨RJ5, "ensureCapacityInternal", "(I)V"⟩
abbrev cJ5_newCapacity_0f7a4 : ByteArray := prog_25_method_10_code
def yJ5_newCapacity_0f7a4 : MethodName := ⟨RJ5, "newCapacity", "(I)I"⟩
abbrev cJ5_inflate_da8c8 : ByteArray := prog_25_method_11_code
def yJ5_inflate_da8c8 : MethodName := ⟨RJ5, "inflate", "()V"⟩
abbrev cJ5_append_cf1ce : ByteArray := prog_25_method_22_code
def yJ5_append_cf1ce : MethodName := ⟨RJ5, "append", "(Ljava/lang/String;)Ljava/lang/AbstractStringBuilder;"⟩
abbrev cJ5_appendNull_278bc : ByteArray := prog_25_method_26_code
def yJ5_appendNull_278bc : MethodName := ⟨RJ5, "appendNull", "()Ljava/lang/AbstractStringBuilder;"⟩
abbrev cJ5_append_3fe6f : ByteArray := prog_25_method_31_code
def yJ5_append_3fe6f : MethodName := ⟨RJ5, "append", "(C)Ljava/lang/AbstractStringBuilder;"⟩
abbrev cJ5_append_c97b9 : ByteArray := prog_25_method_32_code
def yJ5_append_c97b9 : MethodName := ⟨RJ5, "append", "(I)Ljava/lang/AbstractStringBuilder;"⟩
abbrev cJ5_getValue_6d5f1 : ByteArray := prog_25_method_64_code
def yJ5_getValue_6d5f1 : MethodName := ⟨RJ5, "getValue", "()[B"⟩
abbrev cJ5_isLatin1_aae02 : ByteArray := prog_25_method_68_code
def yJ5_isLatin1_aae02 : MethodName := ⟨RJ5, "isLatin1", "()Z"⟩
abbrev cJ5_inflateIfNeededFor_a7421 : ByteArray := prog_25_method_71_code
def yJ5_inflateIfNeededFor_a7421 : MethodName := ⟨RJ5, "inflateIfNeededFor", "(Ljava/lang/String;)V"⟩
abbrev cJ5_putStringAt_47b60 : ByteArray := prog_25_method_73_code
def yJ5_putStringAt_47b60 : MethodName := ⟨RJ5, "putStringAt", "(ILjava/lang/String;)V"⟩
def RJx2cfe8 : String := "java/lang/Appendable"
def TJx2cfe8 : u_T := fun k => match k with
  | _ => ("", "", "", false)
def tyJx2cfe8 : Nat → FieldType := fun k => match k with
  | _ => .int
abbrev wsJx2cfe80 : List Cond := u_ws RJx2cfe8 TJx2cfe8 0
theorem nmJx2cfe8 : ∀ a, a < 0 → ∀ b, b < 0 → a ≠ b → (TJx2cfe8 a).2.1 ≠ (TJx2cfe8 b).2.1 := by decide +kernel
theorem tyJx2cfe8_ok : ∀ k, k < 0 → parseFieldDescriptor (TJx2cfe8 k).2.2.1 = some (tyJx2cfe8 k) := by decide +kernel
def RJx9f9b0 : String := "java/lang/CharSequence"
def TJx9f9b0 : u_T := fun k => match k with
  | _ => ("", "", "", false)
def tyJx9f9b0 : Nat → FieldType := fun k => match k with
  | _ => .int
abbrev wsJx9f9b00 : List Cond := u_ws RJx9f9b0 TJx9f9b0 0
theorem nmJx9f9b0 : ∀ a, a < 0 → ∀ b, b < 0 → a ≠ b → (TJx9f9b0 a).2.1 ≠ (TJx9f9b0 b).2.1 := by decide +kernel
theorem tyJx9f9b0_ok : ∀ k, k < 0 → parseFieldDescriptor (TJx9f9b0 k).2.2.1 = some (tyJx9f9b0 k) := by decide +kernel
def RJx8e188 : String := "java/lang/Cloneable"
def TJx8e188 : u_T := fun k => match k with
  | _ => ("", "", "", false)
def tyJx8e188 : Nat → FieldType := fun k => match k with
  | _ => .int
abbrev wsJx8e1880 : List Cond := u_ws RJx8e188 TJx8e188 0
theorem nmJx8e188 : ∀ a, a < 0 → ∀ b, b < 0 → a ≠ b → (TJx8e188 a).2.1 ≠ (TJx8e188 b).2.1 := by decide +kernel
theorem tyJx8e188_ok : ∀ k, k < 0 → parseFieldDescriptor (TJx8e188 k).2.2.1 = some (tyJx8e188 k) := by decide +kernel
def RJxb160c : String := "java/lang/Comparable"
def TJxb160c : u_T := fun k => match k with
  | _ => ("", "", "", false)
def tyJxb160c : Nat → FieldType := fun k => match k with
  | _ => .int
abbrev wsJxb160c0 : List Cond := u_ws RJxb160c TJxb160c 0
theorem nmJxb160c : ∀ a, a < 0 → ∀ b, b < 0 → a ≠ b → (TJxb160c a).2.1 ≠ (TJxb160c b).2.1 := by decide +kernel
theorem tyJxb160c_ok : ∀ k, k < 0 → parseFieldDescriptor (TJxb160c k).2.2.1 = some (tyJxb160c k) := by decide +kernel
def RJ6 : String := "java/lang/Integer"
def TJ6 : u_T := fun k => match k with
  | _ => ("", "", "", false)
def tyJ6 : Nat → FieldType := fun k => match k with
  | _ => .int
abbrev wsJ60 : List Cond := u_ws RJ6 TJ6 0
theorem nmJ6 : ∀ a, a < 0 → ∀ b, b < 0 → a ≠ b → (TJ6 a).2.1 ≠ (TJ6 b).2.1 := by decide +kernel
theorem tyJ6_ok : ∀ k, k < 0 → parseFieldDescriptor (TJ6 k).2.2.1 = some (tyJ6 k) := by decide +kernel
abbrev cJ6_getChars_ba4f3 : ByteArray := prog_34_method_12_code
def yJ6_getChars_ba4f3 : MethodName := ⟨RJ6, "getChars", "(II[B)I"⟩
abbrev cJ6_stringSize_0f7a4 : ByteArray := prog_34_method_13_code
def yJ6_stringSize_0f7a4 : MethodName := ⟨RJ6, "stringSize", "(I)I"⟩
abbrev cJ6_bitCount_0f7a4 : ByteArray := prog_34_method_49_code
def yJ6_bitCount_0f7a4 : MethodName := ⟨RJ6, "bitCount", "(I)I"⟩
def RJ9 : String := "java/lang/Math"
def TJ9 : u_T := fun k => match k with
  | _ => ("", "", "", false)
def tyJ9 : Nat → FieldType := fun k => match k with
  | _ => .int
abbrev wsJ90 : List Cond := u_ws RJ9 TJ9 0
theorem nmJ9 : ∀ a, a < 0 → ∀ b, b < 0 → a ≠ b → (TJ9 a).2.1 ≠ (TJ9 b).2.1 := by decide +kernel
theorem tyJ9_ok : ∀ k, k < 0 → parseFieldDescriptor (TJ9 k).2.2.1 = some (tyJ9 k) := by decide +kernel
abbrev cJ9_max_7cf53 : ByteArray := prog_35_method_65_code
def yJ9_max_7cf53 : MethodName := ⟨RJ9, "max", "(II)I"⟩
abbrev cJ9_min_7cf53 : ByteArray := prog_35_method_69_code
def yJ9_min_7cf53 : MethodName := ⟨RJ9, "min", "(II)I"⟩
abbrev cJ9_min_f86c9 : ByteArray := prog_35_method_70_code
def yJ9_min_f86c9 : MethodName := ⟨RJ9, "min", "(JJ)J"⟩
def RJxd2413 : String := "java/lang/Number"
def TJxd2413 : u_T := fun k => match k with
  | _ => ("", "", "", false)
def tyJxd2413 : Nat → FieldType := fun k => match k with
  | _ => .int
abbrev wsJxd24130 : List Cond := u_ws RJxd2413 TJxd2413 0
theorem nmJxd2413 : ∀ a, a < 0 → ∀ b, b < 0 → a ≠ b → (TJxd2413 a).2.1 ≠ (TJxd2413 b).2.1 := by decide +kernel
theorem tyJxd2413_ok : ∀ k, k < 0 → parseFieldDescriptor (TJxd2413 k).2.2.1 = some (tyJxd2413 k) := by decide +kernel
def RJ0 : String := "java/lang/String"
def TJ0 : u_T := fun k => match k with
  | 0 => ("java/lang/String", "value", "[B", true)
  | 1 => ("java/lang/String", "coder", "B", true)
  | 2 => ("java/lang/String", "hash", "I", false)
  | _ => ("java/lang/String", "hashIsZero", "Z", false)
def tyJ0 : Nat → FieldType := fun k => match k with
  | 0 => .array .byte
  | 1 => .byte
  | 2 => .int
  | _ => .boolean
abbrev wsJ00 : List Cond := u_ws RJ0 TJ0 4
theorem nmJ0 : ∀ a, a < 4 → ∀ b, b < 4 → a ≠ b → (TJ0 a).2.1 ≠ (TJ0 b).2.1 := by decide +kernel
theorem tyJ0_ok : ∀ k, k < 4 → parseFieldDescriptor (TJ0 k).2.2.1 = some (tyJ0 k) := by decide +kernel
abbrev cJ0_init_81219 : ByteArray := prog_38_method_53_code
def yJ0_init_81219 : MethodName := ⟨RJ0, "<init>", "(Ljava/lang/StringBuilder;)V"⟩
abbrev cJ0_length_8abf5 : ByteArray := prog_38_method_54_code
def yJ0_length_8abf5 : MethodName := ⟨RJ0, "length", "()I"⟩
abbrev cJ0_charAt_5068e : ByteArray := prog_38_method_56_code
def yJ0_charAt_5068e : MethodName := ⟨RJ0, "charAt", "(I)C"⟩
abbrev cJ0_getBytes_840e7 : ByteArray := prog_38_method_147_code
def yJ0_getBytes_840e7 : MethodName := ⟨RJ0, "getBytes", "([BIB)V"⟩
abbrev cJ0_init_db425 : ByteArray := prog_38_method_150_code
def yJ0_init_db425 : MethodName := ⟨RJ0, "<init>", "(Ljava/lang/AbstractStringBuilder;Ljava/lang/Void;)V"⟩
abbrev cJ0_coder_7d493 : ByteArray := prog_38_method_152_code
def yJ0_coder_7d493 : MethodName := ⟨RJ0, "coder", "()B"⟩
abbrev cJ0_isLatin1_aae02 : ByteArray := prog_38_method_154_code
def yJ0_isLatin1_aae02 : MethodName := ⟨RJ0, "isLatin1", "()Z"⟩
abbrev cJ0_checkIndex_df160 : ByteArray := prog_38_method_155_code
def yJ0_checkIndex_df160 : MethodName := ⟨RJ0, "checkIndex", "(II)V"⟩
abbrev cJ0_checkBoundsOffCount_cabcc : ByteArray := prog_38_method_157_code
def yJ0_checkBoundsOffCount_cabcc : MethodName := ⟨RJ0, "checkBoundsOffCount", "(III)I"⟩
abbrev cJ0_checkBoundsBeginEnd_23922 : ByteArray := prog_38_method_158_code
def yJ0_checkBoundsBeginEnd_23922 : MethodName := ⟨RJ0, "checkBoundsBeginEnd", "(III)V"⟩
def RJ4 : String := "java/lang/StringBuilder"
def TJ4 : u_T := fun k => match k with
  | 0 => ("java/lang/AbstractStringBuilder", "value", "[B", false)
  | 1 => ("java/lang/AbstractStringBuilder", "coder", "B", false)
  | 2 => ("java/lang/AbstractStringBuilder", "maybeLatin1", "Z", false)
  | _ => ("java/lang/AbstractStringBuilder", "count", "I", false)
def tyJ4 : Nat → FieldType := fun k => match k with
  | 0 => .array .byte
  | 1 => .byte
  | 2 => .boolean
  | _ => .int
abbrev wsJ40 : List Cond := u_ws RJ4 TJ4 4
theorem nmJ4 : ∀ a, a < 4 → ∀ b, b < 4 → a ≠ b → (TJ4 a).2.1 ≠ (TJ4 b).2.1 := by decide +kernel
theorem tyJ4_ok : ∀ k, k < 4 → parseFieldDescriptor (TJ4 k).2.2.1 = some (tyJ4 k) := by decide +kernel
abbrev cJ4_init_da8c8 : ByteArray := prog_39_method_1_code
def yJ4_init_da8c8 : MethodName := ⟨RJ4, "<init>", "()V"⟩
abbrev cJ4_append_15ec4 : ByteArray := prog_39_method_7_code
def yJ4_append_15ec4 : MethodName := ⟨RJ4, "append", "(Ljava/lang/String;)Ljava/lang/StringBuilder;"⟩
abbrev cJ4_append_cf468 : ByteArray := prog_39_method_14_code
def yJ4_append_cf468 : MethodName := ⟨RJ4, "append", "(C)Ljava/lang/StringBuilder;"⟩
abbrev cJ4_append_bf812 : ByteArray := prog_39_method_15_code
def yJ4_append_bf812 : MethodName := ⟨RJ4, "append", "(I)Ljava/lang/StringBuilder;"⟩
abbrev cJ4_toString_0e30d : ByteArray := prog_39_method_42_code
def yJ4_toString_0e30d : MethodName := ⟨RJ4, "toString", "()Ljava/lang/String;"⟩
abbrev cJ4_length_8abf5 : ByteArray := prog_39_method_93_code
def yJ4_length_8abf5 : MethodName := ⟨RJ4, "length", "()I"⟩
def RJ1 : String := "java/lang/StringLatin1"
def TJ1 : u_T := fun k => match k with
  | _ => ("", "", "", false)
def tyJ1 : Nat → FieldType := fun k => match k with
  | _ => .int
abbrev wsJ10 : List Cond := u_ws RJ1 TJ1 0
theorem nmJ1 : ∀ a, a < 0 → ∀ b, b < 0 → a ≠ b → (TJ1 a).2.1 ≠ (TJ1 b).2.1 := by decide +kernel
theorem tyJ1_ok : ∀ k, k < 0 → parseFieldDescriptor (TJ1 k).2.2.1 = some (tyJ1 k) := by decide +kernel
abbrev cJ1_charAt_3b067 : ByteArray := prog_40_method_2_code
def yJ1_charAt_3b067 : MethodName := ⟨RJ1, "charAt", "([BI)C"⟩
abbrev cJ1_canEncode_fc78d : ByteArray := prog_40_method_3_code
def yJ1_canEncode_fc78d : MethodName := ⟨RJ1, "canEncode", "(C)Z"⟩
abbrev cJ1_inflate_0e8fd : ByteArray := prog_40_method_50_code
def yJ1_inflate_0e8fd : MethodName := ⟨RJ1, "inflate", "([BI[BII)V"⟩
def RJ2 : String := "java/lang/StringUTF16"
def TJ2 : u_T := fun k => match k with
  | _ => ("", "", "", false)
def tyJ2 : Nat → FieldType := fun k => match k with
  | _ => .int
abbrev wsJ20 : List Cond := u_ws RJ2 TJ2 0
theorem nmJ2 : ∀ a, a < 0 → ∀ b, b < 0 → a ≠ b → (TJ2 a).2.1 ≠ (TJ2 b).2.1 := by decide +kernel
theorem tyJ2_ok : ∀ k, k < 0 → parseFieldDescriptor (TJ2 k).2.2.1 = some (tyJ2 k) := by decide +kernel
abbrev cJ2_newBytesFor_77867 : ByteArray := prog_41_method_2_code
def yJ2_newBytesFor_77867 : MethodName := ⟨RJ2, "newBytesFor", "(I)[B"⟩
abbrev cJ2_newBytesLength_0f7a4 : ByteArray := prog_41_method_3_code
def yJ2_newBytesLength_0f7a4 : MethodName := ⟨RJ2, "newBytesLength", "(I)I"⟩
abbrev cJ2_putChar_b72d1 : ByteArray := prog_41_method_4_code
def yJ2_putChar_b72d1 : MethodName := ⟨RJ2, "putChar", "([BII)V"⟩
abbrev cJ2_getChar_3b067 : ByteArray := prog_41_method_5_code
def yJ2_getChar_3b067 : MethodName := ⟨RJ2, "getChar", "([BI)C"⟩
abbrev cJ2_length_9d52b : ByteArray := prog_41_method_6_code
def yJ2_length_9d52b : MethodName := ⟨RJ2, "length", "([B)I"⟩
abbrev cJ2_coderFromArrayLen_85cad : ByteArray := prog_41_method_15_code
def yJ2_coderFromArrayLen_85cad : MethodName := ⟨RJ2, "coderFromArrayLen", "([BI)B"⟩
abbrev cJ2_compress_39247 : ByteArray := prog_41_method_17_code
def yJ2_compress_39247 : MethodName := ⟨RJ2, "compress", "([BII)[B"⟩
abbrev cJ2_compress_5af95 : ByteArray := prog_41_method_22_code
def yJ2_compress_5af95 : MethodName := ⟨RJ2, "compress", "([BI[BII)I"⟩
abbrev cJ2_putCharSB_b72d1 : ByteArray := prog_41_method_71_code
def yJ2_putCharSB_b72d1 : MethodName := ⟨RJ2, "putCharSB", "([BII)V"⟩
abbrev cJ2_getChars_46870 : ByteArray := prog_41_method_77_code
def yJ2_getChars_46870 : MethodName := ⟨RJ2, "getChars", "(III[B)I"⟩
abbrev cJ2_putCharsAt_cd4e5 : ByteArray := prog_41_method_81_code
def yJ2_putCharsAt_cd4e5 : MethodName := ⟨RJ2, "putCharsAt", "([BICCCC)I"⟩
abbrev cJ2_charAt_3b067 : ByteArray := prog_41_method_83_code
def yJ2_charAt_3b067 : MethodName := ⟨RJ2, "charAt", "([BI)C"⟩
abbrev cJ2_inflate_0e8fd : ByteArray := prog_41_method_86_code
def yJ2_inflate_0e8fd : MethodName := ⟨RJ2, "inflate", "([BI[BII)V"⟩
abbrev cJ2_getChars_ba4f3 : ByteArray := prog_41_method_89_code
def yJ2_getChars_ba4f3 : MethodName := ⟨RJ2, "getChars", "(II[B)I"⟩
abbrev cJ2_checkIndex_2214a : ByteArray := prog_41_method_91_code
def yJ2_checkIndex_2214a : MethodName := ⟨RJ2, "checkIndex", "(I[B)V"⟩
abbrev cJ2_checkBoundsBeginEnd_d044e : ByteArray := prog_41_method_93_code
def yJ2_checkBoundsBeginEnd_d044e : MethodName := ⟨RJ2, "checkBoundsBeginEnd", "(II[B)V"⟩
abbrev cJ2_checkBoundsOffCount_d044e : ByteArray := prog_41_method_94_code
def yJ2_checkBoundsOffCount_d044e : MethodName := ⟨RJ2, "checkBoundsOffCount", "(II[B)V"⟩
def RJ10 : String := "java/lang/System"
def TJ10 : u_T := fun k => match k with
  | _ => ("", "", "", false)
def tyJ10 : Nat → FieldType := fun k => match k with
  | _ => .int
abbrev wsJ100 : List Cond := u_ws RJ10 TJ10 0
theorem nmJ10 : ∀ a, a < 0 → ∀ b, b < 0 → a ≠ b → (TJ10 a).2.1 ≠ (TJ10 b).2.1 := by decide +kernel
theorem tyJ10_ok : ∀ k, k < 0 → parseFieldDescriptor (TJ10 k).2.2.1 = some (tyJ10 k) := by decide +kernel
def RJxfd54e : String := "java/lang/constant/Constable"
def TJxfd54e : u_T := fun k => match k with
  | _ => ("", "", "", false)
def tyJxfd54e : Nat → FieldType := fun k => match k with
  | _ => .int
abbrev wsJxfd54e0 : List Cond := u_ws RJxfd54e TJxfd54e 0
theorem nmJxfd54e : ∀ a, a < 0 → ∀ b, b < 0 → a ≠ b → (TJxfd54e a).2.1 ≠ (TJxfd54e b).2.1 := by decide +kernel
theorem tyJxfd54e_ok : ∀ k, k < 0 → parseFieldDescriptor (TJxfd54e k).2.2.1 = some (tyJxfd54e k) := by decide +kernel
def RJx3cf43 : String := "java/lang/constant/ConstantDesc"
def TJx3cf43 : u_T := fun k => match k with
  | _ => ("", "", "", false)
def tyJx3cf43 : Nat → FieldType := fun k => match k with
  | _ => .int
abbrev wsJx3cf430 : List Cond := u_ws RJx3cf43 TJx3cf43 0
theorem nmJx3cf43 : ∀ a, a < 0 → ∀ b, b < 0 → a ≠ b → (TJx3cf43 a).2.1 ≠ (TJx3cf43 b).2.1 := by decide +kernel
theorem tyJx3cf43_ok : ∀ k, k < 0 → parseFieldDescriptor (TJx3cf43 k).2.2.1 = some (tyJx3cf43 k) := by decide +kernel
def RJ7 : String := "java/util/Arrays"
def TJ7 : u_T := fun k => match k with
  | _ => ("", "", "", false)
def tyJ7 : Nat → FieldType := fun k => match k with
  | _ => .int
abbrev wsJ70 : List Cond := u_ws RJ7 TJ7 0
theorem nmJ7 : ∀ a, a < 0 → ∀ b, b < 0 → a ≠ b → (TJ7 a).2.1 ≠ (TJ7 b).2.1 := by decide +kernel
theorem tyJ7_ok : ∀ k, k < 0 → parseFieldDescriptor (TJ7 k).2.2.1 = some (tyJ7 k) := by decide +kernel
abbrev cJ7_fill_d0a16 : ByteArray := prog_46_method_101_code
def yJ7_fill_d0a16 : MethodName := ⟨RJ7, "fill", "([JJ)V"⟩
abbrev cJ7_fill_031fb : ByteArray := prog_46_method_109_code
def yJ7_fill_031fb : MethodName := ⟨RJ7, "fill", "([BB)V"⟩
abbrev cJ7_copyOf_9075b : ByteArray := prog_46_method_121_code
def yJ7_copyOf_9075b : MethodName := ⟨RJ7, "copyOf", "([BI)[B"⟩
abbrev cJ7_checkLength_df160 : ByteArray := prog_46_method_131_code
def yJ7_checkLength_df160 : MethodName := ⟨RJ7, "checkLength", "(II)V"⟩
abbrev cJ7_copyOfRange_39247 : ByteArray := prog_46_method_132_code
def yJ7_copyOfRange_39247 : MethodName := ⟨RJ7, "copyOfRange", "([BII)[B"⟩
abbrev cJ7_copyOfRangeByte_39247 : ByteArray := prog_46_method_133_code
def yJ7_copyOfRangeByte_39247 : MethodName := ⟨RJ7, "copyOfRangeByte", "([BII)[B"⟩
def RJ8 : String := "jdk/internal/util/ArraysSupport"
def TJ8 : u_T := fun k => match k with
  | _ => ("", "", "", false)
def tyJ8 : Nat → FieldType := fun k => match k with
  | _ => .int
abbrev wsJ80 : List Cond := u_ws RJ8 TJ8 0
theorem nmJ8 : ∀ a, a < 0 → ∀ b, b < 0 → a ≠ b → (TJ8 a).2.1 ≠ (TJ8 b).2.1 := by decide +kernel
theorem tyJ8_ok : ∀ k, k < 0 → parseFieldDescriptor (TJ8 k).2.2.1 = some (tyJ8 k) := by decide +kernel
abbrev cJ8_newLength_cabcc : ByteArray := prog_48_method_27_code
def yJ8_newLength_cabcc : MethodName := ⟨RJ8, "newLength", "(III)I"⟩
abbrev cJ8_hugeLength_7cf53 : ByteArray := prog_48_method_28_code
def yJ8_hugeLength_7cf53 : MethodName := ⟨RJ8, "hugeLength", "(II)I"⟩
def RJ3 : String := "jdk/internal/util/Preconditions"
def TJ3 : u_T := fun k => match k with
  | _ => ("", "", "", false)
def tyJ3 : Nat → FieldType := fun k => match k with
  | _ => .int
abbrev wsJ30 : List Cond := u_ws RJ3 TJ3 0
theorem nmJ3 : ∀ a, a < 0 → ∀ b, b < 0 → a ≠ b → (TJ3 a).2.1 ≠ (TJ3 b).2.1 := by decide +kernel
theorem tyJ3_ok : ∀ k, k < 0 → parseFieldDescriptor (TJ3 k).2.2.1 = some (tyJ3 k) := by decide +kernel
abbrev cJ3_checkIndex_8e157 : ByteArray := prog_49_method_11_code
def yJ3_checkIndex_8e157 : MethodName := ⟨RJ3, "checkIndex", "(IILjava/util/function/BiFunction;)I"⟩
abbrev cJ3_checkFromToIndex_8c36e : ByteArray := prog_49_method_12_code
def yJ3_checkFromToIndex_8c36e : MethodName := ⟨RJ3, "checkFromToIndex", "(IIILjava/util/function/BiFunction;)I"⟩
abbrev cJ3_checkFromIndexSize_8c36e : ByteArray := prog_49_method_13_code
def yJ3_checkFromIndexSize_8c36e : MethodName := ⟨RJ3, "checkFromIndexSize", "(IIILjava/util/function/BiFunction;)I"⟩
def RL : String := "ShellPairLaw"
theorem dX13_init_0 : decode cX13_init 0 = .ok (.aload_n 0, 1) := by decide +kernel
theorem dX13_init_1 : decode cX13_init 1 = .ok (.invokespecial 1, 3) := by decide +kernel
theorem dX13_init_4 : decode cX13_init 4 = .ok (.aload_n 0, 1) := by decide +kernel
theorem dX13_init_5 : decode cX13_init 5 = .ok (.sipush 240, 3) := by decide +kernel
theorem dX13_init_8 : decode cX13_init 8 = .ok (.newarray .int, 2) := by decide +kernel
theorem dX13_init_10 : decode cX13_init 10 = .ok (.putfield 7, 3) := by decide +kernel
theorem dX13_init_13 : decode cX13_init 13 = .ok (.aload_n 0, 1) := by decide +kernel
theorem dX13_init_14 : decode cX13_init 14 = .ok (.bipush 16, 2) := by decide +kernel
theorem dX13_init_16 : decode cX13_init 16 = .ok (.newarray .int, 2) := by decide +kernel
theorem dX13_init_18 : decode cX13_init 18 = .ok (.putfield 13, 3) := by decide +kernel
theorem dX13_init_21 : decode cX13_init 21 = .ok (.aload_n 0, 1) := by decide +kernel
theorem dX13_init_22 : decode cX13_init 22 = .ok (.bipush 16, 2) := by decide +kernel
theorem dX13_init_24 : decode cX13_init 24 = .ok (.newarray .int, 2) := by decide +kernel
theorem dX13_init_26 : decode cX13_init 26 = .ok (.putfield 16, 3) := by decide +kernel
theorem dX13_init_29 : decode cX13_init 29 = .ok (.aload_n 0, 1) := by decide +kernel
theorem dX13_init_30 : decode cX13_init 30 = .ok (.iconst 4, 1) := by decide +kernel
theorem dX13_init_31 : decode cX13_init 31 = .ok (.newarray .int, 2) := by decide +kernel
theorem dX13_init_33 : decode cX13_init 33 = .ok (.putfield 19, 3) := by decide +kernel
theorem dX13_init_36 : decode cX13_init 36 = .ok (.aload_n 0, 1) := by decide +kernel
theorem dX13_init_37 : decode cX13_init 37 = .ok (.bipush 16, 2) := by decide +kernel
theorem dX13_init_39 : decode cX13_init 39 = .ok (.newarray .int, 2) := by decide +kernel
theorem dX13_init_41 : decode cX13_init 41 = .ok (.putfield 22, 3) := by decide +kernel
theorem dX13_init_44 : decode cX13_init 44 = .ok (.aload_n 0, 1) := by decide +kernel
theorem dX13_init_45 : decode cX13_init 45 = .ok (.bipush 32, 2) := by decide +kernel
theorem dX13_init_47 : decode cX13_init 47 = .ok (.newarray .byte, 2) := by decide +kernel
theorem dX13_init_49 : decode cX13_init 49 = .ok (.putfield 25, 3) := by decide +kernel
theorem dX13_init_52 : decode cX13_init 52 = .ok (.aload_n 0, 1) := by decide +kernel
theorem dX13_init_53 : decode cX13_init 53 = .ok (.aload_n 1, 1) := by decide +kernel
theorem dX13_init_54 : decode cX13_init 54 = .ok (.putfield 29, 3) := by decide +kernel
theorem dX13_init_57 : decode cX13_init 57 = .ok (.return_, 1) := by decide +kernel
theorem dX13_box_0 : decode cX13_box 0 = .ok (.sipush 256, 3) := by decide +kernel
theorem dX13_box_3 : decode cX13_box 3 = .ok (.newarray .int, 2) := by decide +kernel
theorem dX13_box_5 : decode cX13_box 5 = .ok (.astore_n 0, 1) := by decide +kernel
theorem dX13_box_6 : decode cX13_box 6 = .ok (.iconst 0, 1) := by decide +kernel
theorem dX13_box_7 : decode cX13_box 7 = .ok (.istore_n 1, 1) := by decide +kernel
theorem dX13_box_8 : decode cX13_box 8 = .ok (.iload_n 1, 1) := by decide +kernel
theorem dX13_box_9 : decode cX13_box 9 = .ok (.sipush 256, 3) := by decide +kernel
theorem dX13_box_12 : decode cX13_box 12 = .ok (.if_icmp .ge 73, 3) := by decide +kernel
theorem dX13_box_15 : decode cX13_box 15 = .ok (.iconst 1, 1) := by decide +kernel
theorem dX13_box_16 : decode cX13_box 16 = .ok (.istore_n 2, 1) := by decide +kernel
theorem dX13_box_17 : decode cX13_box 17 = .ok (.iconst 0, 1) := by decide +kernel
theorem dX13_box_18 : decode cX13_box 18 = .ok (.istore_n 3, 1) := by decide +kernel
theorem dX13_box_19 : decode cX13_box 19 = .ok (.iload_n 3, 1) := by decide +kernel
theorem dX13_box_20 : decode cX13_box 20 = .ok (.sipush 254, 3) := by decide +kernel
theorem dX13_box_23 : decode cX13_box 23 = .ok (.if_icmp .ge 15, 3) := by decide +kernel
theorem dX13_box_26 : decode cX13_box 26 = .ok (.iload_n 2, 1) := by decide +kernel
theorem dX13_box_27 : decode cX13_box 27 = .ok (.iload_n 1, 1) := by decide +kernel
theorem dX13_box_28 : decode cX13_box 28 = .ok (.invokestatic 32, 3) := by decide +kernel
theorem dX13_box_31 : decode cX13_box 31 = .ok (.istore_n 2, 1) := by decide +kernel
theorem dX13_box_32 : decode cX13_box 32 = .ok (.iinc 3 1, 3) := by decide +kernel
theorem dX13_box_35 : decode cX13_box 35 = .ok (.goto (-16), 3) := by decide +kernel
theorem dX13_box_38 : decode cX13_box 38 = .ok (.bipush 99, 2) := by decide +kernel
theorem dX13_box_40 : decode cX13_box 40 = .ok (.istore_n 3, 1) := by decide +kernel
theorem dX13_box_41 : decode cX13_box 41 = .ok (.iconst 0, 1) := by decide +kernel
theorem dX13_box_42 : decode cX13_box 42 = .ok (.istore 4, 2) := by decide +kernel
theorem dX13_box_44 : decode cX13_box 44 = .ok (.iload 4, 2) := by decide +kernel
theorem dX13_box_46 : decode cX13_box 46 = .ok (.iconst 5, 1) := by decide +kernel
theorem dX13_box_47 : decode cX13_box 47 = .ok (.if_icmp .ge 28, 3) := by decide +kernel
theorem dX13_box_50 : decode cX13_box 50 = .ok (.iload_n 3, 1) := by decide +kernel
theorem dX13_box_51 : decode cX13_box 51 = .ok (.iload_n 2, 1) := by decide +kernel
theorem dX13_box_52 : decode cX13_box 52 = .ok (.iload 4, 2) := by decide +kernel
theorem dX13_box_54 : decode cX13_box 54 = .ok (.ishl, 1) := by decide +kernel
theorem dX13_box_55 : decode cX13_box 55 = .ok (.iload_n 2, 1) := by decide +kernel
theorem dX13_box_56 : decode cX13_box 56 = .ok (.bipush 8, 2) := by decide +kernel
theorem dX13_box_58 : decode cX13_box 58 = .ok (.iload 4, 2) := by decide +kernel
theorem dX13_box_60 : decode cX13_box 60 = .ok (.isub, 1) := by decide +kernel
theorem dX13_box_61 : decode cX13_box 61 = .ok (.ishr, 1) := by decide +kernel
theorem dX13_box_62 : decode cX13_box 62 = .ok (.ior, 1) := by decide +kernel
theorem dX13_box_63 : decode cX13_box 63 = .ok (.sipush 255, 3) := by decide +kernel
theorem dX13_box_66 : decode cX13_box 66 = .ok (.iand, 1) := by decide +kernel
theorem dX13_box_67 : decode cX13_box 67 = .ok (.ixor, 1) := by decide +kernel
theorem dX13_box_68 : decode cX13_box 68 = .ok (.istore_n 3, 1) := by decide +kernel
theorem dX13_box_69 : decode cX13_box 69 = .ok (.iinc 4 1, 3) := by decide +kernel
theorem dX13_box_72 : decode cX13_box 72 = .ok (.goto (-28), 3) := by decide +kernel
theorem dX13_box_75 : decode cX13_box 75 = .ok (.aload_n 0, 1) := by decide +kernel
theorem dX13_box_76 : decode cX13_box 76 = .ok (.iload_n 1, 1) := by decide +kernel
theorem dX13_box_77 : decode cX13_box 77 = .ok (.iload_n 3, 1) := by decide +kernel
theorem dX13_box_78 : decode cX13_box 78 = .ok (.iastore, 1) := by decide +kernel
theorem dX13_box_79 : decode cX13_box 79 = .ok (.iinc 1 1, 3) := by decide +kernel
theorem dX13_box_82 : decode cX13_box 82 = .ok (.goto (-74), 3) := by decide +kernel
theorem dX13_box_85 : decode cX13_box 85 = .ok (.aload_n 0, 1) := by decide +kernel
theorem dX13_box_86 : decode cX13_box 86 = .ok (.areturn, 1) := by decide +kernel
theorem dX13_times_0 : decode cX13_times 0 = .ok (.iconst 0, 1) := by decide +kernel
theorem dX13_times_1 : decode cX13_times 1 = .ok (.istore_n 2, 1) := by decide +kernel
theorem dX13_times_2 : decode cX13_times 2 = .ok (.iload_n 0, 1) := by decide +kernel
theorem dX13_times_3 : decode cX13_times 3 = .ok (.istore_n 3, 1) := by decide +kernel
theorem dX13_times_4 : decode cX13_times 4 = .ok (.iconst 0, 1) := by decide +kernel
theorem dX13_times_5 : decode cX13_times 5 = .ok (.istore 4, 2) := by decide +kernel
theorem dX13_times_7 : decode cX13_times 7 = .ok (.iload 4, 2) := by decide +kernel
theorem dX13_times_9 : decode cX13_times 9 = .ok (.bipush 8, 2) := by decide +kernel
theorem dX13_times_11 : decode cX13_times 11 = .ok (.if_icmp .ge 41, 3) := by decide +kernel
theorem dX13_times_14 : decode cX13_times 14 = .ok (.iload_n 1, 1) := by decide +kernel
theorem dX13_times_15 : decode cX13_times 15 = .ok (.iload 4, 2) := by decide +kernel
theorem dX13_times_17 : decode cX13_times 17 = .ok (.ishr, 1) := by decide +kernel
theorem dX13_times_18 : decode cX13_times 18 = .ok (.iconst 1, 1) := by decide +kernel
theorem dX13_times_19 : decode cX13_times 19 = .ok (.iand, 1) := by decide +kernel
theorem dX13_times_20 : decode cX13_times 20 = .ok (.iconst 1, 1) := by decide +kernel
theorem dX13_times_21 : decode cX13_times 21 = .ok (.if_icmp .ne 7, 3) := by decide +kernel
theorem dX13_times_24 : decode cX13_times 24 = .ok (.iload_n 2, 1) := by decide +kernel
theorem dX13_times_25 : decode cX13_times 25 = .ok (.iload_n 3, 1) := by decide +kernel
theorem dX13_times_26 : decode cX13_times 26 = .ok (.ixor, 1) := by decide +kernel
theorem dX13_times_27 : decode cX13_times 27 = .ok (.istore_n 2, 1) := by decide +kernel
theorem dX13_times_28 : decode cX13_times 28 = .ok (.iload_n 3, 1) := by decide +kernel
theorem dX13_times_29 : decode cX13_times 29 = .ok (.iconst 1, 1) := by decide +kernel
theorem dX13_times_30 : decode cX13_times 30 = .ok (.ishl, 1) := by decide +kernel
theorem dX13_times_31 : decode cX13_times 31 = .ok (.iload_n 3, 1) := by decide +kernel
theorem dX13_times_32 : decode cX13_times 32 = .ok (.bipush 127, 2) := by decide +kernel
theorem dX13_times_34 : decode cX13_times 34 = .ok (.if_icmp .le 9, 3) := by decide +kernel
theorem dX13_times_37 : decode cX13_times 37 = .ok (.sipush 283, 3) := by decide +kernel
theorem dX13_times_40 : decode cX13_times 40 = .ok (.goto 4, 3) := by decide +kernel
theorem dX13_times_43 : decode cX13_times 43 = .ok (.iconst 0, 1) := by decide +kernel
theorem dX13_times_44 : decode cX13_times 44 = .ok (.ixor, 1) := by decide +kernel
theorem dX13_times_45 : decode cX13_times 45 = .ok (.istore_n 3, 1) := by decide +kernel
theorem dX13_times_46 : decode cX13_times 46 = .ok (.iinc 4 1, 3) := by decide +kernel
theorem dX13_times_49 : decode cX13_times 49 = .ok (.goto (-42), 3) := by decide +kernel
theorem dX13_times_52 : decode cX13_times 52 = .ok (.iload_n 2, 1) := by decide +kernel
theorem dX13_times_53 : decode cX13_times 53 = .ok (.ireturn, 1) := by decide +kernel
theorem dX14_init_0 : decode cX14_init 0 = .ok (.aload_n 0, 1) := by decide +kernel
theorem dX14_init_1 : decode cX14_init 1 = .ok (.invokespecial 1, 3) := by decide +kernel
theorem dX14_init_4 : decode cX14_init 4 = .ok (.aload_n 0, 1) := by decide +kernel
theorem dX14_init_5 : decode cX14_init 5 = .ok (.bipush 64, 2) := by decide +kernel
theorem dX14_init_7 : decode cX14_init 7 = .ok (.newarray .byte, 2) := by decide +kernel
theorem dX14_init_9 : decode cX14_init 9 = .ok (.putfield 7, 3) := by decide +kernel
theorem dX14_init_12 : decode cX14_init 12 = .ok (.aload_n 0, 1) := by decide +kernel
theorem dX14_init_13 : decode cX14_init 13 = .ok (.bipush 16, 2) := by decide +kernel
theorem dX14_init_15 : decode cX14_init 15 = .ok (.newarray .long, 2) := by decide +kernel
theorem dX14_init_17 : decode cX14_init 17 = .ok (.putfield 13, 3) := by decide +kernel
theorem dX14_init_20 : decode cX14_init 20 = .ok (.aload_n 0, 1) := by decide +kernel
theorem dX14_init_21 : decode cX14_init 21 = .ok (.sipush 256, 3) := by decide +kernel
theorem dX14_init_24 : decode cX14_init 24 = .ok (.newarray .long, 2) := by decide +kernel
theorem dX14_init_26 : decode cX14_init 26 = .ok (.putfield 17, 3) := by decide +kernel
theorem dX14_init_29 : decode cX14_init 29 = .ok (.aload_n 0, 1) := by decide +kernel
theorem dX14_init_30 : decode cX14_init 30 = .ok (.bipush 16, 2) := by decide +kernel
theorem dX14_init_32 : decode cX14_init 32 = .ok (.newarray .long, 2) := by decide +kernel
theorem dX14_init_34 : decode cX14_init 34 = .ok (.putfield 20, 3) := by decide +kernel
theorem dX14_init_37 : decode cX14_init 37 = .ok (.aload_n 0, 1) := by decide +kernel
theorem dX14_init_38 : decode cX14_init 38 = .ok (.sipush 256, 3) := by decide +kernel
theorem dX14_init_41 : decode cX14_init 41 = .ok (.newarray .long, 2) := by decide +kernel
theorem dX14_init_43 : decode cX14_init 43 = .ok (.putfield 23, 3) := by decide +kernel
theorem dX14_init_46 : decode cX14_init 46 = .ok (.aload_n 0, 1) := by decide +kernel
theorem dX14_init_47 : decode cX14_init 47 = .ok (.bipush 16, 2) := by decide +kernel
theorem dX14_init_49 : decode cX14_init 49 = .ok (.newarray .long, 2) := by decide +kernel
theorem dX14_init_51 : decode cX14_init 51 = .ok (.putfield 26, 3) := by decide +kernel
theorem dX14_init_54 : decode cX14_init 54 = .ok (.aload_n 0, 1) := by decide +kernel
theorem dX14_init_55 : decode cX14_init 55 = .ok (.bipush 16, 2) := by decide +kernel
theorem dX14_init_57 : decode cX14_init 57 = .ok (.newarray .long, 2) := by decide +kernel
theorem dX14_init_59 : decode cX14_init 59 = .ok (.putfield 29, 3) := by decide +kernel
theorem dX14_init_62 : decode cX14_init 62 = .ok (.aload_n 0, 1) := by decide +kernel
theorem dX14_init_63 : decode cX14_init 63 = .ok (.bipush 16, 2) := by decide +kernel
theorem dX14_init_65 : decode cX14_init 65 = .ok (.newarray .long, 2) := by decide +kernel
theorem dX14_init_67 : decode cX14_init 67 = .ok (.putfield 32, 3) := by decide +kernel
theorem dX14_init_70 : decode cX14_init 70 = .ok (.aload_n 0, 1) := by decide +kernel
theorem dX14_init_71 : decode cX14_init 71 = .ok (.bipush 16, 2) := by decide +kernel
theorem dX14_init_73 : decode cX14_init 73 = .ok (.newarray .long, 2) := by decide +kernel
theorem dX14_init_75 : decode cX14_init 75 = .ok (.putfield 35, 3) := by decide +kernel
theorem dX14_init_78 : decode cX14_init 78 = .ok (.aload_n 0, 1) := by decide +kernel
theorem dX14_init_79 : decode cX14_init 79 = .ok (.bipush 16, 2) := by decide +kernel
theorem dX14_init_81 : decode cX14_init 81 = .ok (.newarray .long, 2) := by decide +kernel
theorem dX14_init_83 : decode cX14_init 83 = .ok (.putfield 38, 3) := by decide +kernel
theorem dX14_init_86 : decode cX14_init 86 = .ok (.aload_n 0, 1) := by decide +kernel
theorem dX14_init_87 : decode cX14_init 87 = .ok (.bipush 16, 2) := by decide +kernel
theorem dX14_init_89 : decode cX14_init 89 = .ok (.newarray .long, 2) := by decide +kernel
theorem dX14_init_91 : decode cX14_init 91 = .ok (.putfield 41, 3) := by decide +kernel
theorem dX14_init_94 : decode cX14_init 94 = .ok (.aload_n 0, 1) := by decide +kernel
theorem dX14_init_95 : decode cX14_init 95 = .ok (.bipush 16, 2) := by decide +kernel
theorem dX14_init_97 : decode cX14_init 97 = .ok (.newarray .long, 2) := by decide +kernel
theorem dX14_init_99 : decode cX14_init 99 = .ok (.putfield 44, 3) := by decide +kernel
theorem dX14_init_102 : decode cX14_init 102 = .ok (.aload_n 0, 1) := by decide +kernel
theorem dX14_init_103 : decode cX14_init 103 = .ok (.bipush 16, 2) := by decide +kernel
theorem dX14_init_105 : decode cX14_init 105 = .ok (.newarray .long, 2) := by decide +kernel
theorem dX14_init_107 : decode cX14_init 107 = .ok (.putfield 47, 3) := by decide +kernel
theorem dX14_init_110 : decode cX14_init 110 = .ok (.aload_n 0, 1) := by decide +kernel
theorem dX14_init_111 : decode cX14_init 111 = .ok (.bipush 16, 2) := by decide +kernel
theorem dX14_init_113 : decode cX14_init 113 = .ok (.newarray .long, 2) := by decide +kernel
theorem dX14_init_115 : decode cX14_init 115 = .ok (.putfield 50, 3) := by decide +kernel
theorem dX14_init_118 : decode cX14_init 118 = .ok (.aload_n 0, 1) := by decide +kernel
theorem dX14_init_119 : decode cX14_init 119 = .ok (.bipush 16, 2) := by decide +kernel
theorem dX14_init_121 : decode cX14_init 121 = .ok (.newarray .long, 2) := by decide +kernel
theorem dX14_init_123 : decode cX14_init 123 = .ok (.putfield 53, 3) := by decide +kernel
theorem dX14_init_126 : decode cX14_init 126 = .ok (.aload_n 0, 1) := by decide +kernel
theorem dX14_init_127 : decode cX14_init 127 = .ok (.bipush 16, 2) := by decide +kernel
theorem dX14_init_129 : decode cX14_init 129 = .ok (.newarray .long, 2) := by decide +kernel
theorem dX14_init_131 : decode cX14_init 131 = .ok (.putfield 56, 3) := by decide +kernel
theorem dX14_init_134 : decode cX14_init 134 = .ok (.aload_n 0, 1) := by decide +kernel
theorem dX14_init_135 : decode cX14_init 135 = .ok (.bipush 16, 2) := by decide +kernel
theorem dX14_init_137 : decode cX14_init 137 = .ok (.newarray .long, 2) := by decide +kernel
theorem dX14_init_139 : decode cX14_init 139 = .ok (.putfield 59, 3) := by decide +kernel
theorem dX14_init_142 : decode cX14_init 142 = .ok (.aload_n 0, 1) := by decide +kernel
theorem dX14_init_143 : decode cX14_init 143 = .ok (.bipush 16, 2) := by decide +kernel
theorem dX14_init_145 : decode cX14_init 145 = .ok (.newarray .long, 2) := by decide +kernel
theorem dX14_init_147 : decode cX14_init 147 = .ok (.putfield 62, 3) := by decide +kernel
theorem dX14_init_150 : decode cX14_init 150 = .ok (.aload_n 0, 1) := by decide +kernel
theorem dX14_init_151 : decode cX14_init 151 = .ok (.bipush 16, 2) := by decide +kernel
theorem dX14_init_153 : decode cX14_init 153 = .ok (.newarray .long, 2) := by decide +kernel
theorem dX14_init_155 : decode cX14_init 155 = .ok (.putfield 65, 3) := by decide +kernel
theorem dX14_init_158 : decode cX14_init 158 = .ok (.aload_n 0, 1) := by decide +kernel
theorem dX14_init_159 : decode cX14_init 159 = .ok (.bipush 16, 2) := by decide +kernel
theorem dX14_init_161 : decode cX14_init 161 = .ok (.newarray .long, 2) := by decide +kernel
theorem dX14_init_163 : decode cX14_init 163 = .ok (.putfield 68, 3) := by decide +kernel
theorem dX14_init_166 : decode cX14_init 166 = .ok (.aload_n 0, 1) := by decide +kernel
theorem dX14_init_167 : decode cX14_init 167 = .ok (.bipush 16, 2) := by decide +kernel
theorem dX14_init_169 : decode cX14_init 169 = .ok (.newarray .long, 2) := by decide +kernel
theorem dX14_init_171 : decode cX14_init 171 = .ok (.putfield 71, 3) := by decide +kernel
theorem dX14_init_174 : decode cX14_init 174 = .ok (.aload_n 0, 1) := by decide +kernel
theorem dX14_init_175 : decode cX14_init 175 = .ok (.bipush 16, 2) := by decide +kernel
theorem dX14_init_177 : decode cX14_init 177 = .ok (.newarray .long, 2) := by decide +kernel
theorem dX14_init_179 : decode cX14_init 179 = .ok (.putfield 74, 3) := by decide +kernel
theorem dX14_init_182 : decode cX14_init 182 = .ok (.aload_n 0, 1) := by decide +kernel
theorem dX14_init_183 : decode cX14_init 183 = .ok (.bipush 16, 2) := by decide +kernel
theorem dX14_init_185 : decode cX14_init 185 = .ok (.newarray .long, 2) := by decide +kernel
theorem dX14_init_187 : decode cX14_init 187 = .ok (.putfield 77, 3) := by decide +kernel
theorem dX14_init_190 : decode cX14_init 190 = .ok (.aload_n 0, 1) := by decide +kernel
theorem dX14_init_191 : decode cX14_init 191 = .ok (.bipush 16, 2) := by decide +kernel
theorem dX14_init_193 : decode cX14_init 193 = .ok (.newarray .long, 2) := by decide +kernel
theorem dX14_init_195 : decode cX14_init 195 = .ok (.putfield 80, 3) := by decide +kernel
theorem dX14_init_198 : decode cX14_init 198 = .ok (.aload_n 0, 1) := by decide +kernel
theorem dX14_init_199 : decode cX14_init 199 = .ok (.bipush 16, 2) := by decide +kernel
theorem dX14_init_201 : decode cX14_init 201 = .ok (.newarray .long, 2) := by decide +kernel
theorem dX14_init_203 : decode cX14_init 203 = .ok (.putfield 83, 3) := by decide +kernel
theorem dX14_init_206 : decode cX14_init 206 = .ok (.aload_n 0, 1) := by decide +kernel
theorem dX14_init_207 : decode cX14_init 207 = .ok (.bipush 16, 2) := by decide +kernel
theorem dX14_init_209 : decode cX14_init 209 = .ok (.newarray .long, 2) := by decide +kernel
theorem dX14_init_211 : decode cX14_init 211 = .ok (.putfield 86, 3) := by decide +kernel
theorem dX14_init_214 : decode cX14_init 214 = .ok (.aload_n 0, 1) := by decide +kernel
theorem dX14_init_215 : decode cX14_init 215 = .ok (.bipush 16, 2) := by decide +kernel
theorem dX14_init_217 : decode cX14_init 217 = .ok (.newarray .long, 2) := by decide +kernel
theorem dX14_init_219 : decode cX14_init 219 = .ok (.putfield 89, 3) := by decide +kernel
theorem dX14_init_222 : decode cX14_init 222 = .ok (.aload_n 0, 1) := by decide +kernel
theorem dX14_init_223 : decode cX14_init 223 = .ok (.bipush 16, 2) := by decide +kernel
theorem dX14_init_225 : decode cX14_init 225 = .ok (.newarray .long, 2) := by decide +kernel
theorem dX14_init_227 : decode cX14_init 227 = .ok (.putfield 92, 3) := by decide +kernel
theorem dX14_init_230 : decode cX14_init 230 = .ok (.aload_n 0, 1) := by decide +kernel
theorem dX14_init_231 : decode cX14_init 231 = .ok (.bipush 16, 2) := by decide +kernel
theorem dX14_init_233 : decode cX14_init 233 = .ok (.newarray .long, 2) := by decide +kernel
theorem dX14_init_235 : decode cX14_init 235 = .ok (.putfield 95, 3) := by decide +kernel
theorem dX14_init_238 : decode cX14_init 238 = .ok (.aload_n 0, 1) := by decide +kernel
theorem dX14_init_239 : decode cX14_init 239 = .ok (.bipush 16, 2) := by decide +kernel
theorem dX14_init_241 : decode cX14_init 241 = .ok (.newarray .long, 2) := by decide +kernel
theorem dX14_init_243 : decode cX14_init 243 = .ok (.putfield 98, 3) := by decide +kernel
theorem dX14_init_246 : decode cX14_init 246 = .ok (.aload_n 0, 1) := by decide +kernel
theorem dX14_init_247 : decode cX14_init 247 = .ok (.bipush 32, 2) := by decide +kernel
theorem dX14_init_249 : decode cX14_init 249 = .ok (.newarray .byte, 2) := by decide +kernel
theorem dX14_init_251 : decode cX14_init 251 = .ok (.putfield 101, 3) := by decide +kernel
theorem dX14_init_254 : decode cX14_init 254 = .ok (.aload_n 0, 1) := by decide +kernel
theorem dX14_init_255 : decode cX14_init 255 = .ok (.bipush 32, 2) := by decide +kernel
theorem dX14_init_257 : decode cX14_init 257 = .ok (.newarray .byte, 2) := by decide +kernel
theorem dX14_init_259 : decode cX14_init 259 = .ok (.putfield 104, 3) := by decide +kernel
theorem dX14_init_262 : decode cX14_init 262 = .ok (.aload_n 0, 1) := by decide +kernel
theorem dX14_init_263 : decode cX14_init 263 = .ok (.bipush 32, 2) := by decide +kernel
theorem dX14_init_265 : decode cX14_init 265 = .ok (.newarray .byte, 2) := by decide +kernel
theorem dX14_init_267 : decode cX14_init 267 = .ok (.putfield 107, 3) := by decide +kernel
theorem dX14_init_270 : decode cX14_init 270 = .ok (.aload_n 0, 1) := by decide +kernel
theorem dX14_init_271 : decode cX14_init 271 = .ok (.sipush 512, 3) := by decide +kernel
theorem dX14_init_274 : decode cX14_init 274 = .ok (.newarray .byte, 2) := by decide +kernel
theorem dX14_init_276 : decode cX14_init 276 = .ok (.putfield 110, 3) := by decide +kernel
theorem dX14_init_279 : decode cX14_init 279 = .ok (.aload_n 0, 1) := by decide +kernel
theorem dX14_init_280 : decode cX14_init 280 = .ok (.bipush 8, 2) := by decide +kernel
theorem dX14_init_282 : decode cX14_init 282 = .ok (.newarray .int, 2) := by decide +kernel
theorem dX14_init_284 : decode cX14_init 284 = .ok (.dup, 1) := by decide +kernel
theorem dX14_init_285 : decode cX14_init 285 = .ok (.iconst 0, 1) := by decide +kernel
theorem dX14_init_286 : decode cX14_init 286 = .ok (.ldc 113, 2) := by decide +kernel
theorem dX14_init_288 : decode cX14_init 288 = .ok (.iastore, 1) := by decide +kernel
theorem dX14_init_289 : decode cX14_init 289 = .ok (.dup, 1) := by decide +kernel
theorem dX14_init_290 : decode cX14_init 290 = .ok (.iconst 1, 1) := by decide +kernel
theorem dX14_init_291 : decode cX14_init 291 = .ok (.sipush 23797, 3) := by decide +kernel
theorem dX14_init_294 : decode cX14_init 294 = .ok (.iastore, 1) := by decide +kernel
theorem dX14_init_295 : decode cX14_init 295 = .ok (.dup, 1) := by decide +kernel
theorem dX14_init_296 : decode cX14_init 296 = .ok (.iconst 2, 1) := by decide +kernel
theorem dX14_init_297 : decode cX14_init 297 = .ok (.sipush 25370, 3) := by decide +kernel
theorem dX14_init_300 : decode cX14_init 300 = .ok (.iastore, 1) := by decide +kernel
theorem dX14_init_301 : decode cX14_init 301 = .ok (.dup, 1) := by decide +kernel
theorem dX14_init_302 : decode cX14_init 302 = .ok (.iconst 3, 1) := by decide +kernel
theorem dX14_init_303 : decode cX14_init 303 = .ok (.sipush 22546, 3) := by decide +kernel
theorem dX14_init_306 : decode cX14_init 306 = .ok (.iastore, 1) := by decide +kernel
theorem dX14_init_307 : decode cX14_init 307 = .ok (.dup, 1) := by decide +kernel
theorem dX14_init_308 : decode cX14_init 308 = .ok (.iconst 4, 1) := by decide +kernel
theorem dX14_init_309 : decode cX14_init 309 = .ok (.ldc 114, 2) := by decide +kernel
theorem dX14_init_311 : decode cX14_init 311 = .ok (.iastore, 1) := by decide +kernel
theorem dX14_init_312 : decode cX14_init 312 = .ok (.dup, 1) := by decide +kernel
theorem dX14_init_313 : decode cX14_init 313 = .ok (.iconst 5, 1) := by decide +kernel
theorem dX14_init_314 : decode cX14_init 314 = .ok (.ldc 115, 2) := by decide +kernel
theorem dX14_init_316 : decode cX14_init 316 = .ok (.iastore, 1) := by decide +kernel
theorem dX14_init_317 : decode cX14_init 317 = .ok (.dup, 1) := by decide +kernel
theorem dX14_init_318 : decode cX14_init 318 = .ok (.bipush 6, 2) := by decide +kernel
theorem dX14_init_320 : decode cX14_init 320 = .ok (.ldc 116, 2) := by decide +kernel
theorem dX14_init_322 : decode cX14_init 322 = .ok (.iastore, 1) := by decide +kernel
theorem dX14_init_323 : decode cX14_init 323 = .ok (.dup, 1) := by decide +kernel
theorem dX14_init_324 : decode cX14_init 324 = .ok (.bipush 7, 2) := by decide +kernel
theorem dX14_init_326 : decode cX14_init 326 = .ok (.sipush 5342, 3) := by decide +kernel
theorem dX14_init_329 : decode cX14_init 329 = .ok (.iastore, 1) := by decide +kernel
theorem dX14_init_330 : decode cX14_init 330 = .ok (.putfield 117, 3) := by decide +kernel
theorem dX14_init_333 : decode cX14_init 333 = .ok (.aload_n 0, 1) := by decide +kernel
theorem dX14_init_334 : decode cX14_init 334 = .ok (.aload_n 1, 1) := by decide +kernel
theorem dX14_init_335 : decode cX14_init 335 = .ok (.putfield 121, 3) := by decide +kernel
theorem dX14_init_338 : decode cX14_init 338 = .ok (.iconst 0, 1) := by decide +kernel
theorem dX14_init_339 : decode cX14_init 339 = .ok (.istore_n 2, 1) := by decide +kernel
theorem dX14_init_340 : decode cX14_init 340 = .ok (.iload_n 2, 1) := by decide +kernel
theorem dX14_init_341 : decode cX14_init 341 = .ok (.bipush 16, 2) := by decide +kernel
theorem dX14_init_343 : decode cX14_init 343 = .ok (.if_icmp .ge 40, 3) := by decide +kernel
theorem dX14_init_346 : decode cX14_init 346 = .ok (.aload_n 0, 1) := by decide +kernel
theorem dX14_init_347 : decode cX14_init 347 = .ok (.getfield 13, 3) := by decide +kernel
theorem dX14_init_350 : decode cX14_init 350 = .ok (.iload_n 2, 1) := by decide +kernel
theorem dX14_init_351 : decode cX14_init 351 = .ok (.iload_n 2, 1) := by decide +kernel
theorem dX14_init_352 : decode cX14_init 352 = .ok (.ifCond .ne 9, 3) := by decide +kernel
theorem dX14_init_355 : decode cX14_init 355 = .ok (.ldc2_w 125, 3) := by decide +kernel
theorem dX14_init_358 : decode cX14_init 358 = .ok (.goto 18, 3) := by decide +kernel
theorem dX14_init_361 : decode cX14_init 361 = .ok (.iload_n 2, 1) := by decide +kernel
theorem dX14_init_362 : decode cX14_init 362 = .ok (.bipush 15, 2) := by decide +kernel
theorem dX14_init_364 : decode cX14_init 364 = .ok (.if_icmp .ne 9, 3) := by decide +kernel
theorem dX14_init_367 : decode cX14_init 367 = .ok (.ldc2_w 127, 3) := by decide +kernel
theorem dX14_init_370 : decode cX14_init 370 = .ok (.goto 6, 3) := by decide +kernel
theorem dX14_init_373 : decode cX14_init 373 = .ok (.ldc2_w 129, 3) := by decide +kernel
theorem dX14_init_376 : decode cX14_init 376 = .ok (.lastore, 1) := by decide +kernel
theorem dX14_init_377 : decode cX14_init 377 = .ok (.iinc 2 1, 3) := by decide +kernel
theorem dX14_init_380 : decode cX14_init 380 = .ok (.goto (-40), 3) := by decide +kernel
theorem dX14_init_383 : decode cX14_init 383 = .ok (.aload_n 0, 1) := by decide +kernel
theorem dX14_init_384 : decode cX14_init 384 = .ok (.getfield 17, 3) := by decide +kernel
theorem dX14_init_387 : decode cX14_init 387 = .ok (.aload_n 0, 1) := by decide +kernel
theorem dX14_init_388 : decode cX14_init 388 = .ok (.getfield 13, 3) := by decide +kernel
theorem dX14_init_391 : decode cX14_init 391 = .ok (.aload_n 0, 1) := by decide +kernel
theorem dX14_init_392 : decode cX14_init 392 = .ok (.getfield 56, 3) := by decide +kernel
theorem dX14_init_395 : decode cX14_init 395 = .ok (.invokestatic 131, 3) := by decide +kernel
theorem dX14_init_398 : decode cX14_init 398 = .ok (.iconst 0, 1) := by decide +kernel
theorem dX14_init_399 : decode cX14_init 399 = .ok (.istore_n 2, 1) := by decide +kernel
theorem dX14_init_400 : decode cX14_init 400 = .ok (.iload_n 2, 1) := by decide +kernel
theorem dX14_init_401 : decode cX14_init 401 = .ok (.bipush 16, 2) := by decide +kernel
theorem dX14_init_403 : decode cX14_init 403 = .ok (.if_icmp .ge 44, 3) := by decide +kernel
theorem dX14_init_406 : decode cX14_init 406 = .ok (.aload_n 0, 1) := by decide +kernel
theorem dX14_init_407 : decode cX14_init 407 = .ok (.getfield 20, 3) := by decide +kernel
theorem dX14_init_410 : decode cX14_init 410 = .ok (.iload_n 2, 1) := by decide +kernel
theorem dX14_init_411 : decode cX14_init 411 = .ok (.iload_n 2, 1) := by decide +kernel
theorem dX14_init_412 : decode cX14_init 412 = .ok (.bipush 8, 2) := by decide +kernel
theorem dX14_init_414 : decode cX14_init 414 = .ok (.if_icmp .ge 13, 3) := by decide +kernel
theorem dX14_init_417 : decode cX14_init 417 = .ok (.aload_n 0, 1) := by decide +kernel
theorem dX14_init_418 : decode cX14_init 418 = .ok (.getfield 117, 3) := by decide +kernel
theorem dX14_init_421 : decode cX14_init 421 = .ok (.iload_n 2, 1) := by decide +kernel
theorem dX14_init_422 : decode cX14_init 422 = .ok (.iaload, 1) := by decide +kernel
theorem dX14_init_423 : decode cX14_init 423 = .ok (.i2l, 1) := by decide +kernel
theorem dX14_init_424 : decode cX14_init 424 = .ok (.goto 16, 3) := by decide +kernel
theorem dX14_init_427 : decode cX14_init 427 = .ok (.iload_n 2, 1) := by decide +kernel
theorem dX14_init_428 : decode cX14_init 428 = .ok (.bipush 15, 2) := by decide +kernel
theorem dX14_init_430 : decode cX14_init 430 = .ok (.if_icmp .ne 9, 3) := by decide +kernel
theorem dX14_init_433 : decode cX14_init 433 = .ok (.ldc2_w 135, 3) := by decide +kernel
theorem dX14_init_436 : decode cX14_init 436 = .ok (.goto 4, 3) := by decide +kernel
theorem dX14_init_439 : decode cX14_init 439 = .ok (.lconst 0, 1) := by decide +kernel
theorem dX14_init_440 : decode cX14_init 440 = .ok (.lastore, 1) := by decide +kernel
theorem dX14_init_441 : decode cX14_init 441 = .ok (.iinc 2 1, 3) := by decide +kernel
theorem dX14_init_444 : decode cX14_init 444 = .ok (.goto (-44), 3) := by decide +kernel
theorem dX14_init_447 : decode cX14_init 447 = .ok (.aload_n 0, 1) := by decide +kernel
theorem dX14_init_448 : decode cX14_init 448 = .ok (.getfield 23, 3) := by decide +kernel
theorem dX14_init_451 : decode cX14_init 451 = .ok (.aload_n 0, 1) := by decide +kernel
theorem dX14_init_452 : decode cX14_init 452 = .ok (.getfield 20, 3) := by decide +kernel
theorem dX14_init_455 : decode cX14_init 455 = .ok (.aload_n 0, 1) := by decide +kernel
theorem dX14_init_456 : decode cX14_init 456 = .ok (.getfield 56, 3) := by decide +kernel
theorem dX14_init_459 : decode cX14_init 459 = .ok (.invokestatic 131, 3) := by decide +kernel
theorem dX14_init_462 : decode cX14_init 462 = .ok (.aload_n 0, 1) := by decide +kernel
theorem dX14_init_463 : decode cX14_init 463 = .ok (.getfield 86, 3) := by decide +kernel
theorem dX14_init_466 : decode cX14_init 466 = .ok (.iconst 1, 1) := by decide +kernel
theorem dX14_init_467 : decode cX14_init 467 = .ok (.invokestatic 137, 3) := by decide +kernel
theorem dX14_init_470 : decode cX14_init 470 = .ok (.aload_n 0, 1) := by decide +kernel
theorem dX14_init_471 : decode cX14_init 471 = .ok (.getfield 56, 3) := by decide +kernel
theorem dX14_init_474 : decode cX14_init 474 = .ok (.iconst 0, 1) := by decide +kernel
theorem dX14_init_475 : decode cX14_init 475 = .ok (.invokestatic 137, 3) := by decide +kernel
theorem dX14_init_478 : decode cX14_init 478 = .ok (.aload_n 0, 1) := by decide +kernel
theorem dX14_init_479 : decode cX14_init 479 = .ok (.getfield 59, 3) := by decide +kernel
theorem dX14_init_482 : decode cX14_init 482 = .ok (.iconst 0, 1) := by decide +kernel
theorem dX14_init_483 : decode cX14_init 483 = .ok (.invokestatic 137, 3) := by decide +kernel
theorem dX14_init_486 : decode cX14_init 486 = .ok (.aload_n 0, 1) := by decide +kernel
theorem dX14_init_487 : decode cX14_init 487 = .ok (.getfield 56, 3) := by decide +kernel
theorem dX14_init_490 : decode cX14_init 490 = .ok (.iconst 0, 1) := by decide +kernel
theorem dX14_init_491 : decode cX14_init 491 = .ok (.ldc2_w 141, 3) := by decide +kernel
theorem dX14_init_494 : decode cX14_init 494 = .ok (.lastore, 1) := by decide +kernel
theorem dX14_init_495 : decode cX14_init 495 = .ok (.aload_n 0, 1) := by decide +kernel
theorem dX14_init_496 : decode cX14_init 496 = .ok (.getfield 56, 3) := by decide +kernel
theorem dX14_init_499 : decode cX14_init 499 = .ok (.iconst 1, 1) := by decide +kernel
theorem dX14_init_500 : decode cX14_init 500 = .ok (.lconst 1, 1) := by decide +kernel
theorem dX14_init_501 : decode cX14_init 501 = .ok (.lastore, 1) := by decide +kernel
theorem dX14_init_502 : decode cX14_init 502 = .ok (.aload_n 0, 1) := by decide +kernel
theorem dX14_init_503 : decode cX14_init 503 = .ok (.getfield 59, 3) := by decide +kernel
theorem dX14_init_506 : decode cX14_init 506 = .ok (.iconst 0, 1) := by decide +kernel
theorem dX14_init_507 : decode cX14_init 507 = .ok (.ldc2_w 143, 3) := by decide +kernel
theorem dX14_init_510 : decode cX14_init 510 = .ok (.lastore, 1) := by decide +kernel
theorem dX14_init_511 : decode cX14_init 511 = .ok (.aload_n 0, 1) := by decide +kernel
theorem dX14_init_512 : decode cX14_init 512 = .ok (.getfield 59, 3) := by decide +kernel
theorem dX14_init_515 : decode cX14_init 515 = .ok (.iconst 1, 1) := by decide +kernel
theorem dX14_init_516 : decode cX14_init 516 = .ok (.lconst 1, 1) := by decide +kernel
theorem dX14_init_517 : decode cX14_init 517 = .ok (.lastore, 1) := by decide +kernel
theorem dX14_init_518 : decode cX14_init 518 = .ok (.aload_n 0, 1) := by decide +kernel
theorem dX14_init_519 : decode cX14_init 519 = .ok (.aload_n 0, 1) := by decide +kernel
theorem dX14_init_520 : decode cX14_init 520 = .ok (.getfield 62, 3) := by decide +kernel
theorem dX14_init_523 : decode cX14_init 523 = .ok (.aload_n 0, 1) := by decide +kernel
theorem dX14_init_524 : decode cX14_init 524 = .ok (.getfield 59, 3) := by decide +kernel
theorem dX14_init_527 : decode cX14_init 527 = .ok (.aload_n 0, 1) := by decide +kernel
theorem dX14_init_528 : decode cX14_init 528 = .ok (.getfield 13, 3) := by decide +kernel
theorem dX14_init_531 : decode cX14_init 531 = .ok (.invokevirtual 145, 3) := by decide +kernel
theorem dX14_init_534 : decode cX14_init 534 = .ok (.aload_n 0, 1) := by decide +kernel
theorem dX14_init_535 : decode cX14_init 535 = .ok (.aload_n 0, 1) := by decide +kernel
theorem dX14_init_536 : decode cX14_init 536 = .ok (.getfield 26, 3) := by decide +kernel
theorem dX14_init_539 : decode cX14_init 539 = .ok (.aload_n 0, 1) := by decide +kernel
theorem dX14_init_540 : decode cX14_init 540 = .ok (.getfield 56, 3) := by decide +kernel
theorem dX14_init_543 : decode cX14_init 543 = .ok (.aload_n 0, 1) := by decide +kernel
theorem dX14_init_544 : decode cX14_init 544 = .ok (.getfield 62, 3) := by decide +kernel
theorem dX14_init_547 : decode cX14_init 547 = .ok (.aload_n 0, 1) := by decide +kernel
theorem dX14_init_548 : decode cX14_init 548 = .ok (.getfield 13, 3) := by decide +kernel
theorem dX14_init_551 : decode cX14_init 551 = .ok (.aload_n 0, 1) := by decide +kernel
theorem dX14_init_552 : decode cX14_init 552 = .ok (.getfield 17, 3) := by decide +kernel
theorem dX14_init_555 : decode cX14_init 555 = .ok (.invokevirtual 148, 3) := by decide +kernel
theorem dX14_init_558 : decode cX14_init 558 = .ok (.aload_n 0, 1) := by decide +kernel
theorem dX14_init_559 : decode cX14_init 559 = .ok (.getfield 59, 3) := by decide +kernel
theorem dX14_init_562 : decode cX14_init 562 = .ok (.iconst 0, 1) := by decide +kernel
theorem dX14_init_563 : decode cX14_init 563 = .ok (.invokestatic 137, 3) := by decide +kernel
theorem dX14_init_566 : decode cX14_init 566 = .ok (.aload_n 0, 1) := by decide +kernel
theorem dX14_init_567 : decode cX14_init 567 = .ok (.getfield 26, 3) := by decide +kernel
theorem dX14_init_570 : decode cX14_init 570 = .ok (.aload_n 0, 1) := by decide +kernel
theorem dX14_init_571 : decode cX14_init 571 = .ok (.getfield 59, 3) := by decide +kernel
theorem dX14_init_574 : decode cX14_init 574 = .ok (.aload_n 0, 1) := by decide +kernel
theorem dX14_init_575 : decode cX14_init 575 = .ok (.getfield 26, 3) := by decide +kernel
theorem dX14_init_578 : decode cX14_init 578 = .ok (.aload_n 0, 1) := by decide +kernel
theorem dX14_init_579 : decode cX14_init 579 = .ok (.getfield 13, 3) := by decide +kernel
theorem dX14_init_582 : decode cX14_init 582 = .ok (.invokestatic 152, 3) := by decide +kernel
theorem dX14_init_585 : decode cX14_init 585 = .ok (.aload_n 0, 1) := by decide +kernel
theorem dX14_init_586 : decode cX14_init 586 = .ok (.getfield 56, 3) := by decide +kernel
theorem dX14_init_589 : decode cX14_init 589 = .ok (.iconst 2, 1) := by decide +kernel
theorem dX14_init_590 : decode cX14_init 590 = .ok (.invokestatic 137, 3) := by decide +kernel
theorem dX14_init_593 : decode cX14_init 593 = .ok (.iconst 0, 1) := by decide +kernel
theorem dX14_init_594 : decode cX14_init 594 = .ok (.istore_n 2, 1) := by decide +kernel
theorem dX14_init_595 : decode cX14_init 595 = .ok (.iload_n 2, 1) := by decide +kernel
theorem dX14_init_596 : decode cX14_init 596 = .ok (.bipush 16, 2) := by decide +kernel
theorem dX14_init_598 : decode cX14_init 598 = .ok (.if_icmp .ge 40, 3) := by decide +kernel
theorem dX14_init_601 : decode cX14_init 601 = .ok (.aload_n 0, 1) := by decide +kernel
theorem dX14_init_602 : decode cX14_init 602 = .ok (.getfield 65, 3) := by decide +kernel
theorem dX14_init_605 : decode cX14_init 605 = .ok (.iload_n 2, 1) := by decide +kernel
theorem dX14_init_606 : decode cX14_init 606 = .ok (.iload_n 2, 1) := by decide +kernel
theorem dX14_init_607 : decode cX14_init 607 = .ok (.ifCond .ne 9, 3) := by decide +kernel
theorem dX14_init_610 : decode cX14_init 610 = .ok (.ldc2_w 156, 3) := by decide +kernel
theorem dX14_init_613 : decode cX14_init 613 = .ok (.goto 18, 3) := by decide +kernel
theorem dX14_init_616 : decode cX14_init 616 = .ok (.iload_n 2, 1) := by decide +kernel
theorem dX14_init_617 : decode cX14_init 617 = .ok (.bipush 15, 2) := by decide +kernel
theorem dX14_init_619 : decode cX14_init 619 = .ok (.if_icmp .ne 9, 3) := by decide +kernel
theorem dX14_init_622 : decode cX14_init 622 = .ok (.ldc2_w 158, 3) := by decide +kernel
theorem dX14_init_625 : decode cX14_init 625 = .ok (.goto 6, 3) := by decide +kernel
theorem dX14_init_628 : decode cX14_init 628 = .ok (.ldc2_w 129, 3) := by decide +kernel
theorem dX14_init_631 : decode cX14_init 631 = .ok (.lastore, 1) := by decide +kernel
theorem dX14_init_632 : decode cX14_init 632 = .ok (.iinc 2 1, 3) := by decide +kernel
theorem dX14_init_635 : decode cX14_init 635 = .ok (.goto (-40), 3) := by decide +kernel
theorem dX14_init_638 : decode cX14_init 638 = .ok (.aload_n 0, 1) := by decide +kernel
theorem dX14_init_639 : decode cX14_init 639 = .ok (.aload_n 0, 1) := by decide +kernel
theorem dX14_init_640 : decode cX14_init 640 = .ok (.getfield 29, 3) := by decide +kernel
theorem dX14_init_643 : decode cX14_init 643 = .ok (.aload_n 0, 1) := by decide +kernel
theorem dX14_init_644 : decode cX14_init 644 = .ok (.getfield 56, 3) := by decide +kernel
theorem dX14_init_647 : decode cX14_init 647 = .ok (.aload_n 0, 1) := by decide +kernel
theorem dX14_init_648 : decode cX14_init 648 = .ok (.getfield 65, 3) := by decide +kernel
theorem dX14_init_651 : decode cX14_init 651 = .ok (.invokevirtual 160, 3) := by decide +kernel
theorem dX14_init_654 : decode cX14_init 654 = .ok (.aload_n 0, 1) := by decide +kernel
theorem dX14_init_655 : decode cX14_init 655 = .ok (.getfield 56, 3) := by decide +kernel
theorem dX14_init_658 : decode cX14_init 658 = .ok (.iconst 5, 1) := by decide +kernel
theorem dX14_init_659 : decode cX14_init 659 = .ok (.invokestatic 137, 3) := by decide +kernel
theorem dX14_init_662 : decode cX14_init 662 = .ok (.aload_n 0, 1) := by decide +kernel
theorem dX14_init_663 : decode cX14_init 663 = .ok (.aload_n 0, 1) := by decide +kernel
theorem dX14_init_664 : decode cX14_init 664 = .ok (.getfield 62, 3) := by decide +kernel
theorem dX14_init_667 : decode cX14_init 667 = .ok (.aload_n 0, 1) := by decide +kernel
theorem dX14_init_668 : decode cX14_init 668 = .ok (.getfield 56, 3) := by decide +kernel
theorem dX14_init_671 : decode cX14_init 671 = .ok (.aload_n 0, 1) := by decide +kernel
theorem dX14_init_672 : decode cX14_init 672 = .ok (.getfield 13, 3) := by decide +kernel
theorem dX14_init_675 : decode cX14_init 675 = .ok (.invokevirtual 145, 3) := by decide +kernel
theorem dX14_init_678 : decode cX14_init 678 = .ok (.aload_n 0, 1) := by decide +kernel
theorem dX14_init_679 : decode cX14_init 679 = .ok (.getfield 56, 3) := by decide +kernel
theorem dX14_init_682 : decode cX14_init 682 = .ok (.iconst 4, 1) := by decide +kernel
theorem dX14_init_683 : decode cX14_init 683 = .ok (.invokestatic 137, 3) := by decide +kernel
theorem dX14_init_686 : decode cX14_init 686 = .ok (.aload_n 0, 1) := by decide +kernel
theorem dX14_init_687 : decode cX14_init 687 = .ok (.aload_n 0, 1) := by decide +kernel
theorem dX14_init_688 : decode cX14_init 688 = .ok (.getfield 35, 3) := by decide +kernel
theorem dX14_init_691 : decode cX14_init 691 = .ok (.aload_n 0, 1) := by decide +kernel
theorem dX14_init_692 : decode cX14_init 692 = .ok (.getfield 56, 3) := by decide +kernel
theorem dX14_init_695 : decode cX14_init 695 = .ok (.aload_n 0, 1) := by decide +kernel
theorem dX14_init_696 : decode cX14_init 696 = .ok (.getfield 62, 3) := by decide +kernel
theorem dX14_init_699 : decode cX14_init 699 = .ok (.aload_n 0, 1) := by decide +kernel
theorem dX14_init_700 : decode cX14_init 700 = .ok (.getfield 13, 3) := by decide +kernel
theorem dX14_init_703 : decode cX14_init 703 = .ok (.aload_n 0, 1) := by decide +kernel
theorem dX14_init_704 : decode cX14_init 704 = .ok (.getfield 17, 3) := by decide +kernel
theorem dX14_init_707 : decode cX14_init 707 = .ok (.invokevirtual 148, 3) := by decide +kernel
theorem dX14_init_710 : decode cX14_init 710 = .ok (.iconst 0, 1) := by decide +kernel
theorem dX14_init_711 : decode cX14_init 711 = .ok (.istore_n 2, 1) := by decide +kernel
theorem dX14_init_712 : decode cX14_init 712 = .ok (.iload_n 2, 1) := by decide +kernel
theorem dX14_init_713 : decode cX14_init 713 = .ok (.bipush 32, 2) := by decide +kernel
theorem dX14_init_715 : decode cX14_init 715 = .ok (.if_icmp .ge 32, 3) := by decide +kernel
theorem dX14_init_718 : decode cX14_init 718 = .ok (.aload_n 0, 1) := by decide +kernel
theorem dX14_init_719 : decode cX14_init 719 = .ok (.getfield 101, 3) := by decide +kernel
theorem dX14_init_722 : decode cX14_init 722 = .ok (.iload_n 2, 1) := by decide +kernel
theorem dX14_init_723 : decode cX14_init 723 = .ok (.aload_n 0, 1) := by decide +kernel
theorem dX14_init_724 : decode cX14_init 724 = .ok (.getfield 35, 3) := by decide +kernel
theorem dX14_init_727 : decode cX14_init 727 = .ok (.iload_n 2, 1) := by decide +kernel
theorem dX14_init_728 : decode cX14_init 728 = .ok (.iconst 2, 1) := by decide +kernel
theorem dX14_init_729 : decode cX14_init 729 = .ok (.idiv, 1) := by decide +kernel
theorem dX14_init_730 : decode cX14_init 730 = .ok (.laload, 1) := by decide +kernel
theorem dX14_init_731 : decode cX14_init 731 = .ok (.bipush 8, 2) := by decide +kernel
theorem dX14_init_733 : decode cX14_init 733 = .ok (.iload_n 2, 1) := by decide +kernel
theorem dX14_init_734 : decode cX14_init 734 = .ok (.iconst 2, 1) := by decide +kernel
theorem dX14_init_735 : decode cX14_init 735 = .ok (.irem, 1) := by decide +kernel
theorem dX14_init_736 : decode cX14_init 736 = .ok (.imul, 1) := by decide +kernel
theorem dX14_init_737 : decode cX14_init 737 = .ok (.lshr, 1) := by decide +kernel
theorem dX14_init_738 : decode cX14_init 738 = .ok (.l2i, 1) := by decide +kernel
theorem dX14_init_739 : decode cX14_init 739 = .ok (.i2b, 1) := by decide +kernel
theorem dX14_init_740 : decode cX14_init 740 = .ok (.bastore, 1) := by decide +kernel
theorem dX14_init_741 : decode cX14_init 741 = .ok (.iinc 2 1, 3) := by decide +kernel
theorem dX14_init_744 : decode cX14_init 744 = .ok (.goto (-32), 3) := by decide +kernel
theorem dX14_init_747 : decode cX14_init 747 = .ok (.aload_n 0, 1) := by decide +kernel
theorem dX14_init_748 : decode cX14_init 748 = .ok (.invokevirtual 163, 3) := by decide +kernel
theorem dX14_init_751 : decode cX14_init 751 = .ok (.pop, 1) := by decide +kernel
theorem dX14_init_752 : decode cX14_init 752 = .ok (.aload_n 0, 1) := by decide +kernel
theorem dX14_init_753 : decode cX14_init 753 = .ok (.getfield 32, 3) := by decide +kernel
theorem dX14_init_756 : decode cX14_init 756 = .ok (.aload_n 0, 1) := by decide +kernel
theorem dX14_init_757 : decode cX14_init 757 = .ok (.getfield 44, 3) := by decide +kernel
theorem dX14_init_760 : decode cX14_init 760 = .ok (.invokestatic 167, 3) := by decide +kernel
theorem dX14_init_763 : decode cX14_init 763 = .ok (.return_, 1) := by decide +kernel
theorem dX14_power_0 : decode cX14_power 0 = .ok (.aload_n 0, 1) := by decide +kernel
theorem dX14_power_1 : decode cX14_power 1 = .ok (.getfield 68, 3) := by decide +kernel
theorem dX14_power_4 : decode cX14_power 4 = .ok (.iconst 1, 1) := by decide +kernel
theorem dX14_power_5 : decode cX14_power 5 = .ok (.invokestatic 137, 3) := by decide +kernel
theorem dX14_power_8 : decode cX14_power 8 = .ok (.sipush 255, 3) := by decide +kernel
theorem dX14_power_11 : decode cX14_power 11 = .ok (.istore 4, 2) := by decide +kernel
theorem dX14_power_13 : decode cX14_power 13 = .ok (.iload 4, 2) := by decide +kernel
theorem dX14_power_15 : decode cX14_power 15 = .ok (.ifCond .lt 64, 3) := by decide +kernel
theorem dX14_power_18 : decode cX14_power 18 = .ok (.aload_n 0, 1) := by decide +kernel
theorem dX14_power_19 : decode cX14_power 19 = .ok (.aload_n 0, 1) := by decide +kernel
theorem dX14_power_20 : decode cX14_power 20 = .ok (.getfield 68, 3) := by decide +kernel
theorem dX14_power_23 : decode cX14_power 23 = .ok (.aload_n 0, 1) := by decide +kernel
theorem dX14_power_24 : decode cX14_power 24 = .ok (.getfield 68, 3) := by decide +kernel
theorem dX14_power_27 : decode cX14_power 27 = .ok (.aload_n 0, 1) := by decide +kernel
theorem dX14_power_28 : decode cX14_power 28 = .ok (.getfield 68, 3) := by decide +kernel
theorem dX14_power_31 : decode cX14_power 31 = .ok (.aload_n 0, 1) := by decide +kernel
theorem dX14_power_32 : decode cX14_power 32 = .ok (.getfield 13, 3) := by decide +kernel
theorem dX14_power_35 : decode cX14_power 35 = .ok (.aload_n 0, 1) := by decide +kernel
theorem dX14_power_36 : decode cX14_power 36 = .ok (.getfield 17, 3) := by decide +kernel
theorem dX14_power_39 : decode cX14_power 39 = .ok (.invokevirtual 148, 3) := by decide +kernel
theorem dX14_power_42 : decode cX14_power 42 = .ok (.aload_n 3, 1) := by decide +kernel
theorem dX14_power_43 : decode cX14_power 43 = .ok (.iload 4, 2) := by decide +kernel
theorem dX14_power_45 : decode cX14_power 45 = .ok (.invokestatic 171, 3) := by decide +kernel
theorem dX14_power_48 : decode cX14_power 48 = .ok (.iconst 1, 1) := by decide +kernel
theorem dX14_power_49 : decode cX14_power 49 = .ok (.if_icmp .ne 24, 3) := by decide +kernel
theorem dX14_power_52 : decode cX14_power 52 = .ok (.aload_n 0, 1) := by decide +kernel
theorem dX14_power_53 : decode cX14_power 53 = .ok (.aload_n 0, 1) := by decide +kernel
theorem dX14_power_54 : decode cX14_power 54 = .ok (.getfield 68, 3) := by decide +kernel
theorem dX14_power_57 : decode cX14_power 57 = .ok (.aload_n 0, 1) := by decide +kernel
theorem dX14_power_58 : decode cX14_power 58 = .ok (.getfield 68, 3) := by decide +kernel
theorem dX14_power_61 : decode cX14_power 61 = .ok (.aload_n 2, 1) := by decide +kernel
theorem dX14_power_62 : decode cX14_power 62 = .ok (.aload_n 0, 1) := by decide +kernel
theorem dX14_power_63 : decode cX14_power 63 = .ok (.getfield 13, 3) := by decide +kernel
theorem dX14_power_66 : decode cX14_power 66 = .ok (.aload_n 0, 1) := by decide +kernel
theorem dX14_power_67 : decode cX14_power 67 = .ok (.getfield 17, 3) := by decide +kernel
theorem dX14_power_70 : decode cX14_power 70 = .ok (.invokevirtual 148, 3) := by decide +kernel
theorem dX14_power_73 : decode cX14_power 73 = .ok (.iinc 4 (-1), 3) := by decide +kernel
theorem dX14_power_76 : decode cX14_power 76 = .ok (.goto (-63), 3) := by decide +kernel
theorem dX14_power_79 : decode cX14_power 79 = .ok (.aload_n 1, 1) := by decide +kernel
theorem dX14_power_80 : decode cX14_power 80 = .ok (.aload_n 0, 1) := by decide +kernel
theorem dX14_power_81 : decode cX14_power 81 = .ok (.getfield 68, 3) := by decide +kernel
theorem dX14_power_84 : decode cX14_power 84 = .ok (.invokestatic 167, 3) := by decide +kernel
theorem dX14_power_87 : decode cX14_power 87 = .ok (.return_, 1) := by decide +kernel
theorem dX14_decode_0 : decode cX14_decode 0 = .ok (.iconst 0, 1) := by decide +kernel
theorem dX14_decode_1 : decode cX14_decode 1 = .ok (.istore_n 1, 1) := by decide +kernel
theorem dX14_decode_2 : decode cX14_decode 2 = .ok (.iload_n 1, 1) := by decide +kernel
theorem dX14_decode_3 : decode cX14_decode 3 = .ok (.bipush 16, 2) := by decide +kernel
theorem dX14_decode_5 : decode cX14_decode 5 = .ok (.if_icmp .ge 65, 3) := by decide +kernel
theorem dX14_decode_8 : decode cX14_decode 8 = .ok (.aload_n 0, 1) := by decide +kernel
theorem dX14_decode_9 : decode cX14_decode 9 = .ok (.getfield 47, 3) := by decide +kernel
theorem dX14_decode_12 : decode cX14_decode 12 = .ok (.iload_n 1, 1) := by decide +kernel
theorem dX14_decode_13 : decode cX14_decode 13 = .ok (.aload_n 0, 1) := by decide +kernel
theorem dX14_decode_14 : decode cX14_decode 14 = .ok (.getfield 101, 3) := by decide +kernel
theorem dX14_decode_17 : decode cX14_decode 17 = .ok (.iconst 2, 1) := by decide +kernel
theorem dX14_decode_18 : decode cX14_decode 18 = .ok (.iload_n 1, 1) := by decide +kernel
theorem dX14_decode_19 : decode cX14_decode 19 = .ok (.imul, 1) := by decide +kernel
theorem dX14_decode_20 : decode cX14_decode 20 = .ok (.baload, 1) := by decide +kernel
theorem dX14_decode_21 : decode cX14_decode 21 = .ok (.sipush 255, 3) := by decide +kernel
theorem dX14_decode_24 : decode cX14_decode 24 = .ok (.iand, 1) := by decide +kernel
theorem dX14_decode_25 : decode cX14_decode 25 = .ok (.iload_n 1, 1) := by decide +kernel
theorem dX14_decode_26 : decode cX14_decode 26 = .ok (.bipush 15, 2) := by decide +kernel
theorem dX14_decode_28 : decode cX14_decode 28 = .ok (.if_icmp .ne 16, 3) := by decide +kernel
theorem dX14_decode_31 : decode cX14_decode 31 = .ok (.aload_n 0, 1) := by decide +kernel
theorem dX14_decode_32 : decode cX14_decode 32 = .ok (.getfield 101, 3) := by decide +kernel
theorem dX14_decode_35 : decode cX14_decode 35 = .ok (.bipush 31, 2) := by decide +kernel
theorem dX14_decode_37 : decode cX14_decode 37 = .ok (.baload, 1) := by decide +kernel
theorem dX14_decode_38 : decode cX14_decode 38 = .ok (.bipush 127, 2) := by decide +kernel
theorem dX14_decode_40 : decode cX14_decode 40 = .ok (.iand, 1) := by decide +kernel
theorem dX14_decode_41 : decode cX14_decode 41 = .ok (.goto 17, 3) := by decide +kernel
theorem dX14_decode_44 : decode cX14_decode 44 = .ok (.aload_n 0, 1) := by decide +kernel
theorem dX14_decode_45 : decode cX14_decode 45 = .ok (.getfield 101, 3) := by decide +kernel
theorem dX14_decode_48 : decode cX14_decode 48 = .ok (.iconst 2, 1) := by decide +kernel
theorem dX14_decode_49 : decode cX14_decode 49 = .ok (.iload_n 1, 1) := by decide +kernel
theorem dX14_decode_50 : decode cX14_decode 50 = .ok (.imul, 1) := by decide +kernel
theorem dX14_decode_51 : decode cX14_decode 51 = .ok (.iconst 1, 1) := by decide +kernel
theorem dX14_decode_52 : decode cX14_decode 52 = .ok (.iadd, 1) := by decide +kernel
theorem dX14_decode_53 : decode cX14_decode 53 = .ok (.baload, 1) := by decide +kernel
theorem dX14_decode_54 : decode cX14_decode 54 = .ok (.sipush 255, 3) := by decide +kernel
theorem dX14_decode_57 : decode cX14_decode 57 = .ok (.iand, 1) := by decide +kernel
theorem dX14_decode_58 : decode cX14_decode 58 = .ok (.bipush 8, 2) := by decide +kernel
theorem dX14_decode_60 : decode cX14_decode 60 = .ok (.ishl, 1) := by decide +kernel
theorem dX14_decode_61 : decode cX14_decode 61 = .ok (.ior, 1) := by decide +kernel
theorem dX14_decode_62 : decode cX14_decode 62 = .ok (.i2l, 1) := by decide +kernel
theorem dX14_decode_63 : decode cX14_decode 63 = .ok (.lastore, 1) := by decide +kernel
theorem dX14_decode_64 : decode cX14_decode 64 = .ok (.iinc 1 1, 3) := by decide +kernel
theorem dX14_decode_67 : decode cX14_decode 67 = .ok (.goto (-65), 3) := by decide +kernel
theorem dX14_decode_70 : decode cX14_decode 70 = .ok (.aload_n 0, 1) := by decide +kernel
theorem dX14_decode_71 : decode cX14_decode 71 = .ok (.getfield 47, 3) := by decide +kernel
theorem dX14_decode_74 : decode cX14_decode 74 = .ok (.aload_n 0, 1) := by decide +kernel
theorem dX14_decode_75 : decode cX14_decode 75 = .ok (.getfield 13, 3) := by decide +kernel
theorem dX14_decode_78 : decode cX14_decode 78 = .ok (.invokestatic 175, 3) := by decide +kernel
theorem dX14_decode_81 : decode cX14_decode 81 = .ok (.ifCond .ne 5, 3) := by decide +kernel
theorem dX14_decode_84 : decode cX14_decode 84 = .ok (.iconst 0, 1) := by decide +kernel
theorem dX14_decode_85 : decode cX14_decode 85 = .ok (.ireturn, 1) := by decide +kernel
theorem dX14_decode_86 : decode cX14_decode 86 = .ok (.aload_n 0, 1) := by decide +kernel
theorem dX14_decode_87 : decode cX14_decode 87 = .ok (.aload_n 0, 1) := by decide +kernel
theorem dX14_decode_88 : decode cX14_decode 88 = .ok (.getfield 56, 3) := by decide +kernel
theorem dX14_decode_91 : decode cX14_decode 91 = .ok (.aload_n 0, 1) := by decide +kernel
theorem dX14_decode_92 : decode cX14_decode 92 = .ok (.getfield 47, 3) := by decide +kernel
theorem dX14_decode_95 : decode cX14_decode 95 = .ok (.aload_n 0, 1) := by decide +kernel
theorem dX14_decode_96 : decode cX14_decode 96 = .ok (.getfield 47, 3) := by decide +kernel
theorem dX14_decode_99 : decode cX14_decode 99 = .ok (.aload_n 0, 1) := by decide +kernel
theorem dX14_decode_100 : decode cX14_decode 100 = .ok (.getfield 13, 3) := by decide +kernel
theorem dX14_decode_103 : decode cX14_decode 103 = .ok (.aload_n 0, 1) := by decide +kernel
theorem dX14_decode_104 : decode cX14_decode 104 = .ok (.getfield 17, 3) := by decide +kernel
theorem dX14_decode_107 : decode cX14_decode 107 = .ok (.invokevirtual 148, 3) := by decide +kernel
theorem dX14_decode_110 : decode cX14_decode 110 = .ok (.aload_n 0, 1) := by decide +kernel
theorem dX14_decode_111 : decode cX14_decode 111 = .ok (.aload_n 0, 1) := by decide +kernel
theorem dX14_decode_112 : decode cX14_decode 112 = .ok (.getfield 59, 3) := by decide +kernel
theorem dX14_decode_115 : decode cX14_decode 115 = .ok (.aload_n 0, 1) := by decide +kernel
theorem dX14_decode_116 : decode cX14_decode 116 = .ok (.getfield 56, 3) := by decide +kernel
theorem dX14_decode_119 : decode cX14_decode 119 = .ok (.aload_n 0, 1) := by decide +kernel
theorem dX14_decode_120 : decode cX14_decode 120 = .ok (.getfield 26, 3) := by decide +kernel
theorem dX14_decode_123 : decode cX14_decode 123 = .ok (.aload_n 0, 1) := by decide +kernel
theorem dX14_decode_124 : decode cX14_decode 124 = .ok (.getfield 13, 3) := by decide +kernel
theorem dX14_decode_127 : decode cX14_decode 127 = .ok (.aload_n 0, 1) := by decide +kernel
theorem dX14_decode_128 : decode cX14_decode 128 = .ok (.getfield 17, 3) := by decide +kernel
theorem dX14_decode_131 : decode cX14_decode 131 = .ok (.invokevirtual 148, 3) := by decide +kernel
theorem dX14_decode_134 : decode cX14_decode 134 = .ok (.aload_n 0, 1) := by decide +kernel
theorem dX14_decode_135 : decode cX14_decode 135 = .ok (.getfield 56, 3) := by decide +kernel
theorem dX14_decode_138 : decode cX14_decode 138 = .ok (.aload_n 0, 1) := by decide +kernel
theorem dX14_decode_139 : decode cX14_decode 139 = .ok (.getfield 56, 3) := by decide +kernel
theorem dX14_decode_142 : decode cX14_decode 142 = .ok (.aload_n 0, 1) := by decide +kernel
theorem dX14_decode_143 : decode cX14_decode 143 = .ok (.getfield 86, 3) := by decide +kernel
theorem dX14_decode_146 : decode cX14_decode 146 = .ok (.aload_n 0, 1) := by decide +kernel
theorem dX14_decode_147 : decode cX14_decode 147 = .ok (.getfield 13, 3) := by decide +kernel
theorem dX14_decode_150 : decode cX14_decode 150 = .ok (.invokestatic 152, 3) := by decide +kernel
theorem dX14_decode_153 : decode cX14_decode 153 = .ok (.aload_n 0, 1) := by decide +kernel
theorem dX14_decode_154 : decode cX14_decode 154 = .ok (.getfield 59, 3) := by decide +kernel
theorem dX14_decode_157 : decode cX14_decode 157 = .ok (.aload_n 0, 1) := by decide +kernel
theorem dX14_decode_158 : decode cX14_decode 158 = .ok (.getfield 59, 3) := by decide +kernel
theorem dX14_decode_161 : decode cX14_decode 161 = .ok (.aload_n 0, 1) := by decide +kernel
theorem dX14_decode_162 : decode cX14_decode 162 = .ok (.getfield 86, 3) := by decide +kernel
theorem dX14_decode_165 : decode cX14_decode 165 = .ok (.aload_n 0, 1) := by decide +kernel
theorem dX14_decode_166 : decode cX14_decode 166 = .ok (.getfield 13, 3) := by decide +kernel
theorem dX14_decode_169 : decode cX14_decode 169 = .ok (.invokestatic 179, 3) := by decide +kernel
theorem dX14_decode_172 : decode cX14_decode 172 = .ok (.aload_n 0, 1) := by decide +kernel
theorem dX14_decode_173 : decode cX14_decode 173 = .ok (.aload_n 0, 1) := by decide +kernel
theorem dX14_decode_174 : decode cX14_decode 174 = .ok (.getfield 62, 3) := by decide +kernel
theorem dX14_decode_177 : decode cX14_decode 177 = .ok (.aload_n 0, 1) := by decide +kernel
theorem dX14_decode_178 : decode cX14_decode 178 = .ok (.getfield 59, 3) := by decide +kernel
theorem dX14_decode_181 : decode cX14_decode 181 = .ok (.aload_n 0, 1) := by decide +kernel
theorem dX14_decode_182 : decode cX14_decode 182 = .ok (.getfield 13, 3) := by decide +kernel
theorem dX14_decode_185 : decode cX14_decode 185 = .ok (.invokevirtual 145, 3) := by decide +kernel
theorem dX14_decode_188 : decode cX14_decode 188 = .ok (.aload_n 0, 1) := by decide +kernel
theorem dX14_decode_189 : decode cX14_decode 189 = .ok (.aload_n 0, 1) := by decide +kernel
theorem dX14_decode_190 : decode cX14_decode 190 = .ok (.getfield 56, 3) := by decide +kernel
theorem dX14_decode_193 : decode cX14_decode 193 = .ok (.aload_n 0, 1) := by decide +kernel
theorem dX14_decode_194 : decode cX14_decode 194 = .ok (.getfield 56, 3) := by decide +kernel
theorem dX14_decode_197 : decode cX14_decode 197 = .ok (.aload_n 0, 1) := by decide +kernel
theorem dX14_decode_198 : decode cX14_decode 198 = .ok (.getfield 62, 3) := by decide +kernel
theorem dX14_decode_201 : decode cX14_decode 201 = .ok (.aload_n 0, 1) := by decide +kernel
theorem dX14_decode_202 : decode cX14_decode 202 = .ok (.getfield 13, 3) := by decide +kernel
theorem dX14_decode_205 : decode cX14_decode 205 = .ok (.aload_n 0, 1) := by decide +kernel
theorem dX14_decode_206 : decode cX14_decode 206 = .ok (.getfield 17, 3) := by decide +kernel
theorem dX14_decode_209 : decode cX14_decode 209 = .ok (.invokevirtual 148, 3) := by decide +kernel
theorem dX14_decode_212 : decode cX14_decode 212 = .ok (.iconst 0, 1) := by decide +kernel
theorem dX14_decode_213 : decode cX14_decode 213 = .ok (.istore_n 1, 1) := by decide +kernel
theorem dX14_decode_214 : decode cX14_decode 214 = .ok (.iload_n 1, 1) := by decide +kernel
theorem dX14_decode_215 : decode cX14_decode 215 = .ok (.bipush 16, 2) := by decide +kernel
theorem dX14_decode_217 : decode cX14_decode 217 = .ok (.if_icmp .ge 40, 3) := by decide +kernel
theorem dX14_decode_220 : decode cX14_decode 220 = .ok (.aload_n 0, 1) := by decide +kernel
theorem dX14_decode_221 : decode cX14_decode 221 = .ok (.getfield 65, 3) := by decide +kernel
theorem dX14_decode_224 : decode cX14_decode 224 = .ok (.iload_n 1, 1) := by decide +kernel
theorem dX14_decode_225 : decode cX14_decode 225 = .ok (.iload_n 1, 1) := by decide +kernel
theorem dX14_decode_226 : decode cX14_decode 226 = .ok (.ifCond .ne 9, 3) := by decide +kernel
theorem dX14_decode_229 : decode cX14_decode 229 = .ok (.ldc2_w 182, 3) := by decide +kernel
theorem dX14_decode_232 : decode cX14_decode 232 = .ok (.goto 18, 3) := by decide +kernel
theorem dX14_decode_235 : decode cX14_decode 235 = .ok (.iload_n 1, 1) := by decide +kernel
theorem dX14_decode_236 : decode cX14_decode 236 = .ok (.bipush 15, 2) := by decide +kernel
theorem dX14_decode_238 : decode cX14_decode 238 = .ok (.if_icmp .ne 9, 3) := by decide +kernel
theorem dX14_decode_241 : decode cX14_decode 241 = .ok (.ldc2_w 184, 3) := by decide +kernel
theorem dX14_decode_244 : decode cX14_decode 244 = .ok (.goto 6, 3) := by decide +kernel
theorem dX14_decode_247 : decode cX14_decode 247 = .ok (.ldc2_w 129, 3) := by decide +kernel
theorem dX14_decode_250 : decode cX14_decode 250 = .ok (.lastore, 1) := by decide +kernel
theorem dX14_decode_251 : decode cX14_decode 251 = .ok (.iinc 1 1, 3) := by decide +kernel
theorem dX14_decode_254 : decode cX14_decode 254 = .ok (.goto (-40), 3) := by decide +kernel
theorem dX14_decode_257 : decode cX14_decode 257 = .ok (.aload_n 0, 1) := by decide +kernel
theorem dX14_decode_258 : decode cX14_decode 258 = .ok (.aload_n 0, 1) := by decide +kernel
theorem dX14_decode_259 : decode cX14_decode 259 = .ok (.getfield 44, 3) := by decide +kernel
theorem dX14_decode_262 : decode cX14_decode 262 = .ok (.aload_n 0, 1) := by decide +kernel
theorem dX14_decode_263 : decode cX14_decode 263 = .ok (.getfield 56, 3) := by decide +kernel
theorem dX14_decode_266 : decode cX14_decode 266 = .ok (.aload_n 0, 1) := by decide +kernel
theorem dX14_decode_267 : decode cX14_decode 267 = .ok (.getfield 65, 3) := by decide +kernel
theorem dX14_decode_270 : decode cX14_decode 270 = .ok (.invokevirtual 160, 3) := by decide +kernel
theorem dX14_decode_273 : decode cX14_decode 273 = .ok (.aload_n 0, 1) := by decide +kernel
theorem dX14_decode_274 : decode cX14_decode 274 = .ok (.aload_n 0, 1) := by decide +kernel
theorem dX14_decode_275 : decode cX14_decode 275 = .ok (.getfield 62, 3) := by decide +kernel
theorem dX14_decode_278 : decode cX14_decode 278 = .ok (.aload_n 0, 1) := by decide +kernel
theorem dX14_decode_279 : decode cX14_decode 279 = .ok (.getfield 44, 3) := by decide +kernel
theorem dX14_decode_282 : decode cX14_decode 282 = .ok (.aload_n 0, 1) := by decide +kernel
theorem dX14_decode_283 : decode cX14_decode 283 = .ok (.getfield 44, 3) := by decide +kernel
theorem dX14_decode_286 : decode cX14_decode 286 = .ok (.aload_n 0, 1) := by decide +kernel
theorem dX14_decode_287 : decode cX14_decode 287 = .ok (.getfield 13, 3) := by decide +kernel
theorem dX14_decode_290 : decode cX14_decode 290 = .ok (.aload_n 0, 1) := by decide +kernel
theorem dX14_decode_291 : decode cX14_decode 291 = .ok (.getfield 17, 3) := by decide +kernel
theorem dX14_decode_294 : decode cX14_decode 294 = .ok (.invokevirtual 148, 3) := by decide +kernel
theorem dX14_decode_297 : decode cX14_decode 297 = .ok (.aload_n 0, 1) := by decide +kernel
theorem dX14_decode_298 : decode cX14_decode 298 = .ok (.getfield 62, 3) := by decide +kernel
theorem dX14_decode_301 : decode cX14_decode 301 = .ok (.aload_n 0, 1) := by decide +kernel
theorem dX14_decode_302 : decode cX14_decode 302 = .ok (.getfield 56, 3) := by decide +kernel
theorem dX14_decode_305 : decode cX14_decode 305 = .ok (.invokestatic 186, 3) := by decide +kernel
theorem dX14_decode_308 : decode cX14_decode 308 = .ok (.ifCond .ne 27, 3) := by decide +kernel
theorem dX14_decode_311 : decode cX14_decode 311 = .ok (.aload_n 0, 1) := by decide +kernel
theorem dX14_decode_312 : decode cX14_decode 312 = .ok (.aload_n 0, 1) := by decide +kernel
theorem dX14_decode_313 : decode cX14_decode 313 = .ok (.getfield 44, 3) := by decide +kernel
theorem dX14_decode_316 : decode cX14_decode 316 = .ok (.aload_n 0, 1) := by decide +kernel
theorem dX14_decode_317 : decode cX14_decode 317 = .ok (.getfield 44, 3) := by decide +kernel
theorem dX14_decode_320 : decode cX14_decode 320 = .ok (.aload_n 0, 1) := by decide +kernel
theorem dX14_decode_321 : decode cX14_decode 321 = .ok (.getfield 29, 3) := by decide +kernel
theorem dX14_decode_324 : decode cX14_decode 324 = .ok (.aload_n 0, 1) := by decide +kernel
theorem dX14_decode_325 : decode cX14_decode 325 = .ok (.getfield 13, 3) := by decide +kernel
theorem dX14_decode_328 : decode cX14_decode 328 = .ok (.aload_n 0, 1) := by decide +kernel
theorem dX14_decode_329 : decode cX14_decode 329 = .ok (.getfield 17, 3) := by decide +kernel
theorem dX14_decode_332 : decode cX14_decode 332 = .ok (.invokevirtual 148, 3) := by decide +kernel
theorem dX14_decode_335 : decode cX14_decode 335 = .ok (.aload_n 0, 1) := by decide +kernel
theorem dX14_decode_336 : decode cX14_decode 336 = .ok (.aload_n 0, 1) := by decide +kernel
theorem dX14_decode_337 : decode cX14_decode 337 = .ok (.getfield 62, 3) := by decide +kernel
theorem dX14_decode_340 : decode cX14_decode 340 = .ok (.aload_n 0, 1) := by decide +kernel
theorem dX14_decode_341 : decode cX14_decode 341 = .ok (.getfield 44, 3) := by decide +kernel
theorem dX14_decode_344 : decode cX14_decode 344 = .ok (.aload_n 0, 1) := by decide +kernel
theorem dX14_decode_345 : decode cX14_decode 345 = .ok (.getfield 44, 3) := by decide +kernel
theorem dX14_decode_348 : decode cX14_decode 348 = .ok (.aload_n 0, 1) := by decide +kernel
theorem dX14_decode_349 : decode cX14_decode 349 = .ok (.getfield 13, 3) := by decide +kernel
theorem dX14_decode_352 : decode cX14_decode 352 = .ok (.aload_n 0, 1) := by decide +kernel
theorem dX14_decode_353 : decode cX14_decode 353 = .ok (.getfield 17, 3) := by decide +kernel
theorem dX14_decode_356 : decode cX14_decode 356 = .ok (.invokevirtual 148, 3) := by decide +kernel
theorem dX14_decode_359 : decode cX14_decode 359 = .ok (.aload_n 0, 1) := by decide +kernel
theorem dX14_decode_360 : decode cX14_decode 360 = .ok (.getfield 62, 3) := by decide +kernel
theorem dX14_decode_363 : decode cX14_decode 363 = .ok (.aload_n 0, 1) := by decide +kernel
theorem dX14_decode_364 : decode cX14_decode 364 = .ok (.getfield 56, 3) := by decide +kernel
theorem dX14_decode_367 : decode cX14_decode 367 = .ok (.invokestatic 186, 3) := by decide +kernel
theorem dX14_decode_370 : decode cX14_decode 370 = .ok (.ifCond .ne 5, 3) := by decide +kernel
theorem dX14_decode_373 : decode cX14_decode 373 = .ok (.iconst 0, 1) := by decide +kernel
theorem dX14_decode_374 : decode cX14_decode 374 = .ok (.ireturn, 1) := by decide +kernel
theorem dX14_decode_375 : decode cX14_decode 375 = .ok (.aload_n 0, 1) := by decide +kernel
theorem dX14_decode_376 : decode cX14_decode 376 = .ok (.getfield 101, 3) := by decide +kernel
theorem dX14_decode_379 : decode cX14_decode 379 = .ok (.bipush 31, 2) := by decide +kernel
theorem dX14_decode_381 : decode cX14_decode 381 = .ok (.baload, 1) := by decide +kernel
theorem dX14_decode_382 : decode cX14_decode 382 = .ok (.bipush 7, 2) := by decide +kernel
theorem dX14_decode_384 : decode cX14_decode 384 = .ok (.ishr, 1) := by decide +kernel
theorem dX14_decode_385 : decode cX14_decode 385 = .ok (.iconst 1, 1) := by decide +kernel
theorem dX14_decode_386 : decode cX14_decode 386 = .ok (.iand, 1) := by decide +kernel
theorem dX14_decode_387 : decode cX14_decode 387 = .ok (.istore_n 1, 1) := by decide +kernel
theorem dX14_decode_388 : decode cX14_decode 388 = .ok (.aload_n 0, 1) := by decide +kernel
theorem dX14_decode_389 : decode cX14_decode 389 = .ok (.getfield 44, 3) := by decide +kernel
theorem dX14_decode_392 : decode cX14_decode 392 = .ok (.invokestatic 189, 3) := by decide +kernel
theorem dX14_decode_395 : decode cX14_decode 395 = .ok (.ifCond .eq 10, 3) := by decide +kernel
theorem dX14_decode_398 : decode cX14_decode 398 = .ok (.iload_n 1, 1) := by decide +kernel
theorem dX14_decode_399 : decode cX14_decode 399 = .ok (.iconst 1, 1) := by decide +kernel
theorem dX14_decode_400 : decode cX14_decode 400 = .ok (.if_icmp .ne 5, 3) := by decide +kernel
theorem dX14_decode_403 : decode cX14_decode 403 = .ok (.iconst 0, 1) := by decide +kernel
theorem dX14_decode_404 : decode cX14_decode 404 = .ok (.ireturn, 1) := by decide +kernel
theorem dX14_decode_405 : decode cX14_decode 405 = .ok (.aload_n 0, 1) := by decide +kernel
theorem dX14_decode_406 : decode cX14_decode 406 = .ok (.getfield 44, 3) := by decide +kernel
theorem dX14_decode_409 : decode cX14_decode 409 = .ok (.iconst 0, 1) := by decide +kernel
theorem dX14_decode_410 : decode cX14_decode 410 = .ok (.laload, 1) := by decide +kernel
theorem dX14_decode_411 : decode cX14_decode 411 = .ok (.lconst 1, 1) := by decide +kernel
theorem dX14_decode_412 : decode cX14_decode 412 = .ok (.land, 1) := by decide +kernel
theorem dX14_decode_413 : decode cX14_decode 413 = .ok (.iload_n 1, 1) := by decide +kernel
theorem dX14_decode_414 : decode cX14_decode 414 = .ok (.i2l, 1) := by decide +kernel
theorem dX14_decode_415 : decode cX14_decode 415 = .ok (.lcmp, 1) := by decide +kernel
theorem dX14_decode_416 : decode cX14_decode 416 = .ok (.ifCond .eq 30, 3) := by decide +kernel
theorem dX14_decode_419 : decode cX14_decode 419 = .ok (.aload_n 0, 1) := by decide +kernel
theorem dX14_decode_420 : decode cX14_decode 420 = .ok (.getfield 62, 3) := by decide +kernel
theorem dX14_decode_423 : decode cX14_decode 423 = .ok (.iconst 0, 1) := by decide +kernel
theorem dX14_decode_424 : decode cX14_decode 424 = .ok (.invokestatic 137, 3) := by decide +kernel
theorem dX14_decode_427 : decode cX14_decode 427 = .ok (.aload_n 0, 1) := by decide +kernel
theorem dX14_decode_428 : decode cX14_decode 428 = .ok (.getfield 44, 3) := by decide +kernel
theorem dX14_decode_431 : decode cX14_decode 431 = .ok (.aload_n 0, 1) := by decide +kernel
theorem dX14_decode_432 : decode cX14_decode 432 = .ok (.getfield 62, 3) := by decide +kernel
theorem dX14_decode_435 : decode cX14_decode 435 = .ok (.aload_n 0, 1) := by decide +kernel
theorem dX14_decode_436 : decode cX14_decode 436 = .ok (.getfield 44, 3) := by decide +kernel
theorem dX14_decode_439 : decode cX14_decode 439 = .ok (.aload_n 0, 1) := by decide +kernel
theorem dX14_decode_440 : decode cX14_decode 440 = .ok (.getfield 13, 3) := by decide +kernel
theorem dX14_decode_443 : decode cX14_decode 443 = .ok (.invokestatic 152, 3) := by decide +kernel
theorem dX14_decode_446 : decode cX14_decode 446 = .ok (.iconst 1, 1) := by decide +kernel
theorem dX14_decode_447 : decode cX14_decode 447 = .ok (.ireturn, 1) := by decide +kernel
theorem dX15_init_0 : decode cX15_init 0 = .ok (.aload_n 0, 1) := by decide +kernel
theorem dX15_init_1 : decode cX15_init 1 = .ok (.invokespecial 1, 3) := by decide +kernel
theorem dX15_init_4 : decode cX15_init 4 = .ok (.aload_n 0, 1) := by decide +kernel
theorem dX15_init_5 : decode cX15_init 5 = .ok (.iconst 5, 1) := by decide +kernel
theorem dX15_init_6 : decode cX15_init 6 = .ok (.newarray .int, 2) := by decide +kernel
theorem dX15_init_8 : decode cX15_init 8 = .ok (.dup, 1) := by decide +kernel
theorem dX15_init_9 : decode cX15_init 9 = .ok (.iconst 0, 1) := by decide +kernel
theorem dX15_init_10 : decode cX15_init 10 = .ok (.bipush 12, 2) := by decide +kernel
theorem dX15_init_12 : decode cX15_init 12 = .ok (.iastore, 1) := by decide +kernel
theorem dX15_init_13 : decode cX15_init 13 = .ok (.dup, 1) := by decide +kernel
theorem dX15_init_14 : decode cX15_init 14 = .ok (.iconst 1, 1) := by decide +kernel
theorem dX15_init_15 : decode cX15_init 15 = .ok (.bipush 21, 2) := by decide +kernel
theorem dX15_init_17 : decode cX15_init 17 = .ok (.iastore, 1) := by decide +kernel
theorem dX15_init_18 : decode cX15_init 18 = .ok (.dup, 1) := by decide +kernel
theorem dX15_init_19 : decode cX15_init 19 = .ok (.iconst 2, 1) := by decide +kernel
theorem dX15_init_20 : decode cX15_init 20 = .ok (.sipush 4096, 3) := by decide +kernel
theorem dX15_init_23 : decode cX15_init 23 = .ok (.iastore, 1) := by decide +kernel
theorem dX15_init_24 : decode cX15_init 24 = .ok (.dup, 1) := by decide +kernel
theorem dX15_init_25 : decode cX15_init 25 = .ok (.iconst 3, 1) := by decide +kernel
theorem dX15_init_26 : decode cX15_init 26 = .ok (.sipush 1024, 3) := by decide +kernel
theorem dX15_init_29 : decode cX15_init 29 = .ok (.iastore, 1) := by decide +kernel
theorem dX15_init_30 : decode cX15_init 30 = .ok (.dup, 1) := by decide +kernel
theorem dX15_init_31 : decode cX15_init 31 = .ok (.iconst 4, 1) := by decide +kernel
theorem dX15_init_32 : decode cX15_init 32 = .ok (.ldc 7, 2) := by decide +kernel
theorem dX15_init_34 : decode cX15_init 34 = .ok (.iastore, 1) := by decide +kernel
theorem dX15_init_35 : decode cX15_init 35 = .ok (.putfield 8, 3) := by decide +kernel
theorem dX15_init_38 : decode cX15_init 38 = .ok (.aload_n 0, 1) := by decide +kernel
theorem dX15_init_39 : decode cX15_init 39 = .ok (.bipush 32, 2) := by decide +kernel
theorem dX15_init_41 : decode cX15_init 41 = .ok (.newarray .byte, 2) := by decide +kernel
theorem dX15_init_43 : decode cX15_init 43 = .ok (.putfield 14, 3) := by decide +kernel
theorem dX15_init_46 : decode cX15_init 46 = .ok (.aload_n 0, 1) := by decide +kernel
theorem dX15_init_47 : decode cX15_init 47 = .ok (.bipush 32, 2) := by decide +kernel
theorem dX15_init_49 : decode cX15_init 49 = .ok (.newarray .byte, 2) := by decide +kernel
theorem dX15_init_51 : decode cX15_init 51 = .ok (.putfield 18, 3) := by decide +kernel
theorem dX15_init_54 : decode cX15_init 54 = .ok (.aload_n 0, 1) := by decide +kernel
theorem dX15_init_55 : decode cX15_init 55 = .ok (.new 21, 3) := by decide +kernel
theorem dX15_init_58 : decode cX15_init 58 = .ok (.dup, 1) := by decide +kernel
theorem dX15_init_59 : decode cX15_init 59 = .ok (.invokespecial 23, 3) := by decide +kernel
theorem dX15_init_62 : decode cX15_init 62 = .ok (.putfield 24, 3) := by decide +kernel
theorem dX15_init_65 : decode cX15_init 65 = .ok (.aload_n 0, 1) := by decide +kernel
theorem dX15_init_66 : decode cX15_init 66 = .ok (.getstatic 28, 3) := by decide +kernel
theorem dX15_init_69 : decode cX15_init 69 = .ok (.putfield 33, 3) := by decide +kernel
theorem dX15_init_72 : decode cX15_init 72 = .ok (.aload_n 0, 1) := by decide +kernel
theorem dX15_init_73 : decode cX15_init 73 = .ok (.ldc 36, 2) := by decide +kernel
theorem dX15_init_75 : decode cX15_init 75 = .ok (.newarray .byte, 2) := by decide +kernel
theorem dX15_init_77 : decode cX15_init 77 = .ok (.putfield 37, 3) := by decide +kernel
theorem dX15_init_80 : decode cX15_init 80 = .ok (.aload_n 0, 1) := by decide +kernel
theorem dX15_init_81 : decode cX15_init 81 = .ok (.getstatic 28, 3) := by decide +kernel
theorem dX15_init_84 : decode cX15_init 84 = .ok (.putfield 40, 3) := by decide +kernel
theorem dX15_init_87 : decode cX15_init 87 = .ok (.aload_n 0, 1) := by decide +kernel
theorem dX15_init_88 : decode cX15_init 88 = .ok (.getstatic 28, 3) := by decide +kernel
theorem dX15_init_91 : decode cX15_init 91 = .ok (.putfield 43, 3) := by decide +kernel
theorem dX15_init_94 : decode cX15_init 94 = .ok (.aload_n 0, 1) := by decide +kernel
theorem dX15_init_95 : decode cX15_init 95 = .ok (.iconst 4, 1) := by decide +kernel
theorem dX15_init_96 : decode cX15_init 96 = .ok (.newarray .int, 2) := by decide +kernel
theorem dX15_init_98 : decode cX15_init 98 = .ok (.putfield 46, 3) := by decide +kernel
theorem dX15_init_101 : decode cX15_init 101 = .ok (.aload_n 0, 1) := by decide +kernel
theorem dX15_init_102 : decode cX15_init 102 = .ok (.new 21, 3) := by decide +kernel
theorem dX15_init_105 : decode cX15_init 105 = .ok (.dup, 1) := by decide +kernel
theorem dX15_init_106 : decode cX15_init 106 = .ok (.invokespecial 23, 3) := by decide +kernel
theorem dX15_init_109 : decode cX15_init 109 = .ok (.putfield 49, 3) := by decide +kernel
theorem dX15_init_112 : decode cX15_init 112 = .ok (.aload_n 0, 1) := by decide +kernel
theorem dX15_init_113 : decode cX15_init 113 = .ok (.new 21, 3) := by decide +kernel
theorem dX15_init_116 : decode cX15_init 116 = .ok (.dup, 1) := by decide +kernel
theorem dX15_init_117 : decode cX15_init 117 = .ok (.invokespecial 23, 3) := by decide +kernel
theorem dX15_init_120 : decode cX15_init 120 = .ok (.putfield 52, 3) := by decide +kernel
theorem dX15_init_123 : decode cX15_init 123 = .ok (.aload_n 0, 1) := by decide +kernel
theorem dX15_init_124 : decode cX15_init 124 = .ok (.bipush 16, 2) := by decide +kernel
theorem dX15_init_126 : decode cX15_init 126 = .ok (.anewarray 55, 3) := by decide +kernel
theorem dX15_init_129 : decode cX15_init 129 = .ok (.putfield 57, 3) := by decide +kernel
theorem dX15_init_132 : decode cX15_init 132 = .ok (.aload_n 0, 1) := by decide +kernel
theorem dX15_init_133 : decode cX15_init 133 = .ok (.iload_n 1, 1) := by decide +kernel
theorem dX15_init_134 : decode cX15_init 134 = .ok (.putfield 61, 3) := by decide +kernel
theorem dX15_init_137 : decode cX15_init 137 = .ok (.aload_n 0, 1) := by decide +kernel
theorem dX15_init_138 : decode cX15_init 138 = .ok (.new 65, 3) := by decide +kernel
theorem dX15_init_141 : decode cX15_init 141 = .ok (.dup, 1) := by decide +kernel
theorem dX15_init_142 : decode cX15_init 142 = .ok (.aload_n 2, 1) := by decide +kernel
theorem dX15_init_143 : decode cX15_init 143 = .ok (.invokespecial 67, 3) := by decide +kernel
theorem dX15_init_146 : decode cX15_init 146 = .ok (.putfield 70, 3) := by decide +kernel
theorem dX15_init_149 : decode cX15_init 149 = .ok (.aload_n 0, 1) := by decide +kernel
theorem dX15_init_150 : decode cX15_init 150 = .ok (.new 65, 3) := by decide +kernel
theorem dX15_init_153 : decode cX15_init 153 = .ok (.dup, 1) := by decide +kernel
theorem dX15_init_154 : decode cX15_init 154 = .ok (.aload_n 2, 1) := by decide +kernel
theorem dX15_init_155 : decode cX15_init 155 = .ok (.invokespecial 67, 3) := by decide +kernel
theorem dX15_init_158 : decode cX15_init 158 = .ok (.putfield 74, 3) := by decide +kernel
theorem dX15_init_161 : decode cX15_init 161 = .ok (.iconst 0, 1) := by decide +kernel
theorem dX15_init_162 : decode cX15_init 162 = .ok (.istore_n 3, 1) := by decide +kernel
theorem dX15_init_163 : decode cX15_init 163 = .ok (.iload_n 3, 1) := by decide +kernel
theorem dX15_init_164 : decode cX15_init 164 = .ok (.bipush 16, 2) := by decide +kernel
theorem dX15_init_166 : decode cX15_init 166 = .ok (.if_icmp .ge 22, 3) := by decide +kernel
theorem dX15_init_169 : decode cX15_init 169 = .ok (.aload_n 0, 1) := by decide +kernel
theorem dX15_init_170 : decode cX15_init 170 = .ok (.getfield 57, 3) := by decide +kernel
theorem dX15_init_173 : decode cX15_init 173 = .ok (.iload_n 3, 1) := by decide +kernel
theorem dX15_init_174 : decode cX15_init 174 = .ok (.new 55, 3) := by decide +kernel
theorem dX15_init_177 : decode cX15_init 177 = .ok (.dup, 1) := by decide +kernel
theorem dX15_init_178 : decode cX15_init 178 = .ok (.invokespecial 77, 3) := by decide +kernel
theorem dX15_init_181 : decode cX15_init 181 = .ok (.aastore, 1) := by decide +kernel
theorem dX15_init_182 : decode cX15_init 182 = .ok (.iinc 3 1, 3) := by decide +kernel
theorem dX15_init_185 : decode cX15_init 185 = .ok (.goto (-22), 3) := by decide +kernel
theorem dX15_init_188 : decode cX15_init 188 = .ok (.return_, 1) := by decide +kernel
theorem dX16_init_0 : decode cX16_init 0 = .ok (.aload_n 0, 1) := by decide +kernel
theorem dX16_init_1 : decode cX16_init 1 = .ok (.invokespecial 1, 3) := by decide +kernel
theorem dX16_init_4 : decode cX16_init 4 = .ok (.return_, 1) := by decide +kernel
theorem dX17_init_0 : decode cX17_init 0 = .ok (.aload_n 0, 1) := by decide +kernel
theorem dX17_init_1 : decode cX17_init 1 = .ok (.invokespecial 1, 3) := by decide +kernel
theorem dX17_init_4 : decode cX17_init 4 = .ok (.aload_n 0, 1) := by decide +kernel
theorem dX17_init_5 : decode cX17_init 5 = .ok (.bipush 80, 2) := by decide +kernel
theorem dX17_init_7 : decode cX17_init 7 = .ok (.newarray .long, 2) := by decide +kernel
theorem dX17_init_9 : decode cX17_init 9 = .ok (.putfield 7, 3) := by decide +kernel
theorem dX17_init_12 : decode cX17_init 12 = .ok (.aload_n 0, 1) := by decide +kernel
theorem dX17_init_13 : decode cX17_init 13 = .ok (.bipush 24, 2) := by decide +kernel
theorem dX17_init_15 : decode cX17_init 15 = .ok (.newarray .long, 2) := by decide +kernel
theorem dX17_init_17 : decode cX17_init 17 = .ok (.putfield 13, 3) := by decide +kernel
theorem dX17_init_20 : decode cX17_init 20 = .ok (.aload_n 0, 1) := by decide +kernel
theorem dX17_init_21 : decode cX17_init 21 = .ok (.bipush 80, 2) := by decide +kernel
theorem dX17_init_23 : decode cX17_init 23 = .ok (.newarray .long, 2) := by decide +kernel
theorem dX17_init_25 : decode cX17_init 25 = .ok (.putfield 16, 3) := by decide +kernel
theorem dX17_init_28 : decode cX17_init 28 = .ok (.aload_n 0, 1) := by decide +kernel
theorem dX17_init_29 : decode cX17_init 29 = .ok (.bipush 8, 2) := by decide +kernel
theorem dX17_init_31 : decode cX17_init 31 = .ok (.newarray .long, 2) := by decide +kernel
theorem dX17_init_33 : decode cX17_init 33 = .ok (.putfield 19, 3) := by decide +kernel
theorem dX17_init_36 : decode cX17_init 36 = .ok (.aload_n 0, 1) := by decide +kernel
theorem dX17_init_37 : decode cX17_init 37 = .ok (.bipush 8, 2) := by decide +kernel
theorem dX17_init_39 : decode cX17_init 39 = .ok (.newarray .long, 2) := by decide +kernel
theorem dX17_init_41 : decode cX17_init 41 = .ok (.putfield 22, 3) := by decide +kernel
theorem dX17_init_44 : decode cX17_init 44 = .ok (.aload_n 0, 1) := by decide +kernel
theorem dX17_init_45 : decode cX17_init 45 = .ok (.bipush 8, 2) := by decide +kernel
theorem dX17_init_47 : decode cX17_init 47 = .ok (.newarray .long, 2) := by decide +kernel
theorem dX17_init_49 : decode cX17_init 49 = .ok (.putfield 25, 3) := by decide +kernel
theorem dX17_init_52 : decode cX17_init 52 = .ok (.aload_n 0, 1) := by decide +kernel
theorem dX17_init_53 : decode cX17_init 53 = .ok (.bipush 64, 2) := by decide +kernel
theorem dX17_init_55 : decode cX17_init 55 = .ok (.newarray .byte, 2) := by decide +kernel
theorem dX17_init_57 : decode cX17_init 57 = .ok (.putfield 28, 3) := by decide +kernel
theorem dX17_init_60 : decode cX17_init 60 = .ok (.aload_n 0, 1) := by decide +kernel
theorem dX17_init_61 : decode cX17_init 61 = .ok (.sipush 128, 3) := by decide +kernel
theorem dX17_init_64 : decode cX17_init 64 = .ok (.newarray .byte, 2) := by decide +kernel
theorem dX17_init_66 : decode cX17_init 66 = .ok (.putfield 32, 3) := by decide +kernel
theorem dX17_init_69 : decode cX17_init 69 = .ok (.aload_n 0, 1) := by decide +kernel
theorem dX17_init_70 : decode cX17_init 70 = .ok (.ldc 35, 2) := by decide +kernel
theorem dX17_init_72 : decode cX17_init 72 = .ok (.newarray .byte, 2) := by decide +kernel
theorem dX17_init_74 : decode cX17_init 74 = .ok (.putfield 36, 3) := by decide +kernel
theorem dX17_init_77 : decode cX17_init 77 = .ok (.aload_n 0, 1) := by decide +kernel
theorem dX17_init_78 : decode cX17_init 78 = .ok (.sipush 1024, 3) := by decide +kernel
theorem dX17_init_81 : decode cX17_init 81 = .ok (.newarray .byte, 2) := by decide +kernel
theorem dX17_init_83 : decode cX17_init 83 = .ok (.putfield 39, 3) := by decide +kernel
theorem dX17_init_86 : decode cX17_init 86 = .ok (.aload_n 0, 1) := by decide +kernel
theorem dX17_init_87 : decode cX17_init 87 = .ok (.bipush 64, 2) := by decide +kernel
theorem dX17_init_89 : decode cX17_init 89 = .ok (.newarray .byte, 2) := by decide +kernel
theorem dX17_init_91 : decode cX17_init 91 = .ok (.putfield 42, 3) := by decide +kernel
theorem dX17_init_94 : decode cX17_init 94 = .ok (.aload_n 0, 1) := by decide +kernel
theorem dX17_init_95 : decode cX17_init 95 = .ok (.bipush 64, 2) := by decide +kernel
theorem dX17_init_97 : decode cX17_init 97 = .ok (.newarray .byte, 2) := by decide +kernel
theorem dX17_init_99 : decode cX17_init 99 = .ok (.putfield 45, 3) := by decide +kernel
theorem dX17_init_102 : decode cX17_init 102 = .ok (.aload_n 0, 1) := by decide +kernel
theorem dX17_init_103 : decode cX17_init 103 = .ok (.iconst 3, 1) := by decide +kernel
theorem dX17_init_104 : decode cX17_init 104 = .ok (.anewarray 48, 3) := by decide +kernel
theorem dX17_init_107 : decode cX17_init 107 = .ok (.putfield 49, 3) := by decide +kernel
theorem dX17_init_110 : decode cX17_init 110 = .ok (.iconst 1, 1) := by decide +kernel
theorem dX17_init_111 : decode cX17_init 111 = .ok (.istore_n 1, 1) := by decide +kernel
theorem dX17_init_112 : decode cX17_init 112 = .ok (.iconst 0, 1) := by decide +kernel
theorem dX17_init_113 : decode cX17_init 113 = .ok (.istore_n 2, 1) := by decide +kernel
theorem dX17_init_114 : decode cX17_init 114 = .ok (.iload_n 2, 1) := by decide +kernel
theorem dX17_init_115 : decode cX17_init 115 = .ok (.bipush 80, 2) := by decide +kernel
theorem dX17_init_117 : decode cX17_init 117 = .ok (.if_icmp .ge 89, 3) := by decide +kernel
theorem dX17_init_120 : decode cX17_init 120 = .ok (.iload_n 1, 1) := by decide +kernel
theorem dX17_init_121 : decode cX17_init 121 = .ok (.invokestatic 53, 3) := by decide +kernel
theorem dX17_init_124 : decode cX17_init 124 = .ok (.istore_n 1, 1) := by decide +kernel
theorem dX17_init_125 : decode cX17_init 125 = .ok (.aload_n 0, 1) := by decide +kernel
theorem dX17_init_126 : decode cX17_init 126 = .ok (.getfield 7, 3) := by decide +kernel
theorem dX17_init_129 : decode cX17_init 129 = .ok (.iload_n 2, 1) := by decide +kernel
theorem dX17_init_130 : decode cX17_init 130 = .ok (.aload_n 0, 1) := by decide +kernel
theorem dX17_init_131 : decode cX17_init 131 = .ok (.iload_n 1, 1) := by decide +kernel
theorem dX17_init_132 : decode cX17_init 132 = .ok (.iconst 3, 1) := by decide +kernel
theorem dX17_init_133 : decode cX17_init 133 = .ok (.invokevirtual 57, 3) := by decide +kernel
theorem dX17_init_136 : decode cX17_init 136 = .ok (.lastore, 1) := by decide +kernel
theorem dX17_init_137 : decode cX17_init 137 = .ok (.iload_n 2, 1) := by decide +kernel
theorem dX17_init_138 : decode cX17_init 138 = .ok (.bipush 8, 2) := by decide +kernel
theorem dX17_init_140 : decode cX17_init 140 = .ok (.if_icmp .ge 36, 3) := by decide +kernel
theorem dX17_init_143 : decode cX17_init 143 = .ok (.aload_n 0, 1) := by decide +kernel
theorem dX17_init_144 : decode cX17_init 144 = .ok (.getfield 13, 3) := by decide +kernel
theorem dX17_init_147 : decode cX17_init 147 = .ok (.bipush 16, 2) := by decide +kernel
theorem dX17_init_149 : decode cX17_init 149 = .ok (.iload_n 2, 1) := by decide +kernel
theorem dX17_init_150 : decode cX17_init 150 = .ok (.iadd, 1) := by decide +kernel
theorem dX17_init_151 : decode cX17_init 151 = .ok (.aload_n 0, 1) := by decide +kernel
theorem dX17_init_152 : decode cX17_init 152 = .ok (.iload_n 1, 1) := by decide +kernel
theorem dX17_init_153 : decode cX17_init 153 = .ok (.iconst 2, 1) := by decide +kernel
theorem dX17_init_154 : decode cX17_init 154 = .ok (.invokevirtual 57, 3) := by decide +kernel
theorem dX17_init_157 : decode cX17_init 157 = .ok (.lastore, 1) := by decide +kernel
theorem dX17_init_158 : decode cX17_init 158 = .ok (.aload_n 0, 1) := by decide +kernel
theorem dX17_init_159 : decode cX17_init 159 = .ok (.getfield 13, 3) := by decide +kernel
theorem dX17_init_162 : decode cX17_init 162 = .ok (.iload_n 2, 1) := by decide +kernel
theorem dX17_init_163 : decode cX17_init 163 = .ok (.aload_n 0, 1) := by decide +kernel
theorem dX17_init_164 : decode cX17_init 164 = .ok (.getfield 13, 3) := by decide +kernel
theorem dX17_init_167 : decode cX17_init 167 = .ok (.bipush 16, 2) := by decide +kernel
theorem dX17_init_169 : decode cX17_init 169 = .ok (.iload_n 2, 1) := by decide +kernel
theorem dX17_init_170 : decode cX17_init 170 = .ok (.iadd, 1) := by decide +kernel
theorem dX17_init_171 : decode cX17_init 171 = .ok (.laload, 1) := by decide +kernel
theorem dX17_init_172 : decode cX17_init 172 = .ok (.bipush 32, 2) := by decide +kernel
theorem dX17_init_174 : decode cX17_init 174 = .ok (.lushr, 1) := by decide +kernel
theorem dX17_init_175 : decode cX17_init 175 = .ok (.lastore, 1) := by decide +kernel
theorem dX17_init_176 : decode cX17_init 176 = .ok (.iload_n 2, 1) := by decide +kernel
theorem dX17_init_177 : decode cX17_init 177 = .ok (.bipush 8, 2) := by decide +kernel
theorem dX17_init_179 : decode cX17_init 179 = .ok (.if_icmp .lt 21, 3) := by decide +kernel
theorem dX17_init_182 : decode cX17_init 182 = .ok (.iload_n 2, 1) := by decide +kernel
theorem dX17_init_183 : decode cX17_init 183 = .ok (.bipush 16, 2) := by decide +kernel
theorem dX17_init_185 : decode cX17_init 185 = .ok (.if_icmp .ge 15, 3) := by decide +kernel
theorem dX17_init_188 : decode cX17_init 188 = .ok (.aload_n 0, 1) := by decide +kernel
theorem dX17_init_189 : decode cX17_init 189 = .ok (.getfield 13, 3) := by decide +kernel
theorem dX17_init_192 : decode cX17_init 192 = .ok (.iload_n 2, 1) := by decide +kernel
theorem dX17_init_193 : decode cX17_init 193 = .ok (.aload_n 0, 1) := by decide +kernel
theorem dX17_init_194 : decode cX17_init 194 = .ok (.iload_n 1, 1) := by decide +kernel
theorem dX17_init_195 : decode cX17_init 195 = .ok (.iconst 2, 1) := by decide +kernel
theorem dX17_init_196 : decode cX17_init 196 = .ok (.invokevirtual 57, 3) := by decide +kernel
theorem dX17_init_199 : decode cX17_init 199 = .ok (.lastore, 1) := by decide +kernel
theorem dX17_init_200 : decode cX17_init 200 = .ok (.iinc 2 1, 3) := by decide +kernel
theorem dX17_init_203 : decode cX17_init 203 = .ok (.goto (-89), 3) := by decide +kernel
theorem dX17_init_206 : decode cX17_init 206 = .ok (.return_, 1) := by decide +kernel
theorem dX17_prime_0 : decode cX17_prime 0 = .ok (.iload_n 0, 1) := by decide +kernel
theorem dX17_prime_1 : decode cX17_prime 1 = .ok (.istore_n 1, 1) := by decide +kernel
theorem dX17_prime_2 : decode cX17_prime 2 = .ok (.iconst 0, 1) := by decide +kernel
theorem dX17_prime_3 : decode cX17_prime 3 = .ok (.istore_n 2, 1) := by decide +kernel
theorem dX17_prime_4 : decode cX17_prime 4 = .ok (.iload_n 2, 1) := by decide +kernel
theorem dX17_prime_5 : decode cX17_prime 5 = .ok (.ifCond .ne 34, 3) := by decide +kernel
theorem dX17_prime_8 : decode cX17_prime 8 = .ok (.iinc 1 1, 3) := by decide +kernel
theorem dX17_prime_11 : decode cX17_prime 11 = .ok (.iconst 1, 1) := by decide +kernel
theorem dX17_prime_12 : decode cX17_prime 12 = .ok (.istore_n 2, 1) := by decide +kernel
theorem dX17_prime_13 : decode cX17_prime 13 = .ok (.iconst 2, 1) := by decide +kernel
theorem dX17_prime_14 : decode cX17_prime 14 = .ok (.istore_n 3, 1) := by decide +kernel
theorem dX17_prime_15 : decode cX17_prime 15 = .ok (.iload_n 3, 1) := by decide +kernel
theorem dX17_prime_16 : decode cX17_prime 16 = .ok (.iload_n 3, 1) := by decide +kernel
theorem dX17_prime_17 : decode cX17_prime 17 = .ok (.imul, 1) := by decide +kernel
theorem dX17_prime_18 : decode cX17_prime 18 = .ok (.iload_n 1, 1) := by decide +kernel
theorem dX17_prime_19 : decode cX17_prime 19 = .ok (.if_icmp .gt 17, 3) := by decide +kernel
theorem dX17_prime_22 : decode cX17_prime 22 = .ok (.iload_n 1, 1) := by decide +kernel
theorem dX17_prime_23 : decode cX17_prime 23 = .ok (.iload_n 3, 1) := by decide +kernel
theorem dX17_prime_24 : decode cX17_prime 24 = .ok (.irem, 1) := by decide +kernel
theorem dX17_prime_25 : decode cX17_prime 25 = .ok (.ifCond .ne 5, 3) := by decide +kernel
theorem dX17_prime_28 : decode cX17_prime 28 = .ok (.iconst 0, 1) := by decide +kernel
theorem dX17_prime_29 : decode cX17_prime 29 = .ok (.istore_n 2, 1) := by decide +kernel
theorem dX17_prime_30 : decode cX17_prime 30 = .ok (.iinc 3 1, 3) := by decide +kernel
theorem dX17_prime_33 : decode cX17_prime 33 = .ok (.goto (-18), 3) := by decide +kernel
theorem dX17_prime_36 : decode cX17_prime 36 = .ok (.goto (-32), 3) := by decide +kernel
theorem dX17_prime_39 : decode cX17_prime 39 = .ok (.iload_n 1, 1) := by decide +kernel
theorem dX17_prime_40 : decode cX17_prime 40 = .ok (.ireturn, 1) := by decide +kernel
theorem dX17_root_0 : decode cX17_root 0 = .ok (.lconst 0, 1) := by decide +kernel
theorem dX17_root_1 : decode cX17_root 1 = .ok (.lstore_n 3, 1) := by decide +kernel
theorem dX17_root_2 : decode cX17_root 2 = .ok (.lconst 0, 1) := by decide +kernel
theorem dX17_root_3 : decode cX17_root 3 = .ok (.lstore 5, 2) := by decide +kernel
theorem dX17_root_5 : decode cX17_root 5 = .ok (.bipush 66, 2) := by decide +kernel
theorem dX17_root_7 : decode cX17_root 7 = .ok (.istore 7, 2) := by decide +kernel
theorem dX17_root_9 : decode cX17_root 9 = .ok (.iload 7, 2) := by decide +kernel
theorem dX17_root_11 : decode cX17_root 11 = .ok (.ifCond .lt 72, 3) := by decide +kernel
theorem dX17_root_14 : decode cX17_root 14 = .ok (.iload 7, 2) := by decide +kernel
theorem dX17_root_16 : decode cX17_root 16 = .ok (.bipush 63, 2) := by decide +kernel
theorem dX17_root_18 : decode cX17_root 18 = .ok (.if_icmp .le 15, 3) := by decide +kernel
theorem dX17_root_21 : decode cX17_root 21 = .ok (.lload_n 3, 1) := by decide +kernel
theorem dX17_root_22 : decode cX17_root 22 = .ok (.lconst 1, 1) := by decide +kernel
theorem dX17_root_23 : decode cX17_root 23 = .ok (.iload 7, 2) := by decide +kernel
theorem dX17_root_25 : decode cX17_root 25 = .ok (.bipush 64, 2) := by decide +kernel
theorem dX17_root_27 : decode cX17_root 27 = .ok (.isub, 1) := by decide +kernel
theorem dX17_root_28 : decode cX17_root 28 = .ok (.lshl, 1) := by decide +kernel
theorem dX17_root_29 : decode cX17_root 29 = .ok (.lor, 1) := by decide +kernel
theorem dX17_root_30 : decode cX17_root 30 = .ok (.goto 4, 3) := by decide +kernel
theorem dX17_root_33 : decode cX17_root 33 = .ok (.lload_n 3, 1) := by decide +kernel
theorem dX17_root_34 : decode cX17_root 34 = .ok (.lstore 8, 2) := by decide +kernel
theorem dX17_root_36 : decode cX17_root 36 = .ok (.iload 7, 2) := by decide +kernel
theorem dX17_root_38 : decode cX17_root 38 = .ok (.bipush 63, 2) := by decide +kernel
theorem dX17_root_40 : decode cX17_root 40 = .ok (.if_icmp .le 8, 3) := by decide +kernel
theorem dX17_root_43 : decode cX17_root 43 = .ok (.lload 5, 2) := by decide +kernel
theorem dX17_root_45 : decode cX17_root 45 = .ok (.goto 10, 3) := by decide +kernel
theorem dX17_root_48 : decode cX17_root 48 = .ok (.lload 5, 2) := by decide +kernel
theorem dX17_root_50 : decode cX17_root 50 = .ok (.lconst 1, 1) := by decide +kernel
theorem dX17_root_51 : decode cX17_root 51 = .ok (.iload 7, 2) := by decide +kernel
theorem dX17_root_53 : decode cX17_root 53 = .ok (.lshl, 1) := by decide +kernel
theorem dX17_root_54 : decode cX17_root 54 = .ok (.lor, 1) := by decide +kernel
theorem dX17_root_55 : decode cX17_root 55 = .ok (.lstore 10, 2) := by decide +kernel
theorem dX17_root_57 : decode cX17_root 57 = .ok (.aload_n 0, 1) := by decide +kernel
theorem dX17_root_58 : decode cX17_root 58 = .ok (.lload 8, 2) := by decide +kernel
theorem dX17_root_60 : decode cX17_root 60 = .ok (.lload 10, 2) := by decide +kernel
theorem dX17_root_62 : decode cX17_root 62 = .ok (.iload_n 1, 1) := by decide +kernel
theorem dX17_root_63 : decode cX17_root 63 = .ok (.iload_n 2, 1) := by decide +kernel
theorem dX17_root_64 : decode cX17_root 64 = .ok (.invokevirtual 61, 3) := by decide +kernel
theorem dX17_root_67 : decode cX17_root 67 = .ok (.ifCond .eq 10, 3) := by decide +kernel
theorem dX17_root_70 : decode cX17_root 70 = .ok (.lload 8, 2) := by decide +kernel
theorem dX17_root_72 : decode cX17_root 72 = .ok (.lstore_n 3, 1) := by decide +kernel
theorem dX17_root_73 : decode cX17_root 73 = .ok (.lload 10, 2) := by decide +kernel
theorem dX17_root_75 : decode cX17_root 75 = .ok (.lstore 5, 2) := by decide +kernel
theorem dX17_root_77 : decode cX17_root 77 = .ok (.iinc 7 (-1), 3) := by decide +kernel
theorem dX17_root_80 : decode cX17_root 80 = .ok (.goto (-71), 3) := by decide +kernel
theorem dX17_root_83 : decode cX17_root 83 = .ok (.lload 5, 2) := by decide +kernel
theorem dX17_root_85 : decode cX17_root 85 = .ok (.lreturn, 1) := by decide +kernel
theorem dX17_fits_0 : decode cX17_fits 0 = .ok (.iconst 0, 1) := by decide +kernel
theorem dX17_fits_1 : decode cX17_fits 1 = .ok (.istore 7, 2) := by decide +kernel
theorem dX17_fits_3 : decode cX17_fits 3 = .ok (.iload 7, 2) := by decide +kernel
theorem dX17_fits_5 : decode cX17_fits 5 = .ok (.bipush 8, 2) := by decide +kernel
theorem dX17_fits_7 : decode cX17_fits 7 = .ok (.if_icmp .ge 26, 3) := by decide +kernel
theorem dX17_fits_10 : decode cX17_fits 10 = .ok (.aload_n 0, 1) := by decide +kernel
theorem dX17_fits_11 : decode cX17_fits 11 = .ok (.getfield 22, 3) := by decide +kernel
theorem dX17_fits_14 : decode cX17_fits 14 = .ok (.iload 7, 2) := by decide +kernel
theorem dX17_fits_16 : decode cX17_fits 16 = .ok (.iload 7, 2) := by decide +kernel
theorem dX17_fits_18 : decode cX17_fits 18 = .ok (.ifCond .ne 7, 3) := by decide +kernel
theorem dX17_fits_21 : decode cX17_fits 21 = .ok (.lconst 1, 1) := by decide +kernel
theorem dX17_fits_22 : decode cX17_fits 22 = .ok (.goto 4, 3) := by decide +kernel
theorem dX17_fits_25 : decode cX17_fits 25 = .ok (.lconst 0, 1) := by decide +kernel
theorem dX17_fits_26 : decode cX17_fits 26 = .ok (.lastore, 1) := by decide +kernel
theorem dX17_fits_27 : decode cX17_fits 27 = .ok (.iinc 7 1, 3) := by decide +kernel
theorem dX17_fits_30 : decode cX17_fits 30 = .ok (.goto (-27), 3) := by decide +kernel
theorem dX17_fits_33 : decode cX17_fits 33 = .ok (.iconst 0, 1) := by decide +kernel
theorem dX17_fits_34 : decode cX17_fits 34 = .ok (.istore 7, 2) := by decide +kernel
theorem dX17_fits_36 : decode cX17_fits 36 = .ok (.iload 7, 2) := by decide +kernel
theorem dX17_fits_38 : decode cX17_fits 38 = .ok (.iload 6, 2) := by decide +kernel
theorem dX17_fits_40 : decode cX17_fits 40 = .ok (.if_icmp .ge 15, 3) := by decide +kernel
theorem dX17_fits_43 : decode cX17_fits 43 = .ok (.aload_n 0, 1) := by decide +kernel
theorem dX17_fits_44 : decode cX17_fits 44 = .ok (.lload_n 1, 1) := by decide +kernel
theorem dX17_fits_45 : decode cX17_fits 45 = .ok (.lload_n 3, 1) := by decide +kernel
theorem dX17_fits_46 : decode cX17_fits 46 = .ok (.invokevirtual 65, 3) := by decide +kernel
theorem dX17_fits_49 : decode cX17_fits 49 = .ok (.iinc 7 1, 3) := by decide +kernel
theorem dX17_fits_52 : decode cX17_fits 52 = .ok (.goto (-16), 3) := by decide +kernel
theorem dX17_fits_55 : decode cX17_fits 55 = .ok (.lconst 0, 1) := by decide +kernel
theorem dX17_fits_56 : decode cX17_fits 56 = .ok (.lstore 7, 2) := by decide +kernel
theorem dX17_fits_58 : decode cX17_fits 58 = .ok (.bipush 7, 2) := by decide +kernel
theorem dX17_fits_60 : decode cX17_fits 60 = .ok (.istore 9, 2) := by decide +kernel
theorem dX17_fits_62 : decode cX17_fits 62 = .ok (.iload 9, 2) := by decide +kernel
theorem dX17_fits_64 : decode cX17_fits 64 = .ok (.iconst 2, 1) := by decide +kernel
theorem dX17_fits_65 : decode cX17_fits 65 = .ok (.iload 6, 2) := by decide +kernel
theorem dX17_fits_67 : decode cX17_fits 67 = .ok (.imul, 1) := by decide +kernel
theorem dX17_fits_68 : decode cX17_fits 68 = .ok (.if_icmp .lt 24, 3) := by decide +kernel
theorem dX17_fits_71 : decode cX17_fits 71 = .ok (.lload 7, 2) := by decide +kernel
theorem dX17_fits_73 : decode cX17_fits 73 = .ok (.bipush 32, 2) := by decide +kernel
theorem dX17_fits_75 : decode cX17_fits 75 = .ok (.lshl, 1) := by decide +kernel
theorem dX17_fits_76 : decode cX17_fits 76 = .ok (.aload_n 0, 1) := by decide +kernel
theorem dX17_fits_77 : decode cX17_fits 77 = .ok (.getfield 22, 3) := by decide +kernel
theorem dX17_fits_80 : decode cX17_fits 80 = .ok (.iload 9, 2) := by decide +kernel
theorem dX17_fits_82 : decode cX17_fits 82 = .ok (.laload, 1) := by decide +kernel
theorem dX17_fits_83 : decode cX17_fits 83 = .ok (.lor, 1) := by decide +kernel
theorem dX17_fits_84 : decode cX17_fits 84 = .ok (.lstore 7, 2) := by decide +kernel
theorem dX17_fits_86 : decode cX17_fits 86 = .ok (.iinc 9 (-1), 3) := by decide +kernel
theorem dX17_fits_89 : decode cX17_fits 89 = .ok (.goto (-27), 3) := by decide +kernel
theorem dX17_fits_92 : decode cX17_fits 92 = .ok (.lload 7, 2) := by decide +kernel
theorem dX17_fits_94 : decode cX17_fits 94 = .ok (.iload 5, 2) := by decide +kernel
theorem dX17_fits_96 : decode cX17_fits 96 = .ok (.i2l, 1) := by decide +kernel
theorem dX17_fits_97 : decode cX17_fits 97 = .ok (.lcmp, 1) := by decide +kernel
theorem dX17_fits_98 : decode cX17_fits 98 = .ok (.ifCond .eq 18, 3) := by decide +kernel
theorem dX17_fits_101 : decode cX17_fits 101 = .ok (.lload 7, 2) := by decide +kernel
theorem dX17_fits_103 : decode cX17_fits 103 = .ok (.iload 5, 2) := by decide +kernel
theorem dX17_fits_105 : decode cX17_fits 105 = .ok (.i2l, 1) := by decide +kernel
theorem dX17_fits_106 : decode cX17_fits 106 = .ok (.lcmp, 1) := by decide +kernel
theorem dX17_fits_107 : decode cX17_fits 107 = .ok (.ifCond .ge 7, 3) := by decide +kernel
theorem dX17_fits_110 : decode cX17_fits 110 = .ok (.iconst 1, 1) := by decide +kernel
theorem dX17_fits_111 : decode cX17_fits 111 = .ok (.goto 4, 3) := by decide +kernel
theorem dX17_fits_114 : decode cX17_fits 114 = .ok (.iconst 0, 1) := by decide +kernel
theorem dX17_fits_115 : decode cX17_fits 115 = .ok (.ireturn, 1) := by decide +kernel
theorem dX17_fits_116 : decode cX17_fits 116 = .ok (.iconst 0, 1) := by decide +kernel
theorem dX17_fits_117 : decode cX17_fits 117 = .ok (.istore 9, 2) := by decide +kernel
theorem dX17_fits_119 : decode cX17_fits 119 = .ok (.iload 9, 2) := by decide +kernel
theorem dX17_fits_121 : decode cX17_fits 121 = .ok (.iconst 2, 1) := by decide +kernel
theorem dX17_fits_122 : decode cX17_fits 122 = .ok (.iload 6, 2) := by decide +kernel
theorem dX17_fits_124 : decode cX17_fits 124 = .ok (.imul, 1) := by decide +kernel
theorem dX17_fits_125 : decode cX17_fits 125 = .ok (.if_icmp .ge 23, 3) := by decide +kernel
theorem dX17_fits_128 : decode cX17_fits 128 = .ok (.aload_n 0, 1) := by decide +kernel
theorem dX17_fits_129 : decode cX17_fits 129 = .ok (.getfield 22, 3) := by decide +kernel
theorem dX17_fits_132 : decode cX17_fits 132 = .ok (.iload 9, 2) := by decide +kernel
theorem dX17_fits_134 : decode cX17_fits 134 = .ok (.laload, 1) := by decide +kernel
theorem dX17_fits_135 : decode cX17_fits 135 = .ok (.lconst 0, 1) := by decide +kernel
theorem dX17_fits_136 : decode cX17_fits 136 = .ok (.lcmp, 1) := by decide +kernel
theorem dX17_fits_137 : decode cX17_fits 137 = .ok (.ifCond .eq 5, 3) := by decide +kernel
theorem dX17_fits_140 : decode cX17_fits 140 = .ok (.iconst 0, 1) := by decide +kernel
theorem dX17_fits_141 : decode cX17_fits 141 = .ok (.ireturn, 1) := by decide +kernel
theorem dX17_fits_142 : decode cX17_fits 142 = .ok (.iinc 9 1, 3) := by decide +kernel
theorem dX17_fits_145 : decode cX17_fits 145 = .ok (.goto (-26), 3) := by decide +kernel
theorem dX17_fits_148 : decode cX17_fits 148 = .ok (.iconst 1, 1) := by decide +kernel
theorem dX17_fits_149 : decode cX17_fits 149 = .ok (.ireturn, 1) := by decide +kernel
theorem dX17_times_0 : decode cX17_times 0 = .ok (.iconst 0, 1) := by decide +kernel
theorem dX17_times_1 : decode cX17_times 1 = .ok (.istore 5, 2) := by decide +kernel
theorem dX17_times_3 : decode cX17_times 3 = .ok (.iload 5, 2) := by decide +kernel
theorem dX17_times_5 : decode cX17_times 5 = .ok (.bipush 8, 2) := by decide +kernel
theorem dX17_times_7 : decode cX17_times 7 = .ok (.if_icmp .ge 17, 3) := by decide +kernel
theorem dX17_times_10 : decode cX17_times 10 = .ok (.aload_n 0, 1) := by decide +kernel
theorem dX17_times_11 : decode cX17_times 11 = .ok (.getfield 25, 3) := by decide +kernel
theorem dX17_times_14 : decode cX17_times 14 = .ok (.iload 5, 2) := by decide +kernel
theorem dX17_times_16 : decode cX17_times 16 = .ok (.lconst 0, 1) := by decide +kernel
theorem dX17_times_17 : decode cX17_times 17 = .ok (.lastore, 1) := by decide +kernel
theorem dX17_times_18 : decode cX17_times 18 = .ok (.iinc 5 1, 3) := by decide +kernel
theorem dX17_times_21 : decode cX17_times 21 = .ok (.goto (-18), 3) := by decide +kernel
theorem dX17_times_24 : decode cX17_times 24 = .ok (.iconst 0, 1) := by decide +kernel
theorem dX17_times_25 : decode cX17_times 25 = .ok (.istore 5, 2) := by decide +kernel
theorem dX17_times_27 : decode cX17_times 27 = .ok (.iload 5, 2) := by decide +kernel
theorem dX17_times_29 : decode cX17_times 29 = .ok (.iconst 3, 1) := by decide +kernel
theorem dX17_times_30 : decode cX17_times 30 = .ok (.if_icmp .ge 109, 3) := by decide +kernel
theorem dX17_times_33 : decode cX17_times 33 = .ok (.iload 5, 2) := by decide +kernel
theorem dX17_times_35 : decode cX17_times 35 = .ok (.ifCond .ne 11, 3) := by decide +kernel
theorem dX17_times_38 : decode cX17_times 38 = .ok (.lload_n 3, 1) := by decide +kernel
theorem dX17_times_39 : decode cX17_times 39 = .ok (.ldc2_w 69, 3) := by decide +kernel
theorem dX17_times_42 : decode cX17_times 42 = .ok (.land, 1) := by decide +kernel
theorem dX17_times_43 : decode cX17_times 43 = .ok (.goto 17, 3) := by decide +kernel
theorem dX17_times_46 : decode cX17_times 46 = .ok (.iload 5, 2) := by decide +kernel
theorem dX17_times_48 : decode cX17_times 48 = .ok (.iconst 1, 1) := by decide +kernel
theorem dX17_times_49 : decode cX17_times 49 = .ok (.if_icmp .ne 10, 3) := by decide +kernel
theorem dX17_times_52 : decode cX17_times 52 = .ok (.lload_n 3, 1) := by decide +kernel
theorem dX17_times_53 : decode cX17_times 53 = .ok (.bipush 32, 2) := by decide +kernel
theorem dX17_times_55 : decode cX17_times 55 = .ok (.lushr, 1) := by decide +kernel
theorem dX17_times_56 : decode cX17_times 56 = .ok (.goto 4, 3) := by decide +kernel
theorem dX17_times_59 : decode cX17_times 59 = .ok (.lload_n 1, 1) := by decide +kernel
theorem dX17_times_60 : decode cX17_times 60 = .ok (.lstore 6, 2) := by decide +kernel
theorem dX17_times_62 : decode cX17_times 62 = .ok (.lconst 0, 1) := by decide +kernel
theorem dX17_times_63 : decode cX17_times 63 = .ok (.lstore 8, 2) := by decide +kernel
theorem dX17_times_65 : decode cX17_times 65 = .ok (.iconst 0, 1) := by decide +kernel
theorem dX17_times_66 : decode cX17_times 66 = .ok (.istore 10, 2) := by decide +kernel
theorem dX17_times_68 : decode cX17_times 68 = .ok (.iload 5, 2) := by decide +kernel
theorem dX17_times_70 : decode cX17_times 70 = .ok (.iload 10, 2) := by decide +kernel
theorem dX17_times_72 : decode cX17_times 72 = .ok (.iadd, 1) := by decide +kernel
theorem dX17_times_73 : decode cX17_times 73 = .ok (.bipush 8, 2) := by decide +kernel
theorem dX17_times_75 : decode cX17_times 75 = .ok (.if_icmp .ge 58, 3) := by decide +kernel
theorem dX17_times_78 : decode cX17_times 78 = .ok (.aload_n 0, 1) := by decide +kernel
theorem dX17_times_79 : decode cX17_times 79 = .ok (.getfield 25, 3) := by decide +kernel
theorem dX17_times_82 : decode cX17_times 82 = .ok (.iload 5, 2) := by decide +kernel
theorem dX17_times_84 : decode cX17_times 84 = .ok (.iload 10, 2) := by decide +kernel
theorem dX17_times_86 : decode cX17_times 86 = .ok (.iadd, 1) := by decide +kernel
theorem dX17_times_87 : decode cX17_times 87 = .ok (.laload, 1) := by decide +kernel
theorem dX17_times_88 : decode cX17_times 88 = .ok (.lload 6, 2) := by decide +kernel
theorem dX17_times_90 : decode cX17_times 90 = .ok (.aload_n 0, 1) := by decide +kernel
theorem dX17_times_91 : decode cX17_times 91 = .ok (.getfield 22, 3) := by decide +kernel
theorem dX17_times_94 : decode cX17_times 94 = .ok (.iload 10, 2) := by decide +kernel
theorem dX17_times_96 : decode cX17_times 96 = .ok (.laload, 1) := by decide +kernel
theorem dX17_times_97 : decode cX17_times 97 = .ok (.lmul, 1) := by decide +kernel
theorem dX17_times_98 : decode cX17_times 98 = .ok (.ladd, 1) := by decide +kernel
theorem dX17_times_99 : decode cX17_times 99 = .ok (.lload 8, 2) := by decide +kernel
theorem dX17_times_101 : decode cX17_times 101 = .ok (.ladd, 1) := by decide +kernel
theorem dX17_times_102 : decode cX17_times 102 = .ok (.lstore 11, 2) := by decide +kernel
theorem dX17_times_104 : decode cX17_times 104 = .ok (.aload_n 0, 1) := by decide +kernel
theorem dX17_times_105 : decode cX17_times 105 = .ok (.getfield 25, 3) := by decide +kernel
theorem dX17_times_108 : decode cX17_times 108 = .ok (.iload 5, 2) := by decide +kernel
theorem dX17_times_110 : decode cX17_times 110 = .ok (.iload 10, 2) := by decide +kernel
theorem dX17_times_112 : decode cX17_times 112 = .ok (.iadd, 1) := by decide +kernel
theorem dX17_times_113 : decode cX17_times 113 = .ok (.lload 11, 2) := by decide +kernel
theorem dX17_times_115 : decode cX17_times 115 = .ok (.ldc2_w 69, 3) := by decide +kernel
theorem dX17_times_118 : decode cX17_times 118 = .ok (.land, 1) := by decide +kernel
theorem dX17_times_119 : decode cX17_times 119 = .ok (.lastore, 1) := by decide +kernel
theorem dX17_times_120 : decode cX17_times 120 = .ok (.lload 11, 2) := by decide +kernel
theorem dX17_times_122 : decode cX17_times 122 = .ok (.bipush 32, 2) := by decide +kernel
theorem dX17_times_124 : decode cX17_times 124 = .ok (.lushr, 1) := by decide +kernel
theorem dX17_times_125 : decode cX17_times 125 = .ok (.lstore 8, 2) := by decide +kernel
theorem dX17_times_127 : decode cX17_times 127 = .ok (.iinc 10 1, 3) := by decide +kernel
theorem dX17_times_130 : decode cX17_times 130 = .ok (.goto (-62), 3) := by decide +kernel
theorem dX17_times_133 : decode cX17_times 133 = .ok (.iinc 5 1, 3) := by decide +kernel
theorem dX17_times_136 : decode cX17_times 136 = .ok (.goto (-109), 3) := by decide +kernel
theorem dX17_times_139 : decode cX17_times 139 = .ok (.iconst 0, 1) := by decide +kernel
theorem dX17_times_140 : decode cX17_times 140 = .ok (.istore 5, 2) := by decide +kernel
theorem dX17_times_142 : decode cX17_times 142 = .ok (.iload 5, 2) := by decide +kernel
theorem dX17_times_144 : decode cX17_times 144 = .ok (.bipush 8, 2) := by decide +kernel
theorem dX17_times_146 : decode cX17_times 146 = .ok (.if_icmp .ge 23, 3) := by decide +kernel
theorem dX17_times_149 : decode cX17_times 149 = .ok (.aload_n 0, 1) := by decide +kernel
theorem dX17_times_150 : decode cX17_times 150 = .ok (.getfield 22, 3) := by decide +kernel
theorem dX17_times_153 : decode cX17_times 153 = .ok (.iload 5, 2) := by decide +kernel
theorem dX17_times_155 : decode cX17_times 155 = .ok (.aload_n 0, 1) := by decide +kernel
theorem dX17_times_156 : decode cX17_times 156 = .ok (.getfield 25, 3) := by decide +kernel
theorem dX17_times_159 : decode cX17_times 159 = .ok (.iload 5, 2) := by decide +kernel
theorem dX17_times_161 : decode cX17_times 161 = .ok (.laload, 1) := by decide +kernel
theorem dX17_times_162 : decode cX17_times 162 = .ok (.lastore, 1) := by decide +kernel
theorem dX17_times_163 : decode cX17_times 163 = .ok (.iinc 5 1, 3) := by decide +kernel
theorem dX17_times_166 : decode cX17_times 166 = .ok (.goto (-24), 3) := by decide +kernel
theorem dX17_times_169 : decode cX17_times 169 = .ok (.return_, 1) := by decide +kernel
theorem dX18_init_0 : decode cX18_init 0 = .ok (.aload_n 0, 1) := by decide +kernel
theorem dX18_init_1 : decode cX18_init 1 = .ok (.invokespecial 1, 3) := by decide +kernel
theorem dX18_init_4 : decode cX18_init 4 = .ok (.aload_n 0, 1) := by decide +kernel
theorem dX18_init_5 : decode cX18_init 5 = .ok (.bipush 32, 2) := by decide +kernel
theorem dX18_init_7 : decode cX18_init 7 = .ok (.newarray .long, 2) := by decide +kernel
theorem dX18_init_9 : decode cX18_init 9 = .ok (.putfield 7, 3) := by decide +kernel
theorem dX18_init_12 : decode cX18_init 12 = .ok (.aload_n 0, 1) := by decide +kernel
theorem dX18_init_13 : decode cX18_init 13 = .ok (.bipush 18, 2) := by decide +kernel
theorem dX18_init_15 : decode cX18_init 15 = .ok (.newarray .long, 2) := by decide +kernel
theorem dX18_init_17 : decode cX18_init 17 = .ok (.putfield 13, 3) := by decide +kernel
theorem dX18_init_20 : decode cX18_init 20 = .ok (.aload_n 0, 1) := by decide +kernel
theorem dX18_init_21 : decode cX18_init 21 = .ok (.bipush 16, 2) := by decide +kernel
theorem dX18_init_23 : decode cX18_init 23 = .ok (.newarray .long, 2) := by decide +kernel
theorem dX18_init_25 : decode cX18_init 25 = .ok (.putfield 16, 3) := by decide +kernel
theorem dX18_init_28 : decode cX18_init 28 = .ok (.aload_n 0, 1) := by decide +kernel
theorem dX18_init_29 : decode cX18_init 29 = .ok (.bipush 16, 2) := by decide +kernel
theorem dX18_init_31 : decode cX18_init 31 = .ok (.newarray .long, 2) := by decide +kernel
theorem dX18_init_33 : decode cX18_init 33 = .ok (.putfield 19, 3) := by decide +kernel
theorem dX18_init_36 : decode cX18_init 36 = .ok (.aload_n 0, 1) := by decide +kernel
theorem dX18_init_37 : decode cX18_init 37 = .ok (.bipush 17, 2) := by decide +kernel
theorem dX18_init_39 : decode cX18_init 39 = .ok (.newarray .long, 2) := by decide +kernel
theorem dX18_init_41 : decode cX18_init 41 = .ok (.putfield 22, 3) := by decide +kernel
theorem dX18_init_44 : decode cX18_init 44 = .ok (.aload_n 0, 1) := by decide +kernel
theorem dX18_init_45 : decode cX18_init 45 = .ok (.bipush 17, 2) := by decide +kernel
theorem dX18_init_47 : decode cX18_init 47 = .ok (.newarray .long, 2) := by decide +kernel
theorem dX18_init_49 : decode cX18_init 49 = .ok (.putfield 25, 3) := by decide +kernel
theorem dX18_init_52 : decode cX18_init 52 = .ok (.return_, 1) := by decide +kernel
theorem dX18_copy_0 : decode cX18_copy 0 = .ok (.iconst 0, 1) := by decide +kernel
theorem dX18_copy_1 : decode cX18_copy 1 = .ok (.istore_n 2, 1) := by decide +kernel
theorem dX18_copy_2 : decode cX18_copy 2 = .ok (.iload_n 2, 1) := by decide +kernel
theorem dX18_copy_3 : decode cX18_copy 3 = .ok (.bipush 16, 2) := by decide +kernel
theorem dX18_copy_5 : decode cX18_copy 5 = .ok (.if_icmp .ge 15, 3) := by decide +kernel
theorem dX18_copy_8 : decode cX18_copy 8 = .ok (.aload_n 0, 1) := by decide +kernel
theorem dX18_copy_9 : decode cX18_copy 9 = .ok (.iload_n 2, 1) := by decide +kernel
theorem dX18_copy_10 : decode cX18_copy 10 = .ok (.aload_n 1, 1) := by decide +kernel
theorem dX18_copy_11 : decode cX18_copy 11 = .ok (.iload_n 2, 1) := by decide +kernel
theorem dX18_copy_12 : decode cX18_copy 12 = .ok (.laload, 1) := by decide +kernel
theorem dX18_copy_13 : decode cX18_copy 13 = .ok (.lastore, 1) := by decide +kernel
theorem dX18_copy_14 : decode cX18_copy 14 = .ok (.iinc 2 1, 3) := by decide +kernel
theorem dX18_copy_17 : decode cX18_copy 17 = .ok (.goto (-15), 3) := by decide +kernel
theorem dX18_copy_20 : decode cX18_copy 20 = .ok (.return_, 1) := by decide +kernel
theorem dX18_set_0 : decode cX18_set 0 = .ok (.iconst 0, 1) := by decide +kernel
theorem dX18_set_1 : decode cX18_set 1 = .ok (.istore_n 2, 1) := by decide +kernel
theorem dX18_set_2 : decode cX18_set 2 = .ok (.iload_n 2, 1) := by decide +kernel
theorem dX18_set_3 : decode cX18_set 3 = .ok (.bipush 16, 2) := by decide +kernel
theorem dX18_set_5 : decode cX18_set 5 = .ok (.if_icmp .ge 22, 3) := by decide +kernel
theorem dX18_set_8 : decode cX18_set 8 = .ok (.aload_n 0, 1) := by decide +kernel
theorem dX18_set_9 : decode cX18_set 9 = .ok (.iload_n 2, 1) := by decide +kernel
theorem dX18_set_10 : decode cX18_set 10 = .ok (.iload_n 2, 1) := by decide +kernel
theorem dX18_set_11 : decode cX18_set 11 = .ok (.ifCond .ne 8, 3) := by decide +kernel
theorem dX18_set_14 : decode cX18_set 14 = .ok (.iload_n 1, 1) := by decide +kernel
theorem dX18_set_15 : decode cX18_set 15 = .ok (.i2l, 1) := by decide +kernel
theorem dX18_set_16 : decode cX18_set 16 = .ok (.goto 4, 3) := by decide +kernel
theorem dX18_set_19 : decode cX18_set 19 = .ok (.lconst 0, 1) := by decide +kernel
theorem dX18_set_20 : decode cX18_set 20 = .ok (.lastore, 1) := by decide +kernel
theorem dX18_set_21 : decode cX18_set 21 = .ok (.iinc 2 1, 3) := by decide +kernel
theorem dX18_set_24 : decode cX18_set 24 = .ok (.goto (-22), 3) := by decide +kernel
theorem dX18_set_27 : decode cX18_set 27 = .ok (.return_, 1) := by decide +kernel
theorem dX18_zero_0 : decode cX18_zero 0 = .ok (.iconst 0, 1) := by decide +kernel
theorem dX18_zero_1 : decode cX18_zero 1 = .ok (.istore_n 1, 1) := by decide +kernel
theorem dX18_zero_2 : decode cX18_zero 2 = .ok (.iload_n 1, 1) := by decide +kernel
theorem dX18_zero_3 : decode cX18_zero 3 = .ok (.bipush 16, 2) := by decide +kernel
theorem dX18_zero_5 : decode cX18_zero 5 = .ok (.if_icmp .ge 19, 3) := by decide +kernel
theorem dX18_zero_8 : decode cX18_zero 8 = .ok (.aload_n 0, 1) := by decide +kernel
theorem dX18_zero_9 : decode cX18_zero 9 = .ok (.iload_n 1, 1) := by decide +kernel
theorem dX18_zero_10 : decode cX18_zero 10 = .ok (.laload, 1) := by decide +kernel
theorem dX18_zero_11 : decode cX18_zero 11 = .ok (.lconst 0, 1) := by decide +kernel
theorem dX18_zero_12 : decode cX18_zero 12 = .ok (.lcmp, 1) := by decide +kernel
theorem dX18_zero_13 : decode cX18_zero 13 = .ok (.ifCond .eq 5, 3) := by decide +kernel
theorem dX18_zero_16 : decode cX18_zero 16 = .ok (.iconst 0, 1) := by decide +kernel
theorem dX18_zero_17 : decode cX18_zero 17 = .ok (.ireturn, 1) := by decide +kernel
theorem dX18_zero_18 : decode cX18_zero 18 = .ok (.iinc 1 1, 3) := by decide +kernel
theorem dX18_zero_21 : decode cX18_zero 21 = .ok (.goto (-19), 3) := by decide +kernel
theorem dX18_zero_24 : decode cX18_zero 24 = .ok (.iconst 1, 1) := by decide +kernel
theorem dX18_zero_25 : decode cX18_zero 25 = .ok (.ireturn, 1) := by decide +kernel
theorem dX18_below_0 : decode cX18_below 0 = .ok (.bipush 15, 2) := by decide +kernel
theorem dX18_below_2 : decode cX18_below 2 = .ok (.istore_n 2, 1) := by decide +kernel
theorem dX18_below_3 : decode cX18_below 3 = .ok (.iload_n 2, 1) := by decide +kernel
theorem dX18_below_4 : decode cX18_below 4 = .ok (.ifCond .lt 35, 3) := by decide +kernel
theorem dX18_below_7 : decode cX18_below 7 = .ok (.aload_n 0, 1) := by decide +kernel
theorem dX18_below_8 : decode cX18_below 8 = .ok (.iload_n 2, 1) := by decide +kernel
theorem dX18_below_9 : decode cX18_below 9 = .ok (.laload, 1) := by decide +kernel
theorem dX18_below_10 : decode cX18_below 10 = .ok (.aload_n 1, 1) := by decide +kernel
theorem dX18_below_11 : decode cX18_below 11 = .ok (.iload_n 2, 1) := by decide +kernel
theorem dX18_below_12 : decode cX18_below 12 = .ok (.laload, 1) := by decide +kernel
theorem dX18_below_13 : decode cX18_below 13 = .ok (.lcmp, 1) := by decide +kernel
theorem dX18_below_14 : decode cX18_below 14 = .ok (.ifCond .eq 19, 3) := by decide +kernel
theorem dX18_below_17 : decode cX18_below 17 = .ok (.aload_n 0, 1) := by decide +kernel
theorem dX18_below_18 : decode cX18_below 18 = .ok (.iload_n 2, 1) := by decide +kernel
theorem dX18_below_19 : decode cX18_below 19 = .ok (.laload, 1) := by decide +kernel
theorem dX18_below_20 : decode cX18_below 20 = .ok (.aload_n 1, 1) := by decide +kernel
theorem dX18_below_21 : decode cX18_below 21 = .ok (.iload_n 2, 1) := by decide +kernel
theorem dX18_below_22 : decode cX18_below 22 = .ok (.laload, 1) := by decide +kernel
theorem dX18_below_23 : decode cX18_below 23 = .ok (.lcmp, 1) := by decide +kernel
theorem dX18_below_24 : decode cX18_below 24 = .ok (.ifCond .ge 7, 3) := by decide +kernel
theorem dX18_below_27 : decode cX18_below 27 = .ok (.iconst 1, 1) := by decide +kernel
theorem dX18_below_28 : decode cX18_below 28 = .ok (.goto 4, 3) := by decide +kernel
theorem dX18_below_31 : decode cX18_below 31 = .ok (.iconst 0, 1) := by decide +kernel
theorem dX18_below_32 : decode cX18_below 32 = .ok (.ireturn, 1) := by decide +kernel
theorem dX18_below_33 : decode cX18_below 33 = .ok (.iinc 2 (-1), 3) := by decide +kernel
theorem dX18_below_36 : decode cX18_below 36 = .ok (.goto (-33), 3) := by decide +kernel
theorem dX18_below_39 : decode cX18_below 39 = .ok (.iconst 0, 1) := by decide +kernel
theorem dX18_below_40 : decode cX18_below 40 = .ok (.ireturn, 1) := by decide +kernel
theorem dX18_alike_0 : decode cX18_alike 0 = .ok (.iconst 0, 1) := by decide +kernel
theorem dX18_alike_1 : decode cX18_alike 1 = .ok (.istore_n 2, 1) := by decide +kernel
theorem dX18_alike_2 : decode cX18_alike 2 = .ok (.iload_n 2, 1) := by decide +kernel
theorem dX18_alike_3 : decode cX18_alike 3 = .ok (.bipush 16, 2) := by decide +kernel
theorem dX18_alike_5 : decode cX18_alike 5 = .ok (.if_icmp .ge 21, 3) := by decide +kernel
theorem dX18_alike_8 : decode cX18_alike 8 = .ok (.aload_n 0, 1) := by decide +kernel
theorem dX18_alike_9 : decode cX18_alike 9 = .ok (.iload_n 2, 1) := by decide +kernel
theorem dX18_alike_10 : decode cX18_alike 10 = .ok (.laload, 1) := by decide +kernel
theorem dX18_alike_11 : decode cX18_alike 11 = .ok (.aload_n 1, 1) := by decide +kernel
theorem dX18_alike_12 : decode cX18_alike 12 = .ok (.iload_n 2, 1) := by decide +kernel
theorem dX18_alike_13 : decode cX18_alike 13 = .ok (.laload, 1) := by decide +kernel
theorem dX18_alike_14 : decode cX18_alike 14 = .ok (.lcmp, 1) := by decide +kernel
theorem dX18_alike_15 : decode cX18_alike 15 = .ok (.ifCond .eq 5, 3) := by decide +kernel
theorem dX18_alike_18 : decode cX18_alike 18 = .ok (.iconst 0, 1) := by decide +kernel
theorem dX18_alike_19 : decode cX18_alike 19 = .ok (.ireturn, 1) := by decide +kernel
theorem dX18_alike_20 : decode cX18_alike 20 = .ok (.iinc 2 1, 3) := by decide +kernel
theorem dX18_alike_23 : decode cX18_alike 23 = .ok (.goto (-21), 3) := by decide +kernel
theorem dX18_alike_26 : decode cX18_alike 26 = .ok (.iconst 1, 1) := by decide +kernel
theorem dX18_alike_27 : decode cX18_alike 27 = .ok (.ireturn, 1) := by decide +kernel
theorem dX18_less_0 : decode cX18_less 0 = .ok (.lconst 0, 1) := by decide +kernel
theorem dX18_less_1 : decode cX18_less 1 = .ok (.lstore_n 3, 1) := by decide +kernel
theorem dX18_less_2 : decode cX18_less 2 = .ok (.iconst 0, 1) := by decide +kernel
theorem dX18_less_3 : decode cX18_less 3 = .ok (.istore 5, 2) := by decide +kernel
theorem dX18_less_5 : decode cX18_less 5 = .ok (.iload 5, 2) := by decide +kernel
theorem dX18_less_7 : decode cX18_less 7 = .ok (.bipush 16, 2) := by decide +kernel
theorem dX18_less_9 : decode cX18_less 9 = .ok (.if_icmp .ge 45, 3) := by decide +kernel
theorem dX18_less_12 : decode cX18_less 12 = .ok (.aload_n 1, 1) := by decide +kernel
theorem dX18_less_13 : decode cX18_less 13 = .ok (.iload 5, 2) := by decide +kernel
theorem dX18_less_15 : decode cX18_less 15 = .ok (.laload, 1) := by decide +kernel
theorem dX18_less_16 : decode cX18_less 16 = .ok (.aload_n 2, 1) := by decide +kernel
theorem dX18_less_17 : decode cX18_less 17 = .ok (.iload 5, 2) := by decide +kernel
theorem dX18_less_19 : decode cX18_less 19 = .ok (.laload, 1) := by decide +kernel
theorem dX18_less_20 : decode cX18_less 20 = .ok (.lsub, 1) := by decide +kernel
theorem dX18_less_21 : decode cX18_less 21 = .ok (.lload_n 3, 1) := by decide +kernel
theorem dX18_less_22 : decode cX18_less 22 = .ok (.lsub, 1) := by decide +kernel
theorem dX18_less_23 : decode cX18_less 23 = .ok (.lstore 6, 2) := by decide +kernel
theorem dX18_less_25 : decode cX18_less 25 = .ok (.lload 6, 2) := by decide +kernel
theorem dX18_less_27 : decode cX18_less 27 = .ok (.lconst 0, 1) := by decide +kernel
theorem dX18_less_28 : decode cX18_less 28 = .ok (.lcmp, 1) := by decide +kernel
theorem dX18_less_29 : decode cX18_less 29 = .ok (.ifCond .ge 7, 3) := by decide +kernel
theorem dX18_less_32 : decode cX18_less 32 = .ok (.lconst 1, 1) := by decide +kernel
theorem dX18_less_33 : decode cX18_less 33 = .ok (.goto 4, 3) := by decide +kernel
theorem dX18_less_36 : decode cX18_less 36 = .ok (.lconst 0, 1) := by decide +kernel
theorem dX18_less_37 : decode cX18_less 37 = .ok (.lstore_n 3, 1) := by decide +kernel
theorem dX18_less_38 : decode cX18_less 38 = .ok (.aload_n 0, 1) := by decide +kernel
theorem dX18_less_39 : decode cX18_less 39 = .ok (.iload 5, 2) := by decide +kernel
theorem dX18_less_41 : decode cX18_less 41 = .ok (.lload 6, 2) := by decide +kernel
theorem dX18_less_43 : decode cX18_less 43 = .ok (.ldc2_w 28, 3) := by decide +kernel
theorem dX18_less_46 : decode cX18_less 46 = .ok (.land, 1) := by decide +kernel
theorem dX18_less_47 : decode cX18_less 47 = .ok (.lastore, 1) := by decide +kernel
theorem dX18_less_48 : decode cX18_less 48 = .ok (.iinc 5 1, 3) := by decide +kernel
theorem dX18_less_51 : decode cX18_less 51 = .ok (.goto (-46), 3) := by decide +kernel
theorem dX18_less_54 : decode cX18_less 54 = .ok (.return_, 1) := by decide +kernel
theorem dX18_plus_0 : decode cX18_plus 0 = .ok (.lconst 0, 1) := by decide +kernel
theorem dX18_plus_1 : decode cX18_plus 1 = .ok (.lstore 4, 2) := by decide +kernel
theorem dX18_plus_3 : decode cX18_plus 3 = .ok (.iconst 0, 1) := by decide +kernel
theorem dX18_plus_4 : decode cX18_plus 4 = .ok (.istore 6, 2) := by decide +kernel
theorem dX18_plus_6 : decode cX18_plus 6 = .ok (.iload 6, 2) := by decide +kernel
theorem dX18_plus_8 : decode cX18_plus 8 = .ok (.bipush 16, 2) := by decide +kernel
theorem dX18_plus_10 : decode cX18_plus 10 = .ok (.if_icmp .ge 40, 3) := by decide +kernel
theorem dX18_plus_13 : decode cX18_plus 13 = .ok (.lload 4, 2) := by decide +kernel
theorem dX18_plus_15 : decode cX18_plus 15 = .ok (.aload_n 1, 1) := by decide +kernel
theorem dX18_plus_16 : decode cX18_plus 16 = .ok (.iload 6, 2) := by decide +kernel
theorem dX18_plus_18 : decode cX18_plus 18 = .ok (.laload, 1) := by decide +kernel
theorem dX18_plus_19 : decode cX18_plus 19 = .ok (.aload_n 2, 1) := by decide +kernel
theorem dX18_plus_20 : decode cX18_plus 20 = .ok (.iload 6, 2) := by decide +kernel
theorem dX18_plus_22 : decode cX18_plus 22 = .ok (.laload, 1) := by decide +kernel
theorem dX18_plus_23 : decode cX18_plus 23 = .ok (.ladd, 1) := by decide +kernel
theorem dX18_plus_24 : decode cX18_plus 24 = .ok (.ladd, 1) := by decide +kernel
theorem dX18_plus_25 : decode cX18_plus 25 = .ok (.lstore 4, 2) := by decide +kernel
theorem dX18_plus_27 : decode cX18_plus 27 = .ok (.aload_n 0, 1) := by decide +kernel
theorem dX18_plus_28 : decode cX18_plus 28 = .ok (.iload 6, 2) := by decide +kernel
theorem dX18_plus_30 : decode cX18_plus 30 = .ok (.lload 4, 2) := by decide +kernel
theorem dX18_plus_32 : decode cX18_plus 32 = .ok (.ldc2_w 28, 3) := by decide +kernel
theorem dX18_plus_35 : decode cX18_plus 35 = .ok (.land, 1) := by decide +kernel
theorem dX18_plus_36 : decode cX18_plus 36 = .ok (.lastore, 1) := by decide +kernel
theorem dX18_plus_37 : decode cX18_plus 37 = .ok (.lload 4, 2) := by decide +kernel
theorem dX18_plus_39 : decode cX18_plus 39 = .ok (.bipush 16, 2) := by decide +kernel
theorem dX18_plus_41 : decode cX18_plus 41 = .ok (.lshr, 1) := by decide +kernel
theorem dX18_plus_42 : decode cX18_plus 42 = .ok (.lstore 4, 2) := by decide +kernel
theorem dX18_plus_44 : decode cX18_plus 44 = .ok (.iinc 6 1, 3) := by decide +kernel
theorem dX18_plus_47 : decode cX18_plus 47 = .ok (.goto (-41), 3) := by decide +kernel
theorem dX18_plus_50 : decode cX18_plus 50 = .ok (.lload 4, 2) := by decide +kernel
theorem dX18_plus_52 : decode cX18_plus 52 = .ok (.lconst 0, 1) := by decide +kernel
theorem dX18_plus_53 : decode cX18_plus 53 = .ok (.lcmp, 1) := by decide +kernel
theorem dX18_plus_54 : decode cX18_plus 54 = .ok (.ifCond .gt 11, 3) := by decide +kernel
theorem dX18_plus_57 : decode cX18_plus 57 = .ok (.aload_n 0, 1) := by decide +kernel
theorem dX18_plus_58 : decode cX18_plus 58 = .ok (.aload_n 3, 1) := by decide +kernel
theorem dX18_plus_59 : decode cX18_plus 59 = .ok (.invokestatic 30, 3) := by decide +kernel
theorem dX18_plus_62 : decode cX18_plus 62 = .ok (.ifCond .ne 9, 3) := by decide +kernel
theorem dX18_plus_65 : decode cX18_plus 65 = .ok (.aload_n 0, 1) := by decide +kernel
theorem dX18_plus_66 : decode cX18_plus 66 = .ok (.aload_n 0, 1) := by decide +kernel
theorem dX18_plus_67 : decode cX18_plus 67 = .ok (.aload_n 3, 1) := by decide +kernel
theorem dX18_plus_68 : decode cX18_plus 68 = .ok (.invokestatic 34, 3) := by decide +kernel
theorem dX18_plus_71 : decode cX18_plus 71 = .ok (.return_, 1) := by decide +kernel
theorem dX18_minus_0 : decode cX18_minus 0 = .ok (.lconst 0, 1) := by decide +kernel
theorem dX18_minus_1 : decode cX18_minus 1 = .ok (.lstore 4, 2) := by decide +kernel
theorem dX18_minus_3 : decode cX18_minus 3 = .ok (.iconst 0, 1) := by decide +kernel
theorem dX18_minus_4 : decode cX18_minus 4 = .ok (.istore 6, 2) := by decide +kernel
theorem dX18_minus_6 : decode cX18_minus 6 = .ok (.iload 6, 2) := by decide +kernel
theorem dX18_minus_8 : decode cX18_minus 8 = .ok (.bipush 16, 2) := by decide +kernel
theorem dX18_minus_10 : decode cX18_minus 10 = .ok (.if_icmp .ge 47, 3) := by decide +kernel
theorem dX18_minus_13 : decode cX18_minus 13 = .ok (.aload_n 1, 1) := by decide +kernel
theorem dX18_minus_14 : decode cX18_minus 14 = .ok (.iload 6, 2) := by decide +kernel
theorem dX18_minus_16 : decode cX18_minus 16 = .ok (.laload, 1) := by decide +kernel
theorem dX18_minus_17 : decode cX18_minus 17 = .ok (.aload_n 2, 1) := by decide +kernel
theorem dX18_minus_18 : decode cX18_minus 18 = .ok (.iload 6, 2) := by decide +kernel
theorem dX18_minus_20 : decode cX18_minus 20 = .ok (.laload, 1) := by decide +kernel
theorem dX18_minus_21 : decode cX18_minus 21 = .ok (.lsub, 1) := by decide +kernel
theorem dX18_minus_22 : decode cX18_minus 22 = .ok (.lload 4, 2) := by decide +kernel
theorem dX18_minus_24 : decode cX18_minus 24 = .ok (.lsub, 1) := by decide +kernel
theorem dX18_minus_25 : decode cX18_minus 25 = .ok (.lstore 7, 2) := by decide +kernel
theorem dX18_minus_27 : decode cX18_minus 27 = .ok (.lload 7, 2) := by decide +kernel
theorem dX18_minus_29 : decode cX18_minus 29 = .ok (.lconst 0, 1) := by decide +kernel
theorem dX18_minus_30 : decode cX18_minus 30 = .ok (.lcmp, 1) := by decide +kernel
theorem dX18_minus_31 : decode cX18_minus 31 = .ok (.ifCond .ge 7, 3) := by decide +kernel
theorem dX18_minus_34 : decode cX18_minus 34 = .ok (.lconst 1, 1) := by decide +kernel
theorem dX18_minus_35 : decode cX18_minus 35 = .ok (.goto 4, 3) := by decide +kernel
theorem dX18_minus_38 : decode cX18_minus 38 = .ok (.lconst 0, 1) := by decide +kernel
theorem dX18_minus_39 : decode cX18_minus 39 = .ok (.lstore 4, 2) := by decide +kernel
theorem dX18_minus_41 : decode cX18_minus 41 = .ok (.aload_n 0, 1) := by decide +kernel
theorem dX18_minus_42 : decode cX18_minus 42 = .ok (.iload 6, 2) := by decide +kernel
theorem dX18_minus_44 : decode cX18_minus 44 = .ok (.lload 7, 2) := by decide +kernel
theorem dX18_minus_46 : decode cX18_minus 46 = .ok (.ldc2_w 28, 3) := by decide +kernel
theorem dX18_minus_49 : decode cX18_minus 49 = .ok (.land, 1) := by decide +kernel
theorem dX18_minus_50 : decode cX18_minus 50 = .ok (.lastore, 1) := by decide +kernel
theorem dX18_minus_51 : decode cX18_minus 51 = .ok (.iinc 6 1, 3) := by decide +kernel
theorem dX18_minus_54 : decode cX18_minus 54 = .ok (.goto (-48), 3) := by decide +kernel
theorem dX18_minus_57 : decode cX18_minus 57 = .ok (.lload 4, 2) := by decide +kernel
theorem dX18_minus_59 : decode cX18_minus 59 = .ok (.lconst 0, 1) := by decide +kernel
theorem dX18_minus_60 : decode cX18_minus 60 = .ok (.lcmp, 1) := by decide +kernel
theorem dX18_minus_61 : decode cX18_minus 61 = .ok (.ifCond .ne 4, 3) := by decide +kernel
theorem dX18_minus_64 : decode cX18_minus 64 = .ok (.return_, 1) := by decide +kernel
theorem dX18_minus_65 : decode cX18_minus 65 = .ok (.lconst 0, 1) := by decide +kernel
theorem dX18_minus_66 : decode cX18_minus 66 = .ok (.lstore 6, 2) := by decide +kernel
theorem dX18_minus_68 : decode cX18_minus 68 = .ok (.iconst 0, 1) := by decide +kernel
theorem dX18_minus_69 : decode cX18_minus 69 = .ok (.istore 8, 2) := by decide +kernel
theorem dX18_minus_71 : decode cX18_minus 71 = .ok (.iload 8, 2) := by decide +kernel
theorem dX18_minus_73 : decode cX18_minus 73 = .ok (.bipush 16, 2) := by decide +kernel
theorem dX18_minus_75 : decode cX18_minus 75 = .ok (.if_icmp .ge 40, 3) := by decide +kernel
theorem dX18_minus_78 : decode cX18_minus 78 = .ok (.lload 6, 2) := by decide +kernel
theorem dX18_minus_80 : decode cX18_minus 80 = .ok (.aload_n 0, 1) := by decide +kernel
theorem dX18_minus_81 : decode cX18_minus 81 = .ok (.iload 8, 2) := by decide +kernel
theorem dX18_minus_83 : decode cX18_minus 83 = .ok (.laload, 1) := by decide +kernel
theorem dX18_minus_84 : decode cX18_minus 84 = .ok (.aload_n 3, 1) := by decide +kernel
theorem dX18_minus_85 : decode cX18_minus 85 = .ok (.iload 8, 2) := by decide +kernel
theorem dX18_minus_87 : decode cX18_minus 87 = .ok (.laload, 1) := by decide +kernel
theorem dX18_minus_88 : decode cX18_minus 88 = .ok (.ladd, 1) := by decide +kernel
theorem dX18_minus_89 : decode cX18_minus 89 = .ok (.ladd, 1) := by decide +kernel
theorem dX18_minus_90 : decode cX18_minus 90 = .ok (.lstore 6, 2) := by decide +kernel
theorem dX18_minus_92 : decode cX18_minus 92 = .ok (.aload_n 0, 1) := by decide +kernel
theorem dX18_minus_93 : decode cX18_minus 93 = .ok (.iload 8, 2) := by decide +kernel
theorem dX18_minus_95 : decode cX18_minus 95 = .ok (.lload 6, 2) := by decide +kernel
theorem dX18_minus_97 : decode cX18_minus 97 = .ok (.ldc2_w 28, 3) := by decide +kernel
theorem dX18_minus_100 : decode cX18_minus 100 = .ok (.land, 1) := by decide +kernel
theorem dX18_minus_101 : decode cX18_minus 101 = .ok (.lastore, 1) := by decide +kernel
theorem dX18_minus_102 : decode cX18_minus 102 = .ok (.lload 6, 2) := by decide +kernel
theorem dX18_minus_104 : decode cX18_minus 104 = .ok (.bipush 16, 2) := by decide +kernel
theorem dX18_minus_106 : decode cX18_minus 106 = .ok (.lshr, 1) := by decide +kernel
theorem dX18_minus_107 : decode cX18_minus 107 = .ok (.lstore 6, 2) := by decide +kernel
theorem dX18_minus_109 : decode cX18_minus 109 = .ok (.iinc 8 1, 3) := by decide +kernel
theorem dX18_minus_112 : decode cX18_minus 112 = .ok (.goto (-41), 3) := by decide +kernel
theorem dX18_minus_115 : decode cX18_minus 115 = .ok (.return_, 1) := by decide +kernel
theorem dX18_remainders_0 : decode cX18_remainders 0 = .ok (.aload_n 2, 1) := by decide +kernel
theorem dX18_remainders_1 : decode cX18_remainders 1 = .ok (.iconst 1, 1) := by decide +kernel
theorem dX18_remainders_2 : decode cX18_remainders 2 = .ok (.invokestatic 38, 3) := by decide +kernel
theorem dX18_remainders_5 : decode cX18_remainders 5 = .ok (.iconst 0, 1) := by decide +kernel
theorem dX18_remainders_6 : decode cX18_remainders 6 = .ok (.istore_n 3, 1) := by decide +kernel
theorem dX18_remainders_7 : decode cX18_remainders 7 = .ok (.iload_n 3, 1) := by decide +kernel
theorem dX18_remainders_8 : decode cX18_remainders 8 = .ok (.sipush 496, 3) := by decide +kernel
theorem dX18_remainders_11 : decode cX18_remainders 11 = .ok (.if_icmp .ge 62, 3) := by decide +kernel
theorem dX18_remainders_14 : decode cX18_remainders 14 = .ok (.aload_n 2, 1) := by decide +kernel
theorem dX18_remainders_15 : decode cX18_remainders 15 = .ok (.aload_n 2, 1) := by decide +kernel
theorem dX18_remainders_16 : decode cX18_remainders 16 = .ok (.aload_n 2, 1) := by decide +kernel
theorem dX18_remainders_17 : decode cX18_remainders 17 = .ok (.aload_n 1, 1) := by decide +kernel
theorem dX18_remainders_18 : decode cX18_remainders 18 = .ok (.invokestatic 42, 3) := by decide +kernel
theorem dX18_remainders_21 : decode cX18_remainders 21 = .ok (.iload_n 3, 1) := by decide +kernel
theorem dX18_remainders_22 : decode cX18_remainders 22 = .ok (.sipush 255, 3) := by decide +kernel
theorem dX18_remainders_25 : decode cX18_remainders 25 = .ok (.if_icmp .lt 42, 3) := by decide +kernel
theorem dX18_remainders_28 : decode cX18_remainders 28 = .ok (.iload_n 3, 1) := by decide +kernel
theorem dX18_remainders_29 : decode cX18_remainders 29 = .ok (.bipush 16, 2) := by decide +kernel
theorem dX18_remainders_31 : decode cX18_remainders 31 = .ok (.irem, 1) := by decide +kernel
theorem dX18_remainders_32 : decode cX18_remainders 32 = .ok (.bipush 15, 2) := by decide +kernel
theorem dX18_remainders_34 : decode cX18_remainders 34 = .ok (.if_icmp .ne 33, 3) := by decide +kernel
theorem dX18_remainders_37 : decode cX18_remainders 37 = .ok (.iconst 0, 1) := by decide +kernel
theorem dX18_remainders_38 : decode cX18_remainders 38 = .ok (.istore 4, 2) := by decide +kernel
theorem dX18_remainders_40 : decode cX18_remainders 40 = .ok (.iload 4, 2) := by decide +kernel
theorem dX18_remainders_42 : decode cX18_remainders 42 = .ok (.bipush 16, 2) := by decide +kernel
theorem dX18_remainders_44 : decode cX18_remainders 44 = .ok (.if_icmp .ge 23, 3) := by decide +kernel
theorem dX18_remainders_47 : decode cX18_remainders 47 = .ok (.aload_n 0, 1) := by decide +kernel
theorem dX18_remainders_48 : decode cX18_remainders 48 = .ok (.iload_n 3, 1) := by decide +kernel
theorem dX18_remainders_49 : decode cX18_remainders 49 = .ok (.sipush 255, 3) := by decide +kernel
theorem dX18_remainders_52 : decode cX18_remainders 52 = .ok (.isub, 1) := by decide +kernel
theorem dX18_remainders_53 : decode cX18_remainders 53 = .ok (.iload 4, 2) := by decide +kernel
theorem dX18_remainders_55 : decode cX18_remainders 55 = .ok (.iadd, 1) := by decide +kernel
theorem dX18_remainders_56 : decode cX18_remainders 56 = .ok (.aload_n 2, 1) := by decide +kernel
theorem dX18_remainders_57 : decode cX18_remainders 57 = .ok (.iload 4, 2) := by decide +kernel
theorem dX18_remainders_59 : decode cX18_remainders 59 = .ok (.laload, 1) := by decide +kernel
theorem dX18_remainders_60 : decode cX18_remainders 60 = .ok (.lastore, 1) := by decide +kernel
theorem dX18_remainders_61 : decode cX18_remainders 61 = .ok (.iinc 4 1, 3) := by decide +kernel
theorem dX18_remainders_64 : decode cX18_remainders 64 = .ok (.goto (-24), 3) := by decide +kernel
theorem dX18_remainders_67 : decode cX18_remainders 67 = .ok (.iinc 3 1, 3) := by decide +kernel
theorem dX18_remainders_70 : decode cX18_remainders 70 = .ok (.goto (-63), 3) := by decide +kernel
theorem dX18_remainders_73 : decode cX18_remainders 73 = .ok (.return_, 1) := by decide +kernel
theorem dX18_reduce_0 : decode cX18_reduce 0 = .ok (.iconst 0, 1) := by decide +kernel
theorem dX18_reduce_1 : decode cX18_reduce 1 = .ok (.istore 4, 2) := by decide +kernel
theorem dX18_reduce_3 : decode cX18_reduce 3 = .ok (.iload 4, 2) := by decide +kernel
theorem dX18_reduce_5 : decode cX18_reduce 5 = .ok (.bipush 16, 2) := by decide +kernel
theorem dX18_reduce_7 : decode cX18_reduce 7 = .ok (.if_icmp .ge 69, 3) := by decide +kernel
theorem dX18_reduce_10 : decode cX18_reduce 10 = .ok (.aload_n 0, 1) := by decide +kernel
theorem dX18_reduce_11 : decode cX18_reduce 11 = .ok (.getfield 7, 3) := by decide +kernel
theorem dX18_reduce_14 : decode cX18_reduce 14 = .ok (.iload 4, 2) := by decide +kernel
theorem dX18_reduce_16 : decode cX18_reduce 16 = .ok (.laload, 1) := by decide +kernel
theorem dX18_reduce_17 : decode cX18_reduce 17 = .ok (.lstore 5, 2) := by decide +kernel
theorem dX18_reduce_19 : decode cX18_reduce 19 = .ok (.iconst 0, 1) := by decide +kernel
theorem dX18_reduce_20 : decode cX18_reduce 20 = .ok (.istore 7, 2) := by decide +kernel
theorem dX18_reduce_22 : decode cX18_reduce 22 = .ok (.iload 7, 2) := by decide +kernel
theorem dX18_reduce_24 : decode cX18_reduce 24 = .ok (.bipush 16, 2) := by decide +kernel
theorem dX18_reduce_26 : decode cX18_reduce 26 = .ok (.if_icmp .ge 35, 3) := by decide +kernel
theorem dX18_reduce_29 : decode cX18_reduce 29 = .ok (.lload 5, 2) := by decide +kernel
theorem dX18_reduce_31 : decode cX18_reduce 31 = .ok (.aload_n 0, 1) := by decide +kernel
theorem dX18_reduce_32 : decode cX18_reduce 32 = .ok (.getfield 7, 3) := by decide +kernel
theorem dX18_reduce_35 : decode cX18_reduce 35 = .ok (.bipush 16, 2) := by decide +kernel
theorem dX18_reduce_37 : decode cX18_reduce 37 = .ok (.iload 7, 2) := by decide +kernel
theorem dX18_reduce_39 : decode cX18_reduce 39 = .ok (.iadd, 1) := by decide +kernel
theorem dX18_reduce_40 : decode cX18_reduce 40 = .ok (.laload, 1) := by decide +kernel
theorem dX18_reduce_41 : decode cX18_reduce 41 = .ok (.aload_n 3, 1) := by decide +kernel
theorem dX18_reduce_42 : decode cX18_reduce 42 = .ok (.bipush 16, 2) := by decide +kernel
theorem dX18_reduce_44 : decode cX18_reduce 44 = .ok (.iload 7, 2) := by decide +kernel
theorem dX18_reduce_46 : decode cX18_reduce 46 = .ok (.imul, 1) := by decide +kernel
theorem dX18_reduce_47 : decode cX18_reduce 47 = .ok (.iload 4, 2) := by decide +kernel
theorem dX18_reduce_49 : decode cX18_reduce 49 = .ok (.iadd, 1) := by decide +kernel
theorem dX18_reduce_50 : decode cX18_reduce 50 = .ok (.laload, 1) := by decide +kernel
theorem dX18_reduce_51 : decode cX18_reduce 51 = .ok (.lmul, 1) := by decide +kernel
theorem dX18_reduce_52 : decode cX18_reduce 52 = .ok (.ladd, 1) := by decide +kernel
theorem dX18_reduce_53 : decode cX18_reduce 53 = .ok (.lstore 5, 2) := by decide +kernel
theorem dX18_reduce_55 : decode cX18_reduce 55 = .ok (.iinc 7 1, 3) := by decide +kernel
theorem dX18_reduce_58 : decode cX18_reduce 58 = .ok (.goto (-36), 3) := by decide +kernel
theorem dX18_reduce_61 : decode cX18_reduce 61 = .ok (.aload_n 0, 1) := by decide +kernel
theorem dX18_reduce_62 : decode cX18_reduce 62 = .ok (.getfield 13, 3) := by decide +kernel
theorem dX18_reduce_65 : decode cX18_reduce 65 = .ok (.iload 4, 2) := by decide +kernel
theorem dX18_reduce_67 : decode cX18_reduce 67 = .ok (.lload 5, 2) := by decide +kernel
theorem dX18_reduce_69 : decode cX18_reduce 69 = .ok (.lastore, 1) := by decide +kernel
theorem dX18_reduce_70 : decode cX18_reduce 70 = .ok (.iinc 4 1, 3) := by decide +kernel
theorem dX18_reduce_73 : decode cX18_reduce 73 = .ok (.goto (-70), 3) := by decide +kernel
theorem dX18_reduce_76 : decode cX18_reduce 76 = .ok (.lconst 1, 1) := by decide +kernel
theorem dX18_reduce_77 : decode cX18_reduce 77 = .ok (.lstore 4, 2) := by decide +kernel
theorem dX18_reduce_79 : decode cX18_reduce 79 = .ok (.iconst 0, 1) := by decide +kernel
theorem dX18_reduce_80 : decode cX18_reduce 80 = .ok (.istore 6, 2) := by decide +kernel
theorem dX18_reduce_82 : decode cX18_reduce 82 = .ok (.iload 6, 2) := by decide +kernel
theorem dX18_reduce_84 : decode cX18_reduce 84 = .ok (.bipush 9, 2) := by decide +kernel
theorem dX18_reduce_86 : decode cX18_reduce 86 = .ok (.if_icmp .ge 104, 3) := by decide +kernel
theorem dX18_reduce_89 : decode cX18_reduce 89 = .ok (.lload 4, 2) := by decide +kernel
theorem dX18_reduce_91 : decode cX18_reduce 91 = .ok (.lconst 0, 1) := by decide +kernel
theorem dX18_reduce_92 : decode cX18_reduce 92 = .ok (.lcmp, 1) := by decide +kernel
theorem dX18_reduce_93 : decode cX18_reduce 93 = .ok (.ifCond .le 97, 3) := by decide +kernel
theorem dX18_reduce_96 : decode cX18_reduce 96 = .ok (.lconst 0, 1) := by decide +kernel
theorem dX18_reduce_97 : decode cX18_reduce 97 = .ok (.lstore 7, 2) := by decide +kernel
theorem dX18_reduce_99 : decode cX18_reduce 99 = .ok (.iconst 0, 1) := by decide +kernel
theorem dX18_reduce_100 : decode cX18_reduce 100 = .ok (.istore 9, 2) := by decide +kernel
theorem dX18_reduce_102 : decode cX18_reduce 102 = .ok (.iload 9, 2) := by decide +kernel
theorem dX18_reduce_104 : decode cX18_reduce 104 = .ok (.bipush 16, 2) := by decide +kernel
theorem dX18_reduce_106 : decode cX18_reduce 106 = .ok (.if_icmp .ge 41, 3) := by decide +kernel
theorem dX18_reduce_109 : decode cX18_reduce 109 = .ok (.lload 7, 2) := by decide +kernel
theorem dX18_reduce_111 : decode cX18_reduce 111 = .ok (.aload_n 0, 1) := by decide +kernel
theorem dX18_reduce_112 : decode cX18_reduce 112 = .ok (.getfield 13, 3) := by decide +kernel
theorem dX18_reduce_115 : decode cX18_reduce 115 = .ok (.iload 9, 2) := by decide +kernel
theorem dX18_reduce_117 : decode cX18_reduce 117 = .ok (.laload, 1) := by decide +kernel
theorem dX18_reduce_118 : decode cX18_reduce 118 = .ok (.ladd, 1) := by decide +kernel
theorem dX18_reduce_119 : decode cX18_reduce 119 = .ok (.lstore 7, 2) := by decide +kernel
theorem dX18_reduce_121 : decode cX18_reduce 121 = .ok (.aload_n 0, 1) := by decide +kernel
theorem dX18_reduce_122 : decode cX18_reduce 122 = .ok (.getfield 13, 3) := by decide +kernel
theorem dX18_reduce_125 : decode cX18_reduce 125 = .ok (.iload 9, 2) := by decide +kernel
theorem dX18_reduce_127 : decode cX18_reduce 127 = .ok (.lload 7, 2) := by decide +kernel
theorem dX18_reduce_129 : decode cX18_reduce 129 = .ok (.ldc2_w 28, 3) := by decide +kernel
theorem dX18_reduce_132 : decode cX18_reduce 132 = .ok (.land, 1) := by decide +kernel
theorem dX18_reduce_133 : decode cX18_reduce 133 = .ok (.lastore, 1) := by decide +kernel
theorem dX18_reduce_134 : decode cX18_reduce 134 = .ok (.lload 7, 2) := by decide +kernel
theorem dX18_reduce_136 : decode cX18_reduce 136 = .ok (.bipush 16, 2) := by decide +kernel
theorem dX18_reduce_138 : decode cX18_reduce 138 = .ok (.lshr, 1) := by decide +kernel
theorem dX18_reduce_139 : decode cX18_reduce 139 = .ok (.lstore 7, 2) := by decide +kernel
theorem dX18_reduce_141 : decode cX18_reduce 141 = .ok (.iinc 9 1, 3) := by decide +kernel
theorem dX18_reduce_144 : decode cX18_reduce 144 = .ok (.goto (-42), 3) := by decide +kernel
theorem dX18_reduce_147 : decode cX18_reduce 147 = .ok (.lload 7, 2) := by decide +kernel
theorem dX18_reduce_149 : decode cX18_reduce 149 = .ok (.lstore 4, 2) := by decide +kernel
theorem dX18_reduce_151 : decode cX18_reduce 151 = .ok (.iconst 0, 1) := by decide +kernel
theorem dX18_reduce_152 : decode cX18_reduce 152 = .ok (.istore 9, 2) := by decide +kernel
theorem dX18_reduce_154 : decode cX18_reduce 154 = .ok (.iload 9, 2) := by decide +kernel
theorem dX18_reduce_156 : decode cX18_reduce 156 = .ok (.bipush 16, 2) := by decide +kernel
theorem dX18_reduce_158 : decode cX18_reduce 158 = .ok (.if_icmp .ge 26, 3) := by decide +kernel
theorem dX18_reduce_161 : decode cX18_reduce 161 = .ok (.aload_n 0, 1) := by decide +kernel
theorem dX18_reduce_162 : decode cX18_reduce 162 = .ok (.getfield 13, 3) := by decide +kernel
theorem dX18_reduce_165 : decode cX18_reduce 165 = .ok (.iload 9, 2) := by decide +kernel
theorem dX18_reduce_167 : decode cX18_reduce 167 = .ok (.dup2, 1) := by decide +kernel
theorem dX18_reduce_168 : decode cX18_reduce 168 = .ok (.laload, 1) := by decide +kernel
theorem dX18_reduce_169 : decode cX18_reduce 169 = .ok (.lload 4, 2) := by decide +kernel
theorem dX18_reduce_171 : decode cX18_reduce 171 = .ok (.aload_n 3, 1) := by decide +kernel
theorem dX18_reduce_172 : decode cX18_reduce 172 = .ok (.iload 9, 2) := by decide +kernel
theorem dX18_reduce_174 : decode cX18_reduce 174 = .ok (.laload, 1) := by decide +kernel
theorem dX18_reduce_175 : decode cX18_reduce 175 = .ok (.lmul, 1) := by decide +kernel
theorem dX18_reduce_176 : decode cX18_reduce 176 = .ok (.ladd, 1) := by decide +kernel
theorem dX18_reduce_177 : decode cX18_reduce 177 = .ok (.lastore, 1) := by decide +kernel
theorem dX18_reduce_178 : decode cX18_reduce 178 = .ok (.iinc 9 1, 3) := by decide +kernel
theorem dX18_reduce_181 : decode cX18_reduce 181 = .ok (.goto (-27), 3) := by decide +kernel
theorem dX18_reduce_184 : decode cX18_reduce 184 = .ok (.iinc 6 1, 3) := by decide +kernel
theorem dX18_reduce_187 : decode cX18_reduce 187 = .ok (.goto (-105), 3) := by decide +kernel
theorem dX18_reduce_190 : decode cX18_reduce 190 = .ok (.iconst 0, 1) := by decide +kernel
theorem dX18_reduce_191 : decode cX18_reduce 191 = .ok (.istore 6, 2) := by decide +kernel
theorem dX18_reduce_193 : decode cX18_reduce 193 = .ok (.iload 6, 2) := by decide +kernel
theorem dX18_reduce_195 : decode cX18_reduce 195 = .ok (.bipush 16, 2) := by decide +kernel
theorem dX18_reduce_197 : decode cX18_reduce 197 = .ok (.if_icmp .ge 20, 3) := by decide +kernel
theorem dX18_reduce_200 : decode cX18_reduce 200 = .ok (.aload_n 1, 1) := by decide +kernel
theorem dX18_reduce_201 : decode cX18_reduce 201 = .ok (.iload 6, 2) := by decide +kernel
theorem dX18_reduce_203 : decode cX18_reduce 203 = .ok (.aload_n 0, 1) := by decide +kernel
theorem dX18_reduce_204 : decode cX18_reduce 204 = .ok (.getfield 13, 3) := by decide +kernel
theorem dX18_reduce_207 : decode cX18_reduce 207 = .ok (.iload 6, 2) := by decide +kernel
theorem dX18_reduce_209 : decode cX18_reduce 209 = .ok (.laload, 1) := by decide +kernel
theorem dX18_reduce_210 : decode cX18_reduce 210 = .ok (.lastore, 1) := by decide +kernel
theorem dX18_reduce_211 : decode cX18_reduce 211 = .ok (.iinc 6 1, 3) := by decide +kernel
theorem dX18_reduce_214 : decode cX18_reduce 214 = .ok (.goto (-21), 3) := by decide +kernel
theorem dX18_reduce_217 : decode cX18_reduce 217 = .ok (.iconst 0, 1) := by decide +kernel
theorem dX18_reduce_218 : decode cX18_reduce 218 = .ok (.istore 6, 2) := by decide +kernel
theorem dX18_reduce_220 : decode cX18_reduce 220 = .ok (.iload 6, 2) := by decide +kernel
theorem dX18_reduce_222 : decode cX18_reduce 222 = .ok (.bipush 16, 2) := by decide +kernel
theorem dX18_reduce_224 : decode cX18_reduce 224 = .ok (.if_icmp .ge 23, 3) := by decide +kernel
theorem dX18_reduce_227 : decode cX18_reduce 227 = .ok (.aload_n 1, 1) := by decide +kernel
theorem dX18_reduce_228 : decode cX18_reduce 228 = .ok (.aload_n 2, 1) := by decide +kernel
theorem dX18_reduce_229 : decode cX18_reduce 229 = .ok (.invokestatic 30, 3) := by decide +kernel
theorem dX18_reduce_232 : decode cX18_reduce 232 = .ok (.ifCond .ne 15, 3) := by decide +kernel
theorem dX18_reduce_235 : decode cX18_reduce 235 = .ok (.aload_n 1, 1) := by decide +kernel
theorem dX18_reduce_236 : decode cX18_reduce 236 = .ok (.aload_n 1, 1) := by decide +kernel
theorem dX18_reduce_237 : decode cX18_reduce 237 = .ok (.aload_n 2, 1) := by decide +kernel
theorem dX18_reduce_238 : decode cX18_reduce 238 = .ok (.invokestatic 34, 3) := by decide +kernel
theorem dX18_reduce_241 : decode cX18_reduce 241 = .ok (.iinc 6 1, 3) := by decide +kernel
theorem dX18_reduce_244 : decode cX18_reduce 244 = .ok (.goto (-24), 3) := by decide +kernel
theorem dX18_reduce_247 : decode cX18_reduce 247 = .ok (.return_, 1) := by decide +kernel
theorem dX18_times_0 : decode cX18_times 0 = .ok (.iconst 0, 1) := by decide +kernel
theorem dX18_times_1 : decode cX18_times 1 = .ok (.istore 6, 2) := by decide +kernel
theorem dX18_times_3 : decode cX18_times 3 = .ok (.iload 6, 2) := by decide +kernel
theorem dX18_times_5 : decode cX18_times 5 = .ok (.bipush 32, 2) := by decide +kernel
theorem dX18_times_7 : decode cX18_times 7 = .ok (.if_icmp .ge 17, 3) := by decide +kernel
theorem dX18_times_10 : decode cX18_times 10 = .ok (.aload_n 0, 1) := by decide +kernel
theorem dX18_times_11 : decode cX18_times 11 = .ok (.getfield 7, 3) := by decide +kernel
theorem dX18_times_14 : decode cX18_times 14 = .ok (.iload 6, 2) := by decide +kernel
theorem dX18_times_16 : decode cX18_times 16 = .ok (.lconst 0, 1) := by decide +kernel
theorem dX18_times_17 : decode cX18_times 17 = .ok (.lastore, 1) := by decide +kernel
theorem dX18_times_18 : decode cX18_times 18 = .ok (.iinc 6 1, 3) := by decide +kernel
theorem dX18_times_21 : decode cX18_times 21 = .ok (.goto (-18), 3) := by decide +kernel
theorem dX18_times_24 : decode cX18_times 24 = .ok (.iconst 0, 1) := by decide +kernel
theorem dX18_times_25 : decode cX18_times 25 = .ok (.istore 6, 2) := by decide +kernel
theorem dX18_times_27 : decode cX18_times 27 = .ok (.iload 6, 2) := by decide +kernel
theorem dX18_times_29 : decode cX18_times 29 = .ok (.bipush 16, 2) := by decide +kernel
theorem dX18_times_31 : decode cX18_times 31 = .ok (.if_icmp .ge 88, 3) := by decide +kernel
theorem dX18_times_34 : decode cX18_times 34 = .ok (.lconst 0, 1) := by decide +kernel
theorem dX18_times_35 : decode cX18_times 35 = .ok (.lstore 7, 2) := by decide +kernel
theorem dX18_times_37 : decode cX18_times 37 = .ok (.iconst 0, 1) := by decide +kernel
theorem dX18_times_38 : decode cX18_times 38 = .ok (.istore 9, 2) := by decide +kernel
theorem dX18_times_40 : decode cX18_times 40 = .ok (.iload 9, 2) := by decide +kernel
theorem dX18_times_42 : decode cX18_times 42 = .ok (.bipush 16, 2) := by decide +kernel
theorem dX18_times_44 : decode cX18_times 44 = .ok (.if_icmp .ge 57, 3) := by decide +kernel
theorem dX18_times_47 : decode cX18_times 47 = .ok (.lload 7, 2) := by decide +kernel
theorem dX18_times_49 : decode cX18_times 49 = .ok (.aload_n 0, 1) := by decide +kernel
theorem dX18_times_50 : decode cX18_times 50 = .ok (.getfield 7, 3) := by decide +kernel
theorem dX18_times_53 : decode cX18_times 53 = .ok (.iload 6, 2) := by decide +kernel
theorem dX18_times_55 : decode cX18_times 55 = .ok (.iload 9, 2) := by decide +kernel
theorem dX18_times_57 : decode cX18_times 57 = .ok (.iadd, 1) := by decide +kernel
theorem dX18_times_58 : decode cX18_times 58 = .ok (.laload, 1) := by decide +kernel
theorem dX18_times_59 : decode cX18_times 59 = .ok (.aload_n 2, 1) := by decide +kernel
theorem dX18_times_60 : decode cX18_times 60 = .ok (.iload 6, 2) := by decide +kernel
theorem dX18_times_62 : decode cX18_times 62 = .ok (.laload, 1) := by decide +kernel
theorem dX18_times_63 : decode cX18_times 63 = .ok (.aload_n 3, 1) := by decide +kernel
theorem dX18_times_64 : decode cX18_times 64 = .ok (.iload 9, 2) := by decide +kernel
theorem dX18_times_66 : decode cX18_times 66 = .ok (.laload, 1) := by decide +kernel
theorem dX18_times_67 : decode cX18_times 67 = .ok (.lmul, 1) := by decide +kernel
theorem dX18_times_68 : decode cX18_times 68 = .ok (.ladd, 1) := by decide +kernel
theorem dX18_times_69 : decode cX18_times 69 = .ok (.ladd, 1) := by decide +kernel
theorem dX18_times_70 : decode cX18_times 70 = .ok (.lstore 7, 2) := by decide +kernel
theorem dX18_times_72 : decode cX18_times 72 = .ok (.aload_n 0, 1) := by decide +kernel
theorem dX18_times_73 : decode cX18_times 73 = .ok (.getfield 7, 3) := by decide +kernel
theorem dX18_times_76 : decode cX18_times 76 = .ok (.iload 6, 2) := by decide +kernel
theorem dX18_times_78 : decode cX18_times 78 = .ok (.iload 9, 2) := by decide +kernel
theorem dX18_times_80 : decode cX18_times 80 = .ok (.iadd, 1) := by decide +kernel
theorem dX18_times_81 : decode cX18_times 81 = .ok (.lload 7, 2) := by decide +kernel
theorem dX18_times_83 : decode cX18_times 83 = .ok (.ldc2_w 28, 3) := by decide +kernel
theorem dX18_times_86 : decode cX18_times 86 = .ok (.land, 1) := by decide +kernel
theorem dX18_times_87 : decode cX18_times 87 = .ok (.lastore, 1) := by decide +kernel
theorem dX18_times_88 : decode cX18_times 88 = .ok (.lload 7, 2) := by decide +kernel
theorem dX18_times_90 : decode cX18_times 90 = .ok (.bipush 16, 2) := by decide +kernel
theorem dX18_times_92 : decode cX18_times 92 = .ok (.lshr, 1) := by decide +kernel
theorem dX18_times_93 : decode cX18_times 93 = .ok (.lstore 7, 2) := by decide +kernel
theorem dX18_times_95 : decode cX18_times 95 = .ok (.iinc 9 1, 3) := by decide +kernel
theorem dX18_times_98 : decode cX18_times 98 = .ok (.goto (-58), 3) := by decide +kernel
theorem dX18_times_101 : decode cX18_times 101 = .ok (.aload_n 0, 1) := by decide +kernel
theorem dX18_times_102 : decode cX18_times 102 = .ok (.getfield 7, 3) := by decide +kernel
theorem dX18_times_105 : decode cX18_times 105 = .ok (.iload 6, 2) := by decide +kernel
theorem dX18_times_107 : decode cX18_times 107 = .ok (.bipush 16, 2) := by decide +kernel
theorem dX18_times_109 : decode cX18_times 109 = .ok (.iadd, 1) := by decide +kernel
theorem dX18_times_110 : decode cX18_times 110 = .ok (.lload 7, 2) := by decide +kernel
theorem dX18_times_112 : decode cX18_times 112 = .ok (.lastore, 1) := by decide +kernel
theorem dX18_times_113 : decode cX18_times 113 = .ok (.iinc 6 1, 3) := by decide +kernel
theorem dX18_times_116 : decode cX18_times 116 = .ok (.goto (-89), 3) := by decide +kernel
theorem dX18_times_119 : decode cX18_times 119 = .ok (.aload_n 0, 1) := by decide +kernel
theorem dX18_times_120 : decode cX18_times 120 = .ok (.aload_n 1, 1) := by decide +kernel
theorem dX18_times_121 : decode cX18_times 121 = .ok (.aload 4, 2) := by decide +kernel
theorem dX18_times_123 : decode cX18_times 123 = .ok (.aload 5, 2) := by decide +kernel
theorem dX18_times_125 : decode cX18_times 125 = .ok (.invokevirtual 46, 3) := by decide +kernel
theorem dX18_times_128 : decode cX18_times 128 = .ok (.return_, 1) := by decide +kernel
theorem dX18_half_0 : decode cX18_half 0 = .ok (.aload_n 0, 1) := by decide +kernel
theorem dX18_half_1 : decode cX18_half 1 = .ok (.iconst 0, 1) := by decide +kernel
theorem dX18_half_2 : decode cX18_half 2 = .ok (.laload, 1) := by decide +kernel
theorem dX18_half_3 : decode cX18_half 3 = .ok (.lconst 1, 1) := by decide +kernel
theorem dX18_half_4 : decode cX18_half 4 = .ok (.land, 1) := by decide +kernel
theorem dX18_half_5 : decode cX18_half 5 = .ok (.lconst 1, 1) := by decide +kernel
theorem dX18_half_6 : decode cX18_half 6 = .ok (.lcmp, 1) := by decide +kernel
theorem dX18_half_7 : decode cX18_half 7 = .ok (.ifCond .ne 55, 3) := by decide +kernel
theorem dX18_half_10 : decode cX18_half 10 = .ok (.lconst 0, 1) := by decide +kernel
theorem dX18_half_11 : decode cX18_half 11 = .ok (.lstore_n 2, 1) := by decide +kernel
theorem dX18_half_12 : decode cX18_half 12 = .ok (.iconst 0, 1) := by decide +kernel
theorem dX18_half_13 : decode cX18_half 13 = .ok (.istore 4, 2) := by decide +kernel
theorem dX18_half_15 : decode cX18_half 15 = .ok (.iload 4, 2) := by decide +kernel
theorem dX18_half_17 : decode cX18_half 17 = .ok (.bipush 16, 2) := by decide +kernel
theorem dX18_half_19 : decode cX18_half 19 = .ok (.if_icmp .ge 35, 3) := by decide +kernel
theorem dX18_half_22 : decode cX18_half 22 = .ok (.lload_n 2, 1) := by decide +kernel
theorem dX18_half_23 : decode cX18_half 23 = .ok (.aload_n 0, 1) := by decide +kernel
theorem dX18_half_24 : decode cX18_half 24 = .ok (.iload 4, 2) := by decide +kernel
theorem dX18_half_26 : decode cX18_half 26 = .ok (.laload, 1) := by decide +kernel
theorem dX18_half_27 : decode cX18_half 27 = .ok (.aload_n 1, 1) := by decide +kernel
theorem dX18_half_28 : decode cX18_half 28 = .ok (.iload 4, 2) := by decide +kernel
theorem dX18_half_30 : decode cX18_half 30 = .ok (.laload, 1) := by decide +kernel
theorem dX18_half_31 : decode cX18_half 31 = .ok (.ladd, 1) := by decide +kernel
theorem dX18_half_32 : decode cX18_half 32 = .ok (.ladd, 1) := by decide +kernel
theorem dX18_half_33 : decode cX18_half 33 = .ok (.lstore_n 2, 1) := by decide +kernel
theorem dX18_half_34 : decode cX18_half 34 = .ok (.aload_n 0, 1) := by decide +kernel
theorem dX18_half_35 : decode cX18_half 35 = .ok (.iload 4, 2) := by decide +kernel
theorem dX18_half_37 : decode cX18_half 37 = .ok (.lload_n 2, 1) := by decide +kernel
theorem dX18_half_38 : decode cX18_half 38 = .ok (.ldc2_w 28, 3) := by decide +kernel
theorem dX18_half_41 : decode cX18_half 41 = .ok (.land, 1) := by decide +kernel
theorem dX18_half_42 : decode cX18_half 42 = .ok (.lastore, 1) := by decide +kernel
theorem dX18_half_43 : decode cX18_half 43 = .ok (.lload_n 2, 1) := by decide +kernel
theorem dX18_half_44 : decode cX18_half 44 = .ok (.bipush 16, 2) := by decide +kernel
theorem dX18_half_46 : decode cX18_half 46 = .ok (.lshr, 1) := by decide +kernel
theorem dX18_half_47 : decode cX18_half 47 = .ok (.lstore_n 2, 1) := by decide +kernel
theorem dX18_half_48 : decode cX18_half 48 = .ok (.iinc 4 1, 3) := by decide +kernel
theorem dX18_half_51 : decode cX18_half 51 = .ok (.goto (-36), 3) := by decide +kernel
theorem dX18_half_54 : decode cX18_half 54 = .ok (.aload_n 0, 1) := by decide +kernel
theorem dX18_half_55 : decode cX18_half 55 = .ok (.bipush 16, 2) := by decide +kernel
theorem dX18_half_57 : decode cX18_half 57 = .ok (.dup2, 1) := by decide +kernel
theorem dX18_half_58 : decode cX18_half 58 = .ok (.laload, 1) := by decide +kernel
theorem dX18_half_59 : decode cX18_half 59 = .ok (.lload_n 2, 1) := by decide +kernel
theorem dX18_half_60 : decode cX18_half 60 = .ok (.ladd, 1) := by decide +kernel
theorem dX18_half_61 : decode cX18_half 61 = .ok (.lastore, 1) := by decide +kernel
theorem dX18_half_62 : decode cX18_half 62 = .ok (.iconst 0, 1) := by decide +kernel
theorem dX18_half_63 : decode cX18_half 63 = .ok (.istore_n 2, 1) := by decide +kernel
theorem dX18_half_64 : decode cX18_half 64 = .ok (.iload_n 2, 1) := by decide +kernel
theorem dX18_half_65 : decode cX18_half 65 = .ok (.bipush 16, 2) := by decide +kernel
theorem dX18_half_67 : decode cX18_half 67 = .ok (.if_icmp .ge 28, 3) := by decide +kernel
theorem dX18_half_70 : decode cX18_half 70 = .ok (.aload_n 0, 1) := by decide +kernel
theorem dX18_half_71 : decode cX18_half 71 = .ok (.iload_n 2, 1) := by decide +kernel
theorem dX18_half_72 : decode cX18_half 72 = .ok (.aload_n 0, 1) := by decide +kernel
theorem dX18_half_73 : decode cX18_half 73 = .ok (.iload_n 2, 1) := by decide +kernel
theorem dX18_half_74 : decode cX18_half 74 = .ok (.laload, 1) := by decide +kernel
theorem dX18_half_75 : decode cX18_half 75 = .ok (.iconst 1, 1) := by decide +kernel
theorem dX18_half_76 : decode cX18_half 76 = .ok (.lshr, 1) := by decide +kernel
theorem dX18_half_77 : decode cX18_half 77 = .ok (.aload_n 0, 1) := by decide +kernel
theorem dX18_half_78 : decode cX18_half 78 = .ok (.iload_n 2, 1) := by decide +kernel
theorem dX18_half_79 : decode cX18_half 79 = .ok (.iconst 1, 1) := by decide +kernel
theorem dX18_half_80 : decode cX18_half 80 = .ok (.iadd, 1) := by decide +kernel
theorem dX18_half_81 : decode cX18_half 81 = .ok (.laload, 1) := by decide +kernel
theorem dX18_half_82 : decode cX18_half 82 = .ok (.lconst 1, 1) := by decide +kernel
theorem dX18_half_83 : decode cX18_half 83 = .ok (.land, 1) := by decide +kernel
theorem dX18_half_84 : decode cX18_half 84 = .ok (.bipush 15, 2) := by decide +kernel
theorem dX18_half_86 : decode cX18_half 86 = .ok (.lshl, 1) := by decide +kernel
theorem dX18_half_87 : decode cX18_half 87 = .ok (.lor, 1) := by decide +kernel
theorem dX18_half_88 : decode cX18_half 88 = .ok (.lastore, 1) := by decide +kernel
theorem dX18_half_89 : decode cX18_half 89 = .ok (.iinc 2 1, 3) := by decide +kernel
theorem dX18_half_92 : decode cX18_half 92 = .ok (.goto (-28), 3) := by decide +kernel
theorem dX18_half_95 : decode cX18_half 95 = .ok (.aload_n 0, 1) := by decide +kernel
theorem dX18_half_96 : decode cX18_half 96 = .ok (.bipush 16, 2) := by decide +kernel
theorem dX18_half_98 : decode cX18_half 98 = .ok (.dup2, 1) := by decide +kernel
theorem dX18_half_99 : decode cX18_half 99 = .ok (.laload, 1) := by decide +kernel
theorem dX18_half_100 : decode cX18_half 100 = .ok (.iconst 1, 1) := by decide +kernel
theorem dX18_half_101 : decode cX18_half 101 = .ok (.lshr, 1) := by decide +kernel
theorem dX18_half_102 : decode cX18_half 102 = .ok (.lastore, 1) := by decide +kernel
theorem dX18_half_103 : decode cX18_half 103 = .ok (.return_, 1) := by decide +kernel
theorem dX18_halve_0 : decode cX18_halve 0 = .ok (.iconst 0, 1) := by decide +kernel
theorem dX18_halve_1 : decode cX18_halve 1 = .ok (.istore_n 1, 1) := by decide +kernel
theorem dX18_halve_2 : decode cX18_halve 2 = .ok (.iload_n 1, 1) := by decide +kernel
theorem dX18_halve_3 : decode cX18_halve 3 = .ok (.bipush 16, 2) := by decide +kernel
theorem dX18_halve_5 : decode cX18_halve 5 = .ok (.if_icmp .ge 38, 3) := by decide +kernel
theorem dX18_halve_8 : decode cX18_halve 8 = .ok (.aload_n 0, 1) := by decide +kernel
theorem dX18_halve_9 : decode cX18_halve 9 = .ok (.iload_n 1, 1) := by decide +kernel
theorem dX18_halve_10 : decode cX18_halve 10 = .ok (.aload_n 0, 1) := by decide +kernel
theorem dX18_halve_11 : decode cX18_halve 11 = .ok (.iload_n 1, 1) := by decide +kernel
theorem dX18_halve_12 : decode cX18_halve 12 = .ok (.laload, 1) := by decide +kernel
theorem dX18_halve_13 : decode cX18_halve 13 = .ok (.iconst 1, 1) := by decide +kernel
theorem dX18_halve_14 : decode cX18_halve 14 = .ok (.lshr, 1) := by decide +kernel
theorem dX18_halve_15 : decode cX18_halve 15 = .ok (.iload_n 1, 1) := by decide +kernel
theorem dX18_halve_16 : decode cX18_halve 16 = .ok (.bipush 15, 2) := by decide +kernel
theorem dX18_halve_18 : decode cX18_halve 18 = .ok (.if_icmp .ge 16, 3) := by decide +kernel
theorem dX18_halve_21 : decode cX18_halve 21 = .ok (.aload_n 0, 1) := by decide +kernel
theorem dX18_halve_22 : decode cX18_halve 22 = .ok (.iload_n 1, 1) := by decide +kernel
theorem dX18_halve_23 : decode cX18_halve 23 = .ok (.iconst 1, 1) := by decide +kernel
theorem dX18_halve_24 : decode cX18_halve 24 = .ok (.iadd, 1) := by decide +kernel
theorem dX18_halve_25 : decode cX18_halve 25 = .ok (.laload, 1) := by decide +kernel
theorem dX18_halve_26 : decode cX18_halve 26 = .ok (.lconst 1, 1) := by decide +kernel
theorem dX18_halve_27 : decode cX18_halve 27 = .ok (.land, 1) := by decide +kernel
theorem dX18_halve_28 : decode cX18_halve 28 = .ok (.bipush 15, 2) := by decide +kernel
theorem dX18_halve_30 : decode cX18_halve 30 = .ok (.lshl, 1) := by decide +kernel
theorem dX18_halve_31 : decode cX18_halve 31 = .ok (.goto 4, 3) := by decide +kernel
theorem dX18_halve_34 : decode cX18_halve 34 = .ok (.lconst 0, 1) := by decide +kernel
theorem dX18_halve_35 : decode cX18_halve 35 = .ok (.lor, 1) := by decide +kernel
theorem dX18_halve_36 : decode cX18_halve 36 = .ok (.lastore, 1) := by decide +kernel
theorem dX18_halve_37 : decode cX18_halve 37 = .ok (.iinc 1 1, 3) := by decide +kernel
theorem dX18_halve_40 : decode cX18_halve 40 = .ok (.goto (-38), 3) := by decide +kernel
theorem dX18_halve_43 : decode cX18_halve 43 = .ok (.return_, 1) := by decide +kernel
theorem dX18_one_0 : decode cX18_one 0 = .ok (.aload_n 0, 1) := by decide +kernel
theorem dX18_one_1 : decode cX18_one 1 = .ok (.iconst 0, 1) := by decide +kernel
theorem dX18_one_2 : decode cX18_one 2 = .ok (.laload, 1) := by decide +kernel
theorem dX18_one_3 : decode cX18_one 3 = .ok (.lconst 1, 1) := by decide +kernel
theorem dX18_one_4 : decode cX18_one 4 = .ok (.lcmp, 1) := by decide +kernel
theorem dX18_one_5 : decode cX18_one 5 = .ok (.ifCond .eq 5, 3) := by decide +kernel
theorem dX18_one_8 : decode cX18_one 8 = .ok (.iconst 0, 1) := by decide +kernel
theorem dX18_one_9 : decode cX18_one 9 = .ok (.ireturn, 1) := by decide +kernel
theorem dX18_one_10 : decode cX18_one 10 = .ok (.iconst 1, 1) := by decide +kernel
theorem dX18_one_11 : decode cX18_one 11 = .ok (.istore_n 1, 1) := by decide +kernel
theorem dX18_one_12 : decode cX18_one 12 = .ok (.iload_n 1, 1) := by decide +kernel
theorem dX18_one_13 : decode cX18_one 13 = .ok (.bipush 16, 2) := by decide +kernel
theorem dX18_one_15 : decode cX18_one 15 = .ok (.if_icmp .ge 19, 3) := by decide +kernel
theorem dX18_one_18 : decode cX18_one 18 = .ok (.aload_n 0, 1) := by decide +kernel
theorem dX18_one_19 : decode cX18_one 19 = .ok (.iload_n 1, 1) := by decide +kernel
theorem dX18_one_20 : decode cX18_one 20 = .ok (.laload, 1) := by decide +kernel
theorem dX18_one_21 : decode cX18_one 21 = .ok (.lconst 0, 1) := by decide +kernel
theorem dX18_one_22 : decode cX18_one 22 = .ok (.lcmp, 1) := by decide +kernel
theorem dX18_one_23 : decode cX18_one 23 = .ok (.ifCond .eq 5, 3) := by decide +kernel
theorem dX18_one_26 : decode cX18_one 26 = .ok (.iconst 0, 1) := by decide +kernel
theorem dX18_one_27 : decode cX18_one 27 = .ok (.ireturn, 1) := by decide +kernel
theorem dX18_one_28 : decode cX18_one 28 = .ok (.iinc 1 1, 3) := by decide +kernel
theorem dX18_one_31 : decode cX18_one 31 = .ok (.goto (-19), 3) := by decide +kernel
theorem dX18_one_34 : decode cX18_one 34 = .ok (.iconst 1, 1) := by decide +kernel
theorem dX18_one_35 : decode cX18_one 35 = .ok (.ireturn, 1) := by decide +kernel
theorem dX18_inverse_0 : decode cX18_inverse 0 = .ok (.aload_n 0, 1) := by decide +kernel
theorem dX18_inverse_1 : decode cX18_inverse 1 = .ok (.getfield 16, 3) := by decide +kernel
theorem dX18_inverse_4 : decode cX18_inverse 4 = .ok (.aload_n 2, 1) := by decide +kernel
theorem dX18_inverse_5 : decode cX18_inverse 5 = .ok (.invokestatic 49, 3) := by decide +kernel
theorem dX18_inverse_8 : decode cX18_inverse 8 = .ok (.aload_n 0, 1) := by decide +kernel
theorem dX18_inverse_9 : decode cX18_inverse 9 = .ok (.getfield 19, 3) := by decide +kernel
theorem dX18_inverse_12 : decode cX18_inverse 12 = .ok (.aload_n 3, 1) := by decide +kernel
theorem dX18_inverse_13 : decode cX18_inverse 13 = .ok (.invokestatic 49, 3) := by decide +kernel
theorem dX18_inverse_16 : decode cX18_inverse 16 = .ok (.aload_n 0, 1) := by decide +kernel
theorem dX18_inverse_17 : decode cX18_inverse 17 = .ok (.getfield 22, 3) := by decide +kernel
theorem dX18_inverse_20 : decode cX18_inverse 20 = .ok (.iconst 1, 1) := by decide +kernel
theorem dX18_inverse_21 : decode cX18_inverse 21 = .ok (.invokestatic 38, 3) := by decide +kernel
theorem dX18_inverse_24 : decode cX18_inverse 24 = .ok (.aload_n 0, 1) := by decide +kernel
theorem dX18_inverse_25 : decode cX18_inverse 25 = .ok (.getfield 25, 3) := by decide +kernel
theorem dX18_inverse_28 : decode cX18_inverse 28 = .ok (.iconst 0, 1) := by decide +kernel
theorem dX18_inverse_29 : decode cX18_inverse 29 = .ok (.invokestatic 38, 3) := by decide +kernel
theorem dX18_inverse_32 : decode cX18_inverse 32 = .ok (.aload_n 0, 1) := by decide +kernel
theorem dX18_inverse_33 : decode cX18_inverse 33 = .ok (.getfield 22, 3) := by decide +kernel
theorem dX18_inverse_36 : decode cX18_inverse 36 = .ok (.bipush 16, 2) := by decide +kernel
theorem dX18_inverse_38 : decode cX18_inverse 38 = .ok (.lconst 0, 1) := by decide +kernel
theorem dX18_inverse_39 : decode cX18_inverse 39 = .ok (.lastore, 1) := by decide +kernel
theorem dX18_inverse_40 : decode cX18_inverse 40 = .ok (.aload_n 0, 1) := by decide +kernel
theorem dX18_inverse_41 : decode cX18_inverse 41 = .ok (.getfield 25, 3) := by decide +kernel
theorem dX18_inverse_44 : decode cX18_inverse 44 = .ok (.bipush 16, 2) := by decide +kernel
theorem dX18_inverse_46 : decode cX18_inverse 46 = .ok (.lconst 0, 1) := by decide +kernel
theorem dX18_inverse_47 : decode cX18_inverse 47 = .ok (.lastore, 1) := by decide +kernel
theorem dX18_inverse_48 : decode cX18_inverse 48 = .ok (.iconst 0, 1) := by decide +kernel
theorem dX18_inverse_49 : decode cX18_inverse 49 = .ok (.istore 4, 2) := by decide +kernel
theorem dX18_inverse_51 : decode cX18_inverse 51 = .ok (.iload 4, 2) := by decide +kernel
theorem dX18_inverse_53 : decode cX18_inverse 53 = .ok (.sipush 1100, 3) := by decide +kernel
theorem dX18_inverse_56 : decode cX18_inverse 56 = .ok (.if_icmp .ge 177, 3) := by decide +kernel
theorem dX18_inverse_59 : decode cX18_inverse 59 = .ok (.aload_n 2, 1) := by decide +kernel
theorem dX18_inverse_60 : decode cX18_inverse 60 = .ok (.invokestatic 53, 3) := by decide +kernel
theorem dX18_inverse_63 : decode cX18_inverse 63 = .ok (.ifCond .ne 170, 3) := by decide +kernel
theorem dX18_inverse_66 : decode cX18_inverse 66 = .ok (.aload_n 0, 1) := by decide +kernel
theorem dX18_inverse_67 : decode cX18_inverse 67 = .ok (.getfield 16, 3) := by decide +kernel
theorem dX18_inverse_70 : decode cX18_inverse 70 = .ok (.invokestatic 57, 3) := by decide +kernel
theorem dX18_inverse_73 : decode cX18_inverse 73 = .ok (.ifCond .ne 160, 3) := by decide +kernel
theorem dX18_inverse_76 : decode cX18_inverse 76 = .ok (.aload_n 0, 1) := by decide +kernel
theorem dX18_inverse_77 : decode cX18_inverse 77 = .ok (.getfield 19, 3) := by decide +kernel
theorem dX18_inverse_80 : decode cX18_inverse 80 = .ok (.invokestatic 57, 3) := by decide +kernel
theorem dX18_inverse_83 : decode cX18_inverse 83 = .ok (.ifCond .ne 150, 3) := by decide +kernel
theorem dX18_inverse_86 : decode cX18_inverse 86 = .ok (.aload_n 0, 1) := by decide +kernel
theorem dX18_inverse_87 : decode cX18_inverse 87 = .ok (.getfield 16, 3) := by decide +kernel
theorem dX18_inverse_90 : decode cX18_inverse 90 = .ok (.iconst 0, 1) := by decide +kernel
theorem dX18_inverse_91 : decode cX18_inverse 91 = .ok (.laload, 1) := by decide +kernel
theorem dX18_inverse_92 : decode cX18_inverse 92 = .ok (.lconst 1, 1) := by decide +kernel
theorem dX18_inverse_93 : decode cX18_inverse 93 = .ok (.land, 1) := by decide +kernel
theorem dX18_inverse_94 : decode cX18_inverse 94 = .ok (.lconst 0, 1) := by decide +kernel
theorem dX18_inverse_95 : decode cX18_inverse 95 = .ok (.lcmp, 1) := by decide +kernel
theorem dX18_inverse_96 : decode cX18_inverse 96 = .ok (.ifCond .ne 21, 3) := by decide +kernel
theorem dX18_inverse_99 : decode cX18_inverse 99 = .ok (.aload_n 0, 1) := by decide +kernel
theorem dX18_inverse_100 : decode cX18_inverse 100 = .ok (.getfield 16, 3) := by decide +kernel
theorem dX18_inverse_103 : decode cX18_inverse 103 = .ok (.invokestatic 60, 3) := by decide +kernel
theorem dX18_inverse_106 : decode cX18_inverse 106 = .ok (.aload_n 0, 1) := by decide +kernel
theorem dX18_inverse_107 : decode cX18_inverse 107 = .ok (.getfield 22, 3) := by decide +kernel
theorem dX18_inverse_110 : decode cX18_inverse 110 = .ok (.aload_n 3, 1) := by decide +kernel
theorem dX18_inverse_111 : decode cX18_inverse 111 = .ok (.invokestatic 64, 3) := by decide +kernel
theorem dX18_inverse_114 : decode cX18_inverse 114 = .ok (.goto 113, 3) := by decide +kernel
theorem dX18_inverse_117 : decode cX18_inverse 117 = .ok (.aload_n 0, 1) := by decide +kernel
theorem dX18_inverse_118 : decode cX18_inverse 118 = .ok (.getfield 19, 3) := by decide +kernel
theorem dX18_inverse_121 : decode cX18_inverse 121 = .ok (.iconst 0, 1) := by decide +kernel
theorem dX18_inverse_122 : decode cX18_inverse 122 = .ok (.laload, 1) := by decide +kernel
theorem dX18_inverse_123 : decode cX18_inverse 123 = .ok (.lconst 1, 1) := by decide +kernel
theorem dX18_inverse_124 : decode cX18_inverse 124 = .ok (.land, 1) := by decide +kernel
theorem dX18_inverse_125 : decode cX18_inverse 125 = .ok (.lconst 0, 1) := by decide +kernel
theorem dX18_inverse_126 : decode cX18_inverse 126 = .ok (.lcmp, 1) := by decide +kernel
theorem dX18_inverse_127 : decode cX18_inverse 127 = .ok (.ifCond .ne 21, 3) := by decide +kernel
theorem dX18_inverse_130 : decode cX18_inverse 130 = .ok (.aload_n 0, 1) := by decide +kernel
theorem dX18_inverse_131 : decode cX18_inverse 131 = .ok (.getfield 19, 3) := by decide +kernel
theorem dX18_inverse_134 : decode cX18_inverse 134 = .ok (.invokestatic 60, 3) := by decide +kernel
theorem dX18_inverse_137 : decode cX18_inverse 137 = .ok (.aload_n 0, 1) := by decide +kernel
theorem dX18_inverse_138 : decode cX18_inverse 138 = .ok (.getfield 25, 3) := by decide +kernel
theorem dX18_inverse_141 : decode cX18_inverse 141 = .ok (.aload_n 3, 1) := by decide +kernel
theorem dX18_inverse_142 : decode cX18_inverse 142 = .ok (.invokestatic 64, 3) := by decide +kernel
theorem dX18_inverse_145 : decode cX18_inverse 145 = .ok (.goto 82, 3) := by decide +kernel
theorem dX18_inverse_148 : decode cX18_inverse 148 = .ok (.aload_n 0, 1) := by decide +kernel
theorem dX18_inverse_149 : decode cX18_inverse 149 = .ok (.getfield 16, 3) := by decide +kernel
theorem dX18_inverse_152 : decode cX18_inverse 152 = .ok (.aload_n 0, 1) := by decide +kernel
theorem dX18_inverse_153 : decode cX18_inverse 153 = .ok (.getfield 19, 3) := by decide +kernel
theorem dX18_inverse_156 : decode cX18_inverse 156 = .ok (.invokestatic 30, 3) := by decide +kernel
theorem dX18_inverse_159 : decode cX18_inverse 159 = .ok (.ifCond .eq 37, 3) := by decide +kernel
theorem dX18_inverse_162 : decode cX18_inverse 162 = .ok (.aload_n 0, 1) := by decide +kernel
theorem dX18_inverse_163 : decode cX18_inverse 163 = .ok (.getfield 19, 3) := by decide +kernel
theorem dX18_inverse_166 : decode cX18_inverse 166 = .ok (.aload_n 0, 1) := by decide +kernel
theorem dX18_inverse_167 : decode cX18_inverse 167 = .ok (.getfield 19, 3) := by decide +kernel
theorem dX18_inverse_170 : decode cX18_inverse 170 = .ok (.aload_n 0, 1) := by decide +kernel
theorem dX18_inverse_171 : decode cX18_inverse 171 = .ok (.getfield 16, 3) := by decide +kernel
theorem dX18_inverse_174 : decode cX18_inverse 174 = .ok (.invokestatic 34, 3) := by decide +kernel
theorem dX18_inverse_177 : decode cX18_inverse 177 = .ok (.aload_n 0, 1) := by decide +kernel
theorem dX18_inverse_178 : decode cX18_inverse 178 = .ok (.getfield 25, 3) := by decide +kernel
theorem dX18_inverse_181 : decode cX18_inverse 181 = .ok (.aload_n 0, 1) := by decide +kernel
theorem dX18_inverse_182 : decode cX18_inverse 182 = .ok (.getfield 25, 3) := by decide +kernel
theorem dX18_inverse_185 : decode cX18_inverse 185 = .ok (.aload_n 0, 1) := by decide +kernel
theorem dX18_inverse_186 : decode cX18_inverse 186 = .ok (.getfield 22, 3) := by decide +kernel
theorem dX18_inverse_189 : decode cX18_inverse 189 = .ok (.aload_n 3, 1) := by decide +kernel
theorem dX18_inverse_190 : decode cX18_inverse 190 = .ok (.invokestatic 67, 3) := by decide +kernel
theorem dX18_inverse_193 : decode cX18_inverse 193 = .ok (.goto 34, 3) := by decide +kernel
theorem dX18_inverse_196 : decode cX18_inverse 196 = .ok (.aload_n 0, 1) := by decide +kernel
theorem dX18_inverse_197 : decode cX18_inverse 197 = .ok (.getfield 16, 3) := by decide +kernel
theorem dX18_inverse_200 : decode cX18_inverse 200 = .ok (.aload_n 0, 1) := by decide +kernel
theorem dX18_inverse_201 : decode cX18_inverse 201 = .ok (.getfield 16, 3) := by decide +kernel
theorem dX18_inverse_204 : decode cX18_inverse 204 = .ok (.aload_n 0, 1) := by decide +kernel
theorem dX18_inverse_205 : decode cX18_inverse 205 = .ok (.getfield 19, 3) := by decide +kernel
theorem dX18_inverse_208 : decode cX18_inverse 208 = .ok (.invokestatic 34, 3) := by decide +kernel
theorem dX18_inverse_211 : decode cX18_inverse 211 = .ok (.aload_n 0, 1) := by decide +kernel
theorem dX18_inverse_212 : decode cX18_inverse 212 = .ok (.getfield 22, 3) := by decide +kernel
theorem dX18_inverse_215 : decode cX18_inverse 215 = .ok (.aload_n 0, 1) := by decide +kernel
theorem dX18_inverse_216 : decode cX18_inverse 216 = .ok (.getfield 22, 3) := by decide +kernel
theorem dX18_inverse_219 : decode cX18_inverse 219 = .ok (.aload_n 0, 1) := by decide +kernel
theorem dX18_inverse_220 : decode cX18_inverse 220 = .ok (.getfield 25, 3) := by decide +kernel
theorem dX18_inverse_223 : decode cX18_inverse 223 = .ok (.aload_n 3, 1) := by decide +kernel
theorem dX18_inverse_224 : decode cX18_inverse 224 = .ok (.invokestatic 67, 3) := by decide +kernel
theorem dX18_inverse_227 : decode cX18_inverse 227 = .ok (.iinc 4 1, 3) := by decide +kernel
theorem dX18_inverse_230 : decode cX18_inverse 230 = .ok (.goto (-179), 3) := by decide +kernel
theorem dX18_inverse_233 : decode cX18_inverse 233 = .ok (.aload_n 2, 1) := by decide +kernel
theorem dX18_inverse_234 : decode cX18_inverse 234 = .ok (.invokestatic 53, 3) := by decide +kernel
theorem dX18_inverse_237 : decode cX18_inverse 237 = .ok (.ifCond .eq 11, 3) := by decide +kernel
theorem dX18_inverse_240 : decode cX18_inverse 240 = .ok (.aload_n 1, 1) := by decide +kernel
theorem dX18_inverse_241 : decode cX18_inverse 241 = .ok (.iconst 0, 1) := by decide +kernel
theorem dX18_inverse_242 : decode cX18_inverse 242 = .ok (.invokestatic 38, 3) := by decide +kernel
theorem dX18_inverse_245 : decode cX18_inverse 245 = .ok (.goto 28, 3) := by decide +kernel
theorem dX18_inverse_248 : decode cX18_inverse 248 = .ok (.aload_n 1, 1) := by decide +kernel
theorem dX18_inverse_249 : decode cX18_inverse 249 = .ok (.aload_n 0, 1) := by decide +kernel
theorem dX18_inverse_250 : decode cX18_inverse 250 = .ok (.getfield 16, 3) := by decide +kernel
theorem dX18_inverse_253 : decode cX18_inverse 253 = .ok (.invokestatic 57, 3) := by decide +kernel
theorem dX18_inverse_256 : decode cX18_inverse 256 = .ok (.ifCond .eq 10, 3) := by decide +kernel
theorem dX18_inverse_259 : decode cX18_inverse 259 = .ok (.aload_n 0, 1) := by decide +kernel
theorem dX18_inverse_260 : decode cX18_inverse 260 = .ok (.getfield 22, 3) := by decide +kernel
theorem dX18_inverse_263 : decode cX18_inverse 263 = .ok (.goto 7, 3) := by decide +kernel
theorem dX18_inverse_266 : decode cX18_inverse 266 = .ok (.aload_n 0, 1) := by decide +kernel
theorem dX18_inverse_267 : decode cX18_inverse 267 = .ok (.getfield 25, 3) := by decide +kernel
theorem dX18_inverse_270 : decode cX18_inverse 270 = .ok (.invokestatic 49, 3) := by decide +kernel
theorem dX18_inverse_273 : decode cX18_inverse 273 = .ok (.return_, 1) := by decide +kernel
theorem dX18_bit_0 : decode cX18_bit 0 = .ok (.aload_n 0, 1) := by decide +kernel
theorem dX18_bit_1 : decode cX18_bit 1 = .ok (.iload_n 1, 1) := by decide +kernel
theorem dX18_bit_2 : decode cX18_bit 2 = .ok (.iconst 4, 1) := by decide +kernel
theorem dX18_bit_3 : decode cX18_bit 3 = .ok (.ishr, 1) := by decide +kernel
theorem dX18_bit_4 : decode cX18_bit 4 = .ok (.laload, 1) := by decide +kernel
theorem dX18_bit_5 : decode cX18_bit 5 = .ok (.iload_n 1, 1) := by decide +kernel
theorem dX18_bit_6 : decode cX18_bit 6 = .ok (.bipush 15, 2) := by decide +kernel
theorem dX18_bit_8 : decode cX18_bit 8 = .ok (.iand, 1) := by decide +kernel
theorem dX18_bit_9 : decode cX18_bit 9 = .ok (.lshr, 1) := by decide +kernel
theorem dX18_bit_10 : decode cX18_bit 10 = .ok (.lconst 1, 1) := by decide +kernel
theorem dX18_bit_11 : decode cX18_bit 11 = .ok (.land, 1) := by decide +kernel
theorem dX18_bit_12 : decode cX18_bit 12 = .ok (.l2i, 1) := by decide +kernel
theorem dX18_bit_13 : decode cX18_bit 13 = .ok (.ireturn, 1) := by decide +kernel
theorem dX19_init_0 : decode cX19_init 0 = .ok (.aload_n 0, 1) := by decide +kernel
theorem dX19_init_1 : decode cX19_init 1 = .ok (.invokespecial 1, 3) := by decide +kernel
theorem dX19_init_4 : decode cX19_init 4 = .ok (.aload_n 0, 1) := by decide +kernel
theorem dX19_init_5 : decode cX19_init 5 = .ok (.bipush 64, 2) := by decide +kernel
theorem dX19_init_7 : decode cX19_init 7 = .ok (.newarray .byte, 2) := by decide +kernel
theorem dX19_init_9 : decode cX19_init 9 = .ok (.putfield 7, 3) := by decide +kernel
theorem dX19_init_12 : decode cX19_init 12 = .ok (.return_, 1) := by decide +kernel
theorem dX19_init__0 : decode cX19_init_ 0 = .ok (.aload_n 0, 1) := by decide +kernel
theorem dX19_init__1 : decode cX19_init_ 1 = .ok (.invokespecial 1, 3) := by decide +kernel
theorem dX19_init__4 : decode cX19_init_ 4 = .ok (.aload_n 0, 1) := by decide +kernel
theorem dX19_init__5 : decode cX19_init_ 5 = .ok (.iload_n 1, 1) := by decide +kernel
theorem dX19_init__6 : decode cX19_init_ 6 = .ok (.newarray .byte, 2) := by decide +kernel
theorem dX19_init__8 : decode cX19_init_ 8 = .ok (.putfield 7, 3) := by decide +kernel
theorem dX19_init__11 : decode cX19_init_ 11 = .ok (.return_, 1) := by decide +kernel
theorem dX19_size_0 : decode cX19_size 0 = .ok (.aload_n 0, 1) := by decide +kernel
theorem dX19_size_1 : decode cX19_size 1 = .ok (.getfield 13, 3) := by decide +kernel
theorem dX19_size_4 : decode cX19_size 4 = .ok (.aload_n 0, 1) := by decide +kernel
theorem dX19_size_5 : decode cX19_size 5 = .ok (.getfield 17, 3) := by decide +kernel
theorem dX19_size_8 : decode cX19_size 8 = .ok (.isub, 1) := by decide +kernel
theorem dX19_size_9 : decode cX19_size 9 = .ok (.ireturn, 1) := by decide +kernel
theorem dX19_add__0 : decode cX19_add_ 0 = .ok (.iconst 0, 1) := by decide +kernel
theorem dX19_add__1 : decode cX19_add_ 1 = .ok (.istore 4, 2) := by decide +kernel
theorem dX19_add__3 : decode cX19_add_ 3 = .ok (.iload 4, 2) := by decide +kernel
theorem dX19_add__5 : decode cX19_add_ 5 = .ok (.iload_n 3, 1) := by decide +kernel
theorem dX19_add__6 : decode cX19_add_ 6 = .ok (.if_icmp .ge 19, 3) := by decide +kernel
theorem dX19_add__9 : decode cX19_add_ 9 = .ok (.aload_n 0, 1) := by decide +kernel
theorem dX19_add__10 : decode cX19_add_ 10 = .ok (.aload_n 1, 1) := by decide +kernel
theorem dX19_add__11 : decode cX19_add_ 11 = .ok (.iload_n 2, 1) := by decide +kernel
theorem dX19_add__12 : decode cX19_add_ 12 = .ok (.iload 4, 2) := by decide +kernel
theorem dX19_add__14 : decode cX19_add_ 14 = .ok (.iadd, 1) := by decide +kernel
theorem dX19_add__15 : decode cX19_add_ 15 = .ok (.baload, 1) := by decide +kernel
theorem dX19_add__16 : decode cX19_add_ 16 = .ok (.invokevirtual 21, 3) := by decide +kernel
theorem dX19_add__19 : decode cX19_add_ 19 = .ok (.iinc 4 1, 3) := by decide +kernel
theorem dX19_add__22 : decode cX19_add_ 22 = .ok (.goto (-19), 3) := by decide +kernel
theorem dX19_add__25 : decode cX19_add_ 25 = .ok (.return_, 1) := by decide +kernel
theorem dX19_take_0 : decode cX19_take 0 = .ok (.aload_n 0, 1) := by decide +kernel
theorem dX19_take_1 : decode cX19_take 1 = .ok (.getfield 7, 3) := by decide +kernel
theorem dX19_take_4 : decode cX19_take 4 = .ok (.aload_n 0, 1) := by decide +kernel
theorem dX19_take_5 : decode cX19_take 5 = .ok (.getfield 17, 3) := by decide +kernel
theorem dX19_take_8 : decode cX19_take 8 = .ok (.baload, 1) := by decide +kernel
theorem dX19_take_9 : decode cX19_take 9 = .ok (.sipush 255, 3) := by decide +kernel
theorem dX19_take_12 : decode cX19_take 12 = .ok (.iand, 1) := by decide +kernel
theorem dX19_take_13 : decode cX19_take 13 = .ok (.istore_n 1, 1) := by decide +kernel
theorem dX19_take_14 : decode cX19_take 14 = .ok (.aload_n 0, 1) := by decide +kernel
theorem dX19_take_15 : decode cX19_take 15 = .ok (.dup, 1) := by decide +kernel
theorem dX19_take_16 : decode cX19_take 16 = .ok (.getfield 17, 3) := by decide +kernel
theorem dX19_take_19 : decode cX19_take 19 = .ok (.iconst 1, 1) := by decide +kernel
theorem dX19_take_20 : decode cX19_take 20 = .ok (.iadd, 1) := by decide +kernel
theorem dX19_take_21 : decode cX19_take 21 = .ok (.putfield 17, 3) := by decide +kernel
theorem dX19_take_24 : decode cX19_take 24 = .ok (.aload_n 0, 1) := by decide +kernel
theorem dX19_take_25 : decode cX19_take 25 = .ok (.getfield 17, 3) := by decide +kernel
theorem dX19_take_28 : decode cX19_take 28 = .ok (.aload_n 0, 1) := by decide +kernel
theorem dX19_take_29 : decode cX19_take 29 = .ok (.getfield 13, 3) := by decide +kernel
theorem dX19_take_32 : decode cX19_take 32 = .ok (.if_icmp .ne 7, 3) := by decide +kernel
theorem dX19_take_35 : decode cX19_take 35 = .ok (.aload_n 0, 1) := by decide +kernel
theorem dX19_take_36 : decode cX19_take 36 = .ok (.invokevirtual 42, 3) := by decide +kernel
theorem dX19_take_39 : decode cX19_take 39 = .ok (.iload_n 1, 1) := by decide +kernel
theorem dX19_take_40 : decode cX19_take 40 = .ok (.ireturn, 1) := by decide +kernel
theorem dX20_init_0 : decode cX20_init 0 = .ok (.aload_n 0, 1) := by decide +kernel
theorem dX20_init_1 : decode cX20_init 1 = .ok (.invokespecial 1, 3) := by decide +kernel
theorem dX20_init_4 : decode cX20_init 4 = .ok (.aload_n 0, 1) := by decide +kernel
theorem dX20_init_5 : decode cX20_init 5 = .ok (.iconst (-1), 1) := by decide +kernel
theorem dX20_init_6 : decode cX20_init 6 = .ok (.putfield 7, 3) := by decide +kernel
theorem dX20_init_9 : decode cX20_init 9 = .ok (.aload_n 0, 1) := by decide +kernel
theorem dX20_init_10 : decode cX20_init 10 = .ok (.new 13, 3) := by decide +kernel
theorem dX20_init_13 : decode cX20_init 13 = .ok (.dup, 1) := by decide +kernel
theorem dX20_init_14 : decode cX20_init 14 = .ok (.invokespecial 15, 3) := by decide +kernel
theorem dX20_init_17 : decode cX20_init 17 = .ok (.putfield 16, 3) := by decide +kernel
theorem dX20_init_20 : decode cX20_init 20 = .ok (.aload_n 0, 1) := by decide +kernel
theorem dX20_init_21 : decode cX20_init 21 = .ok (.new 13, 3) := by decide +kernel
theorem dX20_init_24 : decode cX20_init 24 = .ok (.dup, 1) := by decide +kernel
theorem dX20_init_25 : decode cX20_init 25 = .ok (.invokespecial 15, 3) := by decide +kernel
theorem dX20_init_28 : decode cX20_init 28 = .ok (.putfield 20, 3) := by decide +kernel
theorem dX20_init_31 : decode cX20_init 31 = .ok (.aload_n 0, 1) := by decide +kernel
theorem dX20_init_32 : decode cX20_init 32 = .ok (.new 13, 3) := by decide +kernel
theorem dX20_init_35 : decode cX20_init 35 = .ok (.dup, 1) := by decide +kernel
theorem dX20_init_36 : decode cX20_init 36 = .ok (.invokespecial 15, 3) := by decide +kernel
theorem dX20_init_39 : decode cX20_init 39 = .ok (.putfield 23, 3) := by decide +kernel
theorem dX20_init_42 : decode cX20_init 42 = .ok (.aload_n 0, 1) := by decide +kernel
theorem dX20_init_43 : decode cX20_init 43 = .ok (.new 13, 3) := by decide +kernel
theorem dX20_init_46 : decode cX20_init 46 = .ok (.dup, 1) := by decide +kernel
theorem dX20_init_47 : decode cX20_init 47 = .ok (.invokespecial 15, 3) := by decide +kernel
theorem dX20_init_50 : decode cX20_init 50 = .ok (.putfield 26, 3) := by decide +kernel
theorem dX20_init_53 : decode cX20_init 53 = .ok (.aload_n 0, 1) := by decide +kernel
theorem dX20_init_54 : decode cX20_init 54 = .ok (.iconst (-1), 1) := by decide +kernel
theorem dX20_init_55 : decode cX20_init 55 = .ok (.putfield 29, 3) := by decide +kernel
theorem dX20_init_58 : decode cX20_init 58 = .ok (.aload_n 0, 1) := by decide +kernel
theorem dX20_init_59 : decode cX20_init 59 = .ok (.getstatic 32, 3) := by decide +kernel
theorem dX20_init_62 : decode cX20_init 62 = .ok (.putfield 38, 3) := by decide +kernel
theorem dX20_init_65 : decode cX20_init 65 = .ok (.aload_n 0, 1) := by decide +kernel
theorem dX20_init_66 : decode cX20_init 66 = .ok (.new 13, 3) := by decide +kernel
theorem dX20_init_69 : decode cX20_init 69 = .ok (.dup, 1) := by decide +kernel
theorem dX20_init_70 : decode cX20_init 70 = .ok (.invokespecial 15, 3) := by decide +kernel
theorem dX20_init_73 : decode cX20_init 73 = .ok (.putfield 41, 3) := by decide +kernel
theorem dX20_init_76 : decode cX20_init 76 = .ok (.return_, 1) := by decide +kernel
theorem dX21_init_0 : decode cX21_init 0 = .ok (.aload_n 0, 1) := by decide +kernel
theorem dX21_init_1 : decode cX21_init 1 = .ok (.invokespecial 1, 3) := by decide +kernel
theorem dX21_init_4 : decode cX21_init 4 = .ok (.aload_n 0, 1) := by decide +kernel
theorem dX21_init_5 : decode cX21_init 5 = .ok (.ldc 7, 2) := by decide +kernel
theorem dX21_init_7 : decode cX21_init 7 = .ok (.newarray .byte, 2) := by decide +kernel
theorem dX21_init_9 : decode cX21_init 9 = .ok (.putfield 8, 3) := by decide +kernel
theorem dX21_init_12 : decode cX21_init 12 = .ok (.aload_n 0, 1) := by decide +kernel
theorem dX21_init_13 : decode cX21_init 13 = .ok (.new 14, 3) := by decide +kernel
theorem dX21_init_16 : decode cX21_init 16 = .ok (.dup, 1) := by decide +kernel
theorem dX21_init_17 : decode cX21_init 17 = .ok (.invokespecial 16, 3) := by decide +kernel
theorem dX21_init_20 : decode cX21_init 20 = .ok (.putfield 17, 3) := by decide +kernel
theorem dX21_init_23 : decode cX21_init 23 = .ok (.aload_n 0, 1) := by decide +kernel
theorem dX21_init_24 : decode cX21_init 24 = .ok (.new 21, 3) := by decide +kernel
theorem dX21_init_27 : decode cX21_init 27 = .ok (.dup, 1) := by decide +kernel
theorem dX21_init_28 : decode cX21_init 28 = .ok (.aload_n 0, 1) := by decide +kernel
theorem dX21_init_29 : decode cX21_init 29 = .ok (.getfield 17, 3) := by decide +kernel
theorem dX21_init_32 : decode cX21_init 32 = .ok (.invokespecial 23, 3) := by decide +kernel
theorem dX21_init_35 : decode cX21_init 35 = .ok (.putfield 26, 3) := by decide +kernel
theorem dX21_init_38 : decode cX21_init 38 = .ok (.aload_n 0, 1) := by decide +kernel
theorem dX21_init_39 : decode cX21_init 39 = .ok (.invokestatic 30, 3) := by decide +kernel
theorem dX21_init_42 : decode cX21_init 42 = .ok (.putfield 36, 3) := by decide +kernel
theorem dX21_init_45 : decode cX21_init 45 = .ok (.aload_n 0, 1) := by decide +kernel
theorem dX21_init_46 : decode cX21_init 46 = .ok (.iconst 2, 1) := by decide +kernel
theorem dX21_init_47 : decode cX21_init 47 = .ok (.anewarray 40, 3) := by decide +kernel
theorem dX21_init_50 : decode cX21_init 50 = .ok (.dup, 1) := by decide +kernel
theorem dX21_init_51 : decode cX21_init 51 = .ok (.iconst 0, 1) := by decide +kernel
theorem dX21_init_52 : decode cX21_init 52 = .ok (.new 40, 3) := by decide +kernel
theorem dX21_init_55 : decode cX21_init 55 = .ok (.dup, 1) := by decide +kernel
theorem dX21_init_56 : decode cX21_init 56 = .ok (.iconst 0, 1) := by decide +kernel
theorem dX21_init_57 : decode cX21_init 57 = .ok (.aload_n 0, 1) := by decide +kernel
theorem dX21_init_58 : decode cX21_init 58 = .ok (.getfield 36, 3) := by decide +kernel
theorem dX21_init_61 : decode cX21_init 61 = .ok (.invokespecial 42, 3) := by decide +kernel
theorem dX21_init_64 : decode cX21_init 64 = .ok (.aastore, 1) := by decide +kernel
theorem dX21_init_65 : decode cX21_init 65 = .ok (.dup, 1) := by decide +kernel
theorem dX21_init_66 : decode cX21_init 66 = .ok (.iconst 1, 1) := by decide +kernel
theorem dX21_init_67 : decode cX21_init 67 = .ok (.new 40, 3) := by decide +kernel
theorem dX21_init_70 : decode cX21_init 70 = .ok (.dup, 1) := by decide +kernel
theorem dX21_init_71 : decode cX21_init 71 = .ok (.iconst 1, 1) := by decide +kernel
theorem dX21_init_72 : decode cX21_init 72 = .ok (.aload_n 0, 1) := by decide +kernel
theorem dX21_init_73 : decode cX21_init 73 = .ok (.getfield 36, 3) := by decide +kernel
theorem dX21_init_76 : decode cX21_init 76 = .ok (.invokespecial 42, 3) := by decide +kernel
theorem dX21_init_79 : decode cX21_init 79 = .ok (.aastore, 1) := by decide +kernel
theorem dX21_init_80 : decode cX21_init 80 = .ok (.putfield 45, 3) := by decide +kernel
theorem dX21_init_83 : decode cX21_init 83 = .ok (.aload_n 0, 1) := by decide +kernel
theorem dX21_init_84 : decode cX21_init 84 = .ok (.iconst 2, 1) := by decide +kernel
theorem dX21_init_85 : decode cX21_init 85 = .ok (.anewarray 49, 3) := by decide +kernel
theorem dX21_init_88 : decode cX21_init 88 = .ok (.dup, 1) := by decide +kernel
theorem dX21_init_89 : decode cX21_init 89 = .ok (.iconst 0, 1) := by decide +kernel
theorem dX21_init_90 : decode cX21_init 90 = .ok (.new 49, 3) := by decide +kernel
theorem dX21_init_93 : decode cX21_init 93 = .ok (.dup, 1) := by decide +kernel
theorem dX21_init_94 : decode cX21_init 94 = .ok (.ldc 51, 2) := by decide +kernel
theorem dX21_init_96 : decode cX21_init 96 = .ok (.invokespecial 52, 3) := by decide +kernel
theorem dX21_init_99 : decode cX21_init 99 = .ok (.aastore, 1) := by decide +kernel
theorem dX21_init_100 : decode cX21_init 100 = .ok (.dup, 1) := by decide +kernel
theorem dX21_init_101 : decode cX21_init 101 = .ok (.iconst 1, 1) := by decide +kernel
theorem dX21_init_102 : decode cX21_init 102 = .ok (.new 49, 3) := by decide +kernel
theorem dX21_init_105 : decode cX21_init 105 = .ok (.dup, 1) := by decide +kernel
theorem dX21_init_106 : decode cX21_init 106 = .ok (.ldc 51, 2) := by decide +kernel
theorem dX21_init_108 : decode cX21_init 108 = .ok (.invokespecial 52, 3) := by decide +kernel
theorem dX21_init_111 : decode cX21_init 111 = .ok (.aastore, 1) := by decide +kernel
theorem dX21_init_112 : decode cX21_init 112 = .ok (.putfield 55, 3) := by decide +kernel
theorem dX21_init_115 : decode cX21_init 115 = .ok (.aload_n 0, 1) := by decide +kernel
theorem dX21_init_116 : decode cX21_init 116 = .ok (.getstatic 59, 3) := by decide +kernel
theorem dX21_init_119 : decode cX21_init 119 = .ok (.putfield 62, 3) := by decide +kernel
theorem dX21_init_122 : decode cX21_init 122 = .ok (.aload_n 0, 1) := by decide +kernel
theorem dX21_init_123 : decode cX21_init 123 = .ok (.getstatic 59, 3) := by decide +kernel
theorem dX21_init_126 : decode cX21_init 126 = .ok (.putfield 65, 3) := by decide +kernel
theorem dX21_init_129 : decode cX21_init 129 = .ok (.aload_n 0, 1) := by decide +kernel
theorem dX21_init_130 : decode cX21_init 130 = .ok (.bipush 8, 2) := by decide +kernel
theorem dX21_init_132 : decode cX21_init 132 = .ok (.anewarray 68, 3) := by decide +kernel
theorem dX21_init_135 : decode cX21_init 135 = .ok (.putfield 69, 3) := by decide +kernel
theorem dX21_init_138 : decode cX21_init 138 = .ok (.aload_n 0, 1) := by decide +kernel
theorem dX21_init_139 : decode cX21_init 139 = .ok (.bipush 8, 2) := by decide +kernel
theorem dX21_init_141 : decode cX21_init 141 = .ok (.anewarray 68, 3) := by decide +kernel
theorem dX21_init_144 : decode cX21_init 144 = .ok (.putfield 73, 3) := by decide +kernel
theorem dX21_init_147 : decode cX21_init 147 = .ok (.aload_n 0, 1) := by decide +kernel
theorem dX21_init_148 : decode cX21_init 148 = .ok (.bipush 8, 2) := by decide +kernel
theorem dX21_init_150 : decode cX21_init 150 = .ok (.anewarray 68, 3) := by decide +kernel
theorem dX21_init_153 : decode cX21_init 153 = .ok (.putfield 76, 3) := by decide +kernel
theorem dX21_init_156 : decode cX21_init 156 = .ok (.aload_n 0, 1) := by decide +kernel
theorem dX21_init_157 : decode cX21_init 157 = .ok (.ldc 7, 2) := by decide +kernel
theorem dX21_init_159 : decode cX21_init 159 = .ok (.newarray .boolean, 2) := by decide +kernel
theorem dX21_init_161 : decode cX21_init 161 = .ok (.putfield 79, 3) := by decide +kernel
theorem dX21_init_164 : decode cX21_init 164 = .ok (.aload_n 0, 1) := by decide +kernel
theorem dX21_init_165 : decode cX21_init 165 = .ok (.bipush 64, 2) := by decide +kernel
theorem dX21_init_167 : decode cX21_init 167 = .ok (.anewarray 68, 3) := by decide +kernel
theorem dX21_init_170 : decode cX21_init 170 = .ok (.putfield 83, 3) := by decide +kernel
theorem dX21_init_173 : decode cX21_init 173 = .ok (.aload_n 0, 1) := by decide +kernel
theorem dX21_init_174 : decode cX21_init 174 = .ok (.bipush 64, 2) := by decide +kernel
theorem dX21_init_176 : decode cX21_init 176 = .ok (.anewarray 68, 3) := by decide +kernel
theorem dX21_init_179 : decode cX21_init 179 = .ok (.putfield 86, 3) := by decide +kernel
theorem dX21_init_182 : decode cX21_init 182 = .ok (.aload_n 0, 1) := by decide +kernel
theorem dX21_init_183 : decode cX21_init 183 = .ok (.new 89, 3) := by decide +kernel
theorem dX21_init_186 : decode cX21_init 186 = .ok (.dup, 1) := by decide +kernel
theorem dX21_init_187 : decode cX21_init 187 = .ok (.invokespecial 91, 3) := by decide +kernel
theorem dX21_init_190 : decode cX21_init 190 = .ok (.putfield 92, 3) := by decide +kernel
theorem dX21_init_193 : decode cX21_init 193 = .ok (.aload_n 0, 1) := by decide +kernel
theorem dX21_init_194 : decode cX21_init 194 = .ok (.new 89, 3) := by decide +kernel
theorem dX21_init_197 : decode cX21_init 197 = .ok (.dup, 1) := by decide +kernel
theorem dX21_init_198 : decode cX21_init 198 = .ok (.invokespecial 91, 3) := by decide +kernel
theorem dX21_init_201 : decode cX21_init 201 = .ok (.putfield 96, 3) := by decide +kernel
theorem dX21_init_204 : decode cX21_init 204 = .ok (.aload_n 0, 1) := by decide +kernel
theorem dX21_init_205 : decode cX21_init 205 = .ok (.new 89, 3) := by decide +kernel
theorem dX21_init_208 : decode cX21_init 208 = .ok (.dup, 1) := by decide +kernel
theorem dX21_init_209 : decode cX21_init 209 = .ok (.invokespecial 91, 3) := by decide +kernel
theorem dX21_init_212 : decode cX21_init 212 = .ok (.putfield 99, 3) := by decide +kernel
theorem dX21_init_215 : decode cX21_init 215 = .ok (.aload_n 0, 1) := by decide +kernel
theorem dX21_init_216 : decode cX21_init 216 = .ok (.new 89, 3) := by decide +kernel
theorem dX21_init_219 : decode cX21_init 219 = .ok (.dup, 1) := by decide +kernel
theorem dX21_init_220 : decode cX21_init 220 = .ok (.invokespecial 91, 3) := by decide +kernel
theorem dX21_init_223 : decode cX21_init 223 = .ok (.putfield 102, 3) := by decide +kernel
theorem dX21_init_226 : decode cX21_init 226 = .ok (.aload_n 0, 1) := by decide +kernel
theorem dX21_init_227 : decode cX21_init 227 = .ok (.new 89, 3) := by decide +kernel
theorem dX21_init_230 : decode cX21_init 230 = .ok (.dup, 1) := by decide +kernel
theorem dX21_init_231 : decode cX21_init 231 = .ok (.invokespecial 91, 3) := by decide +kernel
theorem dX21_init_234 : decode cX21_init 234 = .ok (.putfield 105, 3) := by decide +kernel
theorem dX21_init_237 : decode cX21_init 237 = .ok (.aload_n 0, 1) := by decide +kernel
theorem dX21_init_238 : decode cX21_init 238 = .ok (.new 49, 3) := by decide +kernel
theorem dX21_init_241 : decode cX21_init 241 = .ok (.dup, 1) := by decide +kernel
theorem dX21_init_242 : decode cX21_init 242 = .ok (.invokespecial 108, 3) := by decide +kernel
theorem dX21_init_245 : decode cX21_init 245 = .ok (.putfield 109, 3) := by decide +kernel
theorem dX21_init_248 : decode cX21_init 248 = .ok (.aload_n 0, 1) := by decide +kernel
theorem dX21_init_249 : decode cX21_init 249 = .ok (.new 49, 3) := by decide +kernel
theorem dX21_init_252 : decode cX21_init 252 = .ok (.dup, 1) := by decide +kernel
theorem dX21_init_253 : decode cX21_init 253 = .ok (.invokespecial 108, 3) := by decide +kernel
theorem dX21_init_256 : decode cX21_init 256 = .ok (.putfield 113, 3) := by decide +kernel
theorem dX21_init_259 : decode cX21_init 259 = .ok (.aload_n 0, 1) := by decide +kernel
theorem dX21_init_260 : decode cX21_init 260 = .ok (.new 49, 3) := by decide +kernel
theorem dX21_init_263 : decode cX21_init 263 = .ok (.dup, 1) := by decide +kernel
theorem dX21_init_264 : decode cX21_init 264 = .ok (.invokespecial 108, 3) := by decide +kernel
theorem dX21_init_267 : decode cX21_init 267 = .ok (.putfield 116, 3) := by decide +kernel
theorem dX21_init_270 : decode cX21_init 270 = .ok (.aload_n 0, 1) := by decide +kernel
theorem dX21_init_271 : decode cX21_init 271 = .ok (.bipush 32, 2) := by decide +kernel
theorem dX21_init_273 : decode cX21_init 273 = .ok (.newarray .byte, 2) := by decide +kernel
theorem dX21_init_275 : decode cX21_init 275 = .ok (.putfield 119, 3) := by decide +kernel
theorem dX21_init_278 : decode cX21_init 278 = .ok (.aload_n 0, 1) := by decide +kernel
theorem dX21_init_279 : decode cX21_init 279 = .ok (.bipush 64, 2) := by decide +kernel
theorem dX21_init_281 : decode cX21_init 281 = .ok (.newarray .byte, 2) := by decide +kernel
theorem dX21_init_283 : decode cX21_init 283 = .ok (.putfield 122, 3) := by decide +kernel
theorem dX21_init_286 : decode cX21_init 286 = .ok (.aload_n 0, 1) := by decide +kernel
theorem dX21_init_287 : decode cX21_init 287 = .ok (.bipush 40, 2) := by decide +kernel
theorem dX21_init_289 : decode cX21_init 289 = .ok (.newarray .byte, 2) := by decide +kernel
theorem dX21_init_291 : decode cX21_init 291 = .ok (.putfield 125, 3) := by decide +kernel
theorem dX21_init_294 : decode cX21_init 294 = .ok (.aload_n 0, 1) := by decide +kernel
theorem dX21_init_295 : decode cX21_init 295 = .ok (.iconst 2, 1) := by decide +kernel
theorem dX21_init_296 : decode cX21_init 296 = .ok (.anewarray 68, 3) := by decide +kernel
theorem dX21_init_299 : decode cX21_init 299 = .ok (.dup, 1) := by decide +kernel
theorem dX21_init_300 : decode cX21_init 300 = .ok (.iconst 0, 1) := by decide +kernel
theorem dX21_init_301 : decode cX21_init 301 = .ok (.iconst 0, 1) := by decide +kernel
theorem dX21_init_302 : decode cX21_init 302 = .ok (.invokestatic 128, 3) := by decide +kernel
theorem dX21_init_305 : decode cX21_init 305 = .ok (.aastore, 1) := by decide +kernel
theorem dX21_init_306 : decode cX21_init 306 = .ok (.dup, 1) := by decide +kernel
theorem dX21_init_307 : decode cX21_init 307 = .ok (.iconst 1, 1) := by decide +kernel
theorem dX21_init_308 : decode cX21_init 308 = .ok (.iconst 1, 1) := by decide +kernel
theorem dX21_init_309 : decode cX21_init 309 = .ok (.invokestatic 128, 3) := by decide +kernel
theorem dX21_init_312 : decode cX21_init 312 = .ok (.aastore, 1) := by decide +kernel
theorem dX21_init_313 : decode cX21_init 313 = .ok (.putfield 132, 3) := by decide +kernel
theorem dX21_init_316 : decode cX21_init 316 = .ok (.aload_n 0, 1) := by decide +kernel
theorem dX21_init_317 : decode cX21_init 317 = .ok (.new 49, 3) := by decide +kernel
theorem dX21_init_320 : decode cX21_init 320 = .ok (.dup, 1) := by decide +kernel
theorem dX21_init_321 : decode cX21_init 321 = .ok (.invokespecial 108, 3) := by decide +kernel
theorem dX21_init_324 : decode cX21_init 324 = .ok (.putfield 135, 3) := by decide +kernel
theorem dX21_init_327 : decode cX21_init 327 = .ok (.aload_n 0, 1) := by decide +kernel
theorem dX21_init_328 : decode cX21_init 328 = .ok (.ldc 138, 2) := by decide +kernel
theorem dX21_init_330 : decode cX21_init 330 = .ok (.newarray .byte, 2) := by decide +kernel
theorem dX21_init_332 : decode cX21_init 332 = .ok (.putfield 139, 3) := by decide +kernel
theorem dX21_init_335 : decode cX21_init 335 = .ok (.aload_n 0, 1) := by decide +kernel
theorem dX21_init_336 : decode cX21_init 336 = .ok (.getstatic 59, 3) := by decide +kernel
theorem dX21_init_339 : decode cX21_init 339 = .ok (.putfield 142, 3) := by decide +kernel
theorem dX21_init_342 : decode cX21_init 342 = .ok (.return_, 1) := by decide +kernel
theorem dX21_thrown_0 : decode cX21_thrown 0 = .ok (.aload_n 0, 1) := by decide +kernel
theorem dX21_thrown_1 : decode cX21_thrown 1 = .ok (.getfield 145, 3) := by decide +kernel
theorem dX21_thrown_4 : decode cX21_thrown 4 = .ok (.ireturn, 1) := by decide +kernel
theorem dX21_fail_0 : decode cX21_fail 0 = .ok (.aload_n 0, 1) := by decide +kernel
theorem dX21_fail_1 : decode cX21_fail 1 = .ok (.iload_n 1, 1) := by decide +kernel
theorem dX21_fail_2 : decode cX21_fail 2 = .ok (.putfield 145, 3) := by decide +kernel
theorem dX21_fail_5 : decode cX21_fail 5 = .ok (.iconst 0, 1) := by decide +kernel
theorem dX21_fail_6 : decode cX21_fail 6 = .ok (.ireturn, 1) := by decide +kernel
theorem dX21_line_0 : decode cX21_line 0 = .ok (.iload_n 0, 1) := by decide +kernel
theorem dX21_line_1 : decode cX21_line 1 = .ok (.ifCond .ne 9, 3) := by decide +kernel
theorem dX21_line_4 : decode cX21_line 4 = .ok (.ldc_w 423, 3) := by decide +kernel
theorem dX21_line_7 : decode cX21_line 7 = .ok (.goto 6, 3) := by decide +kernel
theorem dX21_line_10 : decode cX21_line 10 = .ok (.ldc_w 425, 3) := by decide +kernel
theorem dX21_line_13 : decode cX21_line 13 = .ok (.astore_n 1, 1) := by decide +kernel
theorem dX21_line_14 : decode cX21_line 14 = .ok (.aload_n 1, 1) := by decide +kernel
theorem dX21_line_15 : decode cX21_line 15 = .ok (.invokevirtual 427, 3) := by decide +kernel
theorem dX21_line_18 : decode cX21_line 18 = .ok (.newarray .byte, 2) := by decide +kernel
theorem dX21_line_20 : decode cX21_line 20 = .ok (.astore_n 2, 1) := by decide +kernel
theorem dX21_line_21 : decode cX21_line 21 = .ok (.iconst 0, 1) := by decide +kernel
theorem dX21_line_22 : decode cX21_line 22 = .ok (.istore_n 3, 1) := by decide +kernel
theorem dX21_line_23 : decode cX21_line 23 = .ok (.iload_n 3, 1) := by decide +kernel
theorem dX21_line_24 : decode cX21_line 24 = .ok (.aload_n 2, 1) := by decide +kernel
theorem dX21_line_25 : decode cX21_line 25 = .ok (.arraylength, 1) := by decide +kernel
theorem dX21_line_26 : decode cX21_line 26 = .ok (.if_icmp .ge 18, 3) := by decide +kernel
theorem dX21_line_29 : decode cX21_line 29 = .ok (.aload_n 2, 1) := by decide +kernel
theorem dX21_line_30 : decode cX21_line 30 = .ok (.iload_n 3, 1) := by decide +kernel
theorem dX21_line_31 : decode cX21_line 31 = .ok (.aload_n 1, 1) := by decide +kernel
theorem dX21_line_32 : decode cX21_line 32 = .ok (.iload_n 3, 1) := by decide +kernel
theorem dX21_line_33 : decode cX21_line 33 = .ok (.invokevirtual 432, 3) := by decide +kernel
theorem dX21_line_36 : decode cX21_line 36 = .ok (.i2b, 1) := by decide +kernel
theorem dX21_line_37 : decode cX21_line 37 = .ok (.bastore, 1) := by decide +kernel
theorem dX21_line_38 : decode cX21_line 38 = .ok (.iinc 3 1, 3) := by decide +kernel
theorem dX21_line_41 : decode cX21_line 41 = .ok (.goto (-18), 3) := by decide +kernel
theorem dX21_line_44 : decode cX21_line 44 = .ok (.aload_n 2, 1) := by decide +kernel
theorem dX21_line_45 : decode cX21_line 45 = .ok (.areturn, 1) := by decide +kernel
theorem dX21_sessionOf_0 : decode cX21_sessionOf 0 = .ok (.aload_n 1, 1) := by decide +kernel
theorem dX21_sessionOf_1 : decode cX21_sessionOf 1 = .ok (.getfield 221, 3) := by decide +kernel
theorem dX21_sessionOf_4 : decode cX21_sessionOf 4 = .ok (.ifCond .ne 10, 3) := by decide +kernel
theorem dX21_sessionOf_7 : decode cX21_sessionOf 7 = .ok (.aload_n 0, 1) := by decide +kernel
theorem dX21_sessionOf_8 : decode cX21_sessionOf 8 = .ok (.getfield 484, 3) := by decide +kernel
theorem dX21_sessionOf_11 : decode cX21_sessionOf 11 = .ok (.goto 7, 3) := by decide +kernel
theorem dX21_sessionOf_14 : decode cX21_sessionOf 14 = .ok (.aload_n 0, 1) := by decide +kernel
theorem dX21_sessionOf_15 : decode cX21_sessionOf 15 = .ok (.getfield 469, 3) := by decide +kernel
theorem dX21_sessionOf_18 : decode cX21_sessionOf 18 = .ok (.areturn, 1) := by decide +kernel
theorem dX21_used_0 : decode cX21_used 0 = .ok (.aload_n 0, 1) := by decide +kernel
theorem dX21_used_1 : decode cX21_used 1 = .ok (.getfield 710, 3) := by decide +kernel
theorem dX21_used_4 : decode cX21_used 4 = .ok (.ifCond .eq 11, 3) := by decide +kernel
theorem dX21_used_7 : decode cX21_used 7 = .ok (.aload_n 0, 1) := by decide +kernel
theorem dX21_used_8 : decode cX21_used 8 = .ok (.getfield 710, 3) := by decide +kernel
theorem dX21_used_11 : decode cX21_used 11 = .ok (.iconst 1, 1) := by decide +kernel
theorem dX21_used_12 : decode cX21_used 12 = .ok (.if_icmp .ne 7, 3) := by decide +kernel
theorem dX21_used_15 : decode cX21_used 15 = .ok (.iconst 1, 1) := by decide +kernel
theorem dX21_used_16 : decode cX21_used 16 = .ok (.goto 4, 3) := by decide +kernel
theorem dX21_used_19 : decode cX21_used 19 = .ok (.iconst 0, 1) := by decide +kernel
theorem dX21_used_20 : decode cX21_used 20 = .ok (.ireturn, 1) := by decide +kernel
theorem dX21_farSide_0 : decode cX21_farSide 0 = .ok (.iconst 0, 1) := by decide +kernel
theorem dX21_farSide_1 : decode cX21_farSide 1 = .ok (.istore_n 2, 1) := by decide +kernel
theorem dX21_farSide_2 : decode cX21_farSide 2 = .ok (.iload_n 2, 1) := by decide +kernel
theorem dX21_farSide_3 : decode cX21_farSide 3 = .ok (.bipush 16, 2) := by decide +kernel
theorem dX21_farSide_5 : decode cX21_farSide 5 = .ok (.if_icmp .ge 46, 3) := by decide +kernel
theorem dX21_farSide_8 : decode cX21_farSide 8 = .ok (.aload_n 0, 1) := by decide +kernel
theorem dX21_farSide_9 : decode cX21_farSide 9 = .ok (.getfield 45, 3) := by decide +kernel
theorem dX21_farSide_12 : decode cX21_farSide 12 = .ok (.iconst 1, 1) := by decide +kernel
theorem dX21_farSide_13 : decode cX21_farSide 13 = .ok (.aaload, 1) := by decide +kernel
theorem dX21_farSide_14 : decode cX21_farSide 14 = .ok (.getfield 706, 3) := by decide +kernel
theorem dX21_farSide_17 : decode cX21_farSide 17 = .ok (.iload_n 2, 1) := by decide +kernel
theorem dX21_farSide_18 : decode cX21_farSide 18 = .ok (.aaload, 1) := by decide +kernel
theorem dX21_farSide_19 : decode cX21_farSide 19 = .ok (.astore_n 3, 1) := by decide +kernel
theorem dX21_farSide_20 : decode cX21_farSide 20 = .ok (.aload_n 3, 1) := by decide +kernel
theorem dX21_farSide_21 : decode cX21_farSide 21 = .ok (.getfield 710, 3) := by decide +kernel
theorem dX21_farSide_24 : decode cX21_farSide 24 = .ok (.iconst 1, 1) := by decide +kernel
theorem dX21_farSide_25 : decode cX21_farSide 25 = .ok (.if_icmp .ne 20, 3) := by decide +kernel
theorem dX21_farSide_28 : decode cX21_farSide 28 = .ok (.aload_n 3, 1) := by decide +kernel
theorem dX21_farSide_29 : decode cX21_farSide 29 = .ok (.getfield 746, 3) := by decide +kernel
theorem dX21_farSide_32 : decode cX21_farSide 32 = .ok (.ifCond .ne 13, 3) := by decide +kernel
theorem dX21_farSide_35 : decode cX21_farSide 35 = .ok (.aload_n 3, 1) := by decide +kernel
theorem dX21_farSide_36 : decode cX21_farSide 36 = .ok (.getfield 748, 3) := by decide +kernel
theorem dX21_farSide_39 : decode cX21_farSide 39 = .ok (.iload_n 1, 1) := by decide +kernel
theorem dX21_farSide_40 : decode cX21_farSide 40 = .ok (.if_icmp .ne 5, 3) := by decide +kernel
theorem dX21_farSide_43 : decode cX21_farSide 43 = .ok (.aload_n 3, 1) := by decide +kernel
theorem dX21_farSide_44 : decode cX21_farSide 44 = .ok (.areturn, 1) := by decide +kernel
theorem dX21_farSide_45 : decode cX21_farSide 45 = .ok (.iinc 2 1, 3) := by decide +kernel
theorem dX21_farSide_48 : decode cX21_farSide 48 = .ok (.goto (-46), 3) := by decide +kernel
theorem dX21_farSide_51 : decode cX21_farSide 51 = .ok (.aconst_null, 1) := by decide +kernel
theorem dX21_farSide_52 : decode cX21_farSide 52 = .ok (.areturn, 1) := by decide +kernel
theorem dX21_bytesStored_0 : decode cX21_bytesStored 0 = .ok (.iconst 0, 1) := by decide +kernel
theorem dX21_bytesStored_1 : decode cX21_bytesStored 1 = .ok (.istore_n 1, 1) := by decide +kernel
theorem dX21_bytesStored_2 : decode cX21_bytesStored 2 = .ok (.iconst 0, 1) := by decide +kernel
theorem dX21_bytesStored_3 : decode cX21_bytesStored 3 = .ok (.istore_n 2, 1) := by decide +kernel
theorem dX21_bytesStored_4 : decode cX21_bytesStored 4 = .ok (.iload_n 2, 1) := by decide +kernel
theorem dX21_bytesStored_5 : decode cX21_bytesStored 5 = .ok (.aload_n 0, 1) := by decide +kernel
theorem dX21_bytesStored_6 : decode cX21_bytesStored 6 = .ok (.getfield 861, 3) := by decide +kernel
theorem dX21_bytesStored_9 : decode cX21_bytesStored 9 = .ok (.if_icmp .ge 19, 3) := by decide +kernel
theorem dX21_bytesStored_12 : decode cX21_bytesStored 12 = .ok (.iload_n 1, 1) := by decide +kernel
theorem dX21_bytesStored_13 : decode cX21_bytesStored 13 = .ok (.aload_n 0, 1) := by decide +kernel
theorem dX21_bytesStored_14 : decode cX21_bytesStored 14 = .ok (.getfield 86, 3) := by decide +kernel
theorem dX21_bytesStored_17 : decode cX21_bytesStored 17 = .ok (.iload_n 2, 1) := by decide +kernel
theorem dX21_bytesStored_18 : decode cX21_bytesStored 18 = .ok (.aaload, 1) := by decide +kernel
theorem dX21_bytesStored_19 : decode cX21_bytesStored 19 = .ok (.arraylength, 1) := by decide +kernel
theorem dX21_bytesStored_20 : decode cX21_bytesStored 20 = .ok (.iadd, 1) := by decide +kernel
theorem dX21_bytesStored_21 : decode cX21_bytesStored 21 = .ok (.istore_n 1, 1) := by decide +kernel
theorem dX21_bytesStored_22 : decode cX21_bytesStored 22 = .ok (.iinc 2 1, 3) := by decide +kernel
theorem dX21_bytesStored_25 : decode cX21_bytesStored 25 = .ok (.goto (-21), 3) := by decide +kernel
theorem dX21_bytesStored_28 : decode cX21_bytesStored 28 = .ok (.iload_n 1, 1) := by decide +kernel
theorem dX21_bytesStored_29 : decode cX21_bytesStored 29 = .ok (.ireturn, 1) := by decide +kernel
theorem dX21_feed_0 : decode cX21_feed 0 = .ok (.aload_n 0, 1) := by decide +kernel
theorem dX21_feed_1 : decode cX21_feed 1 = .ok (.iconst 0, 1) := by decide +kernel
theorem dX21_feed_2 : decode cX21_feed 2 = .ok (.putfield 145, 3) := by decide +kernel
theorem dX21_feed_5 : decode cX21_feed 5 = .ok (.aload_n 0, 1) := by decide +kernel
theorem dX21_feed_6 : decode cX21_feed 6 = .ok (.getfield 922, 3) := by decide +kernel
theorem dX21_feed_9 : decode cX21_feed 9 = .ok (.ldc_w 925, 3) := by decide +kernel
theorem dX21_feed_12 : decode cX21_feed 12 = .ok (.if_icmp .le 9, 3) := by decide +kernel
theorem dX21_feed_15 : decode cX21_feed 15 = .ok (.aload_n 0, 1) := by decide +kernel
theorem dX21_feed_16 : decode cX21_feed 16 = .ok (.iconst 1, 1) := by decide +kernel
theorem dX21_feed_17 : decode cX21_feed 17 = .ok (.invokevirtual 926, 3) := by decide +kernel
theorem dX21_feed_20 : decode cX21_feed 20 = .ok (.ireturn, 1) := by decide +kernel
theorem dX21_feed_21 : decode cX21_feed 21 = .ok (.iconst 0, 1) := by decide +kernel
theorem dX21_feed_22 : decode cX21_feed 22 = .ok (.istore 6, 2) := by decide +kernel
theorem dX21_feed_24 : decode cX21_feed 24 = .ok (.iload 6, 2) := by decide +kernel
theorem dX21_feed_26 : decode cX21_feed 26 = .ok (.bipush 20, 2) := by decide +kernel
theorem dX21_feed_28 : decode cX21_feed 28 = .ok (.if_icmp .ge 82, 3) := by decide +kernel
theorem dX21_feed_31 : decode cX21_feed 31 = .ok (.iload 6, 2) := by decide +kernel
theorem dX21_feed_33 : decode cX21_feed 33 = .ok (.iconst 4, 1) := by decide +kernel
theorem dX21_feed_34 : decode cX21_feed 34 = .ok (.if_icmp .ge 7, 3) := by decide +kernel
theorem dX21_feed_37 : decode cX21_feed 37 = .ok (.iload_n 1, 1) := by decide +kernel
theorem dX21_feed_38 : decode cX21_feed 38 = .ok (.goto 39, 3) := by decide +kernel
theorem dX21_feed_41 : decode cX21_feed 41 = .ok (.iload 6, 2) := by decide +kernel
theorem dX21_feed_43 : decode cX21_feed 43 = .ok (.bipush 8, 2) := by decide +kernel
theorem dX21_feed_45 : decode cX21_feed 45 = .ok (.if_icmp .ge 7, 3) := by decide +kernel
theorem dX21_feed_48 : decode cX21_feed 48 = .ok (.iload_n 2, 1) := by decide +kernel
theorem dX21_feed_49 : decode cX21_feed 49 = .ok (.goto 28, 3) := by decide +kernel
theorem dX21_feed_52 : decode cX21_feed 52 = .ok (.iload 6, 2) := by decide +kernel
theorem dX21_feed_54 : decode cX21_feed 54 = .ok (.bipush 12, 2) := by decide +kernel
theorem dX21_feed_56 : decode cX21_feed 56 = .ok (.if_icmp .ge 7, 3) := by decide +kernel
theorem dX21_feed_59 : decode cX21_feed 59 = .ok (.iload_n 3, 1) := by decide +kernel
theorem dX21_feed_60 : decode cX21_feed 60 = .ok (.goto 17, 3) := by decide +kernel
theorem dX21_feed_63 : decode cX21_feed 63 = .ok (.iload 6, 2) := by decide +kernel
theorem dX21_feed_65 : decode cX21_feed 65 = .ok (.bipush 16, 2) := by decide +kernel
theorem dX21_feed_67 : decode cX21_feed 67 = .ok (.if_icmp .ge 8, 3) := by decide +kernel
theorem dX21_feed_70 : decode cX21_feed 70 = .ok (.iload 4, 2) := by decide +kernel
theorem dX21_feed_72 : decode cX21_feed 72 = .ok (.goto 5, 3) := by decide +kernel
theorem dX21_feed_75 : decode cX21_feed 75 = .ok (.iload 5, 2) := by decide +kernel
theorem dX21_feed_77 : decode cX21_feed 77 = .ok (.istore 7, 2) := by decide +kernel
theorem dX21_feed_79 : decode cX21_feed 79 = .ok (.aload_n 0, 1) := by decide +kernel
theorem dX21_feed_80 : decode cX21_feed 80 = .ok (.getfield 8, 3) := by decide +kernel
theorem dX21_feed_83 : decode cX21_feed 83 = .ok (.aload_n 0, 1) := by decide +kernel
theorem dX21_feed_84 : decode cX21_feed 84 = .ok (.getfield 922, 3) := by decide +kernel
theorem dX21_feed_87 : decode cX21_feed 87 = .ok (.iload 6, 2) := by decide +kernel
theorem dX21_feed_89 : decode cX21_feed 89 = .ok (.iadd, 1) := by decide +kernel
theorem dX21_feed_90 : decode cX21_feed 90 = .ok (.iload 7, 2) := by decide +kernel
theorem dX21_feed_92 : decode cX21_feed 92 = .ok (.bipush 8, 2) := by decide +kernel
theorem dX21_feed_94 : decode cX21_feed 94 = .ok (.iconst 3, 1) := by decide +kernel
theorem dX21_feed_95 : decode cX21_feed 95 = .ok (.iload 6, 2) := by decide +kernel
theorem dX21_feed_97 : decode cX21_feed 97 = .ok (.iconst 4, 1) := by decide +kernel
theorem dX21_feed_98 : decode cX21_feed 98 = .ok (.irem, 1) := by decide +kernel
theorem dX21_feed_99 : decode cX21_feed 99 = .ok (.isub, 1) := by decide +kernel
theorem dX21_feed_100 : decode cX21_feed 100 = .ok (.imul, 1) := by decide +kernel
theorem dX21_feed_101 : decode cX21_feed 101 = .ok (.ishr, 1) := by decide +kernel
theorem dX21_feed_102 : decode cX21_feed 102 = .ok (.i2b, 1) := by decide +kernel
theorem dX21_feed_103 : decode cX21_feed 103 = .ok (.bastore, 1) := by decide +kernel
theorem dX21_feed_104 : decode cX21_feed 104 = .ok (.iinc 6 1, 3) := by decide +kernel
theorem dX21_feed_107 : decode cX21_feed 107 = .ok (.goto (-83), 3) := by decide +kernel
theorem dX21_feed_110 : decode cX21_feed 110 = .ok (.aload_n 0, 1) := by decide +kernel
theorem dX21_feed_111 : decode cX21_feed 111 = .ok (.dup, 1) := by decide +kernel
theorem dX21_feed_112 : decode cX21_feed 112 = .ok (.getfield 922, 3) := by decide +kernel
theorem dX21_feed_115 : decode cX21_feed 115 = .ok (.bipush 20, 2) := by decide +kernel
theorem dX21_feed_117 : decode cX21_feed 117 = .ok (.iadd, 1) := by decide +kernel
theorem dX21_feed_118 : decode cX21_feed 118 = .ok (.putfield 922, 3) := by decide +kernel
theorem dX21_feed_121 : decode cX21_feed 121 = .ok (.aload_n 0, 1) := by decide +kernel
theorem dX21_feed_122 : decode cX21_feed 122 = .ok (.getfield 922, 3) := by decide +kernel
theorem dX21_feed_125 : decode cX21_feed 125 = .ok (.ireturn, 1) := by decide +kernel
theorem dX21_end_0 : decode cX21_end 0 = .ok (.aload_n 0, 1) := by decide +kernel
theorem dX21_end_1 : decode cX21_end 1 = .ok (.iconst 0, 1) := by decide +kernel
theorem dX21_end_2 : decode cX21_end 2 = .ok (.putfield 145, 3) := by decide +kernel
theorem dX21_end_5 : decode cX21_end 5 = .ok (.iload_n 1, 1) := by decide +kernel
theorem dX21_end_6 : decode cX21_end 6 = .ok (.ifCond .lt 11, 3) := by decide +kernel
theorem dX21_end_9 : decode cX21_end 9 = .ok (.iload_n 1, 1) := by decide +kernel
theorem dX21_end_10 : decode cX21_end 10 = .ok (.aload_n 0, 1) := by decide +kernel
theorem dX21_end_11 : decode cX21_end 11 = .ok (.getfield 922, 3) := by decide +kernel
theorem dX21_end_14 : decode cX21_end 14 = .ok (.if_icmp .le 9, 3) := by decide +kernel
theorem dX21_end_17 : decode cX21_end 17 = .ok (.aload_n 0, 1) := by decide +kernel
theorem dX21_end_18 : decode cX21_end 18 = .ok (.iconst 1, 1) := by decide +kernel
theorem dX21_end_19 : decode cX21_end 19 = .ok (.invokevirtual 926, 3) := by decide +kernel
theorem dX21_end_22 : decode cX21_end 22 = .ok (.ireturn, 1) := by decide +kernel
theorem dX21_end_23 : decode cX21_end 23 = .ok (.aload_n 0, 1) := by decide +kernel
theorem dX21_end_24 : decode cX21_end 24 = .ok (.iload_n 1, 1) := by decide +kernel
theorem dX21_end_25 : decode cX21_end 25 = .ok (.putfield 922, 3) := by decide +kernel
theorem dX21_end_28 : decode cX21_end 28 = .ok (.iload_n 1, 1) := by decide +kernel
theorem dX21_end_29 : decode cX21_end 29 = .ok (.ireturn, 1) := by decide +kernel
theorem dX21_secret_0 : decode cX21_secret 0 = .ok (.aload_n 0, 1) := by decide +kernel
theorem dX21_secret_1 : decode cX21_secret 1 = .ok (.iload_n 1, 1) := by decide +kernel
theorem dX21_secret_2 : decode cX21_secret 2 = .ok (.ifCond .lt 8, 3) := by decide +kernel
theorem dX21_secret_5 : decode cX21_secret 5 = .ok (.iload_n 1, 1) := by decide +kernel
theorem dX21_secret_6 : decode cX21_secret 6 = .ok (.iconst 4, 1) := by decide +kernel
theorem dX21_secret_7 : decode cX21_secret 7 = .ok (.if_icmp .le 7, 3) := by decide +kernel
theorem dX21_secret_10 : decode cX21_secret 10 = .ok (.iconst 1, 1) := by decide +kernel
theorem dX21_secret_11 : decode cX21_secret 11 = .ok (.goto 17, 3) := by decide +kernel
theorem dX21_secret_14 : decode cX21_secret 14 = .ok (.aload_n 0, 1) := by decide +kernel
theorem dX21_secret_15 : decode cX21_secret 15 = .ok (.getfield 922, 3) := by decide +kernel
theorem dX21_secret_18 : decode cX21_secret 18 = .ok (.bipush 32, 2) := by decide +kernel
theorem dX21_secret_20 : decode cX21_secret 20 = .ok (.if_icmp .eq 7, 3) := by decide +kernel
theorem dX21_secret_23 : decode cX21_secret 23 = .ok (.iconst 2, 1) := by decide +kernel
theorem dX21_secret_24 : decode cX21_secret 24 = .ok (.goto 4, 3) := by decide +kernel
theorem dX21_secret_27 : decode cX21_secret 27 = .ok (.iconst 0, 1) := by decide +kernel
theorem dX21_secret_28 : decode cX21_secret 28 = .ok (.putfield 145, 3) := by decide +kernel
theorem dX21_secret_31 : decode cX21_secret 31 = .ok (.aload_n 0, 1) := by decide +kernel
theorem dX21_secret_32 : decode cX21_secret 32 = .ok (.getfield 145, 3) := by decide +kernel
theorem dX21_secret_35 : decode cX21_secret 35 = .ok (.ifCond .le 4, 3) := by decide +kernel
theorem dX21_secret_38 : decode cX21_secret 38 = .ok (.return_, 1) := by decide +kernel
theorem dX21_secret_39 : decode cX21_secret 39 = .ok (.aload_n 0, 1) := by decide +kernel
theorem dX21_secret_40 : decode cX21_secret 40 = .ok (.iconst 0, 1) := by decide +kernel
theorem dX21_secret_41 : decode cX21_secret 41 = .ok (.bipush 32, 2) := by decide +kernel
theorem dX21_secret_43 : decode cX21_secret 43 = .ok (.invokevirtual 930, 3) := by decide +kernel
theorem dX21_secret_46 : decode cX21_secret 46 = .ok (.astore_n 2, 1) := by decide +kernel
theorem dX21_secret_47 : decode cX21_secret 47 = .ok (.aload_n 0, 1) := by decide +kernel
theorem dX21_secret_48 : decode cX21_secret 48 = .ok (.iconst 0, 1) := by decide +kernel
theorem dX21_secret_49 : decode cX21_secret 49 = .ok (.putfield 922, 3) := by decide +kernel
theorem dX21_secret_52 : decode cX21_secret 52 = .ok (.iload_n 1, 1) := by decide +kernel
theorem dX21_secret_53 : decode cX21_secret 53 = .ok (.iconst 2, 1) := by decide +kernel
theorem dX21_secret_54 : decode cX21_secret 54 = .ok (.if_icmp .ge 54, 3) := by decide +kernel
theorem dX21_secret_57 : decode cX21_secret 57 = .ok (.iconst 0, 1) := by decide +kernel
theorem dX21_secret_58 : decode cX21_secret 58 = .ok (.istore_n 3, 1) := by decide +kernel
theorem dX21_secret_59 : decode cX21_secret 59 = .ok (.iload_n 3, 1) := by decide +kernel
theorem dX21_secret_60 : decode cX21_secret 60 = .ok (.bipush 32, 2) := by decide +kernel
theorem dX21_secret_62 : decode cX21_secret 62 = .ok (.if_icmp .ge 23, 3) := by decide +kernel
theorem dX21_secret_65 : decode cX21_secret 65 = .ok (.aload_n 0, 1) := by decide +kernel
theorem dX21_secret_66 : decode cX21_secret 66 = .ok (.getfield 45, 3) := by decide +kernel
theorem dX21_secret_69 : decode cX21_secret 69 = .ok (.iload_n 1, 1) := by decide +kernel
theorem dX21_secret_70 : decode cX21_secret 70 = .ok (.aaload, 1) := by decide +kernel
theorem dX21_secret_71 : decode cX21_secret 71 = .ok (.getfield 152, 3) := by decide +kernel
theorem dX21_secret_74 : decode cX21_secret 74 = .ok (.iload_n 3, 1) := by decide +kernel
theorem dX21_secret_75 : decode cX21_secret 75 = .ok (.aload_n 2, 1) := by decide +kernel
theorem dX21_secret_76 : decode cX21_secret 76 = .ok (.iload_n 3, 1) := by decide +kernel
theorem dX21_secret_77 : decode cX21_secret 77 = .ok (.baload, 1) := by decide +kernel
theorem dX21_secret_78 : decode cX21_secret 78 = .ok (.bastore, 1) := by decide +kernel
theorem dX21_secret_79 : decode cX21_secret 79 = .ok (.iinc 3 1, 3) := by decide +kernel
theorem dX21_secret_82 : decode cX21_secret 82 = .ok (.goto (-23), 3) := by decide +kernel
theorem dX21_secret_85 : decode cX21_secret 85 = .ok (.aload_n 0, 1) := by decide +kernel
theorem dX21_secret_86 : decode cX21_secret 86 = .ok (.getfield 45, 3) := by decide +kernel
theorem dX21_secret_89 : decode cX21_secret 89 = .ok (.iload_n 1, 1) := by decide +kernel
theorem dX21_secret_90 : decode cX21_secret 90 = .ok (.aaload, 1) := by decide +kernel
theorem dX21_secret_91 : decode cX21_secret 91 = .ok (.lconst 0, 1) := by decide +kernel
theorem dX21_secret_92 : decode cX21_secret 92 = .ok (.putfield 155, 3) := by decide +kernel
theorem dX21_secret_95 : decode cX21_secret 95 = .ok (.aload_n 0, 1) := by decide +kernel
theorem dX21_secret_96 : decode cX21_secret 96 = .ok (.getfield 45, 3) := by decide +kernel
theorem dX21_secret_99 : decode cX21_secret 99 = .ok (.iload_n 1, 1) := by decide +kernel
theorem dX21_secret_100 : decode cX21_secret 100 = .ok (.aaload, 1) := by decide +kernel
theorem dX21_secret_101 : decode cX21_secret 101 = .ok (.iconst 0, 1) := by decide +kernel
theorem dX21_secret_102 : decode cX21_secret 102 = .ok (.putfield 149, 3) := by decide +kernel
theorem dX21_secret_105 : decode cX21_secret 105 = .ok (.goto 34, 3) := by decide +kernel
theorem dX21_secret_108 : decode cX21_secret 108 = .ok (.iload_n 1, 1) := by decide +kernel
theorem dX21_secret_109 : decode cX21_secret 109 = .ok (.iconst 2, 1) := by decide +kernel
theorem dX21_secret_110 : decode cX21_secret 110 = .ok (.if_icmp .ne 11, 3) := by decide +kernel
theorem dX21_secret_113 : decode cX21_secret 113 = .ok (.aload_n 0, 1) := by decide +kernel
theorem dX21_secret_114 : decode cX21_secret 114 = .ok (.aload_n 2, 1) := by decide +kernel
theorem dX21_secret_115 : decode cX21_secret 115 = .ok (.putfield 451, 3) := by decide +kernel
theorem dX21_secret_118 : decode cX21_secret 118 = .ok (.goto 21, 3) := by decide +kernel
theorem dX21_secret_121 : decode cX21_secret 121 = .ok (.iload_n 1, 1) := by decide +kernel
theorem dX21_secret_122 : decode cX21_secret 122 = .ok (.iconst 3, 1) := by decide +kernel
theorem dX21_secret_123 : decode cX21_secret 123 = .ok (.if_icmp .ne 11, 3) := by decide +kernel
theorem dX21_secret_126 : decode cX21_secret 126 = .ok (.aload_n 0, 1) := by decide +kernel
theorem dX21_secret_127 : decode cX21_secret 127 = .ok (.aload_n 2, 1) := by decide +kernel
theorem dX21_secret_128 : decode cX21_secret 128 = .ok (.putfield 660, 3) := by decide +kernel
theorem dX21_secret_131 : decode cX21_secret 131 = .ok (.goto 8, 3) := by decide +kernel
theorem dX21_secret_134 : decode cX21_secret 134 = .ok (.aload_n 0, 1) := by decide +kernel
theorem dX21_secret_135 : decode cX21_secret 135 = .ok (.aload_n 2, 1) := by decide +kernel
theorem dX21_secret_136 : decode cX21_secret 136 = .ok (.putfield 495, 3) := by decide +kernel
theorem dX21_secret_139 : decode cX21_secret 139 = .ok (.return_, 1) := by decide +kernel
theorem dX21_user_0 : decode cX21_user 0 = .ok (.aload_n 0, 1) := by decide +kernel
theorem dX21_user_1 : decode cX21_user 1 = .ok (.iconst 0, 1) := by decide +kernel
theorem dX21_user_2 : decode cX21_user 2 = .ok (.putfield 145, 3) := by decide +kernel
theorem dX21_user_5 : decode cX21_user 5 = .ok (.iload_n 1, 1) := by decide +kernel
theorem dX21_user_6 : decode cX21_user 6 = .ok (.iconst 1, 1) := by decide +kernel
theorem dX21_user_7 : decode cX21_user 7 = .ok (.if_icmp .lt 28, 3) := by decide +kernel
theorem dX21_user_10 : decode cX21_user 10 = .ok (.iload_n 1, 1) := by decide +kernel
theorem dX21_user_11 : decode cX21_user 11 = .ok (.bipush 32, 2) := by decide +kernel
theorem dX21_user_13 : decode cX21_user 13 = .ok (.if_icmp .gt 22, 3) := by decide +kernel
theorem dX21_user_16 : decode cX21_user 16 = .ok (.iload_n 1, 1) := by decide +kernel
theorem dX21_user_17 : decode cX21_user 17 = .ok (.aload_n 0, 1) := by decide +kernel
theorem dX21_user_18 : decode cX21_user 18 = .ok (.getfield 922, 3) := by decide +kernel
theorem dX21_user_21 : decode cX21_user 21 = .ok (.if_icmp .gt 14, 3) := by decide +kernel
theorem dX21_user_24 : decode cX21_user 24 = .ok (.aload_n 0, 1) := by decide +kernel
theorem dX21_user_25 : decode cX21_user 25 = .ok (.getfield 922, 3) := by decide +kernel
theorem dX21_user_28 : decode cX21_user 28 = .ok (.iload_n 1, 1) := by decide +kernel
theorem dX21_user_29 : decode cX21_user 29 = .ok (.isub, 1) := by decide +kernel
theorem dX21_user_30 : decode cX21_user 30 = .ok (.bipush 64, 2) := by decide +kernel
theorem dX21_user_32 : decode cX21_user 32 = .ok (.if_icmp .le 9, 3) := by decide +kernel
theorem dX21_user_35 : decode cX21_user 35 = .ok (.aload_n 0, 1) := by decide +kernel
theorem dX21_user_36 : decode cX21_user 36 = .ok (.iconst 1, 1) := by decide +kernel
theorem dX21_user_37 : decode cX21_user 37 = .ok (.invokevirtual 926, 3) := by decide +kernel
theorem dX21_user_40 : decode cX21_user 40 = .ok (.ireturn, 1) := by decide +kernel
theorem dX21_user_41 : decode cX21_user 41 = .ok (.aload_n 0, 1) := by decide +kernel
theorem dX21_user_42 : decode cX21_user 42 = .ok (.iconst 0, 1) := by decide +kernel
theorem dX21_user_43 : decode cX21_user 43 = .ok (.iload_n 1, 1) := by decide +kernel
theorem dX21_user_44 : decode cX21_user 44 = .ok (.invokevirtual 930, 3) := by decide +kernel
theorem dX21_user_47 : decode cX21_user 47 = .ok (.astore_n 3, 1) := by decide +kernel
theorem dX21_user_48 : decode cX21_user 48 = .ok (.aload_n 0, 1) := by decide +kernel
theorem dX21_user_49 : decode cX21_user 49 = .ok (.iload_n 1, 1) := by decide +kernel
theorem dX21_user_50 : decode cX21_user 50 = .ok (.aload_n 0, 1) := by decide +kernel
theorem dX21_user_51 : decode cX21_user 51 = .ok (.getfield 922, 3) := by decide +kernel
theorem dX21_user_54 : decode cX21_user 54 = .ok (.invokevirtual 930, 3) := by decide +kernel
theorem dX21_user_57 : decode cX21_user 57 = .ok (.astore 4, 2) := by decide +kernel
theorem dX21_user_59 : decode cX21_user 59 = .ok (.iload_n 2, 1) := by decide +kernel
theorem dX21_user_60 : decode cX21_user 60 = .ok (.ifCond .ne 24, 3) := by decide +kernel
theorem dX21_user_63 : decode cX21_user 63 = .ok (.aload_n 0, 1) := by decide +kernel
theorem dX21_user_64 : decode cX21_user 64 = .ok (.aload_n 3, 1) := by decide +kernel
theorem dX21_user_65 : decode cX21_user 65 = .ok (.putfield 62, 3) := by decide +kernel
theorem dX21_user_68 : decode cX21_user 68 = .ok (.aload_n 0, 1) := by decide +kernel
theorem dX21_user_69 : decode cX21_user 69 = .ok (.aload 4, 2) := by decide +kernel
theorem dX21_user_71 : decode cX21_user 71 = .ok (.putfield 65, 3) := by decide +kernel
theorem dX21_user_74 : decode cX21_user 74 = .ok (.aload_n 0, 1) := by decide +kernel
theorem dX21_user_75 : decode cX21_user 75 = .ok (.iconst 0, 1) := by decide +kernel
theorem dX21_user_76 : decode cX21_user 76 = .ok (.putfield 922, 3) := by decide +kernel
theorem dX21_user_79 : decode cX21_user 79 = .ok (.aload_n 0, 1) := by decide +kernel
theorem dX21_user_80 : decode cX21_user 80 = .ok (.getfield 687, 3) := by decide +kernel
theorem dX21_user_83 : decode cX21_user 83 = .ok (.ireturn, 1) := by decide +kernel
theorem dX21_user_84 : decode cX21_user 84 = .ok (.iconst 0, 1) := by decide +kernel
theorem dX21_user_85 : decode cX21_user 85 = .ok (.istore 5, 2) := by decide +kernel
theorem dX21_user_87 : decode cX21_user 87 = .ok (.iload 5, 2) := by decide +kernel
theorem dX21_user_89 : decode cX21_user 89 = .ok (.aload_n 0, 1) := by decide +kernel
theorem dX21_user_90 : decode cX21_user 90 = .ok (.getfield 687, 3) := by decide +kernel
theorem dX21_user_93 : decode cX21_user 93 = .ok (.if_icmp .ge 29, 3) := by decide +kernel
theorem dX21_user_96 : decode cX21_user 96 = .ok (.aload_n 0, 1) := by decide +kernel
theorem dX21_user_97 : decode cX21_user 97 = .ok (.getfield 69, 3) := by decide +kernel
theorem dX21_user_100 : decode cX21_user 100 = .ok (.iload 5, 2) := by decide +kernel
theorem dX21_user_102 : decode cX21_user 102 = .ok (.aaload, 1) := by decide +kernel
theorem dX21_user_103 : decode cX21_user 103 = .ok (.aload_n 3, 1) := by decide +kernel
theorem dX21_user_104 : decode cX21_user 104 = .ok (.invokestatic 498, 3) := by decide +kernel
theorem dX21_user_107 : decode cX21_user 107 = .ok (.ifCond .eq 9, 3) := by decide +kernel
theorem dX21_user_110 : decode cX21_user 110 = .ok (.aload_n 0, 1) := by decide +kernel
theorem dX21_user_111 : decode cX21_user 111 = .ok (.iconst 1, 1) := by decide +kernel
theorem dX21_user_112 : decode cX21_user 112 = .ok (.invokevirtual 926, 3) := by decide +kernel
theorem dX21_user_115 : decode cX21_user 115 = .ok (.ireturn, 1) := by decide +kernel
theorem dX21_user_116 : decode cX21_user 116 = .ok (.iinc 5 1, 3) := by decide +kernel
theorem dX21_user_119 : decode cX21_user 119 = .ok (.goto (-32), 3) := by decide +kernel
theorem dX21_user_122 : decode cX21_user 122 = .ok (.aload_n 0, 1) := by decide +kernel
theorem dX21_user_123 : decode cX21_user 123 = .ok (.getfield 687, 3) := by decide +kernel
theorem dX21_user_126 : decode cX21_user 126 = .ok (.bipush 8, 2) := by decide +kernel
theorem dX21_user_128 : decode cX21_user 128 = .ok (.if_icmp .ne 9, 3) := by decide +kernel
theorem dX21_user_131 : decode cX21_user 131 = .ok (.aload_n 0, 1) := by decide +kernel
theorem dX21_user_132 : decode cX21_user 132 = .ok (.iconst 2, 1) := by decide +kernel
theorem dX21_user_133 : decode cX21_user 133 = .ok (.invokevirtual 926, 3) := by decide +kernel
theorem dX21_user_136 : decode cX21_user 136 = .ok (.ireturn, 1) := by decide +kernel
theorem dX21_user_137 : decode cX21_user 137 = .ok (.aload_n 0, 1) := by decide +kernel
theorem dX21_user_138 : decode cX21_user 138 = .ok (.getfield 69, 3) := by decide +kernel
theorem dX21_user_141 : decode cX21_user 141 = .ok (.aload_n 0, 1) := by decide +kernel
theorem dX21_user_142 : decode cX21_user 142 = .ok (.getfield 687, 3) := by decide +kernel
theorem dX21_user_145 : decode cX21_user 145 = .ok (.aload_n 3, 1) := by decide +kernel
theorem dX21_user_146 : decode cX21_user 146 = .ok (.aastore, 1) := by decide +kernel
theorem dX21_user_147 : decode cX21_user 147 = .ok (.aload_n 0, 1) := by decide +kernel
theorem dX21_user_148 : decode cX21_user 148 = .ok (.getfield 73, 3) := by decide +kernel
theorem dX21_user_151 : decode cX21_user 151 = .ok (.aload_n 0, 1) := by decide +kernel
theorem dX21_user_152 : decode cX21_user 152 = .ok (.getfield 687, 3) := by decide +kernel
theorem dX21_user_155 : decode cX21_user 155 = .ok (.aload 4, 2) := by decide +kernel
theorem dX21_user_157 : decode cX21_user 157 = .ok (.aastore, 1) := by decide +kernel
theorem dX21_user_158 : decode cX21_user 158 = .ok (.aload_n 0, 1) := by decide +kernel
theorem dX21_user_159 : decode cX21_user 159 = .ok (.dup, 1) := by decide +kernel
theorem dX21_user_160 : decode cX21_user 160 = .ok (.getfield 687, 3) := by decide +kernel
theorem dX21_user_163 : decode cX21_user 163 = .ok (.iconst 1, 1) := by decide +kernel
theorem dX21_user_164 : decode cX21_user 164 = .ok (.iadd, 1) := by decide +kernel
theorem dX21_user_165 : decode cX21_user 165 = .ok (.putfield 687, 3) := by decide +kernel
theorem dX21_user_168 : decode cX21_user 168 = .ok (.aload_n 0, 1) := by decide +kernel
theorem dX21_user_169 : decode cX21_user 169 = .ok (.iconst 0, 1) := by decide +kernel
theorem dX21_user_170 : decode cX21_user 170 = .ok (.putfield 922, 3) := by decide +kernel
theorem dX21_user_173 : decode cX21_user 173 = .ok (.aload_n 0, 1) := by decide +kernel
theorem dX21_user_174 : decode cX21_user 174 = .ok (.getfield 687, 3) := by decide +kernel
theorem dX21_user_177 : decode cX21_user 177 = .ok (.ireturn, 1) := by decide +kernel
theorem dX21_allow_0 : decode cX21_allow 0 = .ok (.aload_n 0, 1) := by decide +kernel
theorem dX21_allow_1 : decode cX21_allow 1 = .ok (.iload_n 1, 1) := by decide +kernel
theorem dX21_allow_2 : decode cX21_allow 2 = .ok (.ifCond .lt 11, 3) := by decide +kernel
theorem dX21_allow_5 : decode cX21_allow 5 = .ok (.iload_n 1, 1) := by decide +kernel
theorem dX21_allow_6 : decode cX21_allow 6 = .ok (.aload_n 0, 1) := by decide +kernel
theorem dX21_allow_7 : decode cX21_allow 7 = .ok (.getfield 687, 3) := by decide +kernel
theorem dX21_allow_10 : decode cX21_allow 10 = .ok (.if_icmp .lt 7, 3) := by decide +kernel
theorem dX21_allow_13 : decode cX21_allow 13 = .ok (.iconst 1, 1) := by decide +kernel
theorem dX21_allow_14 : decode cX21_allow 14 = .ok (.goto 17, 3) := by decide +kernel
theorem dX21_allow_17 : decode cX21_allow 17 = .ok (.aload_n 0, 1) := by decide +kernel
theorem dX21_allow_18 : decode cX21_allow 18 = .ok (.getfield 922, 3) := by decide +kernel
theorem dX21_allow_21 : decode cX21_allow 21 = .ok (.bipush 32, 2) := by decide +kernel
theorem dX21_allow_23 : decode cX21_allow 23 = .ok (.if_icmp .eq 7, 3) := by decide +kernel
theorem dX21_allow_26 : decode cX21_allow 26 = .ok (.iconst 2, 1) := by decide +kernel
theorem dX21_allow_27 : decode cX21_allow 27 = .ok (.goto 4, 3) := by decide +kernel
theorem dX21_allow_30 : decode cX21_allow 30 = .ok (.iconst 0, 1) := by decide +kernel
theorem dX21_allow_31 : decode cX21_allow 31 = .ok (.putfield 145, 3) := by decide +kernel
theorem dX21_allow_34 : decode cX21_allow 34 = .ok (.aload_n 0, 1) := by decide +kernel
theorem dX21_allow_35 : decode cX21_allow 35 = .ok (.getfield 145, 3) := by decide +kernel
theorem dX21_allow_38 : decode cX21_allow 38 = .ok (.ifCond .le 4, 3) := by decide +kernel
theorem dX21_allow_41 : decode cX21_allow 41 = .ok (.return_, 1) := by decide +kernel
theorem dX21_allow_42 : decode cX21_allow 42 = .ok (.aload_n 0, 1) := by decide +kernel
theorem dX21_allow_43 : decode cX21_allow 43 = .ok (.getfield 76, 3) := by decide +kernel
theorem dX21_allow_46 : decode cX21_allow 46 = .ok (.iload_n 1, 1) := by decide +kernel
theorem dX21_allow_47 : decode cX21_allow 47 = .ok (.aload_n 0, 1) := by decide +kernel
theorem dX21_allow_48 : decode cX21_allow 48 = .ok (.iconst 0, 1) := by decide +kernel
theorem dX21_allow_49 : decode cX21_allow 49 = .ok (.bipush 32, 2) := by decide +kernel
theorem dX21_allow_51 : decode cX21_allow 51 = .ok (.invokevirtual 930, 3) := by decide +kernel
theorem dX21_allow_54 : decode cX21_allow 54 = .ok (.aastore, 1) := by decide +kernel
theorem dX21_allow_55 : decode cX21_allow 55 = .ok (.aload_n 0, 1) := by decide +kernel
theorem dX21_allow_56 : decode cX21_allow 56 = .ok (.iconst 0, 1) := by decide +kernel
theorem dX21_allow_57 : decode cX21_allow 57 = .ok (.putfield 922, 3) := by decide +kernel
theorem dX21_allow_60 : decode cX21_allow 60 = .ok (.return_, 1) := by decide +kernel
theorem dX21_none_0 : decode cX21_none 0 = .ok (.iload_n 0, 1) := by decide +kernel
theorem dX21_none_1 : decode cX21_none 1 = .ok (.ifCond .lt 8, 3) := by decide +kernel
theorem dX21_none_4 : decode cX21_none 4 = .ok (.iload_n 0, 1) := by decide +kernel
theorem dX21_none_5 : decode cX21_none 5 = .ok (.iconst 1, 1) := by decide +kernel
theorem dX21_none_6 : decode cX21_none 6 = .ok (.if_icmp .le 7, 3) := by decide +kernel
theorem dX21_none_9 : decode cX21_none 9 = .ok (.iconst 1, 1) := by decide +kernel
theorem dX21_none_10 : decode cX21_none 10 = .ok (.goto 4, 3) := by decide +kernel
theorem dX21_none_13 : decode cX21_none 13 = .ok (.iconst 0, 1) := by decide +kernel
theorem dX21_none_14 : decode cX21_none 14 = .ok (.ireturn, 1) := by decide +kernel
theorem dX21_set_0 : decode cX21_set 0 = .ok (.aload_n 0, 1) := by decide +kernel
theorem dX21_set_1 : decode cX21_set 1 = .ok (.iconst 0, 1) := by decide +kernel
theorem dX21_set_2 : decode cX21_set 2 = .ok (.putfield 145, 3) := by decide +kernel
theorem dX21_set_5 : decode cX21_set 5 = .ok (.iload_n 1, 1) := by decide +kernel
theorem dX21_set_6 : decode cX21_set 6 = .ok (.invokestatic 934, 3) := by decide +kernel
theorem dX21_set_9 : decode cX21_set 9 = .ok (.ifCond .ne 12, 3) := by decide +kernel
theorem dX21_set_12 : decode cX21_set 12 = .ok (.iload_n 2, 1) := by decide +kernel
theorem dX21_set_13 : decode cX21_set 13 = .ok (.ifCond .lt 8, 3) := by decide +kernel
theorem dX21_set_16 : decode cX21_set 16 = .ok (.iload_n 2, 1) := by decide +kernel
theorem dX21_set_17 : decode cX21_set 17 = .ok (.iconst 4, 1) := by decide +kernel
theorem dX21_set_18 : decode cX21_set 18 = .ok (.if_icmp .le 9, 3) := by decide +kernel
theorem dX21_set_21 : decode cX21_set 21 = .ok (.aload_n 0, 1) := by decide +kernel
theorem dX21_set_22 : decode cX21_set 22 = .ok (.iconst 1, 1) := by decide +kernel
theorem dX21_set_23 : decode cX21_set 23 = .ok (.invokevirtual 926, 3) := by decide +kernel
theorem dX21_set_26 : decode cX21_set 26 = .ok (.ireturn, 1) := by decide +kernel
theorem dX21_set_27 : decode cX21_set 27 = .ok (.iload_n 2, 1) := by decide +kernel
theorem dX21_set_28 : decode cX21_set 28 = .ok (.iconst 2, 1) := by decide +kernel
theorem dX21_set_29 : decode cX21_set 29 = .ok (.if_icmp .ge 33, 3) := by decide +kernel
theorem dX21_set_32 : decode cX21_set 32 = .ok (.iload_n 3, 1) := by decide +kernel
theorem dX21_set_33 : decode cX21_set 33 = .ok (.iconst 1, 1) := by decide +kernel
theorem dX21_set_34 : decode cX21_set 34 = .ok (.if_icmp .eq 20, 3) := by decide +kernel
theorem dX21_set_37 : decode cX21_set 37 = .ok (.iload_n 3, 1) := by decide +kernel
theorem dX21_set_38 : decode cX21_set 38 = .ok (.iconst 2, 1) := by decide +kernel
theorem dX21_set_39 : decode cX21_set 39 = .ok (.if_icmp .eq 15, 3) := by decide +kernel
theorem dX21_set_42 : decode cX21_set 42 = .ok (.iload_n 3, 1) := by decide +kernel
theorem dX21_set_43 : decode cX21_set 43 = .ok (.bipush 12, 2) := by decide +kernel
theorem dX21_set_45 : decode cX21_set 45 = .ok (.if_icmp .eq 9, 3) := by decide +kernel
theorem dX21_set_48 : decode cX21_set 48 = .ok (.iload_n 3, 1) := by decide +kernel
theorem dX21_set_49 : decode cX21_set 49 = .ok (.bipush 21, 2) := by decide +kernel
theorem dX21_set_51 : decode cX21_set 51 = .ok (.if_icmp .ne 7, 3) := by decide +kernel
theorem dX21_set_54 : decode cX21_set 54 = .ok (.iconst 1, 1) := by decide +kernel
theorem dX21_set_55 : decode cX21_set 55 = .ok (.goto 77, 3) := by decide +kernel
theorem dX21_set_58 : decode cX21_set 58 = .ok (.iconst 0, 1) := by decide +kernel
theorem dX21_set_59 : decode cX21_set 59 = .ok (.goto 73, 3) := by decide +kernel
theorem dX21_set_62 : decode cX21_set 62 = .ok (.iload_n 2, 1) := by decide +kernel
theorem dX21_set_63 : decode cX21_set 63 = .ok (.iconst 2, 1) := by decide +kernel
theorem dX21_set_64 : decode cX21_set 64 = .ok (.if_icmp .ne 23, 3) := by decide +kernel
theorem dX21_set_67 : decode cX21_set 67 = .ok (.iload_n 3, 1) := by decide +kernel
theorem dX21_set_68 : decode cX21_set 68 = .ok (.iconst 1, 1) := by decide +kernel
theorem dX21_set_69 : decode cX21_set 69 = .ok (.if_icmp .lt 14, 3) := by decide +kernel
theorem dX21_set_72 : decode cX21_set 72 = .ok (.iload_n 3, 1) := by decide +kernel
theorem dX21_set_73 : decode cX21_set 73 = .ok (.sipush 16384, 3) := by decide +kernel
theorem dX21_set_76 : decode cX21_set 76 = .ok (.if_icmp .gt 7, 3) := by decide +kernel
theorem dX21_set_79 : decode cX21_set 79 = .ok (.iconst 1, 1) := by decide +kernel
theorem dX21_set_80 : decode cX21_set 80 = .ok (.goto 52, 3) := by decide +kernel
theorem dX21_set_83 : decode cX21_set 83 = .ok (.iconst 0, 1) := by decide +kernel
theorem dX21_set_84 : decode cX21_set 84 = .ok (.goto 48, 3) := by decide +kernel
theorem dX21_set_87 : decode cX21_set 87 = .ok (.iload_n 2, 1) := by decide +kernel
theorem dX21_set_88 : decode cX21_set 88 = .ok (.iconst 3, 1) := by decide +kernel
theorem dX21_set_89 : decode cX21_set 89 = .ok (.if_icmp .ne 24, 3) := by decide +kernel
theorem dX21_set_92 : decode cX21_set 92 = .ok (.iload_n 3, 1) := by decide +kernel
theorem dX21_set_93 : decode cX21_set 93 = .ok (.bipush 16, 2) := by decide +kernel
theorem dX21_set_95 : decode cX21_set 95 = .ok (.if_icmp .lt 14, 3) := by decide +kernel
theorem dX21_set_98 : decode cX21_set 98 = .ok (.iload_n 3, 1) := by decide +kernel
theorem dX21_set_99 : decode cX21_set 99 = .ok (.ldc_w 936, 3) := by decide +kernel
theorem dX21_set_102 : decode cX21_set 102 = .ok (.if_icmp .gt 7, 3) := by decide +kernel
theorem dX21_set_105 : decode cX21_set 105 = .ok (.iconst 1, 1) := by decide +kernel
theorem dX21_set_106 : decode cX21_set 106 = .ok (.goto 26, 3) := by decide +kernel
theorem dX21_set_109 : decode cX21_set 109 = .ok (.iconst 0, 1) := by decide +kernel
theorem dX21_set_110 : decode cX21_set 110 = .ok (.goto 22, 3) := by decide +kernel
theorem dX21_set_113 : decode cX21_set 113 = .ok (.iload_n 3, 1) := by decide +kernel
theorem dX21_set_114 : decode cX21_set 114 = .ok (.sipush 256, 3) := by decide +kernel
theorem dX21_set_117 : decode cX21_set 117 = .ok (.if_icmp .lt 14, 3) := by decide +kernel
theorem dX21_set_120 : decode cX21_set 120 = .ok (.iload_n 3, 1) := by decide +kernel
theorem dX21_set_121 : decode cX21_set 121 = .ok (.ldc_w 937, 3) := by decide +kernel
theorem dX21_set_124 : decode cX21_set 124 = .ok (.if_icmp .gt 7, 3) := by decide +kernel
theorem dX21_set_127 : decode cX21_set 127 = .ok (.iconst 1, 1) := by decide +kernel
theorem dX21_set_128 : decode cX21_set 128 = .ok (.goto 4, 3) := by decide +kernel
theorem dX21_set_131 : decode cX21_set 131 = .ok (.iconst 0, 1) := by decide +kernel
theorem dX21_set_132 : decode cX21_set 132 = .ok (.istore 4, 2) := by decide +kernel
theorem dX21_set_134 : decode cX21_set 134 = .ok (.iload 4, 2) := by decide +kernel
theorem dX21_set_136 : decode cX21_set 136 = .ok (.ifCond .ne 9, 3) := by decide +kernel
theorem dX21_set_139 : decode cX21_set 139 = .ok (.aload_n 0, 1) := by decide +kernel
theorem dX21_set_140 : decode cX21_set 140 = .ok (.iconst 2, 1) := by decide +kernel
theorem dX21_set_141 : decode cX21_set 141 = .ok (.invokevirtual 926, 3) := by decide +kernel
theorem dX21_set_144 : decode cX21_set 144 = .ok (.ireturn, 1) := by decide +kernel
theorem dX21_set_145 : decode cX21_set 145 = .ok (.aload_n 0, 1) := by decide +kernel
theorem dX21_set_146 : decode cX21_set 146 = .ok (.getfield 45, 3) := by decide +kernel
theorem dX21_set_149 : decode cX21_set 149 = .ok (.iload_n 1, 1) := by decide +kernel
theorem dX21_set_150 : decode cX21_set 150 = .ok (.aaload, 1) := by decide +kernel
theorem dX21_set_151 : decode cX21_set 151 = .ok (.getfield 272, 3) := by decide +kernel
theorem dX21_set_154 : decode cX21_set 154 = .ok (.iload_n 2, 1) := by decide +kernel
theorem dX21_set_155 : decode cX21_set 155 = .ok (.iaload, 1) := by decide +kernel
theorem dX21_set_156 : decode cX21_set 156 = .ok (.istore 5, 2) := by decide +kernel
theorem dX21_set_158 : decode cX21_set 158 = .ok (.aload_n 0, 1) := by decide +kernel
theorem dX21_set_159 : decode cX21_set 159 = .ok (.getfield 45, 3) := by decide +kernel
theorem dX21_set_162 : decode cX21_set 162 = .ok (.iload_n 1, 1) := by decide +kernel
theorem dX21_set_163 : decode cX21_set 163 = .ok (.aaload, 1) := by decide +kernel
theorem dX21_set_164 : decode cX21_set 164 = .ok (.getfield 272, 3) := by decide +kernel
theorem dX21_set_167 : decode cX21_set 167 = .ok (.iload_n 2, 1) := by decide +kernel
theorem dX21_set_168 : decode cX21_set 168 = .ok (.iload_n 3, 1) := by decide +kernel
theorem dX21_set_169 : decode cX21_set 169 = .ok (.iastore, 1) := by decide +kernel
theorem dX21_set_170 : decode cX21_set 170 = .ok (.iload 5, 2) := by decide +kernel
theorem dX21_set_172 : decode cX21_set 172 = .ok (.ireturn, 1) := by decide +kernel
theorem dX21_port_0 : decode cX21_port 0 = .ok (.aload_n 0, 1) := by decide +kernel
theorem dX21_port_1 : decode cX21_port 1 = .ok (.iload_n 1, 1) := by decide +kernel
theorem dX21_port_2 : decode cX21_port 2 = .ok (.iconst 1, 1) := by decide +kernel
theorem dX21_port_3 : decode cX21_port 3 = .ok (.if_icmp .lt 10, 3) := by decide +kernel
theorem dX21_port_6 : decode cX21_port 6 = .ok (.iload_n 1, 1) := by decide +kernel
theorem dX21_port_7 : decode cX21_port 7 = .ok (.ldc_w 938, 3) := by decide +kernel
theorem dX21_port_10 : decode cX21_port 10 = .ok (.if_icmp .le 7, 3) := by decide +kernel
theorem dX21_port_13 : decode cX21_port 13 = .ok (.iconst 1, 1) := by decide +kernel
theorem dX21_port_14 : decode cX21_port 14 = .ok (.goto 4, 3) := by decide +kernel
theorem dX21_port_17 : decode cX21_port 17 = .ok (.iconst 0, 1) := by decide +kernel
theorem dX21_port_18 : decode cX21_port 18 = .ok (.putfield 145, 3) := by decide +kernel
theorem dX21_port_21 : decode cX21_port 21 = .ok (.aload_n 0, 1) := by decide +kernel
theorem dX21_port_22 : decode cX21_port 22 = .ok (.getfield 145, 3) := by decide +kernel
theorem dX21_port_25 : decode cX21_port 25 = .ok (.ifCond .le 4, 3) := by decide +kernel
theorem dX21_port_28 : decode cX21_port 28 = .ok (.return_, 1) := by decide +kernel
theorem dX21_port_29 : decode cX21_port 29 = .ok (.aload_n 0, 1) := by decide +kernel
theorem dX21_port_30 : decode cX21_port 30 = .ok (.getfield 79, 3) := by decide +kernel
theorem dX21_port_33 : decode cX21_port 33 = .ok (.iload_n 1, 1) := by decide +kernel
theorem dX21_port_34 : decode cX21_port 34 = .ok (.baload, 1) := by decide +kernel
theorem dX21_port_35 : decode cX21_port 35 = .ok (.iload_n 2, 1) := by decide +kernel
theorem dX21_port_36 : decode cX21_port 36 = .ok (.if_icmp .eq 21, 3) := by decide +kernel
theorem dX21_port_39 : decode cX21_port 39 = .ok (.aload_n 0, 1) := by decide +kernel
theorem dX21_port_40 : decode cX21_port 40 = .ok (.dup, 1) := by decide +kernel
theorem dX21_port_41 : decode cX21_port 41 = .ok (.getfield 939, 3) := by decide +kernel
theorem dX21_port_44 : decode cX21_port 44 = .ok (.iload_n 2, 1) := by decide +kernel
theorem dX21_port_45 : decode cX21_port 45 = .ok (.ifCond .eq 7, 3) := by decide +kernel
theorem dX21_port_48 : decode cX21_port 48 = .ok (.iconst 1, 1) := by decide +kernel
theorem dX21_port_49 : decode cX21_port 49 = .ok (.goto 4, 3) := by decide +kernel
theorem dX21_port_52 : decode cX21_port 52 = .ok (.iconst (-1), 1) := by decide +kernel
theorem dX21_port_53 : decode cX21_port 53 = .ok (.iadd, 1) := by decide +kernel
theorem dX21_port_54 : decode cX21_port 54 = .ok (.putfield 939, 3) := by decide +kernel
theorem dX21_port_57 : decode cX21_port 57 = .ok (.aload_n 0, 1) := by decide +kernel
theorem dX21_port_58 : decode cX21_port 58 = .ok (.getfield 79, 3) := by decide +kernel
theorem dX21_port_61 : decode cX21_port 61 = .ok (.iload_n 1, 1) := by decide +kernel
theorem dX21_port_62 : decode cX21_port 62 = .ok (.iload_n 2, 1) := by decide +kernel
theorem dX21_port_63 : decode cX21_port 63 = .ok (.bastore, 1) := by decide +kernel
theorem dX21_port_64 : decode cX21_port 64 = .ok (.return_, 1) := by decide +kernel
theorem dX21_start_0 : decode cX21_start 0 = .ok (.aload_n 0, 1) := by decide +kernel
theorem dX21_start_1 : decode cX21_start 1 = .ok (.aload_n 0, 1) := by decide +kernel
theorem dX21_start_2 : decode cX21_start 2 = .ok (.getfield 451, 3) := by decide +kernel
theorem dX21_start_5 : decode cX21_start 5 = .ok (.ifnonnull 7, 3) := by decide +kernel
theorem dX21_start_8 : decode cX21_start 8 = .ok (.iconst 1, 1) := by decide +kernel
theorem dX21_start_9 : decode cX21_start 9 = .ok (.goto 4, 3) := by decide +kernel
theorem dX21_start_12 : decode cX21_start 12 = .ok (.iconst 0, 1) := by decide +kernel
theorem dX21_start_13 : decode cX21_start 13 = .ok (.putfield 145, 3) := by decide +kernel
theorem dX21_start_16 : decode cX21_start 16 = .ok (.aload_n 0, 1) := by decide +kernel
theorem dX21_start_17 : decode cX21_start 17 = .ok (.getfield 145, 3) := by decide +kernel
theorem dX21_start_20 : decode cX21_start 20 = .ok (.ifCond .le 4, 3) := by decide +kernel
theorem dX21_start_23 : decode cX21_start 23 = .ok (.return_, 1) := by decide +kernel
theorem dX21_start_24 : decode cX21_start 24 = .ok (.aload_n 0, 1) := by decide +kernel
theorem dX21_start_25 : decode cX21_start 25 = .ok (.getfield 55, 3) := by decide +kernel
theorem dX21_start_28 : decode cX21_start 28 = .ok (.iconst 0, 1) := by decide +kernel
theorem dX21_start_29 : decode cX21_start 29 = .ok (.aaload, 1) := by decide +kernel
theorem dX21_start_30 : decode cX21_start 30 = .ok (.invokevirtual 171, 3) := by decide +kernel
theorem dX21_start_33 : decode cX21_start 33 = .ok (.aload_n 0, 1) := by decide +kernel
theorem dX21_start_34 : decode cX21_start 34 = .ok (.getfield 55, 3) := by decide +kernel
theorem dX21_start_37 : decode cX21_start 37 = .ok (.iconst 1, 1) := by decide +kernel
theorem dX21_start_38 : decode cX21_start 38 = .ok (.aaload, 1) := by decide +kernel
theorem dX21_start_39 : decode cX21_start 39 = .ok (.invokevirtual 171, 3) := by decide +kernel
theorem dX21_start_42 : decode cX21_start 42 = .ok (.aload_n 0, 1) := by decide +kernel
theorem dX21_start_43 : decode cX21_start 43 = .ok (.aconst_null, 1) := by decide +kernel
theorem dX21_start_44 : decode cX21_start 44 = .ok (.putfield 469, 3) := by decide +kernel
theorem dX21_start_47 : decode cX21_start 47 = .ok (.aload_n 0, 1) := by decide +kernel
theorem dX21_start_48 : decode cX21_start 48 = .ok (.aconst_null, 1) := by decide +kernel
theorem dX21_start_49 : decode cX21_start 49 = .ok (.putfield 484, 3) := by decide +kernel
theorem dX21_start_52 : decode cX21_start 52 = .ok (.aload_n 0, 1) := by decide +kernel
theorem dX21_start_53 : decode cX21_start 53 = .ok (.aload_n 0, 1) := by decide +kernel
theorem dX21_start_54 : decode cX21_start 54 = .ok (.getfield 45, 3) := by decide +kernel
theorem dX21_start_57 : decode cX21_start 57 = .ok (.iconst 0, 1) := by decide +kernel
theorem dX21_start_58 : decode cX21_start 58 = .ok (.aaload, 1) := by decide +kernel
theorem dX21_start_59 : decode cX21_start 59 = .ok (.invokevirtual 942, 3) := by decide +kernel
theorem dX21_start_62 : decode cX21_start 62 = .ok (.aload_n 0, 1) := by decide +kernel
theorem dX21_start_63 : decode cX21_start 63 = .ok (.aload_n 0, 1) := by decide +kernel
theorem dX21_start_64 : decode cX21_start 64 = .ok (.getfield 45, 3) := by decide +kernel
theorem dX21_start_67 : decode cX21_start 67 = .ok (.iconst 1, 1) := by decide +kernel
theorem dX21_start_68 : decode cX21_start 68 = .ok (.aaload, 1) := by decide +kernel
theorem dX21_start_69 : decode cX21_start 69 = .ok (.invokevirtual 942, 3) := by decide +kernel
theorem dX21_start_72 : decode cX21_start 72 = .ok (.return_, 1) := by decide +kernel
theorem dX21_move_0 : decode cX21_move 0 = .ok (.aload_n 0, 1) := by decide +kernel
theorem dX21_move_1 : decode cX21_move 1 = .ok (.iconst 0, 1) := by decide +kernel
theorem dX21_move_2 : decode cX21_move 2 = .ok (.putfield 145, 3) := by decide +kernel
theorem dX21_move_5 : decode cX21_move 5 = .ok (.iload_n 1, 1) := by decide +kernel
theorem dX21_move_6 : decode cX21_move 6 = .ok (.invokestatic 934, 3) := by decide +kernel
theorem dX21_move_9 : decode cX21_move 9 = .ok (.ifCond .eq 9, 3) := by decide +kernel
theorem dX21_move_12 : decode cX21_move 12 = .ok (.aload_n 0, 1) := by decide +kernel
theorem dX21_move_13 : decode cX21_move 13 = .ok (.iconst 1, 1) := by decide +kernel
theorem dX21_move_14 : decode cX21_move 14 = .ok (.invokevirtual 926, 3) := by decide +kernel
theorem dX21_move_17 : decode cX21_move 17 = .ok (.ireturn, 1) := by decide +kernel
theorem dX21_move_18 : decode cX21_move 18 = .ok (.iload_n 2, 1) := by decide +kernel
theorem dX21_move_19 : decode cX21_move 19 = .ok (.iconst 1, 1) := by decide +kernel
theorem dX21_move_20 : decode cX21_move 20 = .ok (.if_icmp .ge 9, 3) := by decide +kernel
theorem dX21_move_23 : decode cX21_move 23 = .ok (.aload_n 0, 1) := by decide +kernel
theorem dX21_move_24 : decode cX21_move 24 = .ok (.iconst 2, 1) := by decide +kernel
theorem dX21_move_25 : decode cX21_move 25 = .ok (.invokevirtual 926, 3) := by decide +kernel
theorem dX21_move_28 : decode cX21_move 28 = .ok (.ireturn, 1) := by decide +kernel
theorem dX21_move_29 : decode cX21_move 29 = .ok (.iload_n 2, 1) := by decide +kernel
theorem dX21_move_30 : decode cX21_move 30 = .ok (.aload_n 0, 1) := by decide +kernel
theorem dX21_move_31 : decode cX21_move 31 = .ok (.getfield 55, 3) := by decide +kernel
theorem dX21_move_34 : decode cX21_move 34 = .ok (.iload_n 1, 1) := by decide +kernel
theorem dX21_move_35 : decode cX21_move 35 = .ok (.aaload, 1) := by decide +kernel
theorem dX21_move_36 : decode cX21_move 36 = .ok (.invokevirtual 224, 3) := by decide +kernel
theorem dX21_move_39 : decode cX21_move 39 = .ok (.invokestatic 944, 3) := by decide +kernel
theorem dX21_move_42 : decode cX21_move 42 = .ok (.istore_n 3, 1) := by decide +kernel
theorem dX21_move_43 : decode cX21_move 43 = .ok (.iconst 0, 1) := by decide +kernel
theorem dX21_move_44 : decode cX21_move 44 = .ok (.istore 4, 2) := by decide +kernel
theorem dX21_move_46 : decode cX21_move 46 = .ok (.iload 4, 2) := by decide +kernel
theorem dX21_move_48 : decode cX21_move 48 = .ok (.iload_n 3, 1) := by decide +kernel
theorem dX21_move_49 : decode cX21_move 49 = .ok (.if_icmp .ge 28, 3) := by decide +kernel
theorem dX21_move_52 : decode cX21_move 52 = .ok (.aload_n 0, 1) := by decide +kernel
theorem dX21_move_53 : decode cX21_move 53 = .ok (.aload_n 0, 1) := by decide +kernel
theorem dX21_move_54 : decode cX21_move 54 = .ok (.getfield 45, 3) := by decide +kernel
theorem dX21_move_57 : decode cX21_move 57 = .ok (.iload_n 1, 1) := by decide +kernel
theorem dX21_move_58 : decode cX21_move 58 = .ok (.aaload, 1) := by decide +kernel
theorem dX21_move_59 : decode cX21_move 59 = .ok (.aload_n 0, 1) := by decide +kernel
theorem dX21_move_60 : decode cX21_move 60 = .ok (.getfield 55, 3) := by decide +kernel
theorem dX21_move_63 : decode cX21_move 63 = .ok (.iload_n 1, 1) := by decide +kernel
theorem dX21_move_64 : decode cX21_move 64 = .ok (.aaload, 1) := by decide +kernel
theorem dX21_move_65 : decode cX21_move 65 = .ok (.invokevirtual 947, 3) := by decide +kernel
theorem dX21_move_68 : decode cX21_move 68 = .ok (.invokevirtual 949, 3) := by decide +kernel
theorem dX21_move_71 : decode cX21_move 71 = .ok (.iinc 4 1, 3) := by decide +kernel
theorem dX21_move_74 : decode cX21_move 74 = .ok (.goto (-28), 3) := by decide +kernel
theorem dX21_move_77 : decode cX21_move 77 = .ok (.aload_n 0, 1) := by decide +kernel
theorem dX21_move_78 : decode cX21_move 78 = .ok (.getfield 55, 3) := by decide +kernel
theorem dX21_move_81 : decode cX21_move 81 = .ok (.iload_n 1, 1) := by decide +kernel
theorem dX21_move_82 : decode cX21_move 82 = .ok (.aaload, 1) := by decide +kernel
theorem dX21_move_83 : decode cX21_move 83 = .ok (.invokevirtual 224, 3) := by decide +kernel
theorem dX21_move_86 : decode cX21_move 86 = .ok (.ireturn, 1) := by decide +kernel
theorem dX21_flip_0 : decode cX21_flip 0 = .ok (.aload_n 0, 1) := by decide +kernel
theorem dX21_flip_1 : decode cX21_flip 1 = .ok (.iconst 0, 1) := by decide +kernel
theorem dX21_flip_2 : decode cX21_flip 2 = .ok (.putfield 145, 3) := by decide +kernel
theorem dX21_flip_5 : decode cX21_flip 5 = .ok (.iload_n 1, 1) := by decide +kernel
theorem dX21_flip_6 : decode cX21_flip 6 = .ok (.invokestatic 934, 3) := by decide +kernel
theorem dX21_flip_9 : decode cX21_flip 9 = .ok (.ifCond .eq 9, 3) := by decide +kernel
theorem dX21_flip_12 : decode cX21_flip 12 = .ok (.aload_n 0, 1) := by decide +kernel
theorem dX21_flip_13 : decode cX21_flip 13 = .ok (.iconst 1, 1) := by decide +kernel
theorem dX21_flip_14 : decode cX21_flip 14 = .ok (.invokevirtual 926, 3) := by decide +kernel
theorem dX21_flip_17 : decode cX21_flip 17 = .ok (.ireturn, 1) := by decide +kernel
theorem dX21_flip_18 : decode cX21_flip 18 = .ok (.iload_n 2, 1) := by decide +kernel
theorem dX21_flip_19 : decode cX21_flip 19 = .ok (.ifCond .lt 16, 3) := by decide +kernel
theorem dX21_flip_22 : decode cX21_flip 22 = .ok (.iload_n 2, 1) := by decide +kernel
theorem dX21_flip_23 : decode cX21_flip 23 = .ok (.aload_n 0, 1) := by decide +kernel
theorem dX21_flip_24 : decode cX21_flip 24 = .ok (.getfield 55, 3) := by decide +kernel
theorem dX21_flip_27 : decode cX21_flip 27 = .ok (.iload_n 1, 1) := by decide +kernel
theorem dX21_flip_28 : decode cX21_flip 28 = .ok (.aaload, 1) := by decide +kernel
theorem dX21_flip_29 : decode cX21_flip 29 = .ok (.invokevirtual 224, 3) := by decide +kernel
theorem dX21_flip_32 : decode cX21_flip 32 = .ok (.if_icmp .lt 9, 3) := by decide +kernel
theorem dX21_flip_35 : decode cX21_flip 35 = .ok (.aload_n 0, 1) := by decide +kernel
theorem dX21_flip_36 : decode cX21_flip 36 = .ok (.iconst 2, 1) := by decide +kernel
theorem dX21_flip_37 : decode cX21_flip 37 = .ok (.invokevirtual 926, 3) := by decide +kernel
theorem dX21_flip_40 : decode cX21_flip 40 = .ok (.ireturn, 1) := by decide +kernel
theorem dX21_flip_41 : decode cX21_flip 41 = .ok (.aload_n 0, 1) := by decide +kernel
theorem dX21_flip_42 : decode cX21_flip 42 = .ok (.getfield 55, 3) := by decide +kernel
theorem dX21_flip_45 : decode cX21_flip 45 = .ok (.iload_n 1, 1) := by decide +kernel
theorem dX21_flip_46 : decode cX21_flip 46 = .ok (.aaload, 1) := by decide +kernel
theorem dX21_flip_47 : decode cX21_flip 47 = .ok (.getfield 185, 3) := by decide +kernel
theorem dX21_flip_50 : decode cX21_flip 50 = .ok (.aload_n 0, 1) := by decide +kernel
theorem dX21_flip_51 : decode cX21_flip 51 = .ok (.getfield 55, 3) := by decide +kernel
theorem dX21_flip_54 : decode cX21_flip 54 = .ok (.iload_n 1, 1) := by decide +kernel
theorem dX21_flip_55 : decode cX21_flip 55 = .ok (.aaload, 1) := by decide +kernel
theorem dX21_flip_56 : decode cX21_flip 56 = .ok (.getfield 524, 3) := by decide +kernel
theorem dX21_flip_59 : decode cX21_flip 59 = .ok (.iload_n 2, 1) := by decide +kernel
theorem dX21_flip_60 : decode cX21_flip 60 = .ok (.iadd, 1) := by decide +kernel
theorem dX21_flip_61 : decode cX21_flip 61 = .ok (.dup2, 1) := by decide +kernel
theorem dX21_flip_62 : decode cX21_flip 62 = .ok (.baload, 1) := by decide +kernel
theorem dX21_flip_63 : decode cX21_flip 63 = .ok (.iload_n 3, 1) := by decide +kernel
theorem dX21_flip_64 : decode cX21_flip 64 = .ok (.i2b, 1) := by decide +kernel
theorem dX21_flip_65 : decode cX21_flip 65 = .ok (.ixor, 1) := by decide +kernel
theorem dX21_flip_66 : decode cX21_flip 66 = .ok (.i2b, 1) := by decide +kernel
theorem dX21_flip_67 : decode cX21_flip 67 = .ok (.bastore, 1) := by decide +kernel
theorem dX21_flip_68 : decode cX21_flip 68 = .ok (.aload_n 0, 1) := by decide +kernel
theorem dX21_flip_69 : decode cX21_flip 69 = .ok (.getfield 55, 3) := by decide +kernel
theorem dX21_flip_72 : decode cX21_flip 72 = .ok (.iload_n 1, 1) := by decide +kernel
theorem dX21_flip_73 : decode cX21_flip 73 = .ok (.aaload, 1) := by decide +kernel
theorem dX21_flip_74 : decode cX21_flip 74 = .ok (.getfield 185, 3) := by decide +kernel
theorem dX21_flip_77 : decode cX21_flip 77 = .ok (.aload_n 0, 1) := by decide +kernel
theorem dX21_flip_78 : decode cX21_flip 78 = .ok (.getfield 55, 3) := by decide +kernel
theorem dX21_flip_81 : decode cX21_flip 81 = .ok (.iload_n 1, 1) := by decide +kernel
theorem dX21_flip_82 : decode cX21_flip 82 = .ok (.aaload, 1) := by decide +kernel
theorem dX21_flip_83 : decode cX21_flip 83 = .ok (.getfield 524, 3) := by decide +kernel
theorem dX21_flip_86 : decode cX21_flip 86 = .ok (.iload_n 2, 1) := by decide +kernel
theorem dX21_flip_87 : decode cX21_flip 87 = .ok (.iadd, 1) := by decide +kernel
theorem dX21_flip_88 : decode cX21_flip 88 = .ok (.baload, 1) := by decide +kernel
theorem dX21_flip_89 : decode cX21_flip 89 = .ok (.sipush 255, 3) := by decide +kernel
theorem dX21_flip_92 : decode cX21_flip 92 = .ok (.iand, 1) := by decide +kernel
theorem dX21_flip_93 : decode cX21_flip 93 = .ok (.ireturn, 1) := by decide +kernel
theorem dX21_seen_0 : decode cX21_seen 0 = .ok (.aload_n 0, 1) := by decide +kernel
theorem dX21_seen_1 : decode cX21_seen 1 = .ok (.iconst 0, 1) := by decide +kernel
theorem dX21_seen_2 : decode cX21_seen 2 = .ok (.putfield 145, 3) := by decide +kernel
theorem dX21_seen_5 : decode cX21_seen 5 = .ok (.iload_n 1, 1) := by decide +kernel
theorem dX21_seen_6 : decode cX21_seen 6 = .ok (.invokestatic 934, 3) := by decide +kernel
theorem dX21_seen_9 : decode cX21_seen 9 = .ok (.ifCond .eq 9, 3) := by decide +kernel
theorem dX21_seen_12 : decode cX21_seen 12 = .ok (.aload_n 0, 1) := by decide +kernel
theorem dX21_seen_13 : decode cX21_seen 13 = .ok (.iconst 1, 1) := by decide +kernel
theorem dX21_seen_14 : decode cX21_seen 14 = .ok (.invokevirtual 926, 3) := by decide +kernel
theorem dX21_seen_17 : decode cX21_seen 17 = .ok (.ireturn, 1) := by decide +kernel
theorem dX21_seen_18 : decode cX21_seen 18 = .ok (.iload_n 2, 1) := by decide +kernel
theorem dX21_seen_19 : decode cX21_seen 19 = .ok (.ifCond .lt 16, 3) := by decide +kernel
theorem dX21_seen_22 : decode cX21_seen 22 = .ok (.iload_n 2, 1) := by decide +kernel
theorem dX21_seen_23 : decode cX21_seen 23 = .ok (.aload_n 0, 1) := by decide +kernel
theorem dX21_seen_24 : decode cX21_seen 24 = .ok (.getfield 55, 3) := by decide +kernel
theorem dX21_seen_27 : decode cX21_seen 27 = .ok (.iload_n 1, 1) := by decide +kernel
theorem dX21_seen_28 : decode cX21_seen 28 = .ok (.aaload, 1) := by decide +kernel
theorem dX21_seen_29 : decode cX21_seen 29 = .ok (.invokevirtual 224, 3) := by decide +kernel
theorem dX21_seen_32 : decode cX21_seen 32 = .ok (.if_icmp .lt 9, 3) := by decide +kernel
theorem dX21_seen_35 : decode cX21_seen 35 = .ok (.aload_n 0, 1) := by decide +kernel
theorem dX21_seen_36 : decode cX21_seen 36 = .ok (.iconst 2, 1) := by decide +kernel
theorem dX21_seen_37 : decode cX21_seen 37 = .ok (.invokevirtual 926, 3) := by decide +kernel
theorem dX21_seen_40 : decode cX21_seen 40 = .ok (.ireturn, 1) := by decide +kernel
theorem dX21_seen_41 : decode cX21_seen 41 = .ok (.aload_n 0, 1) := by decide +kernel
theorem dX21_seen_42 : decode cX21_seen 42 = .ok (.getfield 55, 3) := by decide +kernel
theorem dX21_seen_45 : decode cX21_seen 45 = .ok (.iload_n 1, 1) := by decide +kernel
theorem dX21_seen_46 : decode cX21_seen 46 = .ok (.aaload, 1) := by decide +kernel
theorem dX21_seen_47 : decode cX21_seen 47 = .ok (.getfield 185, 3) := by decide +kernel
theorem dX21_seen_50 : decode cX21_seen 50 = .ok (.aload_n 0, 1) := by decide +kernel
theorem dX21_seen_51 : decode cX21_seen 51 = .ok (.getfield 55, 3) := by decide +kernel
theorem dX21_seen_54 : decode cX21_seen 54 = .ok (.iload_n 1, 1) := by decide +kernel
theorem dX21_seen_55 : decode cX21_seen 55 = .ok (.aaload, 1) := by decide +kernel
theorem dX21_seen_56 : decode cX21_seen 56 = .ok (.getfield 524, 3) := by decide +kernel
theorem dX21_seen_59 : decode cX21_seen 59 = .ok (.iload_n 2, 1) := by decide +kernel
theorem dX21_seen_60 : decode cX21_seen 60 = .ok (.iadd, 1) := by decide +kernel
theorem dX21_seen_61 : decode cX21_seen 61 = .ok (.baload, 1) := by decide +kernel
theorem dX21_seen_62 : decode cX21_seen 62 = .ok (.sipush 255, 3) := by decide +kernel
theorem dX21_seen_65 : decode cX21_seen 65 = .ok (.iand, 1) := by decide +kernel
theorem dX21_seen_66 : decode cX21_seen 66 = .ok (.ireturn, 1) := by decide +kernel
theorem dX21_inject_0 : decode cX21_inject 0 = .ok (.aload_n 0, 1) := by decide +kernel
theorem dX21_inject_1 : decode cX21_inject 1 = .ok (.iconst 0, 1) := by decide +kernel
theorem dX21_inject_2 : decode cX21_inject 2 = .ok (.putfield 145, 3) := by decide +kernel
theorem dX21_inject_5 : decode cX21_inject 5 = .ok (.iload_n 1, 1) := by decide +kernel
theorem dX21_inject_6 : decode cX21_inject 6 = .ok (.invokestatic 934, 3) := by decide +kernel
theorem dX21_inject_9 : decode cX21_inject 9 = .ok (.ifCond .eq 9, 3) := by decide +kernel
theorem dX21_inject_12 : decode cX21_inject 12 = .ok (.aload_n 0, 1) := by decide +kernel
theorem dX21_inject_13 : decode cX21_inject 13 = .ok (.iconst 1, 1) := by decide +kernel
theorem dX21_inject_14 : decode cX21_inject 14 = .ok (.invokevirtual 926, 3) := by decide +kernel
theorem dX21_inject_17 : decode cX21_inject 17 = .ok (.ireturn, 1) := by decide +kernel
theorem dX21_inject_18 : decode cX21_inject 18 = .ok (.aload_n 0, 1) := by decide +kernel
theorem dX21_inject_19 : decode cX21_inject 19 = .ok (.getfield 55, 3) := by decide +kernel
theorem dX21_inject_22 : decode cX21_inject 22 = .ok (.iload_n 1, 1) := by decide +kernel
theorem dX21_inject_23 : decode cX21_inject 23 = .ok (.aaload, 1) := by decide +kernel
theorem dX21_inject_24 : decode cX21_inject 24 = .ok (.invokevirtual 224, 3) := by decide +kernel
theorem dX21_inject_27 : decode cX21_inject 27 = .ok (.aload_n 0, 1) := by decide +kernel
theorem dX21_inject_28 : decode cX21_inject 28 = .ok (.getfield 922, 3) := by decide +kernel
theorem dX21_inject_31 : decode cX21_inject 31 = .ok (.iadd, 1) := by decide +kernel
theorem dX21_inject_32 : decode cX21_inject 32 = .ok (.ldc 228, 2) := by decide +kernel
theorem dX21_inject_34 : decode cX21_inject 34 = .ok (.if_icmp .le 9, 3) := by decide +kernel
theorem dX21_inject_37 : decode cX21_inject 37 = .ok (.aload_n 0, 1) := by decide +kernel
theorem dX21_inject_38 : decode cX21_inject 38 = .ok (.iconst 2, 1) := by decide +kernel
theorem dX21_inject_39 : decode cX21_inject 39 = .ok (.invokevirtual 926, 3) := by decide +kernel
theorem dX21_inject_42 : decode cX21_inject 42 = .ok (.ireturn, 1) := by decide +kernel
theorem dX21_inject_43 : decode cX21_inject 43 = .ok (.aload_n 0, 1) := by decide +kernel
theorem dX21_inject_44 : decode cX21_inject 44 = .ok (.getfield 55, 3) := by decide +kernel
theorem dX21_inject_47 : decode cX21_inject 47 = .ok (.iload_n 1, 1) := by decide +kernel
theorem dX21_inject_48 : decode cX21_inject 48 = .ok (.aaload, 1) := by decide +kernel
theorem dX21_inject_49 : decode cX21_inject 49 = .ok (.aload_n 0, 1) := by decide +kernel
theorem dX21_inject_50 : decode cX21_inject 50 = .ok (.getfield 8, 3) := by decide +kernel
theorem dX21_inject_53 : decode cX21_inject 53 = .ok (.iconst 0, 1) := by decide +kernel
theorem dX21_inject_54 : decode cX21_inject 54 = .ok (.aload_n 0, 1) := by decide +kernel
theorem dX21_inject_55 : decode cX21_inject 55 = .ok (.getfield 922, 3) := by decide +kernel
theorem dX21_inject_58 : decode cX21_inject 58 = .ok (.invokevirtual 178, 3) := by decide +kernel
theorem dX21_inject_61 : decode cX21_inject 61 = .ok (.aload_n 0, 1) := by decide +kernel
theorem dX21_inject_62 : decode cX21_inject 62 = .ok (.iconst 0, 1) := by decide +kernel
theorem dX21_inject_63 : decode cX21_inject 63 = .ok (.putfield 922, 3) := by decide +kernel
theorem dX21_inject_66 : decode cX21_inject 66 = .ok (.aload_n 0, 1) := by decide +kernel
theorem dX21_inject_67 : decode cX21_inject 67 = .ok (.getfield 55, 3) := by decide +kernel
theorem dX21_inject_70 : decode cX21_inject 70 = .ok (.iload_n 1, 1) := by decide +kernel
theorem dX21_inject_71 : decode cX21_inject 71 = .ok (.aaload, 1) := by decide +kernel
theorem dX21_inject_72 : decode cX21_inject 72 = .ok (.invokevirtual 224, 3) := by decide +kernel
theorem dX21_inject_75 : decode cX21_inject 75 = .ok (.ireturn, 1) := by decide +kernel
theorem dX21_open_0 : decode cX21_open 0 = .ok (.aload_n 0, 1) := by decide +kernel
theorem dX21_open_1 : decode cX21_open 1 = .ok (.iconst 0, 1) := by decide +kernel
theorem dX21_open_2 : decode cX21_open 2 = .ok (.putfield 145, 3) := by decide +kernel
theorem dX21_open_5 : decode cX21_open 5 = .ok (.iload_n 1, 1) := by decide +kernel
theorem dX21_open_6 : decode cX21_open 6 = .ok (.ifCond .lt 24, 3) := by decide +kernel
theorem dX21_open_9 : decode cX21_open 9 = .ok (.iload_n 1, 1) := by decide +kernel
theorem dX21_open_10 : decode cX21_open 10 = .ok (.ldc_w 938, 3) := by decide +kernel
theorem dX21_open_13 : decode cX21_open 13 = .ok (.if_icmp .gt 17, 3) := by decide +kernel
theorem dX21_open_16 : decode cX21_open 16 = .ok (.iload_n 1, 1) := by decide +kernel
theorem dX21_open_17 : decode cX21_open 17 = .ok (.ifCond .le 19, 3) := by decide +kernel
theorem dX21_open_20 : decode cX21_open 20 = .ok (.aload_n 0, 1) := by decide +kernel
theorem dX21_open_21 : decode cX21_open 21 = .ok (.getfield 922, 3) := by decide +kernel
theorem dX21_open_24 : decode cX21_open 24 = .ok (.sipush 255, 3) := by decide +kernel
theorem dX21_open_27 : decode cX21_open 27 = .ok (.if_icmp .le 9, 3) := by decide +kernel
theorem dX21_open_30 : decode cX21_open 30 = .ok (.aload_n 0, 1) := by decide +kernel
theorem dX21_open_31 : decode cX21_open 31 = .ok (.iconst 1, 1) := by decide +kernel
theorem dX21_open_32 : decode cX21_open 32 = .ok (.invokevirtual 926, 3) := by decide +kernel
theorem dX21_open_35 : decode cX21_open 35 = .ok (.ireturn, 1) := by decide +kernel
theorem dX21_open_36 : decode cX21_open 36 = .ok (.aload_n 0, 1) := by decide +kernel
theorem dX21_open_37 : decode cX21_open 37 = .ok (.getfield 45, 3) := by decide +kernel
theorem dX21_open_40 : decode cX21_open 40 = .ok (.iconst 0, 1) := by decide +kernel
theorem dX21_open_41 : decode cX21_open 41 = .ok (.aaload, 1) := by decide +kernel
theorem dX21_open_42 : decode cX21_open 42 = .ok (.astore_n 2, 1) := by decide +kernel
theorem dX21_open_43 : decode cX21_open 43 = .ok (.iconst 0, 1) := by decide +kernel
theorem dX21_open_44 : decode cX21_open 44 = .ok (.istore_n 3, 1) := by decide +kernel
theorem dX21_open_45 : decode cX21_open 45 = .ok (.iload_n 3, 1) := by decide +kernel
theorem dX21_open_46 : decode cX21_open 46 = .ok (.bipush 16, 2) := by decide +kernel
theorem dX21_open_48 : decode cX21_open 48 = .ok (.if_icmp .ge 21, 3) := by decide +kernel
theorem dX21_open_51 : decode cX21_open 51 = .ok (.aload_n 2, 1) := by decide +kernel
theorem dX21_open_52 : decode cX21_open 52 = .ok (.getfield 706, 3) := by decide +kernel
theorem dX21_open_55 : decode cX21_open 55 = .ok (.iload_n 3, 1) := by decide +kernel
theorem dX21_open_56 : decode cX21_open 56 = .ok (.aaload, 1) := by decide +kernel
theorem dX21_open_57 : decode cX21_open 57 = .ok (.invokestatic 720, 3) := by decide +kernel
theorem dX21_open_60 : decode cX21_open 60 = .ok (.ifCond .eq 9, 3) := by decide +kernel
theorem dX21_open_63 : decode cX21_open 63 = .ok (.iinc 3 1, 3) := by decide +kernel
theorem dX21_open_66 : decode cX21_open 66 = .ok (.goto (-21), 3) := by decide +kernel
theorem dX21_open_69 : decode cX21_open 69 = .ok (.aload_n 2, 1) := by decide +kernel
theorem dX21_open_70 : decode cX21_open 70 = .ok (.getfield 195, 3) := by decide +kernel
theorem dX21_open_73 : decode cX21_open 73 = .ok (.iconst 1, 1) := by decide +kernel
theorem dX21_open_74 : decode cX21_open 74 = .ok (.if_icmp .ne 16, 3) := by decide +kernel
theorem dX21_open_77 : decode cX21_open 77 = .ok (.aload_n 2, 1) := by decide +kernel
theorem dX21_open_78 : decode cX21_open 78 = .ok (.getfield 607, 3) := by decide +kernel
theorem dX21_open_81 : decode cX21_open 81 = .ok (.ifCond .eq 9, 3) := by decide +kernel
theorem dX21_open_84 : decode cX21_open 84 = .ok (.iload_n 3, 1) := by decide +kernel
theorem dX21_open_85 : decode cX21_open 85 = .ok (.bipush 16, 2) := by decide +kernel
theorem dX21_open_87 : decode cX21_open 87 = .ok (.if_icmp .ne 9, 3) := by decide +kernel
theorem dX21_open_90 : decode cX21_open 90 = .ok (.aload_n 0, 1) := by decide +kernel
theorem dX21_open_91 : decode cX21_open 91 = .ok (.iconst 2, 1) := by decide +kernel
theorem dX21_open_92 : decode cX21_open 92 = .ok (.invokevirtual 926, 3) := by decide +kernel
theorem dX21_open_95 : decode cX21_open 95 = .ok (.ireturn, 1) := by decide +kernel
theorem dX21_open_96 : decode cX21_open 96 = .ok (.aload_n 2, 1) := by decide +kernel
theorem dX21_open_97 : decode cX21_open 97 = .ok (.getfield 706, 3) := by decide +kernel
theorem dX21_open_100 : decode cX21_open 100 = .ok (.iload_n 3, 1) := by decide +kernel
theorem dX21_open_101 : decode cX21_open 101 = .ok (.aaload, 1) := by decide +kernel
theorem dX21_open_102 : decode cX21_open 102 = .ok (.astore 4, 2) := by decide +kernel
theorem dX21_open_104 : decode cX21_open 104 = .ok (.aload 4, 2) := by decide +kernel
theorem dX21_open_106 : decode cX21_open 106 = .ok (.iload_n 3, 1) := by decide +kernel
theorem dX21_open_107 : decode cX21_open 107 = .ok (.invokevirtual 730, 3) := by decide +kernel
theorem dX21_open_110 : decode cX21_open 110 = .ok (.aload 4, 2) := by decide +kernel
theorem dX21_open_112 : decode cX21_open 112 = .ok (.aload_n 2, 1) := by decide +kernel
theorem dX21_open_113 : decode cX21_open 113 = .ok (.getfield 272, 3) := by decide +kernel
theorem dX21_open_116 : decode cX21_open 116 = .ok (.iconst 2, 1) := by decide +kernel
theorem dX21_open_117 : decode cX21_open 117 = .ok (.iaload, 1) := by decide +kernel
theorem dX21_open_118 : decode cX21_open 118 = .ok (.i2l, 1) := by decide +kernel
theorem dX21_open_119 : decode cX21_open 119 = .ok (.putfield 740, 3) := by decide +kernel
theorem dX21_open_122 : decode cX21_open 122 = .ok (.aload 4, 2) := by decide +kernel
theorem dX21_open_124 : decode cX21_open 124 = .ok (.aload_n 2, 1) := by decide +kernel
theorem dX21_open_125 : decode cX21_open 125 = .ok (.getfield 272, 3) := by decide +kernel
theorem dX21_open_128 : decode cX21_open 128 = .ok (.iconst 3, 1) := by decide +kernel
theorem dX21_open_129 : decode cX21_open 129 = .ok (.iaload, 1) := by decide +kernel
theorem dX21_open_130 : decode cX21_open 130 = .ok (.i2l, 1) := by decide +kernel
theorem dX21_open_131 : decode cX21_open 131 = .ok (.putfield 743, 3) := by decide +kernel
theorem dX21_open_134 : decode cX21_open 134 = .ok (.aload_n 0, 1) := by decide +kernel
theorem dX21_open_135 : decode cX21_open 135 = .ok (.bipush 90, 2) := by decide +kernel
theorem dX21_open_137 : decode cX21_open 137 = .ok (.invokevirtual 281, 3) := by decide +kernel
theorem dX21_open_140 : decode cX21_open 140 = .ok (.astore 5, 2) := by decide +kernel
theorem dX21_open_142 : decode cX21_open 142 = .ok (.aload 5, 2) := by decide +kernel
theorem dX21_open_144 : decode cX21_open 144 = .ok (.iload_n 1, 1) := by decide +kernel
theorem dX21_open_145 : decode cX21_open 145 = .ok (.ifCond .ne 9, 3) := by decide +kernel
theorem dX21_open_148 : decode cX21_open 148 = .ok (.ldc_w 713, 3) := by decide +kernel
theorem dX21_open_151 : decode cX21_open 151 = .ok (.goto 6, 3) := by decide +kernel
theorem dX21_open_154 : decode cX21_open 154 = .ok (.ldc_w 714, 3) := by decide +kernel
theorem dX21_open_157 : decode cX21_open 157 = .ok (.invokevirtual 316, 3) := by decide +kernel
theorem dX21_open_160 : decode cX21_open 160 = .ok (.aload 5, 2) := by decide +kernel
theorem dX21_open_162 : decode cX21_open 162 = .ok (.iload_n 3, 1) := by decide +kernel
theorem dX21_open_163 : decode cX21_open 163 = .ok (.i2l, 1) := by decide +kernel
theorem dX21_open_164 : decode cX21_open 164 = .ok (.invokevirtual 174, 3) := by decide +kernel
theorem dX21_open_167 : decode cX21_open 167 = .ok (.aload 5, 2) := by decide +kernel
theorem dX21_open_169 : decode cX21_open 169 = .ok (.aload_n 2, 1) := by decide +kernel
theorem dX21_open_170 : decode cX21_open 170 = .ok (.getfield 272, 3) := by decide +kernel
theorem dX21_open_173 : decode cX21_open 173 = .ok (.iconst 2, 1) := by decide +kernel
theorem dX21_open_174 : decode cX21_open 174 = .ok (.iaload, 1) := by decide +kernel
theorem dX21_open_175 : decode cX21_open 175 = .ok (.i2l, 1) := by decide +kernel
theorem dX21_open_176 : decode cX21_open 176 = .ok (.invokevirtual 174, 3) := by decide +kernel
theorem dX21_open_179 : decode cX21_open 179 = .ok (.aload 5, 2) := by decide +kernel
theorem dX21_open_181 : decode cX21_open 181 = .ok (.aload_n 2, 1) := by decide +kernel
theorem dX21_open_182 : decode cX21_open 182 = .ok (.getfield 272, 3) := by decide +kernel
theorem dX21_open_185 : decode cX21_open 185 = .ok (.iconst 3, 1) := by decide +kernel
theorem dX21_open_186 : decode cX21_open 186 = .ok (.iaload, 1) := by decide +kernel
theorem dX21_open_187 : decode cX21_open 187 = .ok (.i2l, 1) := by decide +kernel
theorem dX21_open_188 : decode cX21_open 188 = .ok (.invokevirtual 174, 3) := by decide +kernel
theorem dX21_open_191 : decode cX21_open 191 = .ok (.iload_n 1, 1) := by decide +kernel
theorem dX21_open_192 : decode cX21_open 192 = .ok (.ifCond .le 38, 3) := by decide +kernel
theorem dX21_open_195 : decode cX21_open 195 = .ok (.aload 5, 2) := by decide +kernel
theorem dX21_open_197 : decode cX21_open 197 = .ok (.aload_n 0, 1) := by decide +kernel
theorem dX21_open_198 : decode cX21_open 198 = .ok (.getfield 8, 3) := by decide +kernel
theorem dX21_open_201 : decode cX21_open 201 = .ok (.iconst 0, 1) := by decide +kernel
theorem dX21_open_202 : decode cX21_open 202 = .ok (.aload_n 0, 1) := by decide +kernel
theorem dX21_open_203 : decode cX21_open 203 = .ok (.getfield 922, 3) := by decide +kernel
theorem dX21_open_206 : decode cX21_open 206 = .ok (.invokevirtual 254, 3) := by decide +kernel
theorem dX21_open_209 : decode cX21_open 209 = .ok (.aload 5, 2) := by decide +kernel
theorem dX21_open_211 : decode cX21_open 211 = .ok (.iload_n 1, 1) := by decide +kernel
theorem dX21_open_212 : decode cX21_open 212 = .ok (.i2l, 1) := by decide +kernel
theorem dX21_open_213 : decode cX21_open 213 = .ok (.invokevirtual 174, 3) := by decide +kernel
theorem dX21_open_216 : decode cX21_open 216 = .ok (.aload 5, 2) := by decide +kernel
theorem dX21_open_218 : decode cX21_open 218 = .ok (.ldc_w 952, 3) := by decide +kernel
theorem dX21_open_221 : decode cX21_open 221 = .ok (.invokevirtual 316, 3) := by decide +kernel
theorem dX21_open_224 : decode cX21_open 224 = .ok (.aload 5, 2) := by decide +kernel
theorem dX21_open_226 : decode cX21_open 226 = .ok (.lconst 0, 1) := by decide +kernel
theorem dX21_open_227 : decode cX21_open 227 = .ok (.invokevirtual 174, 3) := by decide +kernel
theorem dX21_open_230 : decode cX21_open 230 = .ok (.aload_n 0, 1) := by decide +kernel
theorem dX21_open_231 : decode cX21_open 231 = .ok (.iconst 0, 1) := by decide +kernel
theorem dX21_open_232 : decode cX21_open 232 = .ok (.putfield 922, 3) := by decide +kernel
theorem dX21_open_235 : decode cX21_open 235 = .ok (.aload_n 0, 1) := by decide +kernel
theorem dX21_open_236 : decode cX21_open 236 = .ok (.aload_n 2, 1) := by decide +kernel
theorem dX21_open_237 : decode cX21_open 237 = .ok (.aload 5, 2) := by decide +kernel
theorem dX21_open_239 : decode cX21_open 239 = .ok (.invokevirtual 535, 3) := by decide +kernel
theorem dX21_open_242 : decode cX21_open 242 = .ok (.iload_n 3, 1) := by decide +kernel
theorem dX21_open_243 : decode cX21_open 243 = .ok (.ireturn, 1) := by decide +kernel
theorem dX21_live_0 : decode cX21_live 0 = .ok (.iload_n 1, 1) := by decide +kernel
theorem dX21_live_1 : decode cX21_live 1 = .ok (.ifCond .lt 9, 3) := by decide +kernel
theorem dX21_live_4 : decode cX21_live 4 = .ok (.iload_n 1, 1) := by decide +kernel
theorem dX21_live_5 : decode cX21_live 5 = .ok (.bipush 15, 2) := by decide +kernel
theorem dX21_live_7 : decode cX21_live 7 = .ok (.if_icmp .le 7, 3) := by decide +kernel
theorem dX21_live_10 : decode cX21_live 10 = .ok (.aconst_null, 1) := by decide +kernel
theorem dX21_live_11 : decode cX21_live 11 = .ok (.goto 14, 3) := by decide +kernel
theorem dX21_live_14 : decode cX21_live 14 = .ok (.aload_n 0, 1) := by decide +kernel
theorem dX21_live_15 : decode cX21_live 15 = .ok (.getfield 45, 3) := by decide +kernel
theorem dX21_live_18 : decode cX21_live 18 = .ok (.iconst 0, 1) := by decide +kernel
theorem dX21_live_19 : decode cX21_live 19 = .ok (.aaload, 1) := by decide +kernel
theorem dX21_live_20 : decode cX21_live 20 = .ok (.getfield 706, 3) := by decide +kernel
theorem dX21_live_23 : decode cX21_live 23 = .ok (.iload_n 1, 1) := by decide +kernel
theorem dX21_live_24 : decode cX21_live 24 = .ok (.aaload, 1) := by decide +kernel
theorem dX21_live_25 : decode cX21_live 25 = .ok (.astore_n 2, 1) := by decide +kernel
theorem dX21_live_26 : decode cX21_live 26 = .ok (.aload_n 2, 1) := by decide +kernel
theorem dX21_live_27 : decode cX21_live 27 = .ok (.ifnull 10, 3) := by decide +kernel
theorem dX21_live_30 : decode cX21_live 30 = .ok (.aload_n 2, 1) := by decide +kernel
theorem dX21_live_31 : decode cX21_live 31 = .ok (.invokestatic 720, 3) := by decide +kernel
theorem dX21_live_34 : decode cX21_live 34 = .ok (.ifCond .ne 7, 3) := by decide +kernel
theorem dX21_live_37 : decode cX21_live 37 = .ok (.aconst_null, 1) := by decide +kernel
theorem dX21_live_38 : decode cX21_live 38 = .ok (.goto 4, 3) := by decide +kernel
theorem dX21_live_41 : decode cX21_live 41 = .ok (.aload_n 2, 1) := by decide +kernel
theorem dX21_live_42 : decode cX21_live 42 = .ok (.areturn, 1) := by decide +kernel
theorem dX21_exec_0 : decode cX21_exec 0 = .ok (.aload_n 0, 1) := by decide +kernel
theorem dX21_exec_1 : decode cX21_exec 1 = .ok (.iload_n 1, 1) := by decide +kernel
theorem dX21_exec_2 : decode cX21_exec 2 = .ok (.invokevirtual 954, 3) := by decide +kernel
theorem dX21_exec_5 : decode cX21_exec 5 = .ok (.astore_n 2, 1) := by decide +kernel
theorem dX21_exec_6 : decode cX21_exec 6 = .ok (.aload_n 0, 1) := by decide +kernel
theorem dX21_exec_7 : decode cX21_exec 7 = .ok (.aload_n 2, 1) := by decide +kernel
theorem dX21_exec_8 : decode cX21_exec 8 = .ok (.ifnonnull 7, 3) := by decide +kernel
theorem dX21_exec_11 : decode cX21_exec 11 = .ok (.iconst 1, 1) := by decide +kernel
theorem dX21_exec_12 : decode cX21_exec 12 = .ok (.goto 56, 3) := by decide +kernel
theorem dX21_exec_15 : decode cX21_exec 15 = .ok (.aload_n 0, 1) := by decide +kernel
theorem dX21_exec_16 : decode cX21_exec 16 = .ok (.getfield 922, 3) := by decide +kernel
theorem dX21_exec_19 : decode cX21_exec 19 = .ok (.sipush 1000, 3) := by decide +kernel
theorem dX21_exec_22 : decode cX21_exec 22 = .ok (.if_icmp .le 7, 3) := by decide +kernel
theorem dX21_exec_25 : decode cX21_exec 25 = .ok (.iconst 2, 1) := by decide +kernel
theorem dX21_exec_26 : decode cX21_exec 26 = .ok (.goto 42, 3) := by decide +kernel
theorem dX21_exec_29 : decode cX21_exec 29 = .ok (.aload_n 0, 1) := by decide +kernel
theorem dX21_exec_30 : decode cX21_exec 30 = .ok (.getfield 45, 3) := by decide +kernel
theorem dX21_exec_33 : decode cX21_exec 33 = .ok (.iconst 0, 1) := by decide +kernel
theorem dX21_exec_34 : decode cX21_exec 34 = .ok (.aaload, 1) := by decide +kernel
theorem dX21_exec_35 : decode cX21_exec 35 = .ok (.getfield 195, 3) := by decide +kernel
theorem dX21_exec_38 : decode cX21_exec 38 = .ok (.iconst 1, 1) := by decide +kernel
theorem dX21_exec_39 : decode cX21_exec 39 = .ok (.if_icmp .ne 24, 3) := by decide +kernel
theorem dX21_exec_42 : decode cX21_exec 42 = .ok (.aload_n 2, 1) := by decide +kernel
theorem dX21_exec_43 : decode cX21_exec 43 = .ok (.getfield 710, 3) := by decide +kernel
theorem dX21_exec_46 : decode cX21_exec 46 = .ok (.ifCond .eq 17, 3) := by decide +kernel
theorem dX21_exec_49 : decode cX21_exec 49 = .ok (.aload_n 2, 1) := by decide +kernel
theorem dX21_exec_50 : decode cX21_exec 50 = .ok (.getfield 803, 3) := by decide +kernel
theorem dX21_exec_53 : decode cX21_exec 53 = .ok (.ifCond .ne 10, 3) := by decide +kernel
theorem dX21_exec_56 : decode cX21_exec 56 = .ok (.aload_n 2, 1) := by decide +kernel
theorem dX21_exec_57 : decode cX21_exec 57 = .ok (.getfield 761, 3) := by decide +kernel
theorem dX21_exec_60 : decode cX21_exec 60 = .ok (.ifCond .eq 7, 3) := by decide +kernel
theorem dX21_exec_63 : decode cX21_exec 63 = .ok (.iconst 3, 1) := by decide +kernel
theorem dX21_exec_64 : decode cX21_exec 64 = .ok (.goto 4, 3) := by decide +kernel
theorem dX21_exec_67 : decode cX21_exec 67 = .ok (.iconst 0, 1) := by decide +kernel
theorem dX21_exec_68 : decode cX21_exec 68 = .ok (.putfield 145, 3) := by decide +kernel
theorem dX21_exec_71 : decode cX21_exec 71 = .ok (.aload_n 0, 1) := by decide +kernel
theorem dX21_exec_72 : decode cX21_exec 72 = .ok (.getfield 145, 3) := by decide +kernel
theorem dX21_exec_75 : decode cX21_exec 75 = .ok (.ifCond .le 4, 3) := by decide +kernel
theorem dX21_exec_78 : decode cX21_exec 78 = .ok (.return_, 1) := by decide +kernel
theorem dX21_exec_79 : decode cX21_exec 79 = .ok (.aload_n 0, 1) := by decide +kernel
theorem dX21_exec_80 : decode cX21_exec 80 = .ok (.aload_n 2, 1) := by decide +kernel
theorem dX21_exec_81 : decode cX21_exec 81 = .ok (.bipush 98, 2) := by decide +kernel
theorem dX21_exec_83 : decode cX21_exec 83 = .ok (.invokevirtual 817, 3) := by decide +kernel
theorem dX21_exec_86 : decode cX21_exec 86 = .ok (.astore_n 3, 1) := by decide +kernel
theorem dX21_exec_87 : decode cX21_exec 87 = .ok (.aload_n 3, 1) := by decide +kernel
theorem dX21_exec_88 : decode cX21_exec 88 = .ok (.ldc_w 852, 3) := by decide +kernel
theorem dX21_exec_91 : decode cX21_exec 91 = .ok (.invokevirtual 316, 3) := by decide +kernel
theorem dX21_exec_94 : decode cX21_exec 94 = .ok (.aload_n 3, 1) := by decide +kernel
theorem dX21_exec_95 : decode cX21_exec 95 = .ok (.iconst 1, 1) := by decide +kernel
theorem dX21_exec_96 : decode cX21_exec 96 = .ok (.invokevirtual 209, 3) := by decide +kernel
theorem dX21_exec_99 : decode cX21_exec 99 = .ok (.aload_n 3, 1) := by decide +kernel
theorem dX21_exec_100 : decode cX21_exec 100 = .ok (.aload_n 0, 1) := by decide +kernel
theorem dX21_exec_101 : decode cX21_exec 101 = .ok (.getfield 8, 3) := by decide +kernel
theorem dX21_exec_104 : decode cX21_exec 104 = .ok (.iconst 0, 1) := by decide +kernel
theorem dX21_exec_105 : decode cX21_exec 105 = .ok (.aload_n 0, 1) := by decide +kernel
theorem dX21_exec_106 : decode cX21_exec 106 = .ok (.getfield 922, 3) := by decide +kernel
theorem dX21_exec_109 : decode cX21_exec 109 = .ok (.invokevirtual 254, 3) := by decide +kernel
theorem dX21_exec_112 : decode cX21_exec 112 = .ok (.aload_n 0, 1) := by decide +kernel
theorem dX21_exec_113 : decode cX21_exec 113 = .ok (.iconst 0, 1) := by decide +kernel
theorem dX21_exec_114 : decode cX21_exec 114 = .ok (.putfield 922, 3) := by decide +kernel
theorem dX21_exec_117 : decode cX21_exec 117 = .ok (.aload_n 2, 1) := by decide +kernel
theorem dX21_exec_118 : decode cX21_exec 118 = .ok (.dup, 1) := by decide +kernel
theorem dX21_exec_119 : decode cX21_exec 119 = .ok (.getfield 790, 3) := by decide +kernel
theorem dX21_exec_122 : decode cX21_exec 122 = .ok (.iconst 1, 1) := by decide +kernel
theorem dX21_exec_123 : decode cX21_exec 123 = .ok (.iadd, 1) := by decide +kernel
theorem dX21_exec_124 : decode cX21_exec 124 = .ok (.putfield 790, 3) := by decide +kernel
theorem dX21_exec_127 : decode cX21_exec 127 = .ok (.aload_n 0, 1) := by decide +kernel
theorem dX21_exec_128 : decode cX21_exec 128 = .ok (.aload_n 0, 1) := by decide +kernel
theorem dX21_exec_129 : decode cX21_exec 129 = .ok (.getfield 45, 3) := by decide +kernel
theorem dX21_exec_132 : decode cX21_exec 132 = .ok (.iconst 0, 1) := by decide +kernel
theorem dX21_exec_133 : decode cX21_exec 133 = .ok (.aaload, 1) := by decide +kernel
theorem dX21_exec_134 : decode cX21_exec 134 = .ok (.aload_n 3, 1) := by decide +kernel
theorem dX21_exec_135 : decode cX21_exec 135 = .ok (.invokevirtual 535, 3) := by decide +kernel
theorem dX21_exec_138 : decode cX21_exec 138 = .ok (.return_, 1) := by decide +kernel
theorem dX21_write_0 : decode cX21_write 0 = .ok (.aload_n 0, 1) := by decide +kernel
theorem dX21_write_1 : decode cX21_write 1 = .ok (.iconst 0, 1) := by decide +kernel
theorem dX21_write_2 : decode cX21_write 2 = .ok (.putfield 145, 3) := by decide +kernel
theorem dX21_write_5 : decode cX21_write 5 = .ok (.iload_n 2, 1) := by decide +kernel
theorem dX21_write_6 : decode cX21_write 6 = .ok (.ifCond .eq 27, 3) := by decide +kernel
theorem dX21_write_9 : decode cX21_write 9 = .ok (.iload_n 1, 1) := by decide +kernel
theorem dX21_write_10 : decode cX21_write 10 = .ok (.iconst 1, 1) := by decide +kernel
theorem dX21_write_11 : decode cX21_write 11 = .ok (.if_icmp .lt 10, 3) := by decide +kernel
theorem dX21_write_14 : decode cX21_write 14 = .ok (.iload_n 1, 1) := by decide +kernel
theorem dX21_write_15 : decode cX21_write 15 = .ok (.ldc_w 938, 3) := by decide +kernel
theorem dX21_write_18 : decode cX21_write 18 = .ok (.if_icmp .le 7, 3) := by decide +kernel
theorem dX21_write_21 : decode cX21_write 21 = .ok (.aconst_null, 1) := by decide +kernel
theorem dX21_write_22 : decode cX21_write 22 = .ok (.goto 16, 3) := by decide +kernel
theorem dX21_write_25 : decode cX21_write 25 = .ok (.aload_n 0, 1) := by decide +kernel
theorem dX21_write_26 : decode cX21_write 26 = .ok (.iload_n 1, 1) := by decide +kernel
theorem dX21_write_27 : decode cX21_write 27 = .ok (.invokevirtual 726, 3) := by decide +kernel
theorem dX21_write_30 : decode cX21_write 30 = .ok (.goto 8, 3) := by decide +kernel
theorem dX21_write_33 : decode cX21_write 33 = .ok (.aload_n 0, 1) := by decide +kernel
theorem dX21_write_34 : decode cX21_write 34 = .ok (.iload_n 1, 1) := by decide +kernel
theorem dX21_write_35 : decode cX21_write 35 = .ok (.invokevirtual 954, 3) := by decide +kernel
theorem dX21_write_38 : decode cX21_write 38 = .ok (.astore_n 3, 1) := by decide +kernel
theorem dX21_write_39 : decode cX21_write 39 = .ok (.aload_n 3, 1) := by decide +kernel
theorem dX21_write_40 : decode cX21_write 40 = .ok (.ifnonnull 9, 3) := by decide +kernel
theorem dX21_write_43 : decode cX21_write 43 = .ok (.aload_n 0, 1) := by decide +kernel
theorem dX21_write_44 : decode cX21_write 44 = .ok (.iconst 1, 1) := by decide +kernel
theorem dX21_write_45 : decode cX21_write 45 = .ok (.invokevirtual 926, 3) := by decide +kernel
theorem dX21_write_48 : decode cX21_write 48 = .ok (.ireturn, 1) := by decide +kernel
theorem dX21_write_49 : decode cX21_write 49 = .ok (.aload_n 3, 1) := by decide +kernel
theorem dX21_write_50 : decode cX21_write 50 = .ok (.getfield 824, 3) := by decide +kernel
theorem dX21_write_53 : decode cX21_write 53 = .ok (.ifCond .ne 35, 3) := by decide +kernel
theorem dX21_write_56 : decode cX21_write 56 = .ok (.aload_n 3, 1) := by decide +kernel
theorem dX21_write_57 : decode cX21_write 57 = .ok (.getfield 803, 3) := by decide +kernel
theorem dX21_write_60 : decode cX21_write 60 = .ok (.ifCond .ne 28, 3) := by decide +kernel
theorem dX21_write_63 : decode cX21_write 63 = .ok (.aload_n 3, 1) := by decide +kernel
theorem dX21_write_64 : decode cX21_write 64 = .ok (.getfield 798, 3) := by decide +kernel
theorem dX21_write_67 : decode cX21_write 67 = .ok (.ifCond .ne 21, 3) := by decide +kernel
theorem dX21_write_70 : decode cX21_write 70 = .ok (.aload_n 3, 1) := by decide +kernel
theorem dX21_write_71 : decode cX21_write 71 = .ok (.getfield 800, 3) := by decide +kernel
theorem dX21_write_74 : decode cX21_write 74 = .ok (.invokevirtual 224, 3) := by decide +kernel
theorem dX21_write_77 : decode cX21_write 77 = .ok (.aload_n 0, 1) := by decide +kernel
theorem dX21_write_78 : decode cX21_write 78 = .ok (.getfield 922, 3) := by decide +kernel
theorem dX21_write_81 : decode cX21_write 81 = .ok (.iadd, 1) := by decide +kernel
theorem dX21_write_82 : decode cX21_write 82 = .ok (.sipush 16384, 3) := by decide +kernel
theorem dX21_write_85 : decode cX21_write 85 = .ok (.if_icmp .le 9, 3) := by decide +kernel
theorem dX21_write_88 : decode cX21_write 88 = .ok (.aload_n 0, 1) := by decide +kernel
theorem dX21_write_89 : decode cX21_write 89 = .ok (.iconst 2, 1) := by decide +kernel
theorem dX21_write_90 : decode cX21_write 90 = .ok (.invokevirtual 926, 3) := by decide +kernel
theorem dX21_write_93 : decode cX21_write 93 = .ok (.ireturn, 1) := by decide +kernel
theorem dX21_write_94 : decode cX21_write 94 = .ok (.aload_n 3, 1) := by decide +kernel
theorem dX21_write_95 : decode cX21_write 95 = .ok (.getfield 800, 3) := by decide +kernel
theorem dX21_write_98 : decode cX21_write 98 = .ok (.aload_n 0, 1) := by decide +kernel
theorem dX21_write_99 : decode cX21_write 99 = .ok (.getfield 8, 3) := by decide +kernel
theorem dX21_write_102 : decode cX21_write 102 = .ok (.iconst 0, 1) := by decide +kernel
theorem dX21_write_103 : decode cX21_write 103 = .ok (.aload_n 0, 1) := by decide +kernel
theorem dX21_write_104 : decode cX21_write 104 = .ok (.getfield 922, 3) := by decide +kernel
theorem dX21_write_107 : decode cX21_write 107 = .ok (.invokevirtual 178, 3) := by decide +kernel
theorem dX21_write_110 : decode cX21_write 110 = .ok (.aload_n 0, 1) := by decide +kernel
theorem dX21_write_111 : decode cX21_write 111 = .ok (.iconst 0, 1) := by decide +kernel
theorem dX21_write_112 : decode cX21_write 112 = .ok (.putfield 922, 3) := by decide +kernel
theorem dX21_write_115 : decode cX21_write 115 = .ok (.aload_n 0, 1) := by decide +kernel
theorem dX21_write_116 : decode cX21_write 116 = .ok (.aload_n 0, 1) := by decide +kernel
theorem dX21_write_117 : decode cX21_write 117 = .ok (.getfield 45, 3) := by decide +kernel
theorem dX21_write_120 : decode cX21_write 120 = .ok (.iload_n 2, 1) := by decide +kernel
theorem dX21_write_121 : decode cX21_write 121 = .ok (.ifCond .eq 7, 3) := by decide +kernel
theorem dX21_write_124 : decode cX21_write 124 = .ok (.iconst 1, 1) := by decide +kernel
theorem dX21_write_125 : decode cX21_write 125 = .ok (.goto 4, 3) := by decide +kernel
theorem dX21_write_128 : decode cX21_write 128 = .ok (.iconst 0, 1) := by decide +kernel
theorem dX21_write_129 : decode cX21_write 129 = .ok (.aaload, 1) := by decide +kernel
theorem dX21_write_130 : decode cX21_write 130 = .ok (.aload_n 3, 1) := by decide +kernel
theorem dX21_write_131 : decode cX21_write 131 = .ok (.invokevirtual 764, 3) := by decide +kernel
theorem dX21_write_134 : decode cX21_write 134 = .ok (.aload_n 3, 1) := by decide +kernel
theorem dX21_write_135 : decode cX21_write 135 = .ok (.getfield 800, 3) := by decide +kernel
theorem dX21_write_138 : decode cX21_write 138 = .ok (.invokevirtual 224, 3) := by decide +kernel
theorem dX21_write_141 : decode cX21_write 141 = .ok (.ireturn, 1) := by decide +kernel
theorem dX21_read_0 : decode cX21_read 0 = .ok (.aload_n 0, 1) := by decide +kernel
theorem dX21_read_1 : decode cX21_read 1 = .ok (.iconst 0, 1) := by decide +kernel
theorem dX21_read_2 : decode cX21_read 2 = .ok (.putfield 145, 3) := by decide +kernel
theorem dX21_read_5 : decode cX21_read 5 = .ok (.iload_n 2, 1) := by decide +kernel
theorem dX21_read_6 : decode cX21_read 6 = .ok (.ifCond .lt 8, 3) := by decide +kernel
theorem dX21_read_9 : decode cX21_read 9 = .ok (.iload_n 2, 1) := by decide +kernel
theorem dX21_read_10 : decode cX21_read 10 = .ok (.iconst 2, 1) := by decide +kernel
theorem dX21_read_11 : decode cX21_read 11 = .ok (.if_icmp .le 10, 3) := by decide +kernel
theorem dX21_read_14 : decode cX21_read 14 = .ok (.aload_n 0, 1) := by decide +kernel
theorem dX21_read_15 : decode cX21_read 15 = .ok (.iconst 1, 1) := by decide +kernel
theorem dX21_read_16 : decode cX21_read 16 = .ok (.invokevirtual 926, 3) := by decide +kernel
theorem dX21_read_19 : decode cX21_read 19 = .ok (.i2l, 1) := by decide +kernel
theorem dX21_read_20 : decode cX21_read 20 = .ok (.lreturn, 1) := by decide +kernel
theorem dX21_read_21 : decode cX21_read 21 = .ok (.iload_n 2, 1) := by decide +kernel
theorem dX21_read_22 : decode cX21_read 22 = .ok (.iconst 2, 1) := by decide +kernel
theorem dX21_read_23 : decode cX21_read 23 = .ok (.if_icmp .ne 27, 3) := by decide +kernel
theorem dX21_read_26 : decode cX21_read 26 = .ok (.iload_n 1, 1) := by decide +kernel
theorem dX21_read_27 : decode cX21_read 27 = .ok (.iconst 1, 1) := by decide +kernel
theorem dX21_read_28 : decode cX21_read 28 = .ok (.if_icmp .lt 10, 3) := by decide +kernel
theorem dX21_read_31 : decode cX21_read 31 = .ok (.iload_n 1, 1) := by decide +kernel
theorem dX21_read_32 : decode cX21_read 32 = .ok (.ldc_w 938, 3) := by decide +kernel
theorem dX21_read_35 : decode cX21_read 35 = .ok (.if_icmp .le 7, 3) := by decide +kernel
theorem dX21_read_38 : decode cX21_read 38 = .ok (.aconst_null, 1) := by decide +kernel
theorem dX21_read_39 : decode cX21_read 39 = .ok (.goto 53, 3) := by decide +kernel
theorem dX21_read_42 : decode cX21_read 42 = .ok (.aload_n 0, 1) := by decide +kernel
theorem dX21_read_43 : decode cX21_read 43 = .ok (.iload_n 1, 1) := by decide +kernel
theorem dX21_read_44 : decode cX21_read 44 = .ok (.invokevirtual 726, 3) := by decide +kernel
theorem dX21_read_47 : decode cX21_read 47 = .ok (.goto 45, 3) := by decide +kernel
theorem dX21_read_50 : decode cX21_read 50 = .ok (.iload_n 1, 1) := by decide +kernel
theorem dX21_read_51 : decode cX21_read 51 = .ok (.ifCond .lt 26, 3) := by decide +kernel
theorem dX21_read_54 : decode cX21_read 54 = .ok (.iload_n 1, 1) := by decide +kernel
theorem dX21_read_55 : decode cX21_read 55 = .ok (.bipush 15, 2) := by decide +kernel
theorem dX21_read_57 : decode cX21_read 57 = .ok (.if_icmp .gt 20, 3) := by decide +kernel
theorem dX21_read_60 : decode cX21_read 60 = .ok (.aload_n 0, 1) := by decide +kernel
theorem dX21_read_61 : decode cX21_read 61 = .ok (.getfield 45, 3) := by decide +kernel
theorem dX21_read_64 : decode cX21_read 64 = .ok (.iconst 0, 1) := by decide +kernel
theorem dX21_read_65 : decode cX21_read 65 = .ok (.aaload, 1) := by decide +kernel
theorem dX21_read_66 : decode cX21_read 66 = .ok (.getfield 706, 3) := by decide +kernel
theorem dX21_read_69 : decode cX21_read 69 = .ok (.iload_n 1, 1) := by decide +kernel
theorem dX21_read_70 : decode cX21_read 70 = .ok (.aaload, 1) := by decide +kernel
theorem dX21_read_71 : decode cX21_read 71 = .ok (.getfield 710, 3) := by decide +kernel
theorem dX21_read_74 : decode cX21_read 74 = .ok (.ifCond .ge 7, 3) := by decide +kernel
theorem dX21_read_77 : decode cX21_read 77 = .ok (.aconst_null, 1) := by decide +kernel
theorem dX21_read_78 : decode cX21_read 78 = .ok (.goto 14, 3) := by decide +kernel
theorem dX21_read_81 : decode cX21_read 81 = .ok (.aload_n 0, 1) := by decide +kernel
theorem dX21_read_82 : decode cX21_read 82 = .ok (.getfield 45, 3) := by decide +kernel
theorem dX21_read_85 : decode cX21_read 85 = .ok (.iconst 0, 1) := by decide +kernel
theorem dX21_read_86 : decode cX21_read 86 = .ok (.aaload, 1) := by decide +kernel
theorem dX21_read_87 : decode cX21_read 87 = .ok (.getfield 706, 3) := by decide +kernel
theorem dX21_read_90 : decode cX21_read 90 = .ok (.iload_n 1, 1) := by decide +kernel
theorem dX21_read_91 : decode cX21_read 91 = .ok (.aaload, 1) := by decide +kernel
theorem dX21_read_92 : decode cX21_read 92 = .ok (.astore 4, 2) := by decide +kernel
theorem dX21_read_94 : decode cX21_read 94 = .ok (.aload 4, 2) := by decide +kernel
theorem dX21_read_96 : decode cX21_read 96 = .ok (.ifnonnull 10, 3) := by decide +kernel
theorem dX21_read_99 : decode cX21_read 99 = .ok (.aload_n 0, 1) := by decide +kernel
theorem dX21_read_100 : decode cX21_read 100 = .ok (.iconst 1, 1) := by decide +kernel
theorem dX21_read_101 : decode cX21_read 101 = .ok (.invokevirtual 926, 3) := by decide +kernel
theorem dX21_read_104 : decode cX21_read 104 = .ok (.i2l, 1) := by decide +kernel
theorem dX21_read_105 : decode cX21_read 105 = .ok (.lreturn, 1) := by decide +kernel
theorem dX21_read_106 : decode cX21_read 106 = .ok (.iload_n 3, 1) := by decide +kernel
theorem dX21_read_107 : decode cX21_read 107 = .ok (.iconst 1, 1) := by decide +kernel
theorem dX21_read_108 : decode cX21_read 108 = .ok (.if_icmp .lt 9, 3) := by decide +kernel
theorem dX21_read_111 : decode cX21_read 111 = .ok (.iload_n 3, 1) := by decide +kernel
theorem dX21_read_112 : decode cX21_read 112 = .ok (.bipush 7, 2) := by decide +kernel
theorem dX21_read_114 : decode cX21_read 114 = .ok (.if_icmp .le 10, 3) := by decide +kernel
theorem dX21_read_117 : decode cX21_read 117 = .ok (.aload_n 0, 1) := by decide +kernel
theorem dX21_read_118 : decode cX21_read 118 = .ok (.iconst 2, 1) := by decide +kernel
theorem dX21_read_119 : decode cX21_read 119 = .ok (.invokevirtual 926, 3) := by decide +kernel
theorem dX21_read_122 : decode cX21_read 122 = .ok (.i2l, 1) := by decide +kernel
theorem dX21_read_123 : decode cX21_read 123 = .ok (.lreturn, 1) := by decide +kernel
theorem dX21_read_124 : decode cX21_read 124 = .ok (.iload_n 2, 1) := by decide +kernel
theorem dX21_read_125 : decode cX21_read 125 = .ok (.iconst 1, 1) := by decide +kernel
theorem dX21_read_126 : decode cX21_read 126 = .ok (.if_icmp .ne 11, 3) := by decide +kernel
theorem dX21_read_129 : decode cX21_read 129 = .ok (.aload 4, 2) := by decide +kernel
theorem dX21_read_131 : decode cX21_read 131 = .ok (.getfield 837, 3) := by decide +kernel
theorem dX21_read_134 : decode cX21_read 134 = .ok (.goto 8, 3) := by decide +kernel
theorem dX21_read_137 : decode cX21_read 137 = .ok (.aload 4, 2) := by decide +kernel
theorem dX21_read_139 : decode cX21_read 139 = .ok (.getfield 840, 3) := by decide +kernel
theorem dX21_read_142 : decode cX21_read 142 = .ok (.astore 5, 2) := by decide +kernel
theorem dX21_read_144 : decode cX21_read 144 = .ok (.iload_n 3, 1) := by decide +kernel
theorem dX21_read_145 : decode cX21_read 145 = .ok (.aload 5, 2) := by decide +kernel
theorem dX21_read_147 : decode cX21_read 147 = .ok (.invokevirtual 224, 3) := by decide +kernel
theorem dX21_read_150 : decode cX21_read 150 = .ok (.invokestatic 944, 3) := by decide +kernel
theorem dX21_read_153 : decode cX21_read 153 = .ok (.istore 6, 2) := by decide +kernel
theorem dX21_read_155 : decode cX21_read 155 = .ok (.lconst 0, 1) := by decide +kernel
theorem dX21_read_156 : decode cX21_read 156 = .ok (.lstore 7, 2) := by decide +kernel
theorem dX21_read_158 : decode cX21_read 158 = .ok (.iconst 0, 1) := by decide +kernel
theorem dX21_read_159 : decode cX21_read 159 = .ok (.istore 9, 2) := by decide +kernel
theorem dX21_read_161 : decode cX21_read 161 = .ok (.iload 9, 2) := by decide +kernel
theorem dX21_read_163 : decode cX21_read 163 = .ok (.iload 6, 2) := by decide +kernel
theorem dX21_read_165 : decode cX21_read 165 = .ok (.if_icmp .ge 23, 3) := by decide +kernel
theorem dX21_read_168 : decode cX21_read 168 = .ok (.lload 7, 2) := by decide +kernel
theorem dX21_read_170 : decode cX21_read 170 = .ok (.bipush 8, 2) := by decide +kernel
theorem dX21_read_172 : decode cX21_read 172 = .ok (.lshl, 1) := by decide +kernel
theorem dX21_read_173 : decode cX21_read 173 = .ok (.aload 5, 2) := by decide +kernel
theorem dX21_read_175 : decode cX21_read 175 = .ok (.invokevirtual 947, 3) := by decide +kernel
theorem dX21_read_178 : decode cX21_read 178 = .ok (.i2l, 1) := by decide +kernel
theorem dX21_read_179 : decode cX21_read 179 = .ok (.lor, 1) := by decide +kernel
theorem dX21_read_180 : decode cX21_read 180 = .ok (.lstore 7, 2) := by decide +kernel
theorem dX21_read_182 : decode cX21_read 182 = .ok (.iinc 9 1, 3) := by decide +kernel
theorem dX21_read_185 : decode cX21_read 185 = .ok (.goto (-24), 3) := by decide +kernel
theorem dX21_read_188 : decode cX21_read 188 = .ok (.iload 6, 2) := by decide +kernel
theorem dX21_read_190 : decode cX21_read 190 = .ok (.ifCond .le 24, 3) := by decide +kernel
theorem dX21_read_193 : decode cX21_read 193 = .ok (.aload_n 0, 1) := by decide +kernel
theorem dX21_read_194 : decode cX21_read 194 = .ok (.aload_n 0, 1) := by decide +kernel
theorem dX21_read_195 : decode cX21_read 195 = .ok (.getfield 45, 3) := by decide +kernel
theorem dX21_read_198 : decode cX21_read 198 = .ok (.iload_n 2, 1) := by decide +kernel
theorem dX21_read_199 : decode cX21_read 199 = .ok (.iconst 2, 1) := by decide +kernel
theorem dX21_read_200 : decode cX21_read 200 = .ok (.if_icmp .ne 7, 3) := by decide +kernel
theorem dX21_read_203 : decode cX21_read 203 = .ok (.iconst 1, 1) := by decide +kernel
theorem dX21_read_204 : decode cX21_read 204 = .ok (.goto 4, 3) := by decide +kernel
theorem dX21_read_207 : decode cX21_read 207 = .ok (.iconst 0, 1) := by decide +kernel
theorem dX21_read_208 : decode cX21_read 208 = .ok (.aaload, 1) := by decide +kernel
theorem dX21_read_209 : decode cX21_read 209 = .ok (.aload 4, 2) := by decide +kernel
theorem dX21_read_211 : decode cX21_read 211 = .ok (.invokevirtual 834, 3) := by decide +kernel
theorem dX21_read_214 : decode cX21_read 214 = .ok (.iload 6, 2) := by decide +kernel
theorem dX21_read_216 : decode cX21_read 216 = .ok (.i2l, 1) := by decide +kernel
theorem dX21_read_217 : decode cX21_read 217 = .ok (.bipush 56, 2) := by decide +kernel
theorem dX21_read_219 : decode cX21_read 219 = .ok (.lshl, 1) := by decide +kernel
theorem dX21_read_220 : decode cX21_read 220 = .ok (.lload 7, 2) := by decide +kernel
theorem dX21_read_222 : decode cX21_read 222 = .ok (.lor, 1) := by decide +kernel
theorem dX21_read_223 : decode cX21_read 223 = .ok (.lreturn, 1) := by decide +kernel
theorem dX21_finish_0 : decode cX21_finish 0 = .ok (.aload_n 0, 1) := by decide +kernel
theorem dX21_finish_1 : decode cX21_finish 1 = .ok (.iconst 0, 1) := by decide +kernel
theorem dX21_finish_2 : decode cX21_finish 2 = .ok (.putfield 145, 3) := by decide +kernel
theorem dX21_finish_5 : decode cX21_finish 5 = .ok (.iload_n 2, 1) := by decide +kernel
theorem dX21_finish_6 : decode cX21_finish 6 = .ok (.ifCond .lt 8, 3) := by decide +kernel
theorem dX21_finish_9 : decode cX21_finish 9 = .ok (.iload_n 2, 1) := by decide +kernel
theorem dX21_finish_10 : decode cX21_finish 10 = .ok (.iconst 2, 1) := by decide +kernel
theorem dX21_finish_11 : decode cX21_finish 11 = .ok (.if_icmp .le 9, 3) := by decide +kernel
theorem dX21_finish_14 : decode cX21_finish 14 = .ok (.aload_n 0, 1) := by decide +kernel
theorem dX21_finish_15 : decode cX21_finish 15 = .ok (.iconst 1, 1) := by decide +kernel
theorem dX21_finish_16 : decode cX21_finish 16 = .ok (.putfield 145, 3) := by decide +kernel
theorem dX21_finish_19 : decode cX21_finish 19 = .ok (.return_, 1) := by decide +kernel
theorem dX21_finish_20 : decode cX21_finish 20 = .ok (.iload_n 2, 1) := by decide +kernel
theorem dX21_finish_21 : decode cX21_finish 21 = .ok (.iconst 2, 1) := by decide +kernel
theorem dX21_finish_22 : decode cX21_finish 22 = .ok (.if_icmp .ne 27, 3) := by decide +kernel
theorem dX21_finish_25 : decode cX21_finish 25 = .ok (.iload_n 1, 1) := by decide +kernel
theorem dX21_finish_26 : decode cX21_finish 26 = .ok (.iconst 1, 1) := by decide +kernel
theorem dX21_finish_27 : decode cX21_finish 27 = .ok (.if_icmp .lt 10, 3) := by decide +kernel
theorem dX21_finish_30 : decode cX21_finish 30 = .ok (.iload_n 1, 1) := by decide +kernel
theorem dX21_finish_31 : decode cX21_finish 31 = .ok (.ldc_w 938, 3) := by decide +kernel
theorem dX21_finish_34 : decode cX21_finish 34 = .ok (.if_icmp .le 7, 3) := by decide +kernel
theorem dX21_finish_37 : decode cX21_finish 37 = .ok (.aconst_null, 1) := by decide +kernel
theorem dX21_finish_38 : decode cX21_finish 38 = .ok (.goto 16, 3) := by decide +kernel
theorem dX21_finish_41 : decode cX21_finish 41 = .ok (.aload_n 0, 1) := by decide +kernel
theorem dX21_finish_42 : decode cX21_finish 42 = .ok (.iload_n 1, 1) := by decide +kernel
theorem dX21_finish_43 : decode cX21_finish 43 = .ok (.invokevirtual 726, 3) := by decide +kernel
theorem dX21_finish_46 : decode cX21_finish 46 = .ok (.goto 8, 3) := by decide +kernel
theorem dX21_finish_49 : decode cX21_finish 49 = .ok (.aload_n 0, 1) := by decide +kernel
theorem dX21_finish_50 : decode cX21_finish 50 = .ok (.iload_n 1, 1) := by decide +kernel
theorem dX21_finish_51 : decode cX21_finish 51 = .ok (.invokevirtual 954, 3) := by decide +kernel
theorem dX21_finish_54 : decode cX21_finish 54 = .ok (.astore_n 3, 1) := by decide +kernel
theorem dX21_finish_55 : decode cX21_finish 55 = .ok (.aload_n 3, 1) := by decide +kernel
theorem dX21_finish_56 : decode cX21_finish 56 = .ok (.ifnonnull 9, 3) := by decide +kernel
theorem dX21_finish_59 : decode cX21_finish 59 = .ok (.aload_n 0, 1) := by decide +kernel
theorem dX21_finish_60 : decode cX21_finish 60 = .ok (.iconst 1, 1) := by decide +kernel
theorem dX21_finish_61 : decode cX21_finish 61 = .ok (.putfield 145, 3) := by decide +kernel
theorem dX21_finish_64 : decode cX21_finish 64 = .ok (.return_, 1) := by decide +kernel
theorem dX21_finish_65 : decode cX21_finish 65 = .ok (.iload_n 2, 1) := by decide +kernel
theorem dX21_finish_66 : decode cX21_finish 66 = .ok (.iconst 1, 1) := by decide +kernel
theorem dX21_finish_67 : decode cX21_finish 67 = .ok (.if_icmp .ne 20, 3) := by decide +kernel
theorem dX21_finish_70 : decode cX21_finish 70 = .ok (.aload_n 3, 1) := by decide +kernel
theorem dX21_finish_71 : decode cX21_finish 71 = .ok (.getfield 803, 3) := by decide +kernel
theorem dX21_finish_74 : decode cX21_finish 74 = .ok (.ifCond .ne 38, 3) := by decide +kernel
theorem dX21_finish_77 : decode cX21_finish 77 = .ok (.aload_n 3, 1) := by decide +kernel
theorem dX21_finish_78 : decode cX21_finish 78 = .ok (.getfield 798, 3) := by decide +kernel
theorem dX21_finish_81 : decode cX21_finish 81 = .ok (.ifCond .eq 37, 3) := by decide +kernel
theorem dX21_finish_84 : decode cX21_finish 84 = .ok (.goto 28, 3) := by decide +kernel
theorem dX21_finish_87 : decode cX21_finish 87 = .ok (.aload_n 3, 1) := by decide +kernel
theorem dX21_finish_88 : decode cX21_finish 88 = .ok (.getfield 824, 3) := by decide +kernel
theorem dX21_finish_91 : decode cX21_finish 91 = .ok (.ifCond .ne 21, 3) := by decide +kernel
theorem dX21_finish_94 : decode cX21_finish 94 = .ok (.iload_n 2, 1) := by decide +kernel
theorem dX21_finish_95 : decode cX21_finish 95 = .ok (.ifCond .ne 23, 3) := by decide +kernel
theorem dX21_finish_98 : decode cX21_finish 98 = .ok (.aload_n 3, 1) := by decide +kernel
theorem dX21_finish_99 : decode cX21_finish 99 = .ok (.getfield 803, 3) := by decide +kernel
theorem dX21_finish_102 : decode cX21_finish 102 = .ok (.ifCond .ne 10, 3) := by decide +kernel
theorem dX21_finish_105 : decode cX21_finish 105 = .ok (.aload_n 3, 1) := by decide +kernel
theorem dX21_finish_106 : decode cX21_finish 106 = .ok (.getfield 798, 3) := by decide +kernel
theorem dX21_finish_109 : decode cX21_finish 109 = .ok (.ifCond .eq 9, 3) := by decide +kernel
theorem dX21_finish_112 : decode cX21_finish 112 = .ok (.aload_n 0, 1) := by decide +kernel
theorem dX21_finish_113 : decode cX21_finish 113 = .ok (.iconst 2, 1) := by decide +kernel
theorem dX21_finish_114 : decode cX21_finish 114 = .ok (.putfield 145, 3) := by decide +kernel
theorem dX21_finish_117 : decode cX21_finish 117 = .ok (.return_, 1) := by decide +kernel
theorem dX21_finish_118 : decode cX21_finish 118 = .ok (.iload_n 2, 1) := by decide +kernel
theorem dX21_finish_119 : decode cX21_finish 119 = .ok (.iconst 1, 1) := by decide +kernel
theorem dX21_finish_120 : decode cX21_finish 120 = .ok (.if_icmp .ne 35, 3) := by decide +kernel
theorem dX21_finish_123 : decode cX21_finish 123 = .ok (.aload_n 3, 1) := by decide +kernel
theorem dX21_finish_124 : decode cX21_finish 124 = .ok (.iconst 1, 1) := by decide +kernel
theorem dX21_finish_125 : decode cX21_finish 125 = .ok (.putfield 798, 3) := by decide +kernel
theorem dX21_finish_128 : decode cX21_finish 128 = .ok (.aload_n 3, 1) := by decide +kernel
theorem dX21_finish_129 : decode cX21_finish 129 = .ok (.getfield 800, 3) := by decide +kernel
theorem dX21_finish_132 : decode cX21_finish 132 = .ok (.invokevirtual 171, 3) := by decide +kernel
theorem dX21_finish_135 : decode cX21_finish 135 = .ok (.aload_n 3, 1) := by decide +kernel
theorem dX21_finish_136 : decode cX21_finish 136 = .ok (.getfield 710, 3) := by decide +kernel
theorem dX21_finish_139 : decode cX21_finish 139 = .ok (.iconst 1, 1) := by decide +kernel
theorem dX21_finish_140 : decode cX21_finish 140 = .ok (.if_icmp .ne 14, 3) := by decide +kernel
theorem dX21_finish_143 : decode cX21_finish 143 = .ok (.aload_n 0, 1) := by decide +kernel
theorem dX21_finish_144 : decode cX21_finish 144 = .ok (.aload_n 0, 1) := by decide +kernel
theorem dX21_finish_145 : decode cX21_finish 145 = .ok (.getfield 45, 3) := by decide +kernel
theorem dX21_finish_148 : decode cX21_finish 148 = .ok (.iconst 0, 1) := by decide +kernel
theorem dX21_finish_149 : decode cX21_finish 149 = .ok (.aaload, 1) := by decide +kernel
theorem dX21_finish_150 : decode cX21_finish 150 = .ok (.aload_n 3, 1) := by decide +kernel
theorem dX21_finish_151 : decode cX21_finish 151 = .ok (.invokevirtual 781, 3) := by decide +kernel
theorem dX21_finish_154 : decode cX21_finish 154 = .ok (.return_, 1) := by decide +kernel
theorem dX21_finish_155 : decode cX21_finish 155 = .ok (.aload_n 3, 1) := by decide +kernel
theorem dX21_finish_156 : decode cX21_finish 156 = .ok (.iconst 1, 1) := by decide +kernel
theorem dX21_finish_157 : decode cX21_finish 157 = .ok (.putfield 824, 3) := by decide +kernel
theorem dX21_finish_160 : decode cX21_finish 160 = .ok (.aload_n 0, 1) := by decide +kernel
theorem dX21_finish_161 : decode cX21_finish 161 = .ok (.aload_n 0, 1) := by decide +kernel
theorem dX21_finish_162 : decode cX21_finish 162 = .ok (.getfield 45, 3) := by decide +kernel
theorem dX21_finish_165 : decode cX21_finish 165 = .ok (.iload_n 2, 1) := by decide +kernel
theorem dX21_finish_166 : decode cX21_finish 166 = .ok (.iconst 2, 1) := by decide +kernel
theorem dX21_finish_167 : decode cX21_finish 167 = .ok (.if_icmp .ne 7, 3) := by decide +kernel
theorem dX21_finish_170 : decode cX21_finish 170 = .ok (.iconst 1, 1) := by decide +kernel
theorem dX21_finish_171 : decode cX21_finish 171 = .ok (.goto 4, 3) := by decide +kernel
theorem dX21_finish_174 : decode cX21_finish 174 = .ok (.iconst 0, 1) := by decide +kernel
theorem dX21_finish_175 : decode cX21_finish 175 = .ok (.aaload, 1) := by decide +kernel
theorem dX21_finish_176 : decode cX21_finish 176 = .ok (.aload_n 3, 1) := by decide +kernel
theorem dX21_finish_177 : decode cX21_finish 177 = .ok (.invokevirtual 764, 3) := by decide +kernel
theorem dX21_finish_180 : decode cX21_finish 180 = .ok (.return_, 1) := by decide +kernel
theorem dX21_rekey_0 : decode cX21_rekey 0 = .ok (.aload_n 0, 1) := by decide +kernel
theorem dX21_rekey_1 : decode cX21_rekey 1 = .ok (.iload_n 1, 1) := by decide +kernel
theorem dX21_rekey_2 : decode cX21_rekey 2 = .ok (.invokestatic 934, 3) := by decide +kernel
theorem dX21_rekey_5 : decode cX21_rekey 5 = .ok (.ifCond .eq 7, 3) := by decide +kernel
theorem dX21_rekey_8 : decode cX21_rekey 8 = .ok (.iconst 1, 1) := by decide +kernel
theorem dX21_rekey_9 : decode cX21_rekey 9 = .ok (.goto 45, 3) := by decide +kernel
theorem dX21_rekey_12 : decode cX21_rekey 12 = .ok (.aload_n 0, 1) := by decide +kernel
theorem dX21_rekey_13 : decode cX21_rekey 13 = .ok (.getfield 45, 3) := by decide +kernel
theorem dX21_rekey_16 : decode cX21_rekey 16 = .ok (.iload_n 1, 1) := by decide +kernel
theorem dX21_rekey_17 : decode cX21_rekey 17 = .ok (.aaload, 1) := by decide +kernel
theorem dX21_rekey_18 : decode cX21_rekey 18 = .ok (.getfield 195, 3) := by decide +kernel
theorem dX21_rekey_21 : decode cX21_rekey 21 = .ok (.iconst 1, 1) := by decide +kernel
theorem dX21_rekey_22 : decode cX21_rekey 22 = .ok (.if_icmp .ne 27, 3) := by decide +kernel
theorem dX21_rekey_25 : decode cX21_rekey 25 = .ok (.aload_n 0, 1) := by decide +kernel
theorem dX21_rekey_26 : decode cX21_rekey 26 = .ok (.getfield 45, 3) := by decide +kernel
theorem dX21_rekey_29 : decode cX21_rekey 29 = .ok (.iload_n 1, 1) := by decide +kernel
theorem dX21_rekey_30 : decode cX21_rekey 30 = .ok (.aaload, 1) := by decide +kernel
theorem dX21_rekey_31 : decode cX21_rekey 31 = .ok (.getfield 265, 3) := by decide +kernel
theorem dX21_rekey_34 : decode cX21_rekey 34 = .ok (.ifCond .eq 15, 3) := by decide +kernel
theorem dX21_rekey_37 : decode cX21_rekey 37 = .ok (.aload_n 0, 1) := by decide +kernel
theorem dX21_rekey_38 : decode cX21_rekey 38 = .ok (.getfield 45, 3) := by decide +kernel
theorem dX21_rekey_41 : decode cX21_rekey 41 = .ok (.iload_n 1, 1) := by decide +kernel
theorem dX21_rekey_42 : decode cX21_rekey 42 = .ok (.aaload, 1) := by decide +kernel
theorem dX21_rekey_43 : decode cX21_rekey 43 = .ok (.invokestatic 268, 3) := by decide +kernel
theorem dX21_rekey_46 : decode cX21_rekey 46 = .ok (.ifCond .ne 7, 3) := by decide +kernel
theorem dX21_rekey_49 : decode cX21_rekey 49 = .ok (.iconst 2, 1) := by decide +kernel
theorem dX21_rekey_50 : decode cX21_rekey 50 = .ok (.goto 4, 3) := by decide +kernel
theorem dX21_rekey_53 : decode cX21_rekey 53 = .ok (.iconst 0, 1) := by decide +kernel
theorem dX21_rekey_54 : decode cX21_rekey 54 = .ok (.putfield 145, 3) := by decide +kernel
theorem dX21_rekey_57 : decode cX21_rekey 57 = .ok (.aload_n 0, 1) := by decide +kernel
theorem dX21_rekey_58 : decode cX21_rekey 58 = .ok (.getfield 145, 3) := by decide +kernel
theorem dX21_rekey_61 : decode cX21_rekey 61 = .ok (.ifCond .ne 13, 3) := by decide +kernel
theorem dX21_rekey_64 : decode cX21_rekey 64 = .ok (.aload_n 0, 1) := by decide +kernel
theorem dX21_rekey_65 : decode cX21_rekey 65 = .ok (.aload_n 0, 1) := by decide +kernel
theorem dX21_rekey_66 : decode cX21_rekey 66 = .ok (.getfield 45, 3) := by decide +kernel
theorem dX21_rekey_69 : decode cX21_rekey 69 = .ok (.iload_n 1, 1) := by decide +kernel
theorem dX21_rekey_70 : decode cX21_rekey 70 = .ok (.aaload, 1) := by decide +kernel
theorem dX21_rekey_71 : decode cX21_rekey 71 = .ok (.invokevirtual 275, 3) := by decide +kernel
theorem dX21_rekey_74 : decode cX21_rekey 74 = .ok (.return_, 1) := by decide +kernel
theorem dX21_quit_0 : decode cX21_quit 0 = .ok (.aload_n 0, 1) := by decide +kernel
theorem dX21_quit_1 : decode cX21_quit 1 = .ok (.iload_n 1, 1) := by decide +kernel
theorem dX21_quit_2 : decode cX21_quit 2 = .ok (.invokestatic 934, 3) := by decide +kernel
theorem dX21_quit_5 : decode cX21_quit 5 = .ok (.ifCond .eq 7, 3) := by decide +kernel
theorem dX21_quit_8 : decode cX21_quit 8 = .ok (.iconst 1, 1) := by decide +kernel
theorem dX21_quit_9 : decode cX21_quit 9 = .ok (.goto 21, 3) := by decide +kernel
theorem dX21_quit_12 : decode cX21_quit 12 = .ok (.aload_n 0, 1) := by decide +kernel
theorem dX21_quit_13 : decode cX21_quit 13 = .ok (.getfield 45, 3) := by decide +kernel
theorem dX21_quit_16 : decode cX21_quit 16 = .ok (.iload_n 1, 1) := by decide +kernel
theorem dX21_quit_17 : decode cX21_quit 17 = .ok (.aaload, 1) := by decide +kernel
theorem dX21_quit_18 : decode cX21_quit 18 = .ok (.getfield 195, 3) := by decide +kernel
theorem dX21_quit_21 : decode cX21_quit 21 = .ok (.iconst 1, 1) := by decide +kernel
theorem dX21_quit_22 : decode cX21_quit 22 = .ok (.if_icmp .eq 7, 3) := by decide +kernel
theorem dX21_quit_25 : decode cX21_quit 25 = .ok (.iconst 2, 1) := by decide +kernel
theorem dX21_quit_26 : decode cX21_quit 26 = .ok (.goto 4, 3) := by decide +kernel
theorem dX21_quit_29 : decode cX21_quit 29 = .ok (.iconst 0, 1) := by decide +kernel
theorem dX21_quit_30 : decode cX21_quit 30 = .ok (.putfield 145, 3) := by decide +kernel
theorem dX21_quit_33 : decode cX21_quit 33 = .ok (.aload_n 0, 1) := by decide +kernel
theorem dX21_quit_34 : decode cX21_quit 34 = .ok (.getfield 145, 3) := by decide +kernel
theorem dX21_quit_37 : decode cX21_quit 37 = .ok (.ifCond .ne 16, 3) := by decide +kernel
theorem dX21_quit_40 : decode cX21_quit 40 = .ok (.aload_n 0, 1) := by decide +kernel
theorem dX21_quit_41 : decode cX21_quit 41 = .ok (.aload_n 0, 1) := by decide +kernel
theorem dX21_quit_42 : decode cX21_quit 42 = .ok (.getfield 45, 3) := by decide +kernel
theorem dX21_quit_45 : decode cX21_quit 45 = .ok (.iload_n 1, 1) := by decide +kernel
theorem dX21_quit_46 : decode cX21_quit 46 = .ok (.aaload, 1) := by decide +kernel
theorem dX21_quit_47 : decode cX21_quit 47 = .ok (.bipush 11, 2) := by decide +kernel
theorem dX21_quit_49 : decode cX21_quit 49 = .ok (.iconst 3, 1) := by decide +kernel
theorem dX21_quit_50 : decode cX21_quit 50 = .ok (.invokevirtual 285, 3) := by decide +kernel
theorem dX21_quit_53 : decode cX21_quit 53 = .ok (.return_, 1) := by decide +kernel
theorem dX21_about_0 : decode cX21_about 0 = .ok (.aload_n 0, 1) := by decide +kernel
theorem dX21_about_1 : decode cX21_about 1 = .ok (.iconst 0, 1) := by decide +kernel
theorem dX21_about_2 : decode cX21_about 2 = .ok (.putfield 145, 3) := by decide +kernel
theorem dX21_about_5 : decode cX21_about 5 = .ok (.iload_n 1, 1) := by decide +kernel
theorem dX21_about_6 : decode cX21_about 6 = .ok (.invokestatic 934, 3) := by decide +kernel
theorem dX21_about_9 : decode cX21_about 9 = .ok (.ifCond .eq 9, 3) := by decide +kernel
theorem dX21_about_12 : decode cX21_about 12 = .ok (.aload_n 0, 1) := by decide +kernel
theorem dX21_about_13 : decode cX21_about 13 = .ok (.iconst 1, 1) := by decide +kernel
theorem dX21_about_14 : decode cX21_about 14 = .ok (.invokevirtual 926, 3) := by decide +kernel
theorem dX21_about_17 : decode cX21_about 17 = .ok (.ireturn, 1) := by decide +kernel
theorem dX21_about_18 : decode cX21_about 18 = .ok (.aload_n 0, 1) := by decide +kernel
theorem dX21_about_19 : decode cX21_about 19 = .ok (.getfield 45, 3) := by decide +kernel
theorem dX21_about_22 : decode cX21_about 22 = .ok (.iload_n 1, 1) := by decide +kernel
theorem dX21_about_23 : decode cX21_about 23 = .ok (.aaload, 1) := by decide +kernel
theorem dX21_about_24 : decode cX21_about 24 = .ok (.astore_n 3, 1) := by decide +kernel
theorem dX21_about_25 : decode cX21_about 25 = .ok (.iconst 0, 1) := by decide +kernel
theorem dX21_about_26 : decode cX21_about 26 = .ok (.istore 4, 2) := by decide +kernel
theorem dX21_about_28 : decode cX21_about 28 = .ok (.iload_n 2, 1) := by decide +kernel
theorem dX21_about_29 : decode cX21_about 29 = .ok (.tableswitch 237 0 12 #[67, 72, 77, 82, 87, 92, 102, 110, 118, 131, 166, 171, 232], 67) := by decide +kernel
theorem dX21_about_96 : decode cX21_about 96 = .ok (.aload_n 3, 1) := by decide +kernel
theorem dX21_about_97 : decode cX21_about 97 = .ok (.getfield 195, 3) := by decide +kernel
theorem dX21_about_100 : decode cX21_about 100 = .ok (.ireturn, 1) := by decide +kernel
theorem dX21_about_101 : decode cX21_about 101 = .ok (.aload_n 3, 1) := by decide +kernel
theorem dX21_about_102 : decode cX21_about 102 = .ok (.getfield 229, 3) := by decide +kernel
theorem dX21_about_105 : decode cX21_about 105 = .ok (.ireturn, 1) := by decide +kernel
theorem dX21_about_106 : decode cX21_about 106 = .ok (.aload_n 3, 1) := by decide +kernel
theorem dX21_about_107 : decode cX21_about 107 = .ok (.getfield 234, 3) := by decide +kernel
theorem dX21_about_110 : decode cX21_about 110 = .ok (.ireturn, 1) := by decide +kernel
theorem dX21_about_111 : decode cX21_about 111 = .ok (.aload_n 3, 1) := by decide +kernel
theorem dX21_about_112 : decode cX21_about 112 = .ok (.getfield 586, 3) := by decide +kernel
theorem dX21_about_115 : decode cX21_about 115 = .ok (.ireturn, 1) := by decide +kernel
theorem dX21_about_116 : decode cX21_about 116 = .ok (.aload_n 3, 1) := by decide +kernel
theorem dX21_about_117 : decode cX21_about 117 = .ok (.getfield 265, 3) := by decide +kernel
theorem dX21_about_120 : decode cX21_about 120 = .ok (.ireturn, 1) := by decide +kernel
theorem dX21_about_121 : decode cX21_about 121 = .ok (.aload_n 0, 1) := by decide +kernel
theorem dX21_about_122 : decode cX21_about 122 = .ok (.getfield 55, 3) := by decide +kernel
theorem dX21_about_125 : decode cX21_about 125 = .ok (.iload_n 1, 1) := by decide +kernel
theorem dX21_about_126 : decode cX21_about 126 = .ok (.aaload, 1) := by decide +kernel
theorem dX21_about_127 : decode cX21_about 127 = .ok (.invokevirtual 224, 3) := by decide +kernel
theorem dX21_about_130 : decode cX21_about 130 = .ok (.ireturn, 1) := by decide +kernel
theorem dX21_about_131 : decode cX21_about 131 = .ok (.aload_n 3, 1) := by decide +kernel
theorem dX21_about_132 : decode cX21_about 132 = .ok (.getfield 198, 3) := by decide +kernel
theorem dX21_about_135 : decode cX21_about 135 = .ok (.getfield 202, 3) := by decide +kernel
theorem dX21_about_138 : decode cX21_about 138 = .ok (.ireturn, 1) := by decide +kernel
theorem dX21_about_139 : decode cX21_about 139 = .ok (.aload_n 3, 1) := by decide +kernel
theorem dX21_about_140 : decode cX21_about 140 = .ok (.getfield 198, 3) := by decide +kernel
theorem dX21_about_143 : decode cX21_about 143 = .ok (.getfield 169, 3) := by decide +kernel
theorem dX21_about_146 : decode cX21_about 146 = .ok (.ireturn, 1) := by decide +kernel
theorem dX21_about_147 : decode cX21_about 147 = .ok (.aload_n 3, 1) := by decide +kernel
theorem dX21_about_148 : decode cX21_about 148 = .ok (.getfield 607, 3) := by decide +kernel
theorem dX21_about_151 : decode cX21_about 151 = .ok (.ifCond .eq 7, 3) := by decide +kernel
theorem dX21_about_154 : decode cX21_about 154 = .ok (.iconst 1, 1) := by decide +kernel
theorem dX21_about_155 : decode cX21_about 155 = .ok (.goto 4, 3) := by decide +kernel
theorem dX21_about_158 : decode cX21_about 158 = .ok (.iconst 0, 1) := by decide +kernel
theorem dX21_about_159 : decode cX21_about 159 = .ok (.ireturn, 1) := by decide +kernel
theorem dX21_about_160 : decode cX21_about 160 = .ok (.iconst 0, 1) := by decide +kernel
theorem dX21_about_161 : decode cX21_about 161 = .ok (.istore 5, 2) := by decide +kernel
theorem dX21_about_163 : decode cX21_about 163 = .ok (.iload 5, 2) := by decide +kernel
theorem dX21_about_165 : decode cX21_about 165 = .ok (.bipush 16, 2) := by decide +kernel
theorem dX21_about_167 : decode cX21_about 167 = .ok (.if_icmp .ge 25, 3) := by decide +kernel
theorem dX21_about_170 : decode cX21_about 170 = .ok (.aload_n 3, 1) := by decide +kernel
theorem dX21_about_171 : decode cX21_about 171 = .ok (.getfield 706, 3) := by decide +kernel
theorem dX21_about_174 : decode cX21_about 174 = .ok (.iload 5, 2) := by decide +kernel
theorem dX21_about_176 : decode cX21_about 176 = .ok (.aaload, 1) := by decide +kernel
theorem dX21_about_177 : decode cX21_about 177 = .ok (.invokestatic 720, 3) := by decide +kernel
theorem dX21_about_180 : decode cX21_about 180 = .ok (.ifCond .eq 6, 3) := by decide +kernel
theorem dX21_about_183 : decode cX21_about 183 = .ok (.iinc 4 1, 3) := by decide +kernel
theorem dX21_about_186 : decode cX21_about 186 = .ok (.iinc 5 1, 3) := by decide +kernel
theorem dX21_about_189 : decode cX21_about 189 = .ok (.goto (-26), 3) := by decide +kernel
theorem dX21_about_192 : decode cX21_about 192 = .ok (.iload 4, 2) := by decide +kernel
theorem dX21_about_194 : decode cX21_about 194 = .ok (.ireturn, 1) := by decide +kernel
theorem dX21_about_195 : decode cX21_about 195 = .ok (.aload_n 3, 1) := by decide +kernel
theorem dX21_about_196 : decode cX21_about 196 = .ok (.getfield 655, 3) := by decide +kernel
theorem dX21_about_199 : decode cX21_about 199 = .ok (.ireturn, 1) := by decide +kernel
theorem dX21_about_200 : decode cX21_about 200 = .ok (.aload_n 0, 1) := by decide +kernel
theorem dX21_about_201 : decode cX21_about 201 = .ok (.aload_n 3, 1) := by decide +kernel
theorem dX21_about_202 : decode cX21_about 202 = .ok (.invokevirtual 502, 3) := by decide +kernel
theorem dX21_about_205 : decode cX21_about 205 = .ok (.astore 5, 2) := by decide +kernel
theorem dX21_about_207 : decode cX21_about 207 = .ok (.aload 5, 2) := by decide +kernel
theorem dX21_about_209 : decode cX21_about 209 = .ok (.ifnonnull 7, 3) := by decide +kernel
theorem dX21_about_212 : decode cX21_about 212 = .ok (.iconst 0, 1) := by decide +kernel
theorem dX21_about_213 : decode cX21_about 213 = .ok (.goto 47, 3) := by decide +kernel
theorem dX21_about_216 : decode cX21_about 216 = .ok (.aload 5, 2) := by decide +kernel
theorem dX21_about_218 : decode cX21_about 218 = .ok (.iconst 0, 1) := by decide +kernel
theorem dX21_about_219 : decode cX21_about 219 = .ok (.baload, 1) := by decide +kernel
theorem dX21_about_220 : decode cX21_about 220 = .ok (.sipush 255, 3) := by decide +kernel
theorem dX21_about_223 : decode cX21_about 223 = .ok (.iand, 1) := by decide +kernel
theorem dX21_about_224 : decode cX21_about 224 = .ok (.bipush 24, 2) := by decide +kernel
theorem dX21_about_226 : decode cX21_about 226 = .ok (.ishl, 1) := by decide +kernel
theorem dX21_about_227 : decode cX21_about 227 = .ok (.aload 5, 2) := by decide +kernel
theorem dX21_about_229 : decode cX21_about 229 = .ok (.iconst 1, 1) := by decide +kernel
theorem dX21_about_230 : decode cX21_about 230 = .ok (.baload, 1) := by decide +kernel
theorem dX21_about_231 : decode cX21_about 231 = .ok (.sipush 255, 3) := by decide +kernel
theorem dX21_about_234 : decode cX21_about 234 = .ok (.iand, 1) := by decide +kernel
theorem dX21_about_235 : decode cX21_about 235 = .ok (.bipush 16, 2) := by decide +kernel
theorem dX21_about_237 : decode cX21_about 237 = .ok (.ishl, 1) := by decide +kernel
theorem dX21_about_238 : decode cX21_about 238 = .ok (.ior, 1) := by decide +kernel
theorem dX21_about_239 : decode cX21_about 239 = .ok (.aload 5, 2) := by decide +kernel
theorem dX21_about_241 : decode cX21_about 241 = .ok (.iconst 2, 1) := by decide +kernel
theorem dX21_about_242 : decode cX21_about 242 = .ok (.baload, 1) := by decide +kernel
theorem dX21_about_243 : decode cX21_about 243 = .ok (.sipush 255, 3) := by decide +kernel
theorem dX21_about_246 : decode cX21_about 246 = .ok (.iand, 1) := by decide +kernel
theorem dX21_about_247 : decode cX21_about 247 = .ok (.bipush 8, 2) := by decide +kernel
theorem dX21_about_249 : decode cX21_about 249 = .ok (.ishl, 1) := by decide +kernel
theorem dX21_about_250 : decode cX21_about 250 = .ok (.ior, 1) := by decide +kernel
theorem dX21_about_251 : decode cX21_about 251 = .ok (.aload 5, 2) := by decide +kernel
theorem dX21_about_253 : decode cX21_about 253 = .ok (.iconst 3, 1) := by decide +kernel
theorem dX21_about_254 : decode cX21_about 254 = .ok (.baload, 1) := by decide +kernel
theorem dX21_about_255 : decode cX21_about 255 = .ok (.sipush 255, 3) := by decide +kernel
theorem dX21_about_258 : decode cX21_about 258 = .ok (.iand, 1) := by decide +kernel
theorem dX21_about_259 : decode cX21_about 259 = .ok (.ior, 1) := by decide +kernel
theorem dX21_about_260 : decode cX21_about 260 = .ok (.ireturn, 1) := by decide +kernel
theorem dX21_about_261 : decode cX21_about 261 = .ok (.aload_n 0, 1) := by decide +kernel
theorem dX21_about_262 : decode cX21_about 262 = .ok (.getfield 861, 3) := by decide +kernel
theorem dX21_about_265 : decode cX21_about 265 = .ok (.ireturn, 1) := by decide +kernel
theorem dX21_about_266 : decode cX21_about 266 = .ok (.aload_n 0, 1) := by decide +kernel
theorem dX21_about_267 : decode cX21_about 267 = .ok (.iconst 2, 1) := by decide +kernel
theorem dX21_about_268 : decode cX21_about 268 = .ok (.invokevirtual 926, 3) := by decide +kernel
theorem dX21_about_271 : decode cX21_about 271 = .ok (.ireturn, 1) := by decide +kernel
theorem dX21_channel_0 : decode cX21_channel 0 = .ok (.aload_n 0, 1) := by decide +kernel
theorem dX21_channel_1 : decode cX21_channel 1 = .ok (.iconst 0, 1) := by decide +kernel
theorem dX21_channel_2 : decode cX21_channel 2 = .ok (.putfield 145, 3) := by decide +kernel
theorem dX21_channel_5 : decode cX21_channel 5 = .ok (.iload_n 1, 1) := by decide +kernel
theorem dX21_channel_6 : decode cX21_channel 6 = .ok (.ifCond .lt 26, 3) := by decide +kernel
theorem dX21_channel_9 : decode cX21_channel 9 = .ok (.iload_n 1, 1) := by decide +kernel
theorem dX21_channel_10 : decode cX21_channel 10 = .ok (.bipush 15, 2) := by decide +kernel
theorem dX21_channel_12 : decode cX21_channel 12 = .ok (.if_icmp .gt 20, 3) := by decide +kernel
theorem dX21_channel_15 : decode cX21_channel 15 = .ok (.aload_n 0, 1) := by decide +kernel
theorem dX21_channel_16 : decode cX21_channel 16 = .ok (.getfield 45, 3) := by decide +kernel
theorem dX21_channel_19 : decode cX21_channel 19 = .ok (.iconst 0, 1) := by decide +kernel
theorem dX21_channel_20 : decode cX21_channel 20 = .ok (.aaload, 1) := by decide +kernel
theorem dX21_channel_21 : decode cX21_channel 21 = .ok (.getfield 706, 3) := by decide +kernel
theorem dX21_channel_24 : decode cX21_channel 24 = .ok (.iload_n 1, 1) := by decide +kernel
theorem dX21_channel_25 : decode cX21_channel 25 = .ok (.aaload, 1) := by decide +kernel
theorem dX21_channel_26 : decode cX21_channel 26 = .ok (.getfield 710, 3) := by decide +kernel
theorem dX21_channel_29 : decode cX21_channel 29 = .ok (.ifCond .ge 9, 3) := by decide +kernel
theorem dX21_channel_32 : decode cX21_channel 32 = .ok (.aload_n 0, 1) := by decide +kernel
theorem dX21_channel_33 : decode cX21_channel 33 = .ok (.iconst 1, 1) := by decide +kernel
theorem dX21_channel_34 : decode cX21_channel 34 = .ok (.invokevirtual 926, 3) := by decide +kernel
theorem dX21_channel_37 : decode cX21_channel 37 = .ok (.ireturn, 1) := by decide +kernel
theorem dX21_channel_38 : decode cX21_channel 38 = .ok (.aload_n 0, 1) := by decide +kernel
theorem dX21_channel_39 : decode cX21_channel 39 = .ok (.getfield 45, 3) := by decide +kernel
theorem dX21_channel_42 : decode cX21_channel 42 = .ok (.iconst 0, 1) := by decide +kernel
theorem dX21_channel_43 : decode cX21_channel 43 = .ok (.aaload, 1) := by decide +kernel
theorem dX21_channel_44 : decode cX21_channel 44 = .ok (.getfield 706, 3) := by decide +kernel
theorem dX21_channel_47 : decode cX21_channel 47 = .ok (.iload_n 1, 1) := by decide +kernel
theorem dX21_channel_48 : decode cX21_channel 48 = .ok (.aaload, 1) := by decide +kernel
theorem dX21_channel_49 : decode cX21_channel 49 = .ok (.astore_n 3, 1) := by decide +kernel
theorem dX21_channel_50 : decode cX21_channel 50 = .ok (.iload_n 2, 1) := by decide +kernel
theorem dX21_channel_51 : decode cX21_channel 51 = .ok (.tableswitch 138 0 10 #[57, 62, 67, 72, 80, 88, 96, 102, 108, 128, 133], 57) := by decide +kernel
theorem dX21_channel_108 : decode cX21_channel 108 = .ok (.aload_n 3, 1) := by decide +kernel
theorem dX21_channel_109 : decode cX21_channel 109 = .ok (.getfield 710, 3) := by decide +kernel
theorem dX21_channel_112 : decode cX21_channel 112 = .ok (.ireturn, 1) := by decide +kernel
theorem dX21_channel_113 : decode cX21_channel 113 = .ok (.aload_n 3, 1) := by decide +kernel
theorem dX21_channel_114 : decode cX21_channel 114 = .ok (.getfield 802, 3) := by decide +kernel
theorem dX21_channel_117 : decode cX21_channel 117 = .ok (.ireturn, 1) := by decide +kernel
theorem dX21_channel_118 : decode cX21_channel 118 = .ok (.aload_n 3, 1) := by decide +kernel
theorem dX21_channel_119 : decode cX21_channel 119 = .ok (.getfield 829, 3) := by decide +kernel
theorem dX21_channel_122 : decode cX21_channel 122 = .ok (.ireturn, 1) := by decide +kernel
theorem dX21_channel_123 : decode cX21_channel 123 = .ok (.aload_n 3, 1) := by decide +kernel
theorem dX21_channel_124 : decode cX21_channel 124 = .ok (.getfield 840, 3) := by decide +kernel
theorem dX21_channel_127 : decode cX21_channel 127 = .ok (.invokevirtual 224, 3) := by decide +kernel
theorem dX21_channel_130 : decode cX21_channel 130 = .ok (.ireturn, 1) := by decide +kernel
theorem dX21_channel_131 : decode cX21_channel 131 = .ok (.aload_n 3, 1) := by decide +kernel
theorem dX21_channel_132 : decode cX21_channel 132 = .ok (.getfield 837, 3) := by decide +kernel
theorem dX21_channel_135 : decode cX21_channel 135 = .ok (.invokevirtual 224, 3) := by decide +kernel
theorem dX21_channel_138 : decode cX21_channel 138 = .ok (.ireturn, 1) := by decide +kernel
theorem dX21_channel_139 : decode cX21_channel 139 = .ok (.aload_n 3, 1) := by decide +kernel
theorem dX21_channel_140 : decode cX21_channel 140 = .ok (.getfield 800, 3) := by decide +kernel
theorem dX21_channel_143 : decode cX21_channel 143 = .ok (.invokevirtual 224, 3) := by decide +kernel
theorem dX21_channel_146 : decode cX21_channel 146 = .ok (.ireturn, 1) := by decide +kernel
theorem dX21_channel_147 : decode cX21_channel 147 = .ok (.aload_n 3, 1) := by decide +kernel
theorem dX21_channel_148 : decode cX21_channel 148 = .ok (.getfield 735, 3) := by decide +kernel
theorem dX21_channel_151 : decode cX21_channel 151 = .ok (.l2i, 1) := by decide +kernel
theorem dX21_channel_152 : decode cX21_channel 152 = .ok (.ireturn, 1) := by decide +kernel
theorem dX21_channel_153 : decode cX21_channel 153 = .ok (.aload_n 3, 1) := by decide +kernel
theorem dX21_channel_154 : decode cX21_channel 154 = .ok (.getfield 740, 3) := by decide +kernel
theorem dX21_channel_157 : decode cX21_channel 157 = .ok (.l2i, 1) := by decide +kernel
theorem dX21_channel_158 : decode cX21_channel 158 = .ok (.ireturn, 1) := by decide +kernel
theorem dX21_channel_159 : decode cX21_channel 159 = .ok (.aload_n 3, 1) := by decide +kernel
theorem dX21_channel_160 : decode cX21_channel 160 = .ok (.getfield 772, 3) := by decide +kernel
theorem dX21_channel_163 : decode cX21_channel 163 = .ok (.ifCond .ne 10, 3) := by decide +kernel
theorem dX21_channel_166 : decode cX21_channel 166 = .ok (.aload_n 3, 1) := by decide +kernel
theorem dX21_channel_167 : decode cX21_channel 167 = .ok (.getfield 761, 3) := by decide +kernel
theorem dX21_channel_170 : decode cX21_channel 170 = .ok (.ifCond .eq 7, 3) := by decide +kernel
theorem dX21_channel_173 : decode cX21_channel 173 = .ok (.iconst 1, 1) := by decide +kernel
theorem dX21_channel_174 : decode cX21_channel 174 = .ok (.goto 4, 3) := by decide +kernel
theorem dX21_channel_177 : decode cX21_channel 177 = .ok (.iconst 0, 1) := by decide +kernel
theorem dX21_channel_178 : decode cX21_channel 178 = .ok (.ireturn, 1) := by decide +kernel
theorem dX21_channel_179 : decode cX21_channel 179 = .ok (.aload_n 3, 1) := by decide +kernel
theorem dX21_channel_180 : decode cX21_channel 180 = .ok (.getfield 792, 3) := by decide +kernel
theorem dX21_channel_183 : decode cX21_channel 183 = .ok (.ireturn, 1) := by decide +kernel
theorem dX21_channel_184 : decode cX21_channel 184 = .ok (.aload_n 3, 1) := by decide +kernel
theorem dX21_channel_185 : decode cX21_channel 185 = .ok (.getfield 795, 3) := by decide +kernel
theorem dX21_channel_188 : decode cX21_channel 188 = .ok (.ireturn, 1) := by decide +kernel
theorem dX21_channel_189 : decode cX21_channel 189 = .ok (.aload_n 0, 1) := by decide +kernel
theorem dX21_channel_190 : decode cX21_channel 190 = .ok (.iconst 2, 1) := by decide +kernel
theorem dX21_channel_191 : decode cX21_channel 191 = .ok (.invokevirtual 926, 3) := by decide +kernel
theorem dX21_channel_194 : decode cX21_channel 194 = .ok (.ireturn, 1) := by decide +kernel
theorem dX21_count_0 : decode cX21_count 0 = .ok (.aload_n 0, 1) := by decide +kernel
theorem dX21_count_1 : decode cX21_count 1 = .ok (.iconst 0, 1) := by decide +kernel
theorem dX21_count_2 : decode cX21_count 2 = .ok (.putfield 145, 3) := by decide +kernel
theorem dX21_count_5 : decode cX21_count 5 = .ok (.iconst 0, 1) := by decide +kernel
theorem dX21_count_6 : decode cX21_count 6 = .ok (.istore_n 2, 1) := by decide +kernel
theorem dX21_count_7 : decode cX21_count 7 = .ok (.iload_n 1, 1) := by decide +kernel
theorem dX21_count_8 : decode cX21_count 8 = .ok (.tableswitch 110 0 4 #[36, 41, 46, 51, 105], 36) := by decide +kernel
theorem dX21_count_44 : decode cX21_count 44 = .ok (.aload_n 0, 1) := by decide +kernel
theorem dX21_count_45 : decode cX21_count 45 = .ok (.getfield 922, 3) := by decide +kernel
theorem dX21_count_48 : decode cX21_count 48 = .ok (.ireturn, 1) := by decide +kernel
theorem dX21_count_49 : decode cX21_count 49 = .ok (.aload_n 0, 1) := by decide +kernel
theorem dX21_count_50 : decode cX21_count 50 = .ok (.getfield 687, 3) := by decide +kernel
theorem dX21_count_53 : decode cX21_count 53 = .ok (.ireturn, 1) := by decide +kernel
theorem dX21_count_54 : decode cX21_count 54 = .ok (.aload_n 0, 1) := by decide +kernel
theorem dX21_count_55 : decode cX21_count 55 = .ok (.getfield 939, 3) := by decide +kernel
theorem dX21_count_58 : decode cX21_count 58 = .ok (.ireturn, 1) := by decide +kernel
theorem dX21_count_59 : decode cX21_count 59 = .ok (.iconst 0, 1) := by decide +kernel
theorem dX21_count_60 : decode cX21_count 60 = .ok (.istore_n 3, 1) := by decide +kernel
theorem dX21_count_61 : decode cX21_count 61 = .ok (.iload_n 3, 1) := by decide +kernel
theorem dX21_count_62 : decode cX21_count 62 = .ok (.bipush 16, 2) := by decide +kernel
theorem dX21_count_64 : decode cX21_count 64 = .ok (.if_icmp .ge 47, 3) := by decide +kernel
theorem dX21_count_67 : decode cX21_count 67 = .ok (.aload_n 0, 1) := by decide +kernel
theorem dX21_count_68 : decode cX21_count 68 = .ok (.getfield 45, 3) := by decide +kernel
theorem dX21_count_71 : decode cX21_count 71 = .ok (.iconst 1, 1) := by decide +kernel
theorem dX21_count_72 : decode cX21_count 72 = .ok (.aaload, 1) := by decide +kernel
theorem dX21_count_73 : decode cX21_count 73 = .ok (.getfield 706, 3) := by decide +kernel
theorem dX21_count_76 : decode cX21_count 76 = .ok (.iload_n 3, 1) := by decide +kernel
theorem dX21_count_77 : decode cX21_count 77 = .ok (.aaload, 1) := by decide +kernel
theorem dX21_count_78 : decode cX21_count 78 = .ok (.getfield 710, 3) := by decide +kernel
theorem dX21_count_81 : decode cX21_count 81 = .ok (.iconst 1, 1) := by decide +kernel
theorem dX21_count_82 : decode cX21_count 82 = .ok (.if_icmp .ne 23, 3) := by decide +kernel
theorem dX21_count_85 : decode cX21_count 85 = .ok (.aload_n 0, 1) := by decide +kernel
theorem dX21_count_86 : decode cX21_count 86 = .ok (.getfield 45, 3) := by decide +kernel
theorem dX21_count_89 : decode cX21_count 89 = .ok (.iconst 1, 1) := by decide +kernel
theorem dX21_count_90 : decode cX21_count 90 = .ok (.aaload, 1) := by decide +kernel
theorem dX21_count_91 : decode cX21_count 91 = .ok (.getfield 706, 3) := by decide +kernel
theorem dX21_count_94 : decode cX21_count 94 = .ok (.iload_n 3, 1) := by decide +kernel
theorem dX21_count_95 : decode cX21_count 95 = .ok (.aaload, 1) := by decide +kernel
theorem dX21_count_96 : decode cX21_count 96 = .ok (.getfield 746, 3) := by decide +kernel
theorem dX21_count_99 : decode cX21_count 99 = .ok (.ifCond .ne 6, 3) := by decide +kernel
theorem dX21_count_102 : decode cX21_count 102 = .ok (.iinc 2 1, 3) := by decide +kernel
theorem dX21_count_105 : decode cX21_count 105 = .ok (.iinc 3 1, 3) := by decide +kernel
theorem dX21_count_108 : decode cX21_count 108 = .ok (.goto (-47), 3) := by decide +kernel
theorem dX21_count_111 : decode cX21_count 111 = .ok (.iload_n 2, 1) := by decide +kernel
theorem dX21_count_112 : decode cX21_count 112 = .ok (.ireturn, 1) := by decide +kernel
theorem dX21_count_113 : decode cX21_count 113 = .ok (.aload_n 0, 1) := by decide +kernel
theorem dX21_count_114 : decode cX21_count 114 = .ok (.invokevirtual 917, 3) := by decide +kernel
theorem dX21_count_117 : decode cX21_count 117 = .ok (.ireturn, 1) := by decide +kernel
theorem dX21_count_118 : decode cX21_count 118 = .ok (.iconst (-1), 1) := by decide +kernel
theorem dX21_count_119 : decode cX21_count 119 = .ok (.ireturn, 1) := by decide +kernel
abbrev vwCl : List vw_C := [(RJ0, TJ0, 4), (RJ4, TJ4, 4), (RX0, TX0, 5), (RX1, TX1, 6), (RX2, TX2, 5), (RX3, TX3, 18), (RX4, TX4, 36), (RX5, TX5, 14), (RX7, TX7, 20), (RX8, TX8, 15), (RX9, TX9, 34), (RX10, TX10, 4), (RX11, TX11, 4), (RX12, TX12, 4), (RX13, TX13, 10), (RX14, TX14, 42), (RX15, TX15, 47), (RX16, TX16, 6), (RX17, TX17, 14), (RX19, TX19, 3), (RX20, TX20, 27), (RX21, TX21, 43)]
end
section
/-! The words of all walked methods, one list (by program: wip/whole/words.py) -/
def zc_0 : List Cond := [.code yX13_init cX13_init 2 none, .methodLink RX13 1 objectInit, .instanceMethod objectInit, .code objectInit ⟨#[0xb1]⟩ 1 none, .arrayClass .int, .fieldLink RX13 7 "ShellPairModel$Cipher" "round" "[I", .fieldLink RX13 13 "ShellPairModel$Cipher" "state" "[I", .fieldLink RX13 16 "ShellPairModel$Cipher" "moved" "[I", .fieldLink RX13 19 "ShellPairModel$Cipher" "four" "[I", .fieldLink RX13 22 "ShellPairModel$Cipher" "counter" "[I", .arrayClass .byte, .fieldLink RX13 25 "ShellPairModel$Cipher" "secret" "[B", .fieldLink RX13 29 "ShellPairModel$Cipher" "substitute" "[I", .code yX13_box cX13_box 5 (some (.array .int)), .methodLink RX13 32 yX13_times, .code yX13_times cX13_times 5 (some .int), .static yX13_times, .initialized RX13, .code yX14_init cX14_init 3 none, .fieldLink RX14 7 "ShellPairModel$Curve" "hashed" "[B", .arrayClass .long, .fieldLink RX14 13 "ShellPairModel$Curve" "p" "[J", .fieldLink RX14 17 "ShellPairModel$Curve" "pt" "[J", .fieldLink RX14 20 "ShellPairModel$Curve" "order" "[J", .fieldLink RX14 23 "ShellPairModel$Curve" "ot" "[J", .fieldLink RX14 26 "ShellPairModel$Curve" "d" "[J", .fieldLink RX14 29 "ShellPairModel$Curve" "root" "[J", .fieldLink RX14 32 "ShellPairModel$Curve" "baseX" "[J", .fieldLink RX14 35 "ShellPairModel$Curve" "baseY" "[J", .fieldLink RX14 38 "ShellPairModel$Curve" "px" "[J", .fieldLink RX14 41 "ShellPairModel$Curve" "py" "[J", .fieldLink RX14 44 "ShellPairModel$Curve" "qx" "[J", .fieldLink RX14 47 "ShellPairModel$Curve" "qy" "[J", .fieldLink RX14 50 "ShellPairModel$Curve" "rx" "[J", .fieldLink RX14 53 "ShellPairModel$Curve" "ry" "[J", .fieldLink RX14 56 "ShellPairModel$Curve" "a" "[J", .fieldLink RX14 59 "ShellPairModel$Curve" "b" "[J", .fieldLink RX14 62 "ShellPairModel$Curve" "c" "[J", .fieldLink RX14 65 "ShellPairModel$Curve" "e" "[J", .fieldLink RX14 68 "ShellPairModel$Curve" "f" "[J"]
def zc_1 : List Cond := [.fieldLink RX14 71 "ShellPairModel$Curve" "g" "[J", .fieldLink RX14 74 "ShellPairModel$Curve" "pz" "[J", .fieldLink RX14 77 "ShellPairModel$Curve" "sx" "[J", .fieldLink RX14 80 "ShellPairModel$Curve" "sy" "[J", .fieldLink RX14 83 "ShellPairModel$Curve" "sz" "[J", .fieldLink RX14 86 "ShellPairModel$Curve" "one" "[J", .fieldLink RX14 89 "ShellPairModel$Curve" "scalar" "[J", .fieldLink RX14 92 "ShellPairModel$Curve" "secret" "[J", .fieldLink RX14 95 "ShellPairModel$Curve" "number" "[J", .fieldLink RX14 98 "ShellPairModel$Curve" "ten" "[J", .fieldLink RX14 101 "ShellPairModel$Curve" "row" "[B", .fieldLink RX14 104 "ShellPairModel$Curve" "open" "[B", .fieldLink RX14 107 "ShellPairModel$Curve" "first" "[B", .fieldLink RX14 110 "ShellPairModel$Curve" "work" "[B", .constant RX14 113 (54253), .constant RX14 114 (40150), .constant RX14 115 (41719), .constant RX14 116 (63966), .fieldLink RX14 117 "ShellPairModel$Curve" "low" "[I", .fieldLink RX14 121 "ShellPairModel$Curve" "hasher" "LShellPairModel$Hash;", .constantLong RX14 125 (65517), .constantLong RX14 127 (32767), .constantLong RX14 129 (65535), .methodLink RX14 131 ⟨"ShellPairModel$Curve", "remainders", "([J[J[J)V"⟩, .sameMethod "ShellPairModel$Curve" "ShellPairModel$Numbers" "remainders" "([J[J[J)V", .static yX18_remainders, .initialized RX18, .code yX18_remainders cX18_remainders 5 none, .constantLong RX14 135 (4096), .methodLink RX14 137 ⟨"ShellPairModel$Curve", "set", "([JI)V"⟩, .sameMethod "ShellPairModel$Curve" "ShellPairModel$Numbers" "set" "([JI)V", .static yX18_set, .code yX18_set cX18_set 3 none, .constantLong RX14 141 (56129), .constantLong RX14 143 (56130), .methodLink RX14 145 ⟨"ShellPairModel$Curve", "inverse", "([J[J[J)V"⟩, .selects RX14 ⟨"ShellPairModel$Curve", "inverse", "([J[J[J)V"⟩ yX18_inverse, .code yX18_inverse cX18_inverse 5 none, .sameMethod "ShellPairModel$Curve" "ShellPairModel$Numbers" "inverse" "([J[J[J)V", .instanceMethod yX18_inverse]
def zc_2 : List Cond := [.methodLink RX14 148 ⟨"ShellPairModel$Curve", "times", "([J[J[J[J[J)V"⟩, .selects RX14 ⟨"ShellPairModel$Curve", "times", "([J[J[J[J[J)V"⟩ yX18_times, .code yX18_times cX18_times 10 none, .sameMethod "ShellPairModel$Curve" "ShellPairModel$Numbers" "times" "([J[J[J[J[J)V", .instanceMethod yX18_times, .methodLink RX14 152 ⟨"ShellPairModel$Curve", "minus", "([J[J[J[J)V"⟩, .sameMethod "ShellPairModel$Curve" "ShellPairModel$Numbers" "minus" "([J[J[J[J)V", .static yX18_minus, .code yX18_minus cX18_minus 9 none, .constantLong RX14 156 (65531), .constantLong RX14 158 (8191), .methodLink RX14 160 yX14_power, .code yX14_power cX14_power 5 none, .instanceMethod yX14_power, .selects RX14 yX14_power yX14_power, .initialized RX14, .methodLink RX14 163 yX14_decode, .code yX14_decode cX14_decode 2 (some .boolean), .instanceMethod yX14_decode, .selects RX14 yX14_decode yX14_decode, .methodLink RX14 167 ⟨"ShellPairModel$Curve", "copy", "([J[J)V"⟩, .sameMethod "ShellPairModel$Curve" "ShellPairModel$Numbers" "copy" "([J[J)V", .static yX18_copy, .code yX18_copy cX18_copy 3 none, .methodLink RX14 171 ⟨"ShellPairModel$Curve", "bit", "([JI)I"⟩, .sameMethod "ShellPairModel$Curve" "ShellPairModel$Numbers" "bit" "([JI)I", .static yX18_bit, .code yX18_bit cX18_bit 2 (some .int), .methodLink RX14 175 ⟨"ShellPairModel$Curve", "below", "([J[J)Z"⟩, .sameMethod "ShellPairModel$Curve" "ShellPairModel$Numbers" "below" "([J[J)Z", .static yX18_below, .code yX18_below cX18_below 3 (some .boolean), .methodLink RX14 179 ⟨"ShellPairModel$Curve", "plus", "([J[J[J[J)V"⟩, .sameMethod "ShellPairModel$Curve" "ShellPairModel$Numbers" "plus" "([J[J[J[J)V", .static yX18_plus, .code yX18_plus cX18_plus 7 none, .constantLong RX14 182 (65534), .constantLong RX14 184 (4095), .methodLink RX14 186 ⟨"ShellPairModel$Curve", "alike", "([J[J)Z"⟩, .sameMethod "ShellPairModel$Curve" "ShellPairModel$Numbers" "alike" "([J[J)Z"]
def zc_3 : List Cond := [.static yX18_alike, .code yX18_alike cX18_alike 3 (some .boolean), .methodLink RX14 189 ⟨"ShellPairModel$Curve", "zero", "([J)Z"⟩, .sameMethod "ShellPairModel$Curve" "ShellPairModel$Numbers" "zero" "([J)Z", .static yX18_zero, .code yX18_zero cX18_zero 2 (some .boolean), .code yX15_init cX15_init 4 none, .methodLink RX15 1 objectInit, .constant RX15 7 (1073741824), .fieldLink RX15 8 "ShellPairModel$End" "set" "[I", .fieldLink RX15 14 "ShellPairModel$End" "seed" "[B", .fieldLink RX15 18 "ShellPairModel$End" "block" "[B", .classLink RX15 21 RX19, .instantiable RX19 3, .initialized RX19, .methodLink RX15 23 yX19_init, .code yX19_init cX19_init 1 none, .instanceMethod yX19_init, .fieldLink RX15 24 "ShellPairModel$End" "line" "LShellPairModel$Row;", .fieldLink RX15 33 "ShellPairModel$End" "version" "[B", .constant RX15 36 (35100), .fieldLink RX15 37 "ShellPairModel$End" "packet" "[B", .fieldLink RX15 40 "ShellPairModel$End" "own" "[B", .fieldLink RX15 43 "ShellPairModel$End" "others" "[B", .fieldLink RX15 46 "ShellPairModel$End" "chosen" "[I", .fieldLink RX15 49 "ShellPairModel$End" "held" "LShellPairModel$Row;", .fieldLink RX15 52 "ShellPairModel$End" "spare" "LShellPairModel$Row;", .classLink RX15 55 RX20, .instantiable RX20 27, .initialized RX20, .fieldLink RX15 57 "ShellPairModel$End" "sides" "[LShellPairModel$Side;", .fieldLink RX15 61 "ShellPairModel$End" "e" "I", .classLink RX15 65 RX13, .instantiable RX13 10, .methodLink RX15 67 yX13_init, .instanceMethod yX13_init, .fieldLink RX15 70 "ShellPairModel$End" "out" "LShellPairModel$Cipher;", .fieldLink RX15 74 "ShellPairModel$End" "in" "LShellPairModel$Cipher;", .code yX16_init cX16_init 1 none, .methodLink RX16 1 objectInit]
def zc_4 : List Cond := [.code yX17_init cX17_init 3 none, .methodLink RX17 1 objectInit, .fieldLink RX17 7 "ShellPairModel$Hash" "roots" "[J", .fieldLink RX17 13 "ShellPairModel$Hash" "starts" "[J", .fieldLink RX17 16 "ShellPairModel$Hash" "words" "[J", .fieldLink RX17 19 "ShellPairModel$Hash" "state" "[J", .fieldLink RX17 22 "ShellPairModel$Hash" "left" "[J", .fieldLink RX17 25 "ShellPairModel$Hash" "cube" "[J", .fieldLink RX17 28 "ShellPairModel$Hash" "out" "[B", .fieldLink RX17 32 "ShellPairModel$Hash" "pad" "[B", .constant RX17 35 (36000), .fieldLink RX17 36 "ShellPairModel$Hash" "work" "[B", .fieldLink RX17 39 "ShellPairModel$Hash" "info" "[B", .fieldLink RX17 42 "ShellPairModel$Hash" "last" "[B", .fieldLink RX17 45 "ShellPairModel$Hash" "name" "[B", .classLink RX17 48 "[B", .fieldLink RX17 49 "ShellPairModel$Hash" "empties" "[[B", .methodLink RX17 53 yX17_prime, .code yX17_prime cX17_prime 4 (some .int), .static yX17_prime, .initialized RX17, .methodLink RX17 57 yX17_root, .code yX17_root cX17_root 12 (some .long), .instanceMethod yX17_root, .selects RX17 yX17_root yX17_root, .methodLink RX17 61 yX17_fits, .code yX17_fits cX17_fits 10 (some .boolean), .instanceMethod yX17_fits, .selects RX17 yX17_fits yX17_fits, .methodLink RX17 65 yX17_times, .code yX17_times cX17_times 13 none, .instanceMethod yX17_times, .selects RX17 yX17_times yX17_times, .constantLong RX17 69 (4294967295), .code yX18_init cX18_init 1 none, .methodLink RX18 1 objectInit, .fieldLink RX18 7 "ShellPairModel$Numbers" "product" "[J", .fieldLink RX18 13 "ShellPairModel$Numbers" "sum" "[J", .fieldLink RX18 16 "ShellPairModel$Numbers" "u" "[J", .fieldLink RX18 19 "ShellPairModel$Numbers" "v" "[J"]
def zc_5 : List Cond := [.fieldLink RX18 22 "ShellPairModel$Numbers" "x1" "[J", .fieldLink RX18 25 "ShellPairModel$Numbers" "x2" "[J", .code yX18_less cX18_less 8 none, .constantLong RX18 28 (65535), .methodLink RX18 30 yX18_below, .methodLink RX18 34 yX18_less, .static yX18_less, .methodLink RX18 38 yX18_set, .methodLink RX18 42 yX18_plus, .code yX18_reduce cX18_reduce 10 none, .methodLink RX18 46 ⟨"ShellPairModel$Numbers", "reduce", "([J[J[J)V"⟩, .selects RX14 ⟨"ShellPairModel$Numbers", "reduce", "([J[J[J)V"⟩ yX18_reduce, .sameMethod "ShellPairModel$Numbers" "ShellPairModel$Numbers" "reduce" "([J[J[J)V", .instanceMethod yX18_reduce, .sameMethod "ShellPairModel$Curve" "ShellPairModel$Numbers" "reduce" "([J[J[J)V", .code yX18_half cX18_half 5 none, .code yX18_halve cX18_halve 2 none, .code yX18_one cX18_one 2 (some .boolean), .methodLink RX18 49 yX18_copy, .methodLink RX18 53 yX18_zero, .methodLink RX18 57 yX18_one, .static yX18_one, .methodLink RX18 60 yX18_halve, .static yX18_halve, .methodLink RX18 64 yX18_half, .static yX18_half, .methodLink RX18 67 yX18_minus, .methodLink RX19 1 objectInit, .fieldLink RX19 7 "ShellPairModel$Row" "b" "[B", .code yX19_init_ cX19_init_ 2 none, .code yX19_size cX19_size 1 (some .int), .fieldLink RX19 13 "ShellPairModel$Row" "n" "I", .fieldLink RX19 17 "ShellPairModel$Row" "from" "I", .code yX19_add_ cX19_add_ 5 none, .methodLink RX19 21 yX19_add, .code yX19_take cX19_take 2 (some .int), .methodLink RX19 42 yX19_clear, .code yX20_init cX20_init 1 none, .methodLink RX20 1 objectInit, .fieldLink RX20 7 "ShellPairModel$Side" "state" "I"]
def zc_6 : List Cond := [.classLink RX20 13 RX19, .methodLink RX20 15 yX19_init, .fieldLink RX20 16 "ShellPairModel$Side" "out" "LShellPairModel$Row;", .fieldLink RX20 20 "ShellPairModel$Side" "errors" "LShellPairModel$Row;", .fieldLink RX20 23 "ShellPairModel$Side" "in" "LShellPairModel$Row;", .fieldLink RX20 26 "ShellPairModel$Side" "inErrors" "LShellPairModel$Row;", .fieldLink RX20 29 "ShellPairModel$Side" "status" "I", .fieldLink RX20 38 "ShellPairModel$Side" "name" "[B", .fieldLink RX20 41 "ShellPairModel$Side" "kept" "LShellPairModel$Row;", .code yX21_init cX21_init 1 none, .methodLink RX21 1 objectInit, .constant RX21 7 (65536), .fieldLink RX21 8 "ShellPairModel" "tape" "[B", .classLink RX21 14 RX17, .instantiable RX17 14, .methodLink RX21 16 yX17_init, .instanceMethod yX17_init, .fieldLink RX21 17 "ShellPairModel" "hash" "LShellPairModel$Hash;", .classLink RX21 21 RX14, .instantiable RX14 42, .methodLink RX21 23 yX14_init, .instanceMethod yX14_init, .fieldLink RX21 26 "ShellPairModel" "curve" "LShellPairModel$Curve;", .methodLink RX21 30 yX13_box, .static yX13_box, .fieldLink RX21 36 "ShellPairModel" "substitute" "[I", .classLink RX21 40 RX15, .instantiable RX15 47, .initialized RX15, .methodLink RX21 42 yX15_init, .instanceMethod yX15_init, .fieldLink RX21 45 "ShellPairModel" "ends" "[LShellPairModel$End;", .classLink RX21 49 RX19, .constant RX21 51 (262144), .methodLink RX21 52 yX19_init_, .instanceMethod yX19_init_, .fieldLink RX21 55 "ShellPairModel" "wire" "[LShellPairModel$Row;", .fieldLink RX21 59 "ShellPairModel" "NOTHING" "[B", .fieldLink RX21 62 "ShellPairModel" "user" "[B", .fieldLink RX21 65 "ShellPairModel" "word" "[B"]
def zc_7 : List Cond := [.classLink RX21 68 "[B", .fieldLink RX21 69 "ShellPairModel" "names" "[[B", .fieldLink RX21 73 "ShellPairModel" "words" "[[B", .fieldLink RX21 76 "ShellPairModel" "accountKeys" "[[B", .arrayClass .boolean, .fieldLink RX21 79 "ShellPairModel" "ports" "[Z", .fieldLink RX21 83 "ShellPairModel" "storeNames" "[[B", .fieldLink RX21 86 "ShellPairModel" "store" "[[B", .classLink RX21 89 RX16, .initialized RX16, .instantiable RX16 6, .fieldLink RX21 92 "ShellPairModel" "fields0" "LShellPairModel$Fields;", .fieldLink RX21 96 "ShellPairModel" "fields2" "LShellPairModel$Fields;", .fieldLink RX21 99 "ShellPairModel" "fields3" "LShellPairModel$Fields;", .fieldLink RX21 102 "ShellPairModel" "fields4" "LShellPairModel$Fields;", .fieldLink RX21 105 "ShellPairModel" "fields5" "LShellPairModel$Fields;", .methodLink RX21 108 yX19_init, .fieldLink RX21 109 "ShellPairModel" "body" "LShellPairModel$Row;", .fieldLink RX21 113 "ShellPairModel" "packet" "LShellPairModel$Row;", .fieldLink RX21 116 "ShellPairModel" "work" "LShellPairModel$Row;", .fieldLink RX21 119 "ShellPairModel" "mac" "[B", .fieldLink RX21 122 "ShellPairModel" "mark" "[B", .fieldLink RX21 125 "ShellPairModel" "in" "[B", .methodLink RX21 128 yX21_line, .code yX21_line cX21_line 4 (some (.array .byte)), .static yX21_line, .initialized RX21, .fieldLink RX21 132 "ShellPairModel" "lines" "[[B", .fieldLink RX21 135 "ShellPairModel" "heldOne" "LShellPairModel$Row;", .constant RX21 138 (35100), .fieldLink RX21 139 "ShellPairModel" "current" "[B", .fieldLink RX21 142 "ShellPairModel" "triedUser" "[B", .code yX21_thrown cX21_thrown 1 (some .int), .fieldLink RX21 145 "ShellPairModel" "thrown" "I", .code yX21_fail cX21_fail 2 (some .int), .methodLink RX21 427 yJ0_length_8abf5, .methodLink RX21 432 yJ0_charAt_5068e, .code yX21_none cX21_none 1 (some .boolean), .code yX21_used cX21_used 1 (some .boolean), .fieldLink RX21 710 "ShellPairModel$Side" "state" "I"]
def zc_8 : List Cond := [.code yX21_live cX21_live 3 (some (.object "ShellPairModel$Side")), .fieldLink RX21 706 "ShellPairModel$End" "sides" "[LShellPairModel$Side;", .methodLink RX21 720 yX21_used, .static yX21_used, .code yX21_farSide cX21_farSide 4 (some (.object "ShellPairModel$Side")), .fieldLink RX21 746 "ShellPairModel$Side" "session" "Z", .fieldLink RX21 748 "ShellPairModel$Side" "port" "I", .code yX21_sessionOf cX21_sessionOf 2 (some (.array .byte)), .fieldLink RX21 221 "ShellPairModel$End" "e" "I", .fieldLink RX21 484 "ShellPairModel" "clientSession" "[B", .fieldLink RX21 469 "ShellPairModel" "session" "[B", .code yX21_bytesStored cX21_bytesStored 3 (some .int), .fieldLink RX21 861 "ShellPairModel" "stored" "I", .code yX21_feed cX21_feed 8 (some .int), .fieldLink RX21 922 "ShellPairModel" "tapes" "I", .constant RX21 925 (65516), .methodLink RX21 926 yX21_fail, .instanceMethod yX21_fail, .selects RX21 yX21_fail yX21_fail, .code yX21_end cX21_end 2 (some .int), .code yX21_secret cX21_secret 4 none, .methodLink RX21 930 yX21_cut, .fieldLink RX21 152 "ShellPairModel$End" "seed" "[B", .fieldLink RX21 155 "ShellPairModel$End" "blocks" "J", .fieldLink RX21 149 "ShellPairModel$End" "left" "I", .fieldLink RX21 451 "ShellPairModel" "hostKey" "[B", .fieldLink RX21 660 "ShellPairModel" "identity" "[B", .fieldLink RX21 495 "ShellPairModel" "knownKey" "[B", .code yX21_user cX21_user 6 (some .int), .fieldLink RX21 687 "ShellPairModel" "accounts" "I", .methodLink RX21 498 yX21_same, .code yX21_allow cX21_allow 2 none, .code yX21_set cX21_set 6 (some .int), .methodLink RX21 934 yX21_none, .static yX21_none, .constant RX21 936 (32768), .constant RX21 937 (1073741824), .fieldLink RX21 272 "ShellPairModel$End" "set" "[I", .code yX21_port cX21_port 3 none, .constant RX21 938 (65535)]
def zc_9 : List Cond := [.fieldLink RX21 939 "ShellPairModel" "portCount" "I", .code yX21_start cX21_start 1 none, .methodLink RX21 171 yX19_clear, .methodLink RX21 942 yX21_begin_, .code yX21_move cX21_move 5 (some .int), .methodLink RX21 224 yX19_size, .instanceMethod yX19_size, .selects RX19 yX19_size yX19_size, .methodLink RX21 944 Lib.Math.min.name, .static Lib.Math.min.name, .code Lib.Math.min.name Lib.Math.min.code 2 (some .int), .methodLink RX21 947 yX19_take, .instanceMethod yX19_take, .selects RX19 yX19_take yX19_take, .methodLink RX21 949 yX21_byteCame, .code yX21_flip cX21_flip 4 (some .int), .fieldLink RX21 185 "ShellPairModel$Row" "b" "[B", .fieldLink RX21 524 "ShellPairModel$Row" "from" "I", .code yX21_seen cX21_seen 3 (some .int), .code yX21_inject cX21_inject 2 (some .int), .constant RX21 228 (131072), .methodLink RX21 178 yX19_add_, .instanceMethod yX19_add_, .selects RX19 yX19_add_ yX19_add_, .code yX21_open cX21_open 6 (some .int), .fieldLink RX21 195 "ShellPairModel$End" "state" "I", .fieldLink RX21 607 "ShellPairModel$End" "proven" "Z", .methodLink RX21 730 yX20_fresh, .fieldLink RX21 740 "ShellPairModel$Side" "granted" "J", .fieldLink RX21 743 "ShellPairModel$Side" "most" "J", .methodLink RX21 281 yX21_fresh, .methodLink RX21 316 yX19_text_, .methodLink RX21 174 yX19_four, .methodLink RX21 254 yX19_text, .methodLink RX21 535 yX21_say, .code yX21_exec cX21_exec 4 none, .methodLink RX21 954 yX21_live, .instanceMethod yX21_live, .selects RX21 yX21_live yX21_live, .fieldLink RX21 803 "ShellPairModel$Side" "closeSent" "Z"]
def zc_10 : List Cond := [.fieldLink RX21 761 "ShellPairModel$Side" "closeCame" "Z", .methodLink RX21 817 yX21_to, .methodLink RX21 209 yX19_add, .fieldLink RX21 790 "ShellPairModel$Side" "waits" "I", .code yX21_write cX21_write 4 (some .int), .methodLink RX21 726 yX21_farSide, .instanceMethod yX21_farSide, .selects RX21 yX21_farSide yX21_farSide, .fieldLink RX21 824 "ShellPairModel$Side" "ends" "Z", .fieldLink RX21 798 "ShellPairModel$Side" "done" "Z", .fieldLink RX21 800 "ShellPairModel$Side" "out" "LShellPairModel$Row;", .methodLink RX21 764 yX21_pump, .code yX21_read cX21_read 10 (some .long), .fieldLink RX21 837 "ShellPairModel$Side" "inErrors" "LShellPairModel$Row;", .fieldLink RX21 840 "ShellPairModel$Side" "in" "LShellPairModel$Row;", .methodLink RX21 834 yX21_wasRead, .code yX21_finish cX21_finish 4 none, .methodLink RX21 781 yX21_close, .code yX21_rekey cX21_rekey 2 none, .fieldLink RX21 265 "ShellPairModel$End" "exchanges" "I", .methodLink RX21 268 yX21_complete, .methodLink RX21 275 yX21_init_, .code yX21_quit cX21_quit 2 none, .methodLink RX21 285 yX21_disconnect, .code yX21_about cX21_about 6 (some .int), .fieldLink RX21 229 "ShellPairModel$End" "reason" "I", .fieldLink RX21 234 "ShellPairModel$End" "sent" "I", .fieldLink RX21 586 "ShellPairModel$End" "taken" "I", .fieldLink RX21 198 "ShellPairModel$End" "out" "LShellPairModel$Cipher;", .fieldLink RX21 202 "ShellPairModel$Cipher" "cipher" "I", .fieldLink RX21 169 "ShellPairModel$Cipher" "mac" "I", .fieldLink RX21 655 "ShellPairModel$End" "failures" "I", .methodLink RX21 502 yX21_sessionOf, .instanceMethod yX21_sessionOf, .selects RX21 yX21_sessionOf yX21_sessionOf, .code yX21_channel cX21_channel 4 (some .int), .fieldLink RX21 802 "ShellPairModel$Side" "reason" "I", .fieldLink RX21 829 "ShellPairModel$Side" "status" "I", .fieldLink RX21 735 "ShellPairModel$Side" "window" "J", .fieldLink RX21 772 "ShellPairModel$Side" "endCame" "Z"]
def zc_11 : List Cond := [.fieldLink RX21 792 "ShellPairModel$Side" "answered" "I", .fieldLink RX21 795 "ShellPairModel$Side" "denied" "I", .code yX21_count cX21_count 4 (some .int), .methodLink RX21 917 yX21_bytesStored, .instanceMethod yX21_bytesStored, .selects RX21 yX21_bytesStored yX21_bytesStored]
def WR : List Cond := zc_0 ++ (zc_1 ++ (zc_2 ++ (zc_3 ++ (zc_4 ++ (zc_5 ++ (zc_6 ++ (zc_7 ++ (zc_8 ++ (zc_9 ++ (zc_10 ++ (zc_11 ++ (wsX00 ++ (wsX10 ++ (wsX20 ++ (wsX30 ++ (wsX40 ++ (wsX50 ++ (wsX70 ++ (wsX80 ++ (wsX90 ++ (wsX100 ++ (wsX110 ++ (wsX120 ++ (wsX130 ++ (wsX140 ++ (wsX150 ++ (wsX160 ++ (wsX170 ++ (wsX190 ++ (wsX200 ++ (wsX210 ++ (wsJ00 ++ (wsJ40)))))))))))))))))))))))))))))))))
theorem zin_zc_0 : ∀ w ∈ zc_0, w ∈ WR := fun _ h => List.mem_append_left _ h
set_option maxRecDepth 100000 in
theorem zgd_zc_0 : ∀ w ∈ zc_0, goodWord w = true := by decide +kernel
theorem zin_zc_1 : ∀ w ∈ zc_1, w ∈ WR := fun _ h => List.mem_append_right _ (List.mem_append_left _ h)
set_option maxRecDepth 100000 in
theorem zgd_zc_1 : ∀ w ∈ zc_1, goodWord w = true := by decide +kernel
theorem zin_zc_2 : ∀ w ∈ zc_2, w ∈ WR := fun _ h => List.mem_append_right _ (List.mem_append_right _ (List.mem_append_left _ h))
set_option maxRecDepth 100000 in
theorem zgd_zc_2 : ∀ w ∈ zc_2, goodWord w = true := by decide +kernel
theorem zin_zc_3 : ∀ w ∈ zc_3, w ∈ WR := fun _ h => List.mem_append_right _ (List.mem_append_right _ (List.mem_append_right _ (List.mem_append_left _ h)))
set_option maxRecDepth 100000 in
theorem zgd_zc_3 : ∀ w ∈ zc_3, goodWord w = true := by decide +kernel
theorem zin_zc_4 : ∀ w ∈ zc_4, w ∈ WR := fun _ h => List.mem_append_right _ (List.mem_append_right _ (List.mem_append_right _ (List.mem_append_right _ (List.mem_append_left _ h))))
set_option maxRecDepth 100000 in
theorem zgd_zc_4 : ∀ w ∈ zc_4, goodWord w = true := by decide +kernel
theorem zin_zc_5 : ∀ w ∈ zc_5, w ∈ WR := fun _ h => List.mem_append_right _ (List.mem_append_right _ (List.mem_append_right _ (List.mem_append_right _ (List.mem_append_right _ (List.mem_append_left _ h)))))
set_option maxRecDepth 100000 in
theorem zgd_zc_5 : ∀ w ∈ zc_5, goodWord w = true := by decide +kernel
theorem zin_zc_6 : ∀ w ∈ zc_6, w ∈ WR := fun _ h => List.mem_append_right _ (List.mem_append_right _ (List.mem_append_right _ (List.mem_append_right _ (List.mem_append_right _ (List.mem_append_right _ (List.mem_append_left _ h))))))
set_option maxRecDepth 100000 in
theorem zgd_zc_6 : ∀ w ∈ zc_6, goodWord w = true := by decide +kernel
theorem zin_zc_7 : ∀ w ∈ zc_7, w ∈ WR := fun _ h => List.mem_append_right _ (List.mem_append_right _ (List.mem_append_right _ (List.mem_append_right _ (List.mem_append_right _ (List.mem_append_right _ (List.mem_append_right _ (List.mem_append_left _ h)))))))
set_option maxRecDepth 100000 in
theorem zgd_zc_7 : ∀ w ∈ zc_7, goodWord w = true := by decide +kernel
theorem zin_zc_8 : ∀ w ∈ zc_8, w ∈ WR := fun _ h => List.mem_append_right _ (List.mem_append_right _ (List.mem_append_right _ (List.mem_append_right _ (List.mem_append_right _ (List.mem_append_right _ (List.mem_append_right _ (List.mem_append_right _ (List.mem_append_left _ h))))))))
set_option maxRecDepth 100000 in
theorem zgd_zc_8 : ∀ w ∈ zc_8, goodWord w = true := by decide +kernel
theorem zin_zc_9 : ∀ w ∈ zc_9, w ∈ WR := fun _ h => List.mem_append_right _ (List.mem_append_right _ (List.mem_append_right _ (List.mem_append_right _ (List.mem_append_right _ (List.mem_append_right _ (List.mem_append_right _ (List.mem_append_right _ (List.mem_append_right _ (List.mem_append_left _ h)))))))))
set_option maxRecDepth 100000 in
theorem zgd_zc_9 : ∀ w ∈ zc_9, goodWord w = true := by decide +kernel
theorem zin_zc_10 : ∀ w ∈ zc_10, w ∈ WR := fun _ h => List.mem_append_right _ (List.mem_append_right _ (List.mem_append_right _ (List.mem_append_right _ (List.mem_append_right _ (List.mem_append_right _ (List.mem_append_right _ (List.mem_append_right _ (List.mem_append_right _ (List.mem_append_right _ (List.mem_append_left _ h))))))))))
set_option maxRecDepth 100000 in
theorem zgd_zc_10 : ∀ w ∈ zc_10, goodWord w = true := by decide +kernel
theorem zin_zc_11 : ∀ w ∈ zc_11, w ∈ WR := fun _ h => List.mem_append_right _ (List.mem_append_right _ (List.mem_append_right _ (List.mem_append_right _ (List.mem_append_right _ (List.mem_append_right _ (List.mem_append_right _ (List.mem_append_right _ (List.mem_append_right _ (List.mem_append_right _ (List.mem_append_right _ (List.mem_append_left _ h)))))))))))
set_option maxRecDepth 100000 in
theorem zgd_zc_11 : ∀ w ∈ zc_11, goodWord w = true := by decide +kernel
theorem zin_wsX00 : ∀ w ∈ wsX00, w ∈ WR := fun _ h => List.mem_append_right _ (List.mem_append_right _ (List.mem_append_right _ (List.mem_append_right _ (List.mem_append_right _ (List.mem_append_right _ (List.mem_append_right _ (List.mem_append_right _ (List.mem_append_right _ (List.mem_append_right _ (List.mem_append_right _ (List.mem_append_right _ (List.mem_append_left _ h))))))))))))
set_option maxRecDepth 100000 in
theorem zgd_wsX00 : ∀ w ∈ wsX00, goodWord w = true := by decide +kernel
theorem zin_wsX10 : ∀ w ∈ wsX10, w ∈ WR := fun _ h => List.mem_append_right _ (List.mem_append_right _ (List.mem_append_right _ (List.mem_append_right _ (List.mem_append_right _ (List.mem_append_right _ (List.mem_append_right _ (List.mem_append_right _ (List.mem_append_right _ (List.mem_append_right _ (List.mem_append_right _ (List.mem_append_right _ (List.mem_append_right _ (List.mem_append_left _ h)))))))))))))
set_option maxRecDepth 100000 in
theorem zgd_wsX10 : ∀ w ∈ wsX10, goodWord w = true := by decide +kernel
theorem zin_wsX20 : ∀ w ∈ wsX20, w ∈ WR := fun _ h => List.mem_append_right _ (List.mem_append_right _ (List.mem_append_right _ (List.mem_append_right _ (List.mem_append_right _ (List.mem_append_right _ (List.mem_append_right _ (List.mem_append_right _ (List.mem_append_right _ (List.mem_append_right _ (List.mem_append_right _ (List.mem_append_right _ (List.mem_append_right _ (List.mem_append_right _ (List.mem_append_left _ h))))))))))))))
set_option maxRecDepth 100000 in
theorem zgd_wsX20 : ∀ w ∈ wsX20, goodWord w = true := by decide +kernel
theorem zin_wsX30 : ∀ w ∈ wsX30, w ∈ WR := fun _ h => List.mem_append_right _ (List.mem_append_right _ (List.mem_append_right _ (List.mem_append_right _ (List.mem_append_right _ (List.mem_append_right _ (List.mem_append_right _ (List.mem_append_right _ (List.mem_append_right _ (List.mem_append_right _ (List.mem_append_right _ (List.mem_append_right _ (List.mem_append_right _ (List.mem_append_right _ (List.mem_append_right _ (List.mem_append_left _ h)))))))))))))))
set_option maxRecDepth 100000 in
theorem zgd_wsX30 : ∀ w ∈ wsX30, goodWord w = true := by decide +kernel
theorem zin_wsX40 : ∀ w ∈ wsX40, w ∈ WR := fun _ h => List.mem_append_right _ (List.mem_append_right _ (List.mem_append_right _ (List.mem_append_right _ (List.mem_append_right _ (List.mem_append_right _ (List.mem_append_right _ (List.mem_append_right _ (List.mem_append_right _ (List.mem_append_right _ (List.mem_append_right _ (List.mem_append_right _ (List.mem_append_right _ (List.mem_append_right _ (List.mem_append_right _ (List.mem_append_right _ (List.mem_append_left _ h))))))))))))))))
set_option maxRecDepth 100000 in
theorem zgd_wsX40 : ∀ w ∈ wsX40, goodWord w = true := by decide +kernel
theorem zin_wsX50 : ∀ w ∈ wsX50, w ∈ WR := fun _ h => List.mem_append_right _ (List.mem_append_right _ (List.mem_append_right _ (List.mem_append_right _ (List.mem_append_right _ (List.mem_append_right _ (List.mem_append_right _ (List.mem_append_right _ (List.mem_append_right _ (List.mem_append_right _ (List.mem_append_right _ (List.mem_append_right _ (List.mem_append_right _ (List.mem_append_right _ (List.mem_append_right _ (List.mem_append_right _ (List.mem_append_right _ (List.mem_append_left _ h)))))))))))))))))
set_option maxRecDepth 100000 in
theorem zgd_wsX50 : ∀ w ∈ wsX50, goodWord w = true := by decide +kernel
theorem zin_wsX70 : ∀ w ∈ wsX70, w ∈ WR := fun _ h => List.mem_append_right _ (List.mem_append_right _ (List.mem_append_right _ (List.mem_append_right _ (List.mem_append_right _ (List.mem_append_right _ (List.mem_append_right _ (List.mem_append_right _ (List.mem_append_right _ (List.mem_append_right _ (List.mem_append_right _ (List.mem_append_right _ (List.mem_append_right _ (List.mem_append_right _ (List.mem_append_right _ (List.mem_append_right _ (List.mem_append_right _ (List.mem_append_right _ (List.mem_append_left _ h))))))))))))))))))
set_option maxRecDepth 100000 in
theorem zgd_wsX70 : ∀ w ∈ wsX70, goodWord w = true := by decide +kernel
theorem zin_wsX80 : ∀ w ∈ wsX80, w ∈ WR := fun _ h => List.mem_append_right _ (List.mem_append_right _ (List.mem_append_right _ (List.mem_append_right _ (List.mem_append_right _ (List.mem_append_right _ (List.mem_append_right _ (List.mem_append_right _ (List.mem_append_right _ (List.mem_append_right _ (List.mem_append_right _ (List.mem_append_right _ (List.mem_append_right _ (List.mem_append_right _ (List.mem_append_right _ (List.mem_append_right _ (List.mem_append_right _ (List.mem_append_right _ (List.mem_append_right _ (List.mem_append_left _ h)))))))))))))))))))
set_option maxRecDepth 100000 in
theorem zgd_wsX80 : ∀ w ∈ wsX80, goodWord w = true := by decide +kernel
theorem zin_wsX90 : ∀ w ∈ wsX90, w ∈ WR := fun _ h => List.mem_append_right _ (List.mem_append_right _ (List.mem_append_right _ (List.mem_append_right _ (List.mem_append_right _ (List.mem_append_right _ (List.mem_append_right _ (List.mem_append_right _ (List.mem_append_right _ (List.mem_append_right _ (List.mem_append_right _ (List.mem_append_right _ (List.mem_append_right _ (List.mem_append_right _ (List.mem_append_right _ (List.mem_append_right _ (List.mem_append_right _ (List.mem_append_right _ (List.mem_append_right _ (List.mem_append_right _ (List.mem_append_left _ h))))))))))))))))))))
set_option maxRecDepth 100000 in
theorem zgd_wsX90 : ∀ w ∈ wsX90, goodWord w = true := by decide +kernel
theorem zin_wsX100 : ∀ w ∈ wsX100, w ∈ WR := fun _ h => List.mem_append_right _ (List.mem_append_right _ (List.mem_append_right _ (List.mem_append_right _ (List.mem_append_right _ (List.mem_append_right _ (List.mem_append_right _ (List.mem_append_right _ (List.mem_append_right _ (List.mem_append_right _ (List.mem_append_right _ (List.mem_append_right _ (List.mem_append_right _ (List.mem_append_right _ (List.mem_append_right _ (List.mem_append_right _ (List.mem_append_right _ (List.mem_append_right _ (List.mem_append_right _ (List.mem_append_right _ (List.mem_append_right _ (List.mem_append_left _ h)))))))))))))))))))))
set_option maxRecDepth 100000 in
theorem zgd_wsX100 : ∀ w ∈ wsX100, goodWord w = true := by decide +kernel
theorem zin_wsX110 : ∀ w ∈ wsX110, w ∈ WR := fun _ h => List.mem_append_right _ (List.mem_append_right _ (List.mem_append_right _ (List.mem_append_right _ (List.mem_append_right _ (List.mem_append_right _ (List.mem_append_right _ (List.mem_append_right _ (List.mem_append_right _ (List.mem_append_right _ (List.mem_append_right _ (List.mem_append_right _ (List.mem_append_right _ (List.mem_append_right _ (List.mem_append_right _ (List.mem_append_right _ (List.mem_append_right _ (List.mem_append_right _ (List.mem_append_right _ (List.mem_append_right _ (List.mem_append_right _ (List.mem_append_right _ (List.mem_append_left _ h))))))))))))))))))))))
set_option maxRecDepth 100000 in
theorem zgd_wsX110 : ∀ w ∈ wsX110, goodWord w = true := by decide +kernel
theorem zin_wsX120 : ∀ w ∈ wsX120, w ∈ WR := fun _ h => List.mem_append_right _ (List.mem_append_right _ (List.mem_append_right _ (List.mem_append_right _ (List.mem_append_right _ (List.mem_append_right _ (List.mem_append_right _ (List.mem_append_right _ (List.mem_append_right _ (List.mem_append_right _ (List.mem_append_right _ (List.mem_append_right _ (List.mem_append_right _ (List.mem_append_right _ (List.mem_append_right _ (List.mem_append_right _ (List.mem_append_right _ (List.mem_append_right _ (List.mem_append_right _ (List.mem_append_right _ (List.mem_append_right _ (List.mem_append_right _ (List.mem_append_right _ (List.mem_append_left _ h)))))))))))))))))))))))
set_option maxRecDepth 100000 in
theorem zgd_wsX120 : ∀ w ∈ wsX120, goodWord w = true := by decide +kernel
theorem zin_wsX130 : ∀ w ∈ wsX130, w ∈ WR := fun _ h => List.mem_append_right _ (List.mem_append_right _ (List.mem_append_right _ (List.mem_append_right _ (List.mem_append_right _ (List.mem_append_right _ (List.mem_append_right _ (List.mem_append_right _ (List.mem_append_right _ (List.mem_append_right _ (List.mem_append_right _ (List.mem_append_right _ (List.mem_append_right _ (List.mem_append_right _ (List.mem_append_right _ (List.mem_append_right _ (List.mem_append_right _ (List.mem_append_right _ (List.mem_append_right _ (List.mem_append_right _ (List.mem_append_right _ (List.mem_append_right _ (List.mem_append_right _ (List.mem_append_right _ (List.mem_append_left _ h))))))))))))))))))))))))
set_option maxRecDepth 100000 in
theorem zgd_wsX130 : ∀ w ∈ wsX130, goodWord w = true := by decide +kernel
theorem zin_wsX140 : ∀ w ∈ wsX140, w ∈ WR := fun _ h => List.mem_append_right _ (List.mem_append_right _ (List.mem_append_right _ (List.mem_append_right _ (List.mem_append_right _ (List.mem_append_right _ (List.mem_append_right _ (List.mem_append_right _ (List.mem_append_right _ (List.mem_append_right _ (List.mem_append_right _ (List.mem_append_right _ (List.mem_append_right _ (List.mem_append_right _ (List.mem_append_right _ (List.mem_append_right _ (List.mem_append_right _ (List.mem_append_right _ (List.mem_append_right _ (List.mem_append_right _ (List.mem_append_right _ (List.mem_append_right _ (List.mem_append_right _ (List.mem_append_right _ (List.mem_append_right _ (List.mem_append_left _ h)))))))))))))))))))))))))
set_option maxRecDepth 100000 in
theorem zgd_wsX140 : ∀ w ∈ wsX140, goodWord w = true := by decide +kernel
theorem zin_wsX150 : ∀ w ∈ wsX150, w ∈ WR := fun _ h => List.mem_append_right _ (List.mem_append_right _ (List.mem_append_right _ (List.mem_append_right _ (List.mem_append_right _ (List.mem_append_right _ (List.mem_append_right _ (List.mem_append_right _ (List.mem_append_right _ (List.mem_append_right _ (List.mem_append_right _ (List.mem_append_right _ (List.mem_append_right _ (List.mem_append_right _ (List.mem_append_right _ (List.mem_append_right _ (List.mem_append_right _ (List.mem_append_right _ (List.mem_append_right _ (List.mem_append_right _ (List.mem_append_right _ (List.mem_append_right _ (List.mem_append_right _ (List.mem_append_right _ (List.mem_append_right _ (List.mem_append_right _ (List.mem_append_left _ h))))))))))))))))))))))))))
set_option maxRecDepth 100000 in
theorem zgd_wsX150 : ∀ w ∈ wsX150, goodWord w = true := by decide +kernel
theorem zin_wsX160 : ∀ w ∈ wsX160, w ∈ WR := fun _ h => List.mem_append_right _ (List.mem_append_right _ (List.mem_append_right _ (List.mem_append_right _ (List.mem_append_right _ (List.mem_append_right _ (List.mem_append_right _ (List.mem_append_right _ (List.mem_append_right _ (List.mem_append_right _ (List.mem_append_right _ (List.mem_append_right _ (List.mem_append_right _ (List.mem_append_right _ (List.mem_append_right _ (List.mem_append_right _ (List.mem_append_right _ (List.mem_append_right _ (List.mem_append_right _ (List.mem_append_right _ (List.mem_append_right _ (List.mem_append_right _ (List.mem_append_right _ (List.mem_append_right _ (List.mem_append_right _ (List.mem_append_right _ (List.mem_append_right _ (List.mem_append_left _ h)))))))))))))))))))))))))))
set_option maxRecDepth 100000 in
theorem zgd_wsX160 : ∀ w ∈ wsX160, goodWord w = true := by decide +kernel
theorem zin_wsX170 : ∀ w ∈ wsX170, w ∈ WR := fun _ h => List.mem_append_right _ (List.mem_append_right _ (List.mem_append_right _ (List.mem_append_right _ (List.mem_append_right _ (List.mem_append_right _ (List.mem_append_right _ (List.mem_append_right _ (List.mem_append_right _ (List.mem_append_right _ (List.mem_append_right _ (List.mem_append_right _ (List.mem_append_right _ (List.mem_append_right _ (List.mem_append_right _ (List.mem_append_right _ (List.mem_append_right _ (List.mem_append_right _ (List.mem_append_right _ (List.mem_append_right _ (List.mem_append_right _ (List.mem_append_right _ (List.mem_append_right _ (List.mem_append_right _ (List.mem_append_right _ (List.mem_append_right _ (List.mem_append_right _ (List.mem_append_right _ (List.mem_append_left _ h))))))))))))))))))))))))))))
set_option maxRecDepth 100000 in
theorem zgd_wsX170 : ∀ w ∈ wsX170, goodWord w = true := by decide +kernel
theorem zin_wsX190 : ∀ w ∈ wsX190, w ∈ WR := fun _ h => List.mem_append_right _ (List.mem_append_right _ (List.mem_append_right _ (List.mem_append_right _ (List.mem_append_right _ (List.mem_append_right _ (List.mem_append_right _ (List.mem_append_right _ (List.mem_append_right _ (List.mem_append_right _ (List.mem_append_right _ (List.mem_append_right _ (List.mem_append_right _ (List.mem_append_right _ (List.mem_append_right _ (List.mem_append_right _ (List.mem_append_right _ (List.mem_append_right _ (List.mem_append_right _ (List.mem_append_right _ (List.mem_append_right _ (List.mem_append_right _ (List.mem_append_right _ (List.mem_append_right _ (List.mem_append_right _ (List.mem_append_right _ (List.mem_append_right _ (List.mem_append_right _ (List.mem_append_right _ (List.mem_append_left _ h)))))))))))))))))))))))))))))
set_option maxRecDepth 100000 in
theorem zgd_wsX190 : ∀ w ∈ wsX190, goodWord w = true := by decide +kernel
theorem zin_wsX200 : ∀ w ∈ wsX200, w ∈ WR := fun _ h => List.mem_append_right _ (List.mem_append_right _ (List.mem_append_right _ (List.mem_append_right _ (List.mem_append_right _ (List.mem_append_right _ (List.mem_append_right _ (List.mem_append_right _ (List.mem_append_right _ (List.mem_append_right _ (List.mem_append_right _ (List.mem_append_right _ (List.mem_append_right _ (List.mem_append_right _ (List.mem_append_right _ (List.mem_append_right _ (List.mem_append_right _ (List.mem_append_right _ (List.mem_append_right _ (List.mem_append_right _ (List.mem_append_right _ (List.mem_append_right _ (List.mem_append_right _ (List.mem_append_right _ (List.mem_append_right _ (List.mem_append_right _ (List.mem_append_right _ (List.mem_append_right _ (List.mem_append_right _ (List.mem_append_right _ (List.mem_append_left _ h))))))))))))))))))))))))))))))
set_option maxRecDepth 100000 in
theorem zgd_wsX200 : ∀ w ∈ wsX200, goodWord w = true := by decide +kernel
theorem zin_wsX210 : ∀ w ∈ wsX210, w ∈ WR := fun _ h => List.mem_append_right _ (List.mem_append_right _ (List.mem_append_right _ (List.mem_append_right _ (List.mem_append_right _ (List.mem_append_right _ (List.mem_append_right _ (List.mem_append_right _ (List.mem_append_right _ (List.mem_append_right _ (List.mem_append_right _ (List.mem_append_right _ (List.mem_append_right _ (List.mem_append_right _ (List.mem_append_right _ (List.mem_append_right _ (List.mem_append_right _ (List.mem_append_right _ (List.mem_append_right _ (List.mem_append_right _ (List.mem_append_right _ (List.mem_append_right _ (List.mem_append_right _ (List.mem_append_right _ (List.mem_append_right _ (List.mem_append_right _ (List.mem_append_right _ (List.mem_append_right _ (List.mem_append_right _ (List.mem_append_right _ (List.mem_append_right _ (List.mem_append_left _ h)))))))))))))))))))))))))))))))
set_option maxRecDepth 100000 in
theorem zgd_wsX210 : ∀ w ∈ wsX210, goodWord w = true := by decide +kernel
theorem zin_wsJ00 : ∀ w ∈ wsJ00, w ∈ WR := fun _ h => List.mem_append_right _ (List.mem_append_right _ (List.mem_append_right _ (List.mem_append_right _ (List.mem_append_right _ (List.mem_append_right _ (List.mem_append_right _ (List.mem_append_right _ (List.mem_append_right _ (List.mem_append_right _ (List.mem_append_right _ (List.mem_append_right _ (List.mem_append_right _ (List.mem_append_right _ (List.mem_append_right _ (List.mem_append_right _ (List.mem_append_right _ (List.mem_append_right _ (List.mem_append_right _ (List.mem_append_right _ (List.mem_append_right _ (List.mem_append_right _ (List.mem_append_right _ (List.mem_append_right _ (List.mem_append_right _ (List.mem_append_right _ (List.mem_append_right _ (List.mem_append_right _ (List.mem_append_right _ (List.mem_append_right _ (List.mem_append_right _ (List.mem_append_right _ (List.mem_append_left _ h))))))))))))))))))))))))))))))))
set_option maxRecDepth 100000 in
theorem zgd_wsJ00 : ∀ w ∈ wsJ00, goodWord w = true := by decide +kernel
theorem zin_wsJ40 : ∀ w ∈ wsJ40, w ∈ WR := fun _ h => List.mem_append_right _ (List.mem_append_right _ (List.mem_append_right _ (List.mem_append_right _ (List.mem_append_right _ (List.mem_append_right _ (List.mem_append_right _ (List.mem_append_right _ (List.mem_append_right _ (List.mem_append_right _ (List.mem_append_right _ (List.mem_append_right _ (List.mem_append_right _ (List.mem_append_right _ (List.mem_append_right _ (List.mem_append_right _ (List.mem_append_right _ (List.mem_append_right _ (List.mem_append_right _ (List.mem_append_right _ (List.mem_append_right _ (List.mem_append_right _ (List.mem_append_right _ (List.mem_append_right _ (List.mem_append_right _ (List.mem_append_right _ (List.mem_append_right _ (List.mem_append_right _ (List.mem_append_right _ (List.mem_append_right _ (List.mem_append_right _ (List.mem_append_right _ (List.mem_append_right _ (h)))))))))))))))))))))))))))))))))
set_option maxRecDepth 100000 in
theorem zgd_wsJ40 : ∀ w ∈ wsJ40, goodWord w = true := by decide +kernel
theorem zgd : ∀ w ∈ WR, goodWord w = true := List.forall_mem_append.mpr ⟨zgd_zc_0, List.forall_mem_append.mpr ⟨zgd_zc_1, List.forall_mem_append.mpr ⟨zgd_zc_2, List.forall_mem_append.mpr ⟨zgd_zc_3, List.forall_mem_append.mpr ⟨zgd_zc_4, List.forall_mem_append.mpr ⟨zgd_zc_5, List.forall_mem_append.mpr ⟨zgd_zc_6, List.forall_mem_append.mpr ⟨zgd_zc_7, List.forall_mem_append.mpr ⟨zgd_zc_8, List.forall_mem_append.mpr ⟨zgd_zc_9, List.forall_mem_append.mpr ⟨zgd_zc_10, List.forall_mem_append.mpr ⟨zgd_zc_11, List.forall_mem_append.mpr ⟨zgd_wsX00, List.forall_mem_append.mpr ⟨zgd_wsX10, List.forall_mem_append.mpr ⟨zgd_wsX20, List.forall_mem_append.mpr ⟨zgd_wsX30, List.forall_mem_append.mpr ⟨zgd_wsX40, List.forall_mem_append.mpr ⟨zgd_wsX50, List.forall_mem_append.mpr ⟨zgd_wsX70, List.forall_mem_append.mpr ⟨zgd_wsX80, List.forall_mem_append.mpr ⟨zgd_wsX90, List.forall_mem_append.mpr ⟨zgd_wsX100, List.forall_mem_append.mpr ⟨zgd_wsX110, List.forall_mem_append.mpr ⟨zgd_wsX120, List.forall_mem_append.mpr ⟨zgd_wsX130, List.forall_mem_append.mpr ⟨zgd_wsX140, List.forall_mem_append.mpr ⟨zgd_wsX150, List.forall_mem_append.mpr ⟨zgd_wsX160, List.forall_mem_append.mpr ⟨zgd_wsX170, List.forall_mem_append.mpr ⟨zgd_wsX190, List.forall_mem_append.mpr ⟨zgd_wsX200, List.forall_mem_append.mpr ⟨zgd_wsX210, List.forall_mem_append.mpr ⟨zgd_wsJ00, zgd_wsJ40⟩⟩⟩⟩⟩⟩⟩⟩⟩⟩⟩⟩⟩⟩⟩⟩⟩⟩⟩⟩⟩⟩⟩⟩⟩⟩⟩⟩⟩⟩⟩⟩⟩
theorem zw_0 : (.code yX13_init cX13_init 2 none : Cond) ∈ WR := zin_zc_0 _ (List.mem_of_getElem? (i := 0) rfl)
theorem zw_1 : (.methodLink RX13 1 objectInit : Cond) ∈ WR := zin_zc_0 _ (List.mem_of_getElem? (i := 1) rfl)
theorem zw_2 : (.instanceMethod objectInit : Cond) ∈ WR := zin_zc_0 _ (List.mem_of_getElem? (i := 2) rfl)
theorem zw_3 : (.code objectInit ⟨#[0xb1]⟩ 1 none : Cond) ∈ WR := zin_zc_0 _ (List.mem_of_getElem? (i := 3) rfl)
theorem zw_4 : (.arrayClass .int : Cond) ∈ WR := zin_zc_0 _ (List.mem_of_getElem? (i := 4) rfl)
theorem zw_5 : (.fieldLink RX13 7 "ShellPairModel$Cipher" "round" "[I" : Cond) ∈ WR := zin_zc_0 _ (List.mem_of_getElem? (i := 5) rfl)
theorem zw_6 : (.fieldLink RX13 13 "ShellPairModel$Cipher" "state" "[I" : Cond) ∈ WR := zin_zc_0 _ (List.mem_of_getElem? (i := 6) rfl)
theorem zw_7 : (.fieldLink RX13 16 "ShellPairModel$Cipher" "moved" "[I" : Cond) ∈ WR := zin_zc_0 _ (List.mem_of_getElem? (i := 7) rfl)
theorem zw_8 : (.fieldLink RX13 19 "ShellPairModel$Cipher" "four" "[I" : Cond) ∈ WR := zin_zc_0 _ (List.mem_of_getElem? (i := 8) rfl)
theorem zw_9 : (.fieldLink RX13 22 "ShellPairModel$Cipher" "counter" "[I" : Cond) ∈ WR := zin_zc_0 _ (List.mem_of_getElem? (i := 9) rfl)
theorem zw_10 : (.arrayClass .byte : Cond) ∈ WR := zin_zc_0 _ (List.mem_of_getElem? (i := 10) rfl)
theorem zw_11 : (.fieldLink RX13 25 "ShellPairModel$Cipher" "secret" "[B" : Cond) ∈ WR := zin_zc_0 _ (List.mem_of_getElem? (i := 11) rfl)
theorem zw_12 : (.fieldLink RX13 29 "ShellPairModel$Cipher" "substitute" "[I" : Cond) ∈ WR := zin_zc_0 _ (List.mem_of_getElem? (i := 12) rfl)
theorem zw_13 : (.code yX13_box cX13_box 5 (some (.array .int)) : Cond) ∈ WR := zin_zc_0 _ (List.mem_of_getElem? (i := 13) rfl)
theorem zw_14 : (.methodLink RX13 32 yX13_times : Cond) ∈ WR := zin_zc_0 _ (List.mem_of_getElem? (i := 14) rfl)
theorem zw_15 : (.code yX13_times cX13_times 5 (some .int) : Cond) ∈ WR := zin_zc_0 _ (List.mem_of_getElem? (i := 15) rfl)
theorem zw_16 : (.static yX13_times : Cond) ∈ WR := zin_zc_0 _ (List.mem_of_getElem? (i := 16) rfl)
theorem zw_17 : (.initialized RX13 : Cond) ∈ WR := zin_zc_0 _ (List.mem_of_getElem? (i := 17) rfl)
theorem zw_18 : (.code yX14_init cX14_init 3 none : Cond) ∈ WR := zin_zc_0 _ (List.mem_of_getElem? (i := 18) rfl)
theorem zw_19 : (.fieldLink RX14 7 "ShellPairModel$Curve" "hashed" "[B" : Cond) ∈ WR := zin_zc_0 _ (List.mem_of_getElem? (i := 19) rfl)
theorem zw_20 : (.arrayClass .long : Cond) ∈ WR := zin_zc_0 _ (List.mem_of_getElem? (i := 20) rfl)
theorem zw_21 : (.fieldLink RX14 13 "ShellPairModel$Curve" "p" "[J" : Cond) ∈ WR := zin_zc_0 _ (List.mem_of_getElem? (i := 21) rfl)
theorem zw_22 : (.fieldLink RX14 17 "ShellPairModel$Curve" "pt" "[J" : Cond) ∈ WR := zin_zc_0 _ (List.mem_of_getElem? (i := 22) rfl)
theorem zw_23 : (.fieldLink RX14 20 "ShellPairModel$Curve" "order" "[J" : Cond) ∈ WR := zin_zc_0 _ (List.mem_of_getElem? (i := 23) rfl)
theorem zw_24 : (.fieldLink RX14 23 "ShellPairModel$Curve" "ot" "[J" : Cond) ∈ WR := zin_zc_0 _ (List.mem_of_getElem? (i := 24) rfl)
theorem zw_25 : (.fieldLink RX14 26 "ShellPairModel$Curve" "d" "[J" : Cond) ∈ WR := zin_zc_0 _ (List.mem_of_getElem? (i := 25) rfl)
theorem zw_26 : (.fieldLink RX14 29 "ShellPairModel$Curve" "root" "[J" : Cond) ∈ WR := zin_zc_0 _ (List.mem_of_getElem? (i := 26) rfl)
theorem zw_27 : (.fieldLink RX14 32 "ShellPairModel$Curve" "baseX" "[J" : Cond) ∈ WR := zin_zc_0 _ (List.mem_of_getElem? (i := 27) rfl)
theorem zw_28 : (.fieldLink RX14 35 "ShellPairModel$Curve" "baseY" "[J" : Cond) ∈ WR := zin_zc_0 _ (List.mem_of_getElem? (i := 28) rfl)
theorem zw_29 : (.fieldLink RX14 38 "ShellPairModel$Curve" "px" "[J" : Cond) ∈ WR := zin_zc_0 _ (List.mem_of_getElem? (i := 29) rfl)
theorem zw_30 : (.fieldLink RX14 41 "ShellPairModel$Curve" "py" "[J" : Cond) ∈ WR := zin_zc_0 _ (List.mem_of_getElem? (i := 30) rfl)
theorem zw_31 : (.fieldLink RX14 44 "ShellPairModel$Curve" "qx" "[J" : Cond) ∈ WR := zin_zc_0 _ (List.mem_of_getElem? (i := 31) rfl)
theorem zw_32 : (.fieldLink RX14 47 "ShellPairModel$Curve" "qy" "[J" : Cond) ∈ WR := zin_zc_0 _ (List.mem_of_getElem? (i := 32) rfl)
theorem zw_33 : (.fieldLink RX14 50 "ShellPairModel$Curve" "rx" "[J" : Cond) ∈ WR := zin_zc_0 _ (List.mem_of_getElem? (i := 33) rfl)
theorem zw_34 : (.fieldLink RX14 53 "ShellPairModel$Curve" "ry" "[J" : Cond) ∈ WR := zin_zc_0 _ (List.mem_of_getElem? (i := 34) rfl)
theorem zw_35 : (.fieldLink RX14 56 "ShellPairModel$Curve" "a" "[J" : Cond) ∈ WR := zin_zc_0 _ (List.mem_of_getElem? (i := 35) rfl)
theorem zw_36 : (.fieldLink RX14 59 "ShellPairModel$Curve" "b" "[J" : Cond) ∈ WR := zin_zc_0 _ (List.mem_of_getElem? (i := 36) rfl)
theorem zw_37 : (.fieldLink RX14 62 "ShellPairModel$Curve" "c" "[J" : Cond) ∈ WR := zin_zc_0 _ (List.mem_of_getElem? (i := 37) rfl)
theorem zw_38 : (.fieldLink RX14 65 "ShellPairModel$Curve" "e" "[J" : Cond) ∈ WR := zin_zc_0 _ (List.mem_of_getElem? (i := 38) rfl)
theorem zw_39 : (.fieldLink RX14 68 "ShellPairModel$Curve" "f" "[J" : Cond) ∈ WR := zin_zc_0 _ (List.mem_of_getElem? (i := 39) rfl)
theorem zw_40 : (.fieldLink RX14 71 "ShellPairModel$Curve" "g" "[J" : Cond) ∈ WR := zin_zc_1 _ (List.mem_of_getElem? (i := 0) rfl)
theorem zw_41 : (.fieldLink RX14 74 "ShellPairModel$Curve" "pz" "[J" : Cond) ∈ WR := zin_zc_1 _ (List.mem_of_getElem? (i := 1) rfl)
theorem zw_42 : (.fieldLink RX14 77 "ShellPairModel$Curve" "sx" "[J" : Cond) ∈ WR := zin_zc_1 _ (List.mem_of_getElem? (i := 2) rfl)
theorem zw_43 : (.fieldLink RX14 80 "ShellPairModel$Curve" "sy" "[J" : Cond) ∈ WR := zin_zc_1 _ (List.mem_of_getElem? (i := 3) rfl)
theorem zw_44 : (.fieldLink RX14 83 "ShellPairModel$Curve" "sz" "[J" : Cond) ∈ WR := zin_zc_1 _ (List.mem_of_getElem? (i := 4) rfl)
theorem zw_45 : (.fieldLink RX14 86 "ShellPairModel$Curve" "one" "[J" : Cond) ∈ WR := zin_zc_1 _ (List.mem_of_getElem? (i := 5) rfl)
theorem zw_46 : (.fieldLink RX14 89 "ShellPairModel$Curve" "scalar" "[J" : Cond) ∈ WR := zin_zc_1 _ (List.mem_of_getElem? (i := 6) rfl)
theorem zw_47 : (.fieldLink RX14 92 "ShellPairModel$Curve" "secret" "[J" : Cond) ∈ WR := zin_zc_1 _ (List.mem_of_getElem? (i := 7) rfl)
theorem zw_48 : (.fieldLink RX14 95 "ShellPairModel$Curve" "number" "[J" : Cond) ∈ WR := zin_zc_1 _ (List.mem_of_getElem? (i := 8) rfl)
theorem zw_49 : (.fieldLink RX14 98 "ShellPairModel$Curve" "ten" "[J" : Cond) ∈ WR := zin_zc_1 _ (List.mem_of_getElem? (i := 9) rfl)
theorem zw_50 : (.fieldLink RX14 101 "ShellPairModel$Curve" "row" "[B" : Cond) ∈ WR := zin_zc_1 _ (List.mem_of_getElem? (i := 10) rfl)
theorem zw_51 : (.fieldLink RX14 104 "ShellPairModel$Curve" "open" "[B" : Cond) ∈ WR := zin_zc_1 _ (List.mem_of_getElem? (i := 11) rfl)
theorem zw_52 : (.fieldLink RX14 107 "ShellPairModel$Curve" "first" "[B" : Cond) ∈ WR := zin_zc_1 _ (List.mem_of_getElem? (i := 12) rfl)
theorem zw_53 : (.fieldLink RX14 110 "ShellPairModel$Curve" "work" "[B" : Cond) ∈ WR := zin_zc_1 _ (List.mem_of_getElem? (i := 13) rfl)
theorem zw_54 : (.constant RX14 113 (54253) : Cond) ∈ WR := zin_zc_1 _ (List.mem_of_getElem? (i := 14) rfl)
theorem zw_55 : (.constant RX14 114 (40150) : Cond) ∈ WR := zin_zc_1 _ (List.mem_of_getElem? (i := 15) rfl)
theorem zw_56 : (.constant RX14 115 (41719) : Cond) ∈ WR := zin_zc_1 _ (List.mem_of_getElem? (i := 16) rfl)
theorem zw_57 : (.constant RX14 116 (63966) : Cond) ∈ WR := zin_zc_1 _ (List.mem_of_getElem? (i := 17) rfl)
theorem zw_58 : (.fieldLink RX14 117 "ShellPairModel$Curve" "low" "[I" : Cond) ∈ WR := zin_zc_1 _ (List.mem_of_getElem? (i := 18) rfl)
theorem zw_59 : (.fieldLink RX14 121 "ShellPairModel$Curve" "hasher" "LShellPairModel$Hash;" : Cond) ∈ WR := zin_zc_1 _ (List.mem_of_getElem? (i := 19) rfl)
theorem zw_60 : (.constantLong RX14 125 (65517) : Cond) ∈ WR := zin_zc_1 _ (List.mem_of_getElem? (i := 20) rfl)
theorem zw_61 : (.constantLong RX14 127 (32767) : Cond) ∈ WR := zin_zc_1 _ (List.mem_of_getElem? (i := 21) rfl)
theorem zw_62 : (.constantLong RX14 129 (65535) : Cond) ∈ WR := zin_zc_1 _ (List.mem_of_getElem? (i := 22) rfl)
theorem zw_63 : (.methodLink RX14 131 ⟨"ShellPairModel$Curve", "remainders", "([J[J[J)V"⟩ : Cond) ∈ WR := zin_zc_1 _ (List.mem_of_getElem? (i := 23) rfl)
theorem zw_64 : (.sameMethod "ShellPairModel$Curve" "ShellPairModel$Numbers" "remainders" "([J[J[J)V" : Cond) ∈ WR := zin_zc_1 _ (List.mem_of_getElem? (i := 24) rfl)
theorem zw_65 : (.static yX18_remainders : Cond) ∈ WR := zin_zc_1 _ (List.mem_of_getElem? (i := 25) rfl)
theorem zw_66 : (.initialized RX18 : Cond) ∈ WR := zin_zc_1 _ (List.mem_of_getElem? (i := 26) rfl)
theorem zw_67 : (.code yX18_remainders cX18_remainders 5 none : Cond) ∈ WR := zin_zc_1 _ (List.mem_of_getElem? (i := 27) rfl)
theorem zw_68 : (.constantLong RX14 135 (4096) : Cond) ∈ WR := zin_zc_1 _ (List.mem_of_getElem? (i := 28) rfl)
theorem zw_69 : (.methodLink RX14 137 ⟨"ShellPairModel$Curve", "set", "([JI)V"⟩ : Cond) ∈ WR := zin_zc_1 _ (List.mem_of_getElem? (i := 29) rfl)
theorem zw_70 : (.sameMethod "ShellPairModel$Curve" "ShellPairModel$Numbers" "set" "([JI)V" : Cond) ∈ WR := zin_zc_1 _ (List.mem_of_getElem? (i := 30) rfl)
theorem zw_71 : (.static yX18_set : Cond) ∈ WR := zin_zc_1 _ (List.mem_of_getElem? (i := 31) rfl)
theorem zw_72 : (.code yX18_set cX18_set 3 none : Cond) ∈ WR := zin_zc_1 _ (List.mem_of_getElem? (i := 32) rfl)
theorem zw_73 : (.constantLong RX14 141 (56129) : Cond) ∈ WR := zin_zc_1 _ (List.mem_of_getElem? (i := 33) rfl)
theorem zw_74 : (.constantLong RX14 143 (56130) : Cond) ∈ WR := zin_zc_1 _ (List.mem_of_getElem? (i := 34) rfl)
theorem zw_75 : (.methodLink RX14 145 ⟨"ShellPairModel$Curve", "inverse", "([J[J[J)V"⟩ : Cond) ∈ WR := zin_zc_1 _ (List.mem_of_getElem? (i := 35) rfl)
theorem zw_76 : (.selects RX14 ⟨"ShellPairModel$Curve", "inverse", "([J[J[J)V"⟩ yX18_inverse : Cond) ∈ WR := zin_zc_1 _ (List.mem_of_getElem? (i := 36) rfl)
theorem zw_77 : (.code yX18_inverse cX18_inverse 5 none : Cond) ∈ WR := zin_zc_1 _ (List.mem_of_getElem? (i := 37) rfl)
theorem zw_78 : (.sameMethod "ShellPairModel$Curve" "ShellPairModel$Numbers" "inverse" "([J[J[J)V" : Cond) ∈ WR := zin_zc_1 _ (List.mem_of_getElem? (i := 38) rfl)
theorem zw_79 : (.instanceMethod yX18_inverse : Cond) ∈ WR := zin_zc_1 _ (List.mem_of_getElem? (i := 39) rfl)
theorem zw_80 : (.methodLink RX14 148 ⟨"ShellPairModel$Curve", "times", "([J[J[J[J[J)V"⟩ : Cond) ∈ WR := zin_zc_2 _ (List.mem_of_getElem? (i := 0) rfl)
theorem zw_81 : (.selects RX14 ⟨"ShellPairModel$Curve", "times", "([J[J[J[J[J)V"⟩ yX18_times : Cond) ∈ WR := zin_zc_2 _ (List.mem_of_getElem? (i := 1) rfl)
theorem zw_82 : (.code yX18_times cX18_times 10 none : Cond) ∈ WR := zin_zc_2 _ (List.mem_of_getElem? (i := 2) rfl)
theorem zw_83 : (.sameMethod "ShellPairModel$Curve" "ShellPairModel$Numbers" "times" "([J[J[J[J[J)V" : Cond) ∈ WR := zin_zc_2 _ (List.mem_of_getElem? (i := 3) rfl)
theorem zw_84 : (.instanceMethod yX18_times : Cond) ∈ WR := zin_zc_2 _ (List.mem_of_getElem? (i := 4) rfl)
theorem zw_85 : (.methodLink RX14 152 ⟨"ShellPairModel$Curve", "minus", "([J[J[J[J)V"⟩ : Cond) ∈ WR := zin_zc_2 _ (List.mem_of_getElem? (i := 5) rfl)
theorem zw_86 : (.sameMethod "ShellPairModel$Curve" "ShellPairModel$Numbers" "minus" "([J[J[J[J)V" : Cond) ∈ WR := zin_zc_2 _ (List.mem_of_getElem? (i := 6) rfl)
theorem zw_87 : (.static yX18_minus : Cond) ∈ WR := zin_zc_2 _ (List.mem_of_getElem? (i := 7) rfl)
theorem zw_88 : (.code yX18_minus cX18_minus 9 none : Cond) ∈ WR := zin_zc_2 _ (List.mem_of_getElem? (i := 8) rfl)
theorem zw_89 : (.constantLong RX14 156 (65531) : Cond) ∈ WR := zin_zc_2 _ (List.mem_of_getElem? (i := 9) rfl)
theorem zw_90 : (.constantLong RX14 158 (8191) : Cond) ∈ WR := zin_zc_2 _ (List.mem_of_getElem? (i := 10) rfl)
theorem zw_91 : (.methodLink RX14 160 yX14_power : Cond) ∈ WR := zin_zc_2 _ (List.mem_of_getElem? (i := 11) rfl)
theorem zw_92 : (.code yX14_power cX14_power 5 none : Cond) ∈ WR := zin_zc_2 _ (List.mem_of_getElem? (i := 12) rfl)
theorem zw_93 : (.instanceMethod yX14_power : Cond) ∈ WR := zin_zc_2 _ (List.mem_of_getElem? (i := 13) rfl)
theorem zw_94 : (.selects RX14 yX14_power yX14_power : Cond) ∈ WR := zin_zc_2 _ (List.mem_of_getElem? (i := 14) rfl)
theorem zw_95 : (.initialized RX14 : Cond) ∈ WR := zin_zc_2 _ (List.mem_of_getElem? (i := 15) rfl)
theorem zw_96 : (.methodLink RX14 163 yX14_decode : Cond) ∈ WR := zin_zc_2 _ (List.mem_of_getElem? (i := 16) rfl)
theorem zw_97 : (.code yX14_decode cX14_decode 2 (some .boolean) : Cond) ∈ WR := zin_zc_2 _ (List.mem_of_getElem? (i := 17) rfl)
theorem zw_98 : (.instanceMethod yX14_decode : Cond) ∈ WR := zin_zc_2 _ (List.mem_of_getElem? (i := 18) rfl)
theorem zw_99 : (.selects RX14 yX14_decode yX14_decode : Cond) ∈ WR := zin_zc_2 _ (List.mem_of_getElem? (i := 19) rfl)
theorem zw_100 : (.methodLink RX14 167 ⟨"ShellPairModel$Curve", "copy", "([J[J)V"⟩ : Cond) ∈ WR := zin_zc_2 _ (List.mem_of_getElem? (i := 20) rfl)
theorem zw_101 : (.sameMethod "ShellPairModel$Curve" "ShellPairModel$Numbers" "copy" "([J[J)V" : Cond) ∈ WR := zin_zc_2 _ (List.mem_of_getElem? (i := 21) rfl)
theorem zw_102 : (.static yX18_copy : Cond) ∈ WR := zin_zc_2 _ (List.mem_of_getElem? (i := 22) rfl)
theorem zw_103 : (.code yX18_copy cX18_copy 3 none : Cond) ∈ WR := zin_zc_2 _ (List.mem_of_getElem? (i := 23) rfl)
theorem zw_104 : (.methodLink RX14 171 ⟨"ShellPairModel$Curve", "bit", "([JI)I"⟩ : Cond) ∈ WR := zin_zc_2 _ (List.mem_of_getElem? (i := 24) rfl)
theorem zw_105 : (.sameMethod "ShellPairModel$Curve" "ShellPairModel$Numbers" "bit" "([JI)I" : Cond) ∈ WR := zin_zc_2 _ (List.mem_of_getElem? (i := 25) rfl)
theorem zw_106 : (.static yX18_bit : Cond) ∈ WR := zin_zc_2 _ (List.mem_of_getElem? (i := 26) rfl)
theorem zw_107 : (.code yX18_bit cX18_bit 2 (some .int) : Cond) ∈ WR := zin_zc_2 _ (List.mem_of_getElem? (i := 27) rfl)
theorem zw_108 : (.methodLink RX14 175 ⟨"ShellPairModel$Curve", "below", "([J[J)Z"⟩ : Cond) ∈ WR := zin_zc_2 _ (List.mem_of_getElem? (i := 28) rfl)
theorem zw_109 : (.sameMethod "ShellPairModel$Curve" "ShellPairModel$Numbers" "below" "([J[J)Z" : Cond) ∈ WR := zin_zc_2 _ (List.mem_of_getElem? (i := 29) rfl)
theorem zw_110 : (.static yX18_below : Cond) ∈ WR := zin_zc_2 _ (List.mem_of_getElem? (i := 30) rfl)
theorem zw_111 : (.code yX18_below cX18_below 3 (some .boolean) : Cond) ∈ WR := zin_zc_2 _ (List.mem_of_getElem? (i := 31) rfl)
theorem zw_112 : (.methodLink RX14 179 ⟨"ShellPairModel$Curve", "plus", "([J[J[J[J)V"⟩ : Cond) ∈ WR := zin_zc_2 _ (List.mem_of_getElem? (i := 32) rfl)
theorem zw_113 : (.sameMethod "ShellPairModel$Curve" "ShellPairModel$Numbers" "plus" "([J[J[J[J)V" : Cond) ∈ WR := zin_zc_2 _ (List.mem_of_getElem? (i := 33) rfl)
theorem zw_114 : (.static yX18_plus : Cond) ∈ WR := zin_zc_2 _ (List.mem_of_getElem? (i := 34) rfl)
theorem zw_115 : (.code yX18_plus cX18_plus 7 none : Cond) ∈ WR := zin_zc_2 _ (List.mem_of_getElem? (i := 35) rfl)
theorem zw_116 : (.constantLong RX14 182 (65534) : Cond) ∈ WR := zin_zc_2 _ (List.mem_of_getElem? (i := 36) rfl)
theorem zw_117 : (.constantLong RX14 184 (4095) : Cond) ∈ WR := zin_zc_2 _ (List.mem_of_getElem? (i := 37) rfl)
theorem zw_118 : (.methodLink RX14 186 ⟨"ShellPairModel$Curve", "alike", "([J[J)Z"⟩ : Cond) ∈ WR := zin_zc_2 _ (List.mem_of_getElem? (i := 38) rfl)
theorem zw_119 : (.sameMethod "ShellPairModel$Curve" "ShellPairModel$Numbers" "alike" "([J[J)Z" : Cond) ∈ WR := zin_zc_2 _ (List.mem_of_getElem? (i := 39) rfl)
theorem zw_120 : (.static yX18_alike : Cond) ∈ WR := zin_zc_3 _ (List.mem_of_getElem? (i := 0) rfl)
theorem zw_121 : (.code yX18_alike cX18_alike 3 (some .boolean) : Cond) ∈ WR := zin_zc_3 _ (List.mem_of_getElem? (i := 1) rfl)
theorem zw_122 : (.methodLink RX14 189 ⟨"ShellPairModel$Curve", "zero", "([J)Z"⟩ : Cond) ∈ WR := zin_zc_3 _ (List.mem_of_getElem? (i := 2) rfl)
theorem zw_123 : (.sameMethod "ShellPairModel$Curve" "ShellPairModel$Numbers" "zero" "([J)Z" : Cond) ∈ WR := zin_zc_3 _ (List.mem_of_getElem? (i := 3) rfl)
theorem zw_124 : (.static yX18_zero : Cond) ∈ WR := zin_zc_3 _ (List.mem_of_getElem? (i := 4) rfl)
theorem zw_125 : (.code yX18_zero cX18_zero 2 (some .boolean) : Cond) ∈ WR := zin_zc_3 _ (List.mem_of_getElem? (i := 5) rfl)
theorem zw_126 : (.code yX15_init cX15_init 4 none : Cond) ∈ WR := zin_zc_3 _ (List.mem_of_getElem? (i := 6) rfl)
theorem zw_127 : (.methodLink RX15 1 objectInit : Cond) ∈ WR := zin_zc_3 _ (List.mem_of_getElem? (i := 7) rfl)
theorem zw_128 : (.constant RX15 7 (1073741824) : Cond) ∈ WR := zin_zc_3 _ (List.mem_of_getElem? (i := 8) rfl)
theorem zw_129 : (.fieldLink RX15 8 "ShellPairModel$End" "set" "[I" : Cond) ∈ WR := zin_zc_3 _ (List.mem_of_getElem? (i := 9) rfl)
theorem zw_130 : (.fieldLink RX15 14 "ShellPairModel$End" "seed" "[B" : Cond) ∈ WR := zin_zc_3 _ (List.mem_of_getElem? (i := 10) rfl)
theorem zw_131 : (.fieldLink RX15 18 "ShellPairModel$End" "block" "[B" : Cond) ∈ WR := zin_zc_3 _ (List.mem_of_getElem? (i := 11) rfl)
theorem zw_132 : (.classLink RX15 21 RX19 : Cond) ∈ WR := zin_zc_3 _ (List.mem_of_getElem? (i := 12) rfl)
theorem zw_133 : (.instantiable RX19 3 : Cond) ∈ WR := zin_zc_3 _ (List.mem_of_getElem? (i := 13) rfl)
theorem zw_134 : (.initialized RX19 : Cond) ∈ WR := zin_zc_3 _ (List.mem_of_getElem? (i := 14) rfl)
theorem zw_135 : (.methodLink RX15 23 yX19_init : Cond) ∈ WR := zin_zc_3 _ (List.mem_of_getElem? (i := 15) rfl)
theorem zw_136 : (.code yX19_init cX19_init 1 none : Cond) ∈ WR := zin_zc_3 _ (List.mem_of_getElem? (i := 16) rfl)
theorem zw_137 : (.instanceMethod yX19_init : Cond) ∈ WR := zin_zc_3 _ (List.mem_of_getElem? (i := 17) rfl)
theorem zw_138 : (.fieldLink RX15 24 "ShellPairModel$End" "line" "LShellPairModel$Row;" : Cond) ∈ WR := zin_zc_3 _ (List.mem_of_getElem? (i := 18) rfl)
theorem zw_139 : (.fieldLink RX15 33 "ShellPairModel$End" "version" "[B" : Cond) ∈ WR := zin_zc_3 _ (List.mem_of_getElem? (i := 19) rfl)
theorem zw_140 : (.constant RX15 36 (35100) : Cond) ∈ WR := zin_zc_3 _ (List.mem_of_getElem? (i := 20) rfl)
theorem zw_141 : (.fieldLink RX15 37 "ShellPairModel$End" "packet" "[B" : Cond) ∈ WR := zin_zc_3 _ (List.mem_of_getElem? (i := 21) rfl)
theorem zw_142 : (.fieldLink RX15 40 "ShellPairModel$End" "own" "[B" : Cond) ∈ WR := zin_zc_3 _ (List.mem_of_getElem? (i := 22) rfl)
theorem zw_143 : (.fieldLink RX15 43 "ShellPairModel$End" "others" "[B" : Cond) ∈ WR := zin_zc_3 _ (List.mem_of_getElem? (i := 23) rfl)
theorem zw_144 : (.fieldLink RX15 46 "ShellPairModel$End" "chosen" "[I" : Cond) ∈ WR := zin_zc_3 _ (List.mem_of_getElem? (i := 24) rfl)
theorem zw_145 : (.fieldLink RX15 49 "ShellPairModel$End" "held" "LShellPairModel$Row;" : Cond) ∈ WR := zin_zc_3 _ (List.mem_of_getElem? (i := 25) rfl)
theorem zw_146 : (.fieldLink RX15 52 "ShellPairModel$End" "spare" "LShellPairModel$Row;" : Cond) ∈ WR := zin_zc_3 _ (List.mem_of_getElem? (i := 26) rfl)
theorem zw_147 : (.classLink RX15 55 RX20 : Cond) ∈ WR := zin_zc_3 _ (List.mem_of_getElem? (i := 27) rfl)
theorem zw_148 : (.instantiable RX20 27 : Cond) ∈ WR := zin_zc_3 _ (List.mem_of_getElem? (i := 28) rfl)
theorem zw_149 : (.initialized RX20 : Cond) ∈ WR := zin_zc_3 _ (List.mem_of_getElem? (i := 29) rfl)
theorem zw_150 : (.fieldLink RX15 57 "ShellPairModel$End" "sides" "[LShellPairModel$Side;" : Cond) ∈ WR := zin_zc_3 _ (List.mem_of_getElem? (i := 30) rfl)
theorem zw_151 : (.fieldLink RX15 61 "ShellPairModel$End" "e" "I" : Cond) ∈ WR := zin_zc_3 _ (List.mem_of_getElem? (i := 31) rfl)
theorem zw_152 : (.classLink RX15 65 RX13 : Cond) ∈ WR := zin_zc_3 _ (List.mem_of_getElem? (i := 32) rfl)
theorem zw_153 : (.instantiable RX13 10 : Cond) ∈ WR := zin_zc_3 _ (List.mem_of_getElem? (i := 33) rfl)
theorem zw_154 : (.methodLink RX15 67 yX13_init : Cond) ∈ WR := zin_zc_3 _ (List.mem_of_getElem? (i := 34) rfl)
theorem zw_155 : (.instanceMethod yX13_init : Cond) ∈ WR := zin_zc_3 _ (List.mem_of_getElem? (i := 35) rfl)
theorem zw_156 : (.fieldLink RX15 70 "ShellPairModel$End" "out" "LShellPairModel$Cipher;" : Cond) ∈ WR := zin_zc_3 _ (List.mem_of_getElem? (i := 36) rfl)
theorem zw_157 : (.fieldLink RX15 74 "ShellPairModel$End" "in" "LShellPairModel$Cipher;" : Cond) ∈ WR := zin_zc_3 _ (List.mem_of_getElem? (i := 37) rfl)
theorem zw_158 : (.code yX16_init cX16_init 1 none : Cond) ∈ WR := zin_zc_3 _ (List.mem_of_getElem? (i := 38) rfl)
theorem zw_159 : (.methodLink RX16 1 objectInit : Cond) ∈ WR := zin_zc_3 _ (List.mem_of_getElem? (i := 39) rfl)
theorem zw_160 : (.code yX17_init cX17_init 3 none : Cond) ∈ WR := zin_zc_4 _ (List.mem_of_getElem? (i := 0) rfl)
theorem zw_161 : (.methodLink RX17 1 objectInit : Cond) ∈ WR := zin_zc_4 _ (List.mem_of_getElem? (i := 1) rfl)
theorem zw_162 : (.fieldLink RX17 7 "ShellPairModel$Hash" "roots" "[J" : Cond) ∈ WR := zin_zc_4 _ (List.mem_of_getElem? (i := 2) rfl)
theorem zw_163 : (.fieldLink RX17 13 "ShellPairModel$Hash" "starts" "[J" : Cond) ∈ WR := zin_zc_4 _ (List.mem_of_getElem? (i := 3) rfl)
theorem zw_164 : (.fieldLink RX17 16 "ShellPairModel$Hash" "words" "[J" : Cond) ∈ WR := zin_zc_4 _ (List.mem_of_getElem? (i := 4) rfl)
theorem zw_165 : (.fieldLink RX17 19 "ShellPairModel$Hash" "state" "[J" : Cond) ∈ WR := zin_zc_4 _ (List.mem_of_getElem? (i := 5) rfl)
theorem zw_166 : (.fieldLink RX17 22 "ShellPairModel$Hash" "left" "[J" : Cond) ∈ WR := zin_zc_4 _ (List.mem_of_getElem? (i := 6) rfl)
theorem zw_167 : (.fieldLink RX17 25 "ShellPairModel$Hash" "cube" "[J" : Cond) ∈ WR := zin_zc_4 _ (List.mem_of_getElem? (i := 7) rfl)
theorem zw_168 : (.fieldLink RX17 28 "ShellPairModel$Hash" "out" "[B" : Cond) ∈ WR := zin_zc_4 _ (List.mem_of_getElem? (i := 8) rfl)
theorem zw_169 : (.fieldLink RX17 32 "ShellPairModel$Hash" "pad" "[B" : Cond) ∈ WR := zin_zc_4 _ (List.mem_of_getElem? (i := 9) rfl)
theorem zw_170 : (.constant RX17 35 (36000) : Cond) ∈ WR := zin_zc_4 _ (List.mem_of_getElem? (i := 10) rfl)
theorem zw_171 : (.fieldLink RX17 36 "ShellPairModel$Hash" "work" "[B" : Cond) ∈ WR := zin_zc_4 _ (List.mem_of_getElem? (i := 11) rfl)
theorem zw_172 : (.fieldLink RX17 39 "ShellPairModel$Hash" "info" "[B" : Cond) ∈ WR := zin_zc_4 _ (List.mem_of_getElem? (i := 12) rfl)
theorem zw_173 : (.fieldLink RX17 42 "ShellPairModel$Hash" "last" "[B" : Cond) ∈ WR := zin_zc_4 _ (List.mem_of_getElem? (i := 13) rfl)
theorem zw_174 : (.fieldLink RX17 45 "ShellPairModel$Hash" "name" "[B" : Cond) ∈ WR := zin_zc_4 _ (List.mem_of_getElem? (i := 14) rfl)
theorem zw_175 : (.classLink RX17 48 "[B" : Cond) ∈ WR := zin_zc_4 _ (List.mem_of_getElem? (i := 15) rfl)
theorem zw_176 : (.fieldLink RX17 49 "ShellPairModel$Hash" "empties" "[[B" : Cond) ∈ WR := zin_zc_4 _ (List.mem_of_getElem? (i := 16) rfl)
theorem zw_177 : (.methodLink RX17 53 yX17_prime : Cond) ∈ WR := zin_zc_4 _ (List.mem_of_getElem? (i := 17) rfl)
theorem zw_178 : (.code yX17_prime cX17_prime 4 (some .int) : Cond) ∈ WR := zin_zc_4 _ (List.mem_of_getElem? (i := 18) rfl)
theorem zw_179 : (.static yX17_prime : Cond) ∈ WR := zin_zc_4 _ (List.mem_of_getElem? (i := 19) rfl)
theorem zw_180 : (.initialized RX17 : Cond) ∈ WR := zin_zc_4 _ (List.mem_of_getElem? (i := 20) rfl)
theorem zw_181 : (.methodLink RX17 57 yX17_root : Cond) ∈ WR := zin_zc_4 _ (List.mem_of_getElem? (i := 21) rfl)
theorem zw_182 : (.code yX17_root cX17_root 12 (some .long) : Cond) ∈ WR := zin_zc_4 _ (List.mem_of_getElem? (i := 22) rfl)
theorem zw_183 : (.instanceMethod yX17_root : Cond) ∈ WR := zin_zc_4 _ (List.mem_of_getElem? (i := 23) rfl)
theorem zw_184 : (.selects RX17 yX17_root yX17_root : Cond) ∈ WR := zin_zc_4 _ (List.mem_of_getElem? (i := 24) rfl)
theorem zw_185 : (.methodLink RX17 61 yX17_fits : Cond) ∈ WR := zin_zc_4 _ (List.mem_of_getElem? (i := 25) rfl)
theorem zw_186 : (.code yX17_fits cX17_fits 10 (some .boolean) : Cond) ∈ WR := zin_zc_4 _ (List.mem_of_getElem? (i := 26) rfl)
theorem zw_187 : (.instanceMethod yX17_fits : Cond) ∈ WR := zin_zc_4 _ (List.mem_of_getElem? (i := 27) rfl)
theorem zw_188 : (.selects RX17 yX17_fits yX17_fits : Cond) ∈ WR := zin_zc_4 _ (List.mem_of_getElem? (i := 28) rfl)
theorem zw_189 : (.methodLink RX17 65 yX17_times : Cond) ∈ WR := zin_zc_4 _ (List.mem_of_getElem? (i := 29) rfl)
theorem zw_190 : (.code yX17_times cX17_times 13 none : Cond) ∈ WR := zin_zc_4 _ (List.mem_of_getElem? (i := 30) rfl)
theorem zw_191 : (.instanceMethod yX17_times : Cond) ∈ WR := zin_zc_4 _ (List.mem_of_getElem? (i := 31) rfl)
theorem zw_192 : (.selects RX17 yX17_times yX17_times : Cond) ∈ WR := zin_zc_4 _ (List.mem_of_getElem? (i := 32) rfl)
theorem zw_193 : (.constantLong RX17 69 (4294967295) : Cond) ∈ WR := zin_zc_4 _ (List.mem_of_getElem? (i := 33) rfl)
theorem zw_194 : (.code yX18_init cX18_init 1 none : Cond) ∈ WR := zin_zc_4 _ (List.mem_of_getElem? (i := 34) rfl)
theorem zw_195 : (.methodLink RX18 1 objectInit : Cond) ∈ WR := zin_zc_4 _ (List.mem_of_getElem? (i := 35) rfl)
theorem zw_196 : (.fieldLink RX18 7 "ShellPairModel$Numbers" "product" "[J" : Cond) ∈ WR := zin_zc_4 _ (List.mem_of_getElem? (i := 36) rfl)
theorem zw_197 : (.fieldLink RX18 13 "ShellPairModel$Numbers" "sum" "[J" : Cond) ∈ WR := zin_zc_4 _ (List.mem_of_getElem? (i := 37) rfl)
theorem zw_198 : (.fieldLink RX18 16 "ShellPairModel$Numbers" "u" "[J" : Cond) ∈ WR := zin_zc_4 _ (List.mem_of_getElem? (i := 38) rfl)
theorem zw_199 : (.fieldLink RX18 19 "ShellPairModel$Numbers" "v" "[J" : Cond) ∈ WR := zin_zc_4 _ (List.mem_of_getElem? (i := 39) rfl)
theorem zw_200 : (.fieldLink RX18 22 "ShellPairModel$Numbers" "x1" "[J" : Cond) ∈ WR := zin_zc_5 _ (List.mem_of_getElem? (i := 0) rfl)
theorem zw_201 : (.fieldLink RX18 25 "ShellPairModel$Numbers" "x2" "[J" : Cond) ∈ WR := zin_zc_5 _ (List.mem_of_getElem? (i := 1) rfl)
theorem zw_202 : (.code yX18_less cX18_less 8 none : Cond) ∈ WR := zin_zc_5 _ (List.mem_of_getElem? (i := 2) rfl)
theorem zw_203 : (.constantLong RX18 28 (65535) : Cond) ∈ WR := zin_zc_5 _ (List.mem_of_getElem? (i := 3) rfl)
theorem zw_204 : (.methodLink RX18 30 yX18_below : Cond) ∈ WR := zin_zc_5 _ (List.mem_of_getElem? (i := 4) rfl)
theorem zw_205 : (.methodLink RX18 34 yX18_less : Cond) ∈ WR := zin_zc_5 _ (List.mem_of_getElem? (i := 5) rfl)
theorem zw_206 : (.static yX18_less : Cond) ∈ WR := zin_zc_5 _ (List.mem_of_getElem? (i := 6) rfl)
theorem zw_207 : (.methodLink RX18 38 yX18_set : Cond) ∈ WR := zin_zc_5 _ (List.mem_of_getElem? (i := 7) rfl)
theorem zw_208 : (.methodLink RX18 42 yX18_plus : Cond) ∈ WR := zin_zc_5 _ (List.mem_of_getElem? (i := 8) rfl)
theorem zw_209 : (.code yX18_reduce cX18_reduce 10 none : Cond) ∈ WR := zin_zc_5 _ (List.mem_of_getElem? (i := 9) rfl)
theorem zw_210 : (.methodLink RX18 46 ⟨"ShellPairModel$Numbers", "reduce", "([J[J[J)V"⟩ : Cond) ∈ WR := zin_zc_5 _ (List.mem_of_getElem? (i := 10) rfl)
theorem zw_211 : (.selects RX14 ⟨"ShellPairModel$Numbers", "reduce", "([J[J[J)V"⟩ yX18_reduce : Cond) ∈ WR := zin_zc_5 _ (List.mem_of_getElem? (i := 11) rfl)
theorem zw_212 : (.sameMethod "ShellPairModel$Numbers" "ShellPairModel$Numbers" "reduce" "([J[J[J)V" : Cond) ∈ WR := zin_zc_5 _ (List.mem_of_getElem? (i := 12) rfl)
theorem zw_213 : (.instanceMethod yX18_reduce : Cond) ∈ WR := zin_zc_5 _ (List.mem_of_getElem? (i := 13) rfl)
theorem zw_214 : (.sameMethod "ShellPairModel$Curve" "ShellPairModel$Numbers" "reduce" "([J[J[J)V" : Cond) ∈ WR := zin_zc_5 _ (List.mem_of_getElem? (i := 14) rfl)
theorem zw_215 : (.code yX18_half cX18_half 5 none : Cond) ∈ WR := zin_zc_5 _ (List.mem_of_getElem? (i := 15) rfl)
theorem zw_216 : (.code yX18_halve cX18_halve 2 none : Cond) ∈ WR := zin_zc_5 _ (List.mem_of_getElem? (i := 16) rfl)
theorem zw_217 : (.code yX18_one cX18_one 2 (some .boolean) : Cond) ∈ WR := zin_zc_5 _ (List.mem_of_getElem? (i := 17) rfl)
theorem zw_218 : (.methodLink RX18 49 yX18_copy : Cond) ∈ WR := zin_zc_5 _ (List.mem_of_getElem? (i := 18) rfl)
theorem zw_219 : (.methodLink RX18 53 yX18_zero : Cond) ∈ WR := zin_zc_5 _ (List.mem_of_getElem? (i := 19) rfl)
theorem zw_220 : (.methodLink RX18 57 yX18_one : Cond) ∈ WR := zin_zc_5 _ (List.mem_of_getElem? (i := 20) rfl)
theorem zw_221 : (.static yX18_one : Cond) ∈ WR := zin_zc_5 _ (List.mem_of_getElem? (i := 21) rfl)
theorem zw_222 : (.methodLink RX18 60 yX18_halve : Cond) ∈ WR := zin_zc_5 _ (List.mem_of_getElem? (i := 22) rfl)
theorem zw_223 : (.static yX18_halve : Cond) ∈ WR := zin_zc_5 _ (List.mem_of_getElem? (i := 23) rfl)
theorem zw_224 : (.methodLink RX18 64 yX18_half : Cond) ∈ WR := zin_zc_5 _ (List.mem_of_getElem? (i := 24) rfl)
theorem zw_225 : (.static yX18_half : Cond) ∈ WR := zin_zc_5 _ (List.mem_of_getElem? (i := 25) rfl)
theorem zw_226 : (.methodLink RX18 67 yX18_minus : Cond) ∈ WR := zin_zc_5 _ (List.mem_of_getElem? (i := 26) rfl)
theorem zw_227 : (.methodLink RX19 1 objectInit : Cond) ∈ WR := zin_zc_5 _ (List.mem_of_getElem? (i := 27) rfl)
theorem zw_228 : (.fieldLink RX19 7 "ShellPairModel$Row" "b" "[B" : Cond) ∈ WR := zin_zc_5 _ (List.mem_of_getElem? (i := 28) rfl)
theorem zw_229 : (.code yX19_init_ cX19_init_ 2 none : Cond) ∈ WR := zin_zc_5 _ (List.mem_of_getElem? (i := 29) rfl)
theorem zw_230 : (.code yX19_size cX19_size 1 (some .int) : Cond) ∈ WR := zin_zc_5 _ (List.mem_of_getElem? (i := 30) rfl)
theorem zw_231 : (.fieldLink RX19 13 "ShellPairModel$Row" "n" "I" : Cond) ∈ WR := zin_zc_5 _ (List.mem_of_getElem? (i := 31) rfl)
theorem zw_232 : (.fieldLink RX19 17 "ShellPairModel$Row" "from" "I" : Cond) ∈ WR := zin_zc_5 _ (List.mem_of_getElem? (i := 32) rfl)
theorem zw_233 : (.code yX19_add_ cX19_add_ 5 none : Cond) ∈ WR := zin_zc_5 _ (List.mem_of_getElem? (i := 33) rfl)
theorem zw_234 : (.methodLink RX19 21 yX19_add : Cond) ∈ WR := zin_zc_5 _ (List.mem_of_getElem? (i := 34) rfl)
theorem zw_235 : (.code yX19_take cX19_take 2 (some .int) : Cond) ∈ WR := zin_zc_5 _ (List.mem_of_getElem? (i := 35) rfl)
theorem zw_236 : (.methodLink RX19 42 yX19_clear : Cond) ∈ WR := zin_zc_5 _ (List.mem_of_getElem? (i := 36) rfl)
theorem zw_237 : (.code yX20_init cX20_init 1 none : Cond) ∈ WR := zin_zc_5 _ (List.mem_of_getElem? (i := 37) rfl)
theorem zw_238 : (.methodLink RX20 1 objectInit : Cond) ∈ WR := zin_zc_5 _ (List.mem_of_getElem? (i := 38) rfl)
theorem zw_239 : (.fieldLink RX20 7 "ShellPairModel$Side" "state" "I" : Cond) ∈ WR := zin_zc_5 _ (List.mem_of_getElem? (i := 39) rfl)
theorem zw_240 : (.classLink RX20 13 RX19 : Cond) ∈ WR := zin_zc_6 _ (List.mem_of_getElem? (i := 0) rfl)
theorem zw_241 : (.methodLink RX20 15 yX19_init : Cond) ∈ WR := zin_zc_6 _ (List.mem_of_getElem? (i := 1) rfl)
theorem zw_242 : (.fieldLink RX20 16 "ShellPairModel$Side" "out" "LShellPairModel$Row;" : Cond) ∈ WR := zin_zc_6 _ (List.mem_of_getElem? (i := 2) rfl)
theorem zw_243 : (.fieldLink RX20 20 "ShellPairModel$Side" "errors" "LShellPairModel$Row;" : Cond) ∈ WR := zin_zc_6 _ (List.mem_of_getElem? (i := 3) rfl)
theorem zw_244 : (.fieldLink RX20 23 "ShellPairModel$Side" "in" "LShellPairModel$Row;" : Cond) ∈ WR := zin_zc_6 _ (List.mem_of_getElem? (i := 4) rfl)
theorem zw_245 : (.fieldLink RX20 26 "ShellPairModel$Side" "inErrors" "LShellPairModel$Row;" : Cond) ∈ WR := zin_zc_6 _ (List.mem_of_getElem? (i := 5) rfl)
theorem zw_246 : (.fieldLink RX20 29 "ShellPairModel$Side" "status" "I" : Cond) ∈ WR := zin_zc_6 _ (List.mem_of_getElem? (i := 6) rfl)
theorem zw_247 : (.fieldLink RX20 38 "ShellPairModel$Side" "name" "[B" : Cond) ∈ WR := zin_zc_6 _ (List.mem_of_getElem? (i := 7) rfl)
theorem zw_248 : (.fieldLink RX20 41 "ShellPairModel$Side" "kept" "LShellPairModel$Row;" : Cond) ∈ WR := zin_zc_6 _ (List.mem_of_getElem? (i := 8) rfl)
theorem zw_249 : (.code yX21_init cX21_init 1 none : Cond) ∈ WR := zin_zc_6 _ (List.mem_of_getElem? (i := 9) rfl)
theorem zw_250 : (.methodLink RX21 1 objectInit : Cond) ∈ WR := zin_zc_6 _ (List.mem_of_getElem? (i := 10) rfl)
theorem zw_251 : (.constant RX21 7 (65536) : Cond) ∈ WR := zin_zc_6 _ (List.mem_of_getElem? (i := 11) rfl)
theorem zw_252 : (.fieldLink RX21 8 "ShellPairModel" "tape" "[B" : Cond) ∈ WR := zin_zc_6 _ (List.mem_of_getElem? (i := 12) rfl)
theorem zw_253 : (.classLink RX21 14 RX17 : Cond) ∈ WR := zin_zc_6 _ (List.mem_of_getElem? (i := 13) rfl)
theorem zw_254 : (.instantiable RX17 14 : Cond) ∈ WR := zin_zc_6 _ (List.mem_of_getElem? (i := 14) rfl)
theorem zw_255 : (.methodLink RX21 16 yX17_init : Cond) ∈ WR := zin_zc_6 _ (List.mem_of_getElem? (i := 15) rfl)
theorem zw_256 : (.instanceMethod yX17_init : Cond) ∈ WR := zin_zc_6 _ (List.mem_of_getElem? (i := 16) rfl)
theorem zw_257 : (.fieldLink RX21 17 "ShellPairModel" "hash" "LShellPairModel$Hash;" : Cond) ∈ WR := zin_zc_6 _ (List.mem_of_getElem? (i := 17) rfl)
theorem zw_258 : (.classLink RX21 21 RX14 : Cond) ∈ WR := zin_zc_6 _ (List.mem_of_getElem? (i := 18) rfl)
theorem zw_259 : (.instantiable RX14 42 : Cond) ∈ WR := zin_zc_6 _ (List.mem_of_getElem? (i := 19) rfl)
theorem zw_260 : (.methodLink RX21 23 yX14_init : Cond) ∈ WR := zin_zc_6 _ (List.mem_of_getElem? (i := 20) rfl)
theorem zw_261 : (.instanceMethod yX14_init : Cond) ∈ WR := zin_zc_6 _ (List.mem_of_getElem? (i := 21) rfl)
theorem zw_262 : (.fieldLink RX21 26 "ShellPairModel" "curve" "LShellPairModel$Curve;" : Cond) ∈ WR := zin_zc_6 _ (List.mem_of_getElem? (i := 22) rfl)
theorem zw_263 : (.methodLink RX21 30 yX13_box : Cond) ∈ WR := zin_zc_6 _ (List.mem_of_getElem? (i := 23) rfl)
theorem zw_264 : (.static yX13_box : Cond) ∈ WR := zin_zc_6 _ (List.mem_of_getElem? (i := 24) rfl)
theorem zw_265 : (.fieldLink RX21 36 "ShellPairModel" "substitute" "[I" : Cond) ∈ WR := zin_zc_6 _ (List.mem_of_getElem? (i := 25) rfl)
theorem zw_266 : (.classLink RX21 40 RX15 : Cond) ∈ WR := zin_zc_6 _ (List.mem_of_getElem? (i := 26) rfl)
theorem zw_267 : (.instantiable RX15 47 : Cond) ∈ WR := zin_zc_6 _ (List.mem_of_getElem? (i := 27) rfl)
theorem zw_268 : (.initialized RX15 : Cond) ∈ WR := zin_zc_6 _ (List.mem_of_getElem? (i := 28) rfl)
theorem zw_269 : (.methodLink RX21 42 yX15_init : Cond) ∈ WR := zin_zc_6 _ (List.mem_of_getElem? (i := 29) rfl)
theorem zw_270 : (.instanceMethod yX15_init : Cond) ∈ WR := zin_zc_6 _ (List.mem_of_getElem? (i := 30) rfl)
theorem zw_271 : (.fieldLink RX21 45 "ShellPairModel" "ends" "[LShellPairModel$End;" : Cond) ∈ WR := zin_zc_6 _ (List.mem_of_getElem? (i := 31) rfl)
theorem zw_272 : (.classLink RX21 49 RX19 : Cond) ∈ WR := zin_zc_6 _ (List.mem_of_getElem? (i := 32) rfl)
theorem zw_273 : (.constant RX21 51 (262144) : Cond) ∈ WR := zin_zc_6 _ (List.mem_of_getElem? (i := 33) rfl)
theorem zw_274 : (.methodLink RX21 52 yX19_init_ : Cond) ∈ WR := zin_zc_6 _ (List.mem_of_getElem? (i := 34) rfl)
theorem zw_275 : (.instanceMethod yX19_init_ : Cond) ∈ WR := zin_zc_6 _ (List.mem_of_getElem? (i := 35) rfl)
theorem zw_276 : (.fieldLink RX21 55 "ShellPairModel" "wire" "[LShellPairModel$Row;" : Cond) ∈ WR := zin_zc_6 _ (List.mem_of_getElem? (i := 36) rfl)
theorem zw_277 : (.fieldLink RX21 59 "ShellPairModel" "NOTHING" "[B" : Cond) ∈ WR := zin_zc_6 _ (List.mem_of_getElem? (i := 37) rfl)
theorem zw_278 : (.fieldLink RX21 62 "ShellPairModel" "user" "[B" : Cond) ∈ WR := zin_zc_6 _ (List.mem_of_getElem? (i := 38) rfl)
theorem zw_279 : (.fieldLink RX21 65 "ShellPairModel" "word" "[B" : Cond) ∈ WR := zin_zc_6 _ (List.mem_of_getElem? (i := 39) rfl)
theorem zw_280 : (.classLink RX21 68 "[B" : Cond) ∈ WR := zin_zc_7 _ (List.mem_of_getElem? (i := 0) rfl)
theorem zw_281 : (.fieldLink RX21 69 "ShellPairModel" "names" "[[B" : Cond) ∈ WR := zin_zc_7 _ (List.mem_of_getElem? (i := 1) rfl)
theorem zw_282 : (.fieldLink RX21 73 "ShellPairModel" "words" "[[B" : Cond) ∈ WR := zin_zc_7 _ (List.mem_of_getElem? (i := 2) rfl)
theorem zw_283 : (.fieldLink RX21 76 "ShellPairModel" "accountKeys" "[[B" : Cond) ∈ WR := zin_zc_7 _ (List.mem_of_getElem? (i := 3) rfl)
theorem zw_284 : (.arrayClass .boolean : Cond) ∈ WR := zin_zc_7 _ (List.mem_of_getElem? (i := 4) rfl)
theorem zw_285 : (.fieldLink RX21 79 "ShellPairModel" "ports" "[Z" : Cond) ∈ WR := zin_zc_7 _ (List.mem_of_getElem? (i := 5) rfl)
theorem zw_286 : (.fieldLink RX21 83 "ShellPairModel" "storeNames" "[[B" : Cond) ∈ WR := zin_zc_7 _ (List.mem_of_getElem? (i := 6) rfl)
theorem zw_287 : (.fieldLink RX21 86 "ShellPairModel" "store" "[[B" : Cond) ∈ WR := zin_zc_7 _ (List.mem_of_getElem? (i := 7) rfl)
theorem zw_288 : (.classLink RX21 89 RX16 : Cond) ∈ WR := zin_zc_7 _ (List.mem_of_getElem? (i := 8) rfl)
theorem zw_289 : (.initialized RX16 : Cond) ∈ WR := zin_zc_7 _ (List.mem_of_getElem? (i := 9) rfl)
theorem zw_290 : (.instantiable RX16 6 : Cond) ∈ WR := zin_zc_7 _ (List.mem_of_getElem? (i := 10) rfl)
theorem zw_291 : (.fieldLink RX21 92 "ShellPairModel" "fields0" "LShellPairModel$Fields;" : Cond) ∈ WR := zin_zc_7 _ (List.mem_of_getElem? (i := 11) rfl)
theorem zw_292 : (.fieldLink RX21 96 "ShellPairModel" "fields2" "LShellPairModel$Fields;" : Cond) ∈ WR := zin_zc_7 _ (List.mem_of_getElem? (i := 12) rfl)
theorem zw_293 : (.fieldLink RX21 99 "ShellPairModel" "fields3" "LShellPairModel$Fields;" : Cond) ∈ WR := zin_zc_7 _ (List.mem_of_getElem? (i := 13) rfl)
theorem zw_294 : (.fieldLink RX21 102 "ShellPairModel" "fields4" "LShellPairModel$Fields;" : Cond) ∈ WR := zin_zc_7 _ (List.mem_of_getElem? (i := 14) rfl)
theorem zw_295 : (.fieldLink RX21 105 "ShellPairModel" "fields5" "LShellPairModel$Fields;" : Cond) ∈ WR := zin_zc_7 _ (List.mem_of_getElem? (i := 15) rfl)
theorem zw_296 : (.methodLink RX21 108 yX19_init : Cond) ∈ WR := zin_zc_7 _ (List.mem_of_getElem? (i := 16) rfl)
theorem zw_297 : (.fieldLink RX21 109 "ShellPairModel" "body" "LShellPairModel$Row;" : Cond) ∈ WR := zin_zc_7 _ (List.mem_of_getElem? (i := 17) rfl)
theorem zw_298 : (.fieldLink RX21 113 "ShellPairModel" "packet" "LShellPairModel$Row;" : Cond) ∈ WR := zin_zc_7 _ (List.mem_of_getElem? (i := 18) rfl)
theorem zw_299 : (.fieldLink RX21 116 "ShellPairModel" "work" "LShellPairModel$Row;" : Cond) ∈ WR := zin_zc_7 _ (List.mem_of_getElem? (i := 19) rfl)
theorem zw_300 : (.fieldLink RX21 119 "ShellPairModel" "mac" "[B" : Cond) ∈ WR := zin_zc_7 _ (List.mem_of_getElem? (i := 20) rfl)
theorem zw_301 : (.fieldLink RX21 122 "ShellPairModel" "mark" "[B" : Cond) ∈ WR := zin_zc_7 _ (List.mem_of_getElem? (i := 21) rfl)
theorem zw_302 : (.fieldLink RX21 125 "ShellPairModel" "in" "[B" : Cond) ∈ WR := zin_zc_7 _ (List.mem_of_getElem? (i := 22) rfl)
theorem zw_303 : (.methodLink RX21 128 yX21_line : Cond) ∈ WR := zin_zc_7 _ (List.mem_of_getElem? (i := 23) rfl)
theorem zw_304 : (.code yX21_line cX21_line 4 (some (.array .byte)) : Cond) ∈ WR := zin_zc_7 _ (List.mem_of_getElem? (i := 24) rfl)
theorem zw_305 : (.static yX21_line : Cond) ∈ WR := zin_zc_7 _ (List.mem_of_getElem? (i := 25) rfl)
theorem zw_306 : (.initialized RX21 : Cond) ∈ WR := zin_zc_7 _ (List.mem_of_getElem? (i := 26) rfl)
theorem zw_307 : (.fieldLink RX21 132 "ShellPairModel" "lines" "[[B" : Cond) ∈ WR := zin_zc_7 _ (List.mem_of_getElem? (i := 27) rfl)
theorem zw_308 : (.fieldLink RX21 135 "ShellPairModel" "heldOne" "LShellPairModel$Row;" : Cond) ∈ WR := zin_zc_7 _ (List.mem_of_getElem? (i := 28) rfl)
theorem zw_309 : (.constant RX21 138 (35100) : Cond) ∈ WR := zin_zc_7 _ (List.mem_of_getElem? (i := 29) rfl)
theorem zw_310 : (.fieldLink RX21 139 "ShellPairModel" "current" "[B" : Cond) ∈ WR := zin_zc_7 _ (List.mem_of_getElem? (i := 30) rfl)
theorem zw_311 : (.fieldLink RX21 142 "ShellPairModel" "triedUser" "[B" : Cond) ∈ WR := zin_zc_7 _ (List.mem_of_getElem? (i := 31) rfl)
theorem zw_312 : (.code yX21_thrown cX21_thrown 1 (some .int) : Cond) ∈ WR := zin_zc_7 _ (List.mem_of_getElem? (i := 32) rfl)
theorem zw_313 : (.fieldLink RX21 145 "ShellPairModel" "thrown" "I" : Cond) ∈ WR := zin_zc_7 _ (List.mem_of_getElem? (i := 33) rfl)
theorem zw_314 : (.code yX21_fail cX21_fail 2 (some .int) : Cond) ∈ WR := zin_zc_7 _ (List.mem_of_getElem? (i := 34) rfl)
theorem zw_315 : (.methodLink RX21 427 yJ0_length_8abf5 : Cond) ∈ WR := zin_zc_7 _ (List.mem_of_getElem? (i := 35) rfl)
theorem zw_316 : (.methodLink RX21 432 yJ0_charAt_5068e : Cond) ∈ WR := zin_zc_7 _ (List.mem_of_getElem? (i := 36) rfl)
theorem zw_317 : (.code yX21_none cX21_none 1 (some .boolean) : Cond) ∈ WR := zin_zc_7 _ (List.mem_of_getElem? (i := 37) rfl)
theorem zw_318 : (.code yX21_used cX21_used 1 (some .boolean) : Cond) ∈ WR := zin_zc_7 _ (List.mem_of_getElem? (i := 38) rfl)
theorem zw_319 : (.fieldLink RX21 710 "ShellPairModel$Side" "state" "I" : Cond) ∈ WR := zin_zc_7 _ (List.mem_of_getElem? (i := 39) rfl)
theorem zw_320 : (.code yX21_live cX21_live 3 (some (.object "ShellPairModel$Side")) : Cond) ∈ WR := zin_zc_8 _ (List.mem_of_getElem? (i := 0) rfl)
theorem zw_321 : (.fieldLink RX21 706 "ShellPairModel$End" "sides" "[LShellPairModel$Side;" : Cond) ∈ WR := zin_zc_8 _ (List.mem_of_getElem? (i := 1) rfl)
theorem zw_322 : (.methodLink RX21 720 yX21_used : Cond) ∈ WR := zin_zc_8 _ (List.mem_of_getElem? (i := 2) rfl)
theorem zw_323 : (.static yX21_used : Cond) ∈ WR := zin_zc_8 _ (List.mem_of_getElem? (i := 3) rfl)
theorem zw_324 : (.code yX21_farSide cX21_farSide 4 (some (.object "ShellPairModel$Side")) : Cond) ∈ WR := zin_zc_8 _ (List.mem_of_getElem? (i := 4) rfl)
theorem zw_325 : (.fieldLink RX21 746 "ShellPairModel$Side" "session" "Z" : Cond) ∈ WR := zin_zc_8 _ (List.mem_of_getElem? (i := 5) rfl)
theorem zw_326 : (.fieldLink RX21 748 "ShellPairModel$Side" "port" "I" : Cond) ∈ WR := zin_zc_8 _ (List.mem_of_getElem? (i := 6) rfl)
theorem zw_327 : (.code yX21_sessionOf cX21_sessionOf 2 (some (.array .byte)) : Cond) ∈ WR := zin_zc_8 _ (List.mem_of_getElem? (i := 7) rfl)
theorem zw_328 : (.fieldLink RX21 221 "ShellPairModel$End" "e" "I" : Cond) ∈ WR := zin_zc_8 _ (List.mem_of_getElem? (i := 8) rfl)
theorem zw_329 : (.fieldLink RX21 484 "ShellPairModel" "clientSession" "[B" : Cond) ∈ WR := zin_zc_8 _ (List.mem_of_getElem? (i := 9) rfl)
theorem zw_330 : (.fieldLink RX21 469 "ShellPairModel" "session" "[B" : Cond) ∈ WR := zin_zc_8 _ (List.mem_of_getElem? (i := 10) rfl)
theorem zw_331 : (.code yX21_bytesStored cX21_bytesStored 3 (some .int) : Cond) ∈ WR := zin_zc_8 _ (List.mem_of_getElem? (i := 11) rfl)
theorem zw_332 : (.fieldLink RX21 861 "ShellPairModel" "stored" "I" : Cond) ∈ WR := zin_zc_8 _ (List.mem_of_getElem? (i := 12) rfl)
theorem zw_333 : (.code yX21_feed cX21_feed 8 (some .int) : Cond) ∈ WR := zin_zc_8 _ (List.mem_of_getElem? (i := 13) rfl)
theorem zw_334 : (.fieldLink RX21 922 "ShellPairModel" "tapes" "I" : Cond) ∈ WR := zin_zc_8 _ (List.mem_of_getElem? (i := 14) rfl)
theorem zw_335 : (.constant RX21 925 (65516) : Cond) ∈ WR := zin_zc_8 _ (List.mem_of_getElem? (i := 15) rfl)
theorem zw_336 : (.methodLink RX21 926 yX21_fail : Cond) ∈ WR := zin_zc_8 _ (List.mem_of_getElem? (i := 16) rfl)
theorem zw_337 : (.instanceMethod yX21_fail : Cond) ∈ WR := zin_zc_8 _ (List.mem_of_getElem? (i := 17) rfl)
theorem zw_338 : (.selects RX21 yX21_fail yX21_fail : Cond) ∈ WR := zin_zc_8 _ (List.mem_of_getElem? (i := 18) rfl)
theorem zw_339 : (.code yX21_end cX21_end 2 (some .int) : Cond) ∈ WR := zin_zc_8 _ (List.mem_of_getElem? (i := 19) rfl)
theorem zw_340 : (.code yX21_secret cX21_secret 4 none : Cond) ∈ WR := zin_zc_8 _ (List.mem_of_getElem? (i := 20) rfl)
theorem zw_341 : (.methodLink RX21 930 yX21_cut : Cond) ∈ WR := zin_zc_8 _ (List.mem_of_getElem? (i := 21) rfl)
theorem zw_342 : (.fieldLink RX21 152 "ShellPairModel$End" "seed" "[B" : Cond) ∈ WR := zin_zc_8 _ (List.mem_of_getElem? (i := 22) rfl)
theorem zw_343 : (.fieldLink RX21 155 "ShellPairModel$End" "blocks" "J" : Cond) ∈ WR := zin_zc_8 _ (List.mem_of_getElem? (i := 23) rfl)
theorem zw_344 : (.fieldLink RX21 149 "ShellPairModel$End" "left" "I" : Cond) ∈ WR := zin_zc_8 _ (List.mem_of_getElem? (i := 24) rfl)
theorem zw_345 : (.fieldLink RX21 451 "ShellPairModel" "hostKey" "[B" : Cond) ∈ WR := zin_zc_8 _ (List.mem_of_getElem? (i := 25) rfl)
theorem zw_346 : (.fieldLink RX21 660 "ShellPairModel" "identity" "[B" : Cond) ∈ WR := zin_zc_8 _ (List.mem_of_getElem? (i := 26) rfl)
theorem zw_347 : (.fieldLink RX21 495 "ShellPairModel" "knownKey" "[B" : Cond) ∈ WR := zin_zc_8 _ (List.mem_of_getElem? (i := 27) rfl)
theorem zw_348 : (.code yX21_user cX21_user 6 (some .int) : Cond) ∈ WR := zin_zc_8 _ (List.mem_of_getElem? (i := 28) rfl)
theorem zw_349 : (.fieldLink RX21 687 "ShellPairModel" "accounts" "I" : Cond) ∈ WR := zin_zc_8 _ (List.mem_of_getElem? (i := 29) rfl)
theorem zw_350 : (.methodLink RX21 498 yX21_same : Cond) ∈ WR := zin_zc_8 _ (List.mem_of_getElem? (i := 30) rfl)
theorem zw_351 : (.code yX21_allow cX21_allow 2 none : Cond) ∈ WR := zin_zc_8 _ (List.mem_of_getElem? (i := 31) rfl)
theorem zw_352 : (.code yX21_set cX21_set 6 (some .int) : Cond) ∈ WR := zin_zc_8 _ (List.mem_of_getElem? (i := 32) rfl)
theorem zw_353 : (.methodLink RX21 934 yX21_none : Cond) ∈ WR := zin_zc_8 _ (List.mem_of_getElem? (i := 33) rfl)
theorem zw_354 : (.static yX21_none : Cond) ∈ WR := zin_zc_8 _ (List.mem_of_getElem? (i := 34) rfl)
theorem zw_355 : (.constant RX21 936 (32768) : Cond) ∈ WR := zin_zc_8 _ (List.mem_of_getElem? (i := 35) rfl)
theorem zw_356 : (.constant RX21 937 (1073741824) : Cond) ∈ WR := zin_zc_8 _ (List.mem_of_getElem? (i := 36) rfl)
theorem zw_357 : (.fieldLink RX21 272 "ShellPairModel$End" "set" "[I" : Cond) ∈ WR := zin_zc_8 _ (List.mem_of_getElem? (i := 37) rfl)
theorem zw_358 : (.code yX21_port cX21_port 3 none : Cond) ∈ WR := zin_zc_8 _ (List.mem_of_getElem? (i := 38) rfl)
theorem zw_359 : (.constant RX21 938 (65535) : Cond) ∈ WR := zin_zc_8 _ (List.mem_of_getElem? (i := 39) rfl)
theorem zw_360 : (.fieldLink RX21 939 "ShellPairModel" "portCount" "I" : Cond) ∈ WR := zin_zc_9 _ (List.mem_of_getElem? (i := 0) rfl)
theorem zw_361 : (.code yX21_start cX21_start 1 none : Cond) ∈ WR := zin_zc_9 _ (List.mem_of_getElem? (i := 1) rfl)
theorem zw_362 : (.methodLink RX21 171 yX19_clear : Cond) ∈ WR := zin_zc_9 _ (List.mem_of_getElem? (i := 2) rfl)
theorem zw_363 : (.methodLink RX21 942 yX21_begin_ : Cond) ∈ WR := zin_zc_9 _ (List.mem_of_getElem? (i := 3) rfl)
theorem zw_364 : (.code yX21_move cX21_move 5 (some .int) : Cond) ∈ WR := zin_zc_9 _ (List.mem_of_getElem? (i := 4) rfl)
theorem zw_365 : (.methodLink RX21 224 yX19_size : Cond) ∈ WR := zin_zc_9 _ (List.mem_of_getElem? (i := 5) rfl)
theorem zw_366 : (.instanceMethod yX19_size : Cond) ∈ WR := zin_zc_9 _ (List.mem_of_getElem? (i := 6) rfl)
theorem zw_367 : (.selects RX19 yX19_size yX19_size : Cond) ∈ WR := zin_zc_9 _ (List.mem_of_getElem? (i := 7) rfl)
theorem zw_368 : (.methodLink RX21 944 Lib.Math.min.name : Cond) ∈ WR := zin_zc_9 _ (List.mem_of_getElem? (i := 8) rfl)
theorem zw_369 : (.static Lib.Math.min.name : Cond) ∈ WR := zin_zc_9 _ (List.mem_of_getElem? (i := 9) rfl)
theorem zw_370 : (.code Lib.Math.min.name Lib.Math.min.code 2 (some .int) : Cond) ∈ WR := zin_zc_9 _ (List.mem_of_getElem? (i := 10) rfl)
theorem zw_371 : (.methodLink RX21 947 yX19_take : Cond) ∈ WR := zin_zc_9 _ (List.mem_of_getElem? (i := 11) rfl)
theorem zw_372 : (.instanceMethod yX19_take : Cond) ∈ WR := zin_zc_9 _ (List.mem_of_getElem? (i := 12) rfl)
theorem zw_373 : (.selects RX19 yX19_take yX19_take : Cond) ∈ WR := zin_zc_9 _ (List.mem_of_getElem? (i := 13) rfl)
theorem zw_374 : (.methodLink RX21 949 yX21_byteCame : Cond) ∈ WR := zin_zc_9 _ (List.mem_of_getElem? (i := 14) rfl)
theorem zw_375 : (.code yX21_flip cX21_flip 4 (some .int) : Cond) ∈ WR := zin_zc_9 _ (List.mem_of_getElem? (i := 15) rfl)
theorem zw_376 : (.fieldLink RX21 185 "ShellPairModel$Row" "b" "[B" : Cond) ∈ WR := zin_zc_9 _ (List.mem_of_getElem? (i := 16) rfl)
theorem zw_377 : (.fieldLink RX21 524 "ShellPairModel$Row" "from" "I" : Cond) ∈ WR := zin_zc_9 _ (List.mem_of_getElem? (i := 17) rfl)
theorem zw_378 : (.code yX21_seen cX21_seen 3 (some .int) : Cond) ∈ WR := zin_zc_9 _ (List.mem_of_getElem? (i := 18) rfl)
theorem zw_379 : (.code yX21_inject cX21_inject 2 (some .int) : Cond) ∈ WR := zin_zc_9 _ (List.mem_of_getElem? (i := 19) rfl)
theorem zw_380 : (.constant RX21 228 (131072) : Cond) ∈ WR := zin_zc_9 _ (List.mem_of_getElem? (i := 20) rfl)
theorem zw_381 : (.methodLink RX21 178 yX19_add_ : Cond) ∈ WR := zin_zc_9 _ (List.mem_of_getElem? (i := 21) rfl)
theorem zw_382 : (.instanceMethod yX19_add_ : Cond) ∈ WR := zin_zc_9 _ (List.mem_of_getElem? (i := 22) rfl)
theorem zw_383 : (.selects RX19 yX19_add_ yX19_add_ : Cond) ∈ WR := zin_zc_9 _ (List.mem_of_getElem? (i := 23) rfl)
theorem zw_384 : (.code yX21_open cX21_open 6 (some .int) : Cond) ∈ WR := zin_zc_9 _ (List.mem_of_getElem? (i := 24) rfl)
theorem zw_385 : (.fieldLink RX21 195 "ShellPairModel$End" "state" "I" : Cond) ∈ WR := zin_zc_9 _ (List.mem_of_getElem? (i := 25) rfl)
theorem zw_386 : (.fieldLink RX21 607 "ShellPairModel$End" "proven" "Z" : Cond) ∈ WR := zin_zc_9 _ (List.mem_of_getElem? (i := 26) rfl)
theorem zw_387 : (.methodLink RX21 730 yX20_fresh : Cond) ∈ WR := zin_zc_9 _ (List.mem_of_getElem? (i := 27) rfl)
theorem zw_388 : (.fieldLink RX21 740 "ShellPairModel$Side" "granted" "J" : Cond) ∈ WR := zin_zc_9 _ (List.mem_of_getElem? (i := 28) rfl)
theorem zw_389 : (.fieldLink RX21 743 "ShellPairModel$Side" "most" "J" : Cond) ∈ WR := zin_zc_9 _ (List.mem_of_getElem? (i := 29) rfl)
theorem zw_390 : (.methodLink RX21 281 yX21_fresh : Cond) ∈ WR := zin_zc_9 _ (List.mem_of_getElem? (i := 30) rfl)
theorem zw_391 : (.methodLink RX21 316 yX19_text_ : Cond) ∈ WR := zin_zc_9 _ (List.mem_of_getElem? (i := 31) rfl)
theorem zw_392 : (.methodLink RX21 174 yX19_four : Cond) ∈ WR := zin_zc_9 _ (List.mem_of_getElem? (i := 32) rfl)
theorem zw_393 : (.methodLink RX21 254 yX19_text : Cond) ∈ WR := zin_zc_9 _ (List.mem_of_getElem? (i := 33) rfl)
theorem zw_394 : (.methodLink RX21 535 yX21_say : Cond) ∈ WR := zin_zc_9 _ (List.mem_of_getElem? (i := 34) rfl)
theorem zw_395 : (.code yX21_exec cX21_exec 4 none : Cond) ∈ WR := zin_zc_9 _ (List.mem_of_getElem? (i := 35) rfl)
theorem zw_396 : (.methodLink RX21 954 yX21_live : Cond) ∈ WR := zin_zc_9 _ (List.mem_of_getElem? (i := 36) rfl)
theorem zw_397 : (.instanceMethod yX21_live : Cond) ∈ WR := zin_zc_9 _ (List.mem_of_getElem? (i := 37) rfl)
theorem zw_398 : (.selects RX21 yX21_live yX21_live : Cond) ∈ WR := zin_zc_9 _ (List.mem_of_getElem? (i := 38) rfl)
theorem zw_399 : (.fieldLink RX21 803 "ShellPairModel$Side" "closeSent" "Z" : Cond) ∈ WR := zin_zc_9 _ (List.mem_of_getElem? (i := 39) rfl)
theorem zw_400 : (.fieldLink RX21 761 "ShellPairModel$Side" "closeCame" "Z" : Cond) ∈ WR := zin_zc_10 _ (List.mem_of_getElem? (i := 0) rfl)
theorem zw_401 : (.methodLink RX21 817 yX21_to : Cond) ∈ WR := zin_zc_10 _ (List.mem_of_getElem? (i := 1) rfl)
theorem zw_402 : (.methodLink RX21 209 yX19_add : Cond) ∈ WR := zin_zc_10 _ (List.mem_of_getElem? (i := 2) rfl)
theorem zw_403 : (.fieldLink RX21 790 "ShellPairModel$Side" "waits" "I" : Cond) ∈ WR := zin_zc_10 _ (List.mem_of_getElem? (i := 3) rfl)
theorem zw_404 : (.code yX21_write cX21_write 4 (some .int) : Cond) ∈ WR := zin_zc_10 _ (List.mem_of_getElem? (i := 4) rfl)
theorem zw_405 : (.methodLink RX21 726 yX21_farSide : Cond) ∈ WR := zin_zc_10 _ (List.mem_of_getElem? (i := 5) rfl)
theorem zw_406 : (.instanceMethod yX21_farSide : Cond) ∈ WR := zin_zc_10 _ (List.mem_of_getElem? (i := 6) rfl)
theorem zw_407 : (.selects RX21 yX21_farSide yX21_farSide : Cond) ∈ WR := zin_zc_10 _ (List.mem_of_getElem? (i := 7) rfl)
theorem zw_408 : (.fieldLink RX21 824 "ShellPairModel$Side" "ends" "Z" : Cond) ∈ WR := zin_zc_10 _ (List.mem_of_getElem? (i := 8) rfl)
theorem zw_409 : (.fieldLink RX21 798 "ShellPairModel$Side" "done" "Z" : Cond) ∈ WR := zin_zc_10 _ (List.mem_of_getElem? (i := 9) rfl)
theorem zw_410 : (.fieldLink RX21 800 "ShellPairModel$Side" "out" "LShellPairModel$Row;" : Cond) ∈ WR := zin_zc_10 _ (List.mem_of_getElem? (i := 10) rfl)
theorem zw_411 : (.methodLink RX21 764 yX21_pump : Cond) ∈ WR := zin_zc_10 _ (List.mem_of_getElem? (i := 11) rfl)
theorem zw_412 : (.code yX21_read cX21_read 10 (some .long) : Cond) ∈ WR := zin_zc_10 _ (List.mem_of_getElem? (i := 12) rfl)
theorem zw_413 : (.fieldLink RX21 837 "ShellPairModel$Side" "inErrors" "LShellPairModel$Row;" : Cond) ∈ WR := zin_zc_10 _ (List.mem_of_getElem? (i := 13) rfl)
theorem zw_414 : (.fieldLink RX21 840 "ShellPairModel$Side" "in" "LShellPairModel$Row;" : Cond) ∈ WR := zin_zc_10 _ (List.mem_of_getElem? (i := 14) rfl)
theorem zw_415 : (.methodLink RX21 834 yX21_wasRead : Cond) ∈ WR := zin_zc_10 _ (List.mem_of_getElem? (i := 15) rfl)
theorem zw_416 : (.code yX21_finish cX21_finish 4 none : Cond) ∈ WR := zin_zc_10 _ (List.mem_of_getElem? (i := 16) rfl)
theorem zw_417 : (.methodLink RX21 781 yX21_close : Cond) ∈ WR := zin_zc_10 _ (List.mem_of_getElem? (i := 17) rfl)
theorem zw_418 : (.code yX21_rekey cX21_rekey 2 none : Cond) ∈ WR := zin_zc_10 _ (List.mem_of_getElem? (i := 18) rfl)
theorem zw_419 : (.fieldLink RX21 265 "ShellPairModel$End" "exchanges" "I" : Cond) ∈ WR := zin_zc_10 _ (List.mem_of_getElem? (i := 19) rfl)
theorem zw_420 : (.methodLink RX21 268 yX21_complete : Cond) ∈ WR := zin_zc_10 _ (List.mem_of_getElem? (i := 20) rfl)
theorem zw_421 : (.methodLink RX21 275 yX21_init_ : Cond) ∈ WR := zin_zc_10 _ (List.mem_of_getElem? (i := 21) rfl)
theorem zw_422 : (.code yX21_quit cX21_quit 2 none : Cond) ∈ WR := zin_zc_10 _ (List.mem_of_getElem? (i := 22) rfl)
theorem zw_423 : (.methodLink RX21 285 yX21_disconnect : Cond) ∈ WR := zin_zc_10 _ (List.mem_of_getElem? (i := 23) rfl)
theorem zw_424 : (.code yX21_about cX21_about 6 (some .int) : Cond) ∈ WR := zin_zc_10 _ (List.mem_of_getElem? (i := 24) rfl)
theorem zw_425 : (.fieldLink RX21 229 "ShellPairModel$End" "reason" "I" : Cond) ∈ WR := zin_zc_10 _ (List.mem_of_getElem? (i := 25) rfl)
theorem zw_426 : (.fieldLink RX21 234 "ShellPairModel$End" "sent" "I" : Cond) ∈ WR := zin_zc_10 _ (List.mem_of_getElem? (i := 26) rfl)
theorem zw_427 : (.fieldLink RX21 586 "ShellPairModel$End" "taken" "I" : Cond) ∈ WR := zin_zc_10 _ (List.mem_of_getElem? (i := 27) rfl)
theorem zw_428 : (.fieldLink RX21 198 "ShellPairModel$End" "out" "LShellPairModel$Cipher;" : Cond) ∈ WR := zin_zc_10 _ (List.mem_of_getElem? (i := 28) rfl)
theorem zw_429 : (.fieldLink RX21 202 "ShellPairModel$Cipher" "cipher" "I" : Cond) ∈ WR := zin_zc_10 _ (List.mem_of_getElem? (i := 29) rfl)
theorem zw_430 : (.fieldLink RX21 169 "ShellPairModel$Cipher" "mac" "I" : Cond) ∈ WR := zin_zc_10 _ (List.mem_of_getElem? (i := 30) rfl)
theorem zw_431 : (.fieldLink RX21 655 "ShellPairModel$End" "failures" "I" : Cond) ∈ WR := zin_zc_10 _ (List.mem_of_getElem? (i := 31) rfl)
theorem zw_432 : (.methodLink RX21 502 yX21_sessionOf : Cond) ∈ WR := zin_zc_10 _ (List.mem_of_getElem? (i := 32) rfl)
theorem zw_433 : (.instanceMethod yX21_sessionOf : Cond) ∈ WR := zin_zc_10 _ (List.mem_of_getElem? (i := 33) rfl)
theorem zw_434 : (.selects RX21 yX21_sessionOf yX21_sessionOf : Cond) ∈ WR := zin_zc_10 _ (List.mem_of_getElem? (i := 34) rfl)
theorem zw_435 : (.code yX21_channel cX21_channel 4 (some .int) : Cond) ∈ WR := zin_zc_10 _ (List.mem_of_getElem? (i := 35) rfl)
theorem zw_436 : (.fieldLink RX21 802 "ShellPairModel$Side" "reason" "I" : Cond) ∈ WR := zin_zc_10 _ (List.mem_of_getElem? (i := 36) rfl)
theorem zw_437 : (.fieldLink RX21 829 "ShellPairModel$Side" "status" "I" : Cond) ∈ WR := zin_zc_10 _ (List.mem_of_getElem? (i := 37) rfl)
theorem zw_438 : (.fieldLink RX21 735 "ShellPairModel$Side" "window" "J" : Cond) ∈ WR := zin_zc_10 _ (List.mem_of_getElem? (i := 38) rfl)
theorem zw_439 : (.fieldLink RX21 772 "ShellPairModel$Side" "endCame" "Z" : Cond) ∈ WR := zin_zc_10 _ (List.mem_of_getElem? (i := 39) rfl)
theorem zw_440 : (.fieldLink RX21 792 "ShellPairModel$Side" "answered" "I" : Cond) ∈ WR := zin_zc_11 _ (List.mem_of_getElem? (i := 0) rfl)
theorem zw_441 : (.fieldLink RX21 795 "ShellPairModel$Side" "denied" "I" : Cond) ∈ WR := zin_zc_11 _ (List.mem_of_getElem? (i := 1) rfl)
theorem zw_442 : (.code yX21_count cX21_count 4 (some .int) : Cond) ∈ WR := zin_zc_11 _ (List.mem_of_getElem? (i := 2) rfl)
theorem zw_443 : (.methodLink RX21 917 yX21_bytesStored : Cond) ∈ WR := zin_zc_11 _ (List.mem_of_getElem? (i := 3) rfl)
theorem zw_444 : (.instanceMethod yX21_bytesStored : Cond) ∈ WR := zin_zc_11 _ (List.mem_of_getElem? (i := 4) rfl)
theorem zw_445 : (.selects RX21 yX21_bytesStored yX21_bytesStored : Cond) ∈ WR := zin_zc_11 _ (List.mem_of_getElem? (i := 5) rfl)
abbrev zws (y : MethodName) (cc : ByteArray) (n : Nat) (r : Option FieldType) : List Cond := Cond.code y cc n r :: WR
theorem zgd_all {L : List Cond} (h : ∀ w ∈ L, w ∈ WR) : GoodIn WR L := fun w hw => ⟨h w hw, good_of_word (zgd w (h w hw))⟩
theorem zg_S {own : String} {idx n : Nat} {y : MethodName} {cc : ByteArray} {r : Option FieldType} (h1 : Cond.methodLink own idx y ∈ WR) (h2 : Cond.static y ∈ WR) (h3 : Cond.initialized y.cls ∈ WR) (h4 : Cond.code y cc n r ∈ WR) : GoodIn WR (va_wsS own idx y (zws y cc n r)) := by
  refine zgd_all (fun w hw => ?_)
  simp only [va_wsS, zws, List.cons_append, List.nil_append, List.mem_cons] at hw
  rcases hw with h | h | h | h | h
  · exact h ▸ h1
  · exact h ▸ h2
  · exact h ▸ h3
  · exact h ▸ h4
  · exact h
theorem zg_V {own C : String} {idx n : Nat} {y : MethodName} {cc : ByteArray} {r : Option FieldType} (h1 : Cond.methodLink own idx y ∈ WR) (h2 : Cond.instanceMethod y ∈ WR) (h3 : Cond.selects C y y ∈ WR) (h4 : Cond.initialized C ∈ WR) (h5 : Cond.code y cc n r ∈ WR) : GoodIn WR (wsV own idx C y (zws y cc n r)) := by
  refine zgd_all (fun w hw => ?_)
  simp only [wsV, zws, List.cons_append, List.nil_append, List.mem_cons] at hw
  rcases hw with h | h | h | h | h | h
  · exact h ▸ h1
  · exact h ▸ h2
  · exact h ▸ h3
  · exact h ▸ h4
  · exact h ▸ h5
  · exact h
theorem zg_U {own C owner : String} {idx n : Nat} {x y : MethodName} {cc : ByteArray} {r : Option FieldType} (h1 : Cond.methodLink own idx x ∈ WR) (h2 : Cond.sameMethod x.cls owner x.name x.desc ∈ WR) (h3 : Cond.selects C x y ∈ WR) (h4 : Cond.instanceMethod y ∈ WR) (h5 : Cond.initialized y.cls ∈ WR) (h6 : Cond.code y cc n r ∈ WR) : GoodIn WR (va_wsU own idx C owner x y (zws y cc n r)) := by
  refine zgd_all (fun w hw => ?_)
  simp only [va_wsU, zws, List.cons_append, List.nil_append, List.mem_cons] at hw
  rcases hw with h | h | h | h | h | h | h
  · exact h ▸ h1
  · exact h ▸ h2
  · exact h ▸ h3
  · exact h ▸ h4
  · exact h ▸ h5
  · exact h ▸ h6
  · exact h
theorem zg_I {n : Nat} {y : MethodName} {cc : ByteArray} {r : Option FieldType} (h5 : Cond.code y cc n r ∈ WR) : GoodIn WR (zws y cc n r) := by
  refine zgd_all (fun w hw => ?_)
  simp only [zws, List.mem_cons] at hw
  rcases hw with h | h
  · exact h ▸ h5
  · exact h
end
section
/-! Worlds with a pool of which predicates are known; contracts over them; calls without cutting. -/
/-- the pool's cells fit what is known of each address -/
def zF (L : List Nat) (T : Nat → va_E → Prop) (f : Nat → va_E) : Prop := ∀ a, a ∈ L → T a (f a)
/-- X: any cells; Y: cells that are told one by one; L, T: the pool -/
def zP (D : va_G) (cl : List vw_C) (A : Nat → Prop) (X Y : va_W) (L : List Nat) (T : Nat → va_E → Prop) (H : Heap) : Prop :=
  ∃ f : Nat → va_E, zF L T f ∧ va_P D cl ((X ++ Y) ++ va_pl L f) H ∧ va_D A ((X ++ Y) ++ va_pl L f)
/-- which cells a method may change -/
def zA (X Y : va_W) (L : List Nat) (sz : Nat) : Nat → Prop := fun q => q ∈ (X ++ Y).map Prod.fst ∨ q ∈ L ∨ sz ≤ q
/-- what is known of a cell: an array of ints (of longs, of references), an object -/
def zI (cA : ClassId) (n : Nat) : va_E → Prop := fun e => ∃ g : Nat → Int32, e = .inl (cA, n, .inl g)
def zJ (cA : ClassId) (n : Nat) : va_E → Prop := fun e => ∃ g : Nat → Int64, e = .inl (cA, n, .inr (.inl g))
def zQ (cA : ClassId) (n : Nat) (g : Nat → Option Nat) : va_E → Prop := fun e => e = .inl (cA, n, .inr (.inr (.inr (.inr g))))
def zO (ci : Nat) (vs : List Value) : va_E → Prop := fun e => e = .inr (ci, vs)
abbrev zU : Type := va_W × List Nat × (Nat → va_E → Prop)
/-- a pool has grown -/
def zG (L : List Nat) (T : Nat → va_E → Prop) (L1 : List Nat) (T1 : Nat → va_E → Prop) : Prop := (∀ a, a ∈ L → a ∈ L1) ∧ ∀ a, a ∈ L → T1 a = T a
theorem zG.rf {L : List Nat} {T : Nat → va_E → Prop} : zG L T L T := ⟨fun _ h => h, fun _ _ => rfl⟩
theorem zG.tr {L L1 L2 : List Nat} {T T1 T2 : Nat → va_E → Prop} (h : zG L T L1 T1) (k : zG L1 T1 L2 T2) : zG L T L2 T2 := ⟨fun a q => k.1 a (h.1 a q), fun a q => (k.2 a (h.1 a q)).trans (h.2 a q)⟩
theorem zP.weaken {D : va_G} {cl : List vw_C} {A B : Nat → Prop} {X Y : va_W} {L : List Nat} {T : Nat → va_E → Prop} {H : Heap} (h : zP D cl A X Y L T H) (hAB : ∀ q, A q → B q) : zP D cl B X Y L T H := by
  obtain ⟨f, h1, h2, h3⟩ := h
  exact ⟨f, h1, h2, h3.weaken (fun k q _ hq => hAB q.1 hq)⟩
theorem zA_of {A0 : Nat → Prop} {D : va_G} {cl : List vw_C} {X Y : va_W} {L : List Nat} {T : Nat → va_E → Prop} {H0 H : Heap} {locs : List Loc} (hZ : zP D cl A0 X Y L T H) (hS : va_S A0 H0 H locs) (hA : ∀ q, H0.size ≤ q → A0 q) : ∀ q, zA X Y L H.size q → A0 q := by
  obtain ⟨f, h1, h2, h3⟩ := hZ
  intro q h
  rcases h with h | h | h
  · obtain ⟨x, hx, rfl⟩ := List.mem_map.mp h
    obtain ⟨k, hk⟩ := List.getElem?_of_mem (List.mem_append_left (va_pl L f) hx)
    exact h3.2 k x hk
  · obtain ⟨k, hk⟩ := va_pl_get (X := X ++ Y) (f := f) h
    exact h3.2 k _ hk
  · exact hA q (Nat.le_trans hS.1 h)
theorem zP.own {D : va_G} {cl : List vw_C} {A : Nat → Prop} {X Y : va_W} {L : List Nat} {T : Nat → va_E → Prop} {H : Heap} {sz : Nat} (h : zP D cl A X Y L T H) : zP D cl (zA X Y L sz) X Y L T H := by
  obtain ⟨f, h1, h2, h3⟩ := h
  refine ⟨f, h1, h2, h3.1, fun k q hk => ?_⟩
  rcases List.mem_append.mp (List.mem_of_getElem? hk) with h | h
  · exact Or.inl (List.mem_map.mpr ⟨q, h, rfl⟩)
  · obtain ⟨a, ha, rfl⟩ := List.mem_map.mp h
    exact Or.inr (Or.inl ha)
/-- the told cells move into the nameless ones, for a call, and back -/
theorem zP.into {D : va_G} {cl : List vw_C} {A : Nat → Prop} {X Y1 Y2 : va_W} {L : List Nat} {T : Nat → va_E → Prop} {H : Heap} (h : zP D cl A X (Y1 ++ Y2) L T H) : zP D cl A (X ++ Y1) Y2 L T H := by
  unfold zP at *
  rw [List.append_assoc X Y1 Y2]
  exact h
theorem zP.back {D : va_G} {cl : List vw_C} {A : Nat → Prop} {X Y1 Y2 : va_W} {L : List Nat} {T : Nat → va_E → Prop} {H : Heap} (h : zP D cl A (X ++ Y1) Y2 L T H) : zP D cl A X (Y1 ++ Y2) L T H := by
  unfold zP at *
  rw [List.append_assoc X Y1 Y2] at h
  exact h
def zPre (D : va_G) (cl : List vw_C) (tys : List (ClassId × FieldType)) (av : List Value) (X Y : va_W) (L : List Nat) (T : Nat → va_E → Prop) (sz : Nat) : Array Value → State → Prop :=
  va_Pc av (fun U => U.heap.size = sz ∧ zP D cl (fun _ => True) X Y L T U.heap ∧ va_K D cl tys U)
def zB (D : va_G) (cl : List vw_C) (tys : List (ClassId × FieldType)) (A : Nat → Prop) (X : va_W) (u : zU) (t : State) : Prop := zP D cl A X u.1 u.2.1 u.2.2 t.heap ∧ va_K D cl tys t
theorem zPre_blind {D : va_G} {cl : List vw_C} {tys : List (ClassId × FieldType)} {av : List Value} {X Y : va_W} {L : List Nat} {T : Nat → va_E → Prop} {sz : Nat} : FrameBlind (zPre D cl tys av X Y L T sz) := by
  intro a U g mk q
  obtain ⟨q0, q1, qP, qK⟩ := q
  exact ⟨q0, q1, qP, va_K.moved (u := U) (U := U.calling g mk a) (Vm.Alike.refl U.vm) qK⟩
/-- contracts: of a method that answers nothing, an int, a long, a reference, a reference or null -/
def zV (l : Launch) (D : va_G) (cl : List vw_C) (tys : List (ClassId × FieldType)) (y : MethodName) (ws : List Cond) (rm : Room) (mc ms : Nat) (av : List Value) (X Y : va_W) (L : List Nat) (T : Nat → va_E → Prop) (post : zU → Prop) : Prop :=
  ∀ sz : Nat, Met l y ws rm (zPre D cl tys av X Y L T sz) (va_Qv post (zB D cl tys (zA X Y L sz) X) (zA X Y L sz)) mc ms (zA X Y L sz)
def zVi (l : Launch) (D : va_G) (cl : List vw_C) (tys : List (ClassId × FieldType)) (y : MethodName) (ws : List Cond) (rm : Room) (mc ms : Nat) (av : List Value) (X Y : va_W) (L : List Nat) (T : Nat → va_E → Prop) (post : Int32 → zU → Prop) : Prop :=
  ∀ sz : Nat, Met l y ws rm (zPre D cl tys av X Y L T sz) (va_Qi post (zB D cl tys (zA X Y L sz) X) (zA X Y L sz)) mc ms (zA X Y L sz)
def zVl (l : Launch) (D : va_G) (cl : List vw_C) (tys : List (ClassId × FieldType)) (y : MethodName) (ws : List Cond) (rm : Room) (mc ms : Nat) (av : List Value) (X Y : va_W) (L : List Nat) (T : Nat → va_E → Prop) (post : Int64 → zU → Prop) : Prop :=
  ∀ sz : Nat, Met l y ws rm (zPre D cl tys av X Y L T sz) (va_Ql post (zB D cl tys (zA X Y L sz) X) (zA X Y L sz)) mc ms (zA X Y L sz)
def zVq (l : Launch) (D : va_G) (cl : List vw_C) (tys : List (ClassId × FieldType)) (y : MethodName) (ws : List Cond) (rm : Room) (mc ms : Nat) (av : List Value) (X Y : va_W) (L : List Nat) (T : Nat → va_E → Prop) (post : Option Nat → zU → Prop) : Prop :=
  ∀ sz : Nat, Met l y ws rm (zPre D cl tys av X Y L T sz) (va_Qq post (zB D cl tys (zA X Y L sz) X) (zA X Y L sz)) mc ms (zA X Y L sz)
/-- nothing told and nothing pooled has another shape behind it -/
def zSame (Y : va_W) (L : List Nat) (T : Nat → va_E → Prop) : zU → Prop := fun u => u = (Y, L, T)
section ZW
variable {p : Program} {l : Launch} {e : Env} {R : Room} {s : State} {m : MethodId} {args : Array Value} {below : List Frame} {meth : Method} {c : Code} {H : Heap} {locs : List Loc} {cells slots : Nat} {Q : State → Prop}
variable {cc : ByteArray} {pc : Nat} {ls : Array Slot} {rest : List Value} {D : va_G} {cl : List vw_C} {A : Nat → Prop} {a : Nat} {tys : List (ClassId × FieldType)} {X Y : va_W} {L : List Nat} {T : Nat → va_E → Prop} {H0 : Heap}
/-- from a contract to the walk of its body -/
theorem z_ofW {y : MethodName} {ws ws' : List Cond} {rm : Room} {mc ms : Nat} {av : List Value} {maxL : Nat} {ret : Option FieldType} {Qc : (Nat → Prop) → Array Value → State → Outcome → State → Prop} (hy : plainName y.cls = true) (hw : ws = Cond.code y cc maxL ret :: ws') (hn : (lg_sl av).length ≤ maxL)
    (body : ∀ (p : Program) (e : Env) (s : State) (m : MethodId) (below : List Frame) (meth : Method) (c : Code) (A : Nat → Prop) (ls : Array Slot), p.tables.exec = Jvm.exec → c.code = cc → c.maxLocals = maxL → meth.sig.returnType = ret → (∀ w ∈ ws, w.before av.toArray s = true) → s.vm.findClass y.cls = some m.cls → meth.locks = false → meth.name = y.name → (∀ q, s.heap.size ≤ q → A q) → va_K D cl tys s → zP D cl A X Y L T s.heap → va_S A s.heap s.heap [] → lv_has ls maxL (lv_args 0 av) → W p l e rm s m av.toArray below meth c s.heap [] 0 0 (MQ below (Qc A) av.toArray s mc ms A) (F0 m 0 ls [])) (sz : Nat) :
    Met l y ws rm (zPre D cl tys av X Y L T sz) (Qc (zA X Y L sz)) mc ms (zA X Y L sz) := by
  refine Met.ofW (cc := cc) (maxL := maxL) (ret := ret) hy hw ?_
  intro p e s m args below meth c s₁ B hml hv
  obtain ⟨rfl, hsz, hZ, hK⟩ := hv
  have hx := B.exec
  have hb := B.bytes
  have hr := B.returns
  have hts := atoms_spec (ws := ws) B.pre
  have hown : s.vm.findClass y.cls = some m.cls := findClass_of_methodNamed B.named
  have hlocks := B.notSynchronized
  have hin : meth.name = y.name := (name_of_methodNamed B.named B.method).1
  subst hsz
  have hZ := hZ.own (sz := s.heap.size)
  have hA : ∀ q : Nat, s.heap.size ≤ q → zA X Y L s.heap.size q := fun q h => Or.inr (Or.inr h)
  have hl := lv_entry av (n := maxL) hn
  rw [lg_entry_eq]
  exact body p e s m below meth c _ _ hx hb hml hr hts hown hlocks hin hA hK hZ va_S.rf hl
theorem z_preS {av : List Value} (hK : va_K D cl tys s) (hZ : zP D cl A X Y L T H) : PreS s H (zPre D cl tys av X Y L T H.size) av :=
  ⟨zPre_blind, fun U hU hW => ⟨rfl, by rw [hU], by rw [hU]; exact hZ.weaken (fun _ _ => trivial), va_K.moved hW.alike hK⟩⟩
/-- behind a call -/
theorem z_goV {mc ms : Nat} {st0 : List Value} {post : zU → Prop} {av : Array Value} (hr : va_Run p l e R s m args below meth c H locs cells slots mc ms (F0 m pc ls st0) rest (va_Qv post (zB D cl tys (zA X Y L H.size) X) (zA X Y L H.size) av) (zA X Y L H.size)) (hZ : zP D cl A X Y L T H) (hS : va_S A H0 H locs) (hA : ∀ q, H0.size ≤ q → A q)
    (kk : ∀ (Y1 : va_W) (L1 : List Nat) (T1 : Nat → va_E → Prop) (H1 : Heap) (locs1 : List Loc), post (Y1, L1, T1) → zP D cl A X Y1 L1 T1 H1 → va_S A H0 H1 locs1 → W p l e R s m args below meth c H1 locs1 (cells + mc) (slots + ms) Q (F0 m (pc + 3) ls rest)) : W p l e R s m args below meth c H locs cells slots Q (F0 m pc ls st0) := by
  have hF := zA_of hZ hS hA
  refine va_callv hr hS (fun q _ h => hF q h) hF (fun u t H1 locs1 ht hvm hw hB hz1 hk1 hS1 => ?_)
  obtain ⟨Y1, L1, T1⟩ := u
  obtain ⟨hZ1, -⟩ := hB
  rw [ht] at hZ1
  exact kk Y1 L1 T1 H1 locs1 hw (hZ1.weaken hF) hS1
theorem z_goI {mc ms : Nat} {st0 : List Value} {post : Int32 → zU → Prop} {av : Array Value} (hr : va_Run p l e R s m args below meth c H locs cells slots mc ms (F0 m pc ls st0) rest (va_Qi post (zB D cl tys (zA X Y L H.size) X) (zA X Y L H.size) av) (zA X Y L H.size)) (hZ : zP D cl A X Y L T H) (hS : va_S A H0 H locs) (hA : ∀ q, H0.size ≤ q → A q)
    (kk : ∀ (r : Int32) (Y1 : va_W) (L1 : List Nat) (T1 : Nat → va_E → Prop) (H1 : Heap) (locs1 : List Loc), post r (Y1, L1, T1) → zP D cl A X Y1 L1 T1 H1 → va_S A H0 H1 locs1 → W p l e R s m args below meth c H1 locs1 (cells + mc) (slots + ms) Q (F0 m (pc + 3) ls (.int r :: rest))) : W p l e R s m args below meth c H locs cells slots Q (F0 m pc ls st0) := by
  have hF := zA_of hZ hS hA
  refine va_calli hr hS (fun q _ h => hF q h) hF (fun r u t H1 locs1 ht hvm hw hB hz1 hk1 hS1 => ?_)
  obtain ⟨Y1, L1, T1⟩ := u
  obtain ⟨hZ1, -⟩ := hB
  rw [ht] at hZ1
  exact kk r Y1 L1 T1 H1 locs1 hw (hZ1.weaken hF) hS1
theorem z_goL {mc ms : Nat} {st0 : List Value} {post : Int64 → zU → Prop} {av : Array Value} (hr : va_Run p l e R s m args below meth c H locs cells slots mc ms (F0 m pc ls st0) rest (va_Ql post (zB D cl tys (zA X Y L H.size) X) (zA X Y L H.size) av) (zA X Y L H.size)) (hZ : zP D cl A X Y L T H) (hS : va_S A H0 H locs) (hA : ∀ q, H0.size ≤ q → A q)
    (kk : ∀ (r : Int64) (Y1 : va_W) (L1 : List Nat) (T1 : Nat → va_E → Prop) (H1 : Heap) (locs1 : List Loc), post r (Y1, L1, T1) → zP D cl A X Y1 L1 T1 H1 → va_S A H0 H1 locs1 → W p l e R s m args below meth c H1 locs1 (cells + mc) (slots + ms) Q (F0 m (pc + 3) ls (.long r :: rest))) : W p l e R s m args below meth c H locs cells slots Q (F0 m pc ls st0) := by
  have hF := zA_of hZ hS hA
  refine va_calll hr hS (fun q _ h => hF q h) hF (fun r u t H1 locs1 ht hvm hw hB hz1 hk1 hS1 => ?_)
  obtain ⟨Y1, L1, T1⟩ := u
  obtain ⟨hZ1, -⟩ := hB
  rw [ht] at hZ1
  exact kk r Y1 L1 T1 H1 locs1 hw (hZ1.weaken hF) hS1
/-- a long array of the pool is read, is written -/
theorem z_lald (hexec : p.tables.exec = Jvm.exec) (hb : c.code = cc) (hK : va_K D cl tys s) (hZ : zP D cl A X Y L T H) (t0 : Nat) {cA : ClassId} {n : Nat} (ha : a ∈ L) (hT : T a = zJ cA n) (ht : tys[t0]? = some (cA, .long)) {i : Int32} (hin : vp_in i n) (hdg : decode cc pc = .ok (.laload, 1))
    (kk : ∀ v : Int64, W p l e R s m args below meth c H locs cells slots Q (F0 m (pc + 1) ls (.long v :: rest))) : W p l e R s m args below meth c H locs cells slots Q (F0 m pc ls (.int i :: .ref a :: rest)) := by
  obtain ⟨f, h1, h2, h3⟩ := hZ
  obtain ⟨g, hg⟩ : zJ cA n (f a) := hT ▸ h1 a ha
  obtain ⟨k, hk⟩ := va_pl_get (X := X ++ Y) (f := f) ha
  rw [hg] at hk
  exact va_lald hexec hb hK h2 k t0 hk ht hin hdg (kk _)
theorem z_last (hexec : p.tables.exec = Jvm.exec) (hb : c.code = cc) (hK : va_K D cl tys s) (hZ : zP D cl A X Y L T H) (hS : va_S A H0 H locs) (t0 : Nat) {cA : ClassId} {n : Nat} (ha : a ∈ L) (hT : T a = zJ cA n) (ht : tys[t0]? = some (cA, .long)) {i : Int32} {x : Int64} (hin : vp_in i n) (hdg : decode cc pc = .ok (.lastore, 1))
    (kk : ∀ (H1 : Heap) (locs1 : List Loc), zP D cl A X Y L T H1 → va_S A H0 H1 locs1 → W p l e R s m args below meth c H1 locs1 cells slots Q (F0 m (pc + 1) ls rest)) : W p l e R s m args below meth c H locs cells slots Q (F0 m pc ls (.long x :: .int i :: .ref a :: rest)) := by
  obtain ⟨f, h1, h2, h3⟩ := hZ
  obtain ⟨g, hg⟩ : zJ cA n (f a) := hT ▸ h1 a ha
  obtain ⟨k, hk⟩ := va_pl_get (X := X ++ Y) (f := f) ha
  have hk' := hk
  rw [hg] at hk
  refine va_last hexec hb hK h2 h3 hS k t0 hk ht hin hdg (fun H1 locs1 hP hD hS1 => kk H1 locs1 ?_ hS1)
  rw [va_pl_set h3 ha hk'] at hP hD
  refine ⟨_, fun b hb => ?_, hP, hD⟩
  by_cases e : b = a
  · subst e
    rw [va_up_self, hT]
    exact ⟨_, rfl⟩
  · rw [va_up_ne _ _ e]
    exact h1 b hb
/-- the end of a method -/
theorem z_vret {mc ms : Nat} {post : zU → Prop} (hx : p.tables.exec = Jvm.exec) (hb : c.code = cc) (hr : meth.sig.returnType = none) (hlocks : meth.locks = false) (hK : va_K D cl tys s) (hZ : zP D cl A X Y L T H) (hS : va_S A s.heap H locs) (hp : post (Y, L, T)) (h1 : cells ≤ mc) (h2 : slots ≤ ms) (hdg : decode cc pc = .ok (.return_, 1)) :
    W p l e R s m args below meth c H locs cells slots (MQ below (va_Qv post (zB D cl tys A X) A) args s mc ms A) (F0 m pc ls []) := by
  refine W.widen (k := mc) (n := ms) h1 h2 ?_
  exact W.vret hx hb hr (fun t ht hW => ⟨⟨(Y, L, T), rfl, hp, by show zP _ _ _ _ _ _ _ t.heap; rw [ht]; exact hZ, va_K.moved hW.alike hK⟩, hS.F ht⟩) hS.2.2 hdg
theorem z_iret {mc ms : Nat} {post : Int32 → zU → Prop} {v : Int32} {ty : FieldType} (hx : p.tables.exec = Jvm.exec) (hb : c.code = cc) (hr : meth.sig.returnType = some ty) (hn : narrow ty (.int v) = .int v) (hlocks : meth.locks = false) (hK : va_K D cl tys s) (hZ : zP D cl A X Y L T H) (hS : va_S A s.heap H locs) (hp : post v (Y, L, T)) (h1 : cells ≤ mc) (h2 : slots ≤ ms) (hdg : decode cc pc = .ok (.ireturn, 1)) :
    W p l e R s m args below meth c H locs cells slots (MQ below (va_Qi post (zB D cl tys A X) A) args s mc ms A) (F0 m pc ls [.int v]) := by
  refine W.widen (k := mc) (n := ms) h1 h2 ?_
  exact W.zret hx hb hr hn (fun t ht hW => ⟨⟨v, (Y, L, T), rfl, hp, by show zP _ _ _ _ _ _ _ t.heap; rw [ht]; exact hZ, va_K.moved hW.alike hK⟩, hS.F ht⟩) hS.2.2 hdg
theorem z_lret {mc ms : Nat} {post : Int64 → zU → Prop} {v : Int64} (hx : p.tables.exec = Jvm.exec) (hb : c.code = cc) (hr : meth.sig.returnType = some .long) (hlocks : meth.locks = false) (hK : va_K D cl tys s) (hZ : zP D cl A X Y L T H) (hS : va_S A s.heap H locs) (hp : post v (Y, L, T)) (h1 : cells ≤ mc) (h2 : slots ≤ ms) (hdg : decode cc pc = .ok (.lreturn, 1)) :
    W p l e R s m args below meth c H locs cells slots (MQ below (va_Ql post (zB D cl tys A X) A) args s mc ms A) (F0 m pc ls [.long v]) := by
  refine W.widen (k := mc) (n := ms) h1 h2 ?_
  exact W.lret hx hb hr (fun t ht hW => ⟨⟨v, (Y, L, T), rfl, hp, by show zP _ _ _ _ _ _ _ t.heap; rw [ht]; exact hZ, va_K.moved hW.alike hK⟩, hS.F ht⟩) hS.2.2 hdg
/-- a field of a pooled object, of a told one -/
theorem z_getP (hexec : p.tables.exec = Jvm.exec) (hb : c.code = cc) {own ref C : String} {TT : u_T} {N ci index : Nat} {Ts : List Cond} (hts : ∀ w ∈ Ts, w.before args s = true) (hin : ∀ w ∈ u_ws C TT N, w ∈ Ts) (hown : s.vm.findClass own = some m.cls) (hK : va_K D cl tys s) (hZ : zP D cl A X Y L T H) {vs : List Value} (ha : a ∈ L) (hT : T a = zO ci vs) (hc : cl[ci]? = some (C, TT, N)) (k : Nat) (hk : k < N) (hlink : (Cond.fieldLink own index ref (TT k).2.1 (TT k).2.2.1).before args s = true) (hsame : ∀ x, s.fieldFound? (TT k).1 (TT k).2.1 (TT k).2.2.1 = some x → s.fieldFound? ref (TT k).2.1 (TT k).2.2.1 = some x) {v : Value} (hv : vs[k]? = some v) (hdg : decode cc pc = .ok (.getfield index, 3))
    (kk : W p l e R s m args below meth c H locs cells slots Q (F0 m (pc + 3) ls (v :: rest))) : W p l e R s m args below meth c H locs cells slots Q (F0 m pc ls (.ref a :: rest)) := by
  obtain ⟨f, h1, h2, h3⟩ := hZ
  have hg : f a = .inr (ci, vs) := (show zO ci vs (f a) from hT ▸ h1 a ha)
  obtain ⟨q, hq⟩ := va_pl_get (X := X ++ Y) (f := f) ha
  rw [hg] at hq
  exact va_get hexec hb hts hin hown hK h2 q hq hc k hk hlink hsame hv hdg kk
theorem zY_at {f : Nat → va_E} {i : Nat} {q : Nat × va_E} (he : Y[i]? = some q) : ((X ++ Y) ++ va_pl L f)[X.length + i]? = some q := by
  have hi := (List.getElem?_eq_some_iff.mp he).1
  rw [List.getElem?_append_left (by rw [List.length_append]; omega), List.getElem?_append_right (by omega), Nat.add_sub_cancel_left]
  exact he
theorem zY_set {f : Nat → va_E} {i : Nat} {q : Nat × va_E} (hi : i < Y.length) : ((X ++ Y) ++ va_pl L f).set (X.length + i) q = (X ++ Y.set i q) ++ va_pl L f := by
  rw [List.set_append_left _ _ (by rw [List.length_append]; omega), List.set_append_right _ _ (by omega), Nat.add_sub_cancel_left]
theorem z_getY (hexec : p.tables.exec = Jvm.exec) (hb : c.code = cc) {own ref C : String} {TT : u_T} {N ci index : Nat} {Ts : List Cond} (hts : ∀ w ∈ Ts, w.before args s = true) (hin : ∀ w ∈ u_ws C TT N, w ∈ Ts) (hown : s.vm.findClass own = some m.cls) (hK : va_K D cl tys s) (hZ : zP D cl A X Y L T H) (i : Nat) {vs : List Value} (he : Y[i]? = some (a, .inr (ci, vs))) (hc : cl[ci]? = some (C, TT, N)) (k : Nat) (hk : k < N) (hlink : (Cond.fieldLink own index ref (TT k).2.1 (TT k).2.2.1).before args s = true) (hsame : ∀ x, s.fieldFound? (TT k).1 (TT k).2.1 (TT k).2.2.1 = some x → s.fieldFound? ref (TT k).2.1 (TT k).2.2.1 = some x) {v : Value} (hv : vs[k]? = some v) (hdg : decode cc pc = .ok (.getfield index, 3))
    (kk : W p l e R s m args below meth c H locs cells slots Q (F0 m (pc + 3) ls (v :: rest))) : W p l e R s m args below meth c H locs cells slots Q (F0 m pc ls (.ref a :: rest)) := by
  obtain ⟨f, h1, h2, h3⟩ := hZ
  exact va_get hexec hb hts hin hown hK h2 (X.length + i) (zY_at he) hc k hk hlink hsame hv hdg kk
theorem z_putF (hexec : p.tables.exec = Jvm.exec) (hb : c.code = cc) {own ref C : String} {TT : u_T} {N ci index : Nat} {Ts : List Cond} (hts : ∀ w ∈ Ts, w.before args s = true) (hin : ∀ w ∈ u_ws C TT N, w ∈ Ts) (ty0 : Nat → FieldType) (hty : ∀ k, k < N → parseFieldDescriptor (TT k).2.2.1 = some (ty0 k)) (hnm : ∀ a, a < N → ∀ b, b < N → a ≠ b → (TT a).2.1 ≠ (TT b).2.1) (hown : s.vm.findClass own = some m.cls) (hK : va_K D cl tys s) (hZ : zP D cl A X Y L T H) (hS : va_S A H0 H locs) (i : Nat) {vs : List Value} (he : Y[i]? = some (a, .inr (ci, vs))) (hc : cl[ci]? = some (C, TT, N)) (k : Nat) (hk : k < N) (hlink : (Cond.fieldLink own index ref (TT k).2.1 (TT k).2.2.1).before args s = true) (hsame : ∀ x, s.fieldFound? (TT k).1 (TT k).2.1 (TT k).2.2.1 = some x → s.fieldFound? ref (TT k).2.1 (TT k).2.2.1 = some x) (hfin : (TT k).2.2.2 = true) (hin2 : meth.name = "<init>") (hdecl : (TT k).1 = own) {ty : FieldType} {v : Value} (hd : parseFieldDescriptor (TT k).2.2.1 = some ty) (hn : narrow ty v = v) (hfit : fits ty v = true) (hl : k < vs.length) (hdg : decode cc pc = .ok (.putfield index, 3))
    (kk : ∀ (H1 : Heap) (locs1 : List Loc), zP D cl A X (Y.set i (a, .inr (ci, vs.set k v))) L T H1 → va_S A H0 H1 locs1 → W p l e R s m args below meth c H1 locs1 cells slots Q (F0 m (pc + 3) ls rest)) : W p l e R s m args below meth c H locs cells slots Q (F0 m pc ls (v :: .ref a :: rest)) := by
  obtain ⟨f, h1, h2, h3⟩ := hZ
  refine va_putF hexec hb hts hin ty0 hty hnm hown hK h2 h3 hS (X.length + i) (zY_at he) hc k hk hlink hsame hfin hin2 hdecl hd hn hfit hl hdg (fun H1 locs1 hP hD hS1 => kk H1 locs1 ⟨f, h1, ?_, ?_⟩ hS1)
  · rw [zY_set (List.getElem?_eq_some_iff.mp he).1] at hP; exact hP
  · rw [zY_set (List.getElem?_eq_some_iff.mp he).1] at hD; exact hD
theorem z_put (hexec : p.tables.exec = Jvm.exec) (hb : c.code = cc) {own ref C : String} {TT : u_T} {N ci index : Nat} {Ts : List Cond} (hts : ∀ w ∈ Ts, w.before args s = true) (hin : ∀ w ∈ u_ws C TT N, w ∈ Ts) (ty0 : Nat → FieldType) (hty : ∀ k, k < N → parseFieldDescriptor (TT k).2.2.1 = some (ty0 k)) (hnm : ∀ a, a < N → ∀ b, b < N → a ≠ b → (TT a).2.1 ≠ (TT b).2.1) (hown : s.vm.findClass own = some m.cls) (hK : va_K D cl tys s) (hZ : zP D cl A X Y L T H) (hS : va_S A H0 H locs) (i : Nat) {vs : List Value} (he : Y[i]? = some (a, .inr (ci, vs))) (hc : cl[ci]? = some (C, TT, N)) (k : Nat) (hk : k < N) (hlink : (Cond.fieldLink own index ref (TT k).2.1 (TT k).2.2.1).before args s = true) (hsame : ∀ x, s.fieldFound? (TT k).1 (TT k).2.1 (TT k).2.2.1 = some x → s.fieldFound? ref (TT k).2.1 (TT k).2.2.1 = some x) (hfin : (TT k).2.2.2 = false) {ty : FieldType} {v : Value} (hd : parseFieldDescriptor (TT k).2.2.1 = some ty) (hn : narrow ty v = v) (hfit : fits ty v = true) (hl : k < vs.length) (hdg : decode cc pc = .ok (.putfield index, 3))
    (kk : ∀ (H1 : Heap) (locs1 : List Loc), zP D cl A X (Y.set i (a, .inr (ci, vs.set k v))) L T H1 → va_S A H0 H1 locs1 → W p l e R s m args below meth c H1 locs1 cells slots Q (F0 m (pc + 3) ls rest)) : W p l e R s m args below meth c H locs cells slots Q (F0 m pc ls (v :: .ref a :: rest)) := by
  obtain ⟨f, h1, h2, h3⟩ := hZ
  refine va_put hexec hb hts hin ty0 hty hnm hown hK h2 h3 hS (X.length + i) (zY_at he) hc k hk hlink hsame hfin hd hn hfit hl hdg (fun H1 locs1 hP hD hS1 => kk H1 locs1 ⟨f, h1, ?_, ?_⟩ hS1)
  · rw [zY_set (List.getElem?_eq_some_iff.mp he).1] at hP; exact hP
  · rw [zY_set (List.getElem?_eq_some_iff.mp he).1] at hD; exact hD
/-- a receiver in the pool, a told one -/
theorem z_recvP (hK : va_K D cl tys s) (hZ : zP D cl A X Y L T H) {ci : Nat} {vs : List Value} {r : vw_C} (ha : a ∈ L) (hT : T a = zO ci vs) (hc : cl[ci]? = some r) : ∃ cell : Cell, H[a]? = some cell ∧ cell.vm.isStatics = false ∧ s.vm.findClass r.1 = some cell.cls := by
  obtain ⟨f, h1, h2, h3⟩ := hZ
  have hg : f a = .inr (ci, vs) := (show zO ci vs (f a) from hT ▸ h1 a ha)
  obtain ⟨q, hq⟩ := va_pl_get (X := X ++ Y) (f := f) ha
  rw [hg] at hq
  exact va_recv hK h2 hc hq
theorem z_recvY (hK : va_K D cl tys s) (hZ : zP D cl A X Y L T H) (i : Nat) {ci : Nat} {vs : List Value} {r : vw_C} (he : Y[i]? = some (a, .inr (ci, vs))) (hc : cl[ci]? = some r) : ∃ cell : Cell, H[a]? = some cell ∧ cell.vm.isStatics = false ∧ s.vm.findClass r.1 = some cell.cls := by
  obtain ⟨f, h1, h2, h3⟩ := hZ
  exact va_recv hK h2 hc (zY_at he)
theorem z_preV {av : List Value} {C : String} (hK : va_K D cl tys s) (hZ : zP D cl A X Y L T H) (hr : ∃ cell : Cell, H[a]? = some cell ∧ cell.vm.isStatics = false ∧ s.vm.findClass C = some cell.cls) : PreV s H C a (zPre D cl tys (.ref a :: av) X Y L T H.size) av :=
  ⟨zPre_blind, hr, (z_preS (av := .ref a :: av) hK hZ).2⟩
/-- a static call by the name of a class below its own: the library's staticBackUp, in this kit's form -/
theorem z_runSUp {x y : MethodName} {bytes cc : ByteArray} {maxL nL mc ms n index : Nat} {ret : Option FieldType} {ws ws' : List Cond} {rm : Room} {Pc : Array Value → State → Prop} {Qc : Array Value → State → Outcome → State → Prop} {free : Addr → Prop} {Ts : List Cond} {own owner : String} {As rest : List Value} {g : JFrame}
    (S : CallFix p m c cc nL s args Ts own) (hM : Met l y ws rm Pc Qc mc ms free) (hyx : y = ⟨owner, x.name, x.desc⟩) (hG : GoodIn Ts ws) (hw : ws = Cond.code y bytes maxL ret :: ws') (hrc : rm.cells = mc) (hrs : rm.slots = ms) (hR : rm.frames + 1 ≤ R.frames ∧ 8 + (maxL + 11) + rm.locals ≤ R.locals)
    (hlink : (Cond.methodLink own index x).before args s = true) (hsame : (Cond.sameMethod x.cls owner x.name x.desc).before args s = true) (hstat : (Cond.static y).before args s = true) (hini : (Cond.initialized owner).before args s = true) (hd : owner ≠ "java/lang/invoke/MethodHandle" ∧ owner ≠ "java/lang/invoke/VarHandle" ∧ (parseMethodDescriptor x.desc).map (fun d => d.parameters.length) = some n)
    (hp : PreS s H Pc As) (hg : g.method = m) (hn : As.length = n) (hsize : g.locals.size = nL) (hstack : g.stack = As.reverse ++ rest) (hW : 2 * g.monitorRoom + (rest.map fun v => v.category).sum ≤ 8) (hdg : decode cc g.pc = .ok (.invokestatic index, 3)) (hf : cells + mc ≤ R.cells ∧ slots + ms ≤ R.slots) :
    va_Run p l e R s m args below meth c H locs cells slots mc ms g rest (Qc As.toArray) (free) := by
  subst hyx
  obtain ⟨hx, hb, hml, ho, ht⟩ := S
  have hcw : Cond.code ⟨owner, x.name, x.desc⟩ bytes maxL ret ∈ ws := by rw [hw]; exact List.mem_cons_self
  have hcode := ht _ (hG _ hcw).1
  have hK : Back l R p e below s args ⟨owner, x.name, x.desc⟩ 3 8 (PreOf R mc ms Pc) (PostOf Qc mc ms free) := back_of (bytes := bytes) (maxL := maxL) (ret := ret) hM hp.1 hrc hrs hR.1 hR.2 (pay_in ht hG) hcw (fun a' U hW => word_at hW (Or.inl (by first | rfl | simp [Cond.onTables, Cond.keeps, Cond.steady])) hini)
  obtain ⟨mk, hnamed⟩ := Cond.code_named hcode
  obtain ⟨methM, cM, hmethM, -, -, -, -, -, -, hsigM⟩ := Cond.code_spec hnamed hcode
  intro T hT X
  obtain ⟨v, vm₁, ⟨U', l2, c2, s2⟩, hW₁, X', ⟨g', mk2, t, L, e1, e2, hq, h1, hL, h2, h3⟩, st⟩ := X.staticBackUp hx ho hlink hsame hstat hini hnamed hmethM hsigM ⟨hd.1, hd.2.1⟩ hK hg (hsize.trans hml.symm) (Steps.refl _) (argsL := As) (rest := rest) (fun sig h => by have h2 := hd.2.2; rw [h] at h2; exact hn.trans (Option.some.inj h2).symm) hstack hW (by rw [hb]; exact hdg)
    (fun vm₁ hW₁ => ⟨hf.1, hf.2, hp.2 (T.setVm vm₁) hT hW₁⟩)
  dsimp only [Pt.U, Pt.locs, Pt.cells, Pt.slots] at X' e1 e2 h1 h2 h3 st
  subst h1; subst h2; subst h3
  exact ⟨v, (T.setVm vm₁).calling g' mk2 As.toArray, t, U', L, hT, X', hL, e1, e2, hq, fun tg ht2 => st.trans ht2⟩
/-- arrays of small numbers in the pool -/
theorem z_iald (hexec : p.tables.exec = Jvm.exec) (hb : c.code = cc) (hK : va_K D cl tys s) (hZ : zP D cl A X Y L T H) (t0 : Nat) {cA : ClassId} {n : Nat} (ha : a ∈ L) (hT : T a = zI cA n) (ht : tys[t0]? = some (cA, .int)) {i : Int32} (hin : vp_in i n) (hdg : decode cc pc = .ok (.iaload, 1))
    (kk : ∀ v : Int32, W p l e R s m args below meth c H locs cells slots Q (F0 m (pc + 1) ls (.int v :: rest))) : W p l e R s m args below meth c H locs cells slots Q (F0 m pc ls (.int i :: .ref a :: rest)) := by
  obtain ⟨f, h1, h2, h3⟩ := hZ
  obtain ⟨g, hg⟩ : zI cA n (f a) := hT ▸ h1 a ha
  obtain ⟨k, hk⟩ := va_pl_get (X := X ++ Y) (f := f) ha
  rw [hg] at hk
  exact va_iald hexec hb hK h2 k t0 hk ht hin hdg (kk _)
theorem z_bald (hexec : p.tables.exec = Jvm.exec) (hb : c.code = cc) (hK : va_K D cl tys s) (hZ : zP D cl A X Y L T H) (t0 : Nat) {cA : ClassId} {n : Nat} (ha : a ∈ L) (hT : T a = zI cA n) (ht : tys[t0]? = some (cA, .byte)) {i : Int32} (hin : vp_in i n) (hdg : decode cc pc = .ok (.baload, 1))
    (kk : ∀ v : Int32, W p l e R s m args below meth c H locs cells slots Q (F0 m (pc + 1) ls (.int v :: rest))) : W p l e R s m args below meth c H locs cells slots Q (F0 m pc ls (.int i :: .ref a :: rest)) := by
  obtain ⟨f, h1, h2, h3⟩ := hZ
  obtain ⟨g, hg⟩ : zI cA n (f a) := hT ▸ h1 a ha
  obtain ⟨k, hk⟩ := va_pl_get (X := X ++ Y) (f := f) ha
  rw [hg] at hk
  exact va_bald hexec hb hK h2 k t0 hk ht hin hdg (kk _)
theorem z_zald (hexec : p.tables.exec = Jvm.exec) (hb : c.code = cc) (hK : va_K D cl tys s) (hZ : zP D cl A X Y L T H) (t0 : Nat) {cA : ClassId} {n : Nat} (ha : a ∈ L) (hT : T a = zI cA n) (ht : tys[t0]? = some (cA, .boolean)) {i : Int32} (hin : vp_in i n) (hdg : decode cc pc = .ok (.baload, 1))
    (kk : ∀ v : Int32, W p l e R s m args below meth c H locs cells slots Q (F0 m (pc + 1) ls (.int v :: rest))) : W p l e R s m args below meth c H locs cells slots Q (F0 m pc ls (.int i :: .ref a :: rest)) := by
  obtain ⟨f, h1, h2, h3⟩ := hZ
  obtain ⟨g, hg⟩ : zI cA n (f a) := hT ▸ h1 a ha
  obtain ⟨k, hk⟩ := va_pl_get (X := X ++ Y) (f := f) ha
  rw [hg] at hk
  exact va_zald hexec hb hK h2 k t0 hk ht hin hdg (kk _)
theorem z_iast (hexec : p.tables.exec = Jvm.exec) (hb : c.code = cc) (hK : va_K D cl tys s) (hZ : zP D cl A X Y L T H) (hS : va_S A H0 H locs) (t0 : Nat) {cA : ClassId} {n : Nat} (ha : a ∈ L) (hT : T a = zI cA n) (ht : tys[t0]? = some (cA, .int)) {i : Int32} {x : Int32} (hin : vp_in i n) (hdg : decode cc pc = .ok (.iastore, 1))
    (kk : ∀ (H1 : Heap) (locs1 : List Loc), zP D cl A X Y L T H1 → va_S A H0 H1 locs1 → W p l e R s m args below meth c H1 locs1 cells slots Q (F0 m (pc + 1) ls rest)) : W p l e R s m args below meth c H locs cells slots Q (F0 m pc ls (.int x :: .int i :: .ref a :: rest)) := by
  obtain ⟨f, h1, h2, h3⟩ := hZ
  obtain ⟨g, hg⟩ : zI cA n (f a) := hT ▸ h1 a ha
  obtain ⟨k, hk⟩ := va_pl_get (X := X ++ Y) (f := f) ha
  have hk' := hk
  rw [hg] at hk
  refine va_iast hexec hb hK h2 h3 hS k t0 hk ht hin hdg (fun H1 locs1 hP hD hS1 => kk H1 locs1 ?_ hS1)
  rw [va_pl_set h3 ha hk'] at hP hD
  refine ⟨_, fun b hb => ?_, hP, hD⟩
  by_cases e : b = a
  · subst e
    rw [va_up_self, hT]
    exact ⟨_, rfl⟩
  · rw [va_up_ne _ _ e]
    exact h1 b hb
theorem z_bast (hexec : p.tables.exec = Jvm.exec) (hb : c.code = cc) (hK : va_K D cl tys s) (hZ : zP D cl A X Y L T H) (hS : va_S A H0 H locs) (t0 : Nat) {cA : ClassId} {n : Nat} (ha : a ∈ L) (hT : T a = zI cA n) (ht : tys[t0]? = some (cA, .byte)) {i : Int32} {x : Int32} (hin : vp_in i n) (hdg : decode cc pc = .ok (.bastore, 1))
    (kk : ∀ (H1 : Heap) (locs1 : List Loc), zP D cl A X Y L T H1 → va_S A H0 H1 locs1 → W p l e R s m args below meth c H1 locs1 cells slots Q (F0 m (pc + 1) ls rest)) : W p l e R s m args below meth c H locs cells slots Q (F0 m pc ls (.int x :: .int i :: .ref a :: rest)) := by
  obtain ⟨f, h1, h2, h3⟩ := hZ
  obtain ⟨g, hg⟩ : zI cA n (f a) := hT ▸ h1 a ha
  obtain ⟨k, hk⟩ := va_pl_get (X := X ++ Y) (f := f) ha
  have hk' := hk
  rw [hg] at hk
  refine va_bast hexec hb hK h2 h3 hS k t0 hk ht hin hdg (fun H1 locs1 hP hD hS1 => kk H1 locs1 ?_ hS1)
  rw [va_pl_set h3 ha hk'] at hP hD
  refine ⟨_, fun b hb => ?_, hP, hD⟩
  by_cases e : b = a
  · subst e
    rw [va_up_self, hT]
    exact ⟨_, rfl⟩
  · rw [va_up_ne _ _ e]
    exact h1 b hb
theorem z_zast (hexec : p.tables.exec = Jvm.exec) (hb : c.code = cc) (hK : va_K D cl tys s) (hZ : zP D cl A X Y L T H) (hS : va_S A H0 H locs) (t0 : Nat) {cA : ClassId} {n : Nat} (ha : a ∈ L) (hT : T a = zI cA n) (ht : tys[t0]? = some (cA, .boolean)) {i : Int32} {x : Int32} (hin : vp_in i n) (hdg : decode cc pc = .ok (.bastore, 1))
    (kk : ∀ (H1 : Heap) (locs1 : List Loc), zP D cl A X Y L T H1 → va_S A H0 H1 locs1 → W p l e R s m args below meth c H1 locs1 cells slots Q (F0 m (pc + 1) ls rest)) : W p l e R s m args below meth c H locs cells slots Q (F0 m pc ls (.int x :: .int i :: .ref a :: rest)) := by
  obtain ⟨f, h1, h2, h3⟩ := hZ
  obtain ⟨g, hg⟩ : zI cA n (f a) := hT ▸ h1 a ha
  obtain ⟨k, hk⟩ := va_pl_get (X := X ++ Y) (f := f) ha
  have hk' := hk
  rw [hg] at hk
  refine va_zast hexec hb hK h2 h3 hS k t0 hk ht hin hdg (fun H1 locs1 hP hD hS1 => kk H1 locs1 ?_ hS1)
  rw [va_pl_set h3 ha hk'] at hP hD
  refine ⟨_, fun b hb => ?_, hP, hD⟩
  by_cases e : b = a
  · subst e
    rw [va_up_self, hT]
    exact ⟨_, rfl⟩
  · rw [va_up_ne _ _ e]
    exact h1 b hb
end ZW
/-- the arrays' classes -/
abbrev zT (K : Nat → ClassId) : List (ClassId × FieldType) := [(K 0, .int), (K 1, .long), (K 2, .byte), (K 3, .boolean), (K 4, .object "ShellPair$Bytes"), (K 5, .object "ShellPair$Channel"), (K 6, .object "ShellPairModel$End"), (K 7, .object "ShellPairModel$Row"), (K 8, .object "ShellPairModel$Side"), (K 9, .array .byte), (K 10, .array .long)]
end
section
section ZNUM
abbrev ROOM_X18_copy : Room := { frames := 1, cells := 0, slots := 0, locals := 0 }
set_option maxHeartbeats 4000000 in
set_option maxRecDepth 100000 in
/-- copy: only shapes are told -/
theorem c_X18_copy (l : Launch) (D : va_G) (K : Nat → ClassId) (X Y : va_W) (L : List Nat) (T : Nat → va_E → Prop) {to n_to : Nat} {a n_a : Nat}  (h_to : to ∈ L) (k_to : T to = zJ (K 1) n_to) (b_to : 16 ≤ n_to ∧ n_to < 2147483648) (h_a : a ∈ L) (k_a : T a = zJ (K 1) n_a) (b_a : 16 ≤ n_a ∧ n_a < 2147483648)  : zV l D vwCl (zT K) yX18_copy (zws yX18_copy cX18_copy 3 none) ROOM_X18_copy 0 0 [.ref to, .ref a] X Y L T (zSame Y L T) := by
  refine z_ofW (Qc := fun A => va_Qv (zSame Y L T) (zB D vwCl (zT K) A X) A) (cc := cX18_copy) (maxL := 3) (ret := none) (by decide +kernel) rfl (Nat.le_of_ble_eq_true rfl) ?_
  intro p e s m below meth c A ls hx hb hml hr hts hown hlocks hin hA hK hZ hS hl
  have hown : s.vm.findClass RX18 = some m.cls := hown
  have hts : ∀ w ∈ WR, w.before [.ref to, .ref a].toArray s = true := fun w h => hts w (List.mem_cons_of_mem _ h)
  have hl : lv_has ls 3 [(0, .ref to), (1, .ref a)] := hl
  obtain ⟨H, hH⟩ : ∃ H, H = s.heap := ⟨_, rfl⟩
  have hZ : zP D vwCl A X Y L T H := by rw [hH]; exact hZ
  obtain ⟨locs, hlc⟩ : ∃ q : List Loc, q = [] := ⟨_, rfl⟩
  have hS : va_S A s.heap H locs := by rw [hH, hlc]; exact hS
  suffices hW : W p l e ROOM_X18_copy s m [.ref to, .ref a].toArray below meth c H locs 0 0 (MQ below (va_Qv (zSame Y L T) (zB D vwCl (zT K) A X) A) [.ref to, .ref a].toArray s 0 0 A) (F0 m 0 ls []) by rw [hH, hlc] at hW; exact hW
  clear hH hlc
  refine lv_iconst (v := nI 0) hx hb dX18_copy_0 (by decide +kernel) ?_
  refine lv_istore_n (lv' := [(2, .int (nI 0)), (0, .ref to), (1, .ref a)]) hx hb dX18_copy_1 rfl hl (by decide) rfl (fun ls hl => ?_)
  have L2 : ∀ (n i2 : Nat), i2 ≤ 16 → 16 + 1 ≤ i2 + n → ∀  (H : Heap) (locs : List Loc) (ls : Array Slot), zP D vwCl A X Y L T H → va_S A s.heap H locs → lv_has ls 3 [(2, .int (nI i2)), (0, .ref to), (1, .ref a)] → W p l e ROOM_X18_copy s m [.ref to, .ref a].toArray below meth c H locs 0 0 (MQ below (va_Qv (zSame Y L T) (zB D vwCl (zT K) A X) A) [.ref to, .ref a].toArray s 0 0 A) (F0 m 2 ls []) := by
    intro n
    induction n with
    | zero => intro i2 u2 w2; exact absurd w2 (by omega)
    | succ n ih2 =>
      intro i2 u2 w2  H locs ls hZ hS hl 
      refine lv_iload_n hx hb dX18_copy_2 rfl (lv_at hl 0 rfl) ?_
      refine lv_bipush (v := nI 16) hx hb dX18_copy_3 (by decide +kernel) ?_
      refine lv_icmp_ge (tgt := 20) hx hb dX18_copy_5 (by decide) (fun c5 => ?_) (fun c5 => ?_)
      · have e5 : 16 ≤ i2 := (nI_leI (a := 16) (b := i2) (by omega) (by omega)).mp c5
        exact z_vret hx hb hr hlocks hK hZ hS rfl (Nat.le_of_ble_eq_true rfl) (Nat.le_of_ble_eq_true rfl) dX18_copy_20
      · have e5 : ¬ 16 ≤ i2 := fun q => c5 ((nI_leI (a := 16) (b := i2) (by omega) (by omega)).mpr q)
        refine lv_aload_n hx hb dX18_copy_8 rfl (lv_at hl 1 rfl) ?_
        refine lv_iload_n hx hb dX18_copy_9 rfl (lv_at hl 0 rfl) ?_
        refine lv_aload_n hx hb dX18_copy_10 rfl (lv_at hl 2 rfl) ?_
        refine lv_iload_n hx hb dX18_copy_11 rfl (lv_at hl 0 rfl) ?_
        refine z_lald hx hb hK hZ 1 h_a k_a rfl (vp_in_nI (by omega) (by omega)) dX18_copy_12 (fun x1 => ?_)
        refine z_last hx hb hK hZ hS 1 h_to k_to rfl (vp_in_nI (by omega) (by omega)) dX18_copy_13 (fun H locs hZ hS => ?_)
        refine lv_iinc (v := nI (i2 + 1)) (lv' := [(2, .int (nI (i2 + 1))), (0, .ref to), (1, .ref a)]) hx hb dX18_copy_14 hl (k := 0) rfl (nI_add i2 1) (by decide) rfl (fun ls hl => ?_)
        refine lv_goto (tgt := 2) hx hb dX18_copy_17 (by decide) ?_
        exact ih2 (i2 + 1) (by omega) (by omega)  _ _ _ hZ hS (lv_sub hl [0, 1, 2] rfl) 
  exact L2 (16 + 1) 0 (by omega) (by omega)  _ _ _ hZ hS (lv_sub hl [0, 1, 2] rfl) 
abbrev ROOM_X18_set : Room := { frames := 1, cells := 0, slots := 0, locals := 0 }
set_option maxHeartbeats 4000000 in
set_option maxRecDepth 100000 in
/-- set -/
theorem c_X18_set (l : Launch) (D : va_G) (K : Nat → ClassId) (X Y : va_W) (L : List Nat) (T : Nat → va_E → Prop) {to n_to : Nat} {v : Int32}  (h_to : to ∈ L) (k_to : T to = zJ (K 1) n_to) (b_to : 16 ≤ n_to ∧ n_to < 2147483648)  : zV l D vwCl (zT K) yX18_set (zws yX18_set cX18_set 3 none) ROOM_X18_set 0 0 [.ref to, .int v] X Y L T (zSame Y L T) := by
  refine z_ofW (Qc := fun A => va_Qv (zSame Y L T) (zB D vwCl (zT K) A X) A) (cc := cX18_set) (maxL := 3) (ret := none) (by decide +kernel) rfl (Nat.le_of_ble_eq_true rfl) ?_
  intro p e s m below meth c A ls hx hb hml hr hts hown hlocks hin hA hK hZ hS hl
  have hown : s.vm.findClass RX18 = some m.cls := hown
  have hts : ∀ w ∈ WR, w.before [.ref to, .int v].toArray s = true := fun w h => hts w (List.mem_cons_of_mem _ h)
  have hl : lv_has ls 3 [(0, .ref to), (1, .int v)] := hl
  obtain ⟨H, hH⟩ : ∃ H, H = s.heap := ⟨_, rfl⟩
  have hZ : zP D vwCl A X Y L T H := by rw [hH]; exact hZ
  obtain ⟨locs, hlc⟩ : ∃ q : List Loc, q = [] := ⟨_, rfl⟩
  have hS : va_S A s.heap H locs := by rw [hH, hlc]; exact hS
  suffices hW : W p l e ROOM_X18_set s m [.ref to, .int v].toArray below meth c H locs 0 0 (MQ below (va_Qv (zSame Y L T) (zB D vwCl (zT K) A X) A) [.ref to, .int v].toArray s 0 0 A) (F0 m 0 ls []) by rw [hH, hlc] at hW; exact hW
  clear hH hlc
  refine lv_iconst (v := nI 0) hx hb dX18_set_0 (by decide +kernel) ?_
  refine lv_istore_n (lv' := [(2, .int (nI 0)), (0, .ref to), (1, .int v)]) hx hb dX18_set_1 rfl hl (by decide) rfl (fun ls hl => ?_)
  have L2 : ∀ (n i2 : Nat), i2 ≤ 16 → 16 + 1 ≤ i2 + n → ∀  (H : Heap) (locs : List Loc) (ls : Array Slot), zP D vwCl A X Y L T H → va_S A s.heap H locs → lv_has ls 3 [(2, .int (nI i2)), (0, .ref to), (1, .int v)] → W p l e ROOM_X18_set s m [.ref to, .int v].toArray below meth c H locs 0 0 (MQ below (va_Qv (zSame Y L T) (zB D vwCl (zT K) A X) A) [.ref to, .int v].toArray s 0 0 A) (F0 m 2 ls []) := by
    intro n
    induction n with
    | zero => intro i2 u2 w2; exact absurd w2 (by omega)
    | succ n ih2 =>
      intro i2 u2 w2  H locs ls hZ hS hl 
      refine lv_iload_n hx hb dX18_set_2 rfl (lv_at hl 0 rfl) ?_
      refine lv_bipush (v := nI 16) hx hb dX18_set_3 (by decide +kernel) ?_
      refine lv_icmp_ge (tgt := 27) hx hb dX18_set_5 (by decide) (fun c5 => ?_) (fun c5 => ?_)
      · have e5 : 16 ≤ i2 := (nI_leI (a := 16) (b := i2) (by omega) (by omega)).mp c5
        exact z_vret hx hb hr hlocks hK hZ hS rfl (Nat.le_of_ble_eq_true rfl) (Nat.le_of_ble_eq_true rfl) dX18_set_27
      · have e5 : ¬ 16 ≤ i2 := fun q => c5 ((nI_leI (a := 16) (b := i2) (by omega) (by omega)).mpr q)
        refine lv_aload_n hx hb dX18_set_8 rfl (lv_at hl 1 rfl) ?_
        refine lv_iload_n hx hb dX18_set_9 rfl (lv_at hl 0 rfl) ?_
        refine lv_iload_n hx hb dX18_set_10 rfl (lv_at hl 0 rfl) ?_
        refine lv_if_ne (tgt := 19) hx hb dX18_set_11 (by decide) (fun c11 => ?_) (fun c11 => ?_)
        · have e11 : ¬ i2 = 0 := fun q => c11 ((nI_eq (a := i2) (b := 0) (by omega) (by omega)).mpr q)
          refine lv_lconst (v := 0) hx hb dX18_set_19 (by decide +kernel) ?_
          refine z_last hx hb hK hZ hS 1 h_to k_to rfl (vp_in_nI (by omega) (by omega)) dX18_set_20 (fun H locs hZ hS => ?_)
          refine lv_iinc (v := nI (i2 + 1)) (lv' := [(2, .int (nI (i2 + 1))), (0, .ref to), (1, .int v)]) hx hb dX18_set_21 hl (k := 0) rfl (nI_add i2 1) (by decide) rfl (fun ls hl => ?_)
          refine lv_goto (tgt := 2) hx hb dX18_set_24 (by decide) ?_
          exact ih2 (i2 + 1) (by omega) (by omega)  _ _ _ hZ hS (lv_sub hl [0, 1, 2] rfl) 
        · have e11 : i2 = 0 := (nI_eq (a := i2) (b := 0) (by omega) (by omega)).mp c11
          refine lv_iload_n hx hb dX18_set_14 rfl (lv_at hl 2 rfl) ?_
          refine lv_i2l hx hb dX18_set_15 rfl ?_
          refine lv_topl (fun x1 _ => ?_)
          refine lv_goto (tgt := 20) hx hb dX18_set_16 (by decide) ?_
          refine z_last hx hb hK hZ hS 1 h_to k_to rfl (vp_in_nI (by omega) (by omega)) dX18_set_20 (fun H locs hZ hS => ?_)
          refine lv_iinc (v := nI (i2 + 1)) (lv' := [(2, .int (nI (i2 + 1))), (0, .ref to), (1, .int v)]) hx hb dX18_set_21 hl (k := 0) rfl (nI_add i2 1) (by decide) rfl (fun ls hl => ?_)
          refine lv_goto (tgt := 2) hx hb dX18_set_24 (by decide) ?_
          exact ih2 (i2 + 1) (by omega) (by omega)  _ _ _ hZ hS (lv_sub hl [0, 1, 2] rfl) 
  exact L2 (16 + 1) 0 (by omega) (by omega)  _ _ _ hZ hS (lv_sub hl [0, 1, 2] rfl) 
abbrev ROOM_X18_zero : Room := { frames := 1, cells := 0, slots := 0, locals := 0 }
set_option maxHeartbeats 4000000 in
set_option maxRecDepth 100000 in
/-- zero -/
theorem c_X18_zero (l : Launch) (D : va_G) (K : Nat → ClassId) (X Y : va_W) (L : List Nat) (T : Nat → va_E → Prop) {a n_a : Nat}  (h_a : a ∈ L) (k_a : T a = zJ (K 1) n_a) (b_a : 16 ≤ n_a ∧ n_a < 2147483648)  : zVi l D vwCl (zT K) yX18_zero (zws yX18_zero cX18_zero 2 (some .boolean)) ROOM_X18_zero 0 0 [.ref a] X Y L T (fun _ => zSame Y L T) := by
  refine z_ofW (Qc := fun A => va_Qi (fun _ => zSame Y L T) (zB D vwCl (zT K) A X) A) (cc := cX18_zero) (maxL := 2) (ret := (some .boolean)) (by decide +kernel) rfl (Nat.le_of_ble_eq_true rfl) ?_
  intro p e s m below meth c A ls hx hb hml hr hts hown hlocks hin hA hK hZ hS hl
  have hown : s.vm.findClass RX18 = some m.cls := hown
  have hts : ∀ w ∈ WR, w.before [.ref a].toArray s = true := fun w h => hts w (List.mem_cons_of_mem _ h)
  have hl : lv_has ls 2 [(0, .ref a)] := hl
  obtain ⟨H, hH⟩ : ∃ H, H = s.heap := ⟨_, rfl⟩
  have hZ : zP D vwCl A X Y L T H := by rw [hH]; exact hZ
  obtain ⟨locs, hlc⟩ : ∃ q : List Loc, q = [] := ⟨_, rfl⟩
  have hS : va_S A s.heap H locs := by rw [hH, hlc]; exact hS
  suffices hW : W p l e ROOM_X18_zero s m [.ref a].toArray below meth c H locs 0 0 (MQ below (va_Qi (fun _ => zSame Y L T) (zB D vwCl (zT K) A X) A) [.ref a].toArray s 0 0 A) (F0 m 0 ls []) by rw [hH, hlc] at hW; exact hW
  clear hH hlc
  refine lv_iconst (v := nI 0) hx hb dX18_zero_0 (by decide +kernel) ?_
  refine lv_istore_n (lv' := [(1, .int (nI 0)), (0, .ref a)]) hx hb dX18_zero_1 rfl hl (by decide) rfl (fun ls hl => ?_)
  have L2 : ∀ (n i2 : Nat), i2 ≤ 16 → 16 + 1 ≤ i2 + n → ∀  (H : Heap) (locs : List Loc) (ls : Array Slot), zP D vwCl A X Y L T H → va_S A s.heap H locs → lv_has ls 2 [(1, .int (nI i2)), (0, .ref a)] → W p l e ROOM_X18_zero s m [.ref a].toArray below meth c H locs 0 0 (MQ below (va_Qi (fun _ => zSame Y L T) (zB D vwCl (zT K) A X) A) [.ref a].toArray s 0 0 A) (F0 m 2 ls []) := by
    intro n
    induction n with
    | zero => intro i2 u2 w2; exact absurd w2 (by omega)
    | succ n ih2 =>
      intro i2 u2 w2  H locs ls hZ hS hl 
      refine lv_iload_n hx hb dX18_zero_2 rfl (lv_at hl 0 rfl) ?_
      refine lv_bipush (v := nI 16) hx hb dX18_zero_3 (by decide +kernel) ?_
      refine lv_icmp_ge (tgt := 24) hx hb dX18_zero_5 (by decide) (fun c5 => ?_) (fun c5 => ?_)
      · have e5 : 16 ≤ i2 := (nI_leI (a := 16) (b := i2) (by omega) (by omega)).mp c5
        refine lv_iconst (v := nI 1) hx hb dX18_zero_24 (by decide +kernel) ?_
        exact z_iret hx hb hr rfl hlocks hK hZ hS rfl (Nat.le_of_ble_eq_true rfl) (Nat.le_of_ble_eq_true rfl) dX18_zero_25
      · have e5 : ¬ 16 ≤ i2 := fun q => c5 ((nI_leI (a := 16) (b := i2) (by omega) (by omega)).mpr q)
        refine lv_aload_n hx hb dX18_zero_8 rfl (lv_at hl 1 rfl) ?_
        refine lv_iload_n hx hb dX18_zero_9 rfl (lv_at hl 0 rfl) ?_
        refine z_lald hx hb hK hZ 1 h_a k_a rfl (vp_in_nI (by omega) (by omega)) dX18_zero_10 (fun x1 => ?_)
        refine lv_lconst (v := 0) hx hb dX18_zero_11 (by decide +kernel) ?_
        refine W.lcmp hx hb dX18_zero_12 ?_
        refine lv_topi (fun x2 ex2 => ?_)
        refine lv_if_eq (tgt := 18) hx hb dX18_zero_13 (by decide) (fun c13 => ?_) (fun c13 => ?_)
        · refine lv_iinc (v := nI (i2 + 1)) (lv' := [(1, .int (nI (i2 + 1))), (0, .ref a)]) hx hb dX18_zero_18 hl (k := 0) rfl (nI_add i2 1) (by decide) rfl (fun ls hl => ?_)
          refine lv_goto (tgt := 2) hx hb dX18_zero_21 (by decide) ?_
          exact ih2 (i2 + 1) (by omega) (by omega)  _ _ _ hZ hS (lv_sub hl [0, 1] rfl) 
        · refine lv_iconst (v := nI 0) hx hb dX18_zero_16 (by decide +kernel) ?_
          exact z_iret hx hb hr rfl hlocks hK hZ hS rfl (Nat.le_of_ble_eq_true rfl) (Nat.le_of_ble_eq_true rfl) dX18_zero_17
  exact L2 (16 + 1) 0 (by omega) (by omega)  _ _ _ hZ hS (lv_sub hl [0, 1] rfl) 
abbrev ROOM_X18_below : Room := { frames := 1, cells := 0, slots := 0, locals := 0 }
set_option maxHeartbeats 4000000 in
set_option maxRecDepth 100000 in
/-- below -/
theorem c_X18_below (l : Launch) (D : va_G) (K : Nat → ClassId) (X Y : va_W) (L : List Nat) (T : Nat → va_E → Prop) {a n_a : Nat} {b n_b : Nat}  (h_a : a ∈ L) (k_a : T a = zJ (K 1) n_a) (b_a : 16 ≤ n_a ∧ n_a < 2147483648) (h_b : b ∈ L) (k_b : T b = zJ (K 1) n_b) (b_b : 16 ≤ n_b ∧ n_b < 2147483648)  : zVi l D vwCl (zT K) yX18_below (zws yX18_below cX18_below 3 (some .boolean)) ROOM_X18_below 0 0 [.ref a, .ref b] X Y L T (fun _ => zSame Y L T) := by
  refine z_ofW (Qc := fun A => va_Qi (fun _ => zSame Y L T) (zB D vwCl (zT K) A X) A) (cc := cX18_below) (maxL := 3) (ret := (some .boolean)) (by decide +kernel) rfl (Nat.le_of_ble_eq_true rfl) ?_
  intro p e s m below meth c A ls hx hb hml hr hts hown hlocks hin hA hK hZ hS hl
  have hown : s.vm.findClass RX18 = some m.cls := hown
  have hts : ∀ w ∈ WR, w.before [.ref a, .ref b].toArray s = true := fun w h => hts w (List.mem_cons_of_mem _ h)
  have hl : lv_has ls 3 [(0, .ref a), (1, .ref b)] := hl
  obtain ⟨H, hH⟩ : ∃ H, H = s.heap := ⟨_, rfl⟩
  have hZ : zP D vwCl A X Y L T H := by rw [hH]; exact hZ
  obtain ⟨locs, hlc⟩ : ∃ q : List Loc, q = [] := ⟨_, rfl⟩
  have hS : va_S A s.heap H locs := by rw [hH, hlc]; exact hS
  suffices hW : W p l e ROOM_X18_below s m [.ref a, .ref b].toArray below meth c H locs 0 0 (MQ below (va_Qi (fun _ => zSame Y L T) (zB D vwCl (zT K) A X) A) [.ref a, .ref b].toArray s 0 0 A) (F0 m 0 ls []) by rw [hH, hlc] at hW; exact hW
  clear hH hlc
  refine lv_bipush (v := nI 15) hx hb dX18_below_0 (by decide +kernel) ?_
  refine lv_istore_n (lv' := [(2, .int (nI 15)), (0, .ref a), (1, .ref b)]) hx hb dX18_below_2 rfl hl (by decide) rfl (fun ls hl => ?_)
  have L3 : ∀ (i3 : Nat), i3 ≤ 16 → ∀  (H : Heap) (locs : List Loc) (ls : Array Slot), zP D vwCl A X Y L T H → va_S A s.heap H locs → lv_has ls 3 [(2, .int (nI i3 + (-1))), (0, .ref a), (1, .ref b)] → W p l e ROOM_X18_below s m [.ref a, .ref b].toArray below meth c H locs 0 0 (MQ below (va_Qi (fun _ => zSame Y L T) (zB D vwCl (zT K) A X) A) [.ref a, .ref b].toArray s 0 0 A) (F0 m 3 ls []) := by
    intro i3
    induction i3 with
    | zero =>
      intro u3  H locs ls hZ hS hl 
      refine lv_iload_n hx hb dX18_below_3 rfl (lv_at hl 0 rfl) ?_
      refine lv_if_lt (tgt := 39) hx hb dX18_below_4 (by decide) (fun c4 => ?_) (fun c4 => ?_)
      · refine lv_iconst (v := nI 0) hx hb dX18_below_39 (by decide +kernel) ?_
        exact z_iret hx hb hr rfl hlocks hK hZ hS rfl (Nat.le_of_ble_eq_true rfl) (Nat.le_of_ble_eq_true rfl) dX18_below_40
      · exact absurd (by decide +kernel) c4
    | succ i3 ih3 =>
      intro u3  H locs ls hZ hS hl 
      rw [pk_m1 i3] at hl
      refine lv_iload_n hx hb dX18_below_3 rfl (lv_at hl 0 rfl) ?_
      refine lv_if_lt (tgt := 39) hx hb dX18_below_4 (by decide) (fun c4 => ?_) (fun c4 => ?_)
      · exact absurd c4 (nI_pos (by omega))
      · have e4 : ¬ i3 < 0 := fun q => c4 ((nI_ltI (a := i3) (b := 0) (by omega) (by omega)).mpr q)
        refine lv_aload_n hx hb dX18_below_7 rfl (lv_at hl 1 rfl) ?_
        refine lv_iload_n hx hb dX18_below_8 rfl (lv_at hl 0 rfl) ?_
        refine z_lald hx hb hK hZ 1 h_a k_a rfl (vp_in_nI (by omega) (by omega)) dX18_below_9 (fun x1 => ?_)
        refine lv_aload_n hx hb dX18_below_10 rfl (lv_at hl 2 rfl) ?_
        refine lv_iload_n hx hb dX18_below_11 rfl (lv_at hl 0 rfl) ?_
        refine z_lald hx hb hK hZ 1 h_b k_b rfl (vp_in_nI (by omega) (by omega)) dX18_below_12 (fun x2 => ?_)
        refine W.lcmp hx hb dX18_below_13 ?_
        refine lv_topi (fun x3 ex3 => ?_)
        refine lv_if_eq (tgt := 33) hx hb dX18_below_14 (by decide) (fun c14 => ?_) (fun c14 => ?_)
        · refine lv_iinc (v := nI i3 + (-1)) (lv' := [(2, .int (nI i3 + (-1))), (0, .ref a), (1, .ref b)]) hx hb dX18_below_33 hl (k := 0) rfl rfl (by decide) rfl (fun ls hl => ?_)
          refine lv_goto (tgt := 3) hx hb dX18_below_36 (by decide) ?_
          exact ih3 (by omega)  _ _ _ hZ hS (lv_sub hl [0, 1, 2] rfl) 
        · refine lv_aload_n hx hb dX18_below_17 rfl (lv_at hl 1 rfl) ?_
          refine lv_iload_n hx hb dX18_below_18 rfl (lv_at hl 0 rfl) ?_
          refine z_lald hx hb hK hZ 1 h_a k_a rfl (vp_in_nI (by omega) (by omega)) dX18_below_19 (fun x4 => ?_)
          refine lv_aload_n hx hb dX18_below_20 rfl (lv_at hl 2 rfl) ?_
          refine lv_iload_n hx hb dX18_below_21 rfl (lv_at hl 0 rfl) ?_
          refine z_lald hx hb hK hZ 1 h_b k_b rfl (vp_in_nI (by omega) (by omega)) dX18_below_22 (fun x5 => ?_)
          refine W.lcmp hx hb dX18_below_23 ?_
          refine lv_topi (fun x6 ex6 => ?_)
          refine lv_if_ge (tgt := 31) hx hb dX18_below_24 (by decide) (fun c24 => ?_) (fun c24 => ?_)
          · refine lv_iconst (v := nI 0) hx hb dX18_below_31 (by decide +kernel) ?_
            exact z_iret hx hb hr rfl hlocks hK hZ hS rfl (Nat.le_of_ble_eq_true rfl) (Nat.le_of_ble_eq_true rfl) dX18_below_32
          · refine lv_iconst (v := nI 1) hx hb dX18_below_27 (by decide +kernel) ?_
            refine lv_goto (tgt := 32) hx hb dX18_below_28 (by decide) ?_
            exact z_iret hx hb hr rfl hlocks hK hZ hS rfl (Nat.le_of_ble_eq_true rfl) (Nat.le_of_ble_eq_true rfl) dX18_below_32
  exact L3 (15 + 1) (by omega)  _ _ _ hZ hS (by rw [pk_m1]; exact lv_sub hl [0, 1, 2] rfl) 
abbrev ROOM_X18_alike : Room := { frames := 1, cells := 0, slots := 0, locals := 0 }
set_option maxHeartbeats 4000000 in
set_option maxRecDepth 100000 in
/-- alike -/
theorem c_X18_alike (l : Launch) (D : va_G) (K : Nat → ClassId) (X Y : va_W) (L : List Nat) (T : Nat → va_E → Prop) {a n_a : Nat} {b n_b : Nat}  (h_a : a ∈ L) (k_a : T a = zJ (K 1) n_a) (b_a : 16 ≤ n_a ∧ n_a < 2147483648) (h_b : b ∈ L) (k_b : T b = zJ (K 1) n_b) (b_b : 16 ≤ n_b ∧ n_b < 2147483648)  : zVi l D vwCl (zT K) yX18_alike (zws yX18_alike cX18_alike 3 (some .boolean)) ROOM_X18_alike 0 0 [.ref a, .ref b] X Y L T (fun _ => zSame Y L T) := by
  refine z_ofW (Qc := fun A => va_Qi (fun _ => zSame Y L T) (zB D vwCl (zT K) A X) A) (cc := cX18_alike) (maxL := 3) (ret := (some .boolean)) (by decide +kernel) rfl (Nat.le_of_ble_eq_true rfl) ?_
  intro p e s m below meth c A ls hx hb hml hr hts hown hlocks hin hA hK hZ hS hl
  have hown : s.vm.findClass RX18 = some m.cls := hown
  have hts : ∀ w ∈ WR, w.before [.ref a, .ref b].toArray s = true := fun w h => hts w (List.mem_cons_of_mem _ h)
  have hl : lv_has ls 3 [(0, .ref a), (1, .ref b)] := hl
  obtain ⟨H, hH⟩ : ∃ H, H = s.heap := ⟨_, rfl⟩
  have hZ : zP D vwCl A X Y L T H := by rw [hH]; exact hZ
  obtain ⟨locs, hlc⟩ : ∃ q : List Loc, q = [] := ⟨_, rfl⟩
  have hS : va_S A s.heap H locs := by rw [hH, hlc]; exact hS
  suffices hW : W p l e ROOM_X18_alike s m [.ref a, .ref b].toArray below meth c H locs 0 0 (MQ below (va_Qi (fun _ => zSame Y L T) (zB D vwCl (zT K) A X) A) [.ref a, .ref b].toArray s 0 0 A) (F0 m 0 ls []) by rw [hH, hlc] at hW; exact hW
  clear hH hlc
  refine lv_iconst (v := nI 0) hx hb dX18_alike_0 (by decide +kernel) ?_
  refine lv_istore_n (lv' := [(2, .int (nI 0)), (0, .ref a), (1, .ref b)]) hx hb dX18_alike_1 rfl hl (by decide) rfl (fun ls hl => ?_)
  have L2 : ∀ (n i2 : Nat), i2 ≤ 16 → 16 + 1 ≤ i2 + n → ∀  (H : Heap) (locs : List Loc) (ls : Array Slot), zP D vwCl A X Y L T H → va_S A s.heap H locs → lv_has ls 3 [(2, .int (nI i2)), (0, .ref a), (1, .ref b)] → W p l e ROOM_X18_alike s m [.ref a, .ref b].toArray below meth c H locs 0 0 (MQ below (va_Qi (fun _ => zSame Y L T) (zB D vwCl (zT K) A X) A) [.ref a, .ref b].toArray s 0 0 A) (F0 m 2 ls []) := by
    intro n
    induction n with
    | zero => intro i2 u2 w2; exact absurd w2 (by omega)
    | succ n ih2 =>
      intro i2 u2 w2  H locs ls hZ hS hl 
      refine lv_iload_n hx hb dX18_alike_2 rfl (lv_at hl 0 rfl) ?_
      refine lv_bipush (v := nI 16) hx hb dX18_alike_3 (by decide +kernel) ?_
      refine lv_icmp_ge (tgt := 26) hx hb dX18_alike_5 (by decide) (fun c5 => ?_) (fun c5 => ?_)
      · have e5 : 16 ≤ i2 := (nI_leI (a := 16) (b := i2) (by omega) (by omega)).mp c5
        refine lv_iconst (v := nI 1) hx hb dX18_alike_26 (by decide +kernel) ?_
        exact z_iret hx hb hr rfl hlocks hK hZ hS rfl (Nat.le_of_ble_eq_true rfl) (Nat.le_of_ble_eq_true rfl) dX18_alike_27
      · have e5 : ¬ 16 ≤ i2 := fun q => c5 ((nI_leI (a := 16) (b := i2) (by omega) (by omega)).mpr q)
        refine lv_aload_n hx hb dX18_alike_8 rfl (lv_at hl 1 rfl) ?_
        refine lv_iload_n hx hb dX18_alike_9 rfl (lv_at hl 0 rfl) ?_
        refine z_lald hx hb hK hZ 1 h_a k_a rfl (vp_in_nI (by omega) (by omega)) dX18_alike_10 (fun x1 => ?_)
        refine lv_aload_n hx hb dX18_alike_11 rfl (lv_at hl 2 rfl) ?_
        refine lv_iload_n hx hb dX18_alike_12 rfl (lv_at hl 0 rfl) ?_
        refine z_lald hx hb hK hZ 1 h_b k_b rfl (vp_in_nI (by omega) (by omega)) dX18_alike_13 (fun x2 => ?_)
        refine W.lcmp hx hb dX18_alike_14 ?_
        refine lv_topi (fun x3 ex3 => ?_)
        refine lv_if_eq (tgt := 20) hx hb dX18_alike_15 (by decide) (fun c15 => ?_) (fun c15 => ?_)
        · refine lv_iinc (v := nI (i2 + 1)) (lv' := [(2, .int (nI (i2 + 1))), (0, .ref a), (1, .ref b)]) hx hb dX18_alike_20 hl (k := 0) rfl (nI_add i2 1) (by decide) rfl (fun ls hl => ?_)
          refine lv_goto (tgt := 2) hx hb dX18_alike_23 (by decide) ?_
          exact ih2 (i2 + 1) (by omega) (by omega)  _ _ _ hZ hS (lv_sub hl [0, 1, 2] rfl) 
        · refine lv_iconst (v := nI 0) hx hb dX18_alike_18 (by decide +kernel) ?_
          exact z_iret hx hb hr rfl hlocks hK hZ hS rfl (Nat.le_of_ble_eq_true rfl) (Nat.le_of_ble_eq_true rfl) dX18_alike_19
  exact L2 (16 + 1) 0 (by omega) (by omega)  _ _ _ hZ hS (lv_sub hl [0, 1, 2] rfl) 
abbrev ROOM_X18_less : Room := { frames := 1, cells := 0, slots := 0, locals := 0 }
set_option maxHeartbeats 4000000 in
set_option maxRecDepth 100000 in
/-- less -/
theorem c_X18_less (l : Launch) (D : va_G) (K : Nat → ClassId) (X Y : va_W) (L : List Nat) (T : Nat → va_E → Prop) {to n_to : Nat} {a n_a : Nat} {b n_b : Nat}  (h_to : to ∈ L) (k_to : T to = zJ (K 1) n_to) (b_to : 16 ≤ n_to ∧ n_to < 2147483648) (h_a : a ∈ L) (k_a : T a = zJ (K 1) n_a) (b_a : 16 ≤ n_a ∧ n_a < 2147483648) (h_b : b ∈ L) (k_b : T b = zJ (K 1) n_b) (b_b : 16 ≤ n_b ∧ n_b < 2147483648)  : zV l D vwCl (zT K) yX18_less (zws yX18_less cX18_less 8 none) ROOM_X18_less 0 0 [.ref to, .ref a, .ref b] X Y L T (zSame Y L T) := by
  refine z_ofW (Qc := fun A => va_Qv (zSame Y L T) (zB D vwCl (zT K) A X) A) (cc := cX18_less) (maxL := 8) (ret := none) (by decide +kernel) rfl (Nat.le_of_ble_eq_true rfl) ?_
  intro p e s m below meth c A ls hx hb hml hr hts hown hlocks hin hA hK hZ hS hl
  have hown : s.vm.findClass RX18 = some m.cls := hown
  have hts : ∀ w ∈ WR, w.before [.ref to, .ref a, .ref b].toArray s = true := fun w h => hts w (List.mem_cons_of_mem _ h)
  have hl : lv_has ls 8 [(0, .ref to), (1, .ref a), (2, .ref b)] := hl
  obtain ⟨H, hH⟩ : ∃ H, H = s.heap := ⟨_, rfl⟩
  have hZ : zP D vwCl A X Y L T H := by rw [hH]; exact hZ
  obtain ⟨locs, hlc⟩ : ∃ q : List Loc, q = [] := ⟨_, rfl⟩
  have hS : va_S A s.heap H locs := by rw [hH, hlc]; exact hS
  suffices hW : W p l e ROOM_X18_less s m [.ref to, .ref a, .ref b].toArray below meth c H locs 0 0 (MQ below (va_Qv (zSame Y L T) (zB D vwCl (zT K) A X) A) [.ref to, .ref a, .ref b].toArray s 0 0 A) (F0 m 0 ls []) by rw [hH, hlc] at hW; exact hW
  clear hH hlc
  refine lv_lconst (v := 0) hx hb dX18_less_0 (by decide +kernel) ?_
  refine lv_lstore_n (lv' := [(3, .long 0), (0, .ref to), (1, .ref a), (2, .ref b)]) hx hb dX18_less_1 rfl hl (by decide) rfl (fun ls hl => ?_)
  refine lv_iconst (v := nI 0) hx hb dX18_less_2 (by decide +kernel) ?_
  refine lv_istore (lv' := [(5, .int (nI 0)), (3, .long 0), (0, .ref to), (1, .ref a), (2, .ref b)]) hx hb dX18_less_3 hl (by decide) rfl (fun ls hl => ?_)
  have L5 : ∀ (n i5 : Nat), i5 ≤ 16 → 16 + 1 ≤ i5 + n → ∀ (v3_5 : Int64) (H : Heap) (locs : List Loc) (ls : Array Slot), zP D vwCl A X Y L T H → va_S A s.heap H locs → lv_has ls 8 [(5, .int (nI i5)), (0, .ref to), (1, .ref a), (2, .ref b), (3, .long v3_5)] → W p l e ROOM_X18_less s m [.ref to, .ref a, .ref b].toArray below meth c H locs 0 0 (MQ below (va_Qv (zSame Y L T) (zB D vwCl (zT K) A X) A) [.ref to, .ref a, .ref b].toArray s 0 0 A) (F0 m 5 ls []) := by
    intro n
    induction n with
    | zero => intro i5 u5 w5; exact absurd w5 (by omega)
    | succ n ih5 =>
      intro i5 u5 w5 v3_5 H locs ls hZ hS hl 
      refine lv_iload hx hb dX18_less_5 (lv_at hl 0 rfl) ?_
      refine lv_bipush (v := nI 16) hx hb dX18_less_7 (by decide +kernel) ?_
      refine lv_icmp_ge (tgt := 54) hx hb dX18_less_9 (by decide) (fun c9 => ?_) (fun c9 => ?_)
      · have e9 : 16 ≤ i5 := (nI_leI (a := 16) (b := i5) (by omega) (by omega)).mp c9
        exact z_vret hx hb hr hlocks hK hZ hS rfl (Nat.le_of_ble_eq_true rfl) (Nat.le_of_ble_eq_true rfl) dX18_less_54
      · have e9 : ¬ 16 ≤ i5 := fun q => c9 ((nI_leI (a := 16) (b := i5) (by omega) (by omega)).mpr q)
        refine lv_aload_n hx hb dX18_less_12 rfl (lv_at hl 2 rfl) ?_
        refine lv_iload hx hb dX18_less_13 (lv_at hl 0 rfl) ?_
        refine z_lald hx hb hK hZ 1 h_a k_a rfl (vp_in_nI (by omega) (by omega)) dX18_less_15 (fun x1 => ?_)
        refine lv_aload_n hx hb dX18_less_16 rfl (lv_at hl 3 rfl) ?_
        refine lv_iload hx hb dX18_less_17 (lv_at hl 0 rfl) ?_
        refine z_lald hx hb hK hZ 1 h_b k_b rfl (vp_in_nI (by omega) (by omega)) dX18_less_19 (fun x2 => ?_)
        refine lv_lsub hx hb dX18_less_20 ?_
        refine lv_topl (fun x3 _ => ?_)
        refine lv_lload_n hx hb dX18_less_21 rfl (lv_at hl 4 rfl) ?_
        refine lv_lsub hx hb dX18_less_22 ?_
        refine lv_topl (fun x4 _ => ?_)
        refine lv_lstore (lv' := [(6, .long x4), (5, .int (nI i5)), (0, .ref to), (1, .ref a), (2, .ref b), (3, .long v3_5)]) hx hb dX18_less_23 hl (by decide) rfl (fun ls hl => ?_)
        refine lv_lload hx hb dX18_less_25 (lv_at hl 0 rfl) ?_
        refine lv_lconst (v := 0) hx hb dX18_less_27 (by decide +kernel) ?_
        refine W.lcmp hx hb dX18_less_28 ?_
        refine lv_topi (fun x5 ex5 => ?_)
        refine lv_if_ge (tgt := 36) hx hb dX18_less_29 (by decide) (fun c29 => ?_) (fun c29 => ?_)
        · refine lv_lconst (v := 0) hx hb dX18_less_36 (by decide +kernel) ?_
          refine lv_lstore_n (lv' := [(3, .long 0), (6, .long x4), (5, .int (nI i5)), (0, .ref to), (1, .ref a), (2, .ref b)]) hx hb dX18_less_37 rfl hl (by decide) rfl (fun ls hl => ?_)
          refine lv_aload_n hx hb dX18_less_38 rfl (lv_at hl 3 rfl) ?_
          refine lv_iload hx hb dX18_less_39 (lv_at hl 2 rfl) ?_
          refine lv_lload hx hb dX18_less_41 (lv_at hl 1 rfl) ?_
          refine lv_ldc2 (v := (65535)) hx hb hown (hts _ zw_203) dX18_less_43 ?_
          refine lv_land hx hb dX18_less_46 ?_
          refine lv_topl (fun x6 _ => ?_)
          refine z_last hx hb hK hZ hS 1 h_to k_to rfl (vp_in_nI (by omega) (by omega)) dX18_less_47 (fun H locs hZ hS => ?_)
          refine lv_iinc (v := nI (i5 + 1)) (lv' := [(5, .int (nI (i5 + 1))), (3, .long 0), (6, .long x4), (0, .ref to), (1, .ref a), (2, .ref b)]) hx hb dX18_less_48 hl (k := 2) rfl (nI_add i5 1) (by decide) rfl (fun ls hl => ?_)
          refine lv_goto (tgt := 5) hx hb dX18_less_51 (by decide) ?_
          exact ih5 (i5 + 1) (by omega) (by omega) 0 _ _ _ hZ hS (lv_sub hl [0, 3, 4, 5, 1] rfl) 
        · refine lv_lconst (v := 1) hx hb dX18_less_32 (by decide +kernel) ?_
          refine lv_goto (tgt := 37) hx hb dX18_less_33 (by decide) ?_
          refine lv_lstore_n (lv' := [(3, .long 1), (6, .long x4), (5, .int (nI i5)), (0, .ref to), (1, .ref a), (2, .ref b)]) hx hb dX18_less_37 rfl hl (by decide) rfl (fun ls hl => ?_)
          refine lv_aload_n hx hb dX18_less_38 rfl (lv_at hl 3 rfl) ?_
          refine lv_iload hx hb dX18_less_39 (lv_at hl 2 rfl) ?_
          refine lv_lload hx hb dX18_less_41 (lv_at hl 1 rfl) ?_
          refine lv_ldc2 (v := (65535)) hx hb hown (hts _ zw_203) dX18_less_43 ?_
          refine lv_land hx hb dX18_less_46 ?_
          refine lv_topl (fun x7 _ => ?_)
          refine z_last hx hb hK hZ hS 1 h_to k_to rfl (vp_in_nI (by omega) (by omega)) dX18_less_47 (fun H locs hZ hS => ?_)
          refine lv_iinc (v := nI (i5 + 1)) (lv' := [(5, .int (nI (i5 + 1))), (3, .long 1), (6, .long x4), (0, .ref to), (1, .ref a), (2, .ref b)]) hx hb dX18_less_48 hl (k := 2) rfl (nI_add i5 1) (by decide) rfl (fun ls hl => ?_)
          refine lv_goto (tgt := 5) hx hb dX18_less_51 (by decide) ?_
          exact ih5 (i5 + 1) (by omega) (by omega) 1 _ _ _ hZ hS (lv_sub hl [0, 3, 4, 5, 1] rfl) 
  exact L5 (16 + 1) 0 (by omega) (by omega) 0 _ _ _ hZ hS (lv_sub hl [0, 2, 3, 4, 1] rfl) 
abbrev ROOM_X18_plus : Room := { frames := 2, cells := 0, slots := 0, locals := 27 }
set_option maxHeartbeats 4000000 in
set_option maxRecDepth 100000 in
/-- plus -/
theorem c_X18_plus (l : Launch) (D : va_G) (K : Nat → ClassId) (X Y : va_W) (L : List Nat) (T : Nat → va_E → Prop) {to n_to : Nat} {a n_a : Nat} {b n_b : Nat} {mo n_mo : Nat}  (h_to : to ∈ L) (k_to : T to = zJ (K 1) n_to) (b_to : 16 ≤ n_to ∧ n_to < 2147483648) (h_a : a ∈ L) (k_a : T a = zJ (K 1) n_a) (b_a : 16 ≤ n_a ∧ n_a < 2147483648) (h_b : b ∈ L) (k_b : T b = zJ (K 1) n_b) (b_b : 16 ≤ n_b ∧ n_b < 2147483648) (h_mo : mo ∈ L) (k_mo : T mo = zJ (K 1) n_mo) (b_mo : 16 ≤ n_mo ∧ n_mo < 2147483648)  : zV l D vwCl (zT K) yX18_plus (zws yX18_plus cX18_plus 7 none) ROOM_X18_plus 0 0 [.ref to, .ref a, .ref b, .ref mo] X Y L T (zSame Y L T) := by
  refine z_ofW (Qc := fun A => va_Qv (zSame Y L T) (zB D vwCl (zT K) A X) A) (cc := cX18_plus) (maxL := 7) (ret := none) (by decide +kernel) rfl (Nat.le_of_ble_eq_true rfl) ?_
  intro p e s m below meth c A ls hx hb hml hr hts hown hlocks hin hA hK hZ hS hl
  have hown : s.vm.findClass RX18 = some m.cls := hown
  have hts : ∀ w ∈ WR, w.before [.ref to, .ref a, .ref b, .ref mo].toArray s = true := fun w h => hts w (List.mem_cons_of_mem _ h)
  have hl : lv_has ls 7 [(0, .ref to), (1, .ref a), (2, .ref b), (3, .ref mo)] := hl
  obtain ⟨H, hH⟩ : ∃ H, H = s.heap := ⟨_, rfl⟩
  have hZ : zP D vwCl A X Y L T H := by rw [hH]; exact hZ
  obtain ⟨locs, hlc⟩ : ∃ q : List Loc, q = [] := ⟨_, rfl⟩
  have hS : va_S A s.heap H locs := by rw [hH, hlc]; exact hS
  suffices hW : W p l e ROOM_X18_plus s m [.ref to, .ref a, .ref b, .ref mo].toArray below meth c H locs 0 0 (MQ below (va_Qv (zSame Y L T) (zB D vwCl (zT K) A X) A) [.ref to, .ref a, .ref b, .ref mo].toArray s 0 0 A) (F0 m 0 ls []) by rw [hH, hlc] at hW; exact hW
  clear hH hlc
  refine lv_lconst (v := 0) hx hb dX18_plus_0 (by decide +kernel) ?_
  refine lv_lstore (lv' := [(4, .long 0), (0, .ref to), (1, .ref a), (2, .ref b), (3, .ref mo)]) hx hb dX18_plus_1 hl (by decide) rfl (fun ls hl => ?_)
  refine lv_iconst (v := nI 0) hx hb dX18_plus_3 (by decide +kernel) ?_
  refine lv_istore (lv' := [(6, .int (nI 0)), (4, .long 0), (0, .ref to), (1, .ref a), (2, .ref b), (3, .ref mo)]) hx hb dX18_plus_4 hl (by decide) rfl (fun ls hl => ?_)
  have L6 : ∀ (n i6 : Nat), i6 ≤ 16 → 16 + 1 ≤ i6 + n → ∀ (v4_6 : Int64) (H : Heap) (locs : List Loc) (ls : Array Slot), zP D vwCl A X Y L T H → va_S A s.heap H locs → lv_has ls 7 [(6, .int (nI i6)), (0, .ref to), (1, .ref a), (2, .ref b), (3, .ref mo), (4, .long v4_6)] → W p l e ROOM_X18_plus s m [.ref to, .ref a, .ref b, .ref mo].toArray below meth c H locs 0 0 (MQ below (va_Qv (zSame Y L T) (zB D vwCl (zT K) A X) A) [.ref to, .ref a, .ref b, .ref mo].toArray s 0 0 A) (F0 m 6 ls []) := by
    intro n
    induction n with
    | zero => intro i6 u6 w6; exact absurd w6 (by omega)
    | succ n ih6 =>
      intro i6 u6 w6 v4_6 H locs ls hZ hS hl 
      refine lv_iload hx hb dX18_plus_6 (lv_at hl 0 rfl) ?_
      refine lv_bipush (v := nI 16) hx hb dX18_plus_8 (by decide +kernel) ?_
      refine lv_icmp_ge (tgt := 50) hx hb dX18_plus_10 (by decide) (fun c10 => ?_) (fun c10 => ?_)
      · have e10 : 16 ≤ i6 := (nI_leI (a := 16) (b := i6) (by omega) (by omega)).mp c10
        refine lv_lload hx hb dX18_plus_50 (lv_at hl 5 rfl) ?_
        refine lv_lconst (v := 0) hx hb dX18_plus_52 (by decide +kernel) ?_
        refine W.lcmp hx hb dX18_plus_53 ?_
        refine lv_topi (fun x1 ex1 => ?_)
        refine lv_if_gt (tgt := 65) hx hb dX18_plus_54 (by decide) (fun c54 => ?_) (fun c54 => ?_)
        · refine lv_aload_n hx hb dX18_plus_65 rfl (lv_at hl 1 rfl) ?_
          refine lv_aload_n hx hb dX18_plus_66 rfl (lv_at hl 1 rfl) ?_
          refine lv_aload_n hx hb dX18_plus_67 rfl (lv_at hl 4 rfl) ?_
          refine z_goV (va_runS (As := [.ref to, .ref to, .ref mo]) (rest := []) ⟨hx, hb, hml, hown, hts⟩ ((c_X18_less l D K X Y L T h_to k_to ⟨by omega, by omega⟩ h_to k_to ⟨by omega, by omega⟩ h_mo k_mo ⟨by omega, by omega⟩) H.size) (va_cwS 3 hts (zg_S zw_205 zw_206 zw_66 zw_202) rfl rfl rfl (by decide +kernel) ⟨Nat.le_of_ble_eq_true rfl, Nat.le_of_ble_eq_true rfl⟩) (z_preS hK hZ) rfl rfl hl.1 rfl (lv_room (Nat.le_of_ble_eq_true rfl)) dX18_plus_68 ⟨Nat.le_of_ble_eq_true rfl, Nat.le_of_ble_eq_true rfl⟩) hZ hS hA (fun  Y1 L1 T1 H locs hp hZ hS => ?_)
          cases hp
          exact z_vret hx hb hr hlocks hK hZ hS rfl (Nat.le_of_ble_eq_true rfl) (Nat.le_of_ble_eq_true rfl) dX18_plus_71
        · refine lv_aload_n hx hb dX18_plus_57 rfl (lv_at hl 1 rfl) ?_
          refine lv_aload_n hx hb dX18_plus_58 rfl (lv_at hl 4 rfl) ?_
          refine z_goI (va_runS (As := [.ref to, .ref mo]) (rest := []) ⟨hx, hb, hml, hown, hts⟩ ((c_X18_below l D K X Y L T h_to k_to ⟨by omega, by omega⟩ h_mo k_mo ⟨by omega, by omega⟩) H.size) (va_cwS 2 hts (zg_S zw_204 zw_110 zw_66 zw_111) rfl rfl rfl (by decide +kernel) ⟨Nat.le_of_ble_eq_true rfl, Nat.le_of_ble_eq_true rfl⟩) (z_preS hK hZ) rfl rfl hl.1 rfl (lv_room (Nat.le_of_ble_eq_true rfl)) dX18_plus_59 ⟨Nat.le_of_ble_eq_true rfl, Nat.le_of_ble_eq_true rfl⟩) hZ hS hA (fun x3 Y1 L1 T1 H locs hp hZ hS => ?_)
          cases hp
          refine lv_if_ne (tgt := 71) hx hb dX18_plus_62 (by decide) (fun c62 => ?_) (fun c62 => ?_)
          · exact z_vret hx hb hr hlocks hK hZ hS rfl (Nat.le_of_ble_eq_true rfl) (Nat.le_of_ble_eq_true rfl) dX18_plus_71
          · refine lv_aload_n hx hb dX18_plus_65 rfl (lv_at hl 1 rfl) ?_
            refine lv_aload_n hx hb dX18_plus_66 rfl (lv_at hl 1 rfl) ?_
            refine lv_aload_n hx hb dX18_plus_67 rfl (lv_at hl 4 rfl) ?_
            refine z_goV (va_runS (As := [.ref to, .ref to, .ref mo]) (rest := []) ⟨hx, hb, hml, hown, hts⟩ ((c_X18_less l D K X Y L T h_to k_to ⟨by omega, by omega⟩ h_to k_to ⟨by omega, by omega⟩ h_mo k_mo ⟨by omega, by omega⟩) H.size) (va_cwS 3 hts (zg_S zw_205 zw_206 zw_66 zw_202) rfl rfl rfl (by decide +kernel) ⟨Nat.le_of_ble_eq_true rfl, Nat.le_of_ble_eq_true rfl⟩) (z_preS hK hZ) rfl rfl hl.1 rfl (lv_room (Nat.le_of_ble_eq_true rfl)) dX18_plus_68 ⟨Nat.le_of_ble_eq_true rfl, Nat.le_of_ble_eq_true rfl⟩) hZ hS hA (fun  Y1 L1 T1 H locs hp hZ hS => ?_)
            cases hp
            exact z_vret hx hb hr hlocks hK hZ hS rfl (Nat.le_of_ble_eq_true rfl) (Nat.le_of_ble_eq_true rfl) dX18_plus_71
      · have e10 : ¬ 16 ≤ i6 := fun q => c10 ((nI_leI (a := 16) (b := i6) (by omega) (by omega)).mpr q)
        refine lv_lload hx hb dX18_plus_13 (lv_at hl 5 rfl) ?_
        refine lv_aload_n hx hb dX18_plus_15 rfl (lv_at hl 2 rfl) ?_
        refine lv_iload hx hb dX18_plus_16 (lv_at hl 0 rfl) ?_
        refine z_lald hx hb hK hZ 1 h_a k_a rfl (vp_in_nI (by omega) (by omega)) dX18_plus_18 (fun x5 => ?_)
        refine lv_aload_n hx hb dX18_plus_19 rfl (lv_at hl 3 rfl) ?_
        refine lv_iload hx hb dX18_plus_20 (lv_at hl 0 rfl) ?_
        refine z_lald hx hb hK hZ 1 h_b k_b rfl (vp_in_nI (by omega) (by omega)) dX18_plus_22 (fun x6 => ?_)
        refine lv_ladd hx hb dX18_plus_23 ?_
        refine lv_topl (fun x7 _ => ?_)
        refine lv_ladd hx hb dX18_plus_24 ?_
        refine lv_topl (fun x8 _ => ?_)
        refine lv_lstore (lv' := [(4, .long x8), (6, .int (nI i6)), (0, .ref to), (1, .ref a), (2, .ref b), (3, .ref mo)]) hx hb dX18_plus_25 hl (by decide) rfl (fun ls hl => ?_)
        refine lv_aload_n hx hb dX18_plus_27 rfl (lv_at hl 2 rfl) ?_
        refine lv_iload hx hb dX18_plus_28 (lv_at hl 1 rfl) ?_
        refine lv_lload hx hb dX18_plus_30 (lv_at hl 0 rfl) ?_
        refine lv_ldc2 (v := (65535)) hx hb hown (hts _ zw_203) dX18_plus_32 ?_
        refine lv_land hx hb dX18_plus_35 ?_
        refine lv_topl (fun x9 _ => ?_)
        refine z_last hx hb hK hZ hS 1 h_to k_to rfl (vp_in_nI (by omega) (by omega)) dX18_plus_36 (fun H locs hZ hS => ?_)
        refine lv_lload hx hb dX18_plus_37 (lv_at hl 0 rfl) ?_
        refine lv_bipush (v := nI 16) hx hb dX18_plus_39 (by decide +kernel) ?_
        refine lv_lshr hx hb dX18_plus_41 rfl ?_
        refine lv_topl (fun x10 _ => ?_)
        refine lv_lstore (lv' := [(4, .long x10), (6, .int (nI i6)), (0, .ref to), (1, .ref a), (2, .ref b), (3, .ref mo)]) hx hb dX18_plus_42 hl (by decide) rfl (fun ls hl => ?_)
        refine lv_iinc (v := nI (i6 + 1)) (lv' := [(6, .int (nI (i6 + 1))), (4, .long x10), (0, .ref to), (1, .ref a), (2, .ref b), (3, .ref mo)]) hx hb dX18_plus_44 hl (k := 1) rfl (nI_add i6 1) (by decide) rfl (fun ls hl => ?_)
        refine lv_goto (tgt := 6) hx hb dX18_plus_47 (by decide) ?_
        exact ih6 (i6 + 1) (by omega) (by omega) x10 _ _ _ hZ hS (lv_sub hl [0, 2, 3, 4, 5, 1] rfl) 
  exact L6 (16 + 1) 0 (by omega) (by omega) 0 _ _ _ hZ hS (lv_sub hl [0, 2, 3, 4, 5, 1] rfl) 
abbrev ROOM_X18_minus : Room := { frames := 1, cells := 0, slots := 0, locals := 0 }
set_option maxHeartbeats 4000000 in
set_option maxRecDepth 100000 in
/-- minus -/
theorem c_X18_minus (l : Launch) (D : va_G) (K : Nat → ClassId) (X Y : va_W) (L : List Nat) (T : Nat → va_E → Prop) {to n_to : Nat} {a n_a : Nat} {b n_b : Nat} {mo n_mo : Nat}  (h_to : to ∈ L) (k_to : T to = zJ (K 1) n_to) (b_to : 16 ≤ n_to ∧ n_to < 2147483648) (h_a : a ∈ L) (k_a : T a = zJ (K 1) n_a) (b_a : 16 ≤ n_a ∧ n_a < 2147483648) (h_b : b ∈ L) (k_b : T b = zJ (K 1) n_b) (b_b : 16 ≤ n_b ∧ n_b < 2147483648) (h_mo : mo ∈ L) (k_mo : T mo = zJ (K 1) n_mo) (b_mo : 16 ≤ n_mo ∧ n_mo < 2147483648)  : zV l D vwCl (zT K) yX18_minus (zws yX18_minus cX18_minus 9 none) ROOM_X18_minus 0 0 [.ref to, .ref a, .ref b, .ref mo] X Y L T (zSame Y L T) := by
  refine z_ofW (Qc := fun A => va_Qv (zSame Y L T) (zB D vwCl (zT K) A X) A) (cc := cX18_minus) (maxL := 9) (ret := none) (by decide +kernel) rfl (Nat.le_of_ble_eq_true rfl) ?_
  intro p e s m below meth c A ls hx hb hml hr hts hown hlocks hin hA hK hZ hS hl
  have hown : s.vm.findClass RX18 = some m.cls := hown
  have hts : ∀ w ∈ WR, w.before [.ref to, .ref a, .ref b, .ref mo].toArray s = true := fun w h => hts w (List.mem_cons_of_mem _ h)
  have hl : lv_has ls 9 [(0, .ref to), (1, .ref a), (2, .ref b), (3, .ref mo)] := hl
  obtain ⟨H, hH⟩ : ∃ H, H = s.heap := ⟨_, rfl⟩
  have hZ : zP D vwCl A X Y L T H := by rw [hH]; exact hZ
  obtain ⟨locs, hlc⟩ : ∃ q : List Loc, q = [] := ⟨_, rfl⟩
  have hS : va_S A s.heap H locs := by rw [hH, hlc]; exact hS
  suffices hW : W p l e ROOM_X18_minus s m [.ref to, .ref a, .ref b, .ref mo].toArray below meth c H locs 0 0 (MQ below (va_Qv (zSame Y L T) (zB D vwCl (zT K) A X) A) [.ref to, .ref a, .ref b, .ref mo].toArray s 0 0 A) (F0 m 0 ls []) by rw [hH, hlc] at hW; exact hW
  clear hH hlc
  refine lv_lconst (v := 0) hx hb dX18_minus_0 (by decide +kernel) ?_
  refine lv_lstore (lv' := [(4, .long 0), (0, .ref to), (1, .ref a), (2, .ref b), (3, .ref mo)]) hx hb dX18_minus_1 hl (by decide) rfl (fun ls hl => ?_)
  refine lv_iconst (v := nI 0) hx hb dX18_minus_3 (by decide +kernel) ?_
  refine lv_istore (lv' := [(6, .int (nI 0)), (4, .long 0), (0, .ref to), (1, .ref a), (2, .ref b), (3, .ref mo)]) hx hb dX18_minus_4 hl (by decide) rfl (fun ls hl => ?_)
  have L6 : ∀ (n i6 : Nat), i6 ≤ 16 → 16 + 1 ≤ i6 + n → ∀ (v4_6 : Int64) (H : Heap) (locs : List Loc) (ls : Array Slot), zP D vwCl A X Y L T H → va_S A s.heap H locs → lv_has ls 9 [(6, .int (nI i6)), (0, .ref to), (1, .ref a), (2, .ref b), (3, .ref mo), (4, .long v4_6)] → W p l e ROOM_X18_minus s m [.ref to, .ref a, .ref b, .ref mo].toArray below meth c H locs 0 0 (MQ below (va_Qv (zSame Y L T) (zB D vwCl (zT K) A X) A) [.ref to, .ref a, .ref b, .ref mo].toArray s 0 0 A) (F0 m 6 ls []) := by
    intro n
    induction n with
    | zero => intro i6 u6 w6; exact absurd w6 (by omega)
    | succ n ih6 =>
      intro i6 u6 w6 v4_6 H locs ls hZ hS hl 
      refine lv_iload hx hb dX18_minus_6 (lv_at hl 0 rfl) ?_
      refine lv_bipush (v := nI 16) hx hb dX18_minus_8 (by decide +kernel) ?_
      refine lv_icmp_ge (tgt := 57) hx hb dX18_minus_10 (by decide) (fun c10 => ?_) (fun c10 => ?_)
      · have e10 : 16 ≤ i6 := (nI_leI (a := 16) (b := i6) (by omega) (by omega)).mp c10
        refine lv_lload hx hb dX18_minus_57 (lv_at hl 5 rfl) ?_
        refine lv_lconst (v := 0) hx hb dX18_minus_59 (by decide +kernel) ?_
        refine W.lcmp hx hb dX18_minus_60 ?_
        refine lv_topi (fun x1 ex1 => ?_)
        refine lv_if_ne (tgt := 65) hx hb dX18_minus_61 (by decide) (fun c61 => ?_) (fun c61 => ?_)
        · refine lv_lconst (v := 0) hx hb dX18_minus_65 (by decide +kernel) ?_
          refine lv_lstore (lv' := [(6, .long 0), (0, .ref to), (1, .ref a), (2, .ref b), (3, .ref mo), (4, .long v4_6)]) hx hb dX18_minus_66 hl (by decide) rfl (fun ls hl => ?_)
          refine lv_iconst (v := nI 0) hx hb dX18_minus_68 (by decide +kernel) ?_
          refine lv_istore (lv' := [(8, .int (nI 0)), (6, .long 0), (0, .ref to), (1, .ref a), (2, .ref b), (3, .ref mo), (4, .long v4_6)]) hx hb dX18_minus_69 hl (by decide) rfl (fun ls hl => ?_)
          have L71 : ∀ (n i71 : Nat), i71 ≤ 16 → 16 + 1 ≤ i71 + n → ∀ (v6_71 : Int64) (H : Heap) (locs : List Loc) (ls : Array Slot), zP D vwCl A X Y L T H → va_S A s.heap H locs → lv_has ls 9 [(8, .int (nI i71)), (0, .ref to), (3, .ref mo), (6, .long v6_71)] → W p l e ROOM_X18_minus s m [.ref to, .ref a, .ref b, .ref mo].toArray below meth c H locs 0 0 (MQ below (va_Qv (zSame Y L T) (zB D vwCl (zT K) A X) A) [.ref to, .ref a, .ref b, .ref mo].toArray s 0 0 A) (F0 m 71 ls []) := by
            intro n
            induction n with
            | zero => intro i71 u71 w71; exact absurd w71 (by omega)
            | succ n ih71 =>
              intro i71 u71 w71 v6_71 H locs ls hZ hS hl 
              refine lv_iload hx hb dX18_minus_71 (lv_at hl 0 rfl) ?_
              refine lv_bipush (v := nI 16) hx hb dX18_minus_73 (by decide +kernel) ?_
              refine lv_icmp_ge (tgt := 115) hx hb dX18_minus_75 (by decide) (fun c75 => ?_) (fun c75 => ?_)
              · have e75 : 16 ≤ i71 := (nI_leI (a := 16) (b := i71) (by omega) (by omega)).mp c75
                exact z_vret hx hb hr hlocks hK hZ hS rfl (Nat.le_of_ble_eq_true rfl) (Nat.le_of_ble_eq_true rfl) dX18_minus_115
              · have e75 : ¬ 16 ≤ i71 := fun q => c75 ((nI_leI (a := 16) (b := i71) (by omega) (by omega)).mpr q)
                refine lv_lload hx hb dX18_minus_78 (lv_at hl 3 rfl) ?_
                refine lv_aload_n hx hb dX18_minus_80 rfl (lv_at hl 1 rfl) ?_
                refine lv_iload hx hb dX18_minus_81 (lv_at hl 0 rfl) ?_
                refine z_lald hx hb hK hZ 1 h_to k_to rfl (vp_in_nI (by omega) (by omega)) dX18_minus_83 (fun x2 => ?_)
                refine lv_aload_n hx hb dX18_minus_84 rfl (lv_at hl 2 rfl) ?_
                refine lv_iload hx hb dX18_minus_85 (lv_at hl 0 rfl) ?_
                refine z_lald hx hb hK hZ 1 h_mo k_mo rfl (vp_in_nI (by omega) (by omega)) dX18_minus_87 (fun x3 => ?_)
                refine lv_ladd hx hb dX18_minus_88 ?_
                refine lv_topl (fun x4 _ => ?_)
                refine lv_ladd hx hb dX18_minus_89 ?_
                refine lv_topl (fun x5 _ => ?_)
                refine lv_lstore (lv' := [(6, .long x5), (8, .int (nI i71)), (0, .ref to), (3, .ref mo)]) hx hb dX18_minus_90 hl (by decide) rfl (fun ls hl => ?_)
                refine lv_aload_n hx hb dX18_minus_92 rfl (lv_at hl 2 rfl) ?_
                refine lv_iload hx hb dX18_minus_93 (lv_at hl 1 rfl) ?_
                refine lv_lload hx hb dX18_minus_95 (lv_at hl 0 rfl) ?_
                refine lv_ldc2 (v := (65535)) hx hb hown (hts _ zw_203) dX18_minus_97 ?_
                refine lv_land hx hb dX18_minus_100 ?_
                refine lv_topl (fun x6 _ => ?_)
                refine z_last hx hb hK hZ hS 1 h_to k_to rfl (vp_in_nI (by omega) (by omega)) dX18_minus_101 (fun H locs hZ hS => ?_)
                refine lv_lload hx hb dX18_minus_102 (lv_at hl 0 rfl) ?_
                refine lv_bipush (v := nI 16) hx hb dX18_minus_104 (by decide +kernel) ?_
                refine lv_lshr hx hb dX18_minus_106 rfl ?_
                refine lv_topl (fun x7 _ => ?_)
                refine lv_lstore (lv' := [(6, .long x7), (8, .int (nI i71)), (0, .ref to), (3, .ref mo)]) hx hb dX18_minus_107 hl (by decide) rfl (fun ls hl => ?_)
                refine lv_iinc (v := nI (i71 + 1)) (lv' := [(8, .int (nI (i71 + 1))), (6, .long x7), (0, .ref to), (3, .ref mo)]) hx hb dX18_minus_109 hl (k := 1) rfl (nI_add i71 1) (by decide) rfl (fun ls hl => ?_)
                refine lv_goto (tgt := 71) hx hb dX18_minus_112 (by decide) ?_
                exact ih71 (i71 + 1) (by omega) (by omega) x7 _ _ _ hZ hS (lv_sub hl [0, 2, 3, 1] rfl) 
          exact L71 (16 + 1) 0 (by omega) (by omega) 0 _ _ _ hZ hS (lv_sub hl [0, 2, 5, 1] rfl) 
        · exact z_vret hx hb hr hlocks hK hZ hS rfl (Nat.le_of_ble_eq_true rfl) (Nat.le_of_ble_eq_true rfl) dX18_minus_64
      · have e10 : ¬ 16 ≤ i6 := fun q => c10 ((nI_leI (a := 16) (b := i6) (by omega) (by omega)).mpr q)
        refine lv_aload_n hx hb dX18_minus_13 rfl (lv_at hl 2 rfl) ?_
        refine lv_iload hx hb dX18_minus_14 (lv_at hl 0 rfl) ?_
        refine z_lald hx hb hK hZ 1 h_a k_a rfl (vp_in_nI (by omega) (by omega)) dX18_minus_16 (fun x8 => ?_)
        refine lv_aload_n hx hb dX18_minus_17 rfl (lv_at hl 3 rfl) ?_
        refine lv_iload hx hb dX18_minus_18 (lv_at hl 0 rfl) ?_
        refine z_lald hx hb hK hZ 1 h_b k_b rfl (vp_in_nI (by omega) (by omega)) dX18_minus_20 (fun x9 => ?_)
        refine lv_lsub hx hb dX18_minus_21 ?_
        refine lv_topl (fun x10 _ => ?_)
        refine lv_lload hx hb dX18_minus_22 (lv_at hl 5 rfl) ?_
        refine lv_lsub hx hb dX18_minus_24 ?_
        refine lv_topl (fun x11 _ => ?_)
        refine lv_lstore (lv' := [(7, .long x11), (6, .int (nI i6)), (0, .ref to), (1, .ref a), (2, .ref b), (3, .ref mo), (4, .long v4_6)]) hx hb dX18_minus_25 hl (by decide) rfl (fun ls hl => ?_)
        refine lv_lload hx hb dX18_minus_27 (lv_at hl 0 rfl) ?_
        refine lv_lconst (v := 0) hx hb dX18_minus_29 (by decide +kernel) ?_
        refine W.lcmp hx hb dX18_minus_30 ?_
        refine lv_topi (fun x12 ex12 => ?_)
        refine lv_if_ge (tgt := 38) hx hb dX18_minus_31 (by decide) (fun c31 => ?_) (fun c31 => ?_)
        · refine lv_lconst (v := 0) hx hb dX18_minus_38 (by decide +kernel) ?_
          refine lv_lstore (lv' := [(4, .long 0), (7, .long x11), (6, .int (nI i6)), (0, .ref to), (1, .ref a), (2, .ref b), (3, .ref mo)]) hx hb dX18_minus_39 hl (by decide) rfl (fun ls hl => ?_)
          refine lv_aload_n hx hb dX18_minus_41 rfl (lv_at hl 3 rfl) ?_
          refine lv_iload hx hb dX18_minus_42 (lv_at hl 2 rfl) ?_
          refine lv_lload hx hb dX18_minus_44 (lv_at hl 1 rfl) ?_
          refine lv_ldc2 (v := (65535)) hx hb hown (hts _ zw_203) dX18_minus_46 ?_
          refine lv_land hx hb dX18_minus_49 ?_
          refine lv_topl (fun x13 _ => ?_)
          refine z_last hx hb hK hZ hS 1 h_to k_to rfl (vp_in_nI (by omega) (by omega)) dX18_minus_50 (fun H locs hZ hS => ?_)
          refine lv_iinc (v := nI (i6 + 1)) (lv' := [(6, .int (nI (i6 + 1))), (4, .long 0), (7, .long x11), (0, .ref to), (1, .ref a), (2, .ref b), (3, .ref mo)]) hx hb dX18_minus_51 hl (k := 2) rfl (nI_add i6 1) (by decide) rfl (fun ls hl => ?_)
          refine lv_goto (tgt := 6) hx hb dX18_minus_54 (by decide) ?_
          exact ih6 (i6 + 1) (by omega) (by omega) 0 _ _ _ hZ hS (lv_sub hl [0, 3, 4, 5, 6, 1] rfl) 
        · refine lv_lconst (v := 1) hx hb dX18_minus_34 (by decide +kernel) ?_
          refine lv_goto (tgt := 39) hx hb dX18_minus_35 (by decide) ?_
          refine lv_lstore (lv' := [(4, .long 1), (7, .long x11), (6, .int (nI i6)), (0, .ref to), (1, .ref a), (2, .ref b), (3, .ref mo)]) hx hb dX18_minus_39 hl (by decide) rfl (fun ls hl => ?_)
          refine lv_aload_n hx hb dX18_minus_41 rfl (lv_at hl 3 rfl) ?_
          refine lv_iload hx hb dX18_minus_42 (lv_at hl 2 rfl) ?_
          refine lv_lload hx hb dX18_minus_44 (lv_at hl 1 rfl) ?_
          refine lv_ldc2 (v := (65535)) hx hb hown (hts _ zw_203) dX18_minus_46 ?_
          refine lv_land hx hb dX18_minus_49 ?_
          refine lv_topl (fun x14 _ => ?_)
          refine z_last hx hb hK hZ hS 1 h_to k_to rfl (vp_in_nI (by omega) (by omega)) dX18_minus_50 (fun H locs hZ hS => ?_)
          refine lv_iinc (v := nI (i6 + 1)) (lv' := [(6, .int (nI (i6 + 1))), (4, .long 1), (7, .long x11), (0, .ref to), (1, .ref a), (2, .ref b), (3, .ref mo)]) hx hb dX18_minus_51 hl (k := 2) rfl (nI_add i6 1) (by decide) rfl (fun ls hl => ?_)
          refine lv_goto (tgt := 6) hx hb dX18_minus_54 (by decide) ?_
          exact ih6 (i6 + 1) (by omega) (by omega) 1 _ _ _ hZ hS (lv_sub hl [0, 3, 4, 5, 6, 1] rfl) 
  exact L6 (16 + 1) 0 (by omega) (by omega) 0 _ _ _ hZ hS (lv_sub hl [0, 2, 3, 4, 5, 1] rfl) 
abbrev ROOM_X18_remainders : Room := { frames := 3, cells := 0, slots := 0, locals := 53 }
set_option maxHeartbeats 4000000 in
set_option maxRecDepth 100000 in
/-- remainders -/
theorem c_X18_remainders (l : Launch) (D : va_G) (K : Nat → ClassId) (X Y : va_W) (L : List Nat) (T : Nat → va_E → Prop) {t n_t : Nat} {mo n_mo : Nat} {wk n_wk : Nat}  (h_t : t ∈ L) (k_t : T t = zJ (K 1) n_t) (b_t : 256 ≤ n_t ∧ n_t < 2147483648) (h_mo : mo ∈ L) (k_mo : T mo = zJ (K 1) n_mo) (b_mo : 16 ≤ n_mo ∧ n_mo < 2147483648) (h_wk : wk ∈ L) (k_wk : T wk = zJ (K 1) n_wk) (b_wk : 16 ≤ n_wk ∧ n_wk < 2147483648)  : zV l D vwCl (zT K) yX18_remainders (zws yX18_remainders cX18_remainders 5 none) ROOM_X18_remainders 0 0 [.ref t, .ref mo, .ref wk] X Y L T (zSame Y L T) := by
  refine z_ofW (Qc := fun A => va_Qv (zSame Y L T) (zB D vwCl (zT K) A X) A) (cc := cX18_remainders) (maxL := 5) (ret := none) (by decide +kernel) rfl (Nat.le_of_ble_eq_true rfl) ?_
  intro p e s m below meth c A ls hx hb hml hr hts hown hlocks hin hA hK hZ hS hl
  have hown : s.vm.findClass RX18 = some m.cls := hown
  have hts : ∀ w ∈ WR, w.before [.ref t, .ref mo, .ref wk].toArray s = true := fun w h => hts w (List.mem_cons_of_mem _ h)
  have hl : lv_has ls 5 [(0, .ref t), (1, .ref mo), (2, .ref wk)] := hl
  obtain ⟨H, hH⟩ : ∃ H, H = s.heap := ⟨_, rfl⟩
  have hZ : zP D vwCl A X Y L T H := by rw [hH]; exact hZ
  obtain ⟨locs, hlc⟩ : ∃ q : List Loc, q = [] := ⟨_, rfl⟩
  have hS : va_S A s.heap H locs := by rw [hH, hlc]; exact hS
  suffices hW : W p l e ROOM_X18_remainders s m [.ref t, .ref mo, .ref wk].toArray below meth c H locs 0 0 (MQ below (va_Qv (zSame Y L T) (zB D vwCl (zT K) A X) A) [.ref t, .ref mo, .ref wk].toArray s 0 0 A) (F0 m 0 ls []) by rw [hH, hlc] at hW; exact hW
  clear hH hlc
  refine lv_aload_n hx hb dX18_remainders_0 rfl (lv_at hl 2 rfl) ?_
  refine lv_iconst (v := nI 1) hx hb dX18_remainders_1 (by decide +kernel) ?_
  refine z_goV (va_runS (As := [.ref wk, .int (nI 1)]) (rest := []) ⟨hx, hb, hml, hown, hts⟩ ((c_X18_set l D K X Y L T h_wk k_wk ⟨by omega, by omega⟩) H.size) (va_cwS 2 hts (zg_S zw_207 zw_71 zw_66 zw_72) rfl rfl rfl (by decide +kernel) ⟨Nat.le_of_ble_eq_true rfl, Nat.le_of_ble_eq_true rfl⟩) (z_preS hK hZ) rfl rfl hl.1 rfl (lv_room (Nat.le_of_ble_eq_true rfl)) dX18_remainders_2 ⟨Nat.le_of_ble_eq_true rfl, Nat.le_of_ble_eq_true rfl⟩) hZ hS hA (fun  Y1 L1 T1 H locs hp hZ hS => ?_)
  cases hp
  refine lv_iconst (v := nI 0) hx hb dX18_remainders_5 (by decide +kernel) ?_
  refine lv_istore_n (lv' := [(3, .int (nI 0)), (0, .ref t), (1, .ref mo), (2, .ref wk)]) hx hb dX18_remainders_6 rfl hl (by decide) rfl (fun ls hl => ?_)
  have L7 : ∀ (n i7 : Nat), i7 ≤ 496 → 496 + 1 ≤ i7 + n → ∀  (H : Heap) (locs : List Loc) (ls : Array Slot), zP D vwCl A X Y L T H → va_S A s.heap H locs → lv_has ls 5 [(3, .int (nI i7)), (0, .ref t), (1, .ref mo), (2, .ref wk)] → W p l e ROOM_X18_remainders s m [.ref t, .ref mo, .ref wk].toArray below meth c H locs 0 0 (MQ below (va_Qv (zSame Y L T) (zB D vwCl (zT K) A X) A) [.ref t, .ref mo, .ref wk].toArray s 0 0 A) (F0 m 7 ls []) := by
    intro n
    induction n with
    | zero => intro i7 u7 w7; exact absurd w7 (by omega)
    | succ n ih7 =>
      intro i7 u7 w7  H locs ls hZ hS hl 
      refine lv_iload_n hx hb dX18_remainders_7 rfl (lv_at hl 0 rfl) ?_
      refine lv_sipush (v := nI 496) hx hb dX18_remainders_8 (by decide +kernel) ?_
      refine lv_icmp_ge (tgt := 73) hx hb dX18_remainders_11 (by decide) (fun c11 => ?_) (fun c11 => ?_)
      · have e11 : 496 ≤ i7 := (nI_leI (a := 496) (b := i7) (by omega) (by omega)).mp c11
        exact z_vret hx hb hr hlocks hK hZ hS rfl (Nat.le_of_ble_eq_true rfl) (Nat.le_of_ble_eq_true rfl) dX18_remainders_73
      · have e11 : ¬ 496 ≤ i7 := fun q => c11 ((nI_leI (a := 496) (b := i7) (by omega) (by omega)).mpr q)
        refine lv_aload_n hx hb dX18_remainders_14 rfl (lv_at hl 3 rfl) ?_
        refine lv_aload_n hx hb dX18_remainders_15 rfl (lv_at hl 3 rfl) ?_
        refine lv_aload_n hx hb dX18_remainders_16 rfl (lv_at hl 3 rfl) ?_
        refine lv_aload_n hx hb dX18_remainders_17 rfl (lv_at hl 2 rfl) ?_
        refine z_goV (va_runS (As := [.ref wk, .ref wk, .ref wk, .ref mo]) (rest := []) ⟨hx, hb, hml, hown, hts⟩ ((c_X18_plus l D K X Y L T h_wk k_wk ⟨by omega, by omega⟩ h_wk k_wk ⟨by omega, by omega⟩ h_wk k_wk ⟨by omega, by omega⟩ h_mo k_mo ⟨by omega, by omega⟩) H.size) (va_cwS 4 hts (zg_S zw_208 zw_114 zw_66 zw_115) rfl rfl rfl (by decide +kernel) ⟨Nat.le_of_ble_eq_true rfl, Nat.le_of_ble_eq_true rfl⟩) (z_preS hK hZ) rfl rfl hl.1 rfl (lv_room (Nat.le_of_ble_eq_true rfl)) dX18_remainders_18 ⟨Nat.le_of_ble_eq_true rfl, Nat.le_of_ble_eq_true rfl⟩) hZ hS hA (fun  Y1 L1 T1 H locs hp hZ hS => ?_)
        cases hp
        refine lv_iload_n hx hb dX18_remainders_21 rfl (lv_at hl 0 rfl) ?_
        refine lv_sipush (v := nI 255) hx hb dX18_remainders_22 (by decide +kernel) ?_
        refine lv_icmp_lt (tgt := 67) hx hb dX18_remainders_25 (by decide) (fun c25 => ?_) (fun c25 => ?_)
        · have e25 : i7 < 255 := (nI_ltI (a := i7) (b := 255) (by omega) (by omega)).mp c25
          refine lv_iinc (v := nI (i7 + 1)) (lv' := [(3, .int (nI (i7 + 1))), (0, .ref t), (1, .ref mo), (2, .ref wk)]) hx hb dX18_remainders_67 hl (k := 0) rfl (nI_add i7 1) (by decide) rfl (fun ls hl => ?_)
          refine lv_goto (tgt := 7) hx hb dX18_remainders_70 (by decide) ?_
          exact ih7 (i7 + 1) (by omega) (by omega)  _ _ _ hZ hS (lv_sub hl [0, 1, 2, 3] rfl) 
        · have e25 : ¬ i7 < 255 := fun q => c25 ((nI_ltI (a := i7) (b := 255) (by omega) (by omega)).mpr q)
          refine lv_iload_n hx hb dX18_remainders_28 rfl (lv_at hl 0 rfl) ?_
          refine lv_bipush (v := nI 16) hx hb dX18_remainders_29 (by decide +kernel) ?_
          refine lv_irem hx hb dX18_remainders_31 (by decide +kernel) ?_
          refine lv_topi (fun x3 ex3 => ?_)
          obtain rfl : x3 = nI (i7 % 16) := ex3.trans (pk_rem (by omega) (by omega) (by omega))
          refine lv_bipush (v := nI 15) hx hb dX18_remainders_32 (by decide +kernel) ?_
          refine lv_icmp_ne (tgt := 67) hx hb dX18_remainders_34 (by decide) (fun c34 => ?_) (fun c34 => ?_)
          · have e34 : ¬ (i7 % 16) = 15 := fun q => c34 ((nI_eq (a := (i7 % 16)) (b := 15) (by omega) (by omega)).mpr q)
            refine lv_iinc (v := nI (i7 + 1)) (lv' := [(3, .int (nI (i7 + 1))), (0, .ref t), (1, .ref mo), (2, .ref wk)]) hx hb dX18_remainders_67 hl (k := 0) rfl (nI_add i7 1) (by decide) rfl (fun ls hl => ?_)
            refine lv_goto (tgt := 7) hx hb dX18_remainders_70 (by decide) ?_
            exact ih7 (i7 + 1) (by omega) (by omega)  _ _ _ hZ hS (lv_sub hl [0, 1, 2, 3] rfl) 
          · have e34 : (i7 % 16) = 15 := (nI_eq (a := (i7 % 16)) (b := 15) (by omega) (by omega)).mp c34
            refine lv_iconst (v := nI 0) hx hb dX18_remainders_37 (by decide +kernel) ?_
            refine lv_istore (lv' := [(4, .int (nI 0)), (3, .int (nI i7)), (0, .ref t), (1, .ref mo), (2, .ref wk)]) hx hb dX18_remainders_38 hl (by decide) rfl (fun ls hl => ?_)
            have L40 : ∀ (n i40 : Nat), i40 ≤ 16 → 16 + 1 ≤ i40 + n → ∀  (H : Heap) (locs : List Loc) (ls : Array Slot), zP D vwCl A X Y L T H → va_S A s.heap H locs → lv_has ls 5 [(4, .int (nI i40)), (0, .ref t), (1, .ref mo), (2, .ref wk), (3, .int (nI i7))] → W p l e ROOM_X18_remainders s m [.ref t, .ref mo, .ref wk].toArray below meth c H locs 0 0 (MQ below (va_Qv (zSame Y L T) (zB D vwCl (zT K) A X) A) [.ref t, .ref mo, .ref wk].toArray s 0 0 A) (F0 m 40 ls []) := by
              intro n
              induction n with
              | zero => intro i40 u40 w40; exact absurd w40 (by omega)
              | succ n ih40 =>
                intro i40 u40 w40  H locs ls hZ hS hl 
                refine lv_iload hx hb dX18_remainders_40 (lv_at hl 0 rfl) ?_
                refine lv_bipush (v := nI 16) hx hb dX18_remainders_42 (by decide +kernel) ?_
                refine lv_icmp_ge (tgt := 67) hx hb dX18_remainders_44 (by decide) (fun c44 => ?_) (fun c44 => ?_)
                · have e44 : 16 ≤ i40 := (nI_leI (a := 16) (b := i40) (by omega) (by omega)).mp c44
                  refine lv_iinc (v := nI (i7 + 1)) (lv' := [(3, .int (nI (i7 + 1))), (4, .int (nI i40)), (0, .ref t), (1, .ref mo), (2, .ref wk)]) hx hb dX18_remainders_67 hl (k := 4) rfl (nI_add i7 1) (by decide) rfl (fun ls hl => ?_)
                  refine lv_goto (tgt := 7) hx hb dX18_remainders_70 (by decide) ?_
                  exact ih7 (i7 + 1) (by omega) (by omega)  _ _ _ hZ hS (lv_sub hl [0, 2, 3, 4] rfl) 
                · have e44 : ¬ 16 ≤ i40 := fun q => c44 ((nI_leI (a := 16) (b := i40) (by omega) (by omega)).mpr q)
                  refine lv_aload_n hx hb dX18_remainders_47 rfl (lv_at hl 1 rfl) ?_
                  refine lv_iload_n hx hb dX18_remainders_48 rfl (lv_at hl 4 rfl) ?_
                  refine lv_sipush (v := nI 255) hx hb dX18_remainders_49 (by decide +kernel) ?_
                  refine lv_isub hx hb dX18_remainders_52 ?_
                  refine lv_topi (fun x4 ex4 => ?_)
                  obtain rfl : x4 = nI (i7 - 255) := ex4.trans (pk_sub (by omega))
                  refine lv_iload hx hb dX18_remainders_53 (lv_at hl 0 rfl) ?_
                  refine lv_iadd hx hb dX18_remainders_55 ?_
                  refine lv_topi (fun x5 ex5 => ?_)
                  obtain rfl : x5 = nI ((i7 - 255) + i40) := ex5.trans (nI_add (i7 - 255) i40)
                  refine lv_aload_n hx hb dX18_remainders_56 rfl (lv_at hl 3 rfl) ?_
                  refine lv_iload hx hb dX18_remainders_57 (lv_at hl 0 rfl) ?_
                  refine z_lald hx hb hK hZ 1 h_wk k_wk rfl (vp_in_nI (by omega) (by omega)) dX18_remainders_59 (fun x6 => ?_)
                  refine z_last hx hb hK hZ hS 1 h_t k_t rfl (vp_in_nI (by omega) (by omega)) dX18_remainders_60 (fun H locs hZ hS => ?_)
                  refine lv_iinc (v := nI (i40 + 1)) (lv' := [(4, .int (nI (i40 + 1))), (0, .ref t), (1, .ref mo), (2, .ref wk), (3, .int (nI i7))]) hx hb dX18_remainders_61 hl (k := 0) rfl (nI_add i40 1) (by decide) rfl (fun ls hl => ?_)
                  refine lv_goto (tgt := 40) hx hb dX18_remainders_64 (by decide) ?_
                  exact ih40 (i40 + 1) (by omega) (by omega)  _ _ _ hZ hS (lv_sub hl [0, 1, 2, 3, 4] rfl) 
            exact L40 (16 + 1) 0 (by omega) (by omega)  _ _ _ hZ hS (lv_sub hl [0, 2, 3, 4, 1] rfl) 
  exact L7 (496 + 1) 0 (by omega) (by omega)  _ _ _ hZ hS (lv_sub hl [0, 1, 2, 3] rfl) 
abbrev ROOM_X18_half : Room := { frames := 1, cells := 0, slots := 0, locals := 0 }
set_option maxHeartbeats 4000000 in
set_option maxRecDepth 100000 in
/-- half -/
theorem c_X18_half (l : Launch) (D : va_G) (K : Nat → ClassId) (X Y : va_W) (L : List Nat) (T : Nat → va_E → Prop) {aa n_aa : Nat} {mo n_mo : Nat}  (h_aa : aa ∈ L) (k_aa : T aa = zJ (K 1) n_aa) (b_aa : 17 ≤ n_aa ∧ n_aa < 2147483648) (h_mo : mo ∈ L) (k_mo : T mo = zJ (K 1) n_mo) (b_mo : 16 ≤ n_mo ∧ n_mo < 2147483648)  : zV l D vwCl (zT K) yX18_half (zws yX18_half cX18_half 5 none) ROOM_X18_half 0 0 [.ref aa, .ref mo] X Y L T (zSame Y L T) := by
  refine z_ofW (Qc := fun A => va_Qv (zSame Y L T) (zB D vwCl (zT K) A X) A) (cc := cX18_half) (maxL := 5) (ret := none) (by decide +kernel) rfl (Nat.le_of_ble_eq_true rfl) ?_
  intro p e s m below meth c A ls hx hb hml hr hts hown hlocks hin hA hK hZ hS hl
  have hown : s.vm.findClass RX18 = some m.cls := hown
  have hts : ∀ w ∈ WR, w.before [.ref aa, .ref mo].toArray s = true := fun w h => hts w (List.mem_cons_of_mem _ h)
  have hl : lv_has ls 5 [(0, .ref aa), (1, .ref mo)] := hl
  obtain ⟨H, hH⟩ : ∃ H, H = s.heap := ⟨_, rfl⟩
  have hZ : zP D vwCl A X Y L T H := by rw [hH]; exact hZ
  obtain ⟨locs, hlc⟩ : ∃ q : List Loc, q = [] := ⟨_, rfl⟩
  have hS : va_S A s.heap H locs := by rw [hH, hlc]; exact hS
  suffices hW : W p l e ROOM_X18_half s m [.ref aa, .ref mo].toArray below meth c H locs 0 0 (MQ below (va_Qv (zSame Y L T) (zB D vwCl (zT K) A X) A) [.ref aa, .ref mo].toArray s 0 0 A) (F0 m 0 ls []) by rw [hH, hlc] at hW; exact hW
  clear hH hlc
  have J62 : ∀  (H : Heap) (locs : List Loc) (ls : Array Slot), zP D vwCl A X Y L T H → va_S A s.heap H locs → lv_has ls 5 [(0, .ref aa)] → W p l e ROOM_X18_half s m [.ref aa, .ref mo].toArray below meth c H locs 0 0 (MQ below (va_Qv (zSame Y L T) (zB D vwCl (zT K) A X) A) [.ref aa, .ref mo].toArray s 0 0 A) (F0 m 62 ls []) := by
    intro  H locs ls hZ hS hl 
    refine lv_iconst (v := nI 0) hx hb dX18_half_62 (by decide +kernel) ?_
    refine lv_istore_n (lv' := [(2, .int (nI 0)), (0, .ref aa)]) hx hb dX18_half_63 rfl hl (by decide) rfl (fun ls hl => ?_)
    have L64 : ∀ (n i64 : Nat), i64 ≤ 16 → 16 + 1 ≤ i64 + n → ∀  (H : Heap) (locs : List Loc) (ls : Array Slot), zP D vwCl A X Y L T H → va_S A s.heap H locs → lv_has ls 5 [(2, .int (nI i64)), (0, .ref aa)] → W p l e ROOM_X18_half s m [.ref aa, .ref mo].toArray below meth c H locs 0 0 (MQ below (va_Qv (zSame Y L T) (zB D vwCl (zT K) A X) A) [.ref aa, .ref mo].toArray s 0 0 A) (F0 m 64 ls []) := by
      intro n
      induction n with
      | zero => intro i64 u64 w64; exact absurd w64 (by omega)
      | succ n ih64 =>
        intro i64 u64 w64  H locs ls hZ hS hl 
        refine lv_iload_n hx hb dX18_half_64 rfl (lv_at hl 0 rfl) ?_
        refine lv_bipush (v := nI 16) hx hb dX18_half_65 (by decide +kernel) ?_
        refine lv_icmp_ge (tgt := 95) hx hb dX18_half_67 (by decide) (fun c67 => ?_) (fun c67 => ?_)
        · have e67 : 16 ≤ i64 := (nI_leI (a := 16) (b := i64) (by omega) (by omega)).mp c67
          refine lv_aload_n hx hb dX18_half_95 rfl (lv_at hl 1 rfl) ?_
          refine lv_bipush (v := nI 16) hx hb dX18_half_96 (by decide +kernel) ?_
          refine lv_dup2_11 hx hb dX18_half_98 rfl rfl ?_
          refine z_lald hx hb hK hZ 1 h_aa k_aa rfl (vp_in_nI (by omega) (by omega)) dX18_half_99 (fun x1 => ?_)
          refine lv_iconst (v := nI 1) hx hb dX18_half_100 (by decide +kernel) ?_
          refine lv_lshr hx hb dX18_half_101 rfl ?_
          refine lv_topl (fun x2 _ => ?_)
          refine z_last hx hb hK hZ hS 1 h_aa k_aa rfl (vp_in_nI (by omega) (by omega)) dX18_half_102 (fun H locs hZ hS => ?_)
          exact z_vret hx hb hr hlocks hK hZ hS rfl (Nat.le_of_ble_eq_true rfl) (Nat.le_of_ble_eq_true rfl) dX18_half_103
        · have e67 : ¬ 16 ≤ i64 := fun q => c67 ((nI_leI (a := 16) (b := i64) (by omega) (by omega)).mpr q)
          refine lv_aload_n hx hb dX18_half_70 rfl (lv_at hl 1 rfl) ?_
          refine lv_iload_n hx hb dX18_half_71 rfl (lv_at hl 0 rfl) ?_
          refine lv_aload_n hx hb dX18_half_72 rfl (lv_at hl 1 rfl) ?_
          refine lv_iload_n hx hb dX18_half_73 rfl (lv_at hl 0 rfl) ?_
          refine z_lald hx hb hK hZ 1 h_aa k_aa rfl (vp_in_nI (by omega) (by omega)) dX18_half_74 (fun x3 => ?_)
          refine lv_iconst (v := nI 1) hx hb dX18_half_75 (by decide +kernel) ?_
          refine lv_lshr hx hb dX18_half_76 rfl ?_
          refine lv_topl (fun x4 _ => ?_)
          refine lv_aload_n hx hb dX18_half_77 rfl (lv_at hl 1 rfl) ?_
          refine lv_iload_n hx hb dX18_half_78 rfl (lv_at hl 0 rfl) ?_
          refine lv_iconst (v := nI 1) hx hb dX18_half_79 (by decide +kernel) ?_
          refine lv_iadd hx hb dX18_half_80 ?_
          refine lv_topi (fun x5 ex5 => ?_)
          obtain rfl : x5 = nI (i64 + 1) := ex5.trans (nI_add i64 1)
          refine z_lald hx hb hK hZ 1 h_aa k_aa rfl (vp_in_nI (by omega) (by omega)) dX18_half_81 (fun x6 => ?_)
          refine lv_lconst (v := 1) hx hb dX18_half_82 (by decide +kernel) ?_
          refine lv_land hx hb dX18_half_83 ?_
          refine lv_topl (fun x7 _ => ?_)
          refine lv_bipush (v := nI 15) hx hb dX18_half_84 (by decide +kernel) ?_
          refine lv_lshl hx hb dX18_half_86 rfl ?_
          refine lv_topl (fun x8 _ => ?_)
          refine lv_lor hx hb dX18_half_87 ?_
          refine lv_topl (fun x9 _ => ?_)
          refine z_last hx hb hK hZ hS 1 h_aa k_aa rfl (vp_in_nI (by omega) (by omega)) dX18_half_88 (fun H locs hZ hS => ?_)
          refine lv_iinc (v := nI (i64 + 1)) (lv' := [(2, .int (nI (i64 + 1))), (0, .ref aa)]) hx hb dX18_half_89 hl (k := 0) rfl (nI_add i64 1) (by decide) rfl (fun ls hl => ?_)
          refine lv_goto (tgt := 64) hx hb dX18_half_92 (by decide) ?_
          exact ih64 (i64 + 1) (by omega) (by omega)  _ _ _ hZ hS (lv_sub hl [0, 1] rfl) 
    exact L64 (16 + 1) 0 (by omega) (by omega)  _ _ _ hZ hS (lv_sub hl [0, 1] rfl) 
  refine lv_aload_n hx hb dX18_half_0 rfl (lv_at hl 0 rfl) ?_
  refine lv_iconst (v := nI 0) hx hb dX18_half_1 (by decide +kernel) ?_
  refine z_lald hx hb hK hZ 1 h_aa k_aa rfl (vp_in_nI (by omega) (by omega)) dX18_half_2 (fun x10 => ?_)
  refine lv_lconst (v := 1) hx hb dX18_half_3 (by decide +kernel) ?_
  refine lv_land hx hb dX18_half_4 ?_
  refine lv_topl (fun x11 _ => ?_)
  refine lv_lconst (v := 1) hx hb dX18_half_5 (by decide +kernel) ?_
  refine W.lcmp hx hb dX18_half_6 ?_
  refine lv_topi (fun x12 ex12 => ?_)
  refine lv_if_ne (tgt := 62) hx hb dX18_half_7 (by decide) (fun c7 => ?_) (fun c7 => ?_)
  · exact J62   _ _ _ hZ hS (lv_sub hl [0] rfl)
  · refine lv_lconst (v := 0) hx hb dX18_half_10 (by decide +kernel) ?_
    refine lv_lstore_n (lv' := [(2, .long 0), (0, .ref aa), (1, .ref mo)]) hx hb dX18_half_11 rfl hl (by decide) rfl (fun ls hl => ?_)
    refine lv_iconst (v := nI 0) hx hb dX18_half_12 (by decide +kernel) ?_
    refine lv_istore (lv' := [(4, .int (nI 0)), (2, .long 0), (0, .ref aa), (1, .ref mo)]) hx hb dX18_half_13 hl (by decide) rfl (fun ls hl => ?_)
    have L15 : ∀ (n i15 : Nat), i15 ≤ 16 → 16 + 1 ≤ i15 + n → ∀ (v2_15 : Int64) (H : Heap) (locs : List Loc) (ls : Array Slot), zP D vwCl A X Y L T H → va_S A s.heap H locs → lv_has ls 5 [(4, .int (nI i15)), (0, .ref aa), (1, .ref mo), (2, .long v2_15)] → W p l e ROOM_X18_half s m [.ref aa, .ref mo].toArray below meth c H locs 0 0 (MQ below (va_Qv (zSame Y L T) (zB D vwCl (zT K) A X) A) [.ref aa, .ref mo].toArray s 0 0 A) (F0 m 15 ls []) := by
      intro n
      induction n with
      | zero => intro i15 u15 w15; exact absurd w15 (by omega)
      | succ n ih15 =>
        intro i15 u15 w15 v2_15 H locs ls hZ hS hl 
        refine lv_iload hx hb dX18_half_15 (lv_at hl 0 rfl) ?_
        refine lv_bipush (v := nI 16) hx hb dX18_half_17 (by decide +kernel) ?_
        refine lv_icmp_ge (tgt := 54) hx hb dX18_half_19 (by decide) (fun c19 => ?_) (fun c19 => ?_)
        · have e19 : 16 ≤ i15 := (nI_leI (a := 16) (b := i15) (by omega) (by omega)).mp c19
          refine lv_aload_n hx hb dX18_half_54 rfl (lv_at hl 1 rfl) ?_
          refine lv_bipush (v := nI 16) hx hb dX18_half_55 (by decide +kernel) ?_
          refine lv_dup2_11 hx hb dX18_half_57 rfl rfl ?_
          refine z_lald hx hb hK hZ 1 h_aa k_aa rfl (vp_in_nI (by omega) (by omega)) dX18_half_58 (fun x13 => ?_)
          refine lv_lload_n hx hb dX18_half_59 rfl (lv_at hl 3 rfl) ?_
          refine lv_ladd hx hb dX18_half_60 ?_
          refine lv_topl (fun x14 _ => ?_)
          refine z_last hx hb hK hZ hS 1 h_aa k_aa rfl (vp_in_nI (by omega) (by omega)) dX18_half_61 (fun H locs hZ hS => ?_)
          exact J62   _ _ _ hZ hS (lv_sub hl [1] rfl) 
        · have e19 : ¬ 16 ≤ i15 := fun q => c19 ((nI_leI (a := 16) (b := i15) (by omega) (by omega)).mpr q)
          refine lv_lload_n hx hb dX18_half_22 rfl (lv_at hl 3 rfl) ?_
          refine lv_aload_n hx hb dX18_half_23 rfl (lv_at hl 1 rfl) ?_
          refine lv_iload hx hb dX18_half_24 (lv_at hl 0 rfl) ?_
          refine z_lald hx hb hK hZ 1 h_aa k_aa rfl (vp_in_nI (by omega) (by omega)) dX18_half_26 (fun x15 => ?_)
          refine lv_aload_n hx hb dX18_half_27 rfl (lv_at hl 2 rfl) ?_
          refine lv_iload hx hb dX18_half_28 (lv_at hl 0 rfl) ?_
          refine z_lald hx hb hK hZ 1 h_mo k_mo rfl (vp_in_nI (by omega) (by omega)) dX18_half_30 (fun x16 => ?_)
          refine lv_ladd hx hb dX18_half_31 ?_
          refine lv_topl (fun x17 _ => ?_)
          refine lv_ladd hx hb dX18_half_32 ?_
          refine lv_topl (fun x18 _ => ?_)
          refine lv_lstore_n (lv' := [(2, .long x18), (4, .int (nI i15)), (0, .ref aa), (1, .ref mo)]) hx hb dX18_half_33 rfl hl (by decide) rfl (fun ls hl => ?_)
          refine lv_aload_n hx hb dX18_half_34 rfl (lv_at hl 2 rfl) ?_
          refine lv_iload hx hb dX18_half_35 (lv_at hl 1 rfl) ?_
          refine lv_lload_n hx hb dX18_half_37 rfl (lv_at hl 0 rfl) ?_
          refine lv_ldc2 (v := (65535)) hx hb hown (hts _ zw_203) dX18_half_38 ?_
          refine lv_land hx hb dX18_half_41 ?_
          refine lv_topl (fun x19 _ => ?_)
          refine z_last hx hb hK hZ hS 1 h_aa k_aa rfl (vp_in_nI (by omega) (by omega)) dX18_half_42 (fun H locs hZ hS => ?_)
          refine lv_lload_n hx hb dX18_half_43 rfl (lv_at hl 0 rfl) ?_
          refine lv_bipush (v := nI 16) hx hb dX18_half_44 (by decide +kernel) ?_
          refine lv_lshr hx hb dX18_half_46 rfl ?_
          refine lv_topl (fun x20 _ => ?_)
          refine lv_lstore_n (lv' := [(2, .long x20), (4, .int (nI i15)), (0, .ref aa), (1, .ref mo)]) hx hb dX18_half_47 rfl hl (by decide) rfl (fun ls hl => ?_)
          refine lv_iinc (v := nI (i15 + 1)) (lv' := [(4, .int (nI (i15 + 1))), (2, .long x20), (0, .ref aa), (1, .ref mo)]) hx hb dX18_half_48 hl (k := 1) rfl (nI_add i15 1) (by decide) rfl (fun ls hl => ?_)
          refine lv_goto (tgt := 15) hx hb dX18_half_51 (by decide) ?_
          exact ih15 (i15 + 1) (by omega) (by omega) x20 _ _ _ hZ hS (lv_sub hl [0, 2, 3, 1] rfl) 
    exact L15 (16 + 1) 0 (by omega) (by omega) 0 _ _ _ hZ hS (lv_sub hl [0, 2, 3, 1] rfl) 
abbrev ROOM_X18_halve : Room := { frames := 1, cells := 0, slots := 0, locals := 0 }
set_option maxHeartbeats 4000000 in
set_option maxRecDepth 100000 in
/-- halve -/
theorem c_X18_halve (l : Launch) (D : va_G) (K : Nat → ClassId) (X Y : va_W) (L : List Nat) (T : Nat → va_E → Prop) {aa n_aa : Nat}  (h_aa : aa ∈ L) (k_aa : T aa = zJ (K 1) n_aa) (b_aa : 16 ≤ n_aa ∧ n_aa < 2147483648)  : zV l D vwCl (zT K) yX18_halve (zws yX18_halve cX18_halve 2 none) ROOM_X18_halve 0 0 [.ref aa] X Y L T (zSame Y L T) := by
  refine z_ofW (Qc := fun A => va_Qv (zSame Y L T) (zB D vwCl (zT K) A X) A) (cc := cX18_halve) (maxL := 2) (ret := none) (by decide +kernel) rfl (Nat.le_of_ble_eq_true rfl) ?_
  intro p e s m below meth c A ls hx hb hml hr hts hown hlocks hin hA hK hZ hS hl
  have hown : s.vm.findClass RX18 = some m.cls := hown
  have hts : ∀ w ∈ WR, w.before [.ref aa].toArray s = true := fun w h => hts w (List.mem_cons_of_mem _ h)
  have hl : lv_has ls 2 [(0, .ref aa)] := hl
  obtain ⟨H, hH⟩ : ∃ H, H = s.heap := ⟨_, rfl⟩
  have hZ : zP D vwCl A X Y L T H := by rw [hH]; exact hZ
  obtain ⟨locs, hlc⟩ : ∃ q : List Loc, q = [] := ⟨_, rfl⟩
  have hS : va_S A s.heap H locs := by rw [hH, hlc]; exact hS
  suffices hW : W p l e ROOM_X18_halve s m [.ref aa].toArray below meth c H locs 0 0 (MQ below (va_Qv (zSame Y L T) (zB D vwCl (zT K) A X) A) [.ref aa].toArray s 0 0 A) (F0 m 0 ls []) by rw [hH, hlc] at hW; exact hW
  clear hH hlc
  refine lv_iconst (v := nI 0) hx hb dX18_halve_0 (by decide +kernel) ?_
  refine lv_istore_n (lv' := [(1, .int (nI 0)), (0, .ref aa)]) hx hb dX18_halve_1 rfl hl (by decide) rfl (fun ls hl => ?_)
  have L2 : ∀ (n i2 : Nat), i2 ≤ 16 → 16 + 1 ≤ i2 + n → ∀  (H : Heap) (locs : List Loc) (ls : Array Slot), zP D vwCl A X Y L T H → va_S A s.heap H locs → lv_has ls 2 [(1, .int (nI i2)), (0, .ref aa)] → W p l e ROOM_X18_halve s m [.ref aa].toArray below meth c H locs 0 0 (MQ below (va_Qv (zSame Y L T) (zB D vwCl (zT K) A X) A) [.ref aa].toArray s 0 0 A) (F0 m 2 ls []) := by
    intro n
    induction n with
    | zero => intro i2 u2 w2; exact absurd w2 (by omega)
    | succ n ih2 =>
      intro i2 u2 w2  H locs ls hZ hS hl 
      refine lv_iload_n hx hb dX18_halve_2 rfl (lv_at hl 0 rfl) ?_
      refine lv_bipush (v := nI 16) hx hb dX18_halve_3 (by decide +kernel) ?_
      refine lv_icmp_ge (tgt := 43) hx hb dX18_halve_5 (by decide) (fun c5 => ?_) (fun c5 => ?_)
      · have e5 : 16 ≤ i2 := (nI_leI (a := 16) (b := i2) (by omega) (by omega)).mp c5
        exact z_vret hx hb hr hlocks hK hZ hS rfl (Nat.le_of_ble_eq_true rfl) (Nat.le_of_ble_eq_true rfl) dX18_halve_43
      · have e5 : ¬ 16 ≤ i2 := fun q => c5 ((nI_leI (a := 16) (b := i2) (by omega) (by omega)).mpr q)
        refine lv_aload_n hx hb dX18_halve_8 rfl (lv_at hl 1 rfl) ?_
        refine lv_iload_n hx hb dX18_halve_9 rfl (lv_at hl 0 rfl) ?_
        refine lv_aload_n hx hb dX18_halve_10 rfl (lv_at hl 1 rfl) ?_
        refine lv_iload_n hx hb dX18_halve_11 rfl (lv_at hl 0 rfl) ?_
        refine z_lald hx hb hK hZ 1 h_aa k_aa rfl (vp_in_nI (by omega) (by omega)) dX18_halve_12 (fun x1 => ?_)
        refine lv_iconst (v := nI 1) hx hb dX18_halve_13 (by decide +kernel) ?_
        refine lv_lshr hx hb dX18_halve_14 rfl ?_
        refine lv_topl (fun x2 _ => ?_)
        refine lv_iload_n hx hb dX18_halve_15 rfl (lv_at hl 0 rfl) ?_
        refine lv_bipush (v := nI 15) hx hb dX18_halve_16 (by decide +kernel) ?_
        refine lv_icmp_ge (tgt := 34) hx hb dX18_halve_18 (by decide) (fun c18 => ?_) (fun c18 => ?_)
        · have e18 : 15 ≤ i2 := (nI_leI (a := 15) (b := i2) (by omega) (by omega)).mp c18
          refine lv_lconst (v := 0) hx hb dX18_halve_34 (by decide +kernel) ?_
          refine lv_lor hx hb dX18_halve_35 ?_
          refine lv_topl (fun x3 _ => ?_)
          refine z_last hx hb hK hZ hS 1 h_aa k_aa rfl (vp_in_nI (by omega) (by omega)) dX18_halve_36 (fun H locs hZ hS => ?_)
          refine lv_iinc (v := nI (i2 + 1)) (lv' := [(1, .int (nI (i2 + 1))), (0, .ref aa)]) hx hb dX18_halve_37 hl (k := 0) rfl (nI_add i2 1) (by decide) rfl (fun ls hl => ?_)
          refine lv_goto (tgt := 2) hx hb dX18_halve_40 (by decide) ?_
          exact ih2 (i2 + 1) (by omega) (by omega)  _ _ _ hZ hS (lv_sub hl [0, 1] rfl) 
        · have e18 : ¬ 15 ≤ i2 := fun q => c18 ((nI_leI (a := 15) (b := i2) (by omega) (by omega)).mpr q)
          refine lv_aload_n hx hb dX18_halve_21 rfl (lv_at hl 1 rfl) ?_
          refine lv_iload_n hx hb dX18_halve_22 rfl (lv_at hl 0 rfl) ?_
          refine lv_iconst (v := nI 1) hx hb dX18_halve_23 (by decide +kernel) ?_
          refine lv_iadd hx hb dX18_halve_24 ?_
          refine lv_topi (fun x4 ex4 => ?_)
          obtain rfl : x4 = nI (i2 + 1) := ex4.trans (nI_add i2 1)
          refine z_lald hx hb hK hZ 1 h_aa k_aa rfl (vp_in_nI (by omega) (by omega)) dX18_halve_25 (fun x5 => ?_)
          refine lv_lconst (v := 1) hx hb dX18_halve_26 (by decide +kernel) ?_
          refine lv_land hx hb dX18_halve_27 ?_
          refine lv_topl (fun x6 _ => ?_)
          refine lv_bipush (v := nI 15) hx hb dX18_halve_28 (by decide +kernel) ?_
          refine lv_lshl hx hb dX18_halve_30 rfl ?_
          refine lv_topl (fun x7 _ => ?_)
          refine lv_goto (tgt := 35) hx hb dX18_halve_31 (by decide) ?_
          refine lv_lor hx hb dX18_halve_35 ?_
          refine lv_topl (fun x8 _ => ?_)
          refine z_last hx hb hK hZ hS 1 h_aa k_aa rfl (vp_in_nI (by omega) (by omega)) dX18_halve_36 (fun H locs hZ hS => ?_)
          refine lv_iinc (v := nI (i2 + 1)) (lv' := [(1, .int (nI (i2 + 1))), (0, .ref aa)]) hx hb dX18_halve_37 hl (k := 0) rfl (nI_add i2 1) (by decide) rfl (fun ls hl => ?_)
          refine lv_goto (tgt := 2) hx hb dX18_halve_40 (by decide) ?_
          exact ih2 (i2 + 1) (by omega) (by omega)  _ _ _ hZ hS (lv_sub hl [0, 1] rfl) 
  exact L2 (16 + 1) 0 (by omega) (by omega)  _ _ _ hZ hS (lv_sub hl [0, 1] rfl) 
abbrev ROOM_X18_one : Room := { frames := 1, cells := 0, slots := 0, locals := 0 }
set_option maxHeartbeats 4000000 in
set_option maxRecDepth 100000 in
/-- one -/
theorem c_X18_one (l : Launch) (D : va_G) (K : Nat → ClassId) (X Y : va_W) (L : List Nat) (T : Nat → va_E → Prop) {aa n_aa : Nat}  (h_aa : aa ∈ L) (k_aa : T aa = zJ (K 1) n_aa) (b_aa : 16 ≤ n_aa ∧ n_aa < 2147483648)  : zVi l D vwCl (zT K) yX18_one (zws yX18_one cX18_one 2 (some .boolean)) ROOM_X18_one 0 0 [.ref aa] X Y L T (fun _ => zSame Y L T) := by
  refine z_ofW (Qc := fun A => va_Qi (fun _ => zSame Y L T) (zB D vwCl (zT K) A X) A) (cc := cX18_one) (maxL := 2) (ret := (some .boolean)) (by decide +kernel) rfl (Nat.le_of_ble_eq_true rfl) ?_
  intro p e s m below meth c A ls hx hb hml hr hts hown hlocks hin hA hK hZ hS hl
  have hown : s.vm.findClass RX18 = some m.cls := hown
  have hts : ∀ w ∈ WR, w.before [.ref aa].toArray s = true := fun w h => hts w (List.mem_cons_of_mem _ h)
  have hl : lv_has ls 2 [(0, .ref aa)] := hl
  obtain ⟨H, hH⟩ : ∃ H, H = s.heap := ⟨_, rfl⟩
  have hZ : zP D vwCl A X Y L T H := by rw [hH]; exact hZ
  obtain ⟨locs, hlc⟩ : ∃ q : List Loc, q = [] := ⟨_, rfl⟩
  have hS : va_S A s.heap H locs := by rw [hH, hlc]; exact hS
  suffices hW : W p l e ROOM_X18_one s m [.ref aa].toArray below meth c H locs 0 0 (MQ below (va_Qi (fun _ => zSame Y L T) (zB D vwCl (zT K) A X) A) [.ref aa].toArray s 0 0 A) (F0 m 0 ls []) by rw [hH, hlc] at hW; exact hW
  clear hH hlc
  refine lv_aload_n hx hb dX18_one_0 rfl (lv_at hl 0 rfl) ?_
  refine lv_iconst (v := nI 0) hx hb dX18_one_1 (by decide +kernel) ?_
  refine z_lald hx hb hK hZ 1 h_aa k_aa rfl (vp_in_nI (by omega) (by omega)) dX18_one_2 (fun x1 => ?_)
  refine lv_lconst (v := 1) hx hb dX18_one_3 (by decide +kernel) ?_
  refine W.lcmp hx hb dX18_one_4 ?_
  refine lv_topi (fun x2 ex2 => ?_)
  refine lv_if_eq (tgt := 10) hx hb dX18_one_5 (by decide) (fun c5 => ?_) (fun c5 => ?_)
  · refine lv_iconst (v := nI 1) hx hb dX18_one_10 (by decide +kernel) ?_
    refine lv_istore_n (lv' := [(1, .int (nI 1)), (0, .ref aa)]) hx hb dX18_one_11 rfl hl (by decide) rfl (fun ls hl => ?_)
    have L12 : ∀ (n i12 : Nat), i12 ≤ 16 → 16 + 1 ≤ i12 + n → ∀  (H : Heap) (locs : List Loc) (ls : Array Slot), zP D vwCl A X Y L T H → va_S A s.heap H locs → lv_has ls 2 [(1, .int (nI i12)), (0, .ref aa)] → W p l e ROOM_X18_one s m [.ref aa].toArray below meth c H locs 0 0 (MQ below (va_Qi (fun _ => zSame Y L T) (zB D vwCl (zT K) A X) A) [.ref aa].toArray s 0 0 A) (F0 m 12 ls []) := by
      intro n
      induction n with
      | zero => intro i12 u12 w12; exact absurd w12 (by omega)
      | succ n ih12 =>
        intro i12 u12 w12  H locs ls hZ hS hl 
        refine lv_iload_n hx hb dX18_one_12 rfl (lv_at hl 0 rfl) ?_
        refine lv_bipush (v := nI 16) hx hb dX18_one_13 (by decide +kernel) ?_
        refine lv_icmp_ge (tgt := 34) hx hb dX18_one_15 (by decide) (fun c15 => ?_) (fun c15 => ?_)
        · have e15 : 16 ≤ i12 := (nI_leI (a := 16) (b := i12) (by omega) (by omega)).mp c15
          refine lv_iconst (v := nI 1) hx hb dX18_one_34 (by decide +kernel) ?_
          exact z_iret hx hb hr rfl hlocks hK hZ hS rfl (Nat.le_of_ble_eq_true rfl) (Nat.le_of_ble_eq_true rfl) dX18_one_35
        · have e15 : ¬ 16 ≤ i12 := fun q => c15 ((nI_leI (a := 16) (b := i12) (by omega) (by omega)).mpr q)
          refine lv_aload_n hx hb dX18_one_18 rfl (lv_at hl 1 rfl) ?_
          refine lv_iload_n hx hb dX18_one_19 rfl (lv_at hl 0 rfl) ?_
          refine z_lald hx hb hK hZ 1 h_aa k_aa rfl (vp_in_nI (by omega) (by omega)) dX18_one_20 (fun x3 => ?_)
          refine lv_lconst (v := 0) hx hb dX18_one_21 (by decide +kernel) ?_
          refine W.lcmp hx hb dX18_one_22 ?_
          refine lv_topi (fun x4 ex4 => ?_)
          refine lv_if_eq (tgt := 28) hx hb dX18_one_23 (by decide) (fun c23 => ?_) (fun c23 => ?_)
          · refine lv_iinc (v := nI (i12 + 1)) (lv' := [(1, .int (nI (i12 + 1))), (0, .ref aa)]) hx hb dX18_one_28 hl (k := 0) rfl (nI_add i12 1) (by decide) rfl (fun ls hl => ?_)
            refine lv_goto (tgt := 12) hx hb dX18_one_31 (by decide) ?_
            exact ih12 (i12 + 1) (by omega) (by omega)  _ _ _ hZ hS (lv_sub hl [0, 1] rfl) 
          · refine lv_iconst (v := nI 0) hx hb dX18_one_26 (by decide +kernel) ?_
            exact z_iret hx hb hr rfl hlocks hK hZ hS rfl (Nat.le_of_ble_eq_true rfl) (Nat.le_of_ble_eq_true rfl) dX18_one_27
    exact L12 (16 + 1) 1 (by omega) (by omega)  _ _ _ hZ hS (lv_sub hl [0, 1] rfl) 
  · refine lv_iconst (v := nI 0) hx hb dX18_one_8 (by decide +kernel) ?_
    exact z_iret hx hb hr rfl hlocks hK hZ hS rfl (Nat.le_of_ble_eq_true rfl) (Nat.le_of_ble_eq_true rfl) dX18_one_9
abbrev ROOM_X18_bit : Room := { frames := 1, cells := 0, slots := 0, locals := 0 }
set_option maxHeartbeats 4000000 in
set_option maxRecDepth 100000 in
/-- bit -/
theorem c_X18_bit (l : Launch) (D : va_G) (K : Nat → ClassId) (X Y : va_W) (L : List Nat) (T : Nat → va_E → Prop) {aa n_aa : Nat} {i : Nat}  (h_aa : aa ∈ L) (k_aa : T aa = zJ (K 1) n_aa) (b_aa : 16 ≤ n_aa ∧ n_aa < 2147483648) (b_i : i ≤ 255)  : zVi l D vwCl (zT K) yX18_bit (zws yX18_bit cX18_bit 2 (some .int)) ROOM_X18_bit 0 0 [.ref aa, .int (nI i)] X Y L T (fun _ => zSame Y L T) := by
  refine z_ofW (Qc := fun A => va_Qi (fun _ => zSame Y L T) (zB D vwCl (zT K) A X) A) (cc := cX18_bit) (maxL := 2) (ret := (some .int)) (by decide +kernel) rfl (Nat.le_of_ble_eq_true rfl) ?_
  intro p e s m below meth c A ls hx hb hml hr hts hown hlocks hin hA hK hZ hS hl
  have hown : s.vm.findClass RX18 = some m.cls := hown
  have hts : ∀ w ∈ WR, w.before [.ref aa, .int (nI i)].toArray s = true := fun w h => hts w (List.mem_cons_of_mem _ h)
  have hl : lv_has ls 2 [(0, .ref aa), (1, .int (nI i))] := hl
  obtain ⟨H, hH⟩ : ∃ H, H = s.heap := ⟨_, rfl⟩
  have hZ : zP D vwCl A X Y L T H := by rw [hH]; exact hZ
  obtain ⟨locs, hlc⟩ : ∃ q : List Loc, q = [] := ⟨_, rfl⟩
  have hS : va_S A s.heap H locs := by rw [hH, hlc]; exact hS
  suffices hW : W p l e ROOM_X18_bit s m [.ref aa, .int (nI i)].toArray below meth c H locs 0 0 (MQ below (va_Qi (fun _ => zSame Y L T) (zB D vwCl (zT K) A X) A) [.ref aa, .int (nI i)].toArray s 0 0 A) (F0 m 0 ls []) by rw [hH, hlc] at hW; exact hW
  clear hH hlc
  refine lv_aload_n hx hb dX18_bit_0 rfl (lv_at hl 0 rfl) ?_
  refine lv_iload_n hx hb dX18_bit_1 rfl (lv_at hl 1 rfl) ?_
  refine lv_iconst (v := nI 4) hx hb dX18_bit_2 (by decide +kernel) ?_
  refine lv_ishr hx hb dX18_bit_3 ?_
  refine lv_topi (fun x1 ex1 => ?_)
  obtain rfl : x1 = nI (i / 16) := ex1.trans (pk_shrN (by omega) (nI 4 &&& 31) 4 (by decide +kernel))
  refine z_lald hx hb hK hZ 1 h_aa k_aa rfl (vp_in_nI (by omega) (by omega)) dX18_bit_4 (fun x2 => ?_)
  refine lv_iload_n hx hb dX18_bit_5 rfl (lv_at hl 1 rfl) ?_
  refine lv_bipush (v := nI 15) hx hb dX18_bit_6 (by decide +kernel) ?_
  refine lv_iand hx hb dX18_bit_8 ?_
  refine lv_topi (fun x3 ex3 => ?_)
  obtain ⟨jx3, bx3, rfl⟩ : ∃ j : Nat, j < 16 ∧ x3 = nI j := by obtain ⟨j, h1, h2⟩ := pk_andE (nI i) (m := nI 15) 4 (by decide +kernel); exact ⟨j, h1, ex3.trans h2⟩
  refine lv_lshr hx hb dX18_bit_9 rfl ?_
  refine lv_topl (fun x4 _ => ?_)
  refine lv_lconst (v := 1) hx hb dX18_bit_10 (by decide +kernel) ?_
  refine lv_land hx hb dX18_bit_11 ?_
  refine lv_topl (fun x5 _ => ?_)
  refine lv_l2i hx hb dX18_bit_12 rfl ?_
  refine lv_topi (fun x6 ex6 => ?_)
  exact z_iret hx hb hr rfl hlocks hK hZ hS rfl (Nat.le_of_ble_eq_true rfl) (Nat.le_of_ble_eq_true rfl) dX18_bit_13
abbrev ROOM_X18_reduce : Room := { frames := 2, cells := 0, slots := 0, locals := 27 }
set_option maxHeartbeats 4000000 in
set_option maxRecDepth 100000 in
/-- reduce -/
theorem c_X18_reduce (l : Launch) (D : va_G) (K : Nat → ClassId) (X Y : va_W) (L : List Nat) (T : Nat → va_E → Prop) {th : Nat} {vs_th : List Value} {product n_product : Nat} {sum n_sum : Nat} {to n_to : Nat} {mo n_mo : Nat} {t n_t : Nat}  (h_th : th ∈ L) (k_th : T th = zO 15 vs_th) (f_th_0 : vs_th[0]? = some (.ref product)) (h_product : product ∈ L) (k_product : T product = zJ (K 1) n_product) (b_product : 32 ≤ n_product ∧ n_product < 2147483648) (f_th_1 : vs_th[1]? = some (.ref sum)) (h_sum : sum ∈ L) (k_sum : T sum = zJ (K 1) n_sum) (b_sum : 18 ≤ n_sum ∧ n_sum < 2147483648) (h_to : to ∈ L) (k_to : T to = zJ (K 1) n_to) (b_to : 16 ≤ n_to ∧ n_to < 2147483648) (h_mo : mo ∈ L) (k_mo : T mo = zJ (K 1) n_mo) (b_mo : 16 ≤ n_mo ∧ n_mo < 2147483648) (h_t : t ∈ L) (k_t : T t = zJ (K 1) n_t) (b_t : 256 ≤ n_t ∧ n_t < 2147483648)  : zV l D vwCl (zT K) yX18_reduce (zws yX18_reduce cX18_reduce 10 none) ROOM_X18_reduce 0 0 [.ref th, .ref to, .ref mo, .ref t] X Y L T (zSame Y L T) := by
  refine z_ofW (Qc := fun A => va_Qv (zSame Y L T) (zB D vwCl (zT K) A X) A) (cc := cX18_reduce) (maxL := 10) (ret := none) (by decide +kernel) rfl (Nat.le_of_ble_eq_true rfl) ?_
  intro p e s m below meth c A ls hx hb hml hr hts hown hlocks hin hA hK hZ hS hl
  have hown : s.vm.findClass RX18 = some m.cls := hown
  have hts : ∀ w ∈ WR, w.before [.ref th, .ref to, .ref mo, .ref t].toArray s = true := fun w h => hts w (List.mem_cons_of_mem _ h)
  have hl : lv_has ls 10 [(0, .ref th), (1, .ref to), (2, .ref mo), (3, .ref t)] := hl
  obtain ⟨H, hH⟩ : ∃ H, H = s.heap := ⟨_, rfl⟩
  have hZ : zP D vwCl A X Y L T H := by rw [hH]; exact hZ
  obtain ⟨locs, hlc⟩ : ∃ q : List Loc, q = [] := ⟨_, rfl⟩
  have hS : va_S A s.heap H locs := by rw [hH, hlc]; exact hS
  suffices hW : W p l e ROOM_X18_reduce s m [.ref th, .ref to, .ref mo, .ref t].toArray below meth c H locs 0 0 (MQ below (va_Qv (zSame Y L T) (zB D vwCl (zT K) A X) A) [.ref th, .ref to, .ref mo, .ref t].toArray s 0 0 A) (F0 m 0 ls []) by rw [hH, hlc] at hW; exact hW
  clear hH hlc
  have J247 : ∀  (H : Heap) (locs : List Loc) (ls : Array Slot), zP D vwCl A X Y L T H → va_S A s.heap H locs → lv_has ls 10 [] → W p l e ROOM_X18_reduce s m [.ref th, .ref to, .ref mo, .ref t].toArray below meth c H locs 0 0 (MQ below (va_Qv (zSame Y L T) (zB D vwCl (zT K) A X) A) [.ref th, .ref to, .ref mo, .ref t].toArray s 0 0 A) (F0 m 247 ls []) := by
    intro  H locs ls hZ hS hl 
    exact z_vret hx hb hr hlocks hK hZ hS rfl (Nat.le_of_ble_eq_true rfl) (Nat.le_of_ble_eq_true rfl) dX18_reduce_247
  refine lv_iconst (v := nI 0) hx hb dX18_reduce_0 (by decide +kernel) ?_
  refine lv_istore (lv' := [(4, .int (nI 0)), (0, .ref th), (1, .ref to), (2, .ref mo), (3, .ref t)]) hx hb dX18_reduce_1 hl (by decide) rfl (fun ls hl => ?_)
  have L3 : ∀ (n i3 : Nat), i3 ≤ 16 → 16 + 1 ≤ i3 + n → ∀  (H : Heap) (locs : List Loc) (ls : Array Slot), zP D vwCl A X Y L T H → va_S A s.heap H locs → lv_has ls 10 [(4, .int (nI i3)), (0, .ref th), (1, .ref to), (2, .ref mo), (3, .ref t)] → W p l e ROOM_X18_reduce s m [.ref th, .ref to, .ref mo, .ref t].toArray below meth c H locs 0 0 (MQ below (va_Qv (zSame Y L T) (zB D vwCl (zT K) A X) A) [.ref th, .ref to, .ref mo, .ref t].toArray s 0 0 A) (F0 m 3 ls []) := by
    intro n
    induction n with
    | zero => intro i3 u3 w3; exact absurd w3 (by omega)
    | succ n ih3 =>
      intro i3 u3 w3  H locs ls hZ hS hl 
      refine lv_iload hx hb dX18_reduce_3 (lv_at hl 0 rfl) ?_
      refine lv_bipush (v := nI 16) hx hb dX18_reduce_5 (by decide +kernel) ?_
      refine lv_icmp_ge (tgt := 76) hx hb dX18_reduce_7 (by decide) (fun c7 => ?_) (fun c7 => ?_)
      · have e7 : 16 ≤ i3 := (nI_leI (a := 16) (b := i3) (by omega) (by omega)).mp c7
        have J190 : ∀  (H : Heap) (locs : List Loc) (ls : Array Slot), zP D vwCl A X Y L T H → va_S A s.heap H locs → lv_has ls 10 [(0, .ref th), (1, .ref to), (2, .ref mo)] → W p l e ROOM_X18_reduce s m [.ref th, .ref to, .ref mo, .ref t].toArray below meth c H locs 0 0 (MQ below (va_Qv (zSame Y L T) (zB D vwCl (zT K) A X) A) [.ref th, .ref to, .ref mo, .ref t].toArray s 0 0 A) (F0 m 190 ls []) := by
          intro  H locs ls hZ hS hl 
          refine lv_iconst (v := nI 0) hx hb dX18_reduce_190 (by decide +kernel) ?_
          refine lv_istore (lv' := [(6, .int (nI 0)), (0, .ref th), (1, .ref to), (2, .ref mo)]) hx hb dX18_reduce_191 hl (by decide) rfl (fun ls hl => ?_)
          have L193 : ∀ (n i193 : Nat), i193 ≤ 16 → 16 + 1 ≤ i193 + n → ∀  (H : Heap) (locs : List Loc) (ls : Array Slot), zP D vwCl A X Y L T H → va_S A s.heap H locs → lv_has ls 10 [(6, .int (nI i193)), (0, .ref th), (1, .ref to), (2, .ref mo)] → W p l e ROOM_X18_reduce s m [.ref th, .ref to, .ref mo, .ref t].toArray below meth c H locs 0 0 (MQ below (va_Qv (zSame Y L T) (zB D vwCl (zT K) A X) A) [.ref th, .ref to, .ref mo, .ref t].toArray s 0 0 A) (F0 m 193 ls []) := by
            intro n
            induction n with
            | zero => intro i193 u193 w193; exact absurd w193 (by omega)
            | succ n ih193 =>
              intro i193 u193 w193  H locs ls hZ hS hl 
              refine lv_iload hx hb dX18_reduce_193 (lv_at hl 0 rfl) ?_
              refine lv_bipush (v := nI 16) hx hb dX18_reduce_195 (by decide +kernel) ?_
              refine lv_icmp_ge (tgt := 217) hx hb dX18_reduce_197 (by decide) (fun c197 => ?_) (fun c197 => ?_)
              · have e197 : 16 ≤ i193 := (nI_leI (a := 16) (b := i193) (by omega) (by omega)).mp c197
                refine lv_iconst (v := nI 0) hx hb dX18_reduce_217 (by decide +kernel) ?_
                refine lv_istore (lv' := [(6, .int (nI 0)), (0, .ref th), (1, .ref to), (2, .ref mo)]) hx hb dX18_reduce_218 hl (by decide) rfl (fun ls hl => ?_)
                have L220 : ∀ (n i220 : Nat), i220 ≤ 16 → 16 + 1 ≤ i220 + n → ∀  (H : Heap) (locs : List Loc) (ls : Array Slot), zP D vwCl A X Y L T H → va_S A s.heap H locs → lv_has ls 10 [(6, .int (nI i220)), (0, .ref th), (1, .ref to), (2, .ref mo)] → W p l e ROOM_X18_reduce s m [.ref th, .ref to, .ref mo, .ref t].toArray below meth c H locs 0 0 (MQ below (va_Qv (zSame Y L T) (zB D vwCl (zT K) A X) A) [.ref th, .ref to, .ref mo, .ref t].toArray s 0 0 A) (F0 m 220 ls []) := by
                  intro n
                  induction n with
                  | zero => intro i220 u220 w220; exact absurd w220 (by omega)
                  | succ n ih220 =>
                    intro i220 u220 w220  H locs ls hZ hS hl 
                    refine lv_iload hx hb dX18_reduce_220 (lv_at hl 0 rfl) ?_
                    refine lv_bipush (v := nI 16) hx hb dX18_reduce_222 (by decide +kernel) ?_
                    refine lv_icmp_ge (tgt := 247) hx hb dX18_reduce_224 (by decide) (fun c224 => ?_) (fun c224 => ?_)
                    · have e224 : 16 ≤ i220 := (nI_leI (a := 16) (b := i220) (by omega) (by omega)).mp c224
                      exact J247   _ _ _ hZ hS (lv_sub hl [] rfl) 
                    · have e224 : ¬ 16 ≤ i220 := fun q => c224 ((nI_leI (a := 16) (b := i220) (by omega) (by omega)).mpr q)
                      refine lv_aload_n hx hb dX18_reduce_227 rfl (lv_at hl 2 rfl) ?_
                      refine lv_aload_n hx hb dX18_reduce_228 rfl (lv_at hl 3 rfl) ?_
                      refine z_goI (va_runS (As := [.ref to, .ref mo]) (rest := []) ⟨hx, hb, hml, hown, hts⟩ ((c_X18_below l D K X Y L T h_to k_to ⟨by omega, by omega⟩ h_mo k_mo ⟨by omega, by omega⟩) H.size) (va_cwS 2 hts (zg_S zw_204 zw_110 zw_66 zw_111) rfl rfl rfl (by decide +kernel) ⟨Nat.le_of_ble_eq_true rfl, Nat.le_of_ble_eq_true rfl⟩) (z_preS hK hZ) rfl rfl hl.1 rfl (lv_room (Nat.le_of_ble_eq_true rfl)) dX18_reduce_229 ⟨Nat.le_of_ble_eq_true rfl, Nat.le_of_ble_eq_true rfl⟩) hZ hS hA (fun x1 Y1 L1 T1 H locs hp hZ hS => ?_)
                      cases hp
                      refine lv_if_ne (tgt := 247) hx hb dX18_reduce_232 (by decide) (fun c232 => ?_) (fun c232 => ?_)
                      · exact J247   _ _ _ hZ hS (lv_sub hl [] rfl)
                      · refine lv_aload_n hx hb dX18_reduce_235 rfl (lv_at hl 2 rfl) ?_
                        refine lv_aload_n hx hb dX18_reduce_236 rfl (lv_at hl 2 rfl) ?_
                        refine lv_aload_n hx hb dX18_reduce_237 rfl (lv_at hl 3 rfl) ?_
                        refine z_goV (va_runS (As := [.ref to, .ref to, .ref mo]) (rest := []) ⟨hx, hb, hml, hown, hts⟩ ((c_X18_less l D K X Y L T h_to k_to ⟨by omega, by omega⟩ h_to k_to ⟨by omega, by omega⟩ h_mo k_mo ⟨by omega, by omega⟩) H.size) (va_cwS 3 hts (zg_S zw_205 zw_206 zw_66 zw_202) rfl rfl rfl (by decide +kernel) ⟨Nat.le_of_ble_eq_true rfl, Nat.le_of_ble_eq_true rfl⟩) (z_preS hK hZ) rfl rfl hl.1 rfl (lv_room (Nat.le_of_ble_eq_true rfl)) dX18_reduce_238 ⟨Nat.le_of_ble_eq_true rfl, Nat.le_of_ble_eq_true rfl⟩) hZ hS hA (fun  Y1 L1 T1 H locs hp hZ hS => ?_)
                        cases hp
                        refine lv_iinc (v := nI (i220 + 1)) (lv' := [(6, .int (nI (i220 + 1))), (0, .ref th), (1, .ref to), (2, .ref mo)]) hx hb dX18_reduce_241 hl (k := 0) rfl (nI_add i220 1) (by decide) rfl (fun ls hl => ?_)
                        refine lv_goto (tgt := 220) hx hb dX18_reduce_244 (by decide) ?_
                        exact ih220 (i220 + 1) (by omega) (by omega)  _ _ _ hZ hS (lv_sub hl [0, 1, 2, 3] rfl) 
                exact L220 (16 + 1) 0 (by omega) (by omega)  _ _ _ hZ hS (lv_sub hl [0, 1, 2, 3] rfl) 
              · have e197 : ¬ 16 ≤ i193 := fun q => c197 ((nI_leI (a := 16) (b := i193) (by omega) (by omega)).mpr q)
                refine lv_aload_n hx hb dX18_reduce_200 rfl (lv_at hl 2 rfl) ?_
                refine lv_iload hx hb dX18_reduce_201 (lv_at hl 0 rfl) ?_
                refine lv_aload_n hx hb dX18_reduce_203 rfl (lv_at hl 1 rfl) ?_
                refine z_getP (own := RX18) (C := RX14) (TT := TX14) (N := 42) (ci := 15) (Ts := WR) hx hb hts zin_wsX140 hown hK hZ h_th k_th rfl 1 (by decide) (hts _ zw_197) (fun _ h9 => h9) f_th_1 dX18_reduce_204 ?_
                refine lv_iload hx hb dX18_reduce_207 (lv_at hl 0 rfl) ?_
                refine z_lald hx hb hK hZ 1 h_sum k_sum rfl (vp_in_nI (by omega) (by omega)) dX18_reduce_209 (fun x3 => ?_)
                refine z_last hx hb hK hZ hS 1 h_to k_to rfl (vp_in_nI (by omega) (by omega)) dX18_reduce_210 (fun H locs hZ hS => ?_)
                refine lv_iinc (v := nI (i193 + 1)) (lv' := [(6, .int (nI (i193 + 1))), (0, .ref th), (1, .ref to), (2, .ref mo)]) hx hb dX18_reduce_211 hl (k := 0) rfl (nI_add i193 1) (by decide) rfl (fun ls hl => ?_)
                refine lv_goto (tgt := 193) hx hb dX18_reduce_214 (by decide) ?_
                exact ih193 (i193 + 1) (by omega) (by omega)  _ _ _ hZ hS (lv_sub hl [0, 1, 2, 3] rfl) 
          exact L193 (16 + 1) 0 (by omega) (by omega)  _ _ _ hZ hS (lv_sub hl [0, 1, 2, 3] rfl) 
        refine lv_lconst (v := 1) hx hb dX18_reduce_76 (by decide +kernel) ?_
        refine lv_lstore (lv' := [(4, .long 1), (0, .ref th), (1, .ref to), (2, .ref mo), (3, .ref t)]) hx hb dX18_reduce_77 hl (by decide) rfl (fun ls hl => ?_)
        refine lv_iconst (v := nI 0) hx hb dX18_reduce_79 (by decide +kernel) ?_
        refine lv_istore (lv' := [(6, .int (nI 0)), (4, .long 1), (0, .ref th), (1, .ref to), (2, .ref mo), (3, .ref t)]) hx hb dX18_reduce_80 hl (by decide) rfl (fun ls hl => ?_)
        have L82 : ∀ (n i82 : Nat), i82 ≤ 9 → 9 + 1 ≤ i82 + n → ∀ (v4_82 : Int64) (H : Heap) (locs : List Loc) (ls : Array Slot), zP D vwCl A X Y L T H → va_S A s.heap H locs → lv_has ls 10 [(6, .int (nI i82)), (0, .ref th), (1, .ref to), (2, .ref mo), (3, .ref t), (4, .long v4_82)] → W p l e ROOM_X18_reduce s m [.ref th, .ref to, .ref mo, .ref t].toArray below meth c H locs 0 0 (MQ below (va_Qv (zSame Y L T) (zB D vwCl (zT K) A X) A) [.ref th, .ref to, .ref mo, .ref t].toArray s 0 0 A) (F0 m 82 ls []) := by
          intro n
          induction n with
          | zero => intro i82 u82 w82; exact absurd w82 (by omega)
          | succ n ih82 =>
            intro i82 u82 w82 v4_82 H locs ls hZ hS hl 
            refine lv_iload hx hb dX18_reduce_82 (lv_at hl 0 rfl) ?_
            refine lv_bipush (v := nI 9) hx hb dX18_reduce_84 (by decide +kernel) ?_
            refine lv_icmp_ge (tgt := 190) hx hb dX18_reduce_86 (by decide) (fun c86 => ?_) (fun c86 => ?_)
            · have e86 : 9 ≤ i82 := (nI_leI (a := 9) (b := i82) (by omega) (by omega)).mp c86
              exact J190   _ _ _ hZ hS (lv_sub hl [1, 2, 3] rfl) 
            · have e86 : ¬ 9 ≤ i82 := fun q => c86 ((nI_leI (a := 9) (b := i82) (by omega) (by omega)).mpr q)
              refine lv_lload hx hb dX18_reduce_89 (lv_at hl 5 rfl) ?_
              refine lv_lconst (v := 0) hx hb dX18_reduce_91 (by decide +kernel) ?_
              refine W.lcmp hx hb dX18_reduce_92 ?_
              refine lv_topi (fun x4 ex4 => ?_)
              refine lv_if_le (tgt := 190) hx hb dX18_reduce_93 (by decide) (fun c93 => ?_) (fun c93 => ?_)
              · exact J190   _ _ _ hZ hS (lv_sub hl [1, 2, 3] rfl)
              · refine lv_lconst (v := 0) hx hb dX18_reduce_96 (by decide +kernel) ?_
                refine lv_lstore (lv' := [(7, .long 0), (6, .int (nI i82)), (0, .ref th), (1, .ref to), (2, .ref mo), (3, .ref t), (4, .long v4_82)]) hx hb dX18_reduce_97 hl (by decide) rfl (fun ls hl => ?_)
                refine lv_iconst (v := nI 0) hx hb dX18_reduce_99 (by decide +kernel) ?_
                refine lv_istore (lv' := [(9, .int (nI 0)), (7, .long 0), (6, .int (nI i82)), (0, .ref th), (1, .ref to), (2, .ref mo), (3, .ref t), (4, .long v4_82)]) hx hb dX18_reduce_100 hl (by decide) rfl (fun ls hl => ?_)
                have L102 : ∀ (n i102 : Nat), i102 ≤ 16 → 16 + 1 ≤ i102 + n → ∀ (v7_102 : Int64) (H : Heap) (locs : List Loc) (ls : Array Slot), zP D vwCl A X Y L T H → va_S A s.heap H locs → lv_has ls 10 [(9, .int (nI i102)), (0, .ref th), (1, .ref to), (2, .ref mo), (3, .ref t), (6, .int (nI i82)), (7, .long v7_102)] → W p l e ROOM_X18_reduce s m [.ref th, .ref to, .ref mo, .ref t].toArray below meth c H locs 0 0 (MQ below (va_Qv (zSame Y L T) (zB D vwCl (zT K) A X) A) [.ref th, .ref to, .ref mo, .ref t].toArray s 0 0 A) (F0 m 102 ls []) := by
                  intro n
                  induction n with
                  | zero => intro i102 u102 w102; exact absurd w102 (by omega)
                  | succ n ih102 =>
                    intro i102 u102 w102 v7_102 H locs ls hZ hS hl 
                    refine lv_iload hx hb dX18_reduce_102 (lv_at hl 0 rfl) ?_
                    refine lv_bipush (v := nI 16) hx hb dX18_reduce_104 (by decide +kernel) ?_
                    refine lv_icmp_ge (tgt := 147) hx hb dX18_reduce_106 (by decide) (fun c106 => ?_) (fun c106 => ?_)
                    · have e106 : 16 ≤ i102 := (nI_leI (a := 16) (b := i102) (by omega) (by omega)).mp c106
                      refine lv_lload hx hb dX18_reduce_147 (lv_at hl 6 rfl) ?_
                      refine lv_lstore (lv' := [(4, .long v7_102), (9, .int (nI i102)), (0, .ref th), (1, .ref to), (2, .ref mo), (3, .ref t), (6, .int (nI i82)), (7, .long v7_102)]) hx hb dX18_reduce_149 hl (by decide) rfl (fun ls hl => ?_)
                      refine lv_iconst (v := nI 0) hx hb dX18_reduce_151 (by decide +kernel) ?_
                      refine lv_istore (lv' := [(9, .int (nI 0)), (4, .long v7_102), (0, .ref th), (1, .ref to), (2, .ref mo), (3, .ref t), (6, .int (nI i82)), (7, .long v7_102)]) hx hb dX18_reduce_152 hl (by decide) rfl (fun ls hl => ?_)
                      have L154 : ∀ (n i154 : Nat), i154 ≤ 16 → 16 + 1 ≤ i154 + n → ∀  (H : Heap) (locs : List Loc) (ls : Array Slot), zP D vwCl A X Y L T H → va_S A s.heap H locs → lv_has ls 10 [(9, .int (nI i154)), (0, .ref th), (1, .ref to), (2, .ref mo), (3, .ref t), (4, .long v7_102), (6, .int (nI i82))] → W p l e ROOM_X18_reduce s m [.ref th, .ref to, .ref mo, .ref t].toArray below meth c H locs 0 0 (MQ below (va_Qv (zSame Y L T) (zB D vwCl (zT K) A X) A) [.ref th, .ref to, .ref mo, .ref t].toArray s 0 0 A) (F0 m 154 ls []) := by
                        intro n
                        induction n with
                        | zero => intro i154 u154 w154; exact absurd w154 (by omega)
                        | succ n ih154 =>
                          intro i154 u154 w154  H locs ls hZ hS hl 
                          refine lv_iload hx hb dX18_reduce_154 (lv_at hl 0 rfl) ?_
                          refine lv_bipush (v := nI 16) hx hb dX18_reduce_156 (by decide +kernel) ?_
                          refine lv_icmp_ge (tgt := 184) hx hb dX18_reduce_158 (by decide) (fun c158 => ?_) (fun c158 => ?_)
                          · have e158 : 16 ≤ i154 := (nI_leI (a := 16) (b := i154) (by omega) (by omega)).mp c158
                            refine lv_iinc (v := nI (i82 + 1)) (lv' := [(6, .int (nI (i82 + 1))), (9, .int (nI i154)), (0, .ref th), (1, .ref to), (2, .ref mo), (3, .ref t), (4, .long v7_102)]) hx hb dX18_reduce_184 hl (k := 6) rfl (nI_add i82 1) (by decide) rfl (fun ls hl => ?_)
                            refine lv_goto (tgt := 82) hx hb dX18_reduce_187 (by decide) ?_
                            exact ih82 (i82 + 1) (by omega) (by omega) v7_102 _ _ _ hZ hS (lv_sub hl [0, 2, 3, 4, 5, 6] rfl) 
                          · have e158 : ¬ 16 ≤ i154 := fun q => c158 ((nI_leI (a := 16) (b := i154) (by omega) (by omega)).mpr q)
                            refine lv_aload_n hx hb dX18_reduce_161 rfl (lv_at hl 1 rfl) ?_
                            refine z_getP (own := RX18) (C := RX14) (TT := TX14) (N := 42) (ci := 15) (Ts := WR) hx hb hts zin_wsX140 hown hK hZ h_th k_th rfl 1 (by decide) (hts _ zw_197) (fun _ h9 => h9) f_th_1 dX18_reduce_162 ?_
                            refine lv_iload hx hb dX18_reduce_165 (lv_at hl 0 rfl) ?_
                            refine lv_dup2_11 hx hb dX18_reduce_167 rfl rfl ?_
                            refine z_lald hx hb hK hZ 1 h_sum k_sum rfl (vp_in_nI (by omega) (by omega)) dX18_reduce_168 (fun x5 => ?_)
                            refine lv_lload hx hb dX18_reduce_169 (lv_at hl 5 rfl) ?_
                            refine lv_aload_n hx hb dX18_reduce_171 rfl (lv_at hl 4 rfl) ?_
                            refine lv_iload hx hb dX18_reduce_172 (lv_at hl 0 rfl) ?_
                            refine z_lald hx hb hK hZ 1 h_t k_t rfl (vp_in_nI (by omega) (by omega)) dX18_reduce_174 (fun x6 => ?_)
                            refine lv_lmul hx hb dX18_reduce_175 ?_
                            refine lv_topl (fun x7 _ => ?_)
                            refine lv_ladd hx hb dX18_reduce_176 ?_
                            refine lv_topl (fun x8 _ => ?_)
                            refine z_last hx hb hK hZ hS 1 h_sum k_sum rfl (vp_in_nI (by omega) (by omega)) dX18_reduce_177 (fun H locs hZ hS => ?_)
                            refine lv_iinc (v := nI (i154 + 1)) (lv' := [(9, .int (nI (i154 + 1))), (0, .ref th), (1, .ref to), (2, .ref mo), (3, .ref t), (4, .long v7_102), (6, .int (nI i82))]) hx hb dX18_reduce_178 hl (k := 0) rfl (nI_add i154 1) (by decide) rfl (fun ls hl => ?_)
                            refine lv_goto (tgt := 154) hx hb dX18_reduce_181 (by decide) ?_
                            exact ih154 (i154 + 1) (by omega) (by omega)  _ _ _ hZ hS (lv_sub hl [0, 1, 2, 3, 4, 5, 6] rfl) 
                      exact L154 (16 + 1) 0 (by omega) (by omega)  _ _ _ hZ hS (lv_sub hl [0, 2, 3, 4, 5, 1, 6] rfl) 
                    · have e106 : ¬ 16 ≤ i102 := fun q => c106 ((nI_leI (a := 16) (b := i102) (by omega) (by omega)).mpr q)
                      refine lv_lload hx hb dX18_reduce_109 (lv_at hl 6 rfl) ?_
                      refine lv_aload_n hx hb dX18_reduce_111 rfl (lv_at hl 1 rfl) ?_
                      refine z_getP (own := RX18) (C := RX14) (TT := TX14) (N := 42) (ci := 15) (Ts := WR) hx hb hts zin_wsX140 hown hK hZ h_th k_th rfl 1 (by decide) (hts _ zw_197) (fun _ h9 => h9) f_th_1 dX18_reduce_112 ?_
                      refine lv_iload hx hb dX18_reduce_115 (lv_at hl 0 rfl) ?_
                      refine z_lald hx hb hK hZ 1 h_sum k_sum rfl (vp_in_nI (by omega) (by omega)) dX18_reduce_117 (fun x9 => ?_)
                      refine lv_ladd hx hb dX18_reduce_118 ?_
                      refine lv_topl (fun x10 _ => ?_)
                      refine lv_lstore (lv' := [(7, .long x10), (9, .int (nI i102)), (0, .ref th), (1, .ref to), (2, .ref mo), (3, .ref t), (6, .int (nI i82))]) hx hb dX18_reduce_119 hl (by decide) rfl (fun ls hl => ?_)
                      refine lv_aload_n hx hb dX18_reduce_121 rfl (lv_at hl 2 rfl) ?_
                      refine z_getP (own := RX18) (C := RX14) (TT := TX14) (N := 42) (ci := 15) (Ts := WR) hx hb hts zin_wsX140 hown hK hZ h_th k_th rfl 1 (by decide) (hts _ zw_197) (fun _ h9 => h9) f_th_1 dX18_reduce_122 ?_
                      refine lv_iload hx hb dX18_reduce_125 (lv_at hl 1 rfl) ?_
                      refine lv_lload hx hb dX18_reduce_127 (lv_at hl 0 rfl) ?_
                      refine lv_ldc2 (v := (65535)) hx hb hown (hts _ zw_203) dX18_reduce_129 ?_
                      refine lv_land hx hb dX18_reduce_132 ?_
                      refine lv_topl (fun x11 _ => ?_)
                      refine z_last hx hb hK hZ hS 1 h_sum k_sum rfl (vp_in_nI (by omega) (by omega)) dX18_reduce_133 (fun H locs hZ hS => ?_)
                      refine lv_lload hx hb dX18_reduce_134 (lv_at hl 0 rfl) ?_
                      refine lv_bipush (v := nI 16) hx hb dX18_reduce_136 (by decide +kernel) ?_
                      refine lv_lshr hx hb dX18_reduce_138 rfl ?_
                      refine lv_topl (fun x12 _ => ?_)
                      refine lv_lstore (lv' := [(7, .long x12), (9, .int (nI i102)), (0, .ref th), (1, .ref to), (2, .ref mo), (3, .ref t), (6, .int (nI i82))]) hx hb dX18_reduce_139 hl (by decide) rfl (fun ls hl => ?_)
                      refine lv_iinc (v := nI (i102 + 1)) (lv' := [(9, .int (nI (i102 + 1))), (7, .long x12), (0, .ref th), (1, .ref to), (2, .ref mo), (3, .ref t), (6, .int (nI i82))]) hx hb dX18_reduce_141 hl (k := 1) rfl (nI_add i102 1) (by decide) rfl (fun ls hl => ?_)
                      refine lv_goto (tgt := 102) hx hb dX18_reduce_144 (by decide) ?_
                      exact ih102 (i102 + 1) (by omega) (by omega) x12 _ _ _ hZ hS (lv_sub hl [0, 2, 3, 4, 5, 6, 1] rfl) 
                exact L102 (16 + 1) 0 (by omega) (by omega) 0 _ _ _ hZ hS (lv_sub hl [0, 3, 4, 5, 6, 2, 1] rfl) 
        exact L82 (9 + 1) 0 (by omega) (by omega) 1 _ _ _ hZ hS (lv_sub hl [0, 2, 3, 4, 5, 1] rfl) 
      · have e7 : ¬ 16 ≤ i3 := fun q => c7 ((nI_leI (a := 16) (b := i3) (by omega) (by omega)).mpr q)
        refine lv_aload_n hx hb dX18_reduce_10 rfl (lv_at hl 1 rfl) ?_
        refine z_getP (own := RX18) (C := RX14) (TT := TX14) (N := 42) (ci := 15) (Ts := WR) hx hb hts zin_wsX140 hown hK hZ h_th k_th rfl 0 (by decide) (hts _ zw_196) (fun _ h9 => h9) f_th_0 dX18_reduce_11 ?_
        refine lv_iload hx hb dX18_reduce_14 (lv_at hl 0 rfl) ?_
        refine z_lald hx hb hK hZ 1 h_product k_product rfl (vp_in_nI (by omega) (by omega)) dX18_reduce_16 (fun x13 => ?_)
        refine lv_lstore (lv' := [(5, .long x13), (4, .int (nI i3)), (0, .ref th), (1, .ref to), (2, .ref mo), (3, .ref t)]) hx hb dX18_reduce_17 hl (by decide) rfl (fun ls hl => ?_)
        refine lv_iconst (v := nI 0) hx hb dX18_reduce_19 (by decide +kernel) ?_
        refine lv_istore (lv' := [(7, .int (nI 0)), (5, .long x13), (4, .int (nI i3)), (0, .ref th), (1, .ref to), (2, .ref mo), (3, .ref t)]) hx hb dX18_reduce_20 hl (by decide) rfl (fun ls hl => ?_)
        have L22 : ∀ (n i22 : Nat), i22 ≤ 16 → 16 + 1 ≤ i22 + n → ∀ (v5_22 : Int64) (H : Heap) (locs : List Loc) (ls : Array Slot), zP D vwCl A X Y L T H → va_S A s.heap H locs → lv_has ls 10 [(7, .int (nI i22)), (0, .ref th), (1, .ref to), (2, .ref mo), (3, .ref t), (4, .int (nI i3)), (5, .long v5_22)] → W p l e ROOM_X18_reduce s m [.ref th, .ref to, .ref mo, .ref t].toArray below meth c H locs 0 0 (MQ below (va_Qv (zSame Y L T) (zB D vwCl (zT K) A X) A) [.ref th, .ref to, .ref mo, .ref t].toArray s 0 0 A) (F0 m 22 ls []) := by
          intro n
          induction n with
          | zero => intro i22 u22 w22; exact absurd w22 (by omega)
          | succ n ih22 =>
            intro i22 u22 w22 v5_22 H locs ls hZ hS hl 
            refine lv_iload hx hb dX18_reduce_22 (lv_at hl 0 rfl) ?_
            refine lv_bipush (v := nI 16) hx hb dX18_reduce_24 (by decide +kernel) ?_
            refine lv_icmp_ge (tgt := 61) hx hb dX18_reduce_26 (by decide) (fun c26 => ?_) (fun c26 => ?_)
            · have e26 : 16 ≤ i22 := (nI_leI (a := 16) (b := i22) (by omega) (by omega)).mp c26
              refine lv_aload_n hx hb dX18_reduce_61 rfl (lv_at hl 1 rfl) ?_
              refine z_getP (own := RX18) (C := RX14) (TT := TX14) (N := 42) (ci := 15) (Ts := WR) hx hb hts zin_wsX140 hown hK hZ h_th k_th rfl 1 (by decide) (hts _ zw_197) (fun _ h9 => h9) f_th_1 dX18_reduce_62 ?_
              refine lv_iload hx hb dX18_reduce_65 (lv_at hl 5 rfl) ?_
              refine lv_lload hx hb dX18_reduce_67 (lv_at hl 6 rfl) ?_
              refine z_last hx hb hK hZ hS 1 h_sum k_sum rfl (vp_in_nI (by omega) (by omega)) dX18_reduce_69 (fun H locs hZ hS => ?_)
              refine lv_iinc (v := nI (i3 + 1)) (lv' := [(4, .int (nI (i3 + 1))), (7, .int (nI i22)), (0, .ref th), (1, .ref to), (2, .ref mo), (3, .ref t), (5, .long v5_22)]) hx hb dX18_reduce_70 hl (k := 5) rfl (nI_add i3 1) (by decide) rfl (fun ls hl => ?_)
              refine lv_goto (tgt := 3) hx hb dX18_reduce_73 (by decide) ?_
              exact ih3 (i3 + 1) (by omega) (by omega)  _ _ _ hZ hS (lv_sub hl [0, 2, 3, 4, 5] rfl) 
            · have e26 : ¬ 16 ≤ i22 := fun q => c26 ((nI_leI (a := 16) (b := i22) (by omega) (by omega)).mpr q)
              refine lv_lload hx hb dX18_reduce_29 (lv_at hl 6 rfl) ?_
              refine lv_aload_n hx hb dX18_reduce_31 rfl (lv_at hl 1 rfl) ?_
              refine z_getP (own := RX18) (C := RX14) (TT := TX14) (N := 42) (ci := 15) (Ts := WR) hx hb hts zin_wsX140 hown hK hZ h_th k_th rfl 0 (by decide) (hts _ zw_196) (fun _ h9 => h9) f_th_0 dX18_reduce_32 ?_
              refine lv_bipush (v := nI 16) hx hb dX18_reduce_35 (by decide +kernel) ?_
              refine lv_iload hx hb dX18_reduce_37 (lv_at hl 0 rfl) ?_
              refine lv_iadd hx hb dX18_reduce_39 ?_
              refine lv_topi (fun x14 ex14 => ?_)
              obtain rfl : x14 = nI (16 + i22) := ex14.trans (nI_add 16 i22)
              refine z_lald hx hb hK hZ 1 h_product k_product rfl (vp_in_nI (by omega) (by omega)) dX18_reduce_40 (fun x15 => ?_)
              refine lv_aload_n hx hb dX18_reduce_41 rfl (lv_at hl 4 rfl) ?_
              refine lv_bipush (v := nI 16) hx hb dX18_reduce_42 (by decide +kernel) ?_
              refine lv_iload hx hb dX18_reduce_44 (lv_at hl 0 rfl) ?_
              refine lv_imul hx hb dX18_reduce_46 ?_
              refine lv_topi (fun x16 ex16 => ?_)
              obtain rfl : x16 = nI (16 * i22) := ex16.trans (pk_mul 16 i22)
              refine lv_iload hx hb dX18_reduce_47 (lv_at hl 5 rfl) ?_
              refine lv_iadd hx hb dX18_reduce_49 ?_
              refine lv_topi (fun x17 ex17 => ?_)
              obtain rfl : x17 = nI ((16 * i22) + i3) := ex17.trans (nI_add (16 * i22) i3)
              refine z_lald hx hb hK hZ 1 h_t k_t rfl (vp_in_nI (by omega) (by omega)) dX18_reduce_50 (fun x18 => ?_)
              refine lv_lmul hx hb dX18_reduce_51 ?_
              refine lv_topl (fun x19 _ => ?_)
              refine lv_ladd hx hb dX18_reduce_52 ?_
              refine lv_topl (fun x20 _ => ?_)
              refine lv_lstore (lv' := [(5, .long x20), (7, .int (nI i22)), (0, .ref th), (1, .ref to), (2, .ref mo), (3, .ref t), (4, .int (nI i3))]) hx hb dX18_reduce_53 hl (by decide) rfl (fun ls hl => ?_)
              refine lv_iinc (v := nI (i22 + 1)) (lv' := [(7, .int (nI (i22 + 1))), (5, .long x20), (0, .ref th), (1, .ref to), (2, .ref mo), (3, .ref t), (4, .int (nI i3))]) hx hb dX18_reduce_55 hl (k := 1) rfl (nI_add i22 1) (by decide) rfl (fun ls hl => ?_)
              refine lv_goto (tgt := 22) hx hb dX18_reduce_58 (by decide) ?_
              exact ih22 (i22 + 1) (by omega) (by omega) x20 _ _ _ hZ hS (lv_sub hl [0, 2, 3, 4, 5, 6, 1] rfl) 
        exact L22 (16 + 1) 0 (by omega) (by omega) x13 _ _ _ hZ hS (lv_sub hl [0, 3, 4, 5, 6, 2, 1] rfl) 
  exact L3 (16 + 1) 0 (by omega) (by omega)  _ _ _ hZ hS (lv_sub hl [0, 1, 2, 3, 4] rfl) 
abbrev ROOM_X18_times : Room := { frames := 3, cells := 0, slots := 0, locals := 56 }
set_option maxHeartbeats 4000000 in
set_option maxRecDepth 100000 in
/-- times -/
theorem c_X18_times (l : Launch) (D : va_G) (K : Nat → ClassId) (X Y : va_W) (L : List Nat) (T : Nat → va_E → Prop) {th : Nat} {vs_th : List Value} {product n_product : Nat} {sum n_sum : Nat} {to n_to : Nat} {aa n_aa : Nat} {bb n_bb : Nat} {mo n_mo : Nat} {t n_t : Nat}  (h_th : th ∈ L) (k_th : T th = zO 15 vs_th) (f_th_0 : vs_th[0]? = some (.ref product)) (h_product : product ∈ L) (k_product : T product = zJ (K 1) n_product) (b_product : 32 ≤ n_product ∧ n_product < 2147483648) (f_th_1 : vs_th[1]? = some (.ref sum)) (h_sum : sum ∈ L) (k_sum : T sum = zJ (K 1) n_sum) (b_sum : 18 ≤ n_sum ∧ n_sum < 2147483648) (h_to : to ∈ L) (k_to : T to = zJ (K 1) n_to) (b_to : 16 ≤ n_to ∧ n_to < 2147483648) (h_aa : aa ∈ L) (k_aa : T aa = zJ (K 1) n_aa) (b_aa : 16 ≤ n_aa ∧ n_aa < 2147483648) (h_bb : bb ∈ L) (k_bb : T bb = zJ (K 1) n_bb) (b_bb : 16 ≤ n_bb ∧ n_bb < 2147483648) (h_mo : mo ∈ L) (k_mo : T mo = zJ (K 1) n_mo) (b_mo : 16 ≤ n_mo ∧ n_mo < 2147483648) (h_t : t ∈ L) (k_t : T t = zJ (K 1) n_t) (b_t : 256 ≤ n_t ∧ n_t < 2147483648)  : zV l D vwCl (zT K) yX18_times (zws yX18_times cX18_times 10 none) ROOM_X18_times 0 0 [.ref th, .ref to, .ref aa, .ref bb, .ref mo, .ref t] X Y L T (zSame Y L T) := by
  refine z_ofW (Qc := fun A => va_Qv (zSame Y L T) (zB D vwCl (zT K) A X) A) (cc := cX18_times) (maxL := 10) (ret := none) (by decide +kernel) rfl (Nat.le_of_ble_eq_true rfl) ?_
  intro p e s m below meth c A ls hx hb hml hr hts hown hlocks hin hA hK hZ hS hl
  have hown : s.vm.findClass RX18 = some m.cls := hown
  have hts : ∀ w ∈ WR, w.before [.ref th, .ref to, .ref aa, .ref bb, .ref mo, .ref t].toArray s = true := fun w h => hts w (List.mem_cons_of_mem _ h)
  have hl : lv_has ls 10 [(0, .ref th), (1, .ref to), (2, .ref aa), (3, .ref bb), (4, .ref mo), (5, .ref t)] := hl
  obtain ⟨H, hH⟩ : ∃ H, H = s.heap := ⟨_, rfl⟩
  have hZ : zP D vwCl A X Y L T H := by rw [hH]; exact hZ
  obtain ⟨locs, hlc⟩ : ∃ q : List Loc, q = [] := ⟨_, rfl⟩
  have hS : va_S A s.heap H locs := by rw [hH, hlc]; exact hS
  suffices hW : W p l e ROOM_X18_times s m [.ref th, .ref to, .ref aa, .ref bb, .ref mo, .ref t].toArray below meth c H locs 0 0 (MQ below (va_Qv (zSame Y L T) (zB D vwCl (zT K) A X) A) [.ref th, .ref to, .ref aa, .ref bb, .ref mo, .ref t].toArray s 0 0 A) (F0 m 0 ls []) by rw [hH, hlc] at hW; exact hW
  clear hH hlc
  refine lv_iconst (v := nI 0) hx hb dX18_times_0 (by decide +kernel) ?_
  refine lv_istore (lv' := [(6, .int (nI 0)), (0, .ref th), (1, .ref to), (2, .ref aa), (3, .ref bb), (4, .ref mo), (5, .ref t)]) hx hb dX18_times_1 hl (by decide) rfl (fun ls hl => ?_)
  have L3 : ∀ (n i3 : Nat), i3 ≤ 32 → 32 + 1 ≤ i3 + n → ∀  (H : Heap) (locs : List Loc) (ls : Array Slot), zP D vwCl A X Y L T H → va_S A s.heap H locs → lv_has ls 10 [(6, .int (nI i3)), (0, .ref th), (1, .ref to), (2, .ref aa), (3, .ref bb), (4, .ref mo), (5, .ref t)] → W p l e ROOM_X18_times s m [.ref th, .ref to, .ref aa, .ref bb, .ref mo, .ref t].toArray below meth c H locs 0 0 (MQ below (va_Qv (zSame Y L T) (zB D vwCl (zT K) A X) A) [.ref th, .ref to, .ref aa, .ref bb, .ref mo, .ref t].toArray s 0 0 A) (F0 m 3 ls []) := by
    intro n
    induction n with
    | zero => intro i3 u3 w3; exact absurd w3 (by omega)
    | succ n ih3 =>
      intro i3 u3 w3  H locs ls hZ hS hl 
      refine lv_iload hx hb dX18_times_3 (lv_at hl 0 rfl) ?_
      refine lv_bipush (v := nI 32) hx hb dX18_times_5 (by decide +kernel) ?_
      refine lv_icmp_ge (tgt := 24) hx hb dX18_times_7 (by decide) (fun c7 => ?_) (fun c7 => ?_)
      · have e7 : 32 ≤ i3 := (nI_leI (a := 32) (b := i3) (by omega) (by omega)).mp c7
        refine lv_iconst (v := nI 0) hx hb dX18_times_24 (by decide +kernel) ?_
        refine lv_istore (lv' := [(6, .int (nI 0)), (0, .ref th), (1, .ref to), (2, .ref aa), (3, .ref bb), (4, .ref mo), (5, .ref t)]) hx hb dX18_times_25 hl (by decide) rfl (fun ls hl => ?_)
        have L27 : ∀ (n i27 : Nat), i27 ≤ 16 → 16 + 1 ≤ i27 + n → ∀  (H : Heap) (locs : List Loc) (ls : Array Slot), zP D vwCl A X Y L T H → va_S A s.heap H locs → lv_has ls 10 [(6, .int (nI i27)), (0, .ref th), (1, .ref to), (2, .ref aa), (3, .ref bb), (4, .ref mo), (5, .ref t)] → W p l e ROOM_X18_times s m [.ref th, .ref to, .ref aa, .ref bb, .ref mo, .ref t].toArray below meth c H locs 0 0 (MQ below (va_Qv (zSame Y L T) (zB D vwCl (zT K) A X) A) [.ref th, .ref to, .ref aa, .ref bb, .ref mo, .ref t].toArray s 0 0 A) (F0 m 27 ls []) := by
          intro n
          induction n with
          | zero => intro i27 u27 w27; exact absurd w27 (by omega)
          | succ n ih27 =>
            intro i27 u27 w27  H locs ls hZ hS hl 
            refine lv_iload hx hb dX18_times_27 (lv_at hl 0 rfl) ?_
            refine lv_bipush (v := nI 16) hx hb dX18_times_29 (by decide +kernel) ?_
            refine lv_icmp_ge (tgt := 119) hx hb dX18_times_31 (by decide) (fun c31 => ?_) (fun c31 => ?_)
            · have e31 : 16 ≤ i27 := (nI_leI (a := 16) (b := i27) (by omega) (by omega)).mp c31
              refine lv_aload_n hx hb dX18_times_119 rfl (lv_at hl 1 rfl) ?_
              refine lv_aload_n hx hb dX18_times_120 rfl (lv_at hl 2 rfl) ?_
              refine lv_aload hx hb dX18_times_121 (lv_at hl 5 rfl) ?_
              refine lv_aload hx hb dX18_times_123 (lv_at hl 6 rfl) ?_
              refine z_goV (va_runU (C := RX14) (owner := "ShellPairModel$Numbers") (x := ⟨"ShellPairModel$Numbers", "reduce", "([J[J[J)V"⟩) (As := [.ref to, .ref mo, .ref t]) (rest := []) ⟨hx, hb, hml, hown, hts⟩ ((c_X18_reduce l D K X Y L T h_th k_th f_th_0 h_product k_product ⟨by omega, by omega⟩ f_th_1 h_sum k_sum ⟨by omega, by omega⟩ h_to k_to ⟨by omega, by omega⟩ h_mo k_mo ⟨by omega, by omega⟩ h_t k_t ⟨by omega, by omega⟩) H.size) (va_cwU 3 hts (zg_U zw_210 zw_212 zw_211 zw_213 zw_66 zw_209) rfl rfl rfl rfl (by decide +kernel) ⟨Nat.le_of_ble_eq_true rfl, Nat.le_of_ble_eq_true rfl⟩) (z_preV hK hZ (z_recvP hK hZ h_th k_th rfl)) rfl rfl hl.1 rfl (lv_room (Nat.le_of_ble_eq_true rfl)) dX18_times_125 ⟨Nat.le_of_ble_eq_true rfl, Nat.le_of_ble_eq_true rfl⟩) hZ hS hA (fun  Y1 L1 T1 H locs hp hZ hS => ?_)
              cases hp
              exact z_vret hx hb hr hlocks hK hZ hS rfl (Nat.le_of_ble_eq_true rfl) (Nat.le_of_ble_eq_true rfl) dX18_times_128
            · have e31 : ¬ 16 ≤ i27 := fun q => c31 ((nI_leI (a := 16) (b := i27) (by omega) (by omega)).mpr q)
              refine lv_lconst (v := 0) hx hb dX18_times_34 (by decide +kernel) ?_
              refine lv_lstore (lv' := [(7, .long 0), (6, .int (nI i27)), (0, .ref th), (1, .ref to), (2, .ref aa), (3, .ref bb), (4, .ref mo), (5, .ref t)]) hx hb dX18_times_35 hl (by decide) rfl (fun ls hl => ?_)
              refine lv_iconst (v := nI 0) hx hb dX18_times_37 (by decide +kernel) ?_
              refine lv_istore (lv' := [(9, .int (nI 0)), (7, .long 0), (6, .int (nI i27)), (0, .ref th), (1, .ref to), (2, .ref aa), (3, .ref bb), (4, .ref mo), (5, .ref t)]) hx hb dX18_times_38 hl (by decide) rfl (fun ls hl => ?_)
              have L40 : ∀ (n i40 : Nat), i40 ≤ 16 → 16 + 1 ≤ i40 + n → ∀ (v7_40 : Int64) (H : Heap) (locs : List Loc) (ls : Array Slot), zP D vwCl A X Y L T H → va_S A s.heap H locs → lv_has ls 10 [(9, .int (nI i40)), (0, .ref th), (1, .ref to), (2, .ref aa), (3, .ref bb), (4, .ref mo), (5, .ref t), (6, .int (nI i27)), (7, .long v7_40)] → W p l e ROOM_X18_times s m [.ref th, .ref to, .ref aa, .ref bb, .ref mo, .ref t].toArray below meth c H locs 0 0 (MQ below (va_Qv (zSame Y L T) (zB D vwCl (zT K) A X) A) [.ref th, .ref to, .ref aa, .ref bb, .ref mo, .ref t].toArray s 0 0 A) (F0 m 40 ls []) := by
                intro n
                induction n with
                | zero => intro i40 u40 w40; exact absurd w40 (by omega)
                | succ n ih40 =>
                  intro i40 u40 w40 v7_40 H locs ls hZ hS hl 
                  refine lv_iload hx hb dX18_times_40 (lv_at hl 0 rfl) ?_
                  refine lv_bipush (v := nI 16) hx hb dX18_times_42 (by decide +kernel) ?_
                  refine lv_icmp_ge (tgt := 101) hx hb dX18_times_44 (by decide) (fun c44 => ?_) (fun c44 => ?_)
                  · have e44 : 16 ≤ i40 := (nI_leI (a := 16) (b := i40) (by omega) (by omega)).mp c44
                    refine lv_aload_n hx hb dX18_times_101 rfl (lv_at hl 1 rfl) ?_
                    refine z_getP (own := RX18) (C := RX14) (TT := TX14) (N := 42) (ci := 15) (Ts := WR) hx hb hts zin_wsX140 hown hK hZ h_th k_th rfl 0 (by decide) (hts _ zw_196) (fun _ h9 => h9) f_th_0 dX18_times_102 ?_
                    refine lv_iload hx hb dX18_times_105 (lv_at hl 7 rfl) ?_
                    refine lv_bipush (v := nI 16) hx hb dX18_times_107 (by decide +kernel) ?_
                    refine lv_iadd hx hb dX18_times_109 ?_
                    refine lv_topi (fun x2 ex2 => ?_)
                    obtain rfl : x2 = nI (i27 + 16) := ex2.trans (nI_add i27 16)
                    refine lv_lload hx hb dX18_times_110 (lv_at hl 8 rfl) ?_
                    refine z_last hx hb hK hZ hS 1 h_product k_product rfl (vp_in_nI (by omega) (by omega)) dX18_times_112 (fun H locs hZ hS => ?_)
                    refine lv_iinc (v := nI (i27 + 1)) (lv' := [(6, .int (nI (i27 + 1))), (9, .int (nI i40)), (0, .ref th), (1, .ref to), (2, .ref aa), (3, .ref bb), (4, .ref mo), (5, .ref t), (7, .long v7_40)]) hx hb dX18_times_113 hl (k := 7) rfl (nI_add i27 1) (by decide) rfl (fun ls hl => ?_)
                    refine lv_goto (tgt := 27) hx hb dX18_times_116 (by decide) ?_
                    exact ih27 (i27 + 1) (by omega) (by omega)  _ _ _ hZ hS (lv_sub hl [0, 2, 3, 4, 5, 6, 7] rfl) 
                  · have e44 : ¬ 16 ≤ i40 := fun q => c44 ((nI_leI (a := 16) (b := i40) (by omega) (by omega)).mpr q)
                    refine lv_lload hx hb dX18_times_47 (lv_at hl 8 rfl) ?_
                    refine lv_aload_n hx hb dX18_times_49 rfl (lv_at hl 1 rfl) ?_
                    refine z_getP (own := RX18) (C := RX14) (TT := TX14) (N := 42) (ci := 15) (Ts := WR) hx hb hts zin_wsX140 hown hK hZ h_th k_th rfl 0 (by decide) (hts _ zw_196) (fun _ h9 => h9) f_th_0 dX18_times_50 ?_
                    refine lv_iload hx hb dX18_times_53 (lv_at hl 7 rfl) ?_
                    refine lv_iload hx hb dX18_times_55 (lv_at hl 0 rfl) ?_
                    refine lv_iadd hx hb dX18_times_57 ?_
                    refine lv_topi (fun x3 ex3 => ?_)
                    obtain rfl : x3 = nI (i27 + i40) := ex3.trans (nI_add i27 i40)
                    refine z_lald hx hb hK hZ 1 h_product k_product rfl (vp_in_nI (by omega) (by omega)) dX18_times_58 (fun x4 => ?_)
                    refine lv_aload_n hx hb dX18_times_59 rfl (lv_at hl 3 rfl) ?_
                    refine lv_iload hx hb dX18_times_60 (lv_at hl 7 rfl) ?_
                    refine z_lald hx hb hK hZ 1 h_aa k_aa rfl (vp_in_nI (by omega) (by omega)) dX18_times_62 (fun x5 => ?_)
                    refine lv_aload_n hx hb dX18_times_63 rfl (lv_at hl 4 rfl) ?_
                    refine lv_iload hx hb dX18_times_64 (lv_at hl 0 rfl) ?_
                    refine z_lald hx hb hK hZ 1 h_bb k_bb rfl (vp_in_nI (by omega) (by omega)) dX18_times_66 (fun x6 => ?_)
                    refine lv_lmul hx hb dX18_times_67 ?_
                    refine lv_topl (fun x7 _ => ?_)
                    refine lv_ladd hx hb dX18_times_68 ?_
                    refine lv_topl (fun x8 _ => ?_)
                    refine lv_ladd hx hb dX18_times_69 ?_
                    refine lv_topl (fun x9 _ => ?_)
                    refine lv_lstore (lv' := [(7, .long x9), (9, .int (nI i40)), (0, .ref th), (1, .ref to), (2, .ref aa), (3, .ref bb), (4, .ref mo), (5, .ref t), (6, .int (nI i27))]) hx hb dX18_times_70 hl (by decide) rfl (fun ls hl => ?_)
                    refine lv_aload_n hx hb dX18_times_72 rfl (lv_at hl 2 rfl) ?_
                    refine z_getP (own := RX18) (C := RX14) (TT := TX14) (N := 42) (ci := 15) (Ts := WR) hx hb hts zin_wsX140 hown hK hZ h_th k_th rfl 0 (by decide) (hts _ zw_196) (fun _ h9 => h9) f_th_0 dX18_times_73 ?_
                    refine lv_iload hx hb dX18_times_76 (lv_at hl 8 rfl) ?_
                    refine lv_iload hx hb dX18_times_78 (lv_at hl 1 rfl) ?_
                    refine lv_iadd hx hb dX18_times_80 ?_
                    refine lv_topi (fun x10 ex10 => ?_)
                    obtain rfl : x10 = nI (i27 + i40) := ex10.trans (nI_add i27 i40)
                    refine lv_lload hx hb dX18_times_81 (lv_at hl 0 rfl) ?_
                    refine lv_ldc2 (v := (65535)) hx hb hown (hts _ zw_203) dX18_times_83 ?_
                    refine lv_land hx hb dX18_times_86 ?_
                    refine lv_topl (fun x11 _ => ?_)
                    refine z_last hx hb hK hZ hS 1 h_product k_product rfl (vp_in_nI (by omega) (by omega)) dX18_times_87 (fun H locs hZ hS => ?_)
                    refine lv_lload hx hb dX18_times_88 (lv_at hl 0 rfl) ?_
                    refine lv_bipush (v := nI 16) hx hb dX18_times_90 (by decide +kernel) ?_
                    refine lv_lshr hx hb dX18_times_92 rfl ?_
                    refine lv_topl (fun x12 _ => ?_)
                    refine lv_lstore (lv' := [(7, .long x12), (9, .int (nI i40)), (0, .ref th), (1, .ref to), (2, .ref aa), (3, .ref bb), (4, .ref mo), (5, .ref t), (6, .int (nI i27))]) hx hb dX18_times_93 hl (by decide) rfl (fun ls hl => ?_)
                    refine lv_iinc (v := nI (i40 + 1)) (lv' := [(9, .int (nI (i40 + 1))), (7, .long x12), (0, .ref th), (1, .ref to), (2, .ref aa), (3, .ref bb), (4, .ref mo), (5, .ref t), (6, .int (nI i27))]) hx hb dX18_times_95 hl (k := 1) rfl (nI_add i40 1) (by decide) rfl (fun ls hl => ?_)
                    refine lv_goto (tgt := 40) hx hb dX18_times_98 (by decide) ?_
                    exact ih40 (i40 + 1) (by omega) (by omega) x12 _ _ _ hZ hS (lv_sub hl [0, 2, 3, 4, 5, 6, 7, 8, 1] rfl) 
              exact L40 (16 + 1) 0 (by omega) (by omega) 0 _ _ _ hZ hS (lv_sub hl [0, 3, 4, 5, 6, 7, 8, 2, 1] rfl) 
        exact L27 (16 + 1) 0 (by omega) (by omega)  _ _ _ hZ hS (lv_sub hl [0, 1, 2, 3, 4, 5, 6] rfl) 
      · have e7 : ¬ 32 ≤ i3 := fun q => c7 ((nI_leI (a := 32) (b := i3) (by omega) (by omega)).mpr q)
        refine lv_aload_n hx hb dX18_times_10 rfl (lv_at hl 1 rfl) ?_
        refine z_getP (own := RX18) (C := RX14) (TT := TX14) (N := 42) (ci := 15) (Ts := WR) hx hb hts zin_wsX140 hown hK hZ h_th k_th rfl 0 (by decide) (hts _ zw_196) (fun _ h9 => h9) f_th_0 dX18_times_11 ?_
        refine lv_iload hx hb dX18_times_14 (lv_at hl 0 rfl) ?_
        refine lv_lconst (v := 0) hx hb dX18_times_16 (by decide +kernel) ?_
        refine z_last hx hb hK hZ hS 1 h_product k_product rfl (vp_in_nI (by omega) (by omega)) dX18_times_17 (fun H locs hZ hS => ?_)
        refine lv_iinc (v := nI (i3 + 1)) (lv' := [(6, .int (nI (i3 + 1))), (0, .ref th), (1, .ref to), (2, .ref aa), (3, .ref bb), (4, .ref mo), (5, .ref t)]) hx hb dX18_times_18 hl (k := 0) rfl (nI_add i3 1) (by decide) rfl (fun ls hl => ?_)
        refine lv_goto (tgt := 3) hx hb dX18_times_21 (by decide) ?_
        exact ih3 (i3 + 1) (by omega) (by omega)  _ _ _ hZ hS (lv_sub hl [0, 1, 2, 3, 4, 5, 6] rfl) 
  exact L3 (32 + 1) 0 (by omega) (by omega)  _ _ _ hZ hS (lv_sub hl [0, 1, 2, 3, 4, 5, 6] rfl) 
abbrev ROOM_X18_inverse : Room := { frames := 2, cells := 0, slots := 0, locals := 28 }
set_option maxHeartbeats 4000000 in
set_option maxRecDepth 100000 in
/-- inverse -/
theorem c_X18_inverse (l : Launch) (D : va_G) (K : Nat → ClassId) (X Y : va_W) (L : List Nat) (T : Nat → va_E → Prop) {th : Nat} {vs_th : List Value} {u n_u : Nat} {v n_v : Nat} {x1 n_x1 : Nat} {x2 n_x2 : Nat} {to n_to : Nat} {aa n_aa : Nat} {mo n_mo : Nat}  (h_th : th ∈ L) (k_th : T th = zO 15 vs_th) (f_th_2 : vs_th[2]? = some (.ref u)) (h_u : u ∈ L) (k_u : T u = zJ (K 1) n_u) (b_u : 16 ≤ n_u ∧ n_u < 2147483648) (f_th_3 : vs_th[3]? = some (.ref v)) (h_v : v ∈ L) (k_v : T v = zJ (K 1) n_v) (b_v : 16 ≤ n_v ∧ n_v < 2147483648) (f_th_4 : vs_th[4]? = some (.ref x1)) (h_x1 : x1 ∈ L) (k_x1 : T x1 = zJ (K 1) n_x1) (b_x1 : 17 ≤ n_x1 ∧ n_x1 < 2147483648) (f_th_5 : vs_th[5]? = some (.ref x2)) (h_x2 : x2 ∈ L) (k_x2 : T x2 = zJ (K 1) n_x2) (b_x2 : 17 ≤ n_x2 ∧ n_x2 < 2147483648) (h_to : to ∈ L) (k_to : T to = zJ (K 1) n_to) (b_to : 16 ≤ n_to ∧ n_to < 2147483648) (h_aa : aa ∈ L) (k_aa : T aa = zJ (K 1) n_aa) (b_aa : 16 ≤ n_aa ∧ n_aa < 2147483648) (h_mo : mo ∈ L) (k_mo : T mo = zJ (K 1) n_mo) (b_mo : 16 ≤ n_mo ∧ n_mo < 2147483648)  : zV l D vwCl (zT K) yX18_inverse (zws yX18_inverse cX18_inverse 5 none) ROOM_X18_inverse 0 0 [.ref th, .ref to, .ref aa, .ref mo] X Y L T (zSame Y L T) := by
  refine z_ofW (Qc := fun A => va_Qv (zSame Y L T) (zB D vwCl (zT K) A X) A) (cc := cX18_inverse) (maxL := 5) (ret := none) (by decide +kernel) rfl (Nat.le_of_ble_eq_true rfl) ?_
  intro p e s m below meth c A ls hx hb hml hr hts hown hlocks hin hA hK hZ hS hl
  have hown : s.vm.findClass RX18 = some m.cls := hown
  have hts : ∀ w ∈ WR, w.before [.ref th, .ref to, .ref aa, .ref mo].toArray s = true := fun w h => hts w (List.mem_cons_of_mem _ h)
  have hl : lv_has ls 5 [(0, .ref th), (1, .ref to), (2, .ref aa), (3, .ref mo)] := hl
  obtain ⟨H, hH⟩ : ∃ H, H = s.heap := ⟨_, rfl⟩
  have hZ : zP D vwCl A X Y L T H := by rw [hH]; exact hZ
  obtain ⟨locs, hlc⟩ : ∃ q : List Loc, q = [] := ⟨_, rfl⟩
  have hS : va_S A s.heap H locs := by rw [hH, hlc]; exact hS
  suffices hW : W p l e ROOM_X18_inverse s m [.ref th, .ref to, .ref aa, .ref mo].toArray below meth c H locs 0 0 (MQ below (va_Qv (zSame Y L T) (zB D vwCl (zT K) A X) A) [.ref th, .ref to, .ref aa, .ref mo].toArray s 0 0 A) (F0 m 0 ls []) by rw [hH, hlc] at hW; exact hW
  clear hH hlc
  refine lv_aload_n hx hb dX18_inverse_0 rfl (lv_at hl 0 rfl) ?_
  refine z_getP (own := RX18) (C := RX14) (TT := TX14) (N := 42) (ci := 15) (Ts := WR) hx hb hts zin_wsX140 hown hK hZ h_th k_th rfl 2 (by decide) (hts _ zw_198) (fun _ h9 => h9) f_th_2 dX18_inverse_1 ?_
  refine lv_aload_n hx hb dX18_inverse_4 rfl (lv_at hl 2 rfl) ?_
  refine z_goV (va_runS (As := [.ref u, .ref aa]) (rest := []) ⟨hx, hb, hml, hown, hts⟩ ((c_X18_copy l D K X Y L T h_u k_u ⟨by omega, by omega⟩ h_aa k_aa ⟨by omega, by omega⟩) H.size) (va_cwS 2 hts (zg_S zw_218 zw_102 zw_66 zw_103) rfl rfl rfl (by decide +kernel) ⟨Nat.le_of_ble_eq_true rfl, Nat.le_of_ble_eq_true rfl⟩) (z_preS hK hZ) rfl rfl hl.1 rfl (lv_room (Nat.le_of_ble_eq_true rfl)) dX18_inverse_5 ⟨Nat.le_of_ble_eq_true rfl, Nat.le_of_ble_eq_true rfl⟩) hZ hS hA (fun  Y1 L1 T1 H locs hp hZ hS => ?_)
  cases hp
  refine lv_aload_n hx hb dX18_inverse_8 rfl (lv_at hl 0 rfl) ?_
  refine z_getP (own := RX18) (C := RX14) (TT := TX14) (N := 42) (ci := 15) (Ts := WR) hx hb hts zin_wsX140 hown hK hZ h_th k_th rfl 3 (by decide) (hts _ zw_199) (fun _ h9 => h9) f_th_3 dX18_inverse_9 ?_
  refine lv_aload_n hx hb dX18_inverse_12 rfl (lv_at hl 3 rfl) ?_
  refine z_goV (va_runS (As := [.ref v, .ref mo]) (rest := []) ⟨hx, hb, hml, hown, hts⟩ ((c_X18_copy l D K X Y L T h_v k_v ⟨by omega, by omega⟩ h_mo k_mo ⟨by omega, by omega⟩) H.size) (va_cwS 2 hts (zg_S zw_218 zw_102 zw_66 zw_103) rfl rfl rfl (by decide +kernel) ⟨Nat.le_of_ble_eq_true rfl, Nat.le_of_ble_eq_true rfl⟩) (z_preS hK hZ) rfl rfl hl.1 rfl (lv_room (Nat.le_of_ble_eq_true rfl)) dX18_inverse_13 ⟨Nat.le_of_ble_eq_true rfl, Nat.le_of_ble_eq_true rfl⟩) hZ hS hA (fun  Y1 L1 T1 H locs hp hZ hS => ?_)
  cases hp
  refine lv_aload_n hx hb dX18_inverse_16 rfl (lv_at hl 0 rfl) ?_
  refine z_getP (own := RX18) (C := RX14) (TT := TX14) (N := 42) (ci := 15) (Ts := WR) hx hb hts zin_wsX140 hown hK hZ h_th k_th rfl 4 (by decide) (hts _ zw_200) (fun _ h9 => h9) f_th_4 dX18_inverse_17 ?_
  refine lv_iconst (v := nI 1) hx hb dX18_inverse_20 (by decide +kernel) ?_
  refine z_goV (va_runS (As := [.ref x1, .int (nI 1)]) (rest := []) ⟨hx, hb, hml, hown, hts⟩ ((c_X18_set l D K X Y L T h_x1 k_x1 ⟨by omega, by omega⟩) H.size) (va_cwS 2 hts (zg_S zw_207 zw_71 zw_66 zw_72) rfl rfl rfl (by decide +kernel) ⟨Nat.le_of_ble_eq_true rfl, Nat.le_of_ble_eq_true rfl⟩) (z_preS hK hZ) rfl rfl hl.1 rfl (lv_room (Nat.le_of_ble_eq_true rfl)) dX18_inverse_21 ⟨Nat.le_of_ble_eq_true rfl, Nat.le_of_ble_eq_true rfl⟩) hZ hS hA (fun  Y1 L1 T1 H locs hp hZ hS => ?_)
  cases hp
  refine lv_aload_n hx hb dX18_inverse_24 rfl (lv_at hl 0 rfl) ?_
  refine z_getP (own := RX18) (C := RX14) (TT := TX14) (N := 42) (ci := 15) (Ts := WR) hx hb hts zin_wsX140 hown hK hZ h_th k_th rfl 5 (by decide) (hts _ zw_201) (fun _ h9 => h9) f_th_5 dX18_inverse_25 ?_
  refine lv_iconst (v := nI 0) hx hb dX18_inverse_28 (by decide +kernel) ?_
  refine z_goV (va_runS (As := [.ref x2, .int (nI 0)]) (rest := []) ⟨hx, hb, hml, hown, hts⟩ ((c_X18_set l D K X Y L T h_x2 k_x2 ⟨by omega, by omega⟩) H.size) (va_cwS 2 hts (zg_S zw_207 zw_71 zw_66 zw_72) rfl rfl rfl (by decide +kernel) ⟨Nat.le_of_ble_eq_true rfl, Nat.le_of_ble_eq_true rfl⟩) (z_preS hK hZ) rfl rfl hl.1 rfl (lv_room (Nat.le_of_ble_eq_true rfl)) dX18_inverse_29 ⟨Nat.le_of_ble_eq_true rfl, Nat.le_of_ble_eq_true rfl⟩) hZ hS hA (fun  Y1 L1 T1 H locs hp hZ hS => ?_)
  cases hp
  refine lv_aload_n hx hb dX18_inverse_32 rfl (lv_at hl 0 rfl) ?_
  refine z_getP (own := RX18) (C := RX14) (TT := TX14) (N := 42) (ci := 15) (Ts := WR) hx hb hts zin_wsX140 hown hK hZ h_th k_th rfl 4 (by decide) (hts _ zw_200) (fun _ h9 => h9) f_th_4 dX18_inverse_33 ?_
  refine lv_bipush (v := nI 16) hx hb dX18_inverse_36 (by decide +kernel) ?_
  refine lv_lconst (v := 0) hx hb dX18_inverse_38 (by decide +kernel) ?_
  refine z_last hx hb hK hZ hS 1 h_x1 k_x1 rfl (vp_in_nI (by omega) (by omega)) dX18_inverse_39 (fun H locs hZ hS => ?_)
  refine lv_aload_n hx hb dX18_inverse_40 rfl (lv_at hl 0 rfl) ?_
  refine z_getP (own := RX18) (C := RX14) (TT := TX14) (N := 42) (ci := 15) (Ts := WR) hx hb hts zin_wsX140 hown hK hZ h_th k_th rfl 5 (by decide) (hts _ zw_201) (fun _ h9 => h9) f_th_5 dX18_inverse_41 ?_
  refine lv_bipush (v := nI 16) hx hb dX18_inverse_44 (by decide +kernel) ?_
  refine lv_lconst (v := 0) hx hb dX18_inverse_46 (by decide +kernel) ?_
  refine z_last hx hb hK hZ hS 1 h_x2 k_x2 rfl (vp_in_nI (by omega) (by omega)) dX18_inverse_47 (fun H locs hZ hS => ?_)
  have J233 : ∀  (H : Heap) (locs : List Loc) (ls : Array Slot), zP D vwCl A X Y L T H → va_S A s.heap H locs → lv_has ls 5 [(0, .ref th), (1, .ref to), (2, .ref aa), (3, .ref mo)] → W p l e ROOM_X18_inverse s m [.ref th, .ref to, .ref aa, .ref mo].toArray below meth c H locs 0 0 (MQ below (va_Qv (zSame Y L T) (zB D vwCl (zT K) A X) A) [.ref th, .ref to, .ref aa, .ref mo].toArray s 0 0 A) (F0 m 233 ls []) := by
    intro  H locs ls hZ hS hl 
    refine lv_aload_n hx hb dX18_inverse_233 rfl (lv_at hl 2 rfl) ?_
    refine z_goI (va_runS (As := [.ref aa]) (rest := []) ⟨hx, hb, hml, hown, hts⟩ ((c_X18_zero l D K X Y L T h_aa k_aa ⟨by omega, by omega⟩) H.size) (va_cwS 1 hts (zg_S zw_219 zw_124 zw_66 zw_125) rfl rfl rfl (by decide +kernel) ⟨Nat.le_of_ble_eq_true rfl, Nat.le_of_ble_eq_true rfl⟩) (z_preS hK hZ) rfl rfl hl.1 rfl (lv_room (Nat.le_of_ble_eq_true rfl)) dX18_inverse_234 ⟨Nat.le_of_ble_eq_true rfl, Nat.le_of_ble_eq_true rfl⟩) hZ hS hA (fun x5 Y1 L1 T1 H locs hp hZ hS => ?_)
    cases hp
    refine lv_if_eq (tgt := 248) hx hb dX18_inverse_237 (by decide) (fun c237 => ?_) (fun c237 => ?_)
    · refine lv_aload_n hx hb dX18_inverse_248 rfl (lv_at hl 1 rfl) ?_
      refine lv_aload_n hx hb dX18_inverse_249 rfl (lv_at hl 0 rfl) ?_
      refine z_getP (own := RX18) (C := RX14) (TT := TX14) (N := 42) (ci := 15) (Ts := WR) hx hb hts zin_wsX140 hown hK hZ h_th k_th rfl 2 (by decide) (hts _ zw_198) (fun _ h9 => h9) f_th_2 dX18_inverse_250 ?_
      refine z_goI (va_runS (As := [.ref u]) (rest := [.ref to]) ⟨hx, hb, hml, hown, hts⟩ ((c_X18_one l D K X Y L T h_u k_u ⟨by omega, by omega⟩) H.size) (va_cwS 1 hts (zg_S zw_220 zw_221 zw_66 zw_217) rfl rfl rfl (by decide +kernel) ⟨Nat.le_of_ble_eq_true rfl, Nat.le_of_ble_eq_true rfl⟩) (z_preS hK hZ) rfl rfl hl.1 rfl (lv_room (Nat.le_of_ble_eq_true rfl)) dX18_inverse_253 ⟨Nat.le_of_ble_eq_true rfl, Nat.le_of_ble_eq_true rfl⟩) hZ hS hA (fun x6 Y1 L1 T1 H locs hp hZ hS => ?_)
      cases hp
      refine lv_if_eq (tgt := 266) hx hb dX18_inverse_256 (by decide) (fun c256 => ?_) (fun c256 => ?_)
      · refine lv_aload_n hx hb dX18_inverse_266 rfl (lv_at hl 0 rfl) ?_
        refine z_getP (own := RX18) (C := RX14) (TT := TX14) (N := 42) (ci := 15) (Ts := WR) hx hb hts zin_wsX140 hown hK hZ h_th k_th rfl 5 (by decide) (hts _ zw_201) (fun _ h9 => h9) f_th_5 dX18_inverse_267 ?_
        refine z_goV (va_runS (As := [.ref to, .ref x2]) (rest := []) ⟨hx, hb, hml, hown, hts⟩ ((c_X18_copy l D K X Y L T h_to k_to ⟨by omega, by omega⟩ h_x2 k_x2 ⟨by omega, by omega⟩) H.size) (va_cwS 2 hts (zg_S zw_218 zw_102 zw_66 zw_103) rfl rfl rfl (by decide +kernel) ⟨Nat.le_of_ble_eq_true rfl, Nat.le_of_ble_eq_true rfl⟩) (z_preS hK hZ) rfl rfl hl.1 rfl (lv_room (Nat.le_of_ble_eq_true rfl)) dX18_inverse_270 ⟨Nat.le_of_ble_eq_true rfl, Nat.le_of_ble_eq_true rfl⟩) hZ hS hA (fun  Y1 L1 T1 H locs hp hZ hS => ?_)
        cases hp
        exact z_vret hx hb hr hlocks hK hZ hS rfl (Nat.le_of_ble_eq_true rfl) (Nat.le_of_ble_eq_true rfl) dX18_inverse_273
      · refine lv_aload_n hx hb dX18_inverse_259 rfl (lv_at hl 0 rfl) ?_
        refine z_getP (own := RX18) (C := RX14) (TT := TX14) (N := 42) (ci := 15) (Ts := WR) hx hb hts zin_wsX140 hown hK hZ h_th k_th rfl 4 (by decide) (hts _ zw_200) (fun _ h9 => h9) f_th_4 dX18_inverse_260 ?_
        refine lv_goto (tgt := 270) hx hb dX18_inverse_263 (by decide) ?_
        refine z_goV (va_runS (As := [.ref to, .ref x1]) (rest := []) ⟨hx, hb, hml, hown, hts⟩ ((c_X18_copy l D K X Y L T h_to k_to ⟨by omega, by omega⟩ h_x1 k_x1 ⟨by omega, by omega⟩) H.size) (va_cwS 2 hts (zg_S zw_218 zw_102 zw_66 zw_103) rfl rfl rfl (by decide +kernel) ⟨Nat.le_of_ble_eq_true rfl, Nat.le_of_ble_eq_true rfl⟩) (z_preS hK hZ) rfl rfl hl.1 rfl (lv_room (Nat.le_of_ble_eq_true rfl)) dX18_inverse_270 ⟨Nat.le_of_ble_eq_true rfl, Nat.le_of_ble_eq_true rfl⟩) hZ hS hA (fun  Y1 L1 T1 H locs hp hZ hS => ?_)
        cases hp
        exact z_vret hx hb hr hlocks hK hZ hS rfl (Nat.le_of_ble_eq_true rfl) (Nat.le_of_ble_eq_true rfl) dX18_inverse_273
    · refine lv_aload_n hx hb dX18_inverse_240 rfl (lv_at hl 1 rfl) ?_
      refine lv_iconst (v := nI 0) hx hb dX18_inverse_241 (by decide +kernel) ?_
      refine z_goV (va_runS (As := [.ref to, .int (nI 0)]) (rest := []) ⟨hx, hb, hml, hown, hts⟩ ((c_X18_set l D K X Y L T h_to k_to ⟨by omega, by omega⟩) H.size) (va_cwS 2 hts (zg_S zw_207 zw_71 zw_66 zw_72) rfl rfl rfl (by decide +kernel) ⟨Nat.le_of_ble_eq_true rfl, Nat.le_of_ble_eq_true rfl⟩) (z_preS hK hZ) rfl rfl hl.1 rfl (lv_room (Nat.le_of_ble_eq_true rfl)) dX18_inverse_242 ⟨Nat.le_of_ble_eq_true rfl, Nat.le_of_ble_eq_true rfl⟩) hZ hS hA (fun  Y1 L1 T1 H locs hp hZ hS => ?_)
      cases hp
      refine lv_goto (tgt := 273) hx hb dX18_inverse_245 (by decide) ?_
      exact z_vret hx hb hr hlocks hK hZ hS rfl (Nat.le_of_ble_eq_true rfl) (Nat.le_of_ble_eq_true rfl) dX18_inverse_273
  refine lv_iconst (v := nI 0) hx hb dX18_inverse_48 (by decide +kernel) ?_
  refine lv_istore (lv' := [(4, .int (nI 0)), (0, .ref th), (1, .ref to), (2, .ref aa), (3, .ref mo)]) hx hb dX18_inverse_49 hl (by decide) rfl (fun ls hl => ?_)
  have L51 : ∀ (n i51 : Nat), i51 ≤ 1100 → 1100 + 1 ≤ i51 + n → ∀  (H : Heap) (locs : List Loc) (ls : Array Slot), zP D vwCl A X Y L T H → va_S A s.heap H locs → lv_has ls 5 [(4, .int (nI i51)), (0, .ref th), (1, .ref to), (2, .ref aa), (3, .ref mo)] → W p l e ROOM_X18_inverse s m [.ref th, .ref to, .ref aa, .ref mo].toArray below meth c H locs 0 0 (MQ below (va_Qv (zSame Y L T) (zB D vwCl (zT K) A X) A) [.ref th, .ref to, .ref aa, .ref mo].toArray s 0 0 A) (F0 m 51 ls []) := by
    intro n
    induction n with
    | zero => intro i51 u51 w51; exact absurd w51 (by omega)
    | succ n ih51 =>
      intro i51 u51 w51  H locs ls hZ hS hl 
      refine lv_iload hx hb dX18_inverse_51 (lv_at hl 0 rfl) ?_
      refine lv_sipush (v := nI 1100) hx hb dX18_inverse_53 (by decide +kernel) ?_
      refine lv_icmp_ge (tgt := 233) hx hb dX18_inverse_56 (by decide) (fun c56 => ?_) (fun c56 => ?_)
      · have e56 : 1100 ≤ i51 := (nI_leI (a := 1100) (b := i51) (by omega) (by omega)).mp c56
        exact J233   _ _ _ hZ hS (lv_sub hl [1, 2, 3, 4] rfl) 
      · have e56 : ¬ 1100 ≤ i51 := fun q => c56 ((nI_leI (a := 1100) (b := i51) (by omega) (by omega)).mpr q)
        have J227 : ∀  (H : Heap) (locs : List Loc) (ls : Array Slot), zP D vwCl A X Y L T H → va_S A s.heap H locs → lv_has ls 5 [(0, .ref th), (1, .ref to), (2, .ref aa), (3, .ref mo), (4, .int (nI i51))] → W p l e ROOM_X18_inverse s m [.ref th, .ref to, .ref aa, .ref mo].toArray below meth c H locs 0 0 (MQ below (va_Qv (zSame Y L T) (zB D vwCl (zT K) A X) A) [.ref th, .ref to, .ref aa, .ref mo].toArray s 0 0 A) (F0 m 227 ls []) := by
          intro  H locs ls hZ hS hl 
          refine lv_iinc (v := nI (i51 + 1)) (lv' := [(4, .int (nI (i51 + 1))), (0, .ref th), (1, .ref to), (2, .ref aa), (3, .ref mo)]) hx hb dX18_inverse_227 hl (k := 4) rfl (nI_add i51 1) (by decide) rfl (fun ls hl => ?_)
          refine lv_goto (tgt := 51) hx hb dX18_inverse_230 (by decide) ?_
          exact ih51 (i51 + 1) (by omega) (by omega)  _ _ _ hZ hS (lv_sub hl [0, 1, 2, 3, 4] rfl) 
        refine lv_aload_n hx hb dX18_inverse_59 rfl (lv_at hl 3 rfl) ?_
        refine z_goI (va_runS (As := [.ref aa]) (rest := []) ⟨hx, hb, hml, hown, hts⟩ ((c_X18_zero l D K X Y L T h_aa k_aa ⟨by omega, by omega⟩) H.size) (va_cwS 1 hts (zg_S zw_219 zw_124 zw_66 zw_125) rfl rfl rfl (by decide +kernel) ⟨Nat.le_of_ble_eq_true rfl, Nat.le_of_ble_eq_true rfl⟩) (z_preS hK hZ) rfl rfl hl.1 rfl (lv_room (Nat.le_of_ble_eq_true rfl)) dX18_inverse_60 ⟨Nat.le_of_ble_eq_true rfl, Nat.le_of_ble_eq_true rfl⟩) hZ hS hA (fun x10 Y1 L1 T1 H locs hp hZ hS => ?_)
        cases hp
        refine lv_if_ne (tgt := 233) hx hb dX18_inverse_63 (by decide) (fun c63 => ?_) (fun c63 => ?_)
        · exact J233   _ _ _ hZ hS (lv_sub hl [1, 2, 3, 4] rfl)
        · refine lv_aload_n hx hb dX18_inverse_66 rfl (lv_at hl 1 rfl) ?_
          refine z_getP (own := RX18) (C := RX14) (TT := TX14) (N := 42) (ci := 15) (Ts := WR) hx hb hts zin_wsX140 hown hK hZ h_th k_th rfl 2 (by decide) (hts _ zw_198) (fun _ h9 => h9) f_th_2 dX18_inverse_67 ?_
          refine z_goI (va_runS (As := [.ref u]) (rest := []) ⟨hx, hb, hml, hown, hts⟩ ((c_X18_one l D K X Y L T h_u k_u ⟨by omega, by omega⟩) H.size) (va_cwS 1 hts (zg_S zw_220 zw_221 zw_66 zw_217) rfl rfl rfl (by decide +kernel) ⟨Nat.le_of_ble_eq_true rfl, Nat.le_of_ble_eq_true rfl⟩) (z_preS hK hZ) rfl rfl hl.1 rfl (lv_room (Nat.le_of_ble_eq_true rfl)) dX18_inverse_70 ⟨Nat.le_of_ble_eq_true rfl, Nat.le_of_ble_eq_true rfl⟩) hZ hS hA (fun x11 Y1 L1 T1 H locs hp hZ hS => ?_)
          cases hp
          refine lv_if_ne (tgt := 233) hx hb dX18_inverse_73 (by decide) (fun c73 => ?_) (fun c73 => ?_)
          · exact J233   _ _ _ hZ hS (lv_sub hl [1, 2, 3, 4] rfl)
          · refine lv_aload_n hx hb dX18_inverse_76 rfl (lv_at hl 1 rfl) ?_
            refine z_getP (own := RX18) (C := RX14) (TT := TX14) (N := 42) (ci := 15) (Ts := WR) hx hb hts zin_wsX140 hown hK hZ h_th k_th rfl 3 (by decide) (hts _ zw_199) (fun _ h9 => h9) f_th_3 dX18_inverse_77 ?_
            refine z_goI (va_runS (As := [.ref v]) (rest := []) ⟨hx, hb, hml, hown, hts⟩ ((c_X18_one l D K X Y L T h_v k_v ⟨by omega, by omega⟩) H.size) (va_cwS 1 hts (zg_S zw_220 zw_221 zw_66 zw_217) rfl rfl rfl (by decide +kernel) ⟨Nat.le_of_ble_eq_true rfl, Nat.le_of_ble_eq_true rfl⟩) (z_preS hK hZ) rfl rfl hl.1 rfl (lv_room (Nat.le_of_ble_eq_true rfl)) dX18_inverse_80 ⟨Nat.le_of_ble_eq_true rfl, Nat.le_of_ble_eq_true rfl⟩) hZ hS hA (fun x12 Y1 L1 T1 H locs hp hZ hS => ?_)
            cases hp
            refine lv_if_ne (tgt := 233) hx hb dX18_inverse_83 (by decide) (fun c83 => ?_) (fun c83 => ?_)
            · exact J233   _ _ _ hZ hS (lv_sub hl [1, 2, 3, 4] rfl)
            · refine lv_aload_n hx hb dX18_inverse_86 rfl (lv_at hl 1 rfl) ?_
              refine z_getP (own := RX18) (C := RX14) (TT := TX14) (N := 42) (ci := 15) (Ts := WR) hx hb hts zin_wsX140 hown hK hZ h_th k_th rfl 2 (by decide) (hts _ zw_198) (fun _ h9 => h9) f_th_2 dX18_inverse_87 ?_
              refine lv_iconst (v := nI 0) hx hb dX18_inverse_90 (by decide +kernel) ?_
              refine z_lald hx hb hK hZ 1 h_u k_u rfl (vp_in_nI (by omega) (by omega)) dX18_inverse_91 (fun x13 => ?_)
              refine lv_lconst (v := 1) hx hb dX18_inverse_92 (by decide +kernel) ?_
              refine lv_land hx hb dX18_inverse_93 ?_
              refine lv_topl (fun x14 _ => ?_)
              refine lv_lconst (v := 0) hx hb dX18_inverse_94 (by decide +kernel) ?_
              refine W.lcmp hx hb dX18_inverse_95 ?_
              refine lv_topi (fun x15 ex15 => ?_)
              refine lv_if_ne (tgt := 117) hx hb dX18_inverse_96 (by decide) (fun c96 => ?_) (fun c96 => ?_)
              · refine lv_aload_n hx hb dX18_inverse_117 rfl (lv_at hl 1 rfl) ?_
                refine z_getP (own := RX18) (C := RX14) (TT := TX14) (N := 42) (ci := 15) (Ts := WR) hx hb hts zin_wsX140 hown hK hZ h_th k_th rfl 3 (by decide) (hts _ zw_199) (fun _ h9 => h9) f_th_3 dX18_inverse_118 ?_
                refine lv_iconst (v := nI 0) hx hb dX18_inverse_121 (by decide +kernel) ?_
                refine z_lald hx hb hK hZ 1 h_v k_v rfl (vp_in_nI (by omega) (by omega)) dX18_inverse_122 (fun x16 => ?_)
                refine lv_lconst (v := 1) hx hb dX18_inverse_123 (by decide +kernel) ?_
                refine lv_land hx hb dX18_inverse_124 ?_
                refine lv_topl (fun x17 _ => ?_)
                refine lv_lconst (v := 0) hx hb dX18_inverse_125 (by decide +kernel) ?_
                refine W.lcmp hx hb dX18_inverse_126 ?_
                refine lv_topi (fun x18 ex18 => ?_)
                refine lv_if_ne (tgt := 148) hx hb dX18_inverse_127 (by decide) (fun c127 => ?_) (fun c127 => ?_)
                · refine lv_aload_n hx hb dX18_inverse_148 rfl (lv_at hl 1 rfl) ?_
                  refine z_getP (own := RX18) (C := RX14) (TT := TX14) (N := 42) (ci := 15) (Ts := WR) hx hb hts zin_wsX140 hown hK hZ h_th k_th rfl 2 (by decide) (hts _ zw_198) (fun _ h9 => h9) f_th_2 dX18_inverse_149 ?_
                  refine lv_aload_n hx hb dX18_inverse_152 rfl (lv_at hl 1 rfl) ?_
                  refine z_getP (own := RX18) (C := RX14) (TT := TX14) (N := 42) (ci := 15) (Ts := WR) hx hb hts zin_wsX140 hown hK hZ h_th k_th rfl 3 (by decide) (hts _ zw_199) (fun _ h9 => h9) f_th_3 dX18_inverse_153 ?_
                  refine z_goI (va_runS (As := [.ref u, .ref v]) (rest := []) ⟨hx, hb, hml, hown, hts⟩ ((c_X18_below l D K X Y L T h_u k_u ⟨by omega, by omega⟩ h_v k_v ⟨by omega, by omega⟩) H.size) (va_cwS 2 hts (zg_S zw_204 zw_110 zw_66 zw_111) rfl rfl rfl (by decide +kernel) ⟨Nat.le_of_ble_eq_true rfl, Nat.le_of_ble_eq_true rfl⟩) (z_preS hK hZ) rfl rfl hl.1 rfl (lv_room (Nat.le_of_ble_eq_true rfl)) dX18_inverse_156 ⟨Nat.le_of_ble_eq_true rfl, Nat.le_of_ble_eq_true rfl⟩) hZ hS hA (fun x19 Y1 L1 T1 H locs hp hZ hS => ?_)
                  cases hp
                  refine lv_if_eq (tgt := 196) hx hb dX18_inverse_159 (by decide) (fun c159 => ?_) (fun c159 => ?_)
                  · refine lv_aload_n hx hb dX18_inverse_196 rfl (lv_at hl 1 rfl) ?_
                    refine z_getP (own := RX18) (C := RX14) (TT := TX14) (N := 42) (ci := 15) (Ts := WR) hx hb hts zin_wsX140 hown hK hZ h_th k_th rfl 2 (by decide) (hts _ zw_198) (fun _ h9 => h9) f_th_2 dX18_inverse_197 ?_
                    refine lv_aload_n hx hb dX18_inverse_200 rfl (lv_at hl 1 rfl) ?_
                    refine z_getP (own := RX18) (C := RX14) (TT := TX14) (N := 42) (ci := 15) (Ts := WR) hx hb hts zin_wsX140 hown hK hZ h_th k_th rfl 2 (by decide) (hts _ zw_198) (fun _ h9 => h9) f_th_2 dX18_inverse_201 ?_
                    refine lv_aload_n hx hb dX18_inverse_204 rfl (lv_at hl 1 rfl) ?_
                    refine z_getP (own := RX18) (C := RX14) (TT := TX14) (N := 42) (ci := 15) (Ts := WR) hx hb hts zin_wsX140 hown hK hZ h_th k_th rfl 3 (by decide) (hts _ zw_199) (fun _ h9 => h9) f_th_3 dX18_inverse_205 ?_
                    refine z_goV (va_runS (As := [.ref u, .ref u, .ref v]) (rest := []) ⟨hx, hb, hml, hown, hts⟩ ((c_X18_less l D K X Y L T h_u k_u ⟨by omega, by omega⟩ h_u k_u ⟨by omega, by omega⟩ h_v k_v ⟨by omega, by omega⟩) H.size) (va_cwS 3 hts (zg_S zw_205 zw_206 zw_66 zw_202) rfl rfl rfl (by decide +kernel) ⟨Nat.le_of_ble_eq_true rfl, Nat.le_of_ble_eq_true rfl⟩) (z_preS hK hZ) rfl rfl hl.1 rfl (lv_room (Nat.le_of_ble_eq_true rfl)) dX18_inverse_208 ⟨Nat.le_of_ble_eq_true rfl, Nat.le_of_ble_eq_true rfl⟩) hZ hS hA (fun  Y1 L1 T1 H locs hp hZ hS => ?_)
                    cases hp
                    refine lv_aload_n hx hb dX18_inverse_211 rfl (lv_at hl 1 rfl) ?_
                    refine z_getP (own := RX18) (C := RX14) (TT := TX14) (N := 42) (ci := 15) (Ts := WR) hx hb hts zin_wsX140 hown hK hZ h_th k_th rfl 4 (by decide) (hts _ zw_200) (fun _ h9 => h9) f_th_4 dX18_inverse_212 ?_
                    refine lv_aload_n hx hb dX18_inverse_215 rfl (lv_at hl 1 rfl) ?_
                    refine z_getP (own := RX18) (C := RX14) (TT := TX14) (N := 42) (ci := 15) (Ts := WR) hx hb hts zin_wsX140 hown hK hZ h_th k_th rfl 4 (by decide) (hts _ zw_200) (fun _ h9 => h9) f_th_4 dX18_inverse_216 ?_
                    refine lv_aload_n hx hb dX18_inverse_219 rfl (lv_at hl 1 rfl) ?_
                    refine z_getP (own := RX18) (C := RX14) (TT := TX14) (N := 42) (ci := 15) (Ts := WR) hx hb hts zin_wsX140 hown hK hZ h_th k_th rfl 5 (by decide) (hts _ zw_201) (fun _ h9 => h9) f_th_5 dX18_inverse_220 ?_
                    refine lv_aload_n hx hb dX18_inverse_223 rfl (lv_at hl 4 rfl) ?_
                    refine z_goV (va_runS (As := [.ref x1, .ref x1, .ref x2, .ref mo]) (rest := []) ⟨hx, hb, hml, hown, hts⟩ ((c_X18_minus l D K X Y L T h_x1 k_x1 ⟨by omega, by omega⟩ h_x1 k_x1 ⟨by omega, by omega⟩ h_x2 k_x2 ⟨by omega, by omega⟩ h_mo k_mo ⟨by omega, by omega⟩) H.size) (va_cwS 4 hts (zg_S zw_226 zw_87 zw_66 zw_88) rfl rfl rfl (by decide +kernel) ⟨Nat.le_of_ble_eq_true rfl, Nat.le_of_ble_eq_true rfl⟩) (z_preS hK hZ) rfl rfl hl.1 rfl (lv_room (Nat.le_of_ble_eq_true rfl)) dX18_inverse_224 ⟨Nat.le_of_ble_eq_true rfl, Nat.le_of_ble_eq_true rfl⟩) hZ hS hA (fun  Y1 L1 T1 H locs hp hZ hS => ?_)
                    cases hp
                    exact J227   _ _ _ hZ hS (lv_sub hl [1, 2, 3, 4, 0] rfl) 
                  · refine lv_aload_n hx hb dX18_inverse_162 rfl (lv_at hl 1 rfl) ?_
                    refine z_getP (own := RX18) (C := RX14) (TT := TX14) (N := 42) (ci := 15) (Ts := WR) hx hb hts zin_wsX140 hown hK hZ h_th k_th rfl 3 (by decide) (hts _ zw_199) (fun _ h9 => h9) f_th_3 dX18_inverse_163 ?_
                    refine lv_aload_n hx hb dX18_inverse_166 rfl (lv_at hl 1 rfl) ?_
                    refine z_getP (own := RX18) (C := RX14) (TT := TX14) (N := 42) (ci := 15) (Ts := WR) hx hb hts zin_wsX140 hown hK hZ h_th k_th rfl 3 (by decide) (hts _ zw_199) (fun _ h9 => h9) f_th_3 dX18_inverse_167 ?_
                    refine lv_aload_n hx hb dX18_inverse_170 rfl (lv_at hl 1 rfl) ?_
                    refine z_getP (own := RX18) (C := RX14) (TT := TX14) (N := 42) (ci := 15) (Ts := WR) hx hb hts zin_wsX140 hown hK hZ h_th k_th rfl 2 (by decide) (hts _ zw_198) (fun _ h9 => h9) f_th_2 dX18_inverse_171 ?_
                    refine z_goV (va_runS (As := [.ref v, .ref v, .ref u]) (rest := []) ⟨hx, hb, hml, hown, hts⟩ ((c_X18_less l D K X Y L T h_v k_v ⟨by omega, by omega⟩ h_v k_v ⟨by omega, by omega⟩ h_u k_u ⟨by omega, by omega⟩) H.size) (va_cwS 3 hts (zg_S zw_205 zw_206 zw_66 zw_202) rfl rfl rfl (by decide +kernel) ⟨Nat.le_of_ble_eq_true rfl, Nat.le_of_ble_eq_true rfl⟩) (z_preS hK hZ) rfl rfl hl.1 rfl (lv_room (Nat.le_of_ble_eq_true rfl)) dX18_inverse_174 ⟨Nat.le_of_ble_eq_true rfl, Nat.le_of_ble_eq_true rfl⟩) hZ hS hA (fun  Y1 L1 T1 H locs hp hZ hS => ?_)
                    cases hp
                    refine lv_aload_n hx hb dX18_inverse_177 rfl (lv_at hl 1 rfl) ?_
                    refine z_getP (own := RX18) (C := RX14) (TT := TX14) (N := 42) (ci := 15) (Ts := WR) hx hb hts zin_wsX140 hown hK hZ h_th k_th rfl 5 (by decide) (hts _ zw_201) (fun _ h9 => h9) f_th_5 dX18_inverse_178 ?_
                    refine lv_aload_n hx hb dX18_inverse_181 rfl (lv_at hl 1 rfl) ?_
                    refine z_getP (own := RX18) (C := RX14) (TT := TX14) (N := 42) (ci := 15) (Ts := WR) hx hb hts zin_wsX140 hown hK hZ h_th k_th rfl 5 (by decide) (hts _ zw_201) (fun _ h9 => h9) f_th_5 dX18_inverse_182 ?_
                    refine lv_aload_n hx hb dX18_inverse_185 rfl (lv_at hl 1 rfl) ?_
                    refine z_getP (own := RX18) (C := RX14) (TT := TX14) (N := 42) (ci := 15) (Ts := WR) hx hb hts zin_wsX140 hown hK hZ h_th k_th rfl 4 (by decide) (hts _ zw_200) (fun _ h9 => h9) f_th_4 dX18_inverse_186 ?_
                    refine lv_aload_n hx hb dX18_inverse_189 rfl (lv_at hl 4 rfl) ?_
                    refine z_goV (va_runS (As := [.ref x2, .ref x2, .ref x1, .ref mo]) (rest := []) ⟨hx, hb, hml, hown, hts⟩ ((c_X18_minus l D K X Y L T h_x2 k_x2 ⟨by omega, by omega⟩ h_x2 k_x2 ⟨by omega, by omega⟩ h_x1 k_x1 ⟨by omega, by omega⟩ h_mo k_mo ⟨by omega, by omega⟩) H.size) (va_cwS 4 hts (zg_S zw_226 zw_87 zw_66 zw_88) rfl rfl rfl (by decide +kernel) ⟨Nat.le_of_ble_eq_true rfl, Nat.le_of_ble_eq_true rfl⟩) (z_preS hK hZ) rfl rfl hl.1 rfl (lv_room (Nat.le_of_ble_eq_true rfl)) dX18_inverse_190 ⟨Nat.le_of_ble_eq_true rfl, Nat.le_of_ble_eq_true rfl⟩) hZ hS hA (fun  Y1 L1 T1 H locs hp hZ hS => ?_)
                    cases hp
                    refine lv_goto (tgt := 227) hx hb dX18_inverse_193 (by decide) ?_
                    exact J227   _ _ _ hZ hS (lv_sub hl [1, 2, 3, 4, 0] rfl) 
                · refine lv_aload_n hx hb dX18_inverse_130 rfl (lv_at hl 1 rfl) ?_
                  refine z_getP (own := RX18) (C := RX14) (TT := TX14) (N := 42) (ci := 15) (Ts := WR) hx hb hts zin_wsX140 hown hK hZ h_th k_th rfl 3 (by decide) (hts _ zw_199) (fun _ h9 => h9) f_th_3 dX18_inverse_131 ?_
                  refine z_goV (va_runS (As := [.ref v]) (rest := []) ⟨hx, hb, hml, hown, hts⟩ ((c_X18_halve l D K X Y L T h_v k_v ⟨by omega, by omega⟩) H.size) (va_cwS 1 hts (zg_S zw_222 zw_223 zw_66 zw_216) rfl rfl rfl (by decide +kernel) ⟨Nat.le_of_ble_eq_true rfl, Nat.le_of_ble_eq_true rfl⟩) (z_preS hK hZ) rfl rfl hl.1 rfl (lv_room (Nat.le_of_ble_eq_true rfl)) dX18_inverse_134 ⟨Nat.le_of_ble_eq_true rfl, Nat.le_of_ble_eq_true rfl⟩) hZ hS hA (fun  Y1 L1 T1 H locs hp hZ hS => ?_)
                  cases hp
                  refine lv_aload_n hx hb dX18_inverse_137 rfl (lv_at hl 1 rfl) ?_
                  refine z_getP (own := RX18) (C := RX14) (TT := TX14) (N := 42) (ci := 15) (Ts := WR) hx hb hts zin_wsX140 hown hK hZ h_th k_th rfl 5 (by decide) (hts _ zw_201) (fun _ h9 => h9) f_th_5 dX18_inverse_138 ?_
                  refine lv_aload_n hx hb dX18_inverse_141 rfl (lv_at hl 4 rfl) ?_
                  refine z_goV (va_runS (As := [.ref x2, .ref mo]) (rest := []) ⟨hx, hb, hml, hown, hts⟩ ((c_X18_half l D K X Y L T h_x2 k_x2 ⟨by omega, by omega⟩ h_mo k_mo ⟨by omega, by omega⟩) H.size) (va_cwS 2 hts (zg_S zw_224 zw_225 zw_66 zw_215) rfl rfl rfl (by decide +kernel) ⟨Nat.le_of_ble_eq_true rfl, Nat.le_of_ble_eq_true rfl⟩) (z_preS hK hZ) rfl rfl hl.1 rfl (lv_room (Nat.le_of_ble_eq_true rfl)) dX18_inverse_142 ⟨Nat.le_of_ble_eq_true rfl, Nat.le_of_ble_eq_true rfl⟩) hZ hS hA (fun  Y1 L1 T1 H locs hp hZ hS => ?_)
                  cases hp
                  refine lv_goto (tgt := 227) hx hb dX18_inverse_145 (by decide) ?_
                  exact J227   _ _ _ hZ hS (lv_sub hl [1, 2, 3, 4, 0] rfl) 
              · refine lv_aload_n hx hb dX18_inverse_99 rfl (lv_at hl 1 rfl) ?_
                refine z_getP (own := RX18) (C := RX14) (TT := TX14) (N := 42) (ci := 15) (Ts := WR) hx hb hts zin_wsX140 hown hK hZ h_th k_th rfl 2 (by decide) (hts _ zw_198) (fun _ h9 => h9) f_th_2 dX18_inverse_100 ?_
                refine z_goV (va_runS (As := [.ref u]) (rest := []) ⟨hx, hb, hml, hown, hts⟩ ((c_X18_halve l D K X Y L T h_u k_u ⟨by omega, by omega⟩) H.size) (va_cwS 1 hts (zg_S zw_222 zw_223 zw_66 zw_216) rfl rfl rfl (by decide +kernel) ⟨Nat.le_of_ble_eq_true rfl, Nat.le_of_ble_eq_true rfl⟩) (z_preS hK hZ) rfl rfl hl.1 rfl (lv_room (Nat.le_of_ble_eq_true rfl)) dX18_inverse_103 ⟨Nat.le_of_ble_eq_true rfl, Nat.le_of_ble_eq_true rfl⟩) hZ hS hA (fun  Y1 L1 T1 H locs hp hZ hS => ?_)
                cases hp
                refine lv_aload_n hx hb dX18_inverse_106 rfl (lv_at hl 1 rfl) ?_
                refine z_getP (own := RX18) (C := RX14) (TT := TX14) (N := 42) (ci := 15) (Ts := WR) hx hb hts zin_wsX140 hown hK hZ h_th k_th rfl 4 (by decide) (hts _ zw_200) (fun _ h9 => h9) f_th_4 dX18_inverse_107 ?_
                refine lv_aload_n hx hb dX18_inverse_110 rfl (lv_at hl 4 rfl) ?_
                refine z_goV (va_runS (As := [.ref x1, .ref mo]) (rest := []) ⟨hx, hb, hml, hown, hts⟩ ((c_X18_half l D K X Y L T h_x1 k_x1 ⟨by omega, by omega⟩ h_mo k_mo ⟨by omega, by omega⟩) H.size) (va_cwS 2 hts (zg_S zw_224 zw_225 zw_66 zw_215) rfl rfl rfl (by decide +kernel) ⟨Nat.le_of_ble_eq_true rfl, Nat.le_of_ble_eq_true rfl⟩) (z_preS hK hZ) rfl rfl hl.1 rfl (lv_room (Nat.le_of_ble_eq_true rfl)) dX18_inverse_111 ⟨Nat.le_of_ble_eq_true rfl, Nat.le_of_ble_eq_true rfl⟩) hZ hS hA (fun  Y1 L1 T1 H locs hp hZ hS => ?_)
                cases hp
                refine lv_goto (tgt := 227) hx hb dX18_inverse_114 (by decide) ?_
                exact J227   _ _ _ hZ hS (lv_sub hl [1, 2, 3, 4, 0] rfl) 
  exact L51 (1100 + 1) 0 (by omega) (by omega)  _ _ _ hZ hS (lv_sub hl [0, 1, 2, 3, 4] rfl) 
abbrev ROOM_X14_power : Room := { frames := 4, cells := 0, slots := 0, locals := 85 }
set_option maxHeartbeats 4000000 in
set_option maxRecDepth 100000 in
/-- power -/
theorem c_X14_power (l : Launch) (D : va_G) (K : Nat → ClassId) (X Y : va_W) (L : List Nat) (T : Nat → va_E → Prop) {th : Nat} {vs_th : List Value} {product n_product : Nat} {sum n_sum : Nat} {pp n_pp : Nat} {pt n_pt : Nat} {ff n_ff : Nat} {to n_to : Nat} {of n_of : Nat} {ex n_ex : Nat}  (h_th : th ∈ L) (k_th : T th = zO 15 vs_th) (f_th_0 : vs_th[0]? = some (.ref product)) (h_product : product ∈ L) (k_product : T product = zJ (K 1) n_product) (b_product : 32 ≤ n_product ∧ n_product < 2147483648) (f_th_1 : vs_th[1]? = some (.ref sum)) (h_sum : sum ∈ L) (k_sum : T sum = zJ (K 1) n_sum) (b_sum : 18 ≤ n_sum ∧ n_sum < 2147483648) (f_th_8 : vs_th[8]? = some (.ref pp)) (h_pp : pp ∈ L) (k_pp : T pp = zJ (K 1) n_pp) (b_pp : 16 ≤ n_pp ∧ n_pp < 2147483648) (f_th_9 : vs_th[9]? = some (.ref pt)) (h_pt : pt ∈ L) (k_pt : T pt = zJ (K 1) n_pt) (b_pt : 256 ≤ n_pt ∧ n_pt < 2147483648) (f_th_26 : vs_th[26]? = some (.ref ff)) (h_ff : ff ∈ L) (k_ff : T ff = zJ (K 1) n_ff) (b_ff : 16 ≤ n_ff ∧ n_ff < 2147483648) (h_to : to ∈ L) (k_to : T to = zJ (K 1) n_to) (b_to : 16 ≤ n_to ∧ n_to < 2147483648) (h_of : of ∈ L) (k_of : T of = zJ (K 1) n_of) (b_of : 16 ≤ n_of ∧ n_of < 2147483648) (h_ex : ex ∈ L) (k_ex : T ex = zJ (K 1) n_ex) (b_ex : 16 ≤ n_ex ∧ n_ex < 2147483648)  : zV l D vwCl (zT K) yX14_power (zws yX14_power cX14_power 5 none) ROOM_X14_power 0 0 [.ref th, .ref to, .ref of, .ref ex] X Y L T (zSame Y L T) := by
  refine z_ofW (Qc := fun A => va_Qv (zSame Y L T) (zB D vwCl (zT K) A X) A) (cc := cX14_power) (maxL := 5) (ret := none) (by decide +kernel) rfl (Nat.le_of_ble_eq_true rfl) ?_
  intro p e s m below meth c A ls hx hb hml hr hts hown hlocks hin hA hK hZ hS hl
  have hown : s.vm.findClass RX14 = some m.cls := hown
  have hts : ∀ w ∈ WR, w.before [.ref th, .ref to, .ref of, .ref ex].toArray s = true := fun w h => hts w (List.mem_cons_of_mem _ h)
  have hl : lv_has ls 5 [(0, .ref th), (1, .ref to), (2, .ref of), (3, .ref ex)] := hl
  obtain ⟨H, hH⟩ : ∃ H, H = s.heap := ⟨_, rfl⟩
  have hZ : zP D vwCl A X Y L T H := by rw [hH]; exact hZ
  obtain ⟨locs, hlc⟩ : ∃ q : List Loc, q = [] := ⟨_, rfl⟩
  have hS : va_S A s.heap H locs := by rw [hH, hlc]; exact hS
  suffices hW : W p l e ROOM_X14_power s m [.ref th, .ref to, .ref of, .ref ex].toArray below meth c H locs 0 0 (MQ below (va_Qv (zSame Y L T) (zB D vwCl (zT K) A X) A) [.ref th, .ref to, .ref of, .ref ex].toArray s 0 0 A) (F0 m 0 ls []) by rw [hH, hlc] at hW; exact hW
  clear hH hlc
  refine lv_aload_n hx hb dX14_power_0 rfl (lv_at hl 0 rfl) ?_
  refine z_getP (own := RX14) (C := RX14) (TT := TX14) (N := 42) (ci := 15) (Ts := WR) hx hb hts zin_wsX140 hown hK hZ h_th k_th rfl 26 (by decide) (hts _ zw_39) (fun _ h9 => h9) f_th_26 dX14_power_1 ?_
  refine lv_iconst (v := nI 1) hx hb dX14_power_4 (by decide +kernel) ?_
  refine z_goV (z_runSUp (x := ⟨"ShellPairModel$Curve", "set", "([JI)V"⟩) (owner := "ShellPairModel$Numbers") (n := 2) (As := [.ref ff, .int (nI 1)]) (rest := []) ⟨hx, hb, hml, hown, hts⟩ ((c_X18_set l D K X Y L T h_ff k_ff ⟨by omega, by omega⟩) H.size) rfl (zg_I zw_72) rfl rfl rfl ⟨Nat.le_of_ble_eq_true rfl, Nat.le_of_ble_eq_true rfl⟩ (hts _ zw_69) (hts _ zw_70) (hts _ zw_71) (hts _ zw_66) (by decide +kernel) (z_preS hK hZ) rfl rfl hl.1 rfl (lv_room (Nat.le_of_ble_eq_true rfl)) dX14_power_5 ⟨Nat.le_of_ble_eq_true rfl, Nat.le_of_ble_eq_true rfl⟩) hZ hS hA (fun  Y1 L1 T1 H locs hp hZ hS => ?_)
  cases hp
  refine lv_sipush (v := nI 255) hx hb dX14_power_8 (by decide +kernel) ?_
  refine lv_istore (lv' := [(4, .int (nI 255)), (0, .ref th), (1, .ref to), (2, .ref of), (3, .ref ex)]) hx hb dX14_power_11 hl (by decide) rfl (fun ls hl => ?_)
  have L13 : ∀ (i13 : Nat), i13 ≤ 256 → ∀  (H : Heap) (locs : List Loc) (ls : Array Slot), zP D vwCl A X Y L T H → va_S A s.heap H locs → lv_has ls 5 [(4, .int (nI i13 + (-1))), (0, .ref th), (1, .ref to), (2, .ref of), (3, .ref ex)] → W p l e ROOM_X14_power s m [.ref th, .ref to, .ref of, .ref ex].toArray below meth c H locs 0 0 (MQ below (va_Qv (zSame Y L T) (zB D vwCl (zT K) A X) A) [.ref th, .ref to, .ref of, .ref ex].toArray s 0 0 A) (F0 m 13 ls []) := by
    intro i13
    induction i13 with
    | zero =>
      intro u13  H locs ls hZ hS hl 
      refine lv_iload hx hb dX14_power_13 (lv_at hl 0 rfl) ?_
      refine lv_if_lt (tgt := 79) hx hb dX14_power_15 (by decide) (fun c15 => ?_) (fun c15 => ?_)
      · refine lv_aload_n hx hb dX14_power_79 rfl (lv_at hl 2 rfl) ?_
        refine lv_aload_n hx hb dX14_power_80 rfl (lv_at hl 1 rfl) ?_
        refine z_getP (own := RX14) (C := RX14) (TT := TX14) (N := 42) (ci := 15) (Ts := WR) hx hb hts zin_wsX140 hown hK hZ h_th k_th rfl 26 (by decide) (hts _ zw_39) (fun _ h9 => h9) f_th_26 dX14_power_81 ?_
        refine z_goV (z_runSUp (x := ⟨"ShellPairModel$Curve", "copy", "([J[J)V"⟩) (owner := "ShellPairModel$Numbers") (n := 2) (As := [.ref to, .ref ff]) (rest := []) ⟨hx, hb, hml, hown, hts⟩ ((c_X18_copy l D K X Y L T h_to k_to ⟨by omega, by omega⟩ h_ff k_ff ⟨by omega, by omega⟩) H.size) rfl (zg_I zw_103) rfl rfl rfl ⟨Nat.le_of_ble_eq_true rfl, Nat.le_of_ble_eq_true rfl⟩ (hts _ zw_100) (hts _ zw_101) (hts _ zw_102) (hts _ zw_66) (by decide +kernel) (z_preS hK hZ) rfl rfl hl.1 rfl (lv_room (Nat.le_of_ble_eq_true rfl)) dX14_power_84 ⟨Nat.le_of_ble_eq_true rfl, Nat.le_of_ble_eq_true rfl⟩) hZ hS hA (fun  Y1 L1 T1 H locs hp hZ hS => ?_)
        cases hp
        exact z_vret hx hb hr hlocks hK hZ hS rfl (Nat.le_of_ble_eq_true rfl) (Nat.le_of_ble_eq_true rfl) dX14_power_87
      · exact absurd (by decide +kernel) c15
    | succ i13 ih13 =>
      intro u13  H locs ls hZ hS hl 
      rw [pk_m1 i13] at hl
      refine lv_iload hx hb dX14_power_13 (lv_at hl 0 rfl) ?_
      refine lv_if_lt (tgt := 79) hx hb dX14_power_15 (by decide) (fun c15 => ?_) (fun c15 => ?_)
      · exact absurd c15 (nI_pos (by omega))
      · have e15 : ¬ i13 < 0 := fun q => c15 ((nI_ltI (a := i13) (b := 0) (by omega) (by omega)).mpr q)
        refine lv_aload_n hx hb dX14_power_18 rfl (lv_at hl 1 rfl) ?_
        refine lv_aload_n hx hb dX14_power_19 rfl (lv_at hl 1 rfl) ?_
        refine z_getP (own := RX14) (C := RX14) (TT := TX14) (N := 42) (ci := 15) (Ts := WR) hx hb hts zin_wsX140 hown hK hZ h_th k_th rfl 26 (by decide) (hts _ zw_39) (fun _ h9 => h9) f_th_26 dX14_power_20 ?_
        refine lv_aload_n hx hb dX14_power_23 rfl (lv_at hl 1 rfl) ?_
        refine z_getP (own := RX14) (C := RX14) (TT := TX14) (N := 42) (ci := 15) (Ts := WR) hx hb hts zin_wsX140 hown hK hZ h_th k_th rfl 26 (by decide) (hts _ zw_39) (fun _ h9 => h9) f_th_26 dX14_power_24 ?_
        refine lv_aload_n hx hb dX14_power_27 rfl (lv_at hl 1 rfl) ?_
        refine z_getP (own := RX14) (C := RX14) (TT := TX14) (N := 42) (ci := 15) (Ts := WR) hx hb hts zin_wsX140 hown hK hZ h_th k_th rfl 26 (by decide) (hts _ zw_39) (fun _ h9 => h9) f_th_26 dX14_power_28 ?_
        refine lv_aload_n hx hb dX14_power_31 rfl (lv_at hl 1 rfl) ?_
        refine z_getP (own := RX14) (C := RX14) (TT := TX14) (N := 42) (ci := 15) (Ts := WR) hx hb hts zin_wsX140 hown hK hZ h_th k_th rfl 8 (by decide) (hts _ zw_21) (fun _ h9 => h9) f_th_8 dX14_power_32 ?_
        refine lv_aload_n hx hb dX14_power_35 rfl (lv_at hl 1 rfl) ?_
        refine z_getP (own := RX14) (C := RX14) (TT := TX14) (N := 42) (ci := 15) (Ts := WR) hx hb hts zin_wsX140 hown hK hZ h_th k_th rfl 9 (by decide) (hts _ zw_22) (fun _ h9 => h9) f_th_9 dX14_power_36 ?_
        refine z_goV (va_runU (C := RX14) (owner := "ShellPairModel$Numbers") (x := ⟨"ShellPairModel$Curve", "times", "([J[J[J[J[J)V"⟩) (As := [.ref ff, .ref ff, .ref ff, .ref pp, .ref pt]) (rest := []) ⟨hx, hb, hml, hown, hts⟩ ((c_X18_times l D K X Y L T h_th k_th f_th_0 h_product k_product ⟨by omega, by omega⟩ f_th_1 h_sum k_sum ⟨by omega, by omega⟩ h_ff k_ff ⟨by omega, by omega⟩ h_ff k_ff ⟨by omega, by omega⟩ h_ff k_ff ⟨by omega, by omega⟩ h_pp k_pp ⟨by omega, by omega⟩ h_pt k_pt ⟨by omega, by omega⟩) H.size) (va_cwU 5 hts (zg_U zw_80 zw_83 zw_81 zw_84 zw_66 zw_82) rfl rfl rfl rfl (by decide +kernel) ⟨Nat.le_of_ble_eq_true rfl, Nat.le_of_ble_eq_true rfl⟩) (z_preV hK hZ (z_recvP hK hZ h_th k_th rfl)) rfl rfl hl.1 rfl (lv_room (Nat.le_of_ble_eq_true rfl)) dX14_power_39 ⟨Nat.le_of_ble_eq_true rfl, Nat.le_of_ble_eq_true rfl⟩) hZ hS hA (fun  Y1 L1 T1 H locs hp hZ hS => ?_)
        cases hp
        refine lv_aload_n hx hb dX14_power_42 rfl (lv_at hl 4 rfl) ?_
        refine lv_iload hx hb dX14_power_43 (lv_at hl 0 rfl) ?_
        refine z_goI (z_runSUp (x := ⟨"ShellPairModel$Curve", "bit", "([JI)I"⟩) (owner := "ShellPairModel$Numbers") (n := 2) (As := [.ref ex, .int (nI i13)]) (rest := []) ⟨hx, hb, hml, hown, hts⟩ ((c_X18_bit l D K X Y L T h_ex k_ex ⟨by omega, by omega⟩ (by omega)) H.size) rfl (zg_I zw_107) rfl rfl rfl ⟨Nat.le_of_ble_eq_true rfl, Nat.le_of_ble_eq_true rfl⟩ (hts _ zw_104) (hts _ zw_105) (hts _ zw_106) (hts _ zw_66) (by decide +kernel) (z_preS hK hZ) rfl rfl hl.1 rfl (lv_room (Nat.le_of_ble_eq_true rfl)) dX14_power_45 ⟨Nat.le_of_ble_eq_true rfl, Nat.le_of_ble_eq_true rfl⟩) hZ hS hA (fun x4 Y1 L1 T1 H locs hp hZ hS => ?_)
        cases hp
        refine lv_iconst (v := nI 1) hx hb dX14_power_48 (by decide +kernel) ?_
        refine lv_icmp_ne (tgt := 73) hx hb dX14_power_49 (by decide) (fun c49 => ?_) (fun c49 => ?_)
        · refine lv_iinc (v := nI i13 + (-1)) (lv' := [(4, .int (nI i13 + (-1))), (0, .ref th), (1, .ref to), (2, .ref of), (3, .ref ex)]) hx hb dX14_power_73 hl (k := 0) rfl rfl (by decide) rfl (fun ls hl => ?_)
          refine lv_goto (tgt := 13) hx hb dX14_power_76 (by decide) ?_
          exact ih13 (by omega)  _ _ _ hZ hS (lv_sub hl [0, 1, 2, 3, 4] rfl) 
        · refine lv_aload_n hx hb dX14_power_52 rfl (lv_at hl 1 rfl) ?_
          refine lv_aload_n hx hb dX14_power_53 rfl (lv_at hl 1 rfl) ?_
          refine z_getP (own := RX14) (C := RX14) (TT := TX14) (N := 42) (ci := 15) (Ts := WR) hx hb hts zin_wsX140 hown hK hZ h_th k_th rfl 26 (by decide) (hts _ zw_39) (fun _ h9 => h9) f_th_26 dX14_power_54 ?_
          refine lv_aload_n hx hb dX14_power_57 rfl (lv_at hl 1 rfl) ?_
          refine z_getP (own := RX14) (C := RX14) (TT := TX14) (N := 42) (ci := 15) (Ts := WR) hx hb hts zin_wsX140 hown hK hZ h_th k_th rfl 26 (by decide) (hts _ zw_39) (fun _ h9 => h9) f_th_26 dX14_power_58 ?_
          refine lv_aload_n hx hb dX14_power_61 rfl (lv_at hl 3 rfl) ?_
          refine lv_aload_n hx hb dX14_power_62 rfl (lv_at hl 1 rfl) ?_
          refine z_getP (own := RX14) (C := RX14) (TT := TX14) (N := 42) (ci := 15) (Ts := WR) hx hb hts zin_wsX140 hown hK hZ h_th k_th rfl 8 (by decide) (hts _ zw_21) (fun _ h9 => h9) f_th_8 dX14_power_63 ?_
          refine lv_aload_n hx hb dX14_power_66 rfl (lv_at hl 1 rfl) ?_
          refine z_getP (own := RX14) (C := RX14) (TT := TX14) (N := 42) (ci := 15) (Ts := WR) hx hb hts zin_wsX140 hown hK hZ h_th k_th rfl 9 (by decide) (hts _ zw_22) (fun _ h9 => h9) f_th_9 dX14_power_67 ?_
          refine z_goV (va_runU (C := RX14) (owner := "ShellPairModel$Numbers") (x := ⟨"ShellPairModel$Curve", "times", "([J[J[J[J[J)V"⟩) (As := [.ref ff, .ref ff, .ref of, .ref pp, .ref pt]) (rest := []) ⟨hx, hb, hml, hown, hts⟩ ((c_X18_times l D K X Y L T h_th k_th f_th_0 h_product k_product ⟨by omega, by omega⟩ f_th_1 h_sum k_sum ⟨by omega, by omega⟩ h_ff k_ff ⟨by omega, by omega⟩ h_ff k_ff ⟨by omega, by omega⟩ h_of k_of ⟨by omega, by omega⟩ h_pp k_pp ⟨by omega, by omega⟩ h_pt k_pt ⟨by omega, by omega⟩) H.size) (va_cwU 5 hts (zg_U zw_80 zw_83 zw_81 zw_84 zw_66 zw_82) rfl rfl rfl rfl (by decide +kernel) ⟨Nat.le_of_ble_eq_true rfl, Nat.le_of_ble_eq_true rfl⟩) (z_preV hK hZ (z_recvP hK hZ h_th k_th rfl)) rfl rfl hl.1 rfl (lv_room (Nat.le_of_ble_eq_true rfl)) dX14_power_70 ⟨Nat.le_of_ble_eq_true rfl, Nat.le_of_ble_eq_true rfl⟩) hZ hS hA (fun  Y1 L1 T1 H locs hp hZ hS => ?_)
          cases hp
          refine lv_iinc (v := nI i13 + (-1)) (lv' := [(4, .int (nI i13 + (-1))), (0, .ref th), (1, .ref to), (2, .ref of), (3, .ref ex)]) hx hb dX14_power_73 hl (k := 0) rfl rfl (by decide) rfl (fun ls hl => ?_)
          refine lv_goto (tgt := 13) hx hb dX14_power_76 (by decide) ?_
          exact ih13 (by omega)  _ _ _ hZ hS (lv_sub hl [0, 1, 2, 3, 4] rfl) 
  exact L13 (255 + 1) (by omega)  _ _ _ hZ hS (by rw [pk_m1]; exact lv_sub hl [0, 1, 2, 3, 4] rfl) 
abbrev ROOM_X14_decode : Room := { frames := 5, cells := 0, slots := 0, locals := 109 }
set_option maxHeartbeats 4000000 in
set_option maxRecDepth 100000 in
/-- decode -/
theorem c_X14_decode (l : Launch) (D : va_G) (K : Nat → ClassId) (X Y : va_W) (L : List Nat) (T : Nat → va_E → Prop) {th : Nat} {vs_th : List Value} {product n_product : Nat} {sum n_sum : Nat} {u n_u : Nat} {v n_v : Nat} {x1 n_x1 : Nat} {x2 n_x2 : Nat} {pp n_pp : Nat} {pt n_pt : Nat} {dd n_dd : Nat} {root n_root : Nat} {qx n_qx : Nat} {qy n_qy : Nat} {fa n_fa : Nat} {fb n_fb : Nat} {fc n_fc : Nat} {fe n_fe : Nat} {ff n_ff : Nat} {one n_one : Nat} {row n_row : Nat}  (h_th : th ∈ L) (k_th : T th = zO 15 vs_th) (f_th_0 : vs_th[0]? = some (.ref product)) (h_product : product ∈ L) (k_product : T product = zJ (K 1) n_product) (b_product : 32 ≤ n_product ∧ n_product < 2147483648) (f_th_1 : vs_th[1]? = some (.ref sum)) (h_sum : sum ∈ L) (k_sum : T sum = zJ (K 1) n_sum) (b_sum : 18 ≤ n_sum ∧ n_sum < 2147483648) (f_th_2 : vs_th[2]? = some (.ref u)) (h_u : u ∈ L) (k_u : T u = zJ (K 1) n_u) (b_u : 16 ≤ n_u ∧ n_u < 2147483648) (f_th_3 : vs_th[3]? = some (.ref v)) (h_v : v ∈ L) (k_v : T v = zJ (K 1) n_v) (b_v : 16 ≤ n_v ∧ n_v < 2147483648) (f_th_4 : vs_th[4]? = some (.ref x1)) (h_x1 : x1 ∈ L) (k_x1 : T x1 = zJ (K 1) n_x1) (b_x1 : 17 ≤ n_x1 ∧ n_x1 < 2147483648) (f_th_5 : vs_th[5]? = some (.ref x2)) (h_x2 : x2 ∈ L) (k_x2 : T x2 = zJ (K 1) n_x2) (b_x2 : 17 ≤ n_x2 ∧ n_x2 < 2147483648) (f_th_8 : vs_th[8]? = some (.ref pp)) (h_pp : pp ∈ L) (k_pp : T pp = zJ (K 1) n_pp) (b_pp : 16 ≤ n_pp ∧ n_pp < 2147483648) (f_th_9 : vs_th[9]? = some (.ref pt)) (h_pt : pt ∈ L) (k_pt : T pt = zJ (K 1) n_pt) (b_pt : 256 ≤ n_pt ∧ n_pt < 2147483648) (f_th_12 : vs_th[12]? = some (.ref dd)) (h_dd : dd ∈ L) (k_dd : T dd = zJ (K 1) n_dd) (b_dd : 16 ≤ n_dd ∧ n_dd < 2147483648) (f_th_13 : vs_th[13]? = some (.ref root)) (h_root : root ∈ L) (k_root : T root = zJ (K 1) n_root) (b_root : 16 ≤ n_root ∧ n_root < 2147483648) (f_th_18 : vs_th[18]? = some (.ref qx)) (h_qx : qx ∈ L) (k_qx : T qx = zJ (K 1) n_qx) (b_qx : 16 ≤ n_qx ∧ n_qx < 2147483648) (f_th_19 : vs_th[19]? = some (.ref qy)) (h_qy : qy ∈ L) (k_qy : T qy = zJ (K 1) n_qy) (b_qy : 16 ≤ n_qy ∧ n_qy < 2147483648) (f_th_22 : vs_th[22]? = some (.ref fa)) (h_fa : fa ∈ L) (k_fa : T fa = zJ (K 1) n_fa) (b_fa : 16 ≤ n_fa ∧ n_fa < 2147483648) (f_th_23 : vs_th[23]? = some (.ref fb)) (h_fb : fb ∈ L) (k_fb : T fb = zJ (K 1) n_fb) (b_fb : 16 ≤ n_fb ∧ n_fb < 2147483648) (f_th_24 : vs_th[24]? = some (.ref fc)) (h_fc : fc ∈ L) (k_fc : T fc = zJ (K 1) n_fc) (b_fc : 16 ≤ n_fc ∧ n_fc < 2147483648) (f_th_25 : vs_th[25]? = some (.ref fe)) (h_fe : fe ∈ L) (k_fe : T fe = zJ (K 1) n_fe) (b_fe : 16 ≤ n_fe ∧ n_fe < 2147483648) (f_th_26 : vs_th[26]? = some (.ref ff)) (h_ff : ff ∈ L) (k_ff : T ff = zJ (K 1) n_ff) (b_ff : 16 ≤ n_ff ∧ n_ff < 2147483648) (f_th_32 : vs_th[32]? = some (.ref one)) (h_one : one ∈ L) (k_one : T one = zJ (K 1) n_one) (b_one : 16 ≤ n_one ∧ n_one < 2147483648) (f_th_37 : vs_th[37]? = some (.ref row)) (h_row : row ∈ L) (k_row : T row = zI (K 2) n_row) (b_row : 32 ≤ n_row ∧ n_row < 2147483648)  : zVi l D vwCl (zT K) yX14_decode (zws yX14_decode cX14_decode 2 (some .boolean)) ROOM_X14_decode 0 0 [.ref th] X Y L T (fun _ => zSame Y L T) := by
  refine z_ofW (Qc := fun A => va_Qi (fun _ => zSame Y L T) (zB D vwCl (zT K) A X) A) (cc := cX14_decode) (maxL := 2) (ret := (some .boolean)) (by decide +kernel) rfl (Nat.le_of_ble_eq_true rfl) ?_
  intro p e s m below meth c A ls hx hb hml hr hts hown hlocks hin hA hK hZ hS hl
  have hown : s.vm.findClass RX14 = some m.cls := hown
  have hts : ∀ w ∈ WR, w.before [.ref th].toArray s = true := fun w h => hts w (List.mem_cons_of_mem _ h)
  have hl : lv_has ls 2 [(0, .ref th)] := hl
  obtain ⟨H, hH⟩ : ∃ H, H = s.heap := ⟨_, rfl⟩
  have hZ : zP D vwCl A X Y L T H := by rw [hH]; exact hZ
  obtain ⟨locs, hlc⟩ : ∃ q : List Loc, q = [] := ⟨_, rfl⟩
  have hS : va_S A s.heap H locs := by rw [hH, hlc]; exact hS
  suffices hW : W p l e ROOM_X14_decode s m [.ref th].toArray below meth c H locs 0 0 (MQ below (va_Qi (fun _ => zSame Y L T) (zB D vwCl (zT K) A X) A) [.ref th].toArray s 0 0 A) (F0 m 0 ls []) by rw [hH, hlc] at hW; exact hW
  clear hH hlc
  refine lv_iconst (v := nI 0) hx hb dX14_decode_0 (by decide +kernel) ?_
  refine lv_istore_n (lv' := [(1, .int (nI 0)), (0, .ref th)]) hx hb dX14_decode_1 rfl hl (by decide) rfl (fun ls hl => ?_)
  have L2 : ∀ (n i2 : Nat), i2 ≤ 16 → 16 + 1 ≤ i2 + n → ∀  (H : Heap) (locs : List Loc) (ls : Array Slot), zP D vwCl A X Y L T H → va_S A s.heap H locs → lv_has ls 2 [(1, .int (nI i2)), (0, .ref th)] → W p l e ROOM_X14_decode s m [.ref th].toArray below meth c H locs 0 0 (MQ below (va_Qi (fun _ => zSame Y L T) (zB D vwCl (zT K) A X) A) [.ref th].toArray s 0 0 A) (F0 m 2 ls []) := by
    intro n
    induction n with
    | zero => intro i2 u2 w2; exact absurd w2 (by omega)
    | succ n ih2 =>
      intro i2 u2 w2  H locs ls hZ hS hl 
      refine lv_iload_n hx hb dX14_decode_2 rfl (lv_at hl 0 rfl) ?_
      refine lv_bipush (v := nI 16) hx hb dX14_decode_3 (by decide +kernel) ?_
      refine lv_icmp_ge (tgt := 70) hx hb dX14_decode_5 (by decide) (fun c5 => ?_) (fun c5 => ?_)
      · have e5 : 16 ≤ i2 := (nI_leI (a := 16) (b := i2) (by omega) (by omega)).mp c5
        refine lv_aload_n hx hb dX14_decode_70 rfl (lv_at hl 1 rfl) ?_
        refine z_getP (own := RX14) (C := RX14) (TT := TX14) (N := 42) (ci := 15) (Ts := WR) hx hb hts zin_wsX140 hown hK hZ h_th k_th rfl 19 (by decide) (hts _ zw_32) (fun _ h9 => h9) f_th_19 dX14_decode_71 ?_
        refine lv_aload_n hx hb dX14_decode_74 rfl (lv_at hl 1 rfl) ?_
        refine z_getP (own := RX14) (C := RX14) (TT := TX14) (N := 42) (ci := 15) (Ts := WR) hx hb hts zin_wsX140 hown hK hZ h_th k_th rfl 8 (by decide) (hts _ zw_21) (fun _ h9 => h9) f_th_8 dX14_decode_75 ?_
        refine z_goI (z_runSUp (x := ⟨"ShellPairModel$Curve", "below", "([J[J)Z"⟩) (owner := "ShellPairModel$Numbers") (n := 2) (As := [.ref qy, .ref pp]) (rest := []) ⟨hx, hb, hml, hown, hts⟩ ((c_X18_below l D K X Y L T h_qy k_qy ⟨by omega, by omega⟩ h_pp k_pp ⟨by omega, by omega⟩) H.size) rfl (zg_I zw_111) rfl rfl rfl ⟨Nat.le_of_ble_eq_true rfl, Nat.le_of_ble_eq_true rfl⟩ (hts _ zw_108) (hts _ zw_109) (hts _ zw_110) (hts _ zw_66) (by decide +kernel) (z_preS hK hZ) rfl rfl hl.1 rfl (lv_room (Nat.le_of_ble_eq_true rfl)) dX14_decode_78 ⟨Nat.le_of_ble_eq_true rfl, Nat.le_of_ble_eq_true rfl⟩) hZ hS hA (fun x1 Y1 L1 T1 H locs hp hZ hS => ?_)
        cases hp
        refine lv_if_ne (tgt := 86) hx hb dX14_decode_81 (by decide) (fun c81 => ?_) (fun c81 => ?_)
        · refine lv_aload_n hx hb dX14_decode_86 rfl (lv_at hl 1 rfl) ?_
          refine lv_aload_n hx hb dX14_decode_87 rfl (lv_at hl 1 rfl) ?_
          refine z_getP (own := RX14) (C := RX14) (TT := TX14) (N := 42) (ci := 15) (Ts := WR) hx hb hts zin_wsX140 hown hK hZ h_th k_th rfl 22 (by decide) (hts _ zw_35) (fun _ h9 => h9) f_th_22 dX14_decode_88 ?_
          refine lv_aload_n hx hb dX14_decode_91 rfl (lv_at hl 1 rfl) ?_
          refine z_getP (own := RX14) (C := RX14) (TT := TX14) (N := 42) (ci := 15) (Ts := WR) hx hb hts zin_wsX140 hown hK hZ h_th k_th rfl 19 (by decide) (hts _ zw_32) (fun _ h9 => h9) f_th_19 dX14_decode_92 ?_
          refine lv_aload_n hx hb dX14_decode_95 rfl (lv_at hl 1 rfl) ?_
          refine z_getP (own := RX14) (C := RX14) (TT := TX14) (N := 42) (ci := 15) (Ts := WR) hx hb hts zin_wsX140 hown hK hZ h_th k_th rfl 19 (by decide) (hts _ zw_32) (fun _ h9 => h9) f_th_19 dX14_decode_96 ?_
          refine lv_aload_n hx hb dX14_decode_99 rfl (lv_at hl 1 rfl) ?_
          refine z_getP (own := RX14) (C := RX14) (TT := TX14) (N := 42) (ci := 15) (Ts := WR) hx hb hts zin_wsX140 hown hK hZ h_th k_th rfl 8 (by decide) (hts _ zw_21) (fun _ h9 => h9) f_th_8 dX14_decode_100 ?_
          refine lv_aload_n hx hb dX14_decode_103 rfl (lv_at hl 1 rfl) ?_
          refine z_getP (own := RX14) (C := RX14) (TT := TX14) (N := 42) (ci := 15) (Ts := WR) hx hb hts zin_wsX140 hown hK hZ h_th k_th rfl 9 (by decide) (hts _ zw_22) (fun _ h9 => h9) f_th_9 dX14_decode_104 ?_
          refine z_goV (va_runU (C := RX14) (owner := "ShellPairModel$Numbers") (x := ⟨"ShellPairModel$Curve", "times", "([J[J[J[J[J)V"⟩) (As := [.ref fa, .ref qy, .ref qy, .ref pp, .ref pt]) (rest := []) ⟨hx, hb, hml, hown, hts⟩ ((c_X18_times l D K X Y L T h_th k_th f_th_0 h_product k_product ⟨by omega, by omega⟩ f_th_1 h_sum k_sum ⟨by omega, by omega⟩ h_fa k_fa ⟨by omega, by omega⟩ h_qy k_qy ⟨by omega, by omega⟩ h_qy k_qy ⟨by omega, by omega⟩ h_pp k_pp ⟨by omega, by omega⟩ h_pt k_pt ⟨by omega, by omega⟩) H.size) (va_cwU 5 hts (zg_U zw_80 zw_83 zw_81 zw_84 zw_66 zw_82) rfl rfl rfl rfl (by decide +kernel) ⟨Nat.le_of_ble_eq_true rfl, Nat.le_of_ble_eq_true rfl⟩) (z_preV hK hZ (z_recvP hK hZ h_th k_th rfl)) rfl rfl hl.1 rfl (lv_room (Nat.le_of_ble_eq_true rfl)) dX14_decode_107 ⟨Nat.le_of_ble_eq_true rfl, Nat.le_of_ble_eq_true rfl⟩) hZ hS hA (fun  Y1 L1 T1 H locs hp hZ hS => ?_)
          cases hp
          refine lv_aload_n hx hb dX14_decode_110 rfl (lv_at hl 1 rfl) ?_
          refine lv_aload_n hx hb dX14_decode_111 rfl (lv_at hl 1 rfl) ?_
          refine z_getP (own := RX14) (C := RX14) (TT := TX14) (N := 42) (ci := 15) (Ts := WR) hx hb hts zin_wsX140 hown hK hZ h_th k_th rfl 23 (by decide) (hts _ zw_36) (fun _ h9 => h9) f_th_23 dX14_decode_112 ?_
          refine lv_aload_n hx hb dX14_decode_115 rfl (lv_at hl 1 rfl) ?_
          refine z_getP (own := RX14) (C := RX14) (TT := TX14) (N := 42) (ci := 15) (Ts := WR) hx hb hts zin_wsX140 hown hK hZ h_th k_th rfl 22 (by decide) (hts _ zw_35) (fun _ h9 => h9) f_th_22 dX14_decode_116 ?_
          refine lv_aload_n hx hb dX14_decode_119 rfl (lv_at hl 1 rfl) ?_
          refine z_getP (own := RX14) (C := RX14) (TT := TX14) (N := 42) (ci := 15) (Ts := WR) hx hb hts zin_wsX140 hown hK hZ h_th k_th rfl 12 (by decide) (hts _ zw_25) (fun _ h9 => h9) f_th_12 dX14_decode_120 ?_
          refine lv_aload_n hx hb dX14_decode_123 rfl (lv_at hl 1 rfl) ?_
          refine z_getP (own := RX14) (C := RX14) (TT := TX14) (N := 42) (ci := 15) (Ts := WR) hx hb hts zin_wsX140 hown hK hZ h_th k_th rfl 8 (by decide) (hts _ zw_21) (fun _ h9 => h9) f_th_8 dX14_decode_124 ?_
          refine lv_aload_n hx hb dX14_decode_127 rfl (lv_at hl 1 rfl) ?_
          refine z_getP (own := RX14) (C := RX14) (TT := TX14) (N := 42) (ci := 15) (Ts := WR) hx hb hts zin_wsX140 hown hK hZ h_th k_th rfl 9 (by decide) (hts _ zw_22) (fun _ h9 => h9) f_th_9 dX14_decode_128 ?_
          refine z_goV (va_runU (C := RX14) (owner := "ShellPairModel$Numbers") (x := ⟨"ShellPairModel$Curve", "times", "([J[J[J[J[J)V"⟩) (As := [.ref fb, .ref fa, .ref dd, .ref pp, .ref pt]) (rest := []) ⟨hx, hb, hml, hown, hts⟩ ((c_X18_times l D K X Y L T h_th k_th f_th_0 h_product k_product ⟨by omega, by omega⟩ f_th_1 h_sum k_sum ⟨by omega, by omega⟩ h_fb k_fb ⟨by omega, by omega⟩ h_fa k_fa ⟨by omega, by omega⟩ h_dd k_dd ⟨by omega, by omega⟩ h_pp k_pp ⟨by omega, by omega⟩ h_pt k_pt ⟨by omega, by omega⟩) H.size) (va_cwU 5 hts (zg_U zw_80 zw_83 zw_81 zw_84 zw_66 zw_82) rfl rfl rfl rfl (by decide +kernel) ⟨Nat.le_of_ble_eq_true rfl, Nat.le_of_ble_eq_true rfl⟩) (z_preV hK hZ (z_recvP hK hZ h_th k_th rfl)) rfl rfl hl.1 rfl (lv_room (Nat.le_of_ble_eq_true rfl)) dX14_decode_131 ⟨Nat.le_of_ble_eq_true rfl, Nat.le_of_ble_eq_true rfl⟩) hZ hS hA (fun  Y1 L1 T1 H locs hp hZ hS => ?_)
          cases hp
          refine lv_aload_n hx hb dX14_decode_134 rfl (lv_at hl 1 rfl) ?_
          refine z_getP (own := RX14) (C := RX14) (TT := TX14) (N := 42) (ci := 15) (Ts := WR) hx hb hts zin_wsX140 hown hK hZ h_th k_th rfl 22 (by decide) (hts _ zw_35) (fun _ h9 => h9) f_th_22 dX14_decode_135 ?_
          refine lv_aload_n hx hb dX14_decode_138 rfl (lv_at hl 1 rfl) ?_
          refine z_getP (own := RX14) (C := RX14) (TT := TX14) (N := 42) (ci := 15) (Ts := WR) hx hb hts zin_wsX140 hown hK hZ h_th k_th rfl 22 (by decide) (hts _ zw_35) (fun _ h9 => h9) f_th_22 dX14_decode_139 ?_
          refine lv_aload_n hx hb dX14_decode_142 rfl (lv_at hl 1 rfl) ?_
          refine z_getP (own := RX14) (C := RX14) (TT := TX14) (N := 42) (ci := 15) (Ts := WR) hx hb hts zin_wsX140 hown hK hZ h_th k_th rfl 32 (by decide) (hts _ zw_45) (fun _ h9 => h9) f_th_32 dX14_decode_143 ?_
          refine lv_aload_n hx hb dX14_decode_146 rfl (lv_at hl 1 rfl) ?_
          refine z_getP (own := RX14) (C := RX14) (TT := TX14) (N := 42) (ci := 15) (Ts := WR) hx hb hts zin_wsX140 hown hK hZ h_th k_th rfl 8 (by decide) (hts _ zw_21) (fun _ h9 => h9) f_th_8 dX14_decode_147 ?_
          refine z_goV (z_runSUp (x := ⟨"ShellPairModel$Curve", "minus", "([J[J[J[J)V"⟩) (owner := "ShellPairModel$Numbers") (n := 4) (As := [.ref fa, .ref fa, .ref one, .ref pp]) (rest := []) ⟨hx, hb, hml, hown, hts⟩ ((c_X18_minus l D K X Y L T h_fa k_fa ⟨by omega, by omega⟩ h_fa k_fa ⟨by omega, by omega⟩ h_one k_one ⟨by omega, by omega⟩ h_pp k_pp ⟨by omega, by omega⟩) H.size) rfl (zg_I zw_88) rfl rfl rfl ⟨Nat.le_of_ble_eq_true rfl, Nat.le_of_ble_eq_true rfl⟩ (hts _ zw_85) (hts _ zw_86) (hts _ zw_87) (hts _ zw_66) (by decide +kernel) (z_preS hK hZ) rfl rfl hl.1 rfl (lv_room (Nat.le_of_ble_eq_true rfl)) dX14_decode_150 ⟨Nat.le_of_ble_eq_true rfl, Nat.le_of_ble_eq_true rfl⟩) hZ hS hA (fun  Y1 L1 T1 H locs hp hZ hS => ?_)
          cases hp
          refine lv_aload_n hx hb dX14_decode_153 rfl (lv_at hl 1 rfl) ?_
          refine z_getP (own := RX14) (C := RX14) (TT := TX14) (N := 42) (ci := 15) (Ts := WR) hx hb hts zin_wsX140 hown hK hZ h_th k_th rfl 23 (by decide) (hts _ zw_36) (fun _ h9 => h9) f_th_23 dX14_decode_154 ?_
          refine lv_aload_n hx hb dX14_decode_157 rfl (lv_at hl 1 rfl) ?_
          refine z_getP (own := RX14) (C := RX14) (TT := TX14) (N := 42) (ci := 15) (Ts := WR) hx hb hts zin_wsX140 hown hK hZ h_th k_th rfl 23 (by decide) (hts _ zw_36) (fun _ h9 => h9) f_th_23 dX14_decode_158 ?_
          refine lv_aload_n hx hb dX14_decode_161 rfl (lv_at hl 1 rfl) ?_
          refine z_getP (own := RX14) (C := RX14) (TT := TX14) (N := 42) (ci := 15) (Ts := WR) hx hb hts zin_wsX140 hown hK hZ h_th k_th rfl 32 (by decide) (hts _ zw_45) (fun _ h9 => h9) f_th_32 dX14_decode_162 ?_
          refine lv_aload_n hx hb dX14_decode_165 rfl (lv_at hl 1 rfl) ?_
          refine z_getP (own := RX14) (C := RX14) (TT := TX14) (N := 42) (ci := 15) (Ts := WR) hx hb hts zin_wsX140 hown hK hZ h_th k_th rfl 8 (by decide) (hts _ zw_21) (fun _ h9 => h9) f_th_8 dX14_decode_166 ?_
          refine z_goV (z_runSUp (x := ⟨"ShellPairModel$Curve", "plus", "([J[J[J[J)V"⟩) (owner := "ShellPairModel$Numbers") (n := 4) (As := [.ref fb, .ref fb, .ref one, .ref pp]) (rest := []) ⟨hx, hb, hml, hown, hts⟩ ((c_X18_plus l D K X Y L T h_fb k_fb ⟨by omega, by omega⟩ h_fb k_fb ⟨by omega, by omega⟩ h_one k_one ⟨by omega, by omega⟩ h_pp k_pp ⟨by omega, by omega⟩) H.size) rfl (zg_I zw_115) rfl rfl rfl ⟨Nat.le_of_ble_eq_true rfl, Nat.le_of_ble_eq_true rfl⟩ (hts _ zw_112) (hts _ zw_113) (hts _ zw_114) (hts _ zw_66) (by decide +kernel) (z_preS hK hZ) rfl rfl hl.1 rfl (lv_room (Nat.le_of_ble_eq_true rfl)) dX14_decode_169 ⟨Nat.le_of_ble_eq_true rfl, Nat.le_of_ble_eq_true rfl⟩) hZ hS hA (fun  Y1 L1 T1 H locs hp hZ hS => ?_)
          cases hp
          refine lv_aload_n hx hb dX14_decode_172 rfl (lv_at hl 1 rfl) ?_
          refine lv_aload_n hx hb dX14_decode_173 rfl (lv_at hl 1 rfl) ?_
          refine z_getP (own := RX14) (C := RX14) (TT := TX14) (N := 42) (ci := 15) (Ts := WR) hx hb hts zin_wsX140 hown hK hZ h_th k_th rfl 24 (by decide) (hts _ zw_37) (fun _ h9 => h9) f_th_24 dX14_decode_174 ?_
          refine lv_aload_n hx hb dX14_decode_177 rfl (lv_at hl 1 rfl) ?_
          refine z_getP (own := RX14) (C := RX14) (TT := TX14) (N := 42) (ci := 15) (Ts := WR) hx hb hts zin_wsX140 hown hK hZ h_th k_th rfl 23 (by decide) (hts _ zw_36) (fun _ h9 => h9) f_th_23 dX14_decode_178 ?_
          refine lv_aload_n hx hb dX14_decode_181 rfl (lv_at hl 1 rfl) ?_
          refine z_getP (own := RX14) (C := RX14) (TT := TX14) (N := 42) (ci := 15) (Ts := WR) hx hb hts zin_wsX140 hown hK hZ h_th k_th rfl 8 (by decide) (hts _ zw_21) (fun _ h9 => h9) f_th_8 dX14_decode_182 ?_
          refine z_goV (va_runU (C := RX14) (owner := "ShellPairModel$Numbers") (x := ⟨"ShellPairModel$Curve", "inverse", "([J[J[J)V"⟩) (As := [.ref fc, .ref fb, .ref pp]) (rest := []) ⟨hx, hb, hml, hown, hts⟩ ((c_X18_inverse l D K X Y L T h_th k_th f_th_2 h_u k_u ⟨by omega, by omega⟩ f_th_3 h_v k_v ⟨by omega, by omega⟩ f_th_4 h_x1 k_x1 ⟨by omega, by omega⟩ f_th_5 h_x2 k_x2 ⟨by omega, by omega⟩ h_fc k_fc ⟨by omega, by omega⟩ h_fb k_fb ⟨by omega, by omega⟩ h_pp k_pp ⟨by omega, by omega⟩) H.size) (va_cwU 3 hts (zg_U zw_75 zw_78 zw_76 zw_79 zw_66 zw_77) rfl rfl rfl rfl (by decide +kernel) ⟨Nat.le_of_ble_eq_true rfl, Nat.le_of_ble_eq_true rfl⟩) (z_preV hK hZ (z_recvP hK hZ h_th k_th rfl)) rfl rfl hl.1 rfl (lv_room (Nat.le_of_ble_eq_true rfl)) dX14_decode_185 ⟨Nat.le_of_ble_eq_true rfl, Nat.le_of_ble_eq_true rfl⟩) hZ hS hA (fun  Y1 L1 T1 H locs hp hZ hS => ?_)
          cases hp
          refine lv_aload_n hx hb dX14_decode_188 rfl (lv_at hl 1 rfl) ?_
          refine lv_aload_n hx hb dX14_decode_189 rfl (lv_at hl 1 rfl) ?_
          refine z_getP (own := RX14) (C := RX14) (TT := TX14) (N := 42) (ci := 15) (Ts := WR) hx hb hts zin_wsX140 hown hK hZ h_th k_th rfl 22 (by decide) (hts _ zw_35) (fun _ h9 => h9) f_th_22 dX14_decode_190 ?_
          refine lv_aload_n hx hb dX14_decode_193 rfl (lv_at hl 1 rfl) ?_
          refine z_getP (own := RX14) (C := RX14) (TT := TX14) (N := 42) (ci := 15) (Ts := WR) hx hb hts zin_wsX140 hown hK hZ h_th k_th rfl 22 (by decide) (hts _ zw_35) (fun _ h9 => h9) f_th_22 dX14_decode_194 ?_
          refine lv_aload_n hx hb dX14_decode_197 rfl (lv_at hl 1 rfl) ?_
          refine z_getP (own := RX14) (C := RX14) (TT := TX14) (N := 42) (ci := 15) (Ts := WR) hx hb hts zin_wsX140 hown hK hZ h_th k_th rfl 24 (by decide) (hts _ zw_37) (fun _ h9 => h9) f_th_24 dX14_decode_198 ?_
          refine lv_aload_n hx hb dX14_decode_201 rfl (lv_at hl 1 rfl) ?_
          refine z_getP (own := RX14) (C := RX14) (TT := TX14) (N := 42) (ci := 15) (Ts := WR) hx hb hts zin_wsX140 hown hK hZ h_th k_th rfl 8 (by decide) (hts _ zw_21) (fun _ h9 => h9) f_th_8 dX14_decode_202 ?_
          refine lv_aload_n hx hb dX14_decode_205 rfl (lv_at hl 1 rfl) ?_
          refine z_getP (own := RX14) (C := RX14) (TT := TX14) (N := 42) (ci := 15) (Ts := WR) hx hb hts zin_wsX140 hown hK hZ h_th k_th rfl 9 (by decide) (hts _ zw_22) (fun _ h9 => h9) f_th_9 dX14_decode_206 ?_
          refine z_goV (va_runU (C := RX14) (owner := "ShellPairModel$Numbers") (x := ⟨"ShellPairModel$Curve", "times", "([J[J[J[J[J)V"⟩) (As := [.ref fa, .ref fa, .ref fc, .ref pp, .ref pt]) (rest := []) ⟨hx, hb, hml, hown, hts⟩ ((c_X18_times l D K X Y L T h_th k_th f_th_0 h_product k_product ⟨by omega, by omega⟩ f_th_1 h_sum k_sum ⟨by omega, by omega⟩ h_fa k_fa ⟨by omega, by omega⟩ h_fa k_fa ⟨by omega, by omega⟩ h_fc k_fc ⟨by omega, by omega⟩ h_pp k_pp ⟨by omega, by omega⟩ h_pt k_pt ⟨by omega, by omega⟩) H.size) (va_cwU 5 hts (zg_U zw_80 zw_83 zw_81 zw_84 zw_66 zw_82) rfl rfl rfl rfl (by decide +kernel) ⟨Nat.le_of_ble_eq_true rfl, Nat.le_of_ble_eq_true rfl⟩) (z_preV hK hZ (z_recvP hK hZ h_th k_th rfl)) rfl rfl hl.1 rfl (lv_room (Nat.le_of_ble_eq_true rfl)) dX14_decode_209 ⟨Nat.le_of_ble_eq_true rfl, Nat.le_of_ble_eq_true rfl⟩) hZ hS hA (fun  Y1 L1 T1 H locs hp hZ hS => ?_)
          cases hp
          refine lv_iconst (v := nI 0) hx hb dX14_decode_212 (by decide +kernel) ?_
          refine lv_istore_n (lv' := [(1, .int (nI 0)), (0, .ref th)]) hx hb dX14_decode_213 rfl hl (by decide) rfl (fun ls hl => ?_)
          have L214 : ∀ (n i214 : Nat), i214 ≤ 16 → 16 + 1 ≤ i214 + n → ∀  (H : Heap) (locs : List Loc) (ls : Array Slot), zP D vwCl A X Y L T H → va_S A s.heap H locs → lv_has ls 2 [(1, .int (nI i214)), (0, .ref th)] → W p l e ROOM_X14_decode s m [.ref th].toArray below meth c H locs 0 0 (MQ below (va_Qi (fun _ => zSame Y L T) (zB D vwCl (zT K) A X) A) [.ref th].toArray s 0 0 A) (F0 m 214 ls []) := by
            intro n
            induction n with
            | zero => intro i214 u214 w214; exact absurd w214 (by omega)
            | succ n ih214 =>
              intro i214 u214 w214  H locs ls hZ hS hl 
              refine lv_iload_n hx hb dX14_decode_214 rfl (lv_at hl 0 rfl) ?_
              refine lv_bipush (v := nI 16) hx hb dX14_decode_215 (by decide +kernel) ?_
              refine lv_icmp_ge (tgt := 257) hx hb dX14_decode_217 (by decide) (fun c217 => ?_) (fun c217 => ?_)
              · have e217 : 16 ≤ i214 := (nI_leI (a := 16) (b := i214) (by omega) (by omega)).mp c217
                have J335 : ∀  (H : Heap) (locs : List Loc) (ls : Array Slot), zP D vwCl A X Y L T H → va_S A s.heap H locs → lv_has ls 2 [(0, .ref th)] → W p l e ROOM_X14_decode s m [.ref th].toArray below meth c H locs 0 0 (MQ below (va_Qi (fun _ => zSame Y L T) (zB D vwCl (zT K) A X) A) [.ref th].toArray s 0 0 A) (F0 m 335 ls []) := by
                  intro  H locs ls hZ hS hl 
                  refine lv_aload_n hx hb dX14_decode_335 rfl (lv_at hl 0 rfl) ?_
                  refine lv_aload_n hx hb dX14_decode_336 rfl (lv_at hl 0 rfl) ?_
                  refine z_getP (own := RX14) (C := RX14) (TT := TX14) (N := 42) (ci := 15) (Ts := WR) hx hb hts zin_wsX140 hown hK hZ h_th k_th rfl 24 (by decide) (hts _ zw_37) (fun _ h9 => h9) f_th_24 dX14_decode_337 ?_
                  refine lv_aload_n hx hb dX14_decode_340 rfl (lv_at hl 0 rfl) ?_
                  refine z_getP (own := RX14) (C := RX14) (TT := TX14) (N := 42) (ci := 15) (Ts := WR) hx hb hts zin_wsX140 hown hK hZ h_th k_th rfl 18 (by decide) (hts _ zw_31) (fun _ h9 => h9) f_th_18 dX14_decode_341 ?_
                  refine lv_aload_n hx hb dX14_decode_344 rfl (lv_at hl 0 rfl) ?_
                  refine z_getP (own := RX14) (C := RX14) (TT := TX14) (N := 42) (ci := 15) (Ts := WR) hx hb hts zin_wsX140 hown hK hZ h_th k_th rfl 18 (by decide) (hts _ zw_31) (fun _ h9 => h9) f_th_18 dX14_decode_345 ?_
                  refine lv_aload_n hx hb dX14_decode_348 rfl (lv_at hl 0 rfl) ?_
                  refine z_getP (own := RX14) (C := RX14) (TT := TX14) (N := 42) (ci := 15) (Ts := WR) hx hb hts zin_wsX140 hown hK hZ h_th k_th rfl 8 (by decide) (hts _ zw_21) (fun _ h9 => h9) f_th_8 dX14_decode_349 ?_
                  refine lv_aload_n hx hb dX14_decode_352 rfl (lv_at hl 0 rfl) ?_
                  refine z_getP (own := RX14) (C := RX14) (TT := TX14) (N := 42) (ci := 15) (Ts := WR) hx hb hts zin_wsX140 hown hK hZ h_th k_th rfl 9 (by decide) (hts _ zw_22) (fun _ h9 => h9) f_th_9 dX14_decode_353 ?_
                  refine z_goV (va_runU (C := RX14) (owner := "ShellPairModel$Numbers") (x := ⟨"ShellPairModel$Curve", "times", "([J[J[J[J[J)V"⟩) (As := [.ref fc, .ref qx, .ref qx, .ref pp, .ref pt]) (rest := []) ⟨hx, hb, hml, hown, hts⟩ ((c_X18_times l D K X Y L T h_th k_th f_th_0 h_product k_product ⟨by omega, by omega⟩ f_th_1 h_sum k_sum ⟨by omega, by omega⟩ h_fc k_fc ⟨by omega, by omega⟩ h_qx k_qx ⟨by omega, by omega⟩ h_qx k_qx ⟨by omega, by omega⟩ h_pp k_pp ⟨by omega, by omega⟩ h_pt k_pt ⟨by omega, by omega⟩) H.size) (va_cwU 5 hts (zg_U zw_80 zw_83 zw_81 zw_84 zw_66 zw_82) rfl rfl rfl rfl (by decide +kernel) ⟨Nat.le_of_ble_eq_true rfl, Nat.le_of_ble_eq_true rfl⟩) (z_preV hK hZ (z_recvP hK hZ h_th k_th rfl)) rfl rfl hl.1 rfl (lv_room (Nat.le_of_ble_eq_true rfl)) dX14_decode_356 ⟨Nat.le_of_ble_eq_true rfl, Nat.le_of_ble_eq_true rfl⟩) hZ hS hA (fun  Y1 L1 T1 H locs hp hZ hS => ?_)
                  cases hp
                  refine lv_aload_n hx hb dX14_decode_359 rfl (lv_at hl 0 rfl) ?_
                  refine z_getP (own := RX14) (C := RX14) (TT := TX14) (N := 42) (ci := 15) (Ts := WR) hx hb hts zin_wsX140 hown hK hZ h_th k_th rfl 24 (by decide) (hts _ zw_37) (fun _ h9 => h9) f_th_24 dX14_decode_360 ?_
                  refine lv_aload_n hx hb dX14_decode_363 rfl (lv_at hl 0 rfl) ?_
                  refine z_getP (own := RX14) (C := RX14) (TT := TX14) (N := 42) (ci := 15) (Ts := WR) hx hb hts zin_wsX140 hown hK hZ h_th k_th rfl 22 (by decide) (hts _ zw_35) (fun _ h9 => h9) f_th_22 dX14_decode_364 ?_
                  refine z_goI (z_runSUp (x := ⟨"ShellPairModel$Curve", "alike", "([J[J)Z"⟩) (owner := "ShellPairModel$Numbers") (n := 2) (As := [.ref fc, .ref fa]) (rest := []) ⟨hx, hb, hml, hown, hts⟩ ((c_X18_alike l D K X Y L T h_fc k_fc ⟨by omega, by omega⟩ h_fa k_fa ⟨by omega, by omega⟩) H.size) rfl (zg_I zw_121) rfl rfl rfl ⟨Nat.le_of_ble_eq_true rfl, Nat.le_of_ble_eq_true rfl⟩ (hts _ zw_118) (hts _ zw_119) (hts _ zw_120) (hts _ zw_66) (by decide +kernel) (z_preS hK hZ) rfl rfl hl.1 rfl (lv_room (Nat.le_of_ble_eq_true rfl)) dX14_decode_367 ⟨Nat.le_of_ble_eq_true rfl, Nat.le_of_ble_eq_true rfl⟩) hZ hS hA (fun x9 Y1 L1 T1 H locs hp hZ hS => ?_)
                  cases hp
                  refine lv_if_ne (tgt := 375) hx hb dX14_decode_370 (by decide) (fun c370 => ?_) (fun c370 => ?_)
                  · refine lv_aload_n hx hb dX14_decode_375 rfl (lv_at hl 0 rfl) ?_
                    refine z_getP (own := RX14) (C := RX14) (TT := TX14) (N := 42) (ci := 15) (Ts := WR) hx hb hts zin_wsX140 hown hK hZ h_th k_th rfl 37 (by decide) (hts _ zw_50) (fun _ h9 => h9) f_th_37 dX14_decode_376 ?_
                    refine lv_bipush (v := nI 31) hx hb dX14_decode_379 (by decide +kernel) ?_
                    refine z_bald hx hb hK hZ 2 h_row k_row rfl (vp_in_nI (by omega) (by omega)) dX14_decode_381 (fun x10 => ?_)
                    refine lv_bipush (v := nI 7) hx hb dX14_decode_382 (by decide +kernel) ?_
                    refine lv_ishr hx hb dX14_decode_384 ?_
                    refine lv_topi (fun x11 ex11 => ?_)
                    refine lv_iconst (v := nI 1) hx hb dX14_decode_385 (by decide +kernel) ?_
                    refine lv_iand hx hb dX14_decode_386 ?_
                    refine lv_topi (fun x12 ex12 => ?_)
                    obtain ⟨jx12, bx12, rfl⟩ : ∃ j : Nat, j < 2 ∧ x12 = nI j := by obtain ⟨j, h1, h2⟩ := pk_andE x11 (m := nI 1) 1 (by decide +kernel); exact ⟨j, h1, ex12.trans h2⟩
                    refine lv_istore_n (lv' := [(1, .int (nI jx12)), (0, .ref th)]) hx hb dX14_decode_387 rfl hl (by decide) rfl (fun ls hl => ?_)
                    refine lv_aload_n hx hb dX14_decode_388 rfl (lv_at hl 1 rfl) ?_
                    refine z_getP (own := RX14) (C := RX14) (TT := TX14) (N := 42) (ci := 15) (Ts := WR) hx hb hts zin_wsX140 hown hK hZ h_th k_th rfl 18 (by decide) (hts _ zw_31) (fun _ h9 => h9) f_th_18 dX14_decode_389 ?_
                    refine z_goI (z_runSUp (x := ⟨"ShellPairModel$Curve", "zero", "([J)Z"⟩) (owner := "ShellPairModel$Numbers") (n := 1) (As := [.ref qx]) (rest := []) ⟨hx, hb, hml, hown, hts⟩ ((c_X18_zero l D K X Y L T h_qx k_qx ⟨by omega, by omega⟩) H.size) rfl (zg_I zw_125) rfl rfl rfl ⟨Nat.le_of_ble_eq_true rfl, Nat.le_of_ble_eq_true rfl⟩ (hts _ zw_122) (hts _ zw_123) (hts _ zw_124) (hts _ zw_66) (by decide +kernel) (z_preS hK hZ) rfl rfl hl.1 rfl (lv_room (Nat.le_of_ble_eq_true rfl)) dX14_decode_392 ⟨Nat.le_of_ble_eq_true rfl, Nat.le_of_ble_eq_true rfl⟩) hZ hS hA (fun x13 Y1 L1 T1 H locs hp hZ hS => ?_)
                    cases hp
                    refine lv_if_eq (tgt := 405) hx hb dX14_decode_395 (by decide) (fun c395 => ?_) (fun c395 => ?_)
                    · refine lv_aload_n hx hb dX14_decode_405 rfl (lv_at hl 1 rfl) ?_
                      refine z_getP (own := RX14) (C := RX14) (TT := TX14) (N := 42) (ci := 15) (Ts := WR) hx hb hts zin_wsX140 hown hK hZ h_th k_th rfl 18 (by decide) (hts _ zw_31) (fun _ h9 => h9) f_th_18 dX14_decode_406 ?_
                      refine lv_iconst (v := nI 0) hx hb dX14_decode_409 (by decide +kernel) ?_
                      refine z_lald hx hb hK hZ 1 h_qx k_qx rfl (vp_in_nI (by omega) (by omega)) dX14_decode_410 (fun x14 => ?_)
                      refine lv_lconst (v := 1) hx hb dX14_decode_411 (by decide +kernel) ?_
                      refine lv_land hx hb dX14_decode_412 ?_
                      refine lv_topl (fun x15 _ => ?_)
                      refine lv_iload_n hx hb dX14_decode_413 rfl (lv_at hl 0 rfl) ?_
                      refine lv_i2l hx hb dX14_decode_414 rfl ?_
                      refine lv_topl (fun x16 _ => ?_)
                      refine W.lcmp hx hb dX14_decode_415 ?_
                      refine lv_topi (fun x17 ex17 => ?_)
                      refine lv_if_eq (tgt := 446) hx hb dX14_decode_416 (by decide) (fun c416 => ?_) (fun c416 => ?_)
                      · refine lv_iconst (v := nI 1) hx hb dX14_decode_446 (by decide +kernel) ?_
                        exact z_iret hx hb hr rfl hlocks hK hZ hS rfl (Nat.le_of_ble_eq_true rfl) (Nat.le_of_ble_eq_true rfl) dX14_decode_447
                      · refine lv_aload_n hx hb dX14_decode_419 rfl (lv_at hl 1 rfl) ?_
                        refine z_getP (own := RX14) (C := RX14) (TT := TX14) (N := 42) (ci := 15) (Ts := WR) hx hb hts zin_wsX140 hown hK hZ h_th k_th rfl 24 (by decide) (hts _ zw_37) (fun _ h9 => h9) f_th_24 dX14_decode_420 ?_
                        refine lv_iconst (v := nI 0) hx hb dX14_decode_423 (by decide +kernel) ?_
                        refine z_goV (z_runSUp (x := ⟨"ShellPairModel$Curve", "set", "([JI)V"⟩) (owner := "ShellPairModel$Numbers") (n := 2) (As := [.ref fc, .int (nI 0)]) (rest := []) ⟨hx, hb, hml, hown, hts⟩ ((c_X18_set l D K X Y L T h_fc k_fc ⟨by omega, by omega⟩) H.size) rfl (zg_I zw_72) rfl rfl rfl ⟨Nat.le_of_ble_eq_true rfl, Nat.le_of_ble_eq_true rfl⟩ (hts _ zw_69) (hts _ zw_70) (hts _ zw_71) (hts _ zw_66) (by decide +kernel) (z_preS hK hZ) rfl rfl hl.1 rfl (lv_room (Nat.le_of_ble_eq_true rfl)) dX14_decode_424 ⟨Nat.le_of_ble_eq_true rfl, Nat.le_of_ble_eq_true rfl⟩) hZ hS hA (fun  Y1 L1 T1 H locs hp hZ hS => ?_)
                        cases hp
                        refine lv_aload_n hx hb dX14_decode_427 rfl (lv_at hl 1 rfl) ?_
                        refine z_getP (own := RX14) (C := RX14) (TT := TX14) (N := 42) (ci := 15) (Ts := WR) hx hb hts zin_wsX140 hown hK hZ h_th k_th rfl 18 (by decide) (hts _ zw_31) (fun _ h9 => h9) f_th_18 dX14_decode_428 ?_
                        refine lv_aload_n hx hb dX14_decode_431 rfl (lv_at hl 1 rfl) ?_
                        refine z_getP (own := RX14) (C := RX14) (TT := TX14) (N := 42) (ci := 15) (Ts := WR) hx hb hts zin_wsX140 hown hK hZ h_th k_th rfl 24 (by decide) (hts _ zw_37) (fun _ h9 => h9) f_th_24 dX14_decode_432 ?_
                        refine lv_aload_n hx hb dX14_decode_435 rfl (lv_at hl 1 rfl) ?_
                        refine z_getP (own := RX14) (C := RX14) (TT := TX14) (N := 42) (ci := 15) (Ts := WR) hx hb hts zin_wsX140 hown hK hZ h_th k_th rfl 18 (by decide) (hts _ zw_31) (fun _ h9 => h9) f_th_18 dX14_decode_436 ?_
                        refine lv_aload_n hx hb dX14_decode_439 rfl (lv_at hl 1 rfl) ?_
                        refine z_getP (own := RX14) (C := RX14) (TT := TX14) (N := 42) (ci := 15) (Ts := WR) hx hb hts zin_wsX140 hown hK hZ h_th k_th rfl 8 (by decide) (hts _ zw_21) (fun _ h9 => h9) f_th_8 dX14_decode_440 ?_
                        refine z_goV (z_runSUp (x := ⟨"ShellPairModel$Curve", "minus", "([J[J[J[J)V"⟩) (owner := "ShellPairModel$Numbers") (n := 4) (As := [.ref qx, .ref fc, .ref qx, .ref pp]) (rest := []) ⟨hx, hb, hml, hown, hts⟩ ((c_X18_minus l D K X Y L T h_qx k_qx ⟨by omega, by omega⟩ h_fc k_fc ⟨by omega, by omega⟩ h_qx k_qx ⟨by omega, by omega⟩ h_pp k_pp ⟨by omega, by omega⟩) H.size) rfl (zg_I zw_88) rfl rfl rfl ⟨Nat.le_of_ble_eq_true rfl, Nat.le_of_ble_eq_true rfl⟩ (hts _ zw_85) (hts _ zw_86) (hts _ zw_87) (hts _ zw_66) (by decide +kernel) (z_preS hK hZ) rfl rfl hl.1 rfl (lv_room (Nat.le_of_ble_eq_true rfl)) dX14_decode_443 ⟨Nat.le_of_ble_eq_true rfl, Nat.le_of_ble_eq_true rfl⟩) hZ hS hA (fun  Y1 L1 T1 H locs hp hZ hS => ?_)
                        cases hp
                        refine lv_iconst (v := nI 1) hx hb dX14_decode_446 (by decide +kernel) ?_
                        exact z_iret hx hb hr rfl hlocks hK hZ hS rfl (Nat.le_of_ble_eq_true rfl) (Nat.le_of_ble_eq_true rfl) dX14_decode_447
                    · refine lv_iload_n hx hb dX14_decode_398 rfl (lv_at hl 0 rfl) ?_
                      refine lv_iconst (v := nI 1) hx hb dX14_decode_399 (by decide +kernel) ?_
                      refine lv_icmp_ne (tgt := 405) hx hb dX14_decode_400 (by decide) (fun c400 => ?_) (fun c400 => ?_)
                      · have e400 : ¬ jx12 = 1 := fun q => c400 ((nI_eq (a := jx12) (b := 1) (by omega) (by omega)).mpr q)
                        refine lv_aload_n hx hb dX14_decode_405 rfl (lv_at hl 1 rfl) ?_
                        refine z_getP (own := RX14) (C := RX14) (TT := TX14) (N := 42) (ci := 15) (Ts := WR) hx hb hts zin_wsX140 hown hK hZ h_th k_th rfl 18 (by decide) (hts _ zw_31) (fun _ h9 => h9) f_th_18 dX14_decode_406 ?_
                        refine lv_iconst (v := nI 0) hx hb dX14_decode_409 (by decide +kernel) ?_
                        refine z_lald hx hb hK hZ 1 h_qx k_qx rfl (vp_in_nI (by omega) (by omega)) dX14_decode_410 (fun x20 => ?_)
                        refine lv_lconst (v := 1) hx hb dX14_decode_411 (by decide +kernel) ?_
                        refine lv_land hx hb dX14_decode_412 ?_
                        refine lv_topl (fun x21 _ => ?_)
                        refine lv_iload_n hx hb dX14_decode_413 rfl (lv_at hl 0 rfl) ?_
                        refine lv_i2l hx hb dX14_decode_414 rfl ?_
                        refine lv_topl (fun x22 _ => ?_)
                        refine W.lcmp hx hb dX14_decode_415 ?_
                        refine lv_topi (fun x23 ex23 => ?_)
                        refine lv_if_eq (tgt := 446) hx hb dX14_decode_416 (by decide) (fun c416 => ?_) (fun c416 => ?_)
                        · refine lv_iconst (v := nI 1) hx hb dX14_decode_446 (by decide +kernel) ?_
                          exact z_iret hx hb hr rfl hlocks hK hZ hS rfl (Nat.le_of_ble_eq_true rfl) (Nat.le_of_ble_eq_true rfl) dX14_decode_447
                        · refine lv_aload_n hx hb dX14_decode_419 rfl (lv_at hl 1 rfl) ?_
                          refine z_getP (own := RX14) (C := RX14) (TT := TX14) (N := 42) (ci := 15) (Ts := WR) hx hb hts zin_wsX140 hown hK hZ h_th k_th rfl 24 (by decide) (hts _ zw_37) (fun _ h9 => h9) f_th_24 dX14_decode_420 ?_
                          refine lv_iconst (v := nI 0) hx hb dX14_decode_423 (by decide +kernel) ?_
                          refine z_goV (z_runSUp (x := ⟨"ShellPairModel$Curve", "set", "([JI)V"⟩) (owner := "ShellPairModel$Numbers") (n := 2) (As := [.ref fc, .int (nI 0)]) (rest := []) ⟨hx, hb, hml, hown, hts⟩ ((c_X18_set l D K X Y L T h_fc k_fc ⟨by omega, by omega⟩) H.size) rfl (zg_I zw_72) rfl rfl rfl ⟨Nat.le_of_ble_eq_true rfl, Nat.le_of_ble_eq_true rfl⟩ (hts _ zw_69) (hts _ zw_70) (hts _ zw_71) (hts _ zw_66) (by decide +kernel) (z_preS hK hZ) rfl rfl hl.1 rfl (lv_room (Nat.le_of_ble_eq_true rfl)) dX14_decode_424 ⟨Nat.le_of_ble_eq_true rfl, Nat.le_of_ble_eq_true rfl⟩) hZ hS hA (fun  Y1 L1 T1 H locs hp hZ hS => ?_)
                          cases hp
                          refine lv_aload_n hx hb dX14_decode_427 rfl (lv_at hl 1 rfl) ?_
                          refine z_getP (own := RX14) (C := RX14) (TT := TX14) (N := 42) (ci := 15) (Ts := WR) hx hb hts zin_wsX140 hown hK hZ h_th k_th rfl 18 (by decide) (hts _ zw_31) (fun _ h9 => h9) f_th_18 dX14_decode_428 ?_
                          refine lv_aload_n hx hb dX14_decode_431 rfl (lv_at hl 1 rfl) ?_
                          refine z_getP (own := RX14) (C := RX14) (TT := TX14) (N := 42) (ci := 15) (Ts := WR) hx hb hts zin_wsX140 hown hK hZ h_th k_th rfl 24 (by decide) (hts _ zw_37) (fun _ h9 => h9) f_th_24 dX14_decode_432 ?_
                          refine lv_aload_n hx hb dX14_decode_435 rfl (lv_at hl 1 rfl) ?_
                          refine z_getP (own := RX14) (C := RX14) (TT := TX14) (N := 42) (ci := 15) (Ts := WR) hx hb hts zin_wsX140 hown hK hZ h_th k_th rfl 18 (by decide) (hts _ zw_31) (fun _ h9 => h9) f_th_18 dX14_decode_436 ?_
                          refine lv_aload_n hx hb dX14_decode_439 rfl (lv_at hl 1 rfl) ?_
                          refine z_getP (own := RX14) (C := RX14) (TT := TX14) (N := 42) (ci := 15) (Ts := WR) hx hb hts zin_wsX140 hown hK hZ h_th k_th rfl 8 (by decide) (hts _ zw_21) (fun _ h9 => h9) f_th_8 dX14_decode_440 ?_
                          refine z_goV (z_runSUp (x := ⟨"ShellPairModel$Curve", "minus", "([J[J[J[J)V"⟩) (owner := "ShellPairModel$Numbers") (n := 4) (As := [.ref qx, .ref fc, .ref qx, .ref pp]) (rest := []) ⟨hx, hb, hml, hown, hts⟩ ((c_X18_minus l D K X Y L T h_qx k_qx ⟨by omega, by omega⟩ h_fc k_fc ⟨by omega, by omega⟩ h_qx k_qx ⟨by omega, by omega⟩ h_pp k_pp ⟨by omega, by omega⟩) H.size) rfl (zg_I zw_88) rfl rfl rfl ⟨Nat.le_of_ble_eq_true rfl, Nat.le_of_ble_eq_true rfl⟩ (hts _ zw_85) (hts _ zw_86) (hts _ zw_87) (hts _ zw_66) (by decide +kernel) (z_preS hK hZ) rfl rfl hl.1 rfl (lv_room (Nat.le_of_ble_eq_true rfl)) dX14_decode_443 ⟨Nat.le_of_ble_eq_true rfl, Nat.le_of_ble_eq_true rfl⟩) hZ hS hA (fun  Y1 L1 T1 H locs hp hZ hS => ?_)
                          cases hp
                          refine lv_iconst (v := nI 1) hx hb dX14_decode_446 (by decide +kernel) ?_
                          exact z_iret hx hb hr rfl hlocks hK hZ hS rfl (Nat.le_of_ble_eq_true rfl) (Nat.le_of_ble_eq_true rfl) dX14_decode_447
                      · have e400 : jx12 = 1 := (nI_eq (a := jx12) (b := 1) (by omega) (by omega)).mp c400
                        refine lv_iconst (v := nI 0) hx hb dX14_decode_403 (by decide +kernel) ?_
                        exact z_iret hx hb hr rfl hlocks hK hZ hS rfl (Nat.le_of_ble_eq_true rfl) (Nat.le_of_ble_eq_true rfl) dX14_decode_404
                  · refine lv_iconst (v := nI 0) hx hb dX14_decode_373 (by decide +kernel) ?_
                    exact z_iret hx hb hr rfl hlocks hK hZ hS rfl (Nat.le_of_ble_eq_true rfl) (Nat.le_of_ble_eq_true rfl) dX14_decode_374
                refine lv_aload_n hx hb dX14_decode_257 rfl (lv_at hl 1 rfl) ?_
                refine lv_aload_n hx hb dX14_decode_258 rfl (lv_at hl 1 rfl) ?_
                refine z_getP (own := RX14) (C := RX14) (TT := TX14) (N := 42) (ci := 15) (Ts := WR) hx hb hts zin_wsX140 hown hK hZ h_th k_th rfl 18 (by decide) (hts _ zw_31) (fun _ h9 => h9) f_th_18 dX14_decode_259 ?_
                refine lv_aload_n hx hb dX14_decode_262 rfl (lv_at hl 1 rfl) ?_
                refine z_getP (own := RX14) (C := RX14) (TT := TX14) (N := 42) (ci := 15) (Ts := WR) hx hb hts zin_wsX140 hown hK hZ h_th k_th rfl 22 (by decide) (hts _ zw_35) (fun _ h9 => h9) f_th_22 dX14_decode_263 ?_
                refine lv_aload_n hx hb dX14_decode_266 rfl (lv_at hl 1 rfl) ?_
                refine z_getP (own := RX14) (C := RX14) (TT := TX14) (N := 42) (ci := 15) (Ts := WR) hx hb hts zin_wsX140 hown hK hZ h_th k_th rfl 25 (by decide) (hts _ zw_38) (fun _ h9 => h9) f_th_25 dX14_decode_267 ?_
                refine z_goV (va_runV (As := [.ref qx, .ref fa, .ref fe]) (rest := []) ⟨hx, hb, hml, hown, hts⟩ ((c_X14_power l D K X Y L T h_th k_th f_th_0 h_product k_product ⟨by omega, by omega⟩ f_th_1 h_sum k_sum ⟨by omega, by omega⟩ f_th_8 h_pp k_pp ⟨by omega, by omega⟩ f_th_9 h_pt k_pt ⟨by omega, by omega⟩ f_th_26 h_ff k_ff ⟨by omega, by omega⟩ h_qx k_qx ⟨by omega, by omega⟩ h_fa k_fa ⟨by omega, by omega⟩ h_fe k_fe ⟨by omega, by omega⟩) H.size) (cwV 3 hts (zg_V zw_91 zw_93 zw_94 zw_95 zw_92) rfl rfl rfl (by decide +kernel) ⟨Nat.le_of_ble_eq_true rfl, Nat.le_of_ble_eq_true rfl⟩) (z_preV hK hZ (z_recvP hK hZ h_th k_th rfl)) rfl rfl hl.1 rfl (lv_room (Nat.le_of_ble_eq_true rfl)) dX14_decode_270 ⟨Nat.le_of_ble_eq_true rfl, Nat.le_of_ble_eq_true rfl⟩) hZ hS hA (fun  Y1 L1 T1 H locs hp hZ hS => ?_)
                cases hp
                refine lv_aload_n hx hb dX14_decode_273 rfl (lv_at hl 1 rfl) ?_
                refine lv_aload_n hx hb dX14_decode_274 rfl (lv_at hl 1 rfl) ?_
                refine z_getP (own := RX14) (C := RX14) (TT := TX14) (N := 42) (ci := 15) (Ts := WR) hx hb hts zin_wsX140 hown hK hZ h_th k_th rfl 24 (by decide) (hts _ zw_37) (fun _ h9 => h9) f_th_24 dX14_decode_275 ?_
                refine lv_aload_n hx hb dX14_decode_278 rfl (lv_at hl 1 rfl) ?_
                refine z_getP (own := RX14) (C := RX14) (TT := TX14) (N := 42) (ci := 15) (Ts := WR) hx hb hts zin_wsX140 hown hK hZ h_th k_th rfl 18 (by decide) (hts _ zw_31) (fun _ h9 => h9) f_th_18 dX14_decode_279 ?_
                refine lv_aload_n hx hb dX14_decode_282 rfl (lv_at hl 1 rfl) ?_
                refine z_getP (own := RX14) (C := RX14) (TT := TX14) (N := 42) (ci := 15) (Ts := WR) hx hb hts zin_wsX140 hown hK hZ h_th k_th rfl 18 (by decide) (hts _ zw_31) (fun _ h9 => h9) f_th_18 dX14_decode_283 ?_
                refine lv_aload_n hx hb dX14_decode_286 rfl (lv_at hl 1 rfl) ?_
                refine z_getP (own := RX14) (C := RX14) (TT := TX14) (N := 42) (ci := 15) (Ts := WR) hx hb hts zin_wsX140 hown hK hZ h_th k_th rfl 8 (by decide) (hts _ zw_21) (fun _ h9 => h9) f_th_8 dX14_decode_287 ?_
                refine lv_aload_n hx hb dX14_decode_290 rfl (lv_at hl 1 rfl) ?_
                refine z_getP (own := RX14) (C := RX14) (TT := TX14) (N := 42) (ci := 15) (Ts := WR) hx hb hts zin_wsX140 hown hK hZ h_th k_th rfl 9 (by decide) (hts _ zw_22) (fun _ h9 => h9) f_th_9 dX14_decode_291 ?_
                refine z_goV (va_runU (C := RX14) (owner := "ShellPairModel$Numbers") (x := ⟨"ShellPairModel$Curve", "times", "([J[J[J[J[J)V"⟩) (As := [.ref fc, .ref qx, .ref qx, .ref pp, .ref pt]) (rest := []) ⟨hx, hb, hml, hown, hts⟩ ((c_X18_times l D K X Y L T h_th k_th f_th_0 h_product k_product ⟨by omega, by omega⟩ f_th_1 h_sum k_sum ⟨by omega, by omega⟩ h_fc k_fc ⟨by omega, by omega⟩ h_qx k_qx ⟨by omega, by omega⟩ h_qx k_qx ⟨by omega, by omega⟩ h_pp k_pp ⟨by omega, by omega⟩ h_pt k_pt ⟨by omega, by omega⟩) H.size) (va_cwU 5 hts (zg_U zw_80 zw_83 zw_81 zw_84 zw_66 zw_82) rfl rfl rfl rfl (by decide +kernel) ⟨Nat.le_of_ble_eq_true rfl, Nat.le_of_ble_eq_true rfl⟩) (z_preV hK hZ (z_recvP hK hZ h_th k_th rfl)) rfl rfl hl.1 rfl (lv_room (Nat.le_of_ble_eq_true rfl)) dX14_decode_294 ⟨Nat.le_of_ble_eq_true rfl, Nat.le_of_ble_eq_true rfl⟩) hZ hS hA (fun  Y1 L1 T1 H locs hp hZ hS => ?_)
                cases hp
                refine lv_aload_n hx hb dX14_decode_297 rfl (lv_at hl 1 rfl) ?_
                refine z_getP (own := RX14) (C := RX14) (TT := TX14) (N := 42) (ci := 15) (Ts := WR) hx hb hts zin_wsX140 hown hK hZ h_th k_th rfl 24 (by decide) (hts _ zw_37) (fun _ h9 => h9) f_th_24 dX14_decode_298 ?_
                refine lv_aload_n hx hb dX14_decode_301 rfl (lv_at hl 1 rfl) ?_
                refine z_getP (own := RX14) (C := RX14) (TT := TX14) (N := 42) (ci := 15) (Ts := WR) hx hb hts zin_wsX140 hown hK hZ h_th k_th rfl 22 (by decide) (hts _ zw_35) (fun _ h9 => h9) f_th_22 dX14_decode_302 ?_
                refine z_goI (z_runSUp (x := ⟨"ShellPairModel$Curve", "alike", "([J[J)Z"⟩) (owner := "ShellPairModel$Numbers") (n := 2) (As := [.ref fc, .ref fa]) (rest := []) ⟨hx, hb, hml, hown, hts⟩ ((c_X18_alike l D K X Y L T h_fc k_fc ⟨by omega, by omega⟩ h_fa k_fa ⟨by omega, by omega⟩) H.size) rfl (zg_I zw_121) rfl rfl rfl ⟨Nat.le_of_ble_eq_true rfl, Nat.le_of_ble_eq_true rfl⟩ (hts _ zw_118) (hts _ zw_119) (hts _ zw_120) (hts _ zw_66) (by decide +kernel) (z_preS hK hZ) rfl rfl hl.1 rfl (lv_room (Nat.le_of_ble_eq_true rfl)) dX14_decode_305 ⟨Nat.le_of_ble_eq_true rfl, Nat.le_of_ble_eq_true rfl⟩) hZ hS hA (fun x28 Y1 L1 T1 H locs hp hZ hS => ?_)
                cases hp
                refine lv_if_ne (tgt := 335) hx hb dX14_decode_308 (by decide) (fun c308 => ?_) (fun c308 => ?_)
                · exact J335   _ _ _ hZ hS (lv_sub hl [1] rfl)
                · refine lv_aload_n hx hb dX14_decode_311 rfl (lv_at hl 1 rfl) ?_
                  refine lv_aload_n hx hb dX14_decode_312 rfl (lv_at hl 1 rfl) ?_
                  refine z_getP (own := RX14) (C := RX14) (TT := TX14) (N := 42) (ci := 15) (Ts := WR) hx hb hts zin_wsX140 hown hK hZ h_th k_th rfl 18 (by decide) (hts _ zw_31) (fun _ h9 => h9) f_th_18 dX14_decode_313 ?_
                  refine lv_aload_n hx hb dX14_decode_316 rfl (lv_at hl 1 rfl) ?_
                  refine z_getP (own := RX14) (C := RX14) (TT := TX14) (N := 42) (ci := 15) (Ts := WR) hx hb hts zin_wsX140 hown hK hZ h_th k_th rfl 18 (by decide) (hts _ zw_31) (fun _ h9 => h9) f_th_18 dX14_decode_317 ?_
                  refine lv_aload_n hx hb dX14_decode_320 rfl (lv_at hl 1 rfl) ?_
                  refine z_getP (own := RX14) (C := RX14) (TT := TX14) (N := 42) (ci := 15) (Ts := WR) hx hb hts zin_wsX140 hown hK hZ h_th k_th rfl 13 (by decide) (hts _ zw_26) (fun _ h9 => h9) f_th_13 dX14_decode_321 ?_
                  refine lv_aload_n hx hb dX14_decode_324 rfl (lv_at hl 1 rfl) ?_
                  refine z_getP (own := RX14) (C := RX14) (TT := TX14) (N := 42) (ci := 15) (Ts := WR) hx hb hts zin_wsX140 hown hK hZ h_th k_th rfl 8 (by decide) (hts _ zw_21) (fun _ h9 => h9) f_th_8 dX14_decode_325 ?_
                  refine lv_aload_n hx hb dX14_decode_328 rfl (lv_at hl 1 rfl) ?_
                  refine z_getP (own := RX14) (C := RX14) (TT := TX14) (N := 42) (ci := 15) (Ts := WR) hx hb hts zin_wsX140 hown hK hZ h_th k_th rfl 9 (by decide) (hts _ zw_22) (fun _ h9 => h9) f_th_9 dX14_decode_329 ?_
                  refine z_goV (va_runU (C := RX14) (owner := "ShellPairModel$Numbers") (x := ⟨"ShellPairModel$Curve", "times", "([J[J[J[J[J)V"⟩) (As := [.ref qx, .ref qx, .ref root, .ref pp, .ref pt]) (rest := []) ⟨hx, hb, hml, hown, hts⟩ ((c_X18_times l D K X Y L T h_th k_th f_th_0 h_product k_product ⟨by omega, by omega⟩ f_th_1 h_sum k_sum ⟨by omega, by omega⟩ h_qx k_qx ⟨by omega, by omega⟩ h_qx k_qx ⟨by omega, by omega⟩ h_root k_root ⟨by omega, by omega⟩ h_pp k_pp ⟨by omega, by omega⟩ h_pt k_pt ⟨by omega, by omega⟩) H.size) (va_cwU 5 hts (zg_U zw_80 zw_83 zw_81 zw_84 zw_66 zw_82) rfl rfl rfl rfl (by decide +kernel) ⟨Nat.le_of_ble_eq_true rfl, Nat.le_of_ble_eq_true rfl⟩) (z_preV hK hZ (z_recvP hK hZ h_th k_th rfl)) rfl rfl hl.1 rfl (lv_room (Nat.le_of_ble_eq_true rfl)) dX14_decode_332 ⟨Nat.le_of_ble_eq_true rfl, Nat.le_of_ble_eq_true rfl⟩) hZ hS hA (fun  Y1 L1 T1 H locs hp hZ hS => ?_)
                  cases hp
                  exact J335   _ _ _ hZ hS (lv_sub hl [1] rfl) 
              · have e217 : ¬ 16 ≤ i214 := fun q => c217 ((nI_leI (a := 16) (b := i214) (by omega) (by omega)).mpr q)
                have J250 : ∀ (t2_250 : Int64) (H : Heap) (locs : List Loc) (ls : Array Slot), zP D vwCl A X Y L T H → va_S A s.heap H locs → lv_has ls 2 [(0, .ref th), (1, .int (nI i214))] → W p l e ROOM_X14_decode s m [.ref th].toArray below meth c H locs 0 0 (MQ below (va_Qi (fun _ => zSame Y L T) (zB D vwCl (zT K) A X) A) [.ref th].toArray s 0 0 A) (F0 m 250 ls [.long t2_250, .int (nI i214), .ref fe]) := by
                  intro t2_250 H locs ls hZ hS hl 
                  refine z_last hx hb hK hZ hS 1 h_fe k_fe rfl (vp_in_nI (by omega) (by omega)) dX14_decode_250 (fun H locs hZ hS => ?_)
                  refine lv_iinc (v := nI (i214 + 1)) (lv' := [(1, .int (nI (i214 + 1))), (0, .ref th)]) hx hb dX14_decode_251 hl (k := 1) rfl (nI_add i214 1) (by decide) rfl (fun ls hl => ?_)
                  refine lv_goto (tgt := 214) hx hb dX14_decode_254 (by decide) ?_
                  exact ih214 (i214 + 1) (by omega) (by omega)  _ _ _ hZ hS (lv_sub hl [0, 1] rfl) 
                refine lv_aload_n hx hb dX14_decode_220 rfl (lv_at hl 1 rfl) ?_
                refine z_getP (own := RX14) (C := RX14) (TT := TX14) (N := 42) (ci := 15) (Ts := WR) hx hb hts zin_wsX140 hown hK hZ h_th k_th rfl 25 (by decide) (hts _ zw_38) (fun _ h9 => h9) f_th_25 dX14_decode_221 ?_
                refine lv_iload_n hx hb dX14_decode_224 rfl (lv_at hl 0 rfl) ?_
                refine lv_iload_n hx hb dX14_decode_225 rfl (lv_at hl 0 rfl) ?_
                refine lv_if_ne (tgt := 235) hx hb dX14_decode_226 (by decide) (fun c226 => ?_) (fun c226 => ?_)
                · have e226 : ¬ i214 = 0 := fun q => c226 ((nI_eq (a := i214) (b := 0) (by omega) (by omega)).mpr q)
                  refine lv_iload_n hx hb dX14_decode_235 rfl (lv_at hl 0 rfl) ?_
                  refine lv_bipush (v := nI 15) hx hb dX14_decode_236 (by decide +kernel) ?_
                  refine lv_icmp_ne (tgt := 247) hx hb dX14_decode_238 (by decide) (fun c238 => ?_) (fun c238 => ?_)
                  · have e238 : ¬ i214 = 15 := fun q => c238 ((nI_eq (a := i214) (b := 15) (by omega) (by omega)).mpr q)
                    refine lv_ldc2 (v := (65535)) hx hb hown (hts _ zw_62) dX14_decode_247 ?_
                    exact J250  (65535) _ _ _ hZ hS (lv_sub hl [1, 0] rfl) 
                  · have e238 : i214 = 15 := (nI_eq (a := i214) (b := 15) (by omega) (by omega)).mp c238
                    refine lv_ldc2 (v := (4095)) hx hb hown (hts _ zw_117) dX14_decode_241 ?_
                    refine lv_goto (tgt := 250) hx hb dX14_decode_244 (by decide) ?_
                    exact J250  (4095) _ _ _ hZ hS (lv_sub hl [1, 0] rfl) 
                · have e226 : i214 = 0 := (nI_eq (a := i214) (b := 0) (by omega) (by omega)).mp c226
                  refine lv_ldc2 (v := (65534)) hx hb hown (hts _ zw_116) dX14_decode_229 ?_
                  refine lv_goto (tgt := 250) hx hb dX14_decode_232 (by decide) ?_
                  exact J250  (65534) _ _ _ hZ hS (lv_sub hl [1, 0] rfl) 
          exact L214 (16 + 1) 0 (by omega) (by omega)  _ _ _ hZ hS (lv_sub hl [0, 1] rfl) 
        · refine lv_iconst (v := nI 0) hx hb dX14_decode_84 (by decide +kernel) ?_
          exact z_iret hx hb hr rfl hlocks hK hZ hS rfl (Nat.le_of_ble_eq_true rfl) (Nat.le_of_ble_eq_true rfl) dX14_decode_85
      · have e5 : ¬ 16 ≤ i2 := fun q => c5 ((nI_leI (a := 16) (b := i2) (by omega) (by omega)).mpr q)
        have J58 : ∀ (t2_58 : Int32) (t3_58 : Int32) (H : Heap) (locs : List Loc) (ls : Array Slot), zP D vwCl A X Y L T H → va_S A s.heap H locs → lv_has ls 2 [(0, .ref th), (1, .int (nI i2))] → W p l e ROOM_X14_decode s m [.ref th].toArray below meth c H locs 0 0 (MQ below (va_Qi (fun _ => zSame Y L T) (zB D vwCl (zT K) A X) A) [.ref th].toArray s 0 0 A) (F0 m 58 ls [.int t3_58, .int t2_58, .int (nI i2), .ref qy]) := by
          intro t2_58 t3_58 H locs ls hZ hS hl 
          refine lv_bipush (v := nI 8) hx hb dX14_decode_58 (by decide +kernel) ?_
          refine lv_ishl hx hb dX14_decode_60 ?_
          refine lv_topi (fun x30 ex30 => ?_)
          refine lv_ior hx hb dX14_decode_61 ?_
          refine lv_topi (fun x31 ex31 => ?_)
          refine lv_i2l hx hb dX14_decode_62 rfl ?_
          refine lv_topl (fun x32 _ => ?_)
          refine z_last hx hb hK hZ hS 1 h_qy k_qy rfl (vp_in_nI (by omega) (by omega)) dX14_decode_63 (fun H locs hZ hS => ?_)
          refine lv_iinc (v := nI (i2 + 1)) (lv' := [(1, .int (nI (i2 + 1))), (0, .ref th)]) hx hb dX14_decode_64 hl (k := 1) rfl (nI_add i2 1) (by decide) rfl (fun ls hl => ?_)
          refine lv_goto (tgt := 2) hx hb dX14_decode_67 (by decide) ?_
          exact ih2 (i2 + 1) (by omega) (by omega)  _ _ _ hZ hS (lv_sub hl [0, 1] rfl) 
        refine lv_aload_n hx hb dX14_decode_8 rfl (lv_at hl 1 rfl) ?_
        refine z_getP (own := RX14) (C := RX14) (TT := TX14) (N := 42) (ci := 15) (Ts := WR) hx hb hts zin_wsX140 hown hK hZ h_th k_th rfl 19 (by decide) (hts _ zw_32) (fun _ h9 => h9) f_th_19 dX14_decode_9 ?_
        refine lv_iload_n hx hb dX14_decode_12 rfl (lv_at hl 0 rfl) ?_
        refine lv_aload_n hx hb dX14_decode_13 rfl (lv_at hl 1 rfl) ?_
        refine z_getP (own := RX14) (C := RX14) (TT := TX14) (N := 42) (ci := 15) (Ts := WR) hx hb hts zin_wsX140 hown hK hZ h_th k_th rfl 37 (by decide) (hts _ zw_50) (fun _ h9 => h9) f_th_37 dX14_decode_14 ?_
        refine lv_iconst (v := nI 2) hx hb dX14_decode_17 (by decide +kernel) ?_
        refine lv_iload_n hx hb dX14_decode_18 rfl (lv_at hl 0 rfl) ?_
        refine lv_imul hx hb dX14_decode_19 ?_
        refine lv_topi (fun x33 ex33 => ?_)
        obtain rfl : x33 = nI (2 * i2) := ex33.trans (pk_mul 2 i2)
        refine z_bald hx hb hK hZ 2 h_row k_row rfl (vp_in_nI (by omega) (by omega)) dX14_decode_20 (fun x34 => ?_)
        refine lv_sipush (v := nI 255) hx hb dX14_decode_21 (by decide +kernel) ?_
        refine lv_iand hx hb dX14_decode_24 ?_
        refine lv_topi (fun x35 ex35 => ?_)
        obtain ⟨jx35, bx35, rfl⟩ : ∃ j : Nat, j < 256 ∧ x35 = nI j := by obtain ⟨j, h1, h2⟩ := pk_andE x34 (m := nI 255) 8 (by decide +kernel); exact ⟨j, h1, ex35.trans h2⟩
        refine lv_iload_n hx hb dX14_decode_25 rfl (lv_at hl 0 rfl) ?_
        refine lv_bipush (v := nI 15) hx hb dX14_decode_26 (by decide +kernel) ?_
        refine lv_icmp_ne (tgt := 44) hx hb dX14_decode_28 (by decide) (fun c28 => ?_) (fun c28 => ?_)
        · have e28 : ¬ i2 = 15 := fun q => c28 ((nI_eq (a := i2) (b := 15) (by omega) (by omega)).mpr q)
          refine lv_aload_n hx hb dX14_decode_44 rfl (lv_at hl 1 rfl) ?_
          refine z_getP (own := RX14) (C := RX14) (TT := TX14) (N := 42) (ci := 15) (Ts := WR) hx hb hts zin_wsX140 hown hK hZ h_th k_th rfl 37 (by decide) (hts _ zw_50) (fun _ h9 => h9) f_th_37 dX14_decode_45 ?_
          refine lv_iconst (v := nI 2) hx hb dX14_decode_48 (by decide +kernel) ?_
          refine lv_iload_n hx hb dX14_decode_49 rfl (lv_at hl 0 rfl) ?_
          refine lv_imul hx hb dX14_decode_50 ?_
          refine lv_topi (fun x36 ex36 => ?_)
          obtain rfl : x36 = nI (2 * i2) := ex36.trans (pk_mul 2 i2)
          refine lv_iconst (v := nI 1) hx hb dX14_decode_51 (by decide +kernel) ?_
          refine lv_iadd hx hb dX14_decode_52 ?_
          refine lv_topi (fun x37 ex37 => ?_)
          obtain rfl : x37 = nI ((2 * i2) + 1) := ex37.trans (nI_add (2 * i2) 1)
          refine z_bald hx hb hK hZ 2 h_row k_row rfl (vp_in_nI (by omega) (by omega)) dX14_decode_53 (fun x38 => ?_)
          refine lv_sipush (v := nI 255) hx hb dX14_decode_54 (by decide +kernel) ?_
          refine lv_iand hx hb dX14_decode_57 ?_
          refine lv_topi (fun x39 ex39 => ?_)
          obtain ⟨jx39, bx39, rfl⟩ : ∃ j : Nat, j < 256 ∧ x39 = nI j := by obtain ⟨j, h1, h2⟩ := pk_andE x38 (m := nI 255) 8 (by decide +kernel); exact ⟨j, h1, ex39.trans h2⟩
          exact J58  (nI jx35) (nI jx39) _ _ _ hZ hS (lv_sub hl [1, 0] rfl) 
        · have e28 : i2 = 15 := (nI_eq (a := i2) (b := 15) (by omega) (by omega)).mp c28
          refine lv_aload_n hx hb dX14_decode_31 rfl (lv_at hl 1 rfl) ?_
          refine z_getP (own := RX14) (C := RX14) (TT := TX14) (N := 42) (ci := 15) (Ts := WR) hx hb hts zin_wsX140 hown hK hZ h_th k_th rfl 37 (by decide) (hts _ zw_50) (fun _ h9 => h9) f_th_37 dX14_decode_32 ?_
          refine lv_bipush (v := nI 31) hx hb dX14_decode_35 (by decide +kernel) ?_
          refine z_bald hx hb hK hZ 2 h_row k_row rfl (vp_in_nI (by omega) (by omega)) dX14_decode_37 (fun x40 => ?_)
          refine lv_bipush (v := nI 127) hx hb dX14_decode_38 (by decide +kernel) ?_
          refine lv_iand hx hb dX14_decode_40 ?_
          refine lv_topi (fun x41 ex41 => ?_)
          obtain ⟨jx41, bx41, rfl⟩ : ∃ j : Nat, j < 128 ∧ x41 = nI j := by obtain ⟨j, h1, h2⟩ := pk_andE x40 (m := nI 127) 7 (by decide +kernel); exact ⟨j, h1, ex41.trans h2⟩
          refine lv_goto (tgt := 58) hx hb dX14_decode_41 (by decide) ?_
          exact J58  (nI jx35) (nI jx41) _ _ _ hZ hS (lv_sub hl [1, 0] rfl) 
  exact L2 (16 + 1) 0 (by omega) (by omega)  _ _ _ hZ hS (lv_sub hl [0, 1] rfl) 
abbrev ROOM_X13_times : Room := { frames := 1, cells := 0, slots := 0, locals := 0 }
set_option maxHeartbeats 4000000 in
set_option maxRecDepth 100000 in
/-- times of the field of AES -/
theorem c_X13_times (l : Launch) (D : va_G) (K : Nat → ClassId) (X Y : va_W) (L : List Nat) (T : Nat → va_E → Prop) {aa : Int32} {bb : Int32}    : zVi l D vwCl (zT K) yX13_times (zws yX13_times cX13_times 5 (some .int)) ROOM_X13_times 0 0 [.int aa, .int bb] X Y L T (fun _ => zSame Y L T) := by
  refine z_ofW (Qc := fun A => va_Qi (fun _ => zSame Y L T) (zB D vwCl (zT K) A X) A) (cc := cX13_times) (maxL := 5) (ret := (some .int)) (by decide +kernel) rfl (Nat.le_of_ble_eq_true rfl) ?_
  intro p e s m below meth c A ls hx hb hml hr hts hown hlocks hin hA hK hZ hS hl
  have hown : s.vm.findClass RX13 = some m.cls := hown
  have hts : ∀ w ∈ WR, w.before [.int aa, .int bb].toArray s = true := fun w h => hts w (List.mem_cons_of_mem _ h)
  have hl : lv_has ls 5 [(0, .int aa), (1, .int bb)] := hl
  obtain ⟨H, hH⟩ : ∃ H, H = s.heap := ⟨_, rfl⟩
  have hZ : zP D vwCl A X Y L T H := by rw [hH]; exact hZ
  obtain ⟨locs, hlc⟩ : ∃ q : List Loc, q = [] := ⟨_, rfl⟩
  have hS : va_S A s.heap H locs := by rw [hH, hlc]; exact hS
  suffices hW : W p l e ROOM_X13_times s m [.int aa, .int bb].toArray below meth c H locs 0 0 (MQ below (va_Qi (fun _ => zSame Y L T) (zB D vwCl (zT K) A X) A) [.int aa, .int bb].toArray s 0 0 A) (F0 m 0 ls []) by rw [hH, hlc] at hW; exact hW
  clear hH hlc
  refine lv_iconst (v := nI 0) hx hb dX13_times_0 (by decide +kernel) ?_
  refine lv_istore_n (lv' := [(2, .int (nI 0)), (0, .int aa), (1, .int bb)]) hx hb dX13_times_1 rfl hl (by decide) rfl (fun ls hl => ?_)
  refine lv_iload_n hx hb dX13_times_2 rfl (lv_at hl 1 rfl) ?_
  refine lv_istore_n (lv' := [(3, .int aa), (2, .int (nI 0)), (0, .int aa), (1, .int bb)]) hx hb dX13_times_3 rfl hl (by decide) rfl (fun ls hl => ?_)
  refine lv_iconst (v := nI 0) hx hb dX13_times_4 (by decide +kernel) ?_
  refine lv_istore (lv' := [(4, .int (nI 0)), (3, .int aa), (2, .int (nI 0)), (0, .int aa), (1, .int bb)]) hx hb dX13_times_5 hl (by decide) rfl (fun ls hl => ?_)
  have L7 : ∀ (n i7 : Nat), i7 ≤ 8 → 8 + 1 ≤ i7 + n → ∀ (v2_7 : Int32) (v3_7 : Int32) (H : Heap) (locs : List Loc) (ls : Array Slot), zP D vwCl A X Y L T H → va_S A s.heap H locs → lv_has ls 5 [(4, .int (nI i7)), (0, .int aa), (1, .int bb), (2, .int v2_7), (3, .int v3_7)] → W p l e ROOM_X13_times s m [.int aa, .int bb].toArray below meth c H locs 0 0 (MQ below (va_Qi (fun _ => zSame Y L T) (zB D vwCl (zT K) A X) A) [.int aa, .int bb].toArray s 0 0 A) (F0 m 7 ls []) := by
    intro n
    induction n with
    | zero => intro i7 u7 w7; exact absurd w7 (by omega)
    | succ n ih7 =>
      intro i7 u7 w7 v2_7 v3_7 H locs ls hZ hS hl 
      refine lv_iload hx hb dX13_times_7 (lv_at hl 0 rfl) ?_
      refine lv_bipush (v := nI 8) hx hb dX13_times_9 (by decide +kernel) ?_
      refine lv_icmp_ge (tgt := 52) hx hb dX13_times_11 (by decide) (fun c11 => ?_) (fun c11 => ?_)
      · have e11 : 8 ≤ i7 := (nI_leI (a := 8) (b := i7) (by omega) (by omega)).mp c11
        refine lv_iload_n hx hb dX13_times_52 rfl (lv_at hl 3 rfl) ?_
        exact z_iret hx hb hr rfl hlocks hK hZ hS rfl (Nat.le_of_ble_eq_true rfl) (Nat.le_of_ble_eq_true rfl) dX13_times_53
      · have e11 : ¬ 8 ≤ i7 := fun q => c11 ((nI_leI (a := 8) (b := i7) (by omega) (by omega)).mpr q)
        have J28 : ∀ (v2_28 : Int32) (H : Heap) (locs : List Loc) (ls : Array Slot), zP D vwCl A X Y L T H → va_S A s.heap H locs → lv_has ls 5 [(0, .int aa), (1, .int bb), (2, .int v2_28), (3, .int v3_7), (4, .int (nI i7))] → W p l e ROOM_X13_times s m [.int aa, .int bb].toArray below meth c H locs 0 0 (MQ below (va_Qi (fun _ => zSame Y L T) (zB D vwCl (zT K) A X) A) [.int aa, .int bb].toArray s 0 0 A) (F0 m 28 ls []) := by
          intro v2_28 H locs ls hZ hS hl 
          have J44 : ∀ (t0_44 : Int32) (t1_44 : Int32) (H : Heap) (locs : List Loc) (ls : Array Slot), zP D vwCl A X Y L T H → va_S A s.heap H locs → lv_has ls 5 [(0, .int aa), (1, .int bb), (2, .int v2_28), (3, .int v3_7), (4, .int (nI i7))] → W p l e ROOM_X13_times s m [.int aa, .int bb].toArray below meth c H locs 0 0 (MQ below (va_Qi (fun _ => zSame Y L T) (zB D vwCl (zT K) A X) A) [.int aa, .int bb].toArray s 0 0 A) (F0 m 44 ls [.int t1_44, .int t0_44]) := by
            intro t0_44 t1_44 H locs ls hZ hS hl 
            refine lv_ixor hx hb dX13_times_44 ?_
            refine lv_topi (fun x1 ex1 => ?_)
            refine lv_istore_n (lv' := [(3, .int x1), (0, .int aa), (1, .int bb), (2, .int v2_28), (4, .int (nI i7))]) hx hb dX13_times_45 rfl hl (by decide) rfl (fun ls hl => ?_)
            refine lv_iinc (v := nI (i7 + 1)) (lv' := [(4, .int (nI (i7 + 1))), (3, .int x1), (0, .int aa), (1, .int bb), (2, .int v2_28)]) hx hb dX13_times_46 hl (k := 4) rfl (nI_add i7 1) (by decide) rfl (fun ls hl => ?_)
            refine lv_goto (tgt := 7) hx hb dX13_times_49 (by decide) ?_
            exact ih7 (i7 + 1) (by omega) (by omega) v2_28 x1 _ _ _ hZ hS (lv_sub hl [0, 2, 3, 4, 1] rfl) 
          refine lv_iload_n hx hb dX13_times_28 rfl (lv_at hl 3 rfl) ?_
          refine lv_iconst (v := nI 1) hx hb dX13_times_29 (by decide +kernel) ?_
          refine lv_ishl hx hb dX13_times_30 ?_
          refine lv_topi (fun x2 ex2 => ?_)
          refine lv_iload_n hx hb dX13_times_31 rfl (lv_at hl 3 rfl) ?_
          refine lv_bipush (v := nI 127) hx hb dX13_times_32 (by decide +kernel) ?_
          refine lv_icmp_le (tgt := 43) hx hb dX13_times_34 (by decide) (fun c34 => ?_) (fun c34 => ?_)
          · refine lv_iconst (v := nI 0) hx hb dX13_times_43 (by decide +kernel) ?_
            exact J44  x2 (nI 0) _ _ _ hZ hS (lv_sub hl [0, 1, 2, 3, 4] rfl) 
          · refine lv_sipush (v := nI 283) hx hb dX13_times_37 (by decide +kernel) ?_
            refine lv_goto (tgt := 44) hx hb dX13_times_40 (by decide) ?_
            exact J44  x2 (nI 283) _ _ _ hZ hS (lv_sub hl [0, 1, 2, 3, 4] rfl) 
        refine lv_iload_n hx hb dX13_times_14 rfl (lv_at hl 2 rfl) ?_
        refine lv_iload hx hb dX13_times_15 (lv_at hl 0 rfl) ?_
        refine lv_ishr hx hb dX13_times_17 ?_
        refine lv_topi (fun x3 ex3 => ?_)
        refine lv_iconst (v := nI 1) hx hb dX13_times_18 (by decide +kernel) ?_
        refine lv_iand hx hb dX13_times_19 ?_
        refine lv_topi (fun x4 ex4 => ?_)
        obtain ⟨jx4, bx4, rfl⟩ : ∃ j : Nat, j < 2 ∧ x4 = nI j := by obtain ⟨j, h1, h2⟩ := pk_andE x3 (m := nI 1) 1 (by decide +kernel); exact ⟨j, h1, ex4.trans h2⟩
        refine lv_iconst (v := nI 1) hx hb dX13_times_20 (by decide +kernel) ?_
        refine lv_icmp_ne (tgt := 28) hx hb dX13_times_21 (by decide) (fun c21 => ?_) (fun c21 => ?_)
        · have e21 : ¬ jx4 = 1 := fun q => c21 ((nI_eq (a := jx4) (b := 1) (by omega) (by omega)).mpr q)
          exact J28 v2_7  _ _ _ hZ hS (lv_sub hl [1, 2, 3, 4, 0] rfl) 
        · have e21 : jx4 = 1 := (nI_eq (a := jx4) (b := 1) (by omega) (by omega)).mp c21
          refine lv_iload_n hx hb dX13_times_24 rfl (lv_at hl 3 rfl) ?_
          refine lv_iload_n hx hb dX13_times_25 rfl (lv_at hl 4 rfl) ?_
          refine lv_ixor hx hb dX13_times_26 ?_
          refine lv_topi (fun x5 ex5 => ?_)
          refine lv_istore_n (lv' := [(2, .int x5), (4, .int (nI i7)), (0, .int aa), (1, .int bb), (3, .int v3_7)]) hx hb dX13_times_27 rfl hl (by decide) rfl (fun ls hl => ?_)
          exact J28 x5  _ _ _ hZ hS (lv_sub hl [2, 3, 0, 4, 1] rfl) 
  exact L7 (8 + 1) 0 (by omega) (by omega) (nI 0) aa _ _ _ hZ hS (lv_sub hl [0, 3, 4, 2, 1] rfl) 
end ZNUM
end
section
section ZHASH
/-- no j from 2 to below d, whose square isn't above p, divides p -/
def zpr (p d : Nat) : Prop := ∀ j, 2 ≤ j → j < d → j * j ≤ p → ¬ p % j = 0
theorem zpr_0 {p : Nat} : 1 ≤ 1 ∧ (1 = 1 ↔ zpr p 2) := ⟨Nat.le_refl _, fun _ j h1 h2 => absurd h2 (by omega), fun _ => rfl⟩
theorem zpr_a {p d v : Nat} (h : v ≤ 1 ∧ (v = 1 ↔ zpr p d)) (e : p % d = 0) (hd : 2 ≤ d) (hs : d * d ≤ p) : 0 ≤ 1 ∧ (0 = 1 ↔ zpr p (d + 1)) :=
  ⟨Nat.zero_le _, fun q => absurd q (by decide), fun q => absurd e (q d hd (Nat.lt_succ_self d) hs)⟩
theorem zpr_b {p d v : Nat} (h : v ≤ 1 ∧ (v = 1 ↔ zpr p d)) (e : ¬ p % d = 0) : v ≤ 1 ∧ (v = 1 ↔ zpr p (d + 1)) := by
  refine ⟨h.1, fun q j h1 h2 h3 => ?_, fun q => h.2.mpr (fun j h1 h2 h3 => q j h1 (by omega) h3)⟩
  by_cases hj : j = d
  · subst hj; exact e
  · exact h.2.mp q j h1 (by omega) h3
theorem zpr_j {j : Nat} (h : j * j ≤ 409) : j ≤ 20 := by
  rcases Nat.lt_or_ge 20 j with q | q
  · have := Nat.mul_le_mul q q
    omega
  · exact q
theorem zpr_w {p d : Nat} (hp : p ≤ 409) (hs : p < d * d) (hd : d ≤ 21) : zpr p d ↔ zpr p 21 := by
  refine ⟨fun q j h1 h2 h3 => q j h1 ?_ h3, fun q j h1 h2 h3 => q j h1 (by omega) h3⟩
  rcases Nat.lt_or_ge j d with w | w
  · exact w
  · have := Nat.mul_le_mul w w
    omega
theorem zpr_x {p d v z a : Nat} (h : v ≤ 1 ∧ (v = 1 ↔ zpr p d)) (hs : p < d * d) (hd : d ≤ 21) (hp : p ≤ 409) (h1 : zpr z 21) (h2 : ∀ y, a < y → y < z → ¬ zpr y 21) (ha : a < p) (hz : p ≤ z) : v ≤ 1 ∧ (v = 1 ↔ p = z) := by
  refine ⟨h.1, fun q => ?_, fun q => h.2.mpr ((zpr_w hp hs hd).mpr (q ▸ h1))⟩
  rcases Nat.lt_or_ge p z with w | w
  · exact absurd ((zpr_w hp hs hd).mp (h.2.mp q)) (h2 p ha w)
  · omega

abbrev ROOM_X17_prime : Room := { frames := 1, cells := 0, slots := 0, locals := 0 }
set_option maxHeartbeats 4000000 in
set_option maxRecDepth 100000 in
/-- prime: the next one -/
theorem c_X17_prime (l : Launch) (D : va_G) (K : Nat → ClassId) (X Y : va_W) (L : List Nat) (T : Nat → va_E → Prop) {aa : Nat} {z : Nat} (b_aa : aa < 409) (hz : aa < z ∧ z ≤ 409) (hz1 : zpr z 21) (hz2 : ∀ y, aa < y → y < z → ¬ zpr y 21) : zVi l D vwCl (zT K) yX17_prime (zws yX17_prime cX17_prime 4 (some .int)) ROOM_X17_prime 0 0 [.int (nI aa)] X Y L T (fun r u => r = nI z ∧ zSame Y L T u) := by
  refine z_ofW (Qc := fun A => va_Qi (fun r u => r = nI z ∧ zSame Y L T u) (zB D vwCl (zT K) A X) A) (cc := cX17_prime) (maxL := 4) (ret := (some .int)) (by decide +kernel) rfl (Nat.le_of_ble_eq_true rfl) ?_
  intro p e s m below meth c A ls hx hb hml hr hts hown hlocks hin hA hK hZ hS hl
  have hown : s.vm.findClass RX17 = some m.cls := hown
  have hts : ∀ w ∈ WR, w.before [.int (nI aa)].toArray s = true := fun w h => hts w (List.mem_cons_of_mem _ h)
  have hl : lv_has ls 4 [(0, .int (nI aa))] := hl
  obtain ⟨H, hH⟩ : ∃ H, H = s.heap := ⟨_, rfl⟩
  have hZ : zP D vwCl A X Y L T H := by rw [hH]; exact hZ
  obtain ⟨locs, hlc⟩ : ∃ q : List Loc, q = [] := ⟨_, rfl⟩
  have hS : va_S A s.heap H locs := by rw [hH, hlc]; exact hS
  suffices hW : W p l e ROOM_X17_prime s m [.int (nI aa)].toArray below meth c H locs 0 0 (MQ below (va_Qi (fun r u => r = nI z ∧ zSame Y L T u) (zB D vwCl (zT K) A X) A) [.int (nI aa)].toArray s 0 0 A) (F0 m 0 ls []) by rw [hH, hlc] at hW; exact hW
  clear hH hlc
  refine lv_iload_n hx hb dX17_prime_0 rfl (lv_at hl 0 rfl) ?_
  refine lv_istore_n (lv' := [(1, .int (nI aa)), (0, .int (nI aa))]) hx hb dX17_prime_1 rfl hl (by decide) rfl (fun ls hl => ?_)
  refine lv_iconst (v := nI 0) hx hb dX17_prime_2 (by decide +kernel) ?_
  refine lv_istore_n (lv' := [(2, .int (nI 0)), (1, .int (nI aa)), (0, .int (nI aa))]) hx hb dX17_prime_3 rfl hl (by decide) rfl (fun ls hl => ?_)
  have L4 : ∀ (n i4 : Nat), i4 ≤ z → z + 1 ≤ i4 + n → ∀ (v2_4 : Nat) (H : Heap) (locs : List Loc) (ls : Array Slot), zP D vwCl A X Y L T H → va_S A s.heap H locs → lv_has ls 4 [(1, .int (nI i4)), (0, .int (nI aa)), (2, .int (nI v2_4))] → v2_4 ≤ 1 ∧ (v2_4 = 1 ↔ i4 = z) ∧ aa ≤ i4 → W p l e ROOM_X17_prime s m [.int (nI aa)].toArray below meth c H locs 0 0 (MQ below (va_Qi (fun r u => r = nI z ∧ zSame Y L T u) (zB D vwCl (zT K) A X) A) [.int (nI aa)].toArray s 0 0 A) (F0 m 4 ls []) := by
    intro n
    induction n with
    | zero => intro i4 u4 w4; exact absurd w4 (by omega)
    | succ n ih4 =>
      intro i4 u4 w4 v2_4 H locs ls hZ hS hl F_4
      refine lv_iload_n hx hb dX17_prime_4 rfl (lv_at hl 2 rfl) ?_
      refine lv_if_ne (tgt := 39) hx hb dX17_prime_5 (by decide) (fun c5 => ?_) (fun c5 => ?_)
      · have e5 : ¬ v2_4 = 0 := fun q => c5 ((nI_eq (a := v2_4) (b := 0) (by omega) (by omega)).mpr q)
        refine lv_iload_n hx hb dX17_prime_39 rfl (lv_at hl 0 rfl) ?_
        exact z_iret hx hb hr rfl hlocks hK hZ hS ⟨by rw [show i4 = z by omega], rfl⟩ (Nat.le_of_ble_eq_true rfl) (Nat.le_of_ble_eq_true rfl) dX17_prime_40
      · have e5 : v2_4 = 0 := (nI_eq (a := v2_4) (b := 0) (by omega) (by omega)).mp c5
        refine lv_iinc (v := nI (i4 + 1)) (lv' := [(1, .int (nI (i4 + 1))), (0, .int (nI aa)), (2, .int (nI v2_4))]) hx hb dX17_prime_8 hl (k := 0) rfl (nI_add i4 1) (by decide) rfl (fun ls hl => ?_)
        refine lv_iconst (v := nI 1) hx hb dX17_prime_11 (by decide +kernel) ?_
        refine lv_istore_n (lv' := [(2, .int (nI 1)), (1, .int (nI (i4 + 1))), (0, .int (nI aa))]) hx hb dX17_prime_12 rfl hl (by decide) rfl (fun ls hl => ?_)
        refine lv_iconst (v := nI 2) hx hb dX17_prime_13 (by decide +kernel) ?_
        refine lv_istore_n (lv' := [(3, .int (nI 2)), (2, .int (nI 1)), (1, .int (nI (i4 + 1))), (0, .int (nI aa))]) hx hb dX17_prime_14 rfl hl (by decide) rfl (fun ls hl => ?_)
        have L15 : ∀ (n i15 : Nat), i15 ≤ 21 → 21 + 1 ≤ i15 + n → ∀ (v2_15 : Nat) (H : Heap) (locs : List Loc) (ls : Array Slot), zP D vwCl A X Y L T H → va_S A s.heap H locs → lv_has ls 4 [(3, .int (nI i15)), (0, .int (nI aa)), (1, .int (nI (i4 + 1))), (2, .int (nI v2_15))] → 2 ≤ i15 → v2_15 ≤ 1 ∧ (v2_15 = 1 ↔ zpr (i4 + 1) i15) → W p l e ROOM_X17_prime s m [.int (nI aa)].toArray below meth c H locs 0 0 (MQ below (va_Qi (fun r u => r = nI z ∧ zSame Y L T u) (zB D vwCl (zT K) A X) A) [.int (nI aa)].toArray s 0 0 A) (F0 m 15 ls []) := by
          intro n
          induction n with
          | zero => intro i15 u15 w15; exact absurd w15 (by omega)
          | succ n ih15 =>
            intro i15 u15 w15 v2_15 H locs ls hZ hS hl lo_15 G_15
            refine lv_iload_n hx hb dX17_prime_15 rfl (lv_at hl 0 rfl) ?_
            refine lv_iload_n hx hb dX17_prime_16 rfl (lv_at hl 0 rfl) ?_
            refine lv_imul hx hb dX17_prime_17 ?_
            refine lv_topi (fun x1 ex1 => ?_)
            obtain rfl : x1 = nI (i15 * i15) := ex1.trans (pk_mul i15 i15)
            refine lv_iload_n hx hb dX17_prime_18 rfl (lv_at hl 2 rfl) ?_
            have q19 : i15 * i15 ≤ 441 := by have := Nat.mul_le_mul u15 u15; omega
            refine lv_icmp_gt (tgt := 36) hx hb dX17_prime_19 (by decide) (fun c19 => ?_) (fun c19 => ?_)
            · have e19 : (i4 + 1) < (i15 * i15) := (nI_ltI (a := (i4 + 1)) (b := (i15 * i15)) (by omega) (by omega)).mp c19
              refine lv_goto (tgt := 4) hx hb dX17_prime_36 (by decide) ?_
              exact ih4 (i4 + 1) (by omega) (by omega) v2_15 _ _ _ hZ hS (lv_sub hl [2, 1, 3] rfl) (by first | omega | (have qx := zpr_x G_15 e19 (by omega) (by omega) hz1 hz2 (by omega) (by omega); omega))
            · have e19 : ¬ (i4 + 1) < (i15 * i15) := fun q => c19 ((nI_ltI (a := (i4 + 1)) (b := (i15 * i15)) (by omega) (by omega)).mpr q)
              have q22 : i15 ≤ 20 := zpr_j (by omega)
              refine lv_iload_n hx hb dX17_prime_22 rfl (lv_at hl 2 rfl) ?_
              refine lv_iload_n hx hb dX17_prime_23 rfl (lv_at hl 0 rfl) ?_
              refine lv_irem hx hb dX17_prime_24 (nI_ne0 (by omega) (by omega)) ?_
              refine lv_topi (fun x2 ex2 => ?_)
              obtain rfl : x2 = nI ((i4 + 1) % i15) := ex2.trans (pk_rem (by omega) (by omega) (by omega))
              have q25 : (i4 + 1) % i15 < i15 := Nat.mod_lt _ (by omega)
              refine lv_if_ne (tgt := 30) hx hb dX17_prime_25 (by decide) (fun c25 => ?_) (fun c25 => ?_)
              · have e25 : ¬ ((i4 + 1) % i15) = 0 := fun q => c25 ((nI_eq (a := ((i4 + 1) % i15)) (b := 0) (by omega) (by omega)).mpr q)
                refine lv_iinc (v := nI (i15 + 1)) (lv' := [(3, .int (nI (i15 + 1))), (0, .int (nI aa)), (1, .int (nI (i4 + 1))), (2, .int (nI v2_15))]) hx hb dX17_prime_30 hl (k := 0) rfl (nI_add i15 1) (by decide) rfl (fun ls hl => ?_)
                refine lv_goto (tgt := 15) hx hb dX17_prime_33 (by decide) ?_
                exact ih15 (i15 + 1) (by omega) (by omega) v2_15 _ _ _ hZ hS (lv_sub hl [0, 1, 2, 3] rfl) (by omega) (by first | exact zpr_0 | exact zpr_a G_15 e25 lo_15 (by omega) | exact zpr_b G_15 e25)
              · have e25 : ((i4 + 1) % i15) = 0 := (nI_eq (a := ((i4 + 1) % i15)) (b := 0) (by omega) (by omega)).mp c25
                refine lv_iconst (v := nI 0) hx hb dX17_prime_28 (by decide +kernel) ?_
                refine lv_istore_n (lv' := [(2, .int (nI 0)), (3, .int (nI i15)), (0, .int (nI aa)), (1, .int (nI (i4 + 1)))]) hx hb dX17_prime_29 rfl hl (by decide) rfl (fun ls hl => ?_)
                refine lv_iinc (v := nI (i15 + 1)) (lv' := [(3, .int (nI (i15 + 1))), (2, .int (nI 0)), (0, .int (nI aa)), (1, .int (nI (i4 + 1)))]) hx hb dX17_prime_30 hl (k := 1) rfl (nI_add i15 1) (by decide) rfl (fun ls hl => ?_)
                refine lv_goto (tgt := 15) hx hb dX17_prime_33 (by decide) ?_
                exact ih15 (i15 + 1) (by omega) (by omega) 0 _ _ _ hZ hS (lv_sub hl [0, 2, 3, 1] rfl) (by omega) (by first | exact zpr_0 | exact zpr_a G_15 e25 lo_15 (by omega) | exact zpr_b G_15 e25)
        exact L15 (21 + 1) 2 (by omega) (by omega) 1 _ _ _ hZ hS (lv_sub hl [0, 3, 2, 1] rfl) (by omega) (by first | exact zpr_0 | exact zpr_a G_15 e25 lo_15 (by omega) | exact zpr_b G_15 e25)
  exact L4 (z + 1) aa (by omega) (by omega) 0 _ _ _ hZ hS (lv_sub hl [1, 2, 0] rfl) (by first | omega | (have qx := zpr_x G_15 e19 (by omega) (by omega) hz1 hz2 (by omega) (by omega); omega))
abbrev ROOM_X17_times : Room := { frames := 1, cells := 0, slots := 0, locals := 0 }
set_option maxHeartbeats 4000000 in
set_option maxRecDepth 100000 in
/-- times of the roots -/
theorem c_X17_times (l : Launch) (D : va_G) (K : Nat → ClassId) (X Y : va_W) (L : List Nat) (T : Nat → va_E → Prop) {th : Nat} {vs_th : List Value} {left n_left : Nat} {cube n_cube : Nat} {hi : Int64} {lo : Int64}  (h_th : th ∈ L) (k_th : T th = zO 18 vs_th) (f_th_4 : vs_th[4]? = some (.ref left)) (h_left : left ∈ L) (k_left : T left = zJ (K 1) n_left) (b_left : 8 ≤ n_left ∧ n_left < 2147483648) (f_th_5 : vs_th[5]? = some (.ref cube)) (h_cube : cube ∈ L) (k_cube : T cube = zJ (K 1) n_cube) (b_cube : 8 ≤ n_cube ∧ n_cube < 2147483648)  : zV l D vwCl (zT K) yX17_times (zws yX17_times cX17_times 13 none) ROOM_X17_times 0 0 [.ref th, .long hi, .long lo] X Y L T (zSame Y L T) := by
  refine z_ofW (Qc := fun A => va_Qv (zSame Y L T) (zB D vwCl (zT K) A X) A) (cc := cX17_times) (maxL := 13) (ret := none) (by decide +kernel) rfl (Nat.le_of_ble_eq_true rfl) ?_
  intro p e s m below meth c A ls hx hb hml hr hts hown hlocks hin hA hK hZ hS hl
  have hown : s.vm.findClass RX17 = some m.cls := hown
  have hts : ∀ w ∈ WR, w.before [.ref th, .long hi, .long lo].toArray s = true := fun w h => hts w (List.mem_cons_of_mem _ h)
  have hl : lv_has ls 13 [(0, .ref th), (1, .long hi), (3, .long lo)] := hl
  obtain ⟨H, hH⟩ : ∃ H, H = s.heap := ⟨_, rfl⟩
  have hZ : zP D vwCl A X Y L T H := by rw [hH]; exact hZ
  obtain ⟨locs, hlc⟩ : ∃ q : List Loc, q = [] := ⟨_, rfl⟩
  have hS : va_S A s.heap H locs := by rw [hH, hlc]; exact hS
  suffices hW : W p l e ROOM_X17_times s m [.ref th, .long hi, .long lo].toArray below meth c H locs 0 0 (MQ below (va_Qv (zSame Y L T) (zB D vwCl (zT K) A X) A) [.ref th, .long hi, .long lo].toArray s 0 0 A) (F0 m 0 ls []) by rw [hH, hlc] at hW; exact hW
  clear hH hlc
  refine lv_iconst (v := nI 0) hx hb dX17_times_0 (by decide +kernel) ?_
  refine lv_istore (lv' := [(5, .int (nI 0)), (0, .ref th), (1, .long hi), (3, .long lo)]) hx hb dX17_times_1 hl (by decide) rfl (fun ls hl => ?_)
  have L3 : ∀ (n i3 : Nat), i3 ≤ 8 → 8 + 1 ≤ i3 + n → ∀  (H : Heap) (locs : List Loc) (ls : Array Slot), zP D vwCl A X Y L T H → va_S A s.heap H locs → lv_has ls 13 [(5, .int (nI i3)), (0, .ref th), (1, .long hi), (3, .long lo)] → W p l e ROOM_X17_times s m [.ref th, .long hi, .long lo].toArray below meth c H locs 0 0 (MQ below (va_Qv (zSame Y L T) (zB D vwCl (zT K) A X) A) [.ref th, .long hi, .long lo].toArray s 0 0 A) (F0 m 3 ls []) := by
    intro n
    induction n with
    | zero => intro i3 u3 w3; exact absurd w3 (by omega)
    | succ n ih3 =>
      intro i3 u3 w3  H locs ls hZ hS hl 
      refine lv_iload hx hb dX17_times_3 (lv_at hl 0 rfl) ?_
      refine lv_bipush (v := nI 8) hx hb dX17_times_5 (by decide +kernel) ?_
      refine lv_icmp_ge (tgt := 24) hx hb dX17_times_7 (by decide) (fun c7 => ?_) (fun c7 => ?_)
      · have e7 : 8 ≤ i3 := (nI_leI (a := 8) (b := i3) (by omega) (by omega)).mp c7
        refine lv_iconst (v := nI 0) hx hb dX17_times_24 (by decide +kernel) ?_
        refine lv_istore (lv' := [(5, .int (nI 0)), (0, .ref th), (1, .long hi), (3, .long lo)]) hx hb dX17_times_25 hl (by decide) rfl (fun ls hl => ?_)
        have L27 : ∀ (n i27 : Nat), i27 ≤ 3 → 3 + 1 ≤ i27 + n → ∀  (H : Heap) (locs : List Loc) (ls : Array Slot), zP D vwCl A X Y L T H → va_S A s.heap H locs → lv_has ls 13 [(5, .int (nI i27)), (0, .ref th), (1, .long hi), (3, .long lo)] → W p l e ROOM_X17_times s m [.ref th, .long hi, .long lo].toArray below meth c H locs 0 0 (MQ below (va_Qv (zSame Y L T) (zB D vwCl (zT K) A X) A) [.ref th, .long hi, .long lo].toArray s 0 0 A) (F0 m 27 ls []) := by
          intro n
          induction n with
          | zero => intro i27 u27 w27; exact absurd w27 (by omega)
          | succ n ih27 =>
            intro i27 u27 w27  H locs ls hZ hS hl 
            refine lv_iload hx hb dX17_times_27 (lv_at hl 0 rfl) ?_
            refine lv_iconst (v := nI 3) hx hb dX17_times_29 (by decide +kernel) ?_
            refine lv_icmp_ge (tgt := 139) hx hb dX17_times_30 (by decide) (fun c30 => ?_) (fun c30 => ?_)
            · have e30 : 3 ≤ i27 := (nI_leI (a := 3) (b := i27) (by omega) (by omega)).mp c30
              refine lv_iconst (v := nI 0) hx hb dX17_times_139 (by decide +kernel) ?_
              refine lv_istore (lv' := [(5, .int (nI 0)), (0, .ref th), (1, .long hi), (3, .long lo)]) hx hb dX17_times_140 hl (by decide) rfl (fun ls hl => ?_)
              have L142 : ∀ (n i142 : Nat), i142 ≤ 8 → 8 + 1 ≤ i142 + n → ∀  (H : Heap) (locs : List Loc) (ls : Array Slot), zP D vwCl A X Y L T H → va_S A s.heap H locs → lv_has ls 13 [(5, .int (nI i142)), (0, .ref th)] → W p l e ROOM_X17_times s m [.ref th, .long hi, .long lo].toArray below meth c H locs 0 0 (MQ below (va_Qv (zSame Y L T) (zB D vwCl (zT K) A X) A) [.ref th, .long hi, .long lo].toArray s 0 0 A) (F0 m 142 ls []) := by
                intro n
                induction n with
                | zero => intro i142 u142 w142; exact absurd w142 (by omega)
                | succ n ih142 =>
                  intro i142 u142 w142  H locs ls hZ hS hl 
                  refine lv_iload hx hb dX17_times_142 (lv_at hl 0 rfl) ?_
                  refine lv_bipush (v := nI 8) hx hb dX17_times_144 (by decide +kernel) ?_
                  refine lv_icmp_ge (tgt := 169) hx hb dX17_times_146 (by decide) (fun c146 => ?_) (fun c146 => ?_)
                  · have e146 : 8 ≤ i142 := (nI_leI (a := 8) (b := i142) (by omega) (by omega)).mp c146
                    exact z_vret hx hb hr hlocks hK hZ hS rfl (Nat.le_of_ble_eq_true rfl) (Nat.le_of_ble_eq_true rfl) dX17_times_169
                  · have e146 : ¬ 8 ≤ i142 := fun q => c146 ((nI_leI (a := 8) (b := i142) (by omega) (by omega)).mpr q)
                    refine lv_aload_n hx hb dX17_times_149 rfl (lv_at hl 1 rfl) ?_
                    refine z_getP (own := RX17) (C := RX17) (TT := TX17) (N := 14) (ci := 18) (Ts := WR) hx hb hts zin_wsX170 hown hK hZ h_th k_th rfl 4 (by decide) (hts _ zw_166) (fun _ h9 => h9) f_th_4 dX17_times_150 ?_
                    refine lv_iload hx hb dX17_times_153 (lv_at hl 0 rfl) ?_
                    refine lv_aload_n hx hb dX17_times_155 rfl (lv_at hl 1 rfl) ?_
                    refine z_getP (own := RX17) (C := RX17) (TT := TX17) (N := 14) (ci := 18) (Ts := WR) hx hb hts zin_wsX170 hown hK hZ h_th k_th rfl 5 (by decide) (hts _ zw_167) (fun _ h9 => h9) f_th_5 dX17_times_156 ?_
                    refine lv_iload hx hb dX17_times_159 (lv_at hl 0 rfl) ?_
                    refine z_lald hx hb hK hZ 1 h_cube k_cube rfl (vp_in_nI (by omega) (by omega)) dX17_times_161 (fun x1 => ?_)
                    refine z_last hx hb hK hZ hS 1 h_left k_left rfl (vp_in_nI (by omega) (by omega)) dX17_times_162 (fun H locs hZ hS => ?_)
                    refine lv_iinc (v := nI (i142 + 1)) (lv' := [(5, .int (nI (i142 + 1))), (0, .ref th)]) hx hb dX17_times_163 hl (k := 0) rfl (nI_add i142 1) (by decide) rfl (fun ls hl => ?_)
                    refine lv_goto (tgt := 142) hx hb dX17_times_166 (by decide) ?_
                    exact ih142 (i142 + 1) (by omega) (by omega)  _ _ _ hZ hS (lv_sub hl [0, 1] rfl) 
              exact L142 (8 + 1) 0 (by omega) (by omega)  _ _ _ hZ hS (lv_sub hl [0, 1] rfl) 
            · have e30 : ¬ 3 ≤ i27 := fun q => c30 ((nI_leI (a := 3) (b := i27) (by omega) (by omega)).mpr q)
              have J60 : ∀ (t0_60 : Int64) (H : Heap) (locs : List Loc) (ls : Array Slot), zP D vwCl A X Y L T H → va_S A s.heap H locs → lv_has ls 13 [(0, .ref th), (1, .long hi), (3, .long lo), (5, .int (nI i27))] → W p l e ROOM_X17_times s m [.ref th, .long hi, .long lo].toArray below meth c H locs 0 0 (MQ below (va_Qv (zSame Y L T) (zB D vwCl (zT K) A X) A) [.ref th, .long hi, .long lo].toArray s 0 0 A) (F0 m 60 ls [.long t0_60]) := by
                intro t0_60 H locs ls hZ hS hl 
                refine lv_lstore (lv' := [(6, .long t0_60), (0, .ref th), (1, .long hi), (3, .long lo), (5, .int (nI i27))]) hx hb dX17_times_60 hl (by decide) rfl (fun ls hl => ?_)
                refine lv_lconst (v := 0) hx hb dX17_times_62 (by decide +kernel) ?_
                refine lv_lstore (lv' := [(8, .long 0), (6, .long t0_60), (0, .ref th), (1, .long hi), (3, .long lo), (5, .int (nI i27))]) hx hb dX17_times_63 hl (by decide) rfl (fun ls hl => ?_)
                refine lv_iconst (v := nI 0) hx hb dX17_times_65 (by decide +kernel) ?_
                refine lv_istore (lv' := [(10, .int (nI 0)), (8, .long 0), (6, .long t0_60), (0, .ref th), (1, .long hi), (3, .long lo), (5, .int (nI i27))]) hx hb dX17_times_66 hl (by decide) rfl (fun ls hl => ?_)
                have L68 : ∀ (n i68 : Nat), i68 ≤ 8 → 8 + 1 ≤ i68 + n → ∀ (v8_68 : Int64) (H : Heap) (locs : List Loc) (ls : Array Slot), zP D vwCl A X Y L T H → va_S A s.heap H locs → lv_has ls 13 [(10, .int (nI i68)), (0, .ref th), (1, .long hi), (3, .long lo), (5, .int (nI i27)), (6, .long t0_60), (8, .long v8_68)] → W p l e ROOM_X17_times s m [.ref th, .long hi, .long lo].toArray below meth c H locs 0 0 (MQ below (va_Qv (zSame Y L T) (zB D vwCl (zT K) A X) A) [.ref th, .long hi, .long lo].toArray s 0 0 A) (F0 m 68 ls []) := by
                  intro n
                  induction n with
                  | zero => intro i68 u68 w68; exact absurd w68 (by omega)
                  | succ n ih68 =>
                    intro i68 u68 w68 v8_68 H locs ls hZ hS hl 
                    refine lv_iload hx hb dX17_times_68 (lv_at hl 4 rfl) ?_
                    refine lv_iload hx hb dX17_times_70 (lv_at hl 0 rfl) ?_
                    refine lv_iadd hx hb dX17_times_72 ?_
                    refine lv_topi (fun x2 ex2 => ?_)
                    obtain rfl : x2 = nI (i27 + i68) := ex2.trans (nI_add i27 i68)
                    refine lv_bipush (v := nI 8) hx hb dX17_times_73 (by decide +kernel) ?_
                    refine lv_icmp_ge (tgt := 133) hx hb dX17_times_75 (by decide) (fun c75 => ?_) (fun c75 => ?_)
                    · have e75 : 8 ≤ (i27 + i68) := (nI_leI (a := 8) (b := (i27 + i68)) (by omega) (by omega)).mp c75
                      refine lv_iinc (v := nI (i27 + 1)) (lv' := [(5, .int (nI (i27 + 1))), (10, .int (nI i68)), (0, .ref th), (1, .long hi), (3, .long lo), (6, .long t0_60), (8, .long v8_68)]) hx hb dX17_times_133 hl (k := 4) rfl (nI_add i27 1) (by decide) rfl (fun ls hl => ?_)
                      refine lv_goto (tgt := 27) hx hb dX17_times_136 (by decide) ?_
                      exact ih27 (i27 + 1) (by omega) (by omega)  _ _ _ hZ hS (lv_sub hl [0, 2, 3, 4] rfl) 
                    · have e75 : ¬ 8 ≤ (i27 + i68) := fun q => c75 ((nI_leI (a := 8) (b := (i27 + i68)) (by omega) (by omega)).mpr q)
                      refine lv_aload_n hx hb dX17_times_78 rfl (lv_at hl 1 rfl) ?_
                      refine z_getP (own := RX17) (C := RX17) (TT := TX17) (N := 14) (ci := 18) (Ts := WR) hx hb hts zin_wsX170 hown hK hZ h_th k_th rfl 5 (by decide) (hts _ zw_167) (fun _ h9 => h9) f_th_5 dX17_times_79 ?_
                      refine lv_iload hx hb dX17_times_82 (lv_at hl 4 rfl) ?_
                      refine lv_iload hx hb dX17_times_84 (lv_at hl 0 rfl) ?_
                      refine lv_iadd hx hb dX17_times_86 ?_
                      refine lv_topi (fun x3 ex3 => ?_)
                      obtain rfl : x3 = nI (i27 + i68) := ex3.trans (nI_add i27 i68)
                      refine z_lald hx hb hK hZ 1 h_cube k_cube rfl (vp_in_nI (by omega) (by omega)) dX17_times_87 (fun x4 => ?_)
                      refine lv_lload hx hb dX17_times_88 (lv_at hl 5 rfl) ?_
                      refine lv_aload_n hx hb dX17_times_90 rfl (lv_at hl 1 rfl) ?_
                      refine z_getP (own := RX17) (C := RX17) (TT := TX17) (N := 14) (ci := 18) (Ts := WR) hx hb hts zin_wsX170 hown hK hZ h_th k_th rfl 4 (by decide) (hts _ zw_166) (fun _ h9 => h9) f_th_4 dX17_times_91 ?_
                      refine lv_iload hx hb dX17_times_94 (lv_at hl 0 rfl) ?_
                      refine z_lald hx hb hK hZ 1 h_left k_left rfl (vp_in_nI (by omega) (by omega)) dX17_times_96 (fun x5 => ?_)
                      refine lv_lmul hx hb dX17_times_97 ?_
                      refine lv_topl (fun x6 _ => ?_)
                      refine lv_ladd hx hb dX17_times_98 ?_
                      refine lv_topl (fun x7 _ => ?_)
                      refine lv_lload hx hb dX17_times_99 (lv_at hl 6 rfl) ?_
                      refine lv_ladd hx hb dX17_times_101 ?_
                      refine lv_topl (fun x8 _ => ?_)
                      refine lv_lstore (lv' := [(11, .long x8), (10, .int (nI i68)), (0, .ref th), (1, .long hi), (3, .long lo), (5, .int (nI i27)), (6, .long t0_60), (8, .long v8_68)]) hx hb dX17_times_102 hl (by decide) rfl (fun ls hl => ?_)
                      refine lv_aload_n hx hb dX17_times_104 rfl (lv_at hl 2 rfl) ?_
                      refine z_getP (own := RX17) (C := RX17) (TT := TX17) (N := 14) (ci := 18) (Ts := WR) hx hb hts zin_wsX170 hown hK hZ h_th k_th rfl 5 (by decide) (hts _ zw_167) (fun _ h9 => h9) f_th_5 dX17_times_105 ?_
                      refine lv_iload hx hb dX17_times_108 (lv_at hl 5 rfl) ?_
                      refine lv_iload hx hb dX17_times_110 (lv_at hl 1 rfl) ?_
                      refine lv_iadd hx hb dX17_times_112 ?_
                      refine lv_topi (fun x9 ex9 => ?_)
                      obtain rfl : x9 = nI (i27 + i68) := ex9.trans (nI_add i27 i68)
                      refine lv_lload hx hb dX17_times_113 (lv_at hl 0 rfl) ?_
                      refine lv_ldc2 (v := (4294967295)) hx hb hown (hts _ zw_193) dX17_times_115 ?_
                      refine lv_land hx hb dX17_times_118 ?_
                      refine lv_topl (fun x10 _ => ?_)
                      refine z_last hx hb hK hZ hS 1 h_cube k_cube rfl (vp_in_nI (by omega) (by omega)) dX17_times_119 (fun H locs hZ hS => ?_)
                      refine lv_lload hx hb dX17_times_120 (lv_at hl 0 rfl) ?_
                      refine lv_bipush (v := nI 32) hx hb dX17_times_122 (by decide +kernel) ?_
                      refine lv_lushr hx hb dX17_times_124 rfl ?_
                      refine lv_topl (fun x11 _ => ?_)
                      refine lv_lstore (lv' := [(8, .long x11), (11, .long x8), (10, .int (nI i68)), (0, .ref th), (1, .long hi), (3, .long lo), (5, .int (nI i27)), (6, .long t0_60)]) hx hb dX17_times_125 hl (by decide) rfl (fun ls hl => ?_)
                      refine lv_iinc (v := nI (i68 + 1)) (lv' := [(10, .int (nI (i68 + 1))), (8, .long x11), (11, .long x8), (0, .ref th), (1, .long hi), (3, .long lo), (5, .int (nI i27)), (6, .long t0_60)]) hx hb dX17_times_127 hl (k := 2) rfl (nI_add i68 1) (by decide) rfl (fun ls hl => ?_)
                      refine lv_goto (tgt := 68) hx hb dX17_times_130 (by decide) ?_
                      exact ih68 (i68 + 1) (by omega) (by omega) x11 _ _ _ hZ hS (lv_sub hl [0, 3, 4, 5, 6, 7, 1] rfl) 
                exact L68 (8 + 1) 0 (by omega) (by omega) 0 _ _ _ hZ hS (lv_sub hl [0, 3, 4, 5, 6, 2, 1] rfl) 
              refine lv_iload hx hb dX17_times_33 (lv_at hl 0 rfl) ?_
              refine lv_if_ne (tgt := 46) hx hb dX17_times_35 (by decide) (fun c35 => ?_) (fun c35 => ?_)
              · have e35 : ¬ i27 = 0 := fun q => c35 ((nI_eq (a := i27) (b := 0) (by omega) (by omega)).mpr q)
                refine lv_iload hx hb dX17_times_46 (lv_at hl 0 rfl) ?_
                refine lv_iconst (v := nI 1) hx hb dX17_times_48 (by decide +kernel) ?_
                refine lv_icmp_ne (tgt := 59) hx hb dX17_times_49 (by decide) (fun c49 => ?_) (fun c49 => ?_)
                · have e49 : ¬ i27 = 1 := fun q => c49 ((nI_eq (a := i27) (b := 1) (by omega) (by omega)).mpr q)
                  refine lv_lload_n hx hb dX17_times_59 rfl (lv_at hl 2 rfl) ?_
                  exact J60  hi _ _ _ hZ hS (lv_sub hl [1, 2, 3, 0] rfl) 
                · have e49 : i27 = 1 := (nI_eq (a := i27) (b := 1) (by omega) (by omega)).mp c49
                  refine lv_lload_n hx hb dX17_times_52 rfl (lv_at hl 3 rfl) ?_
                  refine lv_bipush (v := nI 32) hx hb dX17_times_53 (by decide +kernel) ?_
                  refine lv_lushr hx hb dX17_times_55 rfl ?_
                  refine lv_topl (fun x12 _ => ?_)
                  refine lv_goto (tgt := 60) hx hb dX17_times_56 (by decide) ?_
                  exact J60  x12 _ _ _ hZ hS (lv_sub hl [1, 2, 3, 0] rfl) 
              · have e35 : i27 = 0 := (nI_eq (a := i27) (b := 0) (by omega) (by omega)).mp c35
                refine lv_lload_n hx hb dX17_times_38 rfl (lv_at hl 3 rfl) ?_
                refine lv_ldc2 (v := (4294967295)) hx hb hown (hts _ zw_193) dX17_times_39 ?_
                refine lv_land hx hb dX17_times_42 ?_
                refine lv_topl (fun x13 _ => ?_)
                refine lv_goto (tgt := 60) hx hb dX17_times_43 (by decide) ?_
                exact J60  x13 _ _ _ hZ hS (lv_sub hl [1, 2, 3, 0] rfl) 
        exact L27 (3 + 1) 0 (by omega) (by omega)  _ _ _ hZ hS (lv_sub hl [0, 1, 2, 3] rfl) 
      · have e7 : ¬ 8 ≤ i3 := fun q => c7 ((nI_leI (a := 8) (b := i3) (by omega) (by omega)).mpr q)
        refine lv_aload_n hx hb dX17_times_10 rfl (lv_at hl 1 rfl) ?_
        refine z_getP (own := RX17) (C := RX17) (TT := TX17) (N := 14) (ci := 18) (Ts := WR) hx hb hts zin_wsX170 hown hK hZ h_th k_th rfl 5 (by decide) (hts _ zw_167) (fun _ h9 => h9) f_th_5 dX17_times_11 ?_
        refine lv_iload hx hb dX17_times_14 (lv_at hl 0 rfl) ?_
        refine lv_lconst (v := 0) hx hb dX17_times_16 (by decide +kernel) ?_
        refine z_last hx hb hK hZ hS 1 h_cube k_cube rfl (vp_in_nI (by omega) (by omega)) dX17_times_17 (fun H locs hZ hS => ?_)
        refine lv_iinc (v := nI (i3 + 1)) (lv' := [(5, .int (nI (i3 + 1))), (0, .ref th), (1, .long hi), (3, .long lo)]) hx hb dX17_times_18 hl (k := 0) rfl (nI_add i3 1) (by decide) rfl (fun ls hl => ?_)
        refine lv_goto (tgt := 3) hx hb dX17_times_21 (by decide) ?_
        exact ih3 (i3 + 1) (by omega) (by omega)  _ _ _ hZ hS (lv_sub hl [0, 1, 2, 3] rfl) 
  exact L3 (8 + 1) 0 (by omega) (by omega)  _ _ _ hZ hS (lv_sub hl [0, 1, 2, 3] rfl) 
abbrev ROOM_X17_fits : Room := { frames := 2, cells := 0, slots := 0, locals := 32 }
set_option maxHeartbeats 4000000 in
set_option maxRecDepth 100000 in
/-- fits -/
theorem c_X17_fits (l : Launch) (D : va_G) (K : Nat → ClassId) (X Y : va_W) (L : List Nat) (T : Nat → va_E → Prop) {th : Nat} {vs_th : List Value} {left n_left : Nat} {cube n_cube : Nat} {hi : Int64} {lo : Int64} {pn : Int32} {pw : Nat}  (h_th : th ∈ L) (k_th : T th = zO 18 vs_th) (f_th_4 : vs_th[4]? = some (.ref left)) (h_left : left ∈ L) (k_left : T left = zJ (K 1) n_left) (b_left : 8 ≤ n_left ∧ n_left < 2147483648) (f_th_5 : vs_th[5]? = some (.ref cube)) (h_cube : cube ∈ L) (k_cube : T cube = zJ (K 1) n_cube) (b_cube : 8 ≤ n_cube ∧ n_cube < 2147483648) (b_pw : 1 ≤ pw ∧ pw ≤ 3)  : zVi l D vwCl (zT K) yX17_fits (zws yX17_fits cX17_fits 10 (some .boolean)) ROOM_X17_fits 0 0 [.ref th, .long hi, .long lo, .int pn, .int (nI pw)] X Y L T (fun _ => zSame Y L T) := by
  refine z_ofW (Qc := fun A => va_Qi (fun _ => zSame Y L T) (zB D vwCl (zT K) A X) A) (cc := cX17_fits) (maxL := 10) (ret := (some .boolean)) (by decide +kernel) rfl (Nat.le_of_ble_eq_true rfl) ?_
  intro p e s m below meth c A ls hx hb hml hr hts hown hlocks hin hA hK hZ hS hl
  have hown : s.vm.findClass RX17 = some m.cls := hown
  have hts : ∀ w ∈ WR, w.before [.ref th, .long hi, .long lo, .int pn, .int (nI pw)].toArray s = true := fun w h => hts w (List.mem_cons_of_mem _ h)
  have hl : lv_has ls 10 [(0, .ref th), (1, .long hi), (3, .long lo), (5, .int pn), (6, .int (nI pw))] := hl
  obtain ⟨H, hH⟩ : ∃ H, H = s.heap := ⟨_, rfl⟩
  have hZ : zP D vwCl A X Y L T H := by rw [hH]; exact hZ
  obtain ⟨locs, hlc⟩ : ∃ q : List Loc, q = [] := ⟨_, rfl⟩
  have hS : va_S A s.heap H locs := by rw [hH, hlc]; exact hS
  suffices hW : W p l e ROOM_X17_fits s m [.ref th, .long hi, .long lo, .int pn, .int (nI pw)].toArray below meth c H locs 0 0 (MQ below (va_Qi (fun _ => zSame Y L T) (zB D vwCl (zT K) A X) A) [.ref th, .long hi, .long lo, .int pn, .int (nI pw)].toArray s 0 0 A) (F0 m 0 ls []) by rw [hH, hlc] at hW; exact hW
  clear hH hlc
  refine lv_iconst (v := nI 0) hx hb dX17_fits_0 (by decide +kernel) ?_
  refine lv_istore (lv' := [(7, .int (nI 0)), (0, .ref th), (1, .long hi), (3, .long lo), (5, .int pn), (6, .int (nI pw))]) hx hb dX17_fits_1 hl (by decide) rfl (fun ls hl => ?_)
  have L3 : ∀ (n i3 : Nat), i3 ≤ 8 → 8 + 1 ≤ i3 + n → ∀  (H : Heap) (locs : List Loc) (ls : Array Slot), zP D vwCl A X Y L T H → va_S A s.heap H locs → lv_has ls 10 [(7, .int (nI i3)), (0, .ref th), (1, .long hi), (3, .long lo), (5, .int pn), (6, .int (nI pw))] → W p l e ROOM_X17_fits s m [.ref th, .long hi, .long lo, .int pn, .int (nI pw)].toArray below meth c H locs 0 0 (MQ below (va_Qi (fun _ => zSame Y L T) (zB D vwCl (zT K) A X) A) [.ref th, .long hi, .long lo, .int pn, .int (nI pw)].toArray s 0 0 A) (F0 m 3 ls []) := by
    intro n
    induction n with
    | zero => intro i3 u3 w3; exact absurd w3 (by omega)
    | succ n ih3 =>
      intro i3 u3 w3  H locs ls hZ hS hl 
      refine lv_iload hx hb dX17_fits_3 (lv_at hl 0 rfl) ?_
      refine lv_bipush (v := nI 8) hx hb dX17_fits_5 (by decide +kernel) ?_
      refine lv_icmp_ge (tgt := 33) hx hb dX17_fits_7 (by decide) (fun c7 => ?_) (fun c7 => ?_)
      · have e7 : 8 ≤ i3 := (nI_leI (a := 8) (b := i3) (by omega) (by omega)).mp c7
        refine lv_iconst (v := nI 0) hx hb dX17_fits_33 (by decide +kernel) ?_
        refine lv_istore (lv' := [(7, .int (nI 0)), (0, .ref th), (1, .long hi), (3, .long lo), (5, .int pn), (6, .int (nI pw))]) hx hb dX17_fits_34 hl (by decide) rfl (fun ls hl => ?_)
        have L36 : ∀ (n i36 : Nat), i36 ≤ pw → pw + 1 ≤ i36 + n → ∀  (H : Heap) (locs : List Loc) (ls : Array Slot), zP D vwCl A X Y L T H → va_S A s.heap H locs → lv_has ls 10 [(7, .int (nI i36)), (0, .ref th), (1, .long hi), (3, .long lo), (5, .int pn), (6, .int (nI pw))] → W p l e ROOM_X17_fits s m [.ref th, .long hi, .long lo, .int pn, .int (nI pw)].toArray below meth c H locs 0 0 (MQ below (va_Qi (fun _ => zSame Y L T) (zB D vwCl (zT K) A X) A) [.ref th, .long hi, .long lo, .int pn, .int (nI pw)].toArray s 0 0 A) (F0 m 36 ls []) := by
          intro n
          induction n with
          | zero => intro i36 u36 w36; exact absurd w36 (by omega)
          | succ n ih36 =>
            intro i36 u36 w36  H locs ls hZ hS hl 
            refine lv_iload hx hb dX17_fits_36 (lv_at hl 0 rfl) ?_
            refine lv_iload hx hb dX17_fits_38 (lv_at hl 5 rfl) ?_
            refine lv_icmp_ge (tgt := 55) hx hb dX17_fits_40 (by decide) (fun c40 => ?_) (fun c40 => ?_)
            · have e40 : pw ≤ i36 := (nI_leI (a := pw) (b := i36) (by omega) (by omega)).mp c40
              refine lv_lconst (v := 0) hx hb dX17_fits_55 (by decide +kernel) ?_
              refine lv_lstore (lv' := [(7, .long 0), (0, .ref th), (1, .long hi), (3, .long lo), (5, .int pn), (6, .int (nI pw))]) hx hb dX17_fits_56 hl (by decide) rfl (fun ls hl => ?_)
              refine lv_bipush (v := nI 7) hx hb dX17_fits_58 (by decide +kernel) ?_
              refine lv_istore (lv' := [(9, .int (nI 7)), (7, .long 0), (0, .ref th), (1, .long hi), (3, .long lo), (5, .int pn), (6, .int (nI pw))]) hx hb dX17_fits_60 hl (by decide) rfl (fun ls hl => ?_)
              have L62 : ∀ (n i62 : Nat), (2 * pw) ≤ i62 + 1 ∧ i62 ≤ 7 → i62 + 2 ≤ (2 * pw) + n → ∀ (v7_62 : Int64) (H : Heap) (locs : List Loc) (ls : Array Slot), zP D vwCl A X Y L T H → va_S A s.heap H locs → lv_has ls 10 [(9, .int (nI i62)), (0, .ref th), (5, .int pn), (6, .int (nI pw)), (7, .long v7_62)] → W p l e ROOM_X17_fits s m [.ref th, .long hi, .long lo, .int pn, .int (nI pw)].toArray below meth c H locs 0 0 (MQ below (va_Qi (fun _ => zSame Y L T) (zB D vwCl (zT K) A X) A) [.ref th, .long hi, .long lo, .int pn, .int (nI pw)].toArray s 0 0 A) (F0 m 62 ls []) := by
                intro n
                induction n with
                | zero => intro i62 u62 w62; exact absurd w62 (by omega)
                | succ n ih62 =>
                  intro i62 u62 w62 v7_62 H locs ls hZ hS hl 
                  refine lv_iload hx hb dX17_fits_62 (lv_at hl 0 rfl) ?_
                  refine lv_iconst (v := nI 2) hx hb dX17_fits_64 (by decide +kernel) ?_
                  refine lv_iload hx hb dX17_fits_65 (lv_at hl 3 rfl) ?_
                  refine lv_imul hx hb dX17_fits_67 ?_
                  refine lv_topi (fun x1 ex1 => ?_)
                  obtain rfl : x1 = nI (2 * pw) := ex1.trans (pk_mul 2 pw)
                  refine lv_icmp_lt (tgt := 92) hx hb dX17_fits_68 (by decide) (fun c68 => ?_) (fun c68 => ?_)
                  · have e68 : i62 < (2 * pw) := (nI_ltI (a := i62) (b := (2 * pw)) (by omega) (by omega)).mp c68
                    refine lv_lload hx hb dX17_fits_92 (lv_at hl 4 rfl) ?_
                    refine lv_iload hx hb dX17_fits_94 (lv_at hl 2 rfl) ?_
                    refine lv_i2l hx hb dX17_fits_96 rfl ?_
                    refine lv_topl (fun x2 _ => ?_)
                    refine W.lcmp hx hb dX17_fits_97 ?_
                    refine lv_topi (fun x3 ex3 => ?_)
                    refine lv_if_eq (tgt := 116) hx hb dX17_fits_98 (by decide) (fun c98 => ?_) (fun c98 => ?_)
                    · refine lv_iconst (v := nI 0) hx hb dX17_fits_116 (by decide +kernel) ?_
                      refine lv_istore (lv' := [(9, .int (nI 0)), (0, .ref th), (5, .int pn), (6, .int (nI pw)), (7, .long v7_62)]) hx hb dX17_fits_117 hl (by decide) rfl (fun ls hl => ?_)
                      have L119 : ∀ (n i119 : Nat), i119 ≤ (2 * pw) → (2 * pw) + 1 ≤ i119 + n → ∀  (H : Heap) (locs : List Loc) (ls : Array Slot), zP D vwCl A X Y L T H → va_S A s.heap H locs → lv_has ls 10 [(9, .int (nI i119)), (0, .ref th), (6, .int (nI pw))] → W p l e ROOM_X17_fits s m [.ref th, .long hi, .long lo, .int pn, .int (nI pw)].toArray below meth c H locs 0 0 (MQ below (va_Qi (fun _ => zSame Y L T) (zB D vwCl (zT K) A X) A) [.ref th, .long hi, .long lo, .int pn, .int (nI pw)].toArray s 0 0 A) (F0 m 119 ls []) := by
                        intro n
                        induction n with
                        | zero => intro i119 u119 w119; exact absurd w119 (by omega)
                        | succ n ih119 =>
                          intro i119 u119 w119  H locs ls hZ hS hl 
                          refine lv_iload hx hb dX17_fits_119 (lv_at hl 0 rfl) ?_
                          refine lv_iconst (v := nI 2) hx hb dX17_fits_121 (by decide +kernel) ?_
                          refine lv_iload hx hb dX17_fits_122 (lv_at hl 2 rfl) ?_
                          refine lv_imul hx hb dX17_fits_124 ?_
                          refine lv_topi (fun x4 ex4 => ?_)
                          obtain rfl : x4 = nI (2 * pw) := ex4.trans (pk_mul 2 pw)
                          refine lv_icmp_ge (tgt := 148) hx hb dX17_fits_125 (by decide) (fun c125 => ?_) (fun c125 => ?_)
                          · have e125 : (2 * pw) ≤ i119 := (nI_leI (a := (2 * pw)) (b := i119) (by omega) (by omega)).mp c125
                            refine lv_iconst (v := nI 1) hx hb dX17_fits_148 (by decide +kernel) ?_
                            exact z_iret hx hb hr rfl hlocks hK hZ hS rfl (Nat.le_of_ble_eq_true rfl) (Nat.le_of_ble_eq_true rfl) dX17_fits_149
                          · have e125 : ¬ (2 * pw) ≤ i119 := fun q => c125 ((nI_leI (a := (2 * pw)) (b := i119) (by omega) (by omega)).mpr q)
                            refine lv_aload_n hx hb dX17_fits_128 rfl (lv_at hl 1 rfl) ?_
                            refine z_getP (own := RX17) (C := RX17) (TT := TX17) (N := 14) (ci := 18) (Ts := WR) hx hb hts zin_wsX170 hown hK hZ h_th k_th rfl 4 (by decide) (hts _ zw_166) (fun _ h9 => h9) f_th_4 dX17_fits_129 ?_
                            refine lv_iload hx hb dX17_fits_132 (lv_at hl 0 rfl) ?_
                            refine z_lald hx hb hK hZ 1 h_left k_left rfl (vp_in_nI (by omega) (by omega)) dX17_fits_134 (fun x5 => ?_)
                            refine lv_lconst (v := 0) hx hb dX17_fits_135 (by decide +kernel) ?_
                            refine W.lcmp hx hb dX17_fits_136 ?_
                            refine lv_topi (fun x6 ex6 => ?_)
                            refine lv_if_eq (tgt := 142) hx hb dX17_fits_137 (by decide) (fun c137 => ?_) (fun c137 => ?_)
                            · refine lv_iinc (v := nI (i119 + 1)) (lv' := [(9, .int (nI (i119 + 1))), (0, .ref th), (6, .int (nI pw))]) hx hb dX17_fits_142 hl (k := 0) rfl (nI_add i119 1) (by decide) rfl (fun ls hl => ?_)
                              refine lv_goto (tgt := 119) hx hb dX17_fits_145 (by decide) ?_
                              exact ih119 (i119 + 1) (by omega) (by omega)  _ _ _ hZ hS (lv_sub hl [0, 1, 2] rfl) 
                            · refine lv_iconst (v := nI 0) hx hb dX17_fits_140 (by decide +kernel) ?_
                              exact z_iret hx hb hr rfl hlocks hK hZ hS rfl (Nat.le_of_ble_eq_true rfl) (Nat.le_of_ble_eq_true rfl) dX17_fits_141
                      exact L119 ((2 * pw) + 1) 0 (by omega) (by omega)  _ _ _ hZ hS (lv_sub hl [0, 1, 3] rfl) 
                    · refine lv_lload hx hb dX17_fits_101 (lv_at hl 4 rfl) ?_
                      refine lv_iload hx hb dX17_fits_103 (lv_at hl 2 rfl) ?_
                      refine lv_i2l hx hb dX17_fits_105 rfl ?_
                      refine lv_topl (fun x7 _ => ?_)
                      refine W.lcmp hx hb dX17_fits_106 ?_
                      refine lv_topi (fun x8 ex8 => ?_)
                      refine lv_if_ge (tgt := 114) hx hb dX17_fits_107 (by decide) (fun c107 => ?_) (fun c107 => ?_)
                      · refine lv_iconst (v := nI 0) hx hb dX17_fits_114 (by decide +kernel) ?_
                        exact z_iret hx hb hr rfl hlocks hK hZ hS rfl (Nat.le_of_ble_eq_true rfl) (Nat.le_of_ble_eq_true rfl) dX17_fits_115
                      · refine lv_iconst (v := nI 1) hx hb dX17_fits_110 (by decide +kernel) ?_
                        refine lv_goto (tgt := 115) hx hb dX17_fits_111 (by decide) ?_
                        exact z_iret hx hb hr rfl hlocks hK hZ hS rfl (Nat.le_of_ble_eq_true rfl) (Nat.le_of_ble_eq_true rfl) dX17_fits_115
                  · have e68 : ¬ i62 < (2 * pw) := fun q => c68 ((nI_ltI (a := i62) (b := (2 * pw)) (by omega) (by omega)).mpr q)
                    refine lv_lload hx hb dX17_fits_71 (lv_at hl 4 rfl) ?_
                    refine lv_bipush (v := nI 32) hx hb dX17_fits_73 (by decide +kernel) ?_
                    refine lv_lshl hx hb dX17_fits_75 rfl ?_
                    refine lv_topl (fun x9 _ => ?_)
                    refine lv_aload_n hx hb dX17_fits_76 rfl (lv_at hl 1 rfl) ?_
                    refine z_getP (own := RX17) (C := RX17) (TT := TX17) (N := 14) (ci := 18) (Ts := WR) hx hb hts zin_wsX170 hown hK hZ h_th k_th rfl 4 (by decide) (hts _ zw_166) (fun _ h9 => h9) f_th_4 dX17_fits_77 ?_
                    refine lv_iload hx hb dX17_fits_80 (lv_at hl 0 rfl) ?_
                    refine z_lald hx hb hK hZ 1 h_left k_left rfl (vp_in_nI (by omega) (by omega)) dX17_fits_82 (fun x10 => ?_)
                    refine lv_lor hx hb dX17_fits_83 ?_
                    refine lv_topl (fun x11 _ => ?_)
                    refine lv_lstore (lv' := [(7, .long x11), (9, .int (nI i62)), (0, .ref th), (5, .int pn), (6, .int (nI pw))]) hx hb dX17_fits_84 hl (by decide) rfl (fun ls hl => ?_)
                    refine lv_iinc (v := nI (i62 - 1)) (lv' := [(9, .int (nI (i62 - 1))), (7, .long x11), (0, .ref th), (5, .int pn), (6, .int (nI pw))]) hx hb dX17_fits_86 hl (k := 1) rfl (sb_m1 (by omega)) (by decide) rfl (fun ls hl => ?_)
                    refine lv_goto (tgt := 62) hx hb dX17_fits_89 (by decide) ?_
                    exact ih62 (i62 - 1) (by omega) (by omega) x11 _ _ _ hZ hS (lv_sub hl [0, 2, 3, 4, 1] rfl) 
              exact L62 (7 + 2) 7 (by omega) (by omega) 0 _ _ _ hZ hS (lv_sub hl [0, 2, 5, 6, 1] rfl) 
            · have e40 : ¬ pw ≤ i36 := fun q => c40 ((nI_leI (a := pw) (b := i36) (by omega) (by omega)).mpr q)
              refine lv_aload_n hx hb dX17_fits_43 rfl (lv_at hl 1 rfl) ?_
              refine lv_lload_n hx hb dX17_fits_44 rfl (lv_at hl 2 rfl) ?_
              refine lv_lload_n hx hb dX17_fits_45 rfl (lv_at hl 3 rfl) ?_
              refine z_goV (va_runV (As := [.long hi, .long lo]) (rest := []) ⟨hx, hb, hml, hown, hts⟩ ((c_X17_times l D K X Y L T h_th k_th f_th_4 h_left k_left ⟨by omega, by omega⟩ f_th_5 h_cube k_cube ⟨by omega, by omega⟩) H.size) (cwV 2 hts (zg_V zw_189 zw_191 zw_192 zw_180 zw_190) rfl rfl rfl (by decide +kernel) ⟨Nat.le_of_ble_eq_true rfl, Nat.le_of_ble_eq_true rfl⟩) (z_preV hK hZ (z_recvP hK hZ h_th k_th rfl)) rfl rfl hl.1 rfl (lv_room (Nat.le_of_ble_eq_true rfl)) dX17_fits_46 ⟨Nat.le_of_ble_eq_true rfl, Nat.le_of_ble_eq_true rfl⟩) hZ hS hA (fun  Y1 L1 T1 H locs hp hZ hS => ?_)
              cases hp
              refine lv_iinc (v := nI (i36 + 1)) (lv' := [(7, .int (nI (i36 + 1))), (0, .ref th), (1, .long hi), (3, .long lo), (5, .int pn), (6, .int (nI pw))]) hx hb dX17_fits_49 hl (k := 0) rfl (nI_add i36 1) (by decide) rfl (fun ls hl => ?_)
              refine lv_goto (tgt := 36) hx hb dX17_fits_52 (by decide) ?_
              exact ih36 (i36 + 1) (by omega) (by omega)  _ _ _ hZ hS (lv_sub hl [0, 1, 2, 3, 4, 5] rfl) 
        exact L36 (pw + 1) 0 (by omega) (by omega)  _ _ _ hZ hS (lv_sub hl [0, 1, 2, 3, 4, 5] rfl) 
      · have e7 : ¬ 8 ≤ i3 := fun q => c7 ((nI_leI (a := 8) (b := i3) (by omega) (by omega)).mpr q)
        have J26 : ∀ (t2_26 : Int64) (H : Heap) (locs : List Loc) (ls : Array Slot), zP D vwCl A X Y L T H → va_S A s.heap H locs → lv_has ls 10 [(0, .ref th), (1, .long hi), (3, .long lo), (5, .int pn), (6, .int (nI pw)), (7, .int (nI i3))] → W p l e ROOM_X17_fits s m [.ref th, .long hi, .long lo, .int pn, .int (nI pw)].toArray below meth c H locs 0 0 (MQ below (va_Qi (fun _ => zSame Y L T) (zB D vwCl (zT K) A X) A) [.ref th, .long hi, .long lo, .int pn, .int (nI pw)].toArray s 0 0 A) (F0 m 26 ls [.long t2_26, .int (nI i3), .ref left]) := by
          intro t2_26 H locs ls hZ hS hl 
          refine z_last hx hb hK hZ hS 1 h_left k_left rfl (vp_in_nI (by omega) (by omega)) dX17_fits_26 (fun H locs hZ hS => ?_)
          refine lv_iinc (v := nI (i3 + 1)) (lv' := [(7, .int (nI (i3 + 1))), (0, .ref th), (1, .long hi), (3, .long lo), (5, .int pn), (6, .int (nI pw))]) hx hb dX17_fits_27 hl (k := 5) rfl (nI_add i3 1) (by decide) rfl (fun ls hl => ?_)
          refine lv_goto (tgt := 3) hx hb dX17_fits_30 (by decide) ?_
          exact ih3 (i3 + 1) (by omega) (by omega)  _ _ _ hZ hS (lv_sub hl [0, 1, 2, 3, 4, 5] rfl) 
        refine lv_aload_n hx hb dX17_fits_10 rfl (lv_at hl 1 rfl) ?_
        refine z_getP (own := RX17) (C := RX17) (TT := TX17) (N := 14) (ci := 18) (Ts := WR) hx hb hts zin_wsX170 hown hK hZ h_th k_th rfl 4 (by decide) (hts _ zw_166) (fun _ h9 => h9) f_th_4 dX17_fits_11 ?_
        refine lv_iload hx hb dX17_fits_14 (lv_at hl 0 rfl) ?_
        refine lv_iload hx hb dX17_fits_16 (lv_at hl 0 rfl) ?_
        refine lv_if_ne (tgt := 25) hx hb dX17_fits_18 (by decide) (fun c18 => ?_) (fun c18 => ?_)
        · have e18 : ¬ i3 = 0 := fun q => c18 ((nI_eq (a := i3) (b := 0) (by omega) (by omega)).mpr q)
          refine lv_lconst (v := 0) hx hb dX17_fits_25 (by decide +kernel) ?_
          exact J26  0 _ _ _ hZ hS (lv_sub hl [1, 2, 3, 4, 5, 0] rfl) 
        · have e18 : i3 = 0 := (nI_eq (a := i3) (b := 0) (by omega) (by omega)).mp c18
          refine lv_lconst (v := 1) hx hb dX17_fits_21 (by decide +kernel) ?_
          refine lv_goto (tgt := 26) hx hb dX17_fits_22 (by decide) ?_
          exact J26  1 _ _ _ hZ hS (lv_sub hl [1, 2, 3, 4, 5, 0] rfl) 
  exact L3 (8 + 1) 0 (by omega) (by omega)  _ _ _ hZ hS (lv_sub hl [0, 1, 2, 3, 4, 5] rfl) 
abbrev ROOM_X17_root : Room := { frames := 3, cells := 0, slots := 0, locals := 61 }
set_option maxHeartbeats 4000000 in
set_option maxRecDepth 100000 in
/-- root -/
theorem c_X17_root (l : Launch) (D : va_G) (K : Nat → ClassId) (X Y : va_W) (L : List Nat) (T : Nat → va_E → Prop) {th : Nat} {vs_th : List Value} {left n_left : Nat} {cube n_cube : Nat} {pn : Int32} {pw : Nat}  (h_th : th ∈ L) (k_th : T th = zO 18 vs_th) (f_th_4 : vs_th[4]? = some (.ref left)) (h_left : left ∈ L) (k_left : T left = zJ (K 1) n_left) (b_left : 8 ≤ n_left ∧ n_left < 2147483648) (f_th_5 : vs_th[5]? = some (.ref cube)) (h_cube : cube ∈ L) (k_cube : T cube = zJ (K 1) n_cube) (b_cube : 8 ≤ n_cube ∧ n_cube < 2147483648) (b_pw : 1 ≤ pw ∧ pw ≤ 3)  : zVl l D vwCl (zT K) yX17_root (zws yX17_root cX17_root 12 (some .long)) ROOM_X17_root 0 0 [.ref th, .int pn, .int (nI pw)] X Y L T (fun _ => zSame Y L T) := by
  refine z_ofW (Qc := fun A => va_Ql (fun _ => zSame Y L T) (zB D vwCl (zT K) A X) A) (cc := cX17_root) (maxL := 12) (ret := (some .long)) (by decide +kernel) rfl (Nat.le_of_ble_eq_true rfl) ?_
  intro p e s m below meth c A ls hx hb hml hr hts hown hlocks hin hA hK hZ hS hl
  have hown : s.vm.findClass RX17 = some m.cls := hown
  have hts : ∀ w ∈ WR, w.before [.ref th, .int pn, .int (nI pw)].toArray s = true := fun w h => hts w (List.mem_cons_of_mem _ h)
  have hl : lv_has ls 12 [(0, .ref th), (1, .int pn), (2, .int (nI pw))] := hl
  obtain ⟨H, hH⟩ : ∃ H, H = s.heap := ⟨_, rfl⟩
  have hZ : zP D vwCl A X Y L T H := by rw [hH]; exact hZ
  obtain ⟨locs, hlc⟩ : ∃ q : List Loc, q = [] := ⟨_, rfl⟩
  have hS : va_S A s.heap H locs := by rw [hH, hlc]; exact hS
  suffices hW : W p l e ROOM_X17_root s m [.ref th, .int pn, .int (nI pw)].toArray below meth c H locs 0 0 (MQ below (va_Ql (fun _ => zSame Y L T) (zB D vwCl (zT K) A X) A) [.ref th, .int pn, .int (nI pw)].toArray s 0 0 A) (F0 m 0 ls []) by rw [hH, hlc] at hW; exact hW
  clear hH hlc
  refine lv_lconst (v := 0) hx hb dX17_root_0 (by decide +kernel) ?_
  refine lv_lstore_n (lv' := [(3, .long 0), (0, .ref th), (1, .int pn), (2, .int (nI pw))]) hx hb dX17_root_1 rfl hl (by decide) rfl (fun ls hl => ?_)
  refine lv_lconst (v := 0) hx hb dX17_root_2 (by decide +kernel) ?_
  refine lv_lstore (lv' := [(5, .long 0), (3, .long 0), (0, .ref th), (1, .int pn), (2, .int (nI pw))]) hx hb dX17_root_3 hl (by decide) rfl (fun ls hl => ?_)
  refine lv_bipush (v := nI 66) hx hb dX17_root_5 (by decide +kernel) ?_
  refine lv_istore (lv' := [(7, .int (nI 66)), (5, .long 0), (3, .long 0), (0, .ref th), (1, .int pn), (2, .int (nI pw))]) hx hb dX17_root_7 hl (by decide) rfl (fun ls hl => ?_)
  have L9 : ∀ (i9 : Nat), i9 ≤ 67 → ∀ (v3_9 : Int64) (v5_9 : Int64) (H : Heap) (locs : List Loc) (ls : Array Slot), zP D vwCl A X Y L T H → va_S A s.heap H locs → lv_has ls 12 [(7, .int (nI i9 + (-1))), (0, .ref th), (1, .int pn), (2, .int (nI pw)), (3, .long v3_9), (5, .long v5_9)] → W p l e ROOM_X17_root s m [.ref th, .int pn, .int (nI pw)].toArray below meth c H locs 0 0 (MQ below (va_Ql (fun _ => zSame Y L T) (zB D vwCl (zT K) A X) A) [.ref th, .int pn, .int (nI pw)].toArray s 0 0 A) (F0 m 9 ls []) := by
    intro i9
    induction i9 with
    | zero =>
      intro u9 v3_9 v5_9 H locs ls hZ hS hl 
      refine lv_iload hx hb dX17_root_9 (lv_at hl 0 rfl) ?_
      refine lv_if_lt (tgt := 83) hx hb dX17_root_11 (by decide) (fun c11 => ?_) (fun c11 => ?_)
      · refine lv_lload hx hb dX17_root_83 (lv_at hl 5 rfl) ?_
        exact z_lret hx hb hr hlocks hK hZ hS rfl (Nat.le_of_ble_eq_true rfl) (Nat.le_of_ble_eq_true rfl) dX17_root_85
      · exact absurd (by decide +kernel) c11
    | succ i9 ih9 =>
      intro u9 v3_9 v5_9 H locs ls hZ hS hl 
      rw [pk_m1 i9] at hl
      refine lv_iload hx hb dX17_root_9 (lv_at hl 0 rfl) ?_
      refine lv_if_lt (tgt := 83) hx hb dX17_root_11 (by decide) (fun c11 => ?_) (fun c11 => ?_)
      · exact absurd c11 (nI_pos (by omega))
      · have e11 : ¬ i9 < 0 := fun q => c11 ((nI_ltI (a := i9) (b := 0) (by omega) (by omega)).mpr q)
        have J34 : ∀ (t0_34 : Int64) (H : Heap) (locs : List Loc) (ls : Array Slot), zP D vwCl A X Y L T H → va_S A s.heap H locs → lv_has ls 12 [(0, .ref th), (1, .int pn), (2, .int (nI pw)), (3, .long v3_9), (5, .long v5_9), (7, .int (nI i9))] → W p l e ROOM_X17_root s m [.ref th, .int pn, .int (nI pw)].toArray below meth c H locs 0 0 (MQ below (va_Ql (fun _ => zSame Y L T) (zB D vwCl (zT K) A X) A) [.ref th, .int pn, .int (nI pw)].toArray s 0 0 A) (F0 m 34 ls [.long t0_34]) := by
          intro t0_34 H locs ls hZ hS hl 
          refine lv_lstore (lv' := [(8, .long t0_34), (0, .ref th), (1, .int pn), (2, .int (nI pw)), (3, .long v3_9), (5, .long v5_9), (7, .int (nI i9))]) hx hb dX17_root_34 hl (by decide) rfl (fun ls hl => ?_)
          have J55 : ∀ (t0_55 : Int64) (H : Heap) (locs : List Loc) (ls : Array Slot), zP D vwCl A X Y L T H → va_S A s.heap H locs → lv_has ls 12 [(0, .ref th), (1, .int pn), (2, .int (nI pw)), (3, .long v3_9), (5, .long v5_9), (7, .int (nI i9)), (8, .long t0_34)] → W p l e ROOM_X17_root s m [.ref th, .int pn, .int (nI pw)].toArray below meth c H locs 0 0 (MQ below (va_Ql (fun _ => zSame Y L T) (zB D vwCl (zT K) A X) A) [.ref th, .int pn, .int (nI pw)].toArray s 0 0 A) (F0 m 55 ls [.long t0_55]) := by
            intro t0_55 H locs ls hZ hS hl 
            refine lv_lstore (lv' := [(10, .long t0_55), (0, .ref th), (1, .int pn), (2, .int (nI pw)), (3, .long v3_9), (5, .long v5_9), (7, .int (nI i9)), (8, .long t0_34)]) hx hb dX17_root_55 hl (by decide) rfl (fun ls hl => ?_)
            refine lv_aload_n hx hb dX17_root_57 rfl (lv_at hl 1 rfl) ?_
            refine lv_lload hx hb dX17_root_58 (lv_at hl 7 rfl) ?_
            refine lv_lload hx hb dX17_root_60 (lv_at hl 0 rfl) ?_
            refine lv_iload_n hx hb dX17_root_62 rfl (lv_at hl 2 rfl) ?_
            refine lv_iload_n hx hb dX17_root_63 rfl (lv_at hl 3 rfl) ?_
            refine z_goI (va_runV (As := [.long t0_34, .long t0_55, .int pn, .int (nI pw)]) (rest := []) ⟨hx, hb, hml, hown, hts⟩ ((c_X17_fits l D K X Y L T h_th k_th f_th_4 h_left k_left ⟨by omega, by omega⟩ f_th_5 h_cube k_cube ⟨by omega, by omega⟩ (by omega)) H.size) (cwV 4 hts (zg_V zw_185 zw_187 zw_188 zw_180 zw_186) rfl rfl rfl (by decide +kernel) ⟨Nat.le_of_ble_eq_true rfl, Nat.le_of_ble_eq_true rfl⟩) (z_preV hK hZ (z_recvP hK hZ h_th k_th rfl)) rfl rfl hl.1 rfl (lv_room (Nat.le_of_ble_eq_true rfl)) dX17_root_64 ⟨Nat.le_of_ble_eq_true rfl, Nat.le_of_ble_eq_true rfl⟩) hZ hS hA (fun x1 Y1 L1 T1 H locs hp hZ hS => ?_)
            cases hp
            refine lv_if_eq (tgt := 77) hx hb dX17_root_67 (by decide) (fun c67 => ?_) (fun c67 => ?_)
            · refine lv_iinc (v := nI i9 + (-1)) (lv' := [(7, .int (nI i9 + (-1))), (10, .long t0_55), (0, .ref th), (1, .int pn), (2, .int (nI pw)), (3, .long v3_9), (5, .long v5_9), (8, .long t0_34)]) hx hb dX17_root_77 hl (k := 6) rfl rfl (by decide) rfl (fun ls hl => ?_)
              refine lv_goto (tgt := 9) hx hb dX17_root_80 (by decide) ?_
              exact ih9 (by omega) v3_9 v5_9 _ _ _ hZ hS (lv_sub hl [0, 2, 3, 4, 5, 6] rfl) 
            · refine lv_lload hx hb dX17_root_70 (lv_at hl 7 rfl) ?_
              refine lv_lstore_n (lv' := [(3, .long t0_34), (10, .long t0_55), (0, .ref th), (1, .int pn), (2, .int (nI pw)), (5, .long v5_9), (7, .int (nI i9)), (8, .long t0_34)]) hx hb dX17_root_72 rfl hl (by decide) rfl (fun ls hl => ?_)
              refine lv_lload hx hb dX17_root_73 (lv_at hl 1 rfl) ?_
              refine lv_lstore (lv' := [(5, .long t0_55), (3, .long t0_34), (10, .long t0_55), (0, .ref th), (1, .int pn), (2, .int (nI pw)), (7, .int (nI i9)), (8, .long t0_34)]) hx hb dX17_root_75 hl (by decide) rfl (fun ls hl => ?_)
              refine lv_iinc (v := nI i9 + (-1)) (lv' := [(7, .int (nI i9 + (-1))), (5, .long t0_55), (3, .long t0_34), (10, .long t0_55), (0, .ref th), (1, .int pn), (2, .int (nI pw)), (8, .long t0_34)]) hx hb dX17_root_77 hl (k := 6) rfl rfl (by decide) rfl (fun ls hl => ?_)
              refine lv_goto (tgt := 9) hx hb dX17_root_80 (by decide) ?_
              exact ih9 (by omega) t0_34 t0_55 _ _ _ hZ hS (lv_sub hl [0, 4, 5, 6, 2, 1] rfl) 
          refine lv_iload hx hb dX17_root_36 (lv_at hl 6 rfl) ?_
          refine lv_bipush (v := nI 63) hx hb dX17_root_38 (by decide +kernel) ?_
          refine lv_icmp_le (tgt := 48) hx hb dX17_root_40 (by decide) (fun c40 => ?_) (fun c40 => ?_)
          · have e40 : i9 ≤ 63 := (nI_leI (a := i9) (b := 63) (by omega) (by omega)).mp c40
            refine lv_lload hx hb dX17_root_48 (lv_at hl 5 rfl) ?_
            refine lv_lconst (v := 1) hx hb dX17_root_50 (by decide +kernel) ?_
            refine lv_iload hx hb dX17_root_51 (lv_at hl 6 rfl) ?_
            refine lv_lshl hx hb dX17_root_53 rfl ?_
            refine lv_topl (fun x2 _ => ?_)
            refine lv_lor hx hb dX17_root_54 ?_
            refine lv_topl (fun x3 _ => ?_)
            exact J55  x3 _ _ _ hZ hS (lv_sub hl [1, 2, 3, 4, 5, 6, 0] rfl) 
          · have e40 : ¬ i9 ≤ 63 := fun q => c40 ((nI_leI (a := i9) (b := 63) (by omega) (by omega)).mpr q)
            refine lv_lload hx hb dX17_root_43 (lv_at hl 5 rfl) ?_
            refine lv_goto (tgt := 55) hx hb dX17_root_45 (by decide) ?_
            exact J55  v5_9 _ _ _ hZ hS (lv_sub hl [1, 2, 3, 4, 5, 6, 0] rfl) 
        refine lv_iload hx hb dX17_root_14 (lv_at hl 0 rfl) ?_
        refine lv_bipush (v := nI 63) hx hb dX17_root_16 (by decide +kernel) ?_
        refine lv_icmp_le (tgt := 33) hx hb dX17_root_18 (by decide) (fun c18 => ?_) (fun c18 => ?_)
        · have e18 : i9 ≤ 63 := (nI_leI (a := i9) (b := 63) (by omega) (by omega)).mp c18
          refine lv_lload_n hx hb dX17_root_33 rfl (lv_at hl 4 rfl) ?_
          exact J34  v3_9 _ _ _ hZ hS (lv_sub hl [1, 2, 3, 4, 5, 0] rfl) 
        · have e18 : ¬ i9 ≤ 63 := fun q => c18 ((nI_leI (a := i9) (b := 63) (by omega) (by omega)).mpr q)
          refine lv_lload_n hx hb dX17_root_21 rfl (lv_at hl 4 rfl) ?_
          refine lv_lconst (v := 1) hx hb dX17_root_22 (by decide +kernel) ?_
          refine lv_iload hx hb dX17_root_23 (lv_at hl 0 rfl) ?_
          refine lv_bipush (v := nI 64) hx hb dX17_root_25 (by decide +kernel) ?_
          refine lv_isub hx hb dX17_root_27 ?_
          refine lv_topi (fun x4 ex4 => ?_)
          obtain rfl : x4 = nI (i9 - 64) := ex4.trans (pk_sub (by omega))
          refine lv_lshl hx hb dX17_root_28 rfl ?_
          refine lv_topl (fun x5 _ => ?_)
          refine lv_lor hx hb dX17_root_29 ?_
          refine lv_topl (fun x6 _ => ?_)
          refine lv_goto (tgt := 34) hx hb dX17_root_30 (by decide) ?_
          exact J34  x6 _ _ _ hZ hS (lv_sub hl [1, 2, 3, 4, 5, 0] rfl) 
  exact L9 (66 + 1) (by omega) 0 0 _ _ _ hZ hS (by rw [pk_m1]; exact lv_sub hl [0, 3, 4, 5, 2, 1] rfl) 
end ZHASH
end

/-! A row of rows of longs, made at once. -/
def zmg (q N : Nat) : Nat → Option Nat := fun j => if j < N then some (q + 1 + j) else none
def zmC (cA : ClassId) (N h0 i : Nat) : Cell := arrV cA N (fun j => if j < i then Value.ref (h0 + 1 + j) else .null)
def zmS (T : State) (cA cJ : ClassId) (N M : Nat) : Nat → State
  | 0 => T.pushCell (zmC cA N T.heap.size 0)
  | i + 1 => ((zmS T cA cJ N M i).pushCell (arrV cJ M (fun _ => .long 0))).setCell T.heap.size (zmC cA N T.heap.size (i + 1))
theorem zmC_zero (cA : ClassId) (N h0 : Nat) : ({ cls := cA, slots := Array.replicate N .null, vm := .none } : Cell) = zmC cA N h0 0 := by
  rw [arrV_new]
  simp [zmC]
theorem zmC_set (cA : ClassId) (N h0 i : Nat) : (zmC cA N h0 i).setSlot i (.ref (h0 + 1 + i)) = zmC cA N h0 (i + 1) := by
  unfold zmC
  rw [arrV_store]
  congr 1
  funext j
  by_cases e : j = i
  · subst e; simp [updV]
  · by_cases h : j < i
    · simp [updV, e, h, Nat.lt_succ_of_lt h]
    · simp [updV, e, h, show ¬ j < i + 1 by omega]
theorem zmS_facts (T : State) (cA cJ : ClassId) (N M : Nat) : ∀ i, (zmS T cA cJ N M i).heap.size = T.heap.size + 1 + i ∧ (zmS T cA cJ N M i).heap[T.heap.size]? = some (zmC cA N T.heap.size i) ∧ (zmS T cA cJ N M i).vm = T.vm ∧ (zmS T cA cJ N M i).slotsUsed = T.slotsUsed + N + i * M
  | 0 => ⟨by simp [zmS], by simp [zmS], rfl, by simp [zmS, zmC, arrV_size]⟩
  | i + 1 => by
    obtain ⟨a, b, d, u⟩ := zmS_facts T cA cJ N M i
    have hlt : T.heap.size < (zmS T cA cJ N M i).heap.size := by omega
    have hb : ((zmS T cA cJ N M i).pushCell (arrV cJ M (fun _ => .long 0))).heap[T.heap.size]? = some (zmC cA N T.heap.size i) := by rw [State.heap_pushCell_of_lt (h := hlt)]; exact b
    refine ⟨?_, State.heap_setCell_self hb, by simp [zmS, d], ?_⟩
    · simp [zmS, State.setCell, a]; omega
    · simp [zmS, u, arrV_size, Nat.succ_mul]; omega
theorem zmS_setTop (T : State) (f : JFrame) (cA cJ : ClassId) (N M : Nat) : ∀ i, zmS (T.setTop f) cA cJ N M i = (zmS T cA cJ N M i).setTop f
  | 0 => rfl
  | i + 1 => by simp only [zmS, zmS_setTop T f cA cJ N M i, State.heap_setTop, State.pushCell_setTop, State.setCell_setTop]
theorem zmS_old (T : State) (cA cJ : ClassId) (N M : Nat) {a : Nat} (ha : a < T.heap.size) : ∀ i, (zmS T cA cJ N M i).heap[a]? = T.heap[a]?
  | 0 => State.heap_pushCell_of_lt _ _ ha
  | i + 1 => by
    have hlt : a < (zmS T cA cJ N M i).heap.size := Nat.lt_of_lt_of_le ha (by rw [(zmS_facts T cA cJ N M i).1]; omega)
    show (((zmS T cA cJ N M i).pushCell (arrV cJ M (fun _ => .long 0))).setCell T.heap.size _).heap[a]? = _
    rw [State.heap_setCell_other (Nat.ne_of_gt ha), State.heap_pushCell_of_lt (h := hlt)]
    exact zmS_old T cA cJ N M ha i
theorem zmS_row (T : State) (cA cJ : ClassId) (N M : Nat) : ∀ i j, j < i → (zmS T cA cJ N M i).heap[T.heap.size + 1 + j]? = some (arrV cJ M (fun _ => .long 0))
  | 0, _, h => absurd h (Nat.not_lt_zero _)
  | i + 1, j, h => by
    have f1 := (zmS_facts T cA cJ N M i).1
    show (((zmS T cA cJ N M i).pushCell (arrV cJ M (fun _ => .long 0))).setCell T.heap.size _).heap[T.heap.size + 1 + j]? = _
    rw [State.heap_setCell_other (show T.heap.size ≠ T.heap.size + 1 + j by omega)]
    by_cases e : j = i
    · subst e
      rw [← f1]
      exact State.heap_pushCell_size _ _
    · rw [State.heap_pushCell_of_lt (h := show T.heap.size + 1 + j < (zmS T cA cJ N M i).heap.size by rw [f1]; omega)]
      exact zmS_row T cA cJ N M i j (by omega)
section ZMW
variable {EC : CtlPost} {e : Env} {d : Bool} {acts : List Action} {s : State}
theorem zm_array {c comp : ClassId} {k : Class} {ty : FieldType} {len : Nat} {v : Value} (hk : s.vm.classes[c]? = some k) (hkind : k.kind = .array comp ty) (h1 : ¬ len > e.platform.arrayLengthLimit) (h2 : ¬ len * componentBytes ty > e.platform.maxHeapBytes) (hfit : fits ty v = true) (hdef : v.isDefault = true) {Q : Addr → Pre}
    (h3 : s.heap.size < e.platform.maxCells) (h4 : s.slotsUsed + len ≤ e.platform.maxSlots) (hq : Q s.heap.size d acts (s.pushCell { cls := c, slots := Array.replicate len v, vm := .none })) : wp (Jvm.newArray c len v) Q EC e d acts s := by
  have hf : ∀ i x, (Array.replicate len v)[i]? = some x → s.fitsSlot c .none i x = true := by
    intro i x hx
    simp only [Array.getElem?_replicate] at hx
    split at hx
    · cases hx; simp [State.fitsSlot, State.slotType?, hk, hkind, hfit]
    · cases hx
  have ha : allocActs (Array.replicate len v) s.heap.size acts = acts := by
    have hall : ((Array.replicate len v).all (·.isDefault)) = true := by rw [Array.all_replicate]; split <;> simp [hdef]
    unfold allocActs; rw [if_pos hall]
  simp only [Jvm.newArray, Jvm.arrayFits, wp_bind', W.ask, W.ite, h1, if_false, wp_pure', W.theClass, hk, hkind, h2, W.alloc, W.stop, Option.some.injEq, exists_eq_left', Array.size_replicate, ha]
  rw [if_neg (by omega)]
  exact ⟨h3, h4, hf, hq⟩
theorem zm_make {c cJ cc : ClassId} {k kJ : Class} {n m : Int32} (hk : s.vm.classes[c]? = some k) (hkind : k.kind = .array cJ (.array .long)) (hkJ : s.vm.classes[cJ]? = some kJ) (hkindJ : kJ.kind = .array cc .long) (hn : ¬ n < 0) (hm : ¬ m < 0)
    (hl1 : ¬ n.toNatClampNeg > e.platform.arrayLengthLimit) (hh1 : ¬ n.toNatClampNeg * componentBytes (.array .long) > e.platform.maxHeapBytes) (hl2 : ¬ m.toNatClampNeg > e.platform.arrayLengthLimit) (hh2 : ¬ m.toNatClampNeg * componentBytes .long > e.platform.maxHeapBytes)
    (hc : s.heap.size + 1 + n.toNatClampNeg ≤ e.platform.maxCells) (hs : s.slotsUsed + n.toNatClampNeg + n.toNatClampNeg * m.toNatClampNeg ≤ e.platform.maxSlots)
    {Q : Addr → Pre} (hq : ∀ d' acts', Q s.heap.size d' acts' (zmS s c cJ n.toNatClampNeg m.toNatClampNeg n.toNatClampNeg)) : wp (Op.multianewarray.make c [n, m]) Q EC e d acts s := by
  have hfind : ([m].find? (· < 0)) = none := by simp [hm]
  rw [Op.multianewarray.make]
  simp only [wp_bind', W.ite, hn, if_false, wp_pure', W.theClass, hk, hkind, Option.some.injEq, exists_eq_left']
  refine zm_array hk hkind hl1 hh1 rfl rfl (by omega) (by have := Nat.zero_le (n.toNatClampNeg * m.toNatClampNeg); omega) ?_
  simp only [hfind]
  rw [ite_self, wp_bind', Std.Legacy.Range.forIn_eq_forIn_range']
  have hsz : ([:n.toNatClampNeg] : Std.Legacy.Range).size = n.toNatClampNeg := by simp [Std.Legacy.Range.size]
  rw [hsz]
  show wp (forIn (List.range' 0 n.toNatClampNeg 1) PUnit.unit _) _ EC e d acts _
  rw [zmC_zero c n.toNatClampNeg s.heap.size]
  refine wp_forIn_inv (fun rest s' => ∃ i, i ≤ n.toNatClampNeg ∧ rest = List.range' i (n.toNatClampNeg - i) ∧ s' = zmS s c cJ n.toNatClampNeg m.toNatClampNeg i) _ _ ⟨0, Nat.zero_le _, rfl, rfl⟩ ?_ ?_
  · rintro x rest s' d' acts' Q' ⟨i, hi, hl, rfl⟩ hnext
    have hlt : i < n.toNatClampNeg := by
      rcases Nat.lt_or_ge i n.toNatClampNeg with h | h
      · exact h
      · rw [show n.toNatClampNeg - i = 0 from by omega] at hl; simp at hl
    rw [show n.toNatClampNeg - i = (n.toNatClampNeg - (i + 1)) + 1 from by omega, List.range'_succ] at hl
    obtain ⟨rfl, hrest⟩ := List.cons.inj hl
    obtain ⟨f1, f2, f3, f4⟩ := zmS_facts s c cJ n.toNatClampNeg m.toNatClampNeg x
    have hmul : x * m.toNatClampNeg + m.toNatClampNeg ≤ n.toNatClampNeg * m.toNatClampNeg := by
      have := Nat.mul_le_mul_right m.toNatClampNeg (show x + 1 ≤ n.toNatClampNeg from hlt)
      rw [Nat.succ_mul] at this; exact this
    simp only [wp_bind']
    rw [Op.multianewarray.make]
    simp only [wp_bind', W.ite, hm, if_false, wp_pure', W.theClass, f3, hkJ, hkindJ, Option.some.injEq, exists_eq_left']
    refine zm_array (by rw [f3]; exact hkJ) hkindJ hl2 hh2 rfl rfl (by rw [f1]; omega) (by rw [f4]; omega) ?_
    have hlt0 : s.heap.size < (zmS s c cJ n.toNatClampNeg m.toNatClampNeg x).heap.size := by rw [f1]; omega
    simp only [wp_bind', W.writeLoc, wp_pure']
    refine ⟨zmC c n.toNatClampNeg s.heap.size x, by rw [State.heap_pushCell_of_lt (h := hlt0)]; exact f2, by simp [zmC, arrV], by unfold zmC; rw [arrV_size]; exact hlt, ?_, hnext _ _ _ ⟨x + 1, hlt, hrest, ?_⟩⟩
    · simp [State.fitsSlot, State.slotType?, f3, hk, hkind, zmC, arrV, fits]
    · rw [f1, zmC_set]
      show State.setCell (State.pushCell _ _) _ _ = State.setCell (State.pushCell _ _) _ _
      rw [show (defaultValue .long) = Value.long 0 from rfl, arrV_new]
  · rintro s' d' acts' ⟨i, hi, hl, rfl⟩
    have hiN : i = n.toNatClampNeg := by
      rcases Nat.lt_or_ge i n.toNatClampNeg with h | h
      · rw [show n.toNatClampNeg - i = (n.toNatClampNeg - (i + 1)) + 1 from by omega, List.range'_succ] at hl; cases hl
      · omega
    subst hiN
    simp only [wp_pure']
    exact hq _ _
end ZMW

theorem zmS_top (T : State) (cA cJ : ClassId) (N M : Nat) : ∀ i, (zmS T cA cJ N M i).topJava? = T.topJava?
  | 0 => rfl
  | i + 1 => zmS_top T cA cJ N M i
section ZMR
variable {p : Program} {l : Launch} {e : Env} {R : Room} {s : State} {m : MethodId} {args : Array Value} {below : List Frame} {meth : Method} {c : Code} {locs : List Loc} {cells slots : Nat}
theorem zm_stand {T : State} (X : Stand p l e R s m args below meth c T locs cells slots) (cA cJ : ClassId) (N M : Nat) : ∀ i, ∃ locs' : List Loc, Stand p l e R s m args below meth c (zmS T cA cJ N M i) (locs ++ locs') (cells + (1 + i)) (slots + (N + i * M)) ∧ ∀ z ∈ locs', z.base = T.heap.size
  | 0 => by
    refine ⟨[], ?_, fun z h => absurd h List.not_mem_nil⟩
    have Y := X.pushed (zmC cA N T.heap.size 0)
    rw [List.append_nil]
    rw [show slots + (N + 0 * M) = slots + (zmC cA N T.heap.size 0).slots.size by unfold zmC; rw [arrV_size]; omega]
    exact Y
  | i + 1 => by
    obtain ⟨l', Y, hl⟩ := zm_stand X cA cJ N M i
    obtain ⟨f1, f2, f3, f4⟩ := zmS_facts T cA cJ N M i
    have Y1 := Y.pushed (arrV cJ M (fun _ => .long 0))
    have hlt : T.heap.size < (zmS T cA cJ N M i).heap.size := by omega
    have hb : ((zmS T cA cJ N M i).pushCell (arrV cJ M (fun _ => .long 0))).heap[T.heap.size]? = some (zmC cA N T.heap.size i) := by rw [State.heap_pushCell_of_lt (h := hlt)]; exact f2
    have Y2 := Y1.stored hb i (.ref (T.heap.size + 1 + i))
    rw [zmC_set] at Y2
    refine ⟨l' ++ [⟨T.heap.size, i⟩], ?_, fun z h => ?_⟩
    · rw [← List.append_assoc]
      rw [show cells + (1 + (i + 1)) = cells + (1 + i) + 1 by omega, show slots + (N + (i + 1) * M) = slots + (N + i * M) + (arrV cJ M (fun _ => Value.long 0)).slots.size by rw [arrV_size, Nat.succ_mul]; omega]
      exact Y2
    · rcases List.mem_append.mp h with h | h
      · exact hl z h
      · rw [List.mem_singleton.mp h]
theorem zm_run {T : State} (X : Stand p l e R s m args below meth c T locs cells slots) (hexec : p.tables.exec = Jvm.exec) {own : String} {index : Nat} (hown : s.vm.findClass own = some m.cls) (hclink : (Cond.classLink own index "[[J").before args s = true) {cA cJ cc0 : ClassId} {k kJ : Class} (hfA : s.vm.findClass "[[J" = some cA) (hk : s.vm.classes[cA]? = some k) (hkind : k.kind = .array cJ (.array .long)) (hkJ : s.vm.classes[cJ]? = some kJ) (hkindJ : kJ.kind = .array cc0 .long)
    {g : JFrame} (hg : g.method = m) (hdg : decode c.code g.pc = .ok (.multianewarray index 2, 4)) {n k9 : Int32} {rest : List Value} (hstack : g.stack = .int k9 :: .int n :: rest) (hn : ¬ n < 0) (hm : ¬ k9 < 0) (hb1 : n.toNatClampNeg * 4 ≤ 536870912) (hb2 : k9.toNatClampNeg * 8 ≤ 536870912) (hcells : cells + (1 + n.toNatClampNeg) ≤ R.cells) (hslots : slots + (n.toNatClampNeg + n.toNatClampNeg * k9.toNatClampNeg) ≤ R.slots) :
    ∃ (vm₁ : Vm) (locs' : List Loc), (∀ z ∈ locs', z.base = T.heap.size) ∧ Stand p l e R s m args below meth c (zmS (T.setVm vm₁) cA cJ n.toNatClampNeg k9.toNatClampNeg n.toNatClampNeg) (locs ++ locs') (cells + (1 + n.toNatClampNeg)) (slots + (n.toNatClampNeg + n.toNatClampNeg * k9.toNatClampNeg)) ∧
      ∀ target, Steps p.tables e below ((zmS (T.setVm vm₁) cA cJ n.toNatClampNeg k9.toNatClampNeg n.toNatClampNeg).setTop { g with pc := g.pc + 4, stack := .ref T.heap.size :: rest }) target → Steps p.tables e below (T.setTop g) target := by
  subst hg
  have hpl : e.platform.magicAccessors = ({} : Platform).magicAccessors := by rw [X.admits.platform]
  obtain ⟨c9, hfcc, hcl⟩ := Cond.classLink_spec hown hclink e.platform hpl
  cases hfA.symm.trans hfcc
  obtain ⟨hg₁, hwarm₁, hready₁⟩ := State.classEntry (e := e) X.warmed hcl
  generalize T.vm.noted g.method.cls index (.cls cA) = vm₁ at hg₁ hwarm₁ hready₁
  have hal : s.vm.Alike vm₁ := hwarm₁.alike
  obtain ⟨k₁, hk₁, hek⟩ := hal.2.2 _ _ hk
  obtain ⟨kJ₁, hkJ₁, hekJ⟩ := hal.2.2 _ _ hkJ
  have hkind₁ : k₁.kind = .array cJ (.array .long) := by rw [hek]; exact hkind
  have hkindJ₁ : kJ₁.kind = .array cc0 .long := by rw [hekJ]; exact hkindJ
  have hl1 : ¬ n.toNatClampNeg > e.platform.arrayLengthLimit := by rw [Launch.admits_arrayLengthLimit X.admits]; omega
  have hh1 : ¬ n.toNatClampNeg * componentBytes (.array .long) > e.platform.maxHeapBytes := by rw [Launch.admits_maxHeapBytes X.admits]; show ¬ n.toNatClampNeg * 4 > 536870912; omega
  have hl2 : ¬ k9.toNatClampNeg > e.platform.arrayLengthLimit := by rw [Launch.admits_arrayLengthLimit X.admits]; omega
  have hh2 : ¬ k9.toNatClampNeg * componentBytes .long > e.platform.maxHeapBytes := by rw [Launch.admits_maxHeapBytes X.admits]; show ¬ k9.toNatClampNeg * 8 > 536870912; omega
  have X₁ := X.noted hwarm₁
  obtain ⟨l', X₂, hl'⟩ := zm_stand X₁ cA cJ n.toNatClampNeg k9.toNatClampNeg n.toNatClampNeg
  obtain ⟨hr1, hr2⟩ := X.roomAbove hcells hslots
  refine ⟨vm₁, l', hl', X₂, fun target hrest => ?_⟩
  jvm_step X.here [hexec, hdg]
  show wp (Op.multianewarray.sem index 2) _ _ _ _ _ _
  have htop : (T.setVm vm₁).topJava?.isSome := X.here.top
  rw [Op.multianewarray.sem]
  simp only [wp_bind', W.resolveClassAt_links (t := T.setTop g) (State.method?_setTop g X.here.top) hg₁]
  refine (Op.popN_top (args := [.int n, .int k9]) (s := T.setVm vm₁) (f := g) htop (by rw [hstack]; rfl)).mpr ?_
  simp only [List.mapM_cons, List.mapM_nil, wp_bind', wp_pure', pure_bind, bind_pure_comp, map_pure]
  refine zm_make (s := (T.setVm vm₁).setTop { g with stack := rest }) hk₁ hkind₁ hkJ₁ hkindJ₁ hn hm hl1 hh1 hl2 hh2 (by show T.heap.size + _ + _ ≤ _; omega) (by show T.slotsUsed + _ + _ ≤ _; omega) ?_
  intro d' acts'
  rw [zmS_setTop]
  simp only [wp_bind', W.mark, W.pushRef]
  refine ⟨{ g with stack := rest }, State.topJava?_setTop' _ (by rw [zmS_top]; exact htop), ?_⟩
  intro acts9
  rw [State.setTop_setTop, afterInstr_ok]
  exact hrest
end ZMR

/-- new cells come to the told ones, all at once -/
theorem zP.addN {D : va_G} {cl : List vw_C} {A : Nat → Prop} {X Y : va_W} {L : List Nat} {T : Nat → va_E → Prop} {H H1 : Heap} (h : zP D cl A X Y L T H) (N : va_W) (hk : ∀ q : Nat, q < H.size → H1[q]? = H[q]?) (hN : ∀ x ∈ N, va_at D cl x H1 ∧ A x.1 ∧ H.size ≤ x.1) (hd : N.Pairwise (fun p q => p.1 ≠ q.1)) : zP D cl A X (Y ++ N) L T H1 := by
  obtain ⟨f, h1, h2, h3⟩ := h
  have hpw := va_D_pw.mp h3
  have hlt : ∀ q ∈ (X ++ Y) ++ va_pl L f, q.1 < H.size := fun q hq => by
    obtain ⟨k, hk⟩ := List.getElem?_of_mem hq
    exact vx_lt h2 hk
  have hX : ∀ q ∈ X, q ∈ (X ++ Y) ++ va_pl L f := fun q h => List.mem_append_left _ (List.mem_append_left _ h)
  have hYm : ∀ q ∈ Y, q ∈ (X ++ Y) ++ va_pl L f := fun q h => List.mem_append_left _ (List.mem_append_right _ h)
  have hLm : ∀ q ∈ va_pl L f, q ∈ (X ++ Y) ++ va_pl L f := fun q h => List.mem_append_right _ h
  have hm : ∀ q ∈ (X ++ (Y ++ N)) ++ va_pl L f, q ∈ (X ++ Y) ++ va_pl L f ∨ q ∈ N := by
    intro q hq
    rcases List.mem_append.mp hq with h | h
    · rcases List.mem_append.mp h with h | h
      · exact Or.inl (hX q h)
      · rcases List.mem_append.mp h with h | h
        · exact Or.inl (hYm q h)
        · exact Or.inr h
    · exact Or.inl (hLm q h)
  have hne : ∀ a ∈ (X ++ Y) ++ va_pl L f, ∀ b ∈ N, a.1 ≠ b.1 := fun a ha b hb e => by
    have h1 := hlt a ha
    have h2 := (hN b hb).2.2
    omega
  refine ⟨f, h1, fun k q hq => ?_, va_D_pw.mpr ⟨?_, fun q hq => ?_⟩⟩
  · rcases hm q (List.mem_of_getElem? hq) with h | h
    · obtain ⟨k2, hk2⟩ := List.getElem?_of_mem h
      exact (h2.kept (fun k q hq => hk q.1 (vx_lt h2 hq))) k2 q hk2
    · exact (hN q h).1
  · have hw := hpw.1
    rw [List.pairwise_append, List.pairwise_append] at hw
    obtain ⟨⟨hx, hy, hxy⟩, hl, hc⟩ := hw
    rw [List.pairwise_append, List.pairwise_append, List.pairwise_append]
    refine ⟨⟨hx, ⟨hy, hd, fun a ha b hb => hne a (hYm a ha) b hb⟩, fun a ha b hb => ?_⟩, hl, fun a ha b hb => ?_⟩
    · rcases List.mem_append.mp hb with h | h
      · exact hxy a ha b h
      · exact hne a (hX a ha) b h
    · rcases List.mem_append.mp ha with h | h
      · exact hc a (List.mem_append_left _ h) b hb
      · rcases List.mem_append.mp h with h | h
        · exact hc a (List.mem_append_right _ h) b hb
        · exact Ne.symm (hne b (hLm b hb) a h)
  · rcases hm q hq with h | h
    · exact hpw.2 q h
    · exact (hN q h).2.1
section ZMU
variable {p : Program} {l : Launch} {e : Env} {R : Room} {s : State} {m : MethodId} {args : Array Value} {below : List Frame} {meth : Method} {c : Code} {H : Heap} {locs : List Loc} {cells slots : Nat} {Q : State → Prop}
variable {cc : ByteArray} {pc : Nat} {ls : Array Slot} {rest : List Value} {D : va_G} {cl : List vw_C} {A : Nat → Prop} {a : Nat} {tys : List (ClassId × FieldType)} {X Y : va_W} {L : List Nat} {T : Nat → va_E → Prop} {H0 : Heap} {E : zEn}
theorem z_multi (hexec : p.tables.exec = Jvm.exec) (hb : c.code = cc) {own : String} {index : Nat} (hown : s.vm.findClass own = some m.cls) (hclink : (Cond.classLink own index "[[J").before args s = true) (hover : va_AOA .long s) (harr : (Cond.arrayClass .long).before args s = true) (hK : va_K D cl tys s) (hZ : zP D cl A X Y L T H) (hS : va_S A H0 H locs) (hA : ∀ q, H0.size ≤ q → A q) (t0 t1 : Nat) {cA cJ : ClassId} (ht : tys[t0]? = some (cA, .array .long)) (ht1 : tys[t1]? = some (cJ, .long)) {n k : Int32} {N M : Nat} (hn : ¬ n < 0) (hk : ¬ k < 0) (hN : n.toNatClampNeg = N) (hM : k.toNatClampNeg = M) (hb1 : N * 4 ≤ 536870912) (hb2 : M * 8 ≤ 536870912) (hcells : cells + (1 + N) ≤ R.cells) (hslots : slots + (N + N * M) ≤ R.slots) (hdg : decode cc pc = .ok (.multianewarray index 2, 4))
    (kk : ∀ (q : Nat) (H1 : Heap) (locs1 : List Loc), zP D cl A X (Y ++ (q, .inl (cA, N, .inr (.inr (.inr (.inr (zmg q N)))))) :: (List.range N).map (fun j => (q + 1 + j, .inl (cJ, M, .inr (.inl (fun _ => 0)))))) L T H1 → va_S A H0 H1 locs1 → W p l e R s m args below meth c H1 locs1 (cells + (1 + N)) (slots + (N + N * M)) Q (F0 m (pc + 4) ls (.ref q :: rest))) : W p l e R s m args below meth c H locs cells slots Q (F0 m pc ls (.int k :: .int n :: rest)) := by
  subst hN
  subst hM
  obtain ⟨comp, c9, kA, o1, -, o3, o4, o5⟩ := zAOA_spec hover
  have hcA : c9 = cA := Option.some.inj (o5.symm.trans (hK.2 t0 _ ht).2)
  subst hcA
  have hcJ : comp = cJ := Option.some.inj (o1.symm.trans (hK.2 t1 _ ht1).2)
  subst hcJ
  obtain ⟨-, kJ, hkJ, cm, hkindJ⟩ := (hK.2 t1 _ ht1).1 0 (fun _ => .long 0)
  intro T9 hT9 X9
  obtain ⟨vm₁, l', hl', X', st⟩ := zm_run X9 hexec hown hclink o5 o3 o4 hkJ hkindJ (g := F0 m pc ls (.int k :: .int n :: rest)) rfl (by rw [hb]; exact hdg) rfl hn hk hb1 hb2 hcells hslots
  have hheap : (T9.setVm vm₁).heap = H := hT9
  obtain ⟨f1, f2, -, -⟩ := zmS_facts (T9.setVm vm₁) c9 comp n.toNatClampNeg k.toNatClampNeg n.toNatClampNeg
  rw [hheap] at f1 f2
  have hold : ∀ q : Nat, q < H.size → (zmS (T9.setVm vm₁) c9 comp n.toNatClampNeg k.toNatClampNeg n.toNatClampNeg).heap[q]? = H[q]? := fun q hq => by
    rw [zmS_old (T9.setVm vm₁) c9 comp n.toNatClampNeg k.toNatClampNeg (by rw [hheap]; exact hq)]
    rw [hheap]
  have gZ : zP D cl A X (Y ++ (H.size, .inl (c9, n.toNatClampNeg, .inr (.inr (.inr (.inr (zmg H.size n.toNatClampNeg)))))) :: (List.range n.toNatClampNeg).map (fun j => (H.size + 1 + j, .inl (comp, k.toNatClampNeg, .inr (.inl (fun _ => 0)))))) L T (zmS (T9.setVm vm₁) c9 comp n.toNatClampNeg k.toNatClampNeg n.toNatClampNeg).heap := by
    refine hZ.addN _ hold (fun x hx => ?_) ?_
    · rcases List.mem_cons.mp hx with h | h
      · subst h
        refine ⟨?_, hA _ hS.1, Nat.le_refl _⟩
        show _ = some (vp_cell _ _)
        rw [vp_cell_q]
        refine f2.trans ?_
        unfold zmC
        congr 2
        funext j
        unfold zmg
        by_cases hj : j < n.toNatClampNeg
        · simp [hj, va_rf]
        · simp [hj, va_rf]
      · obtain ⟨j, hj, rfl⟩ := List.mem_map.mp h
        have hj := List.mem_range.mp hj
        refine ⟨?_, hA _ (by have := hS.1; show H0.size ≤ H.size + 1 + j; omega), by show H.size ≤ H.size + 1 + j; omega⟩
        show _ = some (vp_cell _ _)
        have := zmS_row (T9.setVm vm₁) c9 comp n.toNatClampNeg k.toNatClampNeg n.toNatClampNeg j hj
        rw [hheap] at this
        exact this
    · rw [List.pairwise_cons]
      refine ⟨fun b hb => ?_, ?_⟩
      · obtain ⟨j, -, rfl⟩ := List.mem_map.mp hb
        show H.size ≠ H.size + 1 + j
        omega
      · rw [List.pairwise_map]
        refine List.Pairwise.imp (fun h => ?_) List.nodup_range
        show H.size + 1 + _ ≠ H.size + 1 + _
        omega
  have gS : va_S A H0 (zmS (T9.setVm vm₁) c9 comp n.toNatClampNeg k.toNatClampNeg n.toNatClampNeg).heap (locs ++ l') := by
    refine ⟨by rw [f1]; have := hS.1; omega, fun q g1 g2 => (hold q (Nat.lt_of_lt_of_le g1 hS.1)).trans (hS.2.1 q g1 g2), fun z hz => ?_⟩
    rcases List.mem_append.mp hz with h | h
    · exact hS.2.2 z h
    · rw [hl' z h]
      exact hA _ (by show H0.size ≤ (T9.setVm vm₁).heap.size; rw [hheap]; exact hS.1)
  obtain ⟨t, a1, b1⟩ := kk H.size _ (locs ++ l') gZ gS _ rfl X'
  rw [hT9] at st
  exact ⟨t, st t a1, b1⟩
end ZMU

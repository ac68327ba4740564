/-! Worlds with a pool of which predicates are known; contracts over them; calls without cutting. -/
/-- the pool's cells fit what is known of each address -/
def zF (L : List Nat) (T : Nat → va_E → Prop) (f : Nat → va_E) : Prop := ∀ a, a ∈ L → T a (f a)
/-- X: any cells; Y: cells that are told one by one; L, T: the pool -/
def zP (D : va_G) (cl : List vw_C) (A : Nat → Prop) (X Y : va_W) (L : List Nat) (T : Nat → va_E → Prop) (H : Heap) : Prop :=
  ∃ f : Nat → va_E, zF L T f ∧ va_P D cl ((X ++ Y) ++ va_pl L f) H ∧ va_D A ((X ++ Y) ++ va_pl L f)
/-- which cells a method may change -/
def zA (X Y : va_W) (L : List Nat) (sz : Nat) : Nat → Prop := fun q => q ∈ (X ++ Y).map Prod.fst ∨ q ∈ L ∨ sz ≤ q
/-- what is known of a cell: an array of ints (of longs, of references), an object -/
def zI (cA : ClassId) (n : Nat) : va_E → Prop := fun e => ∃ g : Nat → Int32, e = .inl (cA, n, .inl g)
def zJ (cA : ClassId) (n : Nat) : va_E → Prop := fun e => ∃ g : Nat → Int64, e = .inl (cA, n, .inr (.inl g))
def zQ (cA : ClassId) (n : Nat) (g : Nat → Option Nat) : va_E → Prop := fun e => e = .inl (cA, n, .inr (.inr (.inr (.inr g))))
def zO (ci : Nat) (vs : List Value) : va_E → Prop := fun e => e = .inr (ci, vs)
abbrev zU : Type := va_W × List Nat × (Nat → va_E → Prop)
/-- a pool has grown -/
def zG (L : List Nat) (T : Nat → va_E → Prop) (L1 : List Nat) (T1 : Nat → va_E → Prop) : Prop := (∀ a, a ∈ L → a ∈ L1) ∧ ∀ a, a ∈ L → T1 a = T a
theorem zG.rf {L : List Nat} {T : Nat → va_E → Prop} : zG L T L T := ⟨fun _ h => h, fun _ _ => rfl⟩
theorem zG.tr {L L1 L2 : List Nat} {T T1 T2 : Nat → va_E → Prop} (h : zG L T L1 T1) (k : zG L1 T1 L2 T2) : zG L T L2 T2 := ⟨fun a q => k.1 a (h.1 a q), fun a q => (k.2 a (h.1 a q)).trans (h.2 a q)⟩
theorem zP.weaken {D : va_G} {cl : List vw_C} {A B : Nat → Prop} {X Y : va_W} {L : List Nat} {T : Nat → va_E → Prop} {H : Heap} (h : zP D cl A X Y L T H) (hAB : ∀ q, A q → B q) : zP D cl B X Y L T H := by
  obtain ⟨f, h1, h2, h3⟩ := h
  exact ⟨f, h1, h2, h3.weaken (fun k q _ hq => hAB q.1 hq)⟩
theorem zA_of {A0 : Nat → Prop} {D : va_G} {cl : List vw_C} {X Y : va_W} {L : List Nat} {T : Nat → va_E → Prop} {H0 H : Heap} {locs : List Loc} (hZ : zP D cl A0 X Y L T H) (hS : va_S A0 H0 H locs) (hA : ∀ q, H0.size ≤ q → A0 q) : ∀ q, zA X Y L H.size q → A0 q := by
  obtain ⟨f, h1, h2, h3⟩ := hZ
  intro q h
  rcases h with h | h | h
  · obtain ⟨x, hx, rfl⟩ := List.mem_map.mp h
    obtain ⟨k, hk⟩ := List.getElem?_of_mem (List.mem_append_left (va_pl L f) hx)
    exact h3.2 k x hk
  · obtain ⟨k, hk⟩ := va_pl_get (X := X ++ Y) (f := f) h
    exact h3.2 k _ hk
  · exact hA q (Nat.le_trans hS.1 h)
theorem zP.own {D : va_G} {cl : List vw_C} {A : Nat → Prop} {X Y : va_W} {L : List Nat} {T : Nat → va_E → Prop} {H : Heap} {sz : Nat} (h : zP D cl A X Y L T H) : zP D cl (zA X Y L sz) X Y L T H := by
  obtain ⟨f, h1, h2, h3⟩ := h
  refine ⟨f, h1, h2, h3.1, fun k q hk => ?_⟩
  rcases List.mem_append.mp (List.mem_of_getElem? hk) with h | h
  · exact Or.inl (List.mem_map.mpr ⟨q, h, rfl⟩)
  · obtain ⟨a, ha, rfl⟩ := List.mem_map.mp h
    exact Or.inr (Or.inl ha)
/-- the told cells move into the nameless ones, for a call, and back -/
theorem zP.into {D : va_G} {cl : List vw_C} {A : Nat → Prop} {X Y1 Y2 : va_W} {L : List Nat} {T : Nat → va_E → Prop} {H : Heap} (h : zP D cl A X (Y1 ++ Y2) L T H) : zP D cl A (X ++ Y1) Y2 L T H := by
  unfold zP at *
  rw [List.append_assoc X Y1 Y2]
  exact h
theorem zP.back {D : va_G} {cl : List vw_C} {A : Nat → Prop} {X Y1 Y2 : va_W} {L : List Nat} {T : Nat → va_E → Prop} {H : Heap} (h : zP D cl A (X ++ Y1) Y2 L T H) : zP D cl A X (Y1 ++ Y2) L T H := by
  unfold zP at *
  rw [List.append_assoc X Y1 Y2] at h
  exact h
theorem zAOA_spec {ty : FieldType} {U : State} (h : va_AOA ty U) : ∃ comp c k, U.vm.findClass (FieldType.array ty).toString = some comp ∧ (U.vm.classes.findIdx? fun (x : Class) => match x.kind with | .array component _ => component == comp | _ => false) = some c ∧ U.vm.classes[c]? = some k ∧ k.kind = .array comp (.array ty) ∧ U.vm.findClass ("[" ++ (FieldType.array ty).toString) = some c := by
  unfold va_AOA Cond.before at h
  simp only [Cond.holds, Cond.value, beq_iff_eq, Option.bind_eq_some_iff, Option.map_eq_some_iff] at h
  obtain ⟨comp, hc, c, hi, k, hk, hb⟩ := h
  obtain ⟨hlt, hp, -⟩ := Array.findIdx?_eq_some_iff_getElem.mp hi
  have hkk : U.vm.classes[c] = k := (Array.getElem?_eq_some_iff.mp hk).2
  rw [hkk] at hp
  cases hkind : k.kind with
  | array component t9 =>
    rw [hkind] at hb hp
    simp at hb hp
    exact ⟨comp, c, k, hc, hi, hk, by rw [hkind, hp, hb.1], hb.2⟩
  | _ => rw [hkind] at hb; simp at hb
theorem va_AOA.moved {ty : FieldType} {u U : State} (hvm : u.vm.Alike U.vm) (h : va_AOA ty u) : va_AOA ty U := by
  obtain ⟨comp, c, k, h1, h2, h3, h4, h5⟩ := zAOA_spec h
  obtain ⟨k', hk', he⟩ := hvm.2.2 _ _ h3
  have hi : (U.vm.classes.findIdx? fun (x : Class) => match x.kind with | .array component _ => component == comp | _ => false) = some c := by
    refine (va_idx_bare U.vm comp).symm.trans ?_
    refine Eq.trans ?_ ((va_idx_bare u.vm comp).trans h2)
    first | rw [hvm.bare_eq] | rw [← hvm.bare_eq]
  have hkind : k'.kind = .array comp (.array ty) := by rw [he]; exact h4
  have f1 : U.vm.findClass (FieldType.array ty).toString = some comp := by rw [hvm.findClass]; exact h1
  have f2 : U.vm.findClass ("[" ++ (FieldType.array ty).toString) = some c := by rw [hvm.findClass]; exact h5
  unfold va_AOA Cond.before Cond.holds
  simp only [Cond.value]
  rw [f1, Option.bind_some]
  refine (congrArg (fun o : Option Nat => (o.bind (fun c => (U.vm.classes[c]?).map fun (k : Class) => match k.kind with | .array _ t9 => decide (t9 = FieldType.array ty) && decide (U.vm.findClass ("[" ++ (FieldType.array ty).toString) = some c) | _ => false) == some true)) hi).trans ?_
  simp [hk', hkind, f2]
/-- what the machine's tables tell beside the words: arrays' classes, what nest mates reach, which classes aren't castable -/
def zNM : List (String × Nat × MethodName × String) := [("ShellPair", 24, ⟨"ShellPair$Sha2", "<init>", "()V"⟩, "ShellPair"), ("ShellPair$End", 83, ⟨"ShellPair$Channel", "<init>", "()V"⟩, "ShellPair"), ("ShellPairModel$Curve", 1, ⟨"ShellPairModel$Numbers", "<init>", "()V"⟩, "ShellPairModel"), ("ShellPairModel$End", 77, ⟨"ShellPairModel$Side", "<init>", "()V"⟩, "ShellPairModel"), ("ShellPairModel", 91, ⟨"ShellPairModel$Fields", "<init>", "()V"⟩, "ShellPairModel")]
def zNF : List (String × Nat × String × String × String × String) := [("ShellPairModel$End", 28, "ShellPairModel", "NOTHING", "[B", "ShellPairModel"), ("ShellPairModel$Side", 32, "ShellPairModel", "NOTHING", "[B", "ShellPairModel")]
def zNC : List (String × String) := [("java/lang/IllegalArgumentException", "java/util/NoSuchElementException"), ("java/lang/IllegalStateException", "java/lang/IllegalArgumentException"), ("java/lang/IllegalStateException", "java/util/NoSuchElementException"), ("java/lang/IndexOutOfBoundsException", "java/util/NoSuchElementException")]
def zAOs : List String := ["ShellPair$Bytes", "ShellPair$Channel", "ShellPairModel$End", "ShellPairModel$Row", "ShellPairModel$Side"]
def zXs : List String := ["java/lang/IllegalStateException", "java/lang/IllegalArgumentException", "java/util/NoSuchElementException", "java/lang/IndexOutOfBoundsException"]
def zDs : List String := ["java/lang/RuntimeException", "java/lang/Exception", "java/lang/Throwable"]
def zVM (U : State) : Prop := (∀ C ∈ zAOs, va_AO C U) ∧ va_AOA .byte U ∧ va_AOA .long U ∧ (∀ x ∈ zNM, va_Nw (.methodLinkNest x.1 x.2.1 x.2.2.1 x.2.2.2) U) ∧ (∀ x ∈ zNF, va_Nw (.fieldLinkNest x.1 x.2.1 x.2.2.1 x.2.2.2.1 x.2.2.2.2.1 x.2.2.2.2.2) U) ∧ (∀ x ∈ zNC, va_Nc x.1 x.2 U) ∧ va_Nw (.declares ⟨"ShellPair$End", "asked", "()I"⟩) U ∧ (∀ C ∈ zXs, va_Nw (.castable C C) U) ∧ (∀ C ∈ zDs, va_Nw (.declares ⟨C, "<init>", "(Ljava/lang/String;)V"⟩) U)
theorem zVM.warm {s U : State} (hW : s.WarmedH U.vm) (h : zVM s) : zVM U := by
  obtain ⟨h1, h2, h3, h4, h5, h6, h7, h8, h9⟩ := h
  exact ⟨fun C hC => (h1 C hC).moved hW.alike, h2.moved hW.alike, h3.moved hW.alike, fun x hx => (h4 x hx).warmM hW, fun x hx => (h5 x hx).warmF hW, fun x hx => (h6 x hx).moved hW.alike, h7.warmD hW, fun C hC => (h8 C hC).warmC hW, fun C hC => (h9 C hC).warmD hW⟩
/-- a string of the start: its address, its bytes' address, its length -/
def zStr (a v n : Nat) (A : Nat → Prop) (U : State) (H : Heap) : Prop := va_O "java/lang/String" a A U H ∧ va_OF "java/lang/String" "coder" "B" (.int 0) a A U H ∧ va_OF "java/lang/String" "value" "[B" (.ref v) a A U H ∧ ∃ f : Nat → Int32, va_T .byte v n (fun j => .int (f j)) A U H
/-- what stays as it is: static fields, old arrays, which strings constants are, strings -/
abbrev zEn : Type := List (String × String × String × Value) × List (FieldType × Nat × Nat × (Nat → Value)) × List (String × Nat × String × Nat) × List (Nat × Nat × Nat)
def zE (E : zEn) (A : Nat → Prop) (U : State) (H : Heap) : Prop := (∀ z ∈ E.1, va_Z z.1 z.2.1 z.2.2.1 z.2.2.2 A U H) ∧ (∀ x ∈ E.2.1, va_T x.1 x.2.1 x.2.2.1 x.2.2.2 A U H) ∧ (∀ r ∈ E.2.2.1, vk_R r.1 r.2.1 r.2.2.1 r.2.2.2 U) ∧ (∀ x ∈ E.2.2.2, zStr x.1 x.2.1 x.2.2 A U H) ∧ vx_Zq Bundle.tN "UNASSIGNED_STACK" Bundle.steD A U H ∧ vx_Zq Bundle.tN "SUPPRESSED_SENTINEL" Bundle.listD A U H ∧ zVM U
theorem zStr.on {a v n : Nat} {A B : Nat → Prop} {s U : State} {H0 H : Heap} {locs : List Loc} (h : zStr a v n A s H0) (hvm : s.vm.Alike U.vm) (hS : va_S A H0 H locs) (hAB : ∀ q, B q → A q) : zStr a v n B U H := by
  obtain ⟨h1, h2, h3, f, h4⟩ := h
  exact ⟨((h1.moved hvm).kept hS.2.1).narrow hAB, ((h2.moved hvm).kept hS.2.1).narrow hAB, ((h3.moved hvm).kept hS.2.1).narrow hAB, f, ((h4.moved hvm).kept hS.2.1).narrow hAB⟩
theorem zE.on {E : zEn} {A B : Nat → Prop} {s U : State} {H0 H : Heap} {locs : List Loc} (h : zE E A s H0) (hW : s.WarmedH U.vm) (hS : va_S A H0 H locs) (hAB : ∀ q, B q → A q) : zE E B U H := by
  have hvm := hW.alike
  obtain ⟨h1, h2, h3, h4, h5, h6, h7⟩ := h
  refine ⟨fun z hz => ?_, fun x hx => ?_, fun r hr => ?_, fun x hx => ?_, ?_, ?_, h7.warm hW⟩
  · exact (((h1 z hz).moved hvm).kept hS.2.1).narrow hAB
  · exact (((h2 x hx).moved hvm).kept hS.2.1).narrow hAB
  · exact (h3 r hr).warm hW
  · exact (h4 x hx).on hvm hS hAB
  · exact (((h5).moved hvm).kept hS.2.1).narrow hAB
  · exact (((h6).moved hvm).kept hS.2.1).narrow hAB
def zPre (E : zEn) (D : va_G) (cl : List vw_C) (tys : List (ClassId × FieldType)) (av : List Value) (X Y : va_W) (L : List Nat) (T : Nat → va_E → Prop) (sz : Nat) : Array Value → State → Prop :=
  va_Pc av (fun U => U.heap.size = sz ∧ zP D cl (fun _ => True) X Y L T U.heap ∧ va_K D cl tys U ∧ zE E (zA X Y L sz) U U.heap)
def zB (D : va_G) (cl : List vw_C) (tys : List (ClassId × FieldType)) (A : Nat → Prop) (X : va_W) (u : zU) (t : State) : Prop := zP D cl A X u.1 u.2.1 u.2.2 t.heap ∧ va_K D cl tys t
theorem zPre_blind {E : zEn} {D : va_G} {cl : List vw_C} {tys : List (ClassId × FieldType)} {av : List Value} {X Y : va_W} {L : List Nat} {T : Nat → va_E → Prop} {sz : Nat} : FrameBlind (zPre E D cl tys av X Y L T sz) := by
  intro a U g mk q
  obtain ⟨q0, q1, qP, qK, qE⟩ := q
  exact ⟨q0, q1, qP, va_K.moved (u := U) (U := U.calling g mk a) (Vm.Alike.refl U.vm) qK, qE.on (U := U.calling g mk a) (locs := []) (show U.WarmedH (U.calling g mk a).vm from State.WarmedH.refl U) va_S.rf (fun _ h => h)⟩
/-- contracts: of a method that answers nothing, an int, a long, a reference, a reference or null -/
def zV (E : zEn) (l : Launch) (D : va_G) (cl : List vw_C) (tys : List (ClassId × FieldType)) (y : MethodName) (ws : List Cond) (rm : Room) (mc ms : Nat) (av : List Value) (X Y : va_W) (L : List Nat) (T : Nat → va_E → Prop) (post : zU → Prop) : Prop :=
  ∀ sz : Nat, Met l y ws rm (zPre E D cl tys av X Y L T sz) (va_Qv post (zB D cl tys (zA X Y L sz) X) (zA X Y L sz)) mc ms (zA X Y L sz)
def zVi (E : zEn) (l : Launch) (D : va_G) (cl : List vw_C) (tys : List (ClassId × FieldType)) (y : MethodName) (ws : List Cond) (rm : Room) (mc ms : Nat) (av : List Value) (X Y : va_W) (L : List Nat) (T : Nat → va_E → Prop) (post : Int32 → zU → Prop) : Prop :=
  ∀ sz : Nat, Met l y ws rm (zPre E D cl tys av X Y L T sz) (va_Qi post (zB D cl tys (zA X Y L sz) X) (zA X Y L sz)) mc ms (zA X Y L sz)
def zVl (E : zEn) (l : Launch) (D : va_G) (cl : List vw_C) (tys : List (ClassId × FieldType)) (y : MethodName) (ws : List Cond) (rm : Room) (mc ms : Nat) (av : List Value) (X Y : va_W) (L : List Nat) (T : Nat → va_E → Prop) (post : Int64 → zU → Prop) : Prop :=
  ∀ sz : Nat, Met l y ws rm (zPre E D cl tys av X Y L T sz) (va_Ql post (zB D cl tys (zA X Y L sz) X) (zA X Y L sz)) mc ms (zA X Y L sz)
def zVq (E : zEn) (l : Launch) (D : va_G) (cl : List vw_C) (tys : List (ClassId × FieldType)) (y : MethodName) (ws : List Cond) (rm : Room) (mc ms : Nat) (av : List Value) (X Y : va_W) (L : List Nat) (T : Nat → va_E → Prop) (post : Option Nat → zU → Prop) : Prop :=
  ∀ sz : Nat, Met l y ws rm (zPre E D cl tys av X Y L T sz) (va_Qq post (zB D cl tys (zA X Y L sz) X) (zA X Y L sz)) mc ms (zA X Y L sz)
/-- nothing told and nothing pooled has another shape behind it -/
def zSame (Y : va_W) (L : List Nat) (T : Nat → va_E → Prop) : zU → Prop := fun u => u = (Y, L, T)
section ZW
variable {p : Program} {l : Launch} {e : Env} {R : Room} {s : State} {m : MethodId} {args : Array Value} {below : List Frame} {meth : Method} {c : Code} {H : Heap} {locs : List Loc} {cells slots : Nat} {Q : State → Prop}
variable {cc : ByteArray} {pc : Nat} {ls : Array Slot} {rest : List Value} {D : va_G} {cl : List vw_C} {A : Nat → Prop} {a : Nat} {tys : List (ClassId × FieldType)} {X Y : va_W} {L : List Nat} {T : Nat → va_E → Prop} {H0 : Heap} {E : zEn}
/-- from a contract to the walk of its body -/
theorem z_ofW {y : MethodName} {ws ws' : List Cond} {rm : Room} {mc ms : Nat} {av : List Value} {maxL : Nat} {ret : Option FieldType} {Qc : (Nat → Prop) → Array Value → State → Outcome → State → Prop} (hy : plainName y.cls = true) (hw : ws = Cond.code y cc maxL ret :: ws') (hn : (lg_sl av).length ≤ maxL)
    (body : ∀ (p : Program) (e : Env) (s : State) (m : MethodId) (below : List Frame) (meth : Method) (c : Code) (A : Nat → Prop) (ls : Array Slot), p.tables.exec = Jvm.exec → c.code = cc → c.maxLocals = maxL → meth.sig.returnType = ret → (∀ w ∈ ws, w.before av.toArray s = true) → s.vm.findClass y.cls = some m.cls → meth.locks = false → meth.name = y.name → (∀ q, s.heap.size ≤ q → A q) → va_K D cl tys s → zP D cl A X Y L T s.heap → va_S A s.heap s.heap [] → zE E A s s.heap → lv_has ls maxL (lv_args 0 av) → W p l e rm s m av.toArray below meth c s.heap [] 0 0 (MQ below (Qc A) av.toArray s mc ms A) (F0 m 0 ls [])) (sz : Nat) :
    Met l y ws rm (zPre E D cl tys av X Y L T sz) (Qc (zA X Y L sz)) mc ms (zA X Y L sz) := by
  refine Met.ofW (cc := cc) (maxL := maxL) (ret := ret) hy hw ?_
  intro p e s m args below meth c s₁ B hml hv
  obtain ⟨rfl, hsz, hZ, hK, hE⟩ := hv
  have hx := B.exec
  have hb := B.bytes
  have hr := B.returns
  have hts := atoms_spec (ws := ws) B.pre
  have hown : s.vm.findClass y.cls = some m.cls := findClass_of_methodNamed B.named
  have hlocks := B.notSynchronized
  have hin : meth.name = y.name := (name_of_methodNamed B.named B.method).1
  subst hsz
  have hZ := hZ.own (sz := s.heap.size)
  have hA : ∀ q : Nat, s.heap.size ≤ q → zA X Y L s.heap.size q := fun q h => Or.inr (Or.inr h)
  have hl := lv_entry av (n := maxL) hn
  rw [lg_entry_eq]
  exact body p e s m below meth c _ _ hx hb hml hr hts hown hlocks hin hA hK hZ va_S.rf hE hl
theorem z_preS {av : List Value} (hK : va_K D cl tys s) (hZ : zP D cl A X Y L T H) (hS : va_S A s.heap H locs) (hA : ∀ q, s.heap.size ≤ q → A q) (hE : zE E A s s.heap) : PreS s H (zPre E D cl tys av X Y L T H.size) av :=
  ⟨zPre_blind, fun U hU hW => ⟨rfl, by rw [hU], by rw [hU]; exact hZ.weaken (fun _ _ => trivial), va_K.moved hW.alike hK, by rw [hU]; exact hE.on hW hS (zA_of hZ hS hA)⟩⟩
/-- behind a call -/
theorem z_goV {mc ms : Nat} {st0 : List Value} {post : zU → Prop} {av : Array Value} (hr : va_Run p l e R s m args below meth c H locs cells slots mc ms (F0 m pc ls st0) rest (va_Qv post (zB D cl tys (zA X Y L H.size) X) (zA X Y L H.size) av) (zA X Y L H.size)) (hZ : zP D cl A X Y L T H) (hS : va_S A H0 H locs) (hA : ∀ q, H0.size ≤ q → A q)
    (kk : ∀ (Y1 : va_W) (L1 : List Nat) (T1 : Nat → va_E → Prop) (H1 : Heap) (locs1 : List Loc), post (Y1, L1, T1) → zP D cl A X Y1 L1 T1 H1 → va_S A H0 H1 locs1 → W p l e R s m args below meth c H1 locs1 (cells + mc) (slots + ms) Q (F0 m (pc + 3) ls rest)) : W p l e R s m args below meth c H locs cells slots Q (F0 m pc ls st0) := by
  have hF := zA_of hZ hS hA
  refine va_callv hr hS (fun q _ h => hF q h) hF (fun u t H1 locs1 ht hvm hw hB hz1 hk1 hS1 => ?_)
  obtain ⟨Y1, L1, T1⟩ := u
  obtain ⟨hZ1, -⟩ := hB
  rw [ht] at hZ1
  exact kk Y1 L1 T1 H1 locs1 hw (hZ1.weaken hF) hS1
theorem z_goI {mc ms : Nat} {st0 : List Value} {post : Int32 → zU → Prop} {av : Array Value} (hr : va_Run p l e R s m args below meth c H locs cells slots mc ms (F0 m pc ls st0) rest (va_Qi post (zB D cl tys (zA X Y L H.size) X) (zA X Y L H.size) av) (zA X Y L H.size)) (hZ : zP D cl A X Y L T H) (hS : va_S A H0 H locs) (hA : ∀ q, H0.size ≤ q → A q)
    (kk : ∀ (r : Int32) (Y1 : va_W) (L1 : List Nat) (T1 : Nat → va_E → Prop) (H1 : Heap) (locs1 : List Loc), post r (Y1, L1, T1) → zP D cl A X Y1 L1 T1 H1 → va_S A H0 H1 locs1 → W p l e R s m args below meth c H1 locs1 (cells + mc) (slots + ms) Q (F0 m (pc + 3) ls (.int r :: rest))) : W p l e R s m args below meth c H locs cells slots Q (F0 m pc ls st0) := by
  have hF := zA_of hZ hS hA
  refine va_calli hr hS (fun q _ h => hF q h) hF (fun r u t H1 locs1 ht hvm hw hB hz1 hk1 hS1 => ?_)
  obtain ⟨Y1, L1, T1⟩ := u
  obtain ⟨hZ1, -⟩ := hB
  rw [ht] at hZ1
  exact kk r Y1 L1 T1 H1 locs1 hw (hZ1.weaken hF) hS1
theorem z_goL {mc ms : Nat} {st0 : List Value} {post : Int64 → zU → Prop} {av : Array Value} (hr : va_Run p l e R s m args below meth c H locs cells slots mc ms (F0 m pc ls st0) rest (va_Ql post (zB D cl tys (zA X Y L H.size) X) (zA X Y L H.size) av) (zA X Y L H.size)) (hZ : zP D cl A X Y L T H) (hS : va_S A H0 H locs) (hA : ∀ q, H0.size ≤ q → A q)
    (kk : ∀ (r : Int64) (Y1 : va_W) (L1 : List Nat) (T1 : Nat → va_E → Prop) (H1 : Heap) (locs1 : List Loc), post r (Y1, L1, T1) → zP D cl A X Y1 L1 T1 H1 → va_S A H0 H1 locs1 → W p l e R s m args below meth c H1 locs1 (cells + mc) (slots + ms) Q (F0 m (pc + 3) ls (.long r :: rest))) : W p l e R s m args below meth c H locs cells slots Q (F0 m pc ls st0) := by
  have hF := zA_of hZ hS hA
  refine va_calll hr hS (fun q _ h => hF q h) hF (fun r u t H1 locs1 ht hvm hw hB hz1 hk1 hS1 => ?_)
  obtain ⟨Y1, L1, T1⟩ := u
  obtain ⟨hZ1, -⟩ := hB
  rw [ht] at hZ1
  exact kk r Y1 L1 T1 H1 locs1 hw (hZ1.weaken hF) hS1
theorem z_goQ {mc ms : Nat} {st0 : List Value} {post : Option Nat → zU → Prop} {av : Array Value} (hr : va_Run p l e R s m args below meth c H locs cells slots mc ms (F0 m pc ls st0) rest (va_Qq post (zB D cl tys (zA X Y L H.size) X) (zA X Y L H.size) av) (zA X Y L H.size)) (hZ : zP D cl A X Y L T H) (hS : va_S A H0 H locs) (hA : ∀ q, H0.size ≤ q → A q)
    (kk : ∀ (r : Option Nat) (Y1 : va_W) (L1 : List Nat) (T1 : Nat → va_E → Prop) (H1 : Heap) (locs1 : List Loc), post r (Y1, L1, T1) → zP D cl A X Y1 L1 T1 H1 → va_S A H0 H1 locs1 → W p l e R s m args below meth c H1 locs1 (cells + mc) (slots + ms) Q (F0 m (pc + 3) ls (va_rf r :: rest))) : W p l e R s m args below meth c H locs cells slots Q (F0 m pc ls st0) := by
  have hF := zA_of hZ hS hA
  refine va_callq hr hS (fun q _ h => hF q h) hF (fun r u t H1 locs1 ht hvm hw hB hz1 hk1 hS1 => ?_)
  obtain ⟨Y1, L1, T1⟩ := u
  obtain ⟨hZ1, -⟩ := hB
  rw [ht] at hZ1
  exact kk r Y1 L1 T1 H1 locs1 hw (hZ1.weaken hF) hS1
/-- a long array of the pool is read, is written -/
theorem z_lald (hexec : p.tables.exec = Jvm.exec) (hb : c.code = cc) (hK : va_K D cl tys s) (hZ : zP D cl A X Y L T H) (t0 : Nat) {cA : ClassId} {n : Nat} (ha : a ∈ L) (hT : T a = zJ cA n) (ht : tys[t0]? = some (cA, .long)) {i : Int32} (hin : vp_in i n) (hdg : decode cc pc = .ok (.laload, 1))
    (kk : ∀ v : Int64, W p l e R s m args below meth c H locs cells slots Q (F0 m (pc + 1) ls (.long v :: rest))) : W p l e R s m args below meth c H locs cells slots Q (F0 m pc ls (.int i :: .ref a :: rest)) := by
  obtain ⟨f, h1, h2, h3⟩ := hZ
  obtain ⟨g, hg⟩ : zJ cA n (f a) := hT ▸ h1 a ha
  obtain ⟨k, hk⟩ := va_pl_get (X := X ++ Y) (f := f) ha
  rw [hg] at hk
  exact va_lald hexec hb hK h2 k t0 hk ht hin hdg (kk _)
theorem z_last (hexec : p.tables.exec = Jvm.exec) (hb : c.code = cc) (hK : va_K D cl tys s) (hZ : zP D cl A X Y L T H) (hS : va_S A H0 H locs) (t0 : Nat) {cA : ClassId} {n : Nat} (ha : a ∈ L) (hT : T a = zJ cA n) (ht : tys[t0]? = some (cA, .long)) {i : Int32} {x : Int64} (hin : vp_in i n) (hdg : decode cc pc = .ok (.lastore, 1))
    (kk : ∀ (H1 : Heap) (locs1 : List Loc), zP D cl A X Y L T H1 → va_S A H0 H1 locs1 → W p l e R s m args below meth c H1 locs1 cells slots Q (F0 m (pc + 1) ls rest)) : W p l e R s m args below meth c H locs cells slots Q (F0 m pc ls (.long x :: .int i :: .ref a :: rest)) := by
  obtain ⟨f, h1, h2, h3⟩ := hZ
  obtain ⟨g, hg⟩ : zJ cA n (f a) := hT ▸ h1 a ha
  obtain ⟨k, hk⟩ := va_pl_get (X := X ++ Y) (f := f) ha
  have hk' := hk
  rw [hg] at hk
  refine va_last hexec hb hK h2 h3 hS k t0 hk ht hin hdg (fun H1 locs1 hP hD hS1 => kk H1 locs1 ?_ hS1)
  rw [va_pl_set h3 ha hk'] at hP hD
  refine ⟨_, fun b hb => ?_, hP, hD⟩
  by_cases e : b = a
  · subst e
    rw [va_up_self, hT]
    exact ⟨_, rfl⟩
  · rw [va_up_ne _ _ e]
    exact h1 b hb
/-- the end of a method -/
theorem z_vret {mc ms : Nat} {post : zU → Prop} (hx : p.tables.exec = Jvm.exec) (hb : c.code = cc) (hr : meth.sig.returnType = none) (hlocks : meth.locks = false) (hK : va_K D cl tys s) (hZ : zP D cl A X Y L T H) (hS : va_S A s.heap H locs) (hp : post (Y, L, T)) (h1 : cells ≤ mc) (h2 : slots ≤ ms) (hdg : decode cc pc = .ok (.return_, 1)) :
    W p l e R s m args below meth c H locs cells slots (MQ below (va_Qv post (zB D cl tys A X) A) args s mc ms A) (F0 m pc ls []) := by
  refine W.widen (k := mc) (n := ms) h1 h2 ?_
  exact W.vret hx hb hr (fun t ht hW => ⟨⟨(Y, L, T), rfl, hp, by show zP _ _ _ _ _ _ _ t.heap; rw [ht]; exact hZ, va_K.moved hW.alike hK⟩, hS.F ht⟩) hS.2.2 hdg
theorem z_iret {mc ms : Nat} {post : Int32 → zU → Prop} {v : Int32} {ty : FieldType} (hx : p.tables.exec = Jvm.exec) (hb : c.code = cc) (hr : meth.sig.returnType = some ty) (hn : narrow ty (.int v) = .int v) (hlocks : meth.locks = false) (hK : va_K D cl tys s) (hZ : zP D cl A X Y L T H) (hS : va_S A s.heap H locs) (hp : post v (Y, L, T)) (h1 : cells ≤ mc) (h2 : slots ≤ ms) (hdg : decode cc pc = .ok (.ireturn, 1)) :
    W p l e R s m args below meth c H locs cells slots (MQ below (va_Qi post (zB D cl tys A X) A) args s mc ms A) (F0 m pc ls [.int v]) := by
  refine W.widen (k := mc) (n := ms) h1 h2 ?_
  exact W.zret hx hb hr hn (fun t ht hW => ⟨⟨v, (Y, L, T), rfl, hp, by show zP _ _ _ _ _ _ _ t.heap; rw [ht]; exact hZ, va_K.moved hW.alike hK⟩, hS.F ht⟩) hS.2.2 hdg
theorem z_aret {mc ms : Nat} {post : Option Nat → zU → Prop} {r : Option Nat} {rt : FieldType} (hx : p.tables.exec = Jvm.exec) (hb : c.code = cc) (hr : meth.sig.returnType = some rt) (hrt : (∃ n, rt = .object n) ∨ ∃ t, rt = .array t) (hlocks : meth.locks = false) (hK : va_K D cl tys s) (hZ : zP D cl A X Y L T H) (hS : va_S A s.heap H locs) (hp : post r (Y, L, T)) (h1 : cells ≤ mc) (h2 : slots ≤ ms) (hdg : decode cc pc = .ok (.areturn, 1)) :
    W p l e R s m args below meth c H locs cells slots (MQ below (va_Qq post (zB D cl tys A X) A) args s mc ms A) (F0 m pc ls [va_rf r]) := by
  refine W.widen (k := mc) (n := ms) h1 h2 ?_
  refine W.aret hx hb hr hrt ?_ (fun t ht hW => ⟨⟨r, (Y, L, T), rfl, hp, by show zP _ _ _ _ _ _ _ t.heap; rw [ht]; exact hZ, va_K.moved hW.alike hK⟩, hS.F ht⟩) hS.2.2 hdg
  cases r with
  | none => exact Or.inl rfl
  | some a => exact Or.inr ⟨a, rfl⟩
theorem z_lret {mc ms : Nat} {post : Int64 → zU → Prop} {v : Int64} (hx : p.tables.exec = Jvm.exec) (hb : c.code = cc) (hr : meth.sig.returnType = some .long) (hlocks : meth.locks = false) (hK : va_K D cl tys s) (hZ : zP D cl A X Y L T H) (hS : va_S A s.heap H locs) (hp : post v (Y, L, T)) (h1 : cells ≤ mc) (h2 : slots ≤ ms) (hdg : decode cc pc = .ok (.lreturn, 1)) :
    W p l e R s m args below meth c H locs cells slots (MQ below (va_Ql post (zB D cl tys A X) A) args s mc ms A) (F0 m pc ls [.long v]) := by
  refine W.widen (k := mc) (n := ms) h1 h2 ?_
  exact W.lret hx hb hr (fun t ht hW => ⟨⟨v, (Y, L, T), rfl, hp, by show zP _ _ _ _ _ _ _ t.heap; rw [ht]; exact hZ, va_K.moved hW.alike hK⟩, hS.F ht⟩) hS.2.2 hdg
/-- a field of a pooled object, of a told one -/
theorem z_getP (hexec : p.tables.exec = Jvm.exec) (hb : c.code = cc) {own ref C : String} {TT : u_T} {N ci index : Nat} {Ts : List Cond} (hts : ∀ w ∈ Ts, w.before args s = true) (hin : ∀ w ∈ u_ws C TT N, w ∈ Ts) (hown : s.vm.findClass own = some m.cls) (hK : va_K D cl tys s) (hZ : zP D cl A X Y L T H) {vs : List Value} (ha : a ∈ L) (hT : T a = zO ci vs) (hc : cl[ci]? = some (C, TT, N)) (k : Nat) (hk : k < N) (hlink : (Cond.fieldLink own index ref (TT k).2.1 (TT k).2.2.1).before args s = true) (hsame : ∀ x, s.fieldFound? (TT k).1 (TT k).2.1 (TT k).2.2.1 = some x → s.fieldFound? ref (TT k).2.1 (TT k).2.2.1 = some x) {v : Value} (hv : vs[k]? = some v) (hdg : decode cc pc = .ok (.getfield index, 3))
    (kk : W p l e R s m args below meth c H locs cells slots Q (F0 m (pc + 3) ls (v :: rest))) : W p l e R s m args below meth c H locs cells slots Q (F0 m pc ls (.ref a :: rest)) := by
  obtain ⟨f, h1, h2, h3⟩ := hZ
  have hg : f a = .inr (ci, vs) := (show zO ci vs (f a) from hT ▸ h1 a ha)
  obtain ⟨q, hq⟩ := va_pl_get (X := X ++ Y) (f := f) ha
  rw [hg] at hq
  exact va_get hexec hb hts hin hown hK h2 q hq hc k hk hlink hsame hv hdg kk
theorem zY_at {f : Nat → va_E} {i : Nat} {q : Nat × va_E} (he : Y[i]? = some q) : ((X ++ Y) ++ va_pl L f)[X.length + i]? = some q := by
  have hi := (List.getElem?_eq_some_iff.mp he).1
  rw [List.getElem?_append_left (by rw [List.length_append]; omega), List.getElem?_append_right (by omega), Nat.add_sub_cancel_left]
  exact he
theorem zY_set {f : Nat → va_E} {i : Nat} {q : Nat × va_E} (hi : i < Y.length) : ((X ++ Y) ++ va_pl L f).set (X.length + i) q = (X ++ Y.set i q) ++ va_pl L f := by
  rw [List.set_append_left _ _ (by rw [List.length_append]; omega), List.set_append_right _ _ (by omega), Nat.add_sub_cancel_left]
theorem z_getY (hexec : p.tables.exec = Jvm.exec) (hb : c.code = cc) {own ref C : String} {TT : u_T} {N ci index : Nat} {Ts : List Cond} (hts : ∀ w ∈ Ts, w.before args s = true) (hin : ∀ w ∈ u_ws C TT N, w ∈ Ts) (hown : s.vm.findClass own = some m.cls) (hK : va_K D cl tys s) (hZ : zP D cl A X Y L T H) (i : Nat) {vs : List Value} (he : Y[i]? = some (a, .inr (ci, vs))) (hc : cl[ci]? = some (C, TT, N)) (k : Nat) (hk : k < N) (hlink : (Cond.fieldLink own index ref (TT k).2.1 (TT k).2.2.1).before args s = true) (hsame : ∀ x, s.fieldFound? (TT k).1 (TT k).2.1 (TT k).2.2.1 = some x → s.fieldFound? ref (TT k).2.1 (TT k).2.2.1 = some x) {v : Value} (hv : vs[k]? = some v) (hdg : decode cc pc = .ok (.getfield index, 3))
    (kk : W p l e R s m args below meth c H locs cells slots Q (F0 m (pc + 3) ls (v :: rest))) : W p l e R s m args below meth c H locs cells slots Q (F0 m pc ls (.ref a :: rest)) := by
  obtain ⟨f, h1, h2, h3⟩ := hZ
  exact va_get hexec hb hts hin hown hK h2 (X.length + i) (zY_at he) hc k hk hlink hsame hv hdg kk
theorem z_putF (hexec : p.tables.exec = Jvm.exec) (hb : c.code = cc) {own ref C : String} {TT : u_T} {N ci index : Nat} {Ts : List Cond} (hts : ∀ w ∈ Ts, w.before args s = true) (hin : ∀ w ∈ u_ws C TT N, w ∈ Ts) (ty0 : Nat → FieldType) (hty : ∀ k, k < N → parseFieldDescriptor (TT k).2.2.1 = some (ty0 k)) (hnm : ∀ a, a < N → ∀ b, b < N → a ≠ b → (TT a).2.1 ≠ (TT b).2.1) (hown : s.vm.findClass own = some m.cls) (hK : va_K D cl tys s) (hZ : zP D cl A X Y L T H) (hS : va_S A H0 H locs) (i : Nat) {vs : List Value} (he : Y[i]? = some (a, .inr (ci, vs))) (hc : cl[ci]? = some (C, TT, N)) (k : Nat) (hk : k < N) (hlink : (Cond.fieldLink own index ref (TT k).2.1 (TT k).2.2.1).before args s = true) (hsame : ∀ x, s.fieldFound? (TT k).1 (TT k).2.1 (TT k).2.2.1 = some x → s.fieldFound? ref (TT k).2.1 (TT k).2.2.1 = some x) (hfin : (TT k).2.2.2 = true) (hin2 : meth.name = "<init>") (hdecl : (TT k).1 = own) {ty : FieldType} {v : Value} (hd : parseFieldDescriptor (TT k).2.2.1 = some ty) (hn : narrow ty v = v) (hfit : fits ty v = true) (hl : k < vs.length) (hdg : decode cc pc = .ok (.putfield index, 3))
    (kk : ∀ (H1 : Heap) (locs1 : List Loc), zP D cl A X (Y.set i (a, .inr (ci, vs.set k v))) L T H1 → va_S A H0 H1 locs1 → W p l e R s m args below meth c H1 locs1 cells slots Q (F0 m (pc + 3) ls rest)) : W p l e R s m args below meth c H locs cells slots Q (F0 m pc ls (v :: .ref a :: rest)) := by
  obtain ⟨f, h1, h2, h3⟩ := hZ
  refine va_putF hexec hb hts hin ty0 hty hnm hown hK h2 h3 hS (X.length + i) (zY_at he) hc k hk hlink hsame hfin hin2 hdecl hd hn hfit hl hdg (fun H1 locs1 hP hD hS1 => kk H1 locs1 ⟨f, h1, ?_, ?_⟩ hS1)
  · rw [zY_set (List.getElem?_eq_some_iff.mp he).1] at hP; exact hP
  · rw [zY_set (List.getElem?_eq_some_iff.mp he).1] at hD; exact hD
theorem z_put (hexec : p.tables.exec = Jvm.exec) (hb : c.code = cc) {own ref C : String} {TT : u_T} {N ci index : Nat} {Ts : List Cond} (hts : ∀ w ∈ Ts, w.before args s = true) (hin : ∀ w ∈ u_ws C TT N, w ∈ Ts) (ty0 : Nat → FieldType) (hty : ∀ k, k < N → parseFieldDescriptor (TT k).2.2.1 = some (ty0 k)) (hnm : ∀ a, a < N → ∀ b, b < N → a ≠ b → (TT a).2.1 ≠ (TT b).2.1) (hown : s.vm.findClass own = some m.cls) (hK : va_K D cl tys s) (hZ : zP D cl A X Y L T H) (hS : va_S A H0 H locs) (i : Nat) {vs : List Value} (he : Y[i]? = some (a, .inr (ci, vs))) (hc : cl[ci]? = some (C, TT, N)) (k : Nat) (hk : k < N) (hlink : (Cond.fieldLink own index ref (TT k).2.1 (TT k).2.2.1).before args s = true) (hsame : ∀ x, s.fieldFound? (TT k).1 (TT k).2.1 (TT k).2.2.1 = some x → s.fieldFound? ref (TT k).2.1 (TT k).2.2.1 = some x) (hfin : (TT k).2.2.2 = false) {ty : FieldType} {v : Value} (hd : parseFieldDescriptor (TT k).2.2.1 = some ty) (hn : narrow ty v = v) (hfit : fits ty v = true) (hl : k < vs.length) (hdg : decode cc pc = .ok (.putfield index, 3))
    (kk : ∀ (H1 : Heap) (locs1 : List Loc), zP D cl A X (Y.set i (a, .inr (ci, vs.set k v))) L T H1 → va_S A H0 H1 locs1 → W p l e R s m args below meth c H1 locs1 cells slots Q (F0 m (pc + 3) ls rest)) : W p l e R s m args below meth c H locs cells slots Q (F0 m pc ls (v :: .ref a :: rest)) := by
  obtain ⟨f, h1, h2, h3⟩ := hZ
  refine va_put hexec hb hts hin ty0 hty hnm hown hK h2 h3 hS (X.length + i) (zY_at he) hc k hk hlink hsame hfin hd hn hfit hl hdg (fun H1 locs1 hP hD hS1 => kk H1 locs1 ⟨f, h1, ?_, ?_⟩ hS1)
  · rw [zY_set (List.getElem?_eq_some_iff.mp he).1] at hP; exact hP
  · rw [zY_set (List.getElem?_eq_some_iff.mp he).1] at hD; exact hD
/-- a receiver in the pool, a told one -/
theorem z_recvP (hK : va_K D cl tys s) (hZ : zP D cl A X Y L T H) {ci : Nat} {vs : List Value} {r : vw_C} (ha : a ∈ L) (hT : T a = zO ci vs) (hc : cl[ci]? = some r) : ∃ cell : Cell, H[a]? = some cell ∧ cell.vm.isStatics = false ∧ s.vm.findClass r.1 = some cell.cls := by
  obtain ⟨f, h1, h2, h3⟩ := hZ
  have hg : f a = .inr (ci, vs) := (show zO ci vs (f a) from hT ▸ h1 a ha)
  obtain ⟨q, hq⟩ := va_pl_get (X := X ++ Y) (f := f) ha
  rw [hg] at hq
  exact va_recv hK h2 hc hq
theorem z_recvY (hK : va_K D cl tys s) (hZ : zP D cl A X Y L T H) (i : Nat) {ci : Nat} {vs : List Value} {r : vw_C} (he : Y[i]? = some (a, .inr (ci, vs))) (hc : cl[ci]? = some r) : ∃ cell : Cell, H[a]? = some cell ∧ cell.vm.isStatics = false ∧ s.vm.findClass r.1 = some cell.cls := by
  obtain ⟨f, h1, h2, h3⟩ := hZ
  exact va_recv hK h2 hc (zY_at he)
theorem z_preV {av : List Value} {C : String} (hK : va_K D cl tys s) (hZ : zP D cl A X Y L T H) (hS : va_S A s.heap H locs) (hA : ∀ q, s.heap.size ≤ q → A q) (hE : zE E A s s.heap) (hr : ∃ cell : Cell, H[a]? = some cell ∧ cell.vm.isStatics = false ∧ s.vm.findClass C = some cell.cls) : PreV s H C a (zPre E D cl tys (.ref a :: av) X Y L T H.size) av :=
  ⟨zPre_blind, hr, (z_preS (av := .ref a :: av) hK hZ hS hA hE).2⟩
/-- arrays of small numbers in the pool -/
theorem z_iald (hexec : p.tables.exec = Jvm.exec) (hb : c.code = cc) (hK : va_K D cl tys s) (hZ : zP D cl A X Y L T H) (t0 : Nat) {cA : ClassId} {n : Nat} (ha : a ∈ L) (hT : T a = zI cA n) (ht : tys[t0]? = some (cA, .int)) {i : Int32} (hin : vp_in i n) (hdg : decode cc pc = .ok (.iaload, 1))
    (kk : ∀ v : Int32, W p l e R s m args below meth c H locs cells slots Q (F0 m (pc + 1) ls (.int v :: rest))) : W p l e R s m args below meth c H locs cells slots Q (F0 m pc ls (.int i :: .ref a :: rest)) := by
  obtain ⟨f, h1, h2, h3⟩ := hZ
  obtain ⟨g, hg⟩ : zI cA n (f a) := hT ▸ h1 a ha
  obtain ⟨k, hk⟩ := va_pl_get (X := X ++ Y) (f := f) ha
  rw [hg] at hk
  exact va_iald hexec hb hK h2 k t0 hk ht hin hdg (kk _)
theorem z_bald (hexec : p.tables.exec = Jvm.exec) (hb : c.code = cc) (hK : va_K D cl tys s) (hZ : zP D cl A X Y L T H) (t0 : Nat) {cA : ClassId} {n : Nat} (ha : a ∈ L) (hT : T a = zI cA n) (ht : tys[t0]? = some (cA, .byte)) {i : Int32} (hin : vp_in i n) (hdg : decode cc pc = .ok (.baload, 1))
    (kk : ∀ v : Int32, W p l e R s m args below meth c H locs cells slots Q (F0 m (pc + 1) ls (.int v :: rest))) : W p l e R s m args below meth c H locs cells slots Q (F0 m pc ls (.int i :: .ref a :: rest)) := by
  obtain ⟨f, h1, h2, h3⟩ := hZ
  obtain ⟨g, hg⟩ : zI cA n (f a) := hT ▸ h1 a ha
  obtain ⟨k, hk⟩ := va_pl_get (X := X ++ Y) (f := f) ha
  rw [hg] at hk
  exact va_bald hexec hb hK h2 k t0 hk ht hin hdg (kk _)
theorem z_zald (hexec : p.tables.exec = Jvm.exec) (hb : c.code = cc) (hK : va_K D cl tys s) (hZ : zP D cl A X Y L T H) (t0 : Nat) {cA : ClassId} {n : Nat} (ha : a ∈ L) (hT : T a = zI cA n) (ht : tys[t0]? = some (cA, .boolean)) {i : Int32} (hin : vp_in i n) (hdg : decode cc pc = .ok (.baload, 1))
    (kk : ∀ v : Int32, W p l e R s m args below meth c H locs cells slots Q (F0 m (pc + 1) ls (.int v :: rest))) : W p l e R s m args below meth c H locs cells slots Q (F0 m pc ls (.int i :: .ref a :: rest)) := by
  obtain ⟨f, h1, h2, h3⟩ := hZ
  obtain ⟨g, hg⟩ : zI cA n (f a) := hT ▸ h1 a ha
  obtain ⟨k, hk⟩ := va_pl_get (X := X ++ Y) (f := f) ha
  rw [hg] at hk
  exact va_zald hexec hb hK h2 k t0 hk ht hin hdg (kk _)
theorem z_iast (hexec : p.tables.exec = Jvm.exec) (hb : c.code = cc) (hK : va_K D cl tys s) (hZ : zP D cl A X Y L T H) (hS : va_S A H0 H locs) (t0 : Nat) {cA : ClassId} {n : Nat} (ha : a ∈ L) (hT : T a = zI cA n) (ht : tys[t0]? = some (cA, .int)) {i : Int32} {x : Int32} (hin : vp_in i n) (hdg : decode cc pc = .ok (.iastore, 1))
    (kk : ∀ (H1 : Heap) (locs1 : List Loc), zP D cl A X Y L T H1 → va_S A H0 H1 locs1 → W p l e R s m args below meth c H1 locs1 cells slots Q (F0 m (pc + 1) ls rest)) : W p l e R s m args below meth c H locs cells slots Q (F0 m pc ls (.int x :: .int i :: .ref a :: rest)) := by
  obtain ⟨f, h1, h2, h3⟩ := hZ
  obtain ⟨g, hg⟩ : zI cA n (f a) := hT ▸ h1 a ha
  obtain ⟨k, hk⟩ := va_pl_get (X := X ++ Y) (f := f) ha
  have hk' := hk
  rw [hg] at hk
  refine va_iast hexec hb hK h2 h3 hS k t0 hk ht hin hdg (fun H1 locs1 hP hD hS1 => kk H1 locs1 ?_ hS1)
  rw [va_pl_set h3 ha hk'] at hP hD
  refine ⟨_, fun b hb => ?_, hP, hD⟩
  by_cases e : b = a
  · subst e
    rw [va_up_self, hT]
    exact ⟨_, rfl⟩
  · rw [va_up_ne _ _ e]
    exact h1 b hb
theorem z_bast (hexec : p.tables.exec = Jvm.exec) (hb : c.code = cc) (hK : va_K D cl tys s) (hZ : zP D cl A X Y L T H) (hS : va_S A H0 H locs) (t0 : Nat) {cA : ClassId} {n : Nat} (ha : a ∈ L) (hT : T a = zI cA n) (ht : tys[t0]? = some (cA, .byte)) {i : Int32} {x : Int32} (hin : vp_in i n) (hdg : decode cc pc = .ok (.bastore, 1))
    (kk : ∀ (H1 : Heap) (locs1 : List Loc), zP D cl A X Y L T H1 → va_S A H0 H1 locs1 → W p l e R s m args below meth c H1 locs1 cells slots Q (F0 m (pc + 1) ls rest)) : W p l e R s m args below meth c H locs cells slots Q (F0 m pc ls (.int x :: .int i :: .ref a :: rest)) := by
  obtain ⟨f, h1, h2, h3⟩ := hZ
  obtain ⟨g, hg⟩ : zI cA n (f a) := hT ▸ h1 a ha
  obtain ⟨k, hk⟩ := va_pl_get (X := X ++ Y) (f := f) ha
  have hk' := hk
  rw [hg] at hk
  refine va_bast hexec hb hK h2 h3 hS k t0 hk ht hin hdg (fun H1 locs1 hP hD hS1 => kk H1 locs1 ?_ hS1)
  rw [va_pl_set h3 ha hk'] at hP hD
  refine ⟨_, fun b hb => ?_, hP, hD⟩
  by_cases e : b = a
  · subst e
    rw [va_up_self, hT]
    exact ⟨_, rfl⟩
  · rw [va_up_ne _ _ e]
    exact h1 b hb
theorem z_zast (hexec : p.tables.exec = Jvm.exec) (hb : c.code = cc) (hK : va_K D cl tys s) (hZ : zP D cl A X Y L T H) (hS : va_S A H0 H locs) (t0 : Nat) {cA : ClassId} {n : Nat} (ha : a ∈ L) (hT : T a = zI cA n) (ht : tys[t0]? = some (cA, .boolean)) {i : Int32} {x : Int32} (hin : vp_in i n) (hdg : decode cc pc = .ok (.bastore, 1))
    (kk : ∀ (H1 : Heap) (locs1 : List Loc), zP D cl A X Y L T H1 → va_S A H0 H1 locs1 → W p l e R s m args below meth c H1 locs1 cells slots Q (F0 m (pc + 1) ls rest)) : W p l e R s m args below meth c H locs cells slots Q (F0 m pc ls (.int x :: .int i :: .ref a :: rest)) := by
  obtain ⟨f, h1, h2, h3⟩ := hZ
  obtain ⟨g, hg⟩ : zI cA n (f a) := hT ▸ h1 a ha
  obtain ⟨k, hk⟩ := va_pl_get (X := X ++ Y) (f := f) ha
  have hk' := hk
  rw [hg] at hk
  refine va_zast hexec hb hK h2 h3 hS k t0 hk ht hin hdg (fun H1 locs1 hP hD hS1 => kk H1 locs1 ?_ hS1)
  rw [va_pl_set h3 ha hk'] at hP hD
  refine ⟨_, fun b hb => ?_, hP, hD⟩
  by_cases e : b = a
  · subst e
    rw [va_up_self, hT]
    exact ⟨_, rfl⟩
  · rw [va_up_ne _ _ e]
    exact h1 b hb
/-- a told array is written -/
theorem z_iastY (hexec : p.tables.exec = Jvm.exec) (hb : c.code = cc) (hK : va_K D cl tys s) (hZ : zP D cl A X Y L T H) (hS : va_S A H0 H locs) (t0 j : Nat) {cA : ClassId} {n : Nat} {g : Nat → Int32} (he : Y[j]? = some (a, .inl (cA, n, .inl g))) (ht : tys[t0]? = some (cA, .int)) {i : Int32} {x : Int32} (hin : vp_in i n) (hdg : decode cc pc = .ok (.iastore, 1))
    (kk : ∀ (H1 : Heap) (locs1 : List Loc), zP D cl A X (Y.set j (a, .inl (cA, n, .inl (upd g i.toNatClampNeg x)))) L T H1 → va_S A H0 H1 locs1 → W p l e R s m args below meth c H1 locs1 cells slots Q (F0 m (pc + 1) ls rest)) : W p l e R s m args below meth c H locs cells slots Q (F0 m pc ls (.int x :: .int i :: .ref a :: rest)) := by
  obtain ⟨f, h1, h2, h3⟩ := hZ
  refine va_iast hexec hb hK h2 h3 hS (X.length + j) t0 (zY_at he) ht hin hdg (fun H1 locs1 hP hD hS1 => kk H1 locs1 ⟨f, h1, ?_, ?_⟩ hS1)
  · rw [zY_set (List.getElem?_eq_some_iff.mp he).1] at hP; exact hP
  · rw [zY_set (List.getElem?_eq_some_iff.mp he).1] at hD; exact hD
/-- a told array of references is written: what is stored is told, or pooled -/
theorem z_astqY (hexec : p.tables.exec = Jvm.exec) (hb : c.code = cc) (hK : va_K D cl tys s) (hZ : zP D cl A X Y L T H) (hS : va_S A H0 H locs) (t0 j k ci : Nat) {cA : ClassId} {r : vw_C} {n v : Nat} {vs : List Value} {g : Nat → Option Nat} (he : Y[j]? = some (a, .inl (cA, n, .inr (.inr (.inr (.inr g)))))) (ht : tys[t0]? = some (cA, .object r.1)) (hv : Y[k]? = some (v, .inr (ci, vs))) (hc : cl[ci]? = some r) {i : Int32} (hin : vp_in i n) (hdg : decode cc pc = .ok (.aastore, 1))
    (kk : ∀ (H1 : Heap) (locs1 : List Loc), zP D cl A X (Y.set j (a, .inl (cA, n, .inr (.inr (.inr (.inr (va_up g i.toNatClampNeg (some v)))))))) L T H1 → va_S A H0 H1 locs1 → W p l e R s m args below meth c H1 locs1 cells slots Q (F0 m (pc + 1) ls rest)) : W p l e R s m args below meth c H locs cells slots Q (F0 m pc ls (.ref v :: .int i :: .ref a :: rest)) := by
  obtain ⟨f, h1, h2, h3⟩ := hZ
  refine va_astq hexec hb hK h2 h3 hS (X.length + j) t0 (X.length + k) ci (zY_at he) ht (zY_at hv) hc hin hdg (fun H1 locs1 hP hD hS1 => kk H1 locs1 ⟨f, h1, ?_, ?_⟩ hS1)
  · rw [zY_set (List.getElem?_eq_some_iff.mp he).1] at hP; exact hP
  · rw [zY_set (List.getElem?_eq_some_iff.mp he).1] at hD; exact hD
/-- a static field that stays -/
theorem z_gets (hexec : p.tables.exec = Jvm.exec) (hb : c.code = cc) {own C n d : String} {v : Value} {index : Nat} (hE : zE E A s s.heap) (hz : (C, n, d, v) ∈ E.1) (hS : va_S A s.heap H locs) (hown : s.vm.findClass own = some m.cls) (hlink : (Cond.fieldLink own index C n d).before args s = true) (hdg : decode cc pc = .ok (.getstatic index, 3))
    (kk : W p l e R s m args below meth c H locs cells slots Q (F0 m (pc + 3) ls (v :: rest))) : W p l e R s m args below meth c H locs cells slots Q (F0 m pc ls rest) :=
  va_gets hexec hb (hE.1 _ hz) hS hown hlink (fun _ h => h) hdg kk
end ZW
/-- the arrays' classes -/
abbrev zT (K : Nat → ClassId) : List (ClassId × FieldType) := [(K 0, .int), (K 1, .long), (K 2, .byte), (K 3, .boolean), (K 4, .object "ShellPair$Bytes"), (K 5, .object "ShellPair$Channel"), (K 6, .object "ShellPairModel$End"), (K 7, .object "ShellPairModel$Row"), (K 8, .object "ShellPairModel$Side"), (K 9, .array .byte), (K 10, .array .long)]

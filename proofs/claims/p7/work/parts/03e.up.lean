/-! A static call by the name of a class below the method's own (own rows: the class entry is linked first, the method entry then; the kit's rows have it for the class' own name alone). -/
section ZUP
variable {Q : Unit → Pre} {EC : CtlPost} {e : Env} {d : Bool} {acts : List Action} {s s0 : State} {f : JFrame}
theorem zs_link {index ci n c : Nat} {m : MethodId} {dk ck : Class} {cf : ClassFile} {name desc : String} (hs : s.topJava?.isSome) (hp : e.platform.polymorphicOnlyByInvokevirtual = true) (hW : s0.WarmedH s.vm) (hE : s0.MethodEntryUp e s.vm f.method.cls index c m ci)
    (h1 : s0.vm.classes[f.method.cls]? = some dk) (h2 : dk.cf = some cf) (h3 : cf.constantPool[index]? = some (.methodref ci n)) (h4 : cf.constantPool.nameAndType? n = some (name, desc)) (hck : s0.vm.classes[c]? = some ck)
    (hno : (ck.methods.any fun x => x.name == name && !x.isStatic && signaturePolymorphic ck x) = false) :
    wp (Op.invokestatic.sem index) Q EC e d acts (s.setTop f) ↔ wp (Op.invokestatic.sem index) Q EC e d acts ((s.setVm (s.vm.calledUp f.method.cls ci index c m)).setTop f) := by
  obtain ⟨g1, -, w1, g2⟩ := hE.classFirst
  obtain ⟨k0, a0, b0⟩ := hW.alike.2.2 _ _ h1
  obtain ⟨k2, a2, b2⟩ := hE.warmed.alike.2.2 _ _ h1
  obtain ⟨c1, a3, b3⟩ := w1.alike.2.2 _ _ hck
  obtain ⟨c2, a4, b4⟩ := hE.warmed.alike.2.2 _ _ hck
  have h3' : cf.constantPool[index]? = some (if false then .interfaceMethodref ci n else .methodref ci n) := h3
  have r0 := memberRef_ask_via (e := e) a0 (by rw [b0]; exact h2) h3' h4
  have r2 := memberRef_ask_via (e := e) a2 (by rw [b2]; exact h2) h3' h4
  have n1 : (c1.methods.any fun x => x.name == name && !x.isStatic && signaturePolymorphic c1 x) = false := by rw [b3]; exact hno
  have n2 : (c2.methods.any fun x => x.name == name && !x.isStatic && signaturePolymorphic c2 x) = false := by rw [b4]; exact hno
  have s1 : (s.setVm (s.vm.noted f.method.cls ci (.cls c))).topJava?.isSome := hs
  have s2 : (s.setVm (s.vm.calledUp f.method.cls ci index c m)).topJava?.isSome := hs
  have l1 : ∀ {Q' : ClassId → Pre} {d' : Bool} {acts' : List Action}, wp (Jvm.resolveClassAt ci) Q' EC e d' acts' (s.setTop f) ↔ Q' c d' acts' ((s.setVm (s.vm.noted f.method.cls ci (.cls c))).setTop f) := W.resolveClassAt_links (t := s.setTop f) (State.method?_setTop f hs) g1
  have l2 : ∀ {Q' : MethodId → Pre} {d' : Bool} {acts' : List Action}, wp (Jvm.resolveMethodAt index) Q' EC e d' acts' ((s.setVm (s.vm.noted f.method.cls ci (.cls c))).setTop f) ↔ Q' m d' acts' ((s.setVm (s.vm.calledUp f.method.cls ci index c m)).setTop f) := W.resolveMethodAt_links (t := (s.setVm (s.vm.noted f.method.cls ci (.cls c))).setTop f) (State.method?_setTop f s1) g2
  simp [Op.invokestatic.sem, hp, Seam.memberRefOf, State.method?_setTop f hs, State.method?_setTop f s2, r0, r2, l1, W.resolveClassAt_ready (s := (s.setVm (s.vm.calledUp f.method.cls ci index c m)).setTop f) (State.method?_setTop f s2) hE.classReady, a3, a4, n1, n2, l2, W.resolveMethodAt_ready (s := (s.setVm (s.vm.calledUp f.method.cls ci index c m)).setTop f) (State.method?_setTop f s2) hE.ready, -Array.any_eq_true]
end ZUP
section ZUS
variable {p : Program} {l : Launch} {e : Env} {R : Room} {s : State} {m : MethodId} {args : Array Value} {below : List Frame} {meth : Method} {c : Code} {T : State} {locs : List Loc} {cells slots : Nat}
theorem zs_invoke (X : Stand p l e R s m args below meth c T locs cells slots) (hexec : p.tables.exec = Jvm.exec) {own owner : String} {index : Nat} {x : MethodName} (hown : s.vm.findClass own = some m.cls) (hlink : (Cond.methodLink own index x).before args s = true)
    (hsame : (Cond.sameMethod x.cls owner x.name x.desc).before args s = true) (howner : owner ≠ "java/lang/invoke/MethodHandle" ∧ owner ≠ "java/lang/invoke/VarHandle")
    {m1 : MethodId} {meth1 : Method} {k1 : Class} (hn : s.methodNamed? ⟨owner, x.name, x.desc⟩ = some m1) (hm1 : s.vm.method? m1 = some meth1) (hstatic : meth1.isStatic = true) (hk1 : s.vm.classes[m1.cls]? = some k1) (hinit : k1.init = .initialized)
    {g : JFrame} (hg : g.method = m) {argsL rest : List Value} (hlen : argsL.length = meth1.sig.parameters.length) (hstack : g.stack = argsL.reverse ++ rest) (hdg : decode c.code g.pc = .ok (.invokestatic index, 3)) :
    ∃ vm1, Stand p l e R s m args below meth c (T.setVm vm1) locs cells slots ∧
      ∀ target, (∀ acts, Steps p.tables e below (doInvoke e ((T.setVm vm1).setTop { g with stack := rest }) acts m1 argsL.toArray).1 target) → Steps p.tables e below (T.setTop g) target := by
  have hpl : e.platform.magicAccessors = ({} : Platform).magicAccessors := by rw [X.admits.platform]
  have hpv : e.platform.polymorphicOnlyByInvokevirtual = true := by rw [X.admits.platform]
  obtain ⟨cn, ck, r1, hcn, hck, hni, hf, hn1⟩ := Cond.sameMethod_found hsame
  cases hn.symm.trans hn1
  obtain ⟨ci, hl, hright⟩ := Cond.methodLink_specUp hown hcn hck hni hf hlink e.platform hpl (by rw [X.admits.platform])
  have hE : s.MethodEntryUp e T.vm m.cls index cn m1 ci := State.methodEntryUp X.warmed hl hright
  obtain ⟨kx, hkx, hnx⟩ := className_of_methodNamed hn
  cases hk1.symm.trans hkx
  obtain ⟨dk, cfile, nt, mname, mdesc, ck1, _, _, hd, hcf, hcp, hnt, -, -, hck1, -, hpoly, -⟩ := hl.here
  cases hck.symm.trans hck1
  obtain ⟨dk2, hdk2, hed2⟩ := hE.warmed.alike.2.2 _ _ hd
  obtain ⟨k2, hk2, he2⟩ := hE.warmed.alike.2.2 _ _ hk1
  obtain ⟨ck2, hck2, hec2⟩ := hE.warmed.alike.2.2 _ _ hck
  have hno : (ck.methods.any fun y => y.name == mname && !y.isStatic && signaturePolymorphic ck y) = false := by simp [hpoly]
  have hno2 : (ck2.methods.any fun y => y.name == mname && !y.isStatic && signaturePolymorphic ck2 y) = false := by rw [hec2]; exact hno
  have hcp1 : cfile.constantPool[index]? = some (if false then .interfaceMethodref ci nt else .methodref ci nt) := hcp
  refine ⟨T.vm.calledUp m.cls ci index cn m1, X.noted hE.warmed, fun target hrest => ?_⟩
  subst hg
  jvm_step X.here [hexec, hdg, zs_link (e := e) (s := T) (s0 := s) (f := g) X.here.top hpv X.warmed hE hd hcf hcp hnt hck hno,
    Op.invokestatic.wp_ready (e := e) (s := T.setVm (T.vm.calledUp g.method.cls ci index cn m1)) (k := k2) (meth := meth1) (m := m1) (args := argsL) (rest := rest) (f := g)
      X.here.top ⟨ci, mname, mdesc, false, cn, ck2, memberRef_ask_via (e := e) hdk2 (by rw [hed2]; exact hcf) hcp1 hnt, hE.classReady, hck2, hno2⟩ hE.ready hk2
      (by show (T.vm.calledUp g.method.cls ci index cn m1).method? m1 = some meth1; rw [hE.warmed.alike.method?]; exact hm1)
      (by rw [he2]; show signaturePolymorphic k1 meth1 = false; simp [signaturePolymorphic, hnx, howner.1, howner.2]) hstatic (by rw [he2]; exact hinit) hlen hstack]
  exact fun acts => hrest _
theorem zs_back (X : Stand p l e R s m args below meth c T locs cells slots) (hexec : p.tables.exec = Jvm.exec) {own owner : String} {index : Nat} {x : MethodName} (hown : s.vm.findClass own = some m.cls) (hlink : (Cond.methodLink own index x).before args s = true)
    (hsame : (Cond.sameMethod x.cls owner x.name x.desc).before args s = true) (hstat : (Cond.static ⟨owner, x.name, x.desc⟩).before args s = true) (hinit : (Cond.initialized owner).before args s = true)
    {mk : MethodId} {methM : Method} (hnamed : s.methodNamed? ⟨owner, x.name, x.desc⟩ = some mk) (hmethM : s.vm.method? mk = some methM) (hsig : parseMethodDescriptor x.desc = some methM.sig) (howner : owner ≠ "java/lang/invoke/MethodHandle" ∧ owner ≠ "java/lang/invoke/VarHandle")
    {W : Nat} {Pc : Pt → Array Value → Prop} {Qc : Pt → Array Value → Option Value → Pt → Prop} (hK : Back l R p e below s args ⟨owner, x.name, x.desc⟩ 3 W Pc Qc)
    {g : JFrame} (hg : g.method = m) (hsize : g.locals.size = c.maxLocals) {s1 : State} (hcome : Steps p.tables e below s1 (T.setTop g)) {argsL rest : List Value}
    (hlen : ∀ sig, parseMethodDescriptor x.desc = some sig → argsL.length = sig.parameters.length) (hstack : g.stack = argsL.reverse ++ rest) (hW : 2 * g.monitorRoom + (rest.map fun v => v.category).sum ≤ W)
    (hdg : decode c.code g.pc = .ok (.invokestatic index, 3)) (hpre : ∀ vm1, s.WarmedH vm1 → Pc ⟨T.setVm vm1, locs, cells, slots⟩ argsL.toArray) :
    ∃ (v : Option Value) (vm1 : Vm) (B : Pt), s.WarmedH vm1 ∧ Stand p l e R s m args below meth c B.U B.locs B.cells B.slots ∧ Qc ⟨T.setVm vm1, locs, cells, slots⟩ argsL.toArray v B ∧
      Steps p.tables e below s1 (B.U.setTop { g with pc := g.pc + 3, stack := v.toList ++ rest }) := by
  obtain ⟨kP, hkP, -⟩ := className_of_methodNamed hnamed
  obtain ⟨vm1, X1, st1⟩ := zs_invoke X hexec hown hlink hsame howner hnamed hmethM (Cond.static_spec hnamed hmethM hstat) hkP (Cond.initialized_spec (findClass_of_methodNamed hnamed) hkP hinit) (g := g) hg (argsL := argsL) (rest := rest) (hlen _ hsig) hstack hdg
  obtain ⟨v, B, X2, hq, hs⟩ := hK m meth c ⟨T.setVm vm1, locs, cells, slots⟩ { g with stack := rest } (.invokestatic index) mk argsL.toArray X1 hg hsize hdg hW (X1.named hnamed) (hpre vm1 X1.warmed)
  exact ⟨v, vm1, B, X1.warmed, X2, hq, (hcome.trans (st1 _ fun acts => by rw [doInvoke_state]; exact Steps.refl _)).trans hs⟩
end ZUS
section ZRU
variable {p : Program} {l : Launch} {e : Env} {R : Room} {s : State} {m : MethodId} {args : Array Value} {below : List Frame} {meth : Method} {c : Code} {H : Heap} {locs : List Loc} {cells slots : Nat}
/-- a static call by the name of a class below its own: the library's staticBackUp, in this kit's form -/
theorem z_runSUp {x y : MethodName} {bytes cc : ByteArray} {maxL nL mc ms n index : Nat} {ret : Option FieldType} {ws ws' : List Cond} {rm : Room} {Pc : Array Value → State → Prop} {Qc : Array Value → State → Outcome → State → Prop} {free : Addr → Prop} {Ts : List Cond} {own owner : String} {As rest : List Value} {g : JFrame}
    (S : CallFix p m c cc nL s args Ts own) (hM : Met l y ws rm Pc Qc mc ms free) (hyx : y = ⟨owner, x.name, x.desc⟩) (hG : GoodIn Ts ws) (hw : ws = Cond.code y bytes maxL ret :: ws') (hrc : rm.cells = mc) (hrs : rm.slots = ms) (hR : rm.frames + 1 ≤ R.frames ∧ 8 + (maxL + 11) + rm.locals ≤ R.locals)
    (hlink : (Cond.methodLink own index x).before args s = true) (hsame : (Cond.sameMethod x.cls owner x.name x.desc).before args s = true) (hstat : (Cond.static y).before args s = true) (hini : (Cond.initialized owner).before args s = true) (hd : owner ≠ "java/lang/invoke/MethodHandle" ∧ owner ≠ "java/lang/invoke/VarHandle" ∧ (parseMethodDescriptor x.desc).map (fun d => d.parameters.length) = some n)
    (hp : PreS s H Pc As) (hg : g.method = m) (hn : As.length = n) (hsize : g.locals.size = nL) (hstack : g.stack = As.reverse ++ rest) (hW : 2 * g.monitorRoom + (rest.map fun v => v.category).sum ≤ 8) (hdg : decode cc g.pc = .ok (.invokestatic index, 3)) (hf : cells + mc ≤ R.cells ∧ slots + ms ≤ R.slots) :
    va_Run p l e R s m args below meth c H locs cells slots mc ms g rest (Qc As.toArray) (free) := by
  subst hyx
  obtain ⟨hx, hb, hml, ho, ht⟩ := S
  have hcw : Cond.code ⟨owner, x.name, x.desc⟩ bytes maxL ret ∈ ws := by rw [hw]; exact List.mem_cons_self
  have hcode := ht _ (hG _ hcw).1
  have hK : Back l R p e below s args ⟨owner, x.name, x.desc⟩ 3 8 (PreOf R mc ms Pc) (PostOf Qc mc ms free) := back_of (bytes := bytes) (maxL := maxL) (ret := ret) hM hp.1 hrc hrs hR.1 hR.2 (pay_in ht hG) hcw (fun a' U hW => word_at hW (Or.inl (by first | rfl | simp [Cond.onTables, Cond.keeps, Cond.steady])) hini)
  obtain ⟨mk, hnamed⟩ := Cond.code_named hcode
  obtain ⟨methM, cM, hmethM, -, -, -, -, -, -, hsigM⟩ := Cond.code_spec hnamed hcode
  intro T hT X
  obtain ⟨v, vm₁, ⟨U', l2, c2, s2⟩, hW₁, X', ⟨g', mk2, t, L, e1, e2, hq, h1, hL, h2, h3⟩, st⟩ := zs_back X hx ho hlink hsame hstat hini hnamed hmethM hsigM ⟨hd.1, hd.2.1⟩ hK hg (hsize.trans hml.symm) (Steps.refl _) (argsL := As) (rest := rest) (fun sig h => by have h2 := hd.2.2; rw [h] at h2; exact hn.trans (Option.some.inj h2).symm) hstack hW (by rw [hb]; exact hdg)
    (fun vm₁ hW₁ => ⟨hf.1, hf.2, hp.2 (T.setVm vm₁) hT hW₁⟩)
  dsimp only [Pt.U, Pt.locs, Pt.cells, Pt.slots] at X' e1 e2 h1 h2 h3 st
  subst h1; subst h2; subst h3
  exact ⟨v, (T.setVm vm₁).calling g' mk2 As.toArray, t, U', L, hT, X', hL, e1, e2, hq, fun tg ht2 => st.trans ht2⟩
end ZRU

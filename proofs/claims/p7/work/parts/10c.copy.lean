section ZCPB
variable {p : Program} {l : Launch} {e : Env} {R : Room} {s : State} {m : MethodId} {args : Array Value} {below : List Frame} {meth : Method} {c : Code} {H : Heap} {locs : List Loc} {cells slots : Nat} {Q : State → Prop}
variable {cc : ByteArray} {pc : Nat} {ls : Array Slot} {rest : List Value} {D : va_G} {cl : List vw_C} {A : Nat → Prop} {a : Nat} {X Y : va_W} {L : List Nat} {T : Nat → va_E → Prop} {H0 : Heap}
/-- arraycopy of no bytes, between pooled rows of bytes -/
theorem z_copyBB {K : Nat → ClassId} (hexec : p.tables.exec = Jvm.exec) (hb : c.code = cc) (hml : c.maxLocals = ls.size) {own : String} {index : Nat} (hown : s.vm.findClass own = some m.cls) (hlink : (Cond.methodLink own index arraycopyName).before args s = true) (hnat : (Cond.native arraycopyName).before args s = true) (hstat : (Cond.static arraycopyName).before args s = true) (hini : (Cond.initialized "java/lang/System").before args s = true)
    (hK : va_K D cl (zT K) s) (hZ : zP D cl A X Y L T H) (hS : va_S A H0 H locs) {b0 n0 n1 : Nat} (hb0 : b0 ∈ L) (hT0 : T b0 = zI (K 2) n0) (ha : a ∈ L) (hT : T a = zI (K 2) n1)
    {sp dp : Int32} (h1 : ¬ sp < 0) (h2 : ¬ dp < 0) (h3 : ¬ nI 0 < 0) (h4 : sp.toNatClampNeg + (nI 0).toNatClampNeg ≤ n0) (h5 : dp.toNatClampNeg + (nI 0).toNatClampNeg ≤ n1)
    (hframes : 1 ≤ R.frames) (hlocals : (rest.map fun v => v.category).sum + (nativeFrameWords "java/lang/System" "arraycopy" 5 + 11) ≤ R.locals) (hdg : decode cc pc = .ok (.invokestatic index, 3))
    (kk : ∀ (H1 : Heap) (locs1 : List Loc), zP D cl A X Y L T H1 → va_S A H0 H1 locs1 → W p l e R s m args below meth c H1 locs1 cells slots Q (F0 m (pc + 3) ls rest)) : W p l e R s m args below meth c H locs cells slots Q (F0 m pc ls (.int (nI 0) :: .int dp :: .ref a :: .int sp :: .ref b0 :: rest)) := by
  obtain ⟨ff, k1, hP, hD⟩ := hZ
  obtain ⟨f0, hf0⟩ : zI (K 2) n0 (ff b0) := hT0 ▸ k1 b0 hb0
  obtain ⟨g, hg⟩ : zI (K 2) n1 (ff a) := hT ▸ k1 a ha
  obtain ⟨q0, hq0⟩ := va_pl_get (X := X ++ Y) (f := ff) hb0
  obtain ⟨q1, hq1⟩ := va_pl_get (X := X ++ Y) (f := ff) ha
  have hq1' := hq1
  rw [hf0] at hq0
  rw [hg] at hq1
  refine va_copyi hexec hb hml hown hlink hnat hstat hini hK hP hD hS q0 q1 2 2 (ty := .byte) hq0 hq1 rfl rfl rfl h1 h2 h3 h4 h5 (fun i hi => ?_) hframes hlocals hdg (fun H1 locs1 hP2 hD2 hS1 => kk H1 locs1 ?_ hS1)
  · rw [nI_clamp (by decide)] at hi
    exact absurd hi (Nat.not_lt_zero i)
  · generalize va_cpy f0 g sp.toNatClampNeg dp.toNatClampNeg (nI 0).toNatClampNeg = g2 at hP2 hD2
    rw [va_pl_set hD ha hq1'] at hP2 hD2
    refine ⟨va_up ff a (.inl (K 2, n1, .inl g2)), fun b hb9 => ?_, hP2, hD2⟩
    by_cases e9 : b = a
    · subst e9
      rw [va_up_self, hT]
      exact ⟨_, rfl⟩
    · rw [va_up_ne _ _ e9]
      exact k1 b hb9
end ZCPB

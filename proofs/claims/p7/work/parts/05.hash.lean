section ZHASH
/-- no j from 2 to below d, whose square isn't above p, divides p -/
def zpr (p d : Nat) : Prop := ∀ j, 2 ≤ j → j < d → j * j ≤ p → ¬ p % j = 0
theorem zpr_0 {p : Nat} : 1 ≤ 1 ∧ (1 = 1 ↔ zpr p 2) := ⟨Nat.le_refl _, fun _ j h1 h2 => absurd h2 (by omega), fun _ => rfl⟩
theorem zpr_a {p d v : Nat} (h : v ≤ 1 ∧ (v = 1 ↔ zpr p d)) (e : p % d = 0) (hd : 2 ≤ d) (hs : d * d ≤ p) : 0 ≤ 1 ∧ (0 = 1 ↔ zpr p (d + 1)) :=
  ⟨Nat.zero_le _, fun q => absurd q (by decide), fun q => absurd e (q d hd (Nat.lt_succ_self d) hs)⟩
theorem zpr_b {p d v : Nat} (h : v ≤ 1 ∧ (v = 1 ↔ zpr p d)) (e : ¬ p % d = 0) : v ≤ 1 ∧ (v = 1 ↔ zpr p (d + 1)) := by
  refine ⟨h.1, fun q j h1 h2 h3 => ?_, fun q => h.2.mpr (fun j h1 h2 h3 => q j h1 (by omega) h3)⟩
  by_cases hj : j = d
  · subst hj; exact e
  · exact h.2.mp q j h1 (by omega) h3
theorem zpr_j {j : Nat} (h : j * j ≤ 409) : j ≤ 20 := by
  rcases Nat.lt_or_ge 20 j with q | q
  · have := Nat.mul_le_mul q q
    omega
  · exact q
theorem zpr_w {p d : Nat} (hp : p ≤ 409) (hs : p < d * d) (hd : d ≤ 21) : zpr p d ↔ zpr p 21 := by
  refine ⟨fun q j h1 h2 h3 => q j h1 ?_ h3, fun q j h1 h2 h3 => q j h1 (by omega) h3⟩
  rcases Nat.lt_or_ge j d with w | w
  · exact w
  · have := Nat.mul_le_mul w w
    omega
theorem zpr_x {p d v z a : Nat} (h : v ≤ 1 ∧ (v = 1 ↔ zpr p d)) (hs : p < d * d) (hd : d ≤ 21) (hp : p ≤ 409) (h1 : zpr z 21) (h2 : ∀ y, a < y → y < z → ¬ zpr y 21) (ha : a < p) (hz : p ≤ z) : v ≤ 1 ∧ (v = 1 ↔ p = z) := by
  refine ⟨h.1, fun q => ?_, fun q => h.2.mpr ((zpr_w hp hs hd).mpr (q ▸ h1))⟩
  rcases Nat.lt_or_ge p z with w | w
  · exact absurd ((zpr_w hp hs hd).mp (h.2.mp q)) (h2 p ha w)
  · omega

abbrev ROOM_X17_prime : Room := { frames := 1, cells := 0, slots := 0, locals := 0 }
set_option maxHeartbeats 4000000 in
set_option maxRecDepth 100000 in
/-- prime: the next one -/
theorem c_X17_prime (E : zEn) (l : Launch) (D : va_G) (K : Nat → ClassId) (X Y : va_W) (L : List Nat) (T : Nat → va_E → Prop) {aa : Nat} {z : Nat} (b_aa : aa < 409) (hz : aa < z ∧ z ≤ 409) (hz1 : zpr z 21) (hz2 : ∀ y, aa < y → y < z → ¬ zpr y 21) : zVi E l D vwCl (zT K) yX17_prime (zws yX17_prime cX17_prime 4 (some .int)) ROOM_X17_prime 0 0 [.int (nI aa)] X Y L T (fun r u => r = nI z ∧ zSame Y L T u) := by
  refine z_ofW (E := E) (Qc := fun A => va_Qi (fun r u => r = nI z ∧ zSame Y L T u) (zB D vwCl (zT K) A X) A) (cc := cX17_prime) (maxL := 4) (ret := (some .int)) (by decide +kernel) rfl (Nat.le_of_ble_eq_true rfl) ?_
  intro p e s m below meth c A ls hx hb hml hr hts hown hlocks hin hA hK hZ hS hE hl
  have hown : s.vm.findClass RX17 = some m.cls := hown
  have hts : ∀ w ∈ WR, w.before [.int (nI aa)].toArray s = true := fun w h => hts w (List.mem_cons_of_mem _ h)
  have hl : lv_has ls 4 [(0, .int (nI aa))] := hl
  obtain ⟨H, hH⟩ : ∃ H, H = s.heap := ⟨_, rfl⟩
  have hZ : zP D vwCl A X Y L T H := by rw [hH]; exact hZ
  obtain ⟨locs, hlc⟩ : ∃ q : List Loc, q = [] := ⟨_, rfl⟩
  have hS : va_S A s.heap H locs := by rw [hH, hlc]; exact hS
  suffices hW : W p l e ROOM_X17_prime s m [.int (nI aa)].toArray below meth c H locs 0 0 (MQ below (va_Qi (fun r u => r = nI z ∧ zSame Y L T u) (zB D vwCl (zT K) A X) A) [.int (nI aa)].toArray s 0 0 A) (F0 m 0 ls []) by rw [hH, hlc] at hW; exact hW
  clear hH hlc
  refine lv_iload_n hx hb dX17_prime_0 rfl (lv_at hl 0 rfl) ?_
  refine lv_istore_n (lv' := [(1, .int (nI aa)), (0, .int (nI aa))]) hx hb dX17_prime_1 rfl hl (by decide) rfl (fun ls hl => ?_)
  refine lv_iconst (v := nI 0) hx hb dX17_prime_2 (by decide +kernel) ?_
  refine lv_istore_n (lv' := [(2, .int (nI 0)), (1, .int (nI aa)), (0, .int (nI aa))]) hx hb dX17_prime_3 rfl hl (by decide) rfl (fun ls hl => ?_)
  have L4 : ∀ (n i4 : Nat), i4 ≤ z → z + 1 ≤ i4 + n → ∀ (v2_4 : Nat) (H : Heap) (locs : List Loc) (ls : Array Slot), zP D vwCl A X Y L T H → va_S A s.heap H locs → lv_has ls 4 [(1, .int (nI i4)), (0, .int (nI aa)), (2, .int (nI v2_4))] → v2_4 ≤ 1 ∧ (v2_4 = 1 ↔ i4 = z) ∧ aa ≤ i4 → W p l e ROOM_X17_prime s m [.int (nI aa)].toArray below meth c H locs 0 0 (MQ below (va_Qi (fun r u => r = nI z ∧ zSame Y L T u) (zB D vwCl (zT K) A X) A) [.int (nI aa)].toArray s 0 0 A) (F0 m 4 ls []) := by
    intro n
    induction n with
    | zero => intro i4 u4 w4; exact absurd w4 (by omega)
    | succ n ih4 =>
      intro i4 u4 w4 v2_4 H locs ls hZ hS hl F_4
      refine lv_iload_n hx hb dX17_prime_4 rfl (lv_at hl 2 rfl) ?_
      refine lv_if_ne (tgt := 39) hx hb dX17_prime_5 (by decide) (fun c5 => ?_) (fun c5 => ?_)
      · have e5 : ¬ v2_4 = 0 := fun q => c5 ((nI_eq (a := v2_4) (b := 0) (by omega) (by omega)).mpr q)
        refine lv_iload_n hx hb dX17_prime_39 rfl (lv_at hl 0 rfl) ?_
        exact z_iret hx hb hr rfl hlocks hK hZ hS ⟨by rw [show i4 = z by omega], rfl⟩ (Nat.le_of_ble_eq_true rfl) (Nat.le_of_ble_eq_true rfl) dX17_prime_40
      · have e5 : v2_4 = 0 := (nI_eq (a := v2_4) (b := 0) (by omega) (by omega)).mp c5
        refine lv_iinc (v := nI (i4 + 1)) (lv' := [(1, .int (nI (i4 + 1))), (0, .int (nI aa)), (2, .int (nI v2_4))]) hx hb dX17_prime_8 hl (k := 0) rfl (nI_add i4 1) (by decide) rfl (fun ls hl => ?_)
        refine lv_iconst (v := nI 1) hx hb dX17_prime_11 (by decide +kernel) ?_
        refine lv_istore_n (lv' := [(2, .int (nI 1)), (1, .int (nI (i4 + 1))), (0, .int (nI aa))]) hx hb dX17_prime_12 rfl hl (by decide) rfl (fun ls hl => ?_)
        refine lv_iconst (v := nI 2) hx hb dX17_prime_13 (by decide +kernel) ?_
        refine lv_istore_n (lv' := [(3, .int (nI 2)), (2, .int (nI 1)), (1, .int (nI (i4 + 1))), (0, .int (nI aa))]) hx hb dX17_prime_14 rfl hl (by decide) rfl (fun ls hl => ?_)
        have L15 : ∀ (n i15 : Nat), i15 ≤ 21 → 21 + 1 ≤ i15 + n → ∀ (v2_15 : Nat) (H : Heap) (locs : List Loc) (ls : Array Slot), zP D vwCl A X Y L T H → va_S A s.heap H locs → lv_has ls 4 [(3, .int (nI i15)), (0, .int (nI aa)), (1, .int (nI (i4 + 1))), (2, .int (nI v2_15))] → 2 ≤ i15 → v2_15 ≤ 1 ∧ (v2_15 = 1 ↔ zpr (i4 + 1) i15) → W p l e ROOM_X17_prime s m [.int (nI aa)].toArray below meth c H locs 0 0 (MQ below (va_Qi (fun r u => r = nI z ∧ zSame Y L T u) (zB D vwCl (zT K) A X) A) [.int (nI aa)].toArray s 0 0 A) (F0 m 15 ls []) := by
          intro n
          induction n with
          | zero => intro i15 u15 w15; exact absurd w15 (by omega)
          | succ n ih15 =>
            intro i15 u15 w15 v2_15 H locs ls hZ hS hl lo_15 G_15
            refine lv_iload_n hx hb dX17_prime_15 rfl (lv_at hl 0 rfl) ?_
            refine lv_iload_n hx hb dX17_prime_16 rfl (lv_at hl 0 rfl) ?_
            refine lv_imul hx hb dX17_prime_17 ?_
            refine lv_topi (fun x1 ex1 => ?_)
            obtain rfl : x1 = nI (i15 * i15) := ex1.trans (pk_mul i15 i15)
            refine lv_iload_n hx hb dX17_prime_18 rfl (lv_at hl 2 rfl) ?_
            have q19 : i15 * i15 ≤ 441 := by have := Nat.mul_le_mul u15 u15; omega
            refine lv_icmp_gt (tgt := 36) hx hb dX17_prime_19 (by decide) (fun c19 => ?_) (fun c19 => ?_)
            · have e19 : (i4 + 1) < (i15 * i15) := (nI_ltI (a := (i4 + 1)) (b := (i15 * i15)) (by omega) (by omega)).mp c19
              refine lv_goto (tgt := 4) hx hb dX17_prime_36 (by decide) ?_
              exact ih4 (i4 + 1) (by omega) (by omega) v2_15 _ _ _ hZ hS (lv_sub hl [2, 1, 3] rfl) (by first | omega | (have qx := zpr_x G_15 e19 (by omega) (by omega) hz1 hz2 (by omega) (by omega); omega))
            · have e19 : ¬ (i4 + 1) < (i15 * i15) := fun q => c19 ((nI_ltI (a := (i4 + 1)) (b := (i15 * i15)) (by omega) (by omega)).mpr q)
              have q22 : i15 ≤ 20 := zpr_j (by omega)
              refine lv_iload_n hx hb dX17_prime_22 rfl (lv_at hl 2 rfl) ?_
              refine lv_iload_n hx hb dX17_prime_23 rfl (lv_at hl 0 rfl) ?_
              refine lv_irem hx hb dX17_prime_24 (nI_ne0 (by omega) (by omega)) ?_
              refine lv_topi (fun x2 ex2 => ?_)
              obtain rfl : x2 = nI ((i4 + 1) % i15) := ex2.trans (pk_rem (by omega) (by omega) (by omega))
              have q25 : (i4 + 1) % i15 < i15 := Nat.mod_lt _ (by omega)
              refine lv_if_ne (tgt := 30) hx hb dX17_prime_25 (by decide) (fun c25 => ?_) (fun c25 => ?_)
              · have e25 : ¬ ((i4 + 1) % i15) = 0 := fun q => c25 ((nI_eq (a := ((i4 + 1) % i15)) (b := 0) (by omega) (by omega)).mpr q)
                refine lv_iinc (v := nI (i15 + 1)) (lv' := [(3, .int (nI (i15 + 1))), (0, .int (nI aa)), (1, .int (nI (i4 + 1))), (2, .int (nI v2_15))]) hx hb dX17_prime_30 hl (k := 0) rfl (nI_add i15 1) (by decide) rfl (fun ls hl => ?_)
                refine lv_goto (tgt := 15) hx hb dX17_prime_33 (by decide) ?_
                exact ih15 (i15 + 1) (by omega) (by omega) v2_15 _ _ _ hZ hS (lv_sub hl [0, 1, 2, 3] rfl) (by omega) (by first | exact zpr_0 | exact zpr_a G_15 e25 lo_15 (by omega) | exact zpr_b G_15 e25)
              · have e25 : ((i4 + 1) % i15) = 0 := (nI_eq (a := ((i4 + 1) % i15)) (b := 0) (by omega) (by omega)).mp c25
                refine lv_iconst (v := nI 0) hx hb dX17_prime_28 (by decide +kernel) ?_
                refine lv_istore_n (lv' := [(2, .int (nI 0)), (3, .int (nI i15)), (0, .int (nI aa)), (1, .int (nI (i4 + 1)))]) hx hb dX17_prime_29 rfl hl (by decide) rfl (fun ls hl => ?_)
                refine lv_iinc (v := nI (i15 + 1)) (lv' := [(3, .int (nI (i15 + 1))), (2, .int (nI 0)), (0, .int (nI aa)), (1, .int (nI (i4 + 1)))]) hx hb dX17_prime_30 hl (k := 1) rfl (nI_add i15 1) (by decide) rfl (fun ls hl => ?_)
                refine lv_goto (tgt := 15) hx hb dX17_prime_33 (by decide) ?_
                exact ih15 (i15 + 1) (by omega) (by omega) 0 _ _ _ hZ hS (lv_sub hl [0, 2, 3, 1] rfl) (by omega) (by first | exact zpr_0 | exact zpr_a G_15 e25 lo_15 (by omega) | exact zpr_b G_15 e25)
        exact L15 (21 + 1) 2 (by omega) (by omega) 1 _ _ _ hZ hS (lv_sub hl [0, 3, 2, 1] rfl) (by omega) (by first | exact zpr_0 | exact zpr_a G_15 e25 lo_15 (by omega) | exact zpr_b G_15 e25)
  exact L4 (z + 1) aa (by omega) (by omega) 0 _ _ _ hZ hS (lv_sub hl [1, 2, 0] rfl) (by first | omega | (have qx := zpr_x G_15 e19 (by omega) (by omega) hz1 hz2 (by omega) (by omega); omega))
abbrev ROOM_X17_times : Room := { frames := 1, cells := 0, slots := 0, locals := 0 }
set_option maxHeartbeats 4000000 in
set_option maxRecDepth 100000 in
/-- times of the roots -/
theorem c_X17_times (E : zEn) (l : Launch) (D : va_G) (K : Nat → ClassId) (X Y : va_W) (L : List Nat) (T : Nat → va_E → Prop) {th : Nat} {vs_th : List Value} {left n_left : Nat} {cube n_cube : Nat} {hi : Int64} {lo : Int64}  (h_th : th ∈ L) (k_th : T th = zO 18 vs_th) (f_th_4 : vs_th[4]? = some (.ref left)) (h_left : left ∈ L) (k_left : T left = zJ (K 1) n_left) (b_left : 8 ≤ n_left ∧ n_left < 2147483648) (f_th_5 : vs_th[5]? = some (.ref cube)) (h_cube : cube ∈ L) (k_cube : T cube = zJ (K 1) n_cube) (b_cube : 8 ≤ n_cube ∧ n_cube < 2147483648)  : zV E l D vwCl (zT K) yX17_times (zws yX17_times cX17_times 13 none) ROOM_X17_times 0 0 [.ref th, .long hi, .long lo] X Y L T (zSame Y L T) := by
  refine z_ofW (E := E) (Qc := fun A => va_Qv (zSame Y L T) (zB D vwCl (zT K) A X) A) (cc := cX17_times) (maxL := 13) (ret := none) (by decide +kernel) rfl (Nat.le_of_ble_eq_true rfl) ?_
  intro p e s m below meth c A ls hx hb hml hr hts hown hlocks hin hA hK hZ hS hE hl
  have hown : s.vm.findClass RX17 = some m.cls := hown
  have hts : ∀ w ∈ WR, w.before [.ref th, .long hi, .long lo].toArray s = true := fun w h => hts w (List.mem_cons_of_mem _ h)
  have hl : lv_has ls 13 [(0, .ref th), (1, .long hi), (3, .long lo)] := hl
  obtain ⟨H, hH⟩ : ∃ H, H = s.heap := ⟨_, rfl⟩
  have hZ : zP D vwCl A X Y L T H := by rw [hH]; exact hZ
  obtain ⟨locs, hlc⟩ : ∃ q : List Loc, q = [] := ⟨_, rfl⟩
  have hS : va_S A s.heap H locs := by rw [hH, hlc]; exact hS
  suffices hW : W p l e ROOM_X17_times s m [.ref th, .long hi, .long lo].toArray below meth c H locs 0 0 (MQ below (va_Qv (zSame Y L T) (zB D vwCl (zT K) A X) A) [.ref th, .long hi, .long lo].toArray s 0 0 A) (F0 m 0 ls []) by rw [hH, hlc] at hW; exact hW
  clear hH hlc
  refine lv_iconst (v := nI 0) hx hb dX17_times_0 (by decide +kernel) ?_
  refine lv_istore (lv' := [(5, .int (nI 0)), (0, .ref th), (1, .long hi), (3, .long lo)]) hx hb dX17_times_1 hl (by decide) rfl (fun ls hl => ?_)
  have L3 : ∀ (n i3 : Nat), i3 ≤ 8 → 8 + 1 ≤ i3 + n → ∀  (H : Heap) (locs : List Loc) (ls : Array Slot), zP D vwCl A X Y L T H → va_S A s.heap H locs → lv_has ls 13 [(5, .int (nI i3)), (0, .ref th), (1, .long hi), (3, .long lo)] → W p l e ROOM_X17_times s m [.ref th, .long hi, .long lo].toArray below meth c H locs 0 0 (MQ below (va_Qv (zSame Y L T) (zB D vwCl (zT K) A X) A) [.ref th, .long hi, .long lo].toArray s 0 0 A) (F0 m 3 ls []) := by
    intro n
    induction n with
    | zero => intro i3 u3 w3; exact absurd w3 (by omega)
    | succ n ih3 =>
      intro i3 u3 w3  H locs ls hZ hS hl 
      refine lv_iload hx hb dX17_times_3 (lv_at hl 0 rfl) ?_
      refine lv_bipush (v := nI 8) hx hb dX17_times_5 (by decide +kernel) ?_
      refine lv_icmp_ge (tgt := 24) hx hb dX17_times_7 (by decide) (fun c7 => ?_) (fun c7 => ?_)
      · have e7 : 8 ≤ i3 := (nI_leI (a := 8) (b := i3) (by omega) (by omega)).mp c7
        refine lv_iconst (v := nI 0) hx hb dX17_times_24 (by decide +kernel) ?_
        refine lv_istore (lv' := [(5, .int (nI 0)), (0, .ref th), (1, .long hi), (3, .long lo)]) hx hb dX17_times_25 hl (by decide) rfl (fun ls hl => ?_)
        have L27 : ∀ (n i27 : Nat), i27 ≤ 3 → 3 + 1 ≤ i27 + n → ∀  (H : Heap) (locs : List Loc) (ls : Array Slot), zP D vwCl A X Y L T H → va_S A s.heap H locs → lv_has ls 13 [(5, .int (nI i27)), (0, .ref th), (1, .long hi), (3, .long lo)] → W p l e ROOM_X17_times s m [.ref th, .long hi, .long lo].toArray below meth c H locs 0 0 (MQ below (va_Qv (zSame Y L T) (zB D vwCl (zT K) A X) A) [.ref th, .long hi, .long lo].toArray s 0 0 A) (F0 m 27 ls []) := by
          intro n
          induction n with
          | zero => intro i27 u27 w27; exact absurd w27 (by omega)
          | succ n ih27 =>
            intro i27 u27 w27  H locs ls hZ hS hl 
            refine lv_iload hx hb dX17_times_27 (lv_at hl 0 rfl) ?_
            refine lv_iconst (v := nI 3) hx hb dX17_times_29 (by decide +kernel) ?_
            refine lv_icmp_ge (tgt := 139) hx hb dX17_times_30 (by decide) (fun c30 => ?_) (fun c30 => ?_)
            · have e30 : 3 ≤ i27 := (nI_leI (a := 3) (b := i27) (by omega) (by omega)).mp c30
              refine lv_iconst (v := nI 0) hx hb dX17_times_139 (by decide +kernel) ?_
              refine lv_istore (lv' := [(5, .int (nI 0)), (0, .ref th), (1, .long hi), (3, .long lo)]) hx hb dX17_times_140 hl (by decide) rfl (fun ls hl => ?_)
              have L142 : ∀ (n i142 : Nat), i142 ≤ 8 → 8 + 1 ≤ i142 + n → ∀  (H : Heap) (locs : List Loc) (ls : Array Slot), zP D vwCl A X Y L T H → va_S A s.heap H locs → lv_has ls 13 [(5, .int (nI i142)), (0, .ref th)] → W p l e ROOM_X17_times s m [.ref th, .long hi, .long lo].toArray below meth c H locs 0 0 (MQ below (va_Qv (zSame Y L T) (zB D vwCl (zT K) A X) A) [.ref th, .long hi, .long lo].toArray s 0 0 A) (F0 m 142 ls []) := by
                intro n
                induction n with
                | zero => intro i142 u142 w142; exact absurd w142 (by omega)
                | succ n ih142 =>
                  intro i142 u142 w142  H locs ls hZ hS hl 
                  refine lv_iload hx hb dX17_times_142 (lv_at hl 0 rfl) ?_
                  refine lv_bipush (v := nI 8) hx hb dX17_times_144 (by decide +kernel) ?_
                  refine lv_icmp_ge (tgt := 169) hx hb dX17_times_146 (by decide) (fun c146 => ?_) (fun c146 => ?_)
                  · have e146 : 8 ≤ i142 := (nI_leI (a := 8) (b := i142) (by omega) (by omega)).mp c146
                    exact z_vret hx hb hr hlocks hK hZ hS rfl (Nat.le_of_ble_eq_true rfl) (Nat.le_of_ble_eq_true rfl) dX17_times_169
                  · have e146 : ¬ 8 ≤ i142 := fun q => c146 ((nI_leI (a := 8) (b := i142) (by omega) (by omega)).mpr q)
                    refine lv_aload_n hx hb dX17_times_149 rfl (lv_at hl 1 rfl) ?_
                    refine z_getP (own := RX17) (C := RX17) (TT := TX17) (N := 14) (ci := 18) (Ts := WR) hx hb hts zin_wsX170 hown hK hZ h_th k_th rfl 4 (by decide) (hts _ zw_171) (fun _ h9 => h9) f_th_4 dX17_times_150 ?_
                    refine lv_iload hx hb dX17_times_153 (lv_at hl 0 rfl) ?_
                    refine lv_aload_n hx hb dX17_times_155 rfl (lv_at hl 1 rfl) ?_
                    refine z_getP (own := RX17) (C := RX17) (TT := TX17) (N := 14) (ci := 18) (Ts := WR) hx hb hts zin_wsX170 hown hK hZ h_th k_th rfl 5 (by decide) (hts _ zw_172) (fun _ h9 => h9) f_th_5 dX17_times_156 ?_
                    refine lv_iload hx hb dX17_times_159 (lv_at hl 0 rfl) ?_
                    refine z_lald hx hb hK hZ 1 h_cube k_cube rfl (vp_in_nI (by omega) (by omega)) dX17_times_161 (fun x1 => ?_)
                    refine z_last hx hb hK hZ hS 1 h_left k_left rfl (vp_in_nI (by omega) (by omega)) dX17_times_162 (fun H locs hZ hS => ?_)
                    refine lv_iinc (v := nI (i142 + 1)) (lv' := [(5, .int (nI (i142 + 1))), (0, .ref th)]) hx hb dX17_times_163 hl (k := 0) rfl (nI_add i142 1) (by decide) rfl (fun ls hl => ?_)
                    refine lv_goto (tgt := 142) hx hb dX17_times_166 (by decide) ?_
                    exact ih142 (i142 + 1) (by omega) (by omega)  _ _ _ hZ hS (lv_sub hl [0, 1] rfl) 
              exact L142 (8 + 1) 0 (by omega) (by omega)  _ _ _ hZ hS (lv_sub hl [0, 1] rfl) 
            · have e30 : ¬ 3 ≤ i27 := fun q => c30 ((nI_leI (a := 3) (b := i27) (by omega) (by omega)).mpr q)
              have J60 : ∀ (t0_60 : Int64) (H : Heap) (locs : List Loc) (ls : Array Slot), zP D vwCl A X Y L T H → va_S A s.heap H locs → lv_has ls 13 [(0, .ref th), (1, .long hi), (3, .long lo), (5, .int (nI i27))] → W p l e ROOM_X17_times s m [.ref th, .long hi, .long lo].toArray below meth c H locs 0 0 (MQ below (va_Qv (zSame Y L T) (zB D vwCl (zT K) A X) A) [.ref th, .long hi, .long lo].toArray s 0 0 A) (F0 m 60 ls [.long t0_60]) := by
                intro t0_60 H locs ls hZ hS hl 
                refine lv_lstore (lv' := [(6, .long t0_60), (0, .ref th), (1, .long hi), (3, .long lo), (5, .int (nI i27))]) hx hb dX17_times_60 hl (by decide) rfl (fun ls hl => ?_)
                refine lv_lconst (v := 0) hx hb dX17_times_62 (by decide +kernel) ?_
                refine lv_lstore (lv' := [(8, .long 0), (6, .long t0_60), (0, .ref th), (1, .long hi), (3, .long lo), (5, .int (nI i27))]) hx hb dX17_times_63 hl (by decide) rfl (fun ls hl => ?_)
                refine lv_iconst (v := nI 0) hx hb dX17_times_65 (by decide +kernel) ?_
                refine lv_istore (lv' := [(10, .int (nI 0)), (8, .long 0), (6, .long t0_60), (0, .ref th), (1, .long hi), (3, .long lo), (5, .int (nI i27))]) hx hb dX17_times_66 hl (by decide) rfl (fun ls hl => ?_)
                have L68 : ∀ (n i68 : Nat), i68 ≤ 8 → 8 + 1 ≤ i68 + n → ∀ (v8_68 : Int64) (H : Heap) (locs : List Loc) (ls : Array Slot), zP D vwCl A X Y L T H → va_S A s.heap H locs → lv_has ls 13 [(10, .int (nI i68)), (0, .ref th), (1, .long hi), (3, .long lo), (5, .int (nI i27)), (6, .long t0_60), (8, .long v8_68)] → W p l e ROOM_X17_times s m [.ref th, .long hi, .long lo].toArray below meth c H locs 0 0 (MQ below (va_Qv (zSame Y L T) (zB D vwCl (zT K) A X) A) [.ref th, .long hi, .long lo].toArray s 0 0 A) (F0 m 68 ls []) := by
                  intro n
                  induction n with
                  | zero => intro i68 u68 w68; exact absurd w68 (by omega)
                  | succ n ih68 =>
                    intro i68 u68 w68 v8_68 H locs ls hZ hS hl 
                    refine lv_iload hx hb dX17_times_68 (lv_at hl 4 rfl) ?_
                    refine lv_iload hx hb dX17_times_70 (lv_at hl 0 rfl) ?_
                    refine lv_iadd hx hb dX17_times_72 ?_
                    refine lv_topi (fun x2 ex2 => ?_)
                    obtain rfl : x2 = nI (i27 + i68) := ex2.trans (nI_add i27 i68)
                    refine lv_bipush (v := nI 8) hx hb dX17_times_73 (by decide +kernel) ?_
                    refine lv_icmp_ge (tgt := 133) hx hb dX17_times_75 (by decide) (fun c75 => ?_) (fun c75 => ?_)
                    · have e75 : 8 ≤ (i27 + i68) := (nI_leI (a := 8) (b := (i27 + i68)) (by omega) (by omega)).mp c75
                      refine lv_iinc (v := nI (i27 + 1)) (lv' := [(5, .int (nI (i27 + 1))), (10, .int (nI i68)), (0, .ref th), (1, .long hi), (3, .long lo), (6, .long t0_60), (8, .long v8_68)]) hx hb dX17_times_133 hl (k := 4) rfl (nI_add i27 1) (by decide) rfl (fun ls hl => ?_)
                      refine lv_goto (tgt := 27) hx hb dX17_times_136 (by decide) ?_
                      exact ih27 (i27 + 1) (by omega) (by omega)  _ _ _ hZ hS (lv_sub hl [0, 2, 3, 4] rfl) 
                    · have e75 : ¬ 8 ≤ (i27 + i68) := fun q => c75 ((nI_leI (a := 8) (b := (i27 + i68)) (by omega) (by omega)).mpr q)
                      refine lv_aload_n hx hb dX17_times_78 rfl (lv_at hl 1 rfl) ?_
                      refine z_getP (own := RX17) (C := RX17) (TT := TX17) (N := 14) (ci := 18) (Ts := WR) hx hb hts zin_wsX170 hown hK hZ h_th k_th rfl 5 (by decide) (hts _ zw_172) (fun _ h9 => h9) f_th_5 dX17_times_79 ?_
                      refine lv_iload hx hb dX17_times_82 (lv_at hl 4 rfl) ?_
                      refine lv_iload hx hb dX17_times_84 (lv_at hl 0 rfl) ?_
                      refine lv_iadd hx hb dX17_times_86 ?_
                      refine lv_topi (fun x3 ex3 => ?_)
                      obtain rfl : x3 = nI (i27 + i68) := ex3.trans (nI_add i27 i68)
                      refine z_lald hx hb hK hZ 1 h_cube k_cube rfl (vp_in_nI (by omega) (by omega)) dX17_times_87 (fun x4 => ?_)
                      refine lv_lload hx hb dX17_times_88 (lv_at hl 5 rfl) ?_
                      refine lv_aload_n hx hb dX17_times_90 rfl (lv_at hl 1 rfl) ?_
                      refine z_getP (own := RX17) (C := RX17) (TT := TX17) (N := 14) (ci := 18) (Ts := WR) hx hb hts zin_wsX170 hown hK hZ h_th k_th rfl 4 (by decide) (hts _ zw_171) (fun _ h9 => h9) f_th_4 dX17_times_91 ?_
                      refine lv_iload hx hb dX17_times_94 (lv_at hl 0 rfl) ?_
                      refine z_lald hx hb hK hZ 1 h_left k_left rfl (vp_in_nI (by omega) (by omega)) dX17_times_96 (fun x5 => ?_)
                      refine lv_lmul hx hb dX17_times_97 ?_
                      refine lv_topl (fun x6 _ => ?_)
                      refine lv_ladd hx hb dX17_times_98 ?_
                      refine lv_topl (fun x7 _ => ?_)
                      refine lv_lload hx hb dX17_times_99 (lv_at hl 6 rfl) ?_
                      refine lv_ladd hx hb dX17_times_101 ?_
                      refine lv_topl (fun x8 _ => ?_)
                      refine lv_lstore (lv' := [(11, .long x8), (10, .int (nI i68)), (0, .ref th), (1, .long hi), (3, .long lo), (5, .int (nI i27)), (6, .long t0_60), (8, .long v8_68)]) hx hb dX17_times_102 hl (by decide) rfl (fun ls hl => ?_)
                      refine lv_aload_n hx hb dX17_times_104 rfl (lv_at hl 2 rfl) ?_
                      refine z_getP (own := RX17) (C := RX17) (TT := TX17) (N := 14) (ci := 18) (Ts := WR) hx hb hts zin_wsX170 hown hK hZ h_th k_th rfl 5 (by decide) (hts _ zw_172) (fun _ h9 => h9) f_th_5 dX17_times_105 ?_
                      refine lv_iload hx hb dX17_times_108 (lv_at hl 5 rfl) ?_
                      refine lv_iload hx hb dX17_times_110 (lv_at hl 1 rfl) ?_
                      refine lv_iadd hx hb dX17_times_112 ?_
                      refine lv_topi (fun x9 ex9 => ?_)
                      obtain rfl : x9 = nI (i27 + i68) := ex9.trans (nI_add i27 i68)
                      refine lv_lload hx hb dX17_times_113 (lv_at hl 0 rfl) ?_
                      refine lv_ldc2 (v := (4294967295)) hx hb hown (hts _ zw_191) dX17_times_115 ?_
                      refine lv_land hx hb dX17_times_118 ?_
                      refine lv_topl (fun x10 _ => ?_)
                      refine z_last hx hb hK hZ hS 1 h_cube k_cube rfl (vp_in_nI (by omega) (by omega)) dX17_times_119 (fun H locs hZ hS => ?_)
                      refine lv_lload hx hb dX17_times_120 (lv_at hl 0 rfl) ?_
                      refine lv_bipush (v := nI 32) hx hb dX17_times_122 (by decide +kernel) ?_
                      refine lv_lushr hx hb dX17_times_124 rfl ?_
                      refine lv_topl (fun x11 _ => ?_)
                      refine lv_lstore (lv' := [(8, .long x11), (11, .long x8), (10, .int (nI i68)), (0, .ref th), (1, .long hi), (3, .long lo), (5, .int (nI i27)), (6, .long t0_60)]) hx hb dX17_times_125 hl (by decide) rfl (fun ls hl => ?_)
                      refine lv_iinc (v := nI (i68 + 1)) (lv' := [(10, .int (nI (i68 + 1))), (8, .long x11), (11, .long x8), (0, .ref th), (1, .long hi), (3, .long lo), (5, .int (nI i27)), (6, .long t0_60)]) hx hb dX17_times_127 hl (k := 2) rfl (nI_add i68 1) (by decide) rfl (fun ls hl => ?_)
                      refine lv_goto (tgt := 68) hx hb dX17_times_130 (by decide) ?_
                      exact ih68 (i68 + 1) (by omega) (by omega) x11 _ _ _ hZ hS (lv_sub hl [0, 3, 4, 5, 6, 7, 1] rfl) 
                exact L68 (8 + 1) 0 (by omega) (by omega) 0 _ _ _ hZ hS (lv_sub hl [0, 3, 4, 5, 6, 2, 1] rfl) 
              refine lv_iload hx hb dX17_times_33 (lv_at hl 0 rfl) ?_
              refine lv_if_ne (tgt := 46) hx hb dX17_times_35 (by decide) (fun c35 => ?_) (fun c35 => ?_)
              · have e35 : ¬ i27 = 0 := fun q => c35 ((nI_eq (a := i27) (b := 0) (by omega) (by omega)).mpr q)
                refine lv_iload hx hb dX17_times_46 (lv_at hl 0 rfl) ?_
                refine lv_iconst (v := nI 1) hx hb dX17_times_48 (by decide +kernel) ?_
                refine lv_icmp_ne (tgt := 59) hx hb dX17_times_49 (by decide) (fun c49 => ?_) (fun c49 => ?_)
                · have e49 : ¬ i27 = 1 := fun q => c49 ((nI_eq (a := i27) (b := 1) (by omega) (by omega)).mpr q)
                  refine lv_lload_n hx hb dX17_times_59 rfl (lv_at hl 2 rfl) ?_
                  exact J60  hi _ _ _ hZ hS (lv_sub hl [1, 2, 3, 0] rfl) 
                · have e49 : i27 = 1 := (nI_eq (a := i27) (b := 1) (by omega) (by omega)).mp c49
                  refine lv_lload_n hx hb dX17_times_52 rfl (lv_at hl 3 rfl) ?_
                  refine lv_bipush (v := nI 32) hx hb dX17_times_53 (by decide +kernel) ?_
                  refine lv_lushr hx hb dX17_times_55 rfl ?_
                  refine lv_topl (fun x12 _ => ?_)
                  refine lv_goto (tgt := 60) hx hb dX17_times_56 (by decide) ?_
                  exact J60  x12 _ _ _ hZ hS (lv_sub hl [1, 2, 3, 0] rfl) 
              · have e35 : i27 = 0 := (nI_eq (a := i27) (b := 0) (by omega) (by omega)).mp c35
                refine lv_lload_n hx hb dX17_times_38 rfl (lv_at hl 3 rfl) ?_
                refine lv_ldc2 (v := (4294967295)) hx hb hown (hts _ zw_191) dX17_times_39 ?_
                refine lv_land hx hb dX17_times_42 ?_
                refine lv_topl (fun x13 _ => ?_)
                refine lv_goto (tgt := 60) hx hb dX17_times_43 (by decide) ?_
                exact J60  x13 _ _ _ hZ hS (lv_sub hl [1, 2, 3, 0] rfl) 
        exact L27 (3 + 1) 0 (by omega) (by omega)  _ _ _ hZ hS (lv_sub hl [0, 1, 2, 3] rfl) 
      · have e7 : ¬ 8 ≤ i3 := fun q => c7 ((nI_leI (a := 8) (b := i3) (by omega) (by omega)).mpr q)
        refine lv_aload_n hx hb dX17_times_10 rfl (lv_at hl 1 rfl) ?_
        refine z_getP (own := RX17) (C := RX17) (TT := TX17) (N := 14) (ci := 18) (Ts := WR) hx hb hts zin_wsX170 hown hK hZ h_th k_th rfl 5 (by decide) (hts _ zw_172) (fun _ h9 => h9) f_th_5 dX17_times_11 ?_
        refine lv_iload hx hb dX17_times_14 (lv_at hl 0 rfl) ?_
        refine lv_lconst (v := 0) hx hb dX17_times_16 (by decide +kernel) ?_
        refine z_last hx hb hK hZ hS 1 h_cube k_cube rfl (vp_in_nI (by omega) (by omega)) dX17_times_17 (fun H locs hZ hS => ?_)
        refine lv_iinc (v := nI (i3 + 1)) (lv' := [(5, .int (nI (i3 + 1))), (0, .ref th), (1, .long hi), (3, .long lo)]) hx hb dX17_times_18 hl (k := 0) rfl (nI_add i3 1) (by decide) rfl (fun ls hl => ?_)
        refine lv_goto (tgt := 3) hx hb dX17_times_21 (by decide) ?_
        exact ih3 (i3 + 1) (by omega) (by omega)  _ _ _ hZ hS (lv_sub hl [0, 1, 2, 3] rfl) 
  exact L3 (8 + 1) 0 (by omega) (by omega)  _ _ _ hZ hS (lv_sub hl [0, 1, 2, 3] rfl) 
abbrev ROOM_X17_fits : Room := { frames := 2, cells := 0, slots := 0, locals := 32 }
set_option maxHeartbeats 4000000 in
set_option maxRecDepth 100000 in
/-- fits -/
theorem c_X17_fits (E : zEn) (l : Launch) (D : va_G) (K : Nat → ClassId) (X Y : va_W) (L : List Nat) (T : Nat → va_E → Prop) {th : Nat} {vs_th : List Value} {left n_left : Nat} {cube n_cube : Nat} {hi : Int64} {lo : Int64} {pn : Int32} {pw : Nat}  (h_th : th ∈ L) (k_th : T th = zO 18 vs_th) (f_th_4 : vs_th[4]? = some (.ref left)) (h_left : left ∈ L) (k_left : T left = zJ (K 1) n_left) (b_left : 8 ≤ n_left ∧ n_left < 2147483648) (f_th_5 : vs_th[5]? = some (.ref cube)) (h_cube : cube ∈ L) (k_cube : T cube = zJ (K 1) n_cube) (b_cube : 8 ≤ n_cube ∧ n_cube < 2147483648) (b_pw : 1 ≤ pw ∧ pw ≤ 3)  : zVi E l D vwCl (zT K) yX17_fits (zws yX17_fits cX17_fits 10 (some .boolean)) ROOM_X17_fits 0 0 [.ref th, .long hi, .long lo, .int pn, .int (nI pw)] X Y L T (fun _ => zSame Y L T) := by
  refine z_ofW (E := E) (Qc := fun A => va_Qi (fun _ => zSame Y L T) (zB D vwCl (zT K) A X) A) (cc := cX17_fits) (maxL := 10) (ret := (some .boolean)) (by decide +kernel) rfl (Nat.le_of_ble_eq_true rfl) ?_
  intro p e s m below meth c A ls hx hb hml hr hts hown hlocks hin hA hK hZ hS hE hl
  have hown : s.vm.findClass RX17 = some m.cls := hown
  have hts : ∀ w ∈ WR, w.before [.ref th, .long hi, .long lo, .int pn, .int (nI pw)].toArray s = true := fun w h => hts w (List.mem_cons_of_mem _ h)
  have hl : lv_has ls 10 [(0, .ref th), (1, .long hi), (3, .long lo), (5, .int pn), (6, .int (nI pw))] := hl
  obtain ⟨H, hH⟩ : ∃ H, H = s.heap := ⟨_, rfl⟩
  have hZ : zP D vwCl A X Y L T H := by rw [hH]; exact hZ
  obtain ⟨locs, hlc⟩ : ∃ q : List Loc, q = [] := ⟨_, rfl⟩
  have hS : va_S A s.heap H locs := by rw [hH, hlc]; exact hS
  suffices hW : W p l e ROOM_X17_fits s m [.ref th, .long hi, .long lo, .int pn, .int (nI pw)].toArray below meth c H locs 0 0 (MQ below (va_Qi (fun _ => zSame Y L T) (zB D vwCl (zT K) A X) A) [.ref th, .long hi, .long lo, .int pn, .int (nI pw)].toArray s 0 0 A) (F0 m 0 ls []) by rw [hH, hlc] at hW; exact hW
  clear hH hlc
  refine lv_iconst (v := nI 0) hx hb dX17_fits_0 (by decide +kernel) ?_
  refine lv_istore (lv' := [(7, .int (nI 0)), (0, .ref th), (1, .long hi), (3, .long lo), (5, .int pn), (6, .int (nI pw))]) hx hb dX17_fits_1 hl (by decide) rfl (fun ls hl => ?_)
  have L3 : ∀ (n i3 : Nat), i3 ≤ 8 → 8 + 1 ≤ i3 + n → ∀  (H : Heap) (locs : List Loc) (ls : Array Slot), zP D vwCl A X Y L T H → va_S A s.heap H locs → lv_has ls 10 [(7, .int (nI i3)), (0, .ref th), (1, .long hi), (3, .long lo), (5, .int pn), (6, .int (nI pw))] → W p l e ROOM_X17_fits s m [.ref th, .long hi, .long lo, .int pn, .int (nI pw)].toArray below meth c H locs 0 0 (MQ below (va_Qi (fun _ => zSame Y L T) (zB D vwCl (zT K) A X) A) [.ref th, .long hi, .long lo, .int pn, .int (nI pw)].toArray s 0 0 A) (F0 m 3 ls []) := by
    intro n
    induction n with
    | zero => intro i3 u3 w3; exact absurd w3 (by omega)
    | succ n ih3 =>
      intro i3 u3 w3  H locs ls hZ hS hl 
      refine lv_iload hx hb dX17_fits_3 (lv_at hl 0 rfl) ?_
      refine lv_bipush (v := nI 8) hx hb dX17_fits_5 (by decide +kernel) ?_
      refine lv_icmp_ge (tgt := 33) hx hb dX17_fits_7 (by decide) (fun c7 => ?_) (fun c7 => ?_)
      · have e7 : 8 ≤ i3 := (nI_leI (a := 8) (b := i3) (by omega) (by omega)).mp c7
        refine lv_iconst (v := nI 0) hx hb dX17_fits_33 (by decide +kernel) ?_
        refine lv_istore (lv' := [(7, .int (nI 0)), (0, .ref th), (1, .long hi), (3, .long lo), (5, .int pn), (6, .int (nI pw))]) hx hb dX17_fits_34 hl (by decide) rfl (fun ls hl => ?_)
        have L36 : ∀ (n i36 : Nat), i36 ≤ pw → pw + 1 ≤ i36 + n → ∀  (H : Heap) (locs : List Loc) (ls : Array Slot), zP D vwCl A X Y L T H → va_S A s.heap H locs → lv_has ls 10 [(7, .int (nI i36)), (0, .ref th), (1, .long hi), (3, .long lo), (5, .int pn), (6, .int (nI pw))] → W p l e ROOM_X17_fits s m [.ref th, .long hi, .long lo, .int pn, .int (nI pw)].toArray below meth c H locs 0 0 (MQ below (va_Qi (fun _ => zSame Y L T) (zB D vwCl (zT K) A X) A) [.ref th, .long hi, .long lo, .int pn, .int (nI pw)].toArray s 0 0 A) (F0 m 36 ls []) := by
          intro n
          induction n with
          | zero => intro i36 u36 w36; exact absurd w36 (by omega)
          | succ n ih36 =>
            intro i36 u36 w36  H locs ls hZ hS hl 
            refine lv_iload hx hb dX17_fits_36 (lv_at hl 0 rfl) ?_
            refine lv_iload hx hb dX17_fits_38 (lv_at hl 5 rfl) ?_
            refine lv_icmp_ge (tgt := 55) hx hb dX17_fits_40 (by decide) (fun c40 => ?_) (fun c40 => ?_)
            · have e40 : pw ≤ i36 := (nI_leI (a := pw) (b := i36) (by omega) (by omega)).mp c40
              refine lv_lconst (v := 0) hx hb dX17_fits_55 (by decide +kernel) ?_
              refine lv_lstore (lv' := [(7, .long 0), (0, .ref th), (1, .long hi), (3, .long lo), (5, .int pn), (6, .int (nI pw))]) hx hb dX17_fits_56 hl (by decide) rfl (fun ls hl => ?_)
              refine lv_bipush (v := nI 7) hx hb dX17_fits_58 (by decide +kernel) ?_
              refine lv_istore (lv' := [(9, .int (nI 7)), (7, .long 0), (0, .ref th), (1, .long hi), (3, .long lo), (5, .int pn), (6, .int (nI pw))]) hx hb dX17_fits_60 hl (by decide) rfl (fun ls hl => ?_)
              have L62 : ∀ (n i62 : Nat), (2 * pw) ≤ i62 + 1 ∧ i62 ≤ 7 → i62 + 2 ≤ (2 * pw) + n → ∀ (v7_62 : Int64) (H : Heap) (locs : List Loc) (ls : Array Slot), zP D vwCl A X Y L T H → va_S A s.heap H locs → lv_has ls 10 [(9, .int (nI i62)), (0, .ref th), (5, .int pn), (6, .int (nI pw)), (7, .long v7_62)] → W p l e ROOM_X17_fits s m [.ref th, .long hi, .long lo, .int pn, .int (nI pw)].toArray below meth c H locs 0 0 (MQ below (va_Qi (fun _ => zSame Y L T) (zB D vwCl (zT K) A X) A) [.ref th, .long hi, .long lo, .int pn, .int (nI pw)].toArray s 0 0 A) (F0 m 62 ls []) := by
                intro n
                induction n with
                | zero => intro i62 u62 w62; exact absurd w62 (by omega)
                | succ n ih62 =>
                  intro i62 u62 w62 v7_62 H locs ls hZ hS hl 
                  refine lv_iload hx hb dX17_fits_62 (lv_at hl 0 rfl) ?_
                  refine lv_iconst (v := nI 2) hx hb dX17_fits_64 (by decide +kernel) ?_
                  refine lv_iload hx hb dX17_fits_65 (lv_at hl 3 rfl) ?_
                  refine lv_imul hx hb dX17_fits_67 ?_
                  refine lv_topi (fun x1 ex1 => ?_)
                  obtain rfl : x1 = nI (2 * pw) := ex1.trans (pk_mul 2 pw)
                  refine lv_icmp_lt (tgt := 92) hx hb dX17_fits_68 (by decide) (fun c68 => ?_) (fun c68 => ?_)
                  · have e68 : i62 < (2 * pw) := (nI_ltI (a := i62) (b := (2 * pw)) (by omega) (by omega)).mp c68
                    refine lv_lload hx hb dX17_fits_92 (lv_at hl 4 rfl) ?_
                    refine lv_iload hx hb dX17_fits_94 (lv_at hl 2 rfl) ?_
                    refine lv_i2l hx hb dX17_fits_96 rfl ?_
                    refine lv_topl (fun x2 _ => ?_)
                    refine W.lcmp hx hb dX17_fits_97 ?_
                    refine lv_topi (fun x3 ex3 => ?_)
                    refine lv_if_eq (tgt := 116) hx hb dX17_fits_98 (by decide) (fun c98 => ?_) (fun c98 => ?_)
                    · refine lv_iconst (v := nI 0) hx hb dX17_fits_116 (by decide +kernel) ?_
                      refine lv_istore (lv' := [(9, .int (nI 0)), (0, .ref th), (5, .int pn), (6, .int (nI pw)), (7, .long v7_62)]) hx hb dX17_fits_117 hl (by decide) rfl (fun ls hl => ?_)
                      have L119 : ∀ (n i119 : Nat), i119 ≤ (2 * pw) → (2 * pw) + 1 ≤ i119 + n → ∀  (H : Heap) (locs : List Loc) (ls : Array Slot), zP D vwCl A X Y L T H → va_S A s.heap H locs → lv_has ls 10 [(9, .int (nI i119)), (0, .ref th), (6, .int (nI pw))] → W p l e ROOM_X17_fits s m [.ref th, .long hi, .long lo, .int pn, .int (nI pw)].toArray below meth c H locs 0 0 (MQ below (va_Qi (fun _ => zSame Y L T) (zB D vwCl (zT K) A X) A) [.ref th, .long hi, .long lo, .int pn, .int (nI pw)].toArray s 0 0 A) (F0 m 119 ls []) := by
                        intro n
                        induction n with
                        | zero => intro i119 u119 w119; exact absurd w119 (by omega)
                        | succ n ih119 =>
                          intro i119 u119 w119  H locs ls hZ hS hl 
                          refine lv_iload hx hb dX17_fits_119 (lv_at hl 0 rfl) ?_
                          refine lv_iconst (v := nI 2) hx hb dX17_fits_121 (by decide +kernel) ?_
                          refine lv_iload hx hb dX17_fits_122 (lv_at hl 2 rfl) ?_
                          refine lv_imul hx hb dX17_fits_124 ?_
                          refine lv_topi (fun x4 ex4 => ?_)
                          obtain rfl : x4 = nI (2 * pw) := ex4.trans (pk_mul 2 pw)
                          refine lv_icmp_ge (tgt := 148) hx hb dX17_fits_125 (by decide) (fun c125 => ?_) (fun c125 => ?_)
                          · have e125 : (2 * pw) ≤ i119 := (nI_leI (a := (2 * pw)) (b := i119) (by omega) (by omega)).mp c125
                            refine lv_iconst (v := nI 1) hx hb dX17_fits_148 (by decide +kernel) ?_
                            exact z_iret hx hb hr rfl hlocks hK hZ hS rfl (Nat.le_of_ble_eq_true rfl) (Nat.le_of_ble_eq_true rfl) dX17_fits_149
                          · have e125 : ¬ (2 * pw) ≤ i119 := fun q => c125 ((nI_leI (a := (2 * pw)) (b := i119) (by omega) (by omega)).mpr q)
                            refine lv_aload_n hx hb dX17_fits_128 rfl (lv_at hl 1 rfl) ?_
                            refine z_getP (own := RX17) (C := RX17) (TT := TX17) (N := 14) (ci := 18) (Ts := WR) hx hb hts zin_wsX170 hown hK hZ h_th k_th rfl 4 (by decide) (hts _ zw_171) (fun _ h9 => h9) f_th_4 dX17_fits_129 ?_
                            refine lv_iload hx hb dX17_fits_132 (lv_at hl 0 rfl) ?_
                            refine z_lald hx hb hK hZ 1 h_left k_left rfl (vp_in_nI (by omega) (by omega)) dX17_fits_134 (fun x5 => ?_)
                            refine lv_lconst (v := 0) hx hb dX17_fits_135 (by decide +kernel) ?_
                            refine W.lcmp hx hb dX17_fits_136 ?_
                            refine lv_topi (fun x6 ex6 => ?_)
                            refine lv_if_eq (tgt := 142) hx hb dX17_fits_137 (by decide) (fun c137 => ?_) (fun c137 => ?_)
                            · refine lv_iinc (v := nI (i119 + 1)) (lv' := [(9, .int (nI (i119 + 1))), (0, .ref th), (6, .int (nI pw))]) hx hb dX17_fits_142 hl (k := 0) rfl (nI_add i119 1) (by decide) rfl (fun ls hl => ?_)
                              refine lv_goto (tgt := 119) hx hb dX17_fits_145 (by decide) ?_
                              exact ih119 (i119 + 1) (by omega) (by omega)  _ _ _ hZ hS (lv_sub hl [0, 1, 2] rfl) 
                            · refine lv_iconst (v := nI 0) hx hb dX17_fits_140 (by decide +kernel) ?_
                              exact z_iret hx hb hr rfl hlocks hK hZ hS rfl (Nat.le_of_ble_eq_true rfl) (Nat.le_of_ble_eq_true rfl) dX17_fits_141
                      exact L119 ((2 * pw) + 1) 0 (by omega) (by omega)  _ _ _ hZ hS (lv_sub hl [0, 1, 3] rfl) 
                    · refine lv_lload hx hb dX17_fits_101 (lv_at hl 4 rfl) ?_
                      refine lv_iload hx hb dX17_fits_103 (lv_at hl 2 rfl) ?_
                      refine lv_i2l hx hb dX17_fits_105 rfl ?_
                      refine lv_topl (fun x7 _ => ?_)
                      refine W.lcmp hx hb dX17_fits_106 ?_
                      refine lv_topi (fun x8 ex8 => ?_)
                      refine lv_if_ge (tgt := 114) hx hb dX17_fits_107 (by decide) (fun c107 => ?_) (fun c107 => ?_)
                      · refine lv_iconst (v := nI 0) hx hb dX17_fits_114 (by decide +kernel) ?_
                        exact z_iret hx hb hr rfl hlocks hK hZ hS rfl (Nat.le_of_ble_eq_true rfl) (Nat.le_of_ble_eq_true rfl) dX17_fits_115
                      · refine lv_iconst (v := nI 1) hx hb dX17_fits_110 (by decide +kernel) ?_
                        refine lv_goto (tgt := 115) hx hb dX17_fits_111 (by decide) ?_
                        exact z_iret hx hb hr rfl hlocks hK hZ hS rfl (Nat.le_of_ble_eq_true rfl) (Nat.le_of_ble_eq_true rfl) dX17_fits_115
                  · have e68 : ¬ i62 < (2 * pw) := fun q => c68 ((nI_ltI (a := i62) (b := (2 * pw)) (by omega) (by omega)).mpr q)
                    refine lv_lload hx hb dX17_fits_71 (lv_at hl 4 rfl) ?_
                    refine lv_bipush (v := nI 32) hx hb dX17_fits_73 (by decide +kernel) ?_
                    refine lv_lshl hx hb dX17_fits_75 rfl ?_
                    refine lv_topl (fun x9 _ => ?_)
                    refine lv_aload_n hx hb dX17_fits_76 rfl (lv_at hl 1 rfl) ?_
                    refine z_getP (own := RX17) (C := RX17) (TT := TX17) (N := 14) (ci := 18) (Ts := WR) hx hb hts zin_wsX170 hown hK hZ h_th k_th rfl 4 (by decide) (hts _ zw_171) (fun _ h9 => h9) f_th_4 dX17_fits_77 ?_
                    refine lv_iload hx hb dX17_fits_80 (lv_at hl 0 rfl) ?_
                    refine z_lald hx hb hK hZ 1 h_left k_left rfl (vp_in_nI (by omega) (by omega)) dX17_fits_82 (fun x10 => ?_)
                    refine lv_lor hx hb dX17_fits_83 ?_
                    refine lv_topl (fun x11 _ => ?_)
                    refine lv_lstore (lv' := [(7, .long x11), (9, .int (nI i62)), (0, .ref th), (5, .int pn), (6, .int (nI pw))]) hx hb dX17_fits_84 hl (by decide) rfl (fun ls hl => ?_)
                    refine lv_iinc (v := nI (i62 - 1)) (lv' := [(9, .int (nI (i62 - 1))), (7, .long x11), (0, .ref th), (5, .int pn), (6, .int (nI pw))]) hx hb dX17_fits_86 hl (k := 1) rfl (sb_m1 (by omega)) (by decide) rfl (fun ls hl => ?_)
                    refine lv_goto (tgt := 62) hx hb dX17_fits_89 (by decide) ?_
                    exact ih62 (i62 - 1) (by omega) (by omega) x11 _ _ _ hZ hS (lv_sub hl [0, 2, 3, 4, 1] rfl) 
              exact L62 (7 + 2) 7 (by omega) (by omega) 0 _ _ _ hZ hS (lv_sub hl [0, 2, 5, 6, 1] rfl) 
            · have e40 : ¬ pw ≤ i36 := fun q => c40 ((nI_leI (a := pw) (b := i36) (by omega) (by omega)).mpr q)
              refine lv_aload_n hx hb dX17_fits_43 rfl (lv_at hl 1 rfl) ?_
              refine lv_lload_n hx hb dX17_fits_44 rfl (lv_at hl 2 rfl) ?_
              refine lv_lload_n hx hb dX17_fits_45 rfl (lv_at hl 3 rfl) ?_
              refine z_goV (va_runV (As := [.long hi, .long lo]) (rest := []) ⟨hx, hb, hml, hown, hts⟩ ((c_X17_times E l D K X Y L T h_th k_th f_th_4 h_left k_left ⟨by omega, by omega⟩ f_th_5 h_cube k_cube ⟨by omega, by omega⟩) H.size) (cwV 2 hts (zg_V zw_194 zw_190 zw_195 zw_165 zw_189) rfl rfl rfl (by decide +kernel) ⟨Nat.le_of_ble_eq_true rfl, Nat.le_of_ble_eq_true rfl⟩) (z_preV hK hZ hS hA hE (z_recvP hK hZ h_th k_th rfl)) rfl rfl hl.1 rfl (lv_room (Nat.le_of_ble_eq_true rfl)) dX17_fits_46 ⟨Nat.le_of_ble_eq_true rfl, Nat.le_of_ble_eq_true rfl⟩) hZ hS hA (fun  Y1 L1 T1 H locs hp hZ hS => ?_)
              cases hp
              refine lv_iinc (v := nI (i36 + 1)) (lv' := [(7, .int (nI (i36 + 1))), (0, .ref th), (1, .long hi), (3, .long lo), (5, .int pn), (6, .int (nI pw))]) hx hb dX17_fits_49 hl (k := 0) rfl (nI_add i36 1) (by decide) rfl (fun ls hl => ?_)
              refine lv_goto (tgt := 36) hx hb dX17_fits_52 (by decide) ?_
              exact ih36 (i36 + 1) (by omega) (by omega)  _ _ _ hZ hS (lv_sub hl [0, 1, 2, 3, 4, 5] rfl) 
        exact L36 (pw + 1) 0 (by omega) (by omega)  _ _ _ hZ hS (lv_sub hl [0, 1, 2, 3, 4, 5] rfl) 
      · have e7 : ¬ 8 ≤ i3 := fun q => c7 ((nI_leI (a := 8) (b := i3) (by omega) (by omega)).mpr q)
        have J26 : ∀ (t2_26 : Int64) (H : Heap) (locs : List Loc) (ls : Array Slot), zP D vwCl A X Y L T H → va_S A s.heap H locs → lv_has ls 10 [(0, .ref th), (1, .long hi), (3, .long lo), (5, .int pn), (6, .int (nI pw)), (7, .int (nI i3))] → W p l e ROOM_X17_fits s m [.ref th, .long hi, .long lo, .int pn, .int (nI pw)].toArray below meth c H locs 0 0 (MQ below (va_Qi (fun _ => zSame Y L T) (zB D vwCl (zT K) A X) A) [.ref th, .long hi, .long lo, .int pn, .int (nI pw)].toArray s 0 0 A) (F0 m 26 ls [.long t2_26, .int (nI i3), .ref left]) := by
          intro t2_26 H locs ls hZ hS hl 
          refine z_last hx hb hK hZ hS 1 h_left k_left rfl (vp_in_nI (by omega) (by omega)) dX17_fits_26 (fun H locs hZ hS => ?_)
          refine lv_iinc (v := nI (i3 + 1)) (lv' := [(7, .int (nI (i3 + 1))), (0, .ref th), (1, .long hi), (3, .long lo), (5, .int pn), (6, .int (nI pw))]) hx hb dX17_fits_27 hl (k := 5) rfl (nI_add i3 1) (by decide) rfl (fun ls hl => ?_)
          refine lv_goto (tgt := 3) hx hb dX17_fits_30 (by decide) ?_
          exact ih3 (i3 + 1) (by omega) (by omega)  _ _ _ hZ hS (lv_sub hl [0, 1, 2, 3, 4, 5] rfl) 
        refine lv_aload_n hx hb dX17_fits_10 rfl (lv_at hl 1 rfl) ?_
        refine z_getP (own := RX17) (C := RX17) (TT := TX17) (N := 14) (ci := 18) (Ts := WR) hx hb hts zin_wsX170 hown hK hZ h_th k_th rfl 4 (by decide) (hts _ zw_171) (fun _ h9 => h9) f_th_4 dX17_fits_11 ?_
        refine lv_iload hx hb dX17_fits_14 (lv_at hl 0 rfl) ?_
        refine lv_iload hx hb dX17_fits_16 (lv_at hl 0 rfl) ?_
        refine lv_if_ne (tgt := 25) hx hb dX17_fits_18 (by decide) (fun c18 => ?_) (fun c18 => ?_)
        · have e18 : ¬ i3 = 0 := fun q => c18 ((nI_eq (a := i3) (b := 0) (by omega) (by omega)).mpr q)
          refine lv_lconst (v := 0) hx hb dX17_fits_25 (by decide +kernel) ?_
          exact J26  0 _ _ _ hZ hS (lv_sub hl [1, 2, 3, 4, 5, 0] rfl) 
        · have e18 : i3 = 0 := (nI_eq (a := i3) (b := 0) (by omega) (by omega)).mp c18
          refine lv_lconst (v := 1) hx hb dX17_fits_21 (by decide +kernel) ?_
          refine lv_goto (tgt := 26) hx hb dX17_fits_22 (by decide) ?_
          exact J26  1 _ _ _ hZ hS (lv_sub hl [1, 2, 3, 4, 5, 0] rfl) 
  exact L3 (8 + 1) 0 (by omega) (by omega)  _ _ _ hZ hS (lv_sub hl [0, 1, 2, 3, 4, 5] rfl) 
abbrev ROOM_X17_root : Room := { frames := 3, cells := 0, slots := 0, locals := 61 }
set_option maxHeartbeats 4000000 in
set_option maxRecDepth 100000 in
/-- root -/
theorem c_X17_root (E : zEn) (l : Launch) (D : va_G) (K : Nat → ClassId) (X Y : va_W) (L : List Nat) (T : Nat → va_E → Prop) {th : Nat} {vs_th : List Value} {left n_left : Nat} {cube n_cube : Nat} {pn : Int32} {pw : Nat}  (h_th : th ∈ L) (k_th : T th = zO 18 vs_th) (f_th_4 : vs_th[4]? = some (.ref left)) (h_left : left ∈ L) (k_left : T left = zJ (K 1) n_left) (b_left : 8 ≤ n_left ∧ n_left < 2147483648) (f_th_5 : vs_th[5]? = some (.ref cube)) (h_cube : cube ∈ L) (k_cube : T cube = zJ (K 1) n_cube) (b_cube : 8 ≤ n_cube ∧ n_cube < 2147483648) (b_pw : 1 ≤ pw ∧ pw ≤ 3)  : zVl E l D vwCl (zT K) yX17_root (zws yX17_root cX17_root 12 (some .long)) ROOM_X17_root 0 0 [.ref th, .int pn, .int (nI pw)] X Y L T (fun _ => zSame Y L T) := by
  refine z_ofW (E := E) (Qc := fun A => va_Ql (fun _ => zSame Y L T) (zB D vwCl (zT K) A X) A) (cc := cX17_root) (maxL := 12) (ret := (some .long)) (by decide +kernel) rfl (Nat.le_of_ble_eq_true rfl) ?_
  intro p e s m below meth c A ls hx hb hml hr hts hown hlocks hin hA hK hZ hS hE hl
  have hown : s.vm.findClass RX17 = some m.cls := hown
  have hts : ∀ w ∈ WR, w.before [.ref th, .int pn, .int (nI pw)].toArray s = true := fun w h => hts w (List.mem_cons_of_mem _ h)
  have hl : lv_has ls 12 [(0, .ref th), (1, .int pn), (2, .int (nI pw))] := hl
  obtain ⟨H, hH⟩ : ∃ H, H = s.heap := ⟨_, rfl⟩
  have hZ : zP D vwCl A X Y L T H := by rw [hH]; exact hZ
  obtain ⟨locs, hlc⟩ : ∃ q : List Loc, q = [] := ⟨_, rfl⟩
  have hS : va_S A s.heap H locs := by rw [hH, hlc]; exact hS
  suffices hW : W p l e ROOM_X17_root s m [.ref th, .int pn, .int (nI pw)].toArray below meth c H locs 0 0 (MQ below (va_Ql (fun _ => zSame Y L T) (zB D vwCl (zT K) A X) A) [.ref th, .int pn, .int (nI pw)].toArray s 0 0 A) (F0 m 0 ls []) by rw [hH, hlc] at hW; exact hW
  clear hH hlc
  refine lv_lconst (v := 0) hx hb dX17_root_0 (by decide +kernel) ?_
  refine lv_lstore_n (lv' := [(3, .long 0), (0, .ref th), (1, .int pn), (2, .int (nI pw))]) hx hb dX17_root_1 rfl hl (by decide) rfl (fun ls hl => ?_)
  refine lv_lconst (v := 0) hx hb dX17_root_2 (by decide +kernel) ?_
  refine lv_lstore (lv' := [(5, .long 0), (3, .long 0), (0, .ref th), (1, .int pn), (2, .int (nI pw))]) hx hb dX17_root_3 hl (by decide) rfl (fun ls hl => ?_)
  refine lv_bipush (v := nI 66) hx hb dX17_root_5 (by decide +kernel) ?_
  refine lv_istore (lv' := [(7, .int (nI 66)), (5, .long 0), (3, .long 0), (0, .ref th), (1, .int pn), (2, .int (nI pw))]) hx hb dX17_root_7 hl (by decide) rfl (fun ls hl => ?_)
  have L9 : ∀ (i9 : Nat), i9 ≤ 67 → ∀ (v3_9 : Int64) (v5_9 : Int64) (H : Heap) (locs : List Loc) (ls : Array Slot), zP D vwCl A X Y L T H → va_S A s.heap H locs → lv_has ls 12 [(7, .int (nI i9 + (-1))), (0, .ref th), (1, .int pn), (2, .int (nI pw)), (3, .long v3_9), (5, .long v5_9)] → W p l e ROOM_X17_root s m [.ref th, .int pn, .int (nI pw)].toArray below meth c H locs 0 0 (MQ below (va_Ql (fun _ => zSame Y L T) (zB D vwCl (zT K) A X) A) [.ref th, .int pn, .int (nI pw)].toArray s 0 0 A) (F0 m 9 ls []) := by
    intro i9
    induction i9 with
    | zero =>
      intro u9 v3_9 v5_9 H locs ls hZ hS hl 
      refine lv_iload hx hb dX17_root_9 (lv_at hl 0 rfl) ?_
      refine lv_if_lt (tgt := 83) hx hb dX17_root_11 (by decide) (fun c11 => ?_) (fun c11 => ?_)
      · refine lv_lload hx hb dX17_root_83 (lv_at hl 5 rfl) ?_
        exact z_lret hx hb hr hlocks hK hZ hS rfl (Nat.le_of_ble_eq_true rfl) (Nat.le_of_ble_eq_true rfl) dX17_root_85
      · exact absurd (by decide +kernel) c11
    | succ i9 ih9 =>
      intro u9 v3_9 v5_9 H locs ls hZ hS hl 
      rw [pk_m1 i9] at hl
      refine lv_iload hx hb dX17_root_9 (lv_at hl 0 rfl) ?_
      refine lv_if_lt (tgt := 83) hx hb dX17_root_11 (by decide) (fun c11 => ?_) (fun c11 => ?_)
      · exact absurd c11 (nI_pos (by omega))
      · have e11 : ¬ i9 < 0 := fun q => c11 ((nI_ltI (a := i9) (b := 0) (by omega) (by omega)).mpr q)
        have J34 : ∀ (t0_34 : Int64) (H : Heap) (locs : List Loc) (ls : Array Slot), zP D vwCl A X Y L T H → va_S A s.heap H locs → lv_has ls 12 [(0, .ref th), (1, .int pn), (2, .int (nI pw)), (3, .long v3_9), (5, .long v5_9), (7, .int (nI i9))] → W p l e ROOM_X17_root s m [.ref th, .int pn, .int (nI pw)].toArray below meth c H locs 0 0 (MQ below (va_Ql (fun _ => zSame Y L T) (zB D vwCl (zT K) A X) A) [.ref th, .int pn, .int (nI pw)].toArray s 0 0 A) (F0 m 34 ls [.long t0_34]) := by
          intro t0_34 H locs ls hZ hS hl 
          refine lv_lstore (lv' := [(8, .long t0_34), (0, .ref th), (1, .int pn), (2, .int (nI pw)), (3, .long v3_9), (5, .long v5_9), (7, .int (nI i9))]) hx hb dX17_root_34 hl (by decide) rfl (fun ls hl => ?_)
          have J55 : ∀ (t0_55 : Int64) (H : Heap) (locs : List Loc) (ls : Array Slot), zP D vwCl A X Y L T H → va_S A s.heap H locs → lv_has ls 12 [(0, .ref th), (1, .int pn), (2, .int (nI pw)), (3, .long v3_9), (5, .long v5_9), (7, .int (nI i9)), (8, .long t0_34)] → W p l e ROOM_X17_root s m [.ref th, .int pn, .int (nI pw)].toArray below meth c H locs 0 0 (MQ below (va_Ql (fun _ => zSame Y L T) (zB D vwCl (zT K) A X) A) [.ref th, .int pn, .int (nI pw)].toArray s 0 0 A) (F0 m 55 ls [.long t0_55]) := by
            intro t0_55 H locs ls hZ hS hl 
            refine lv_lstore (lv' := [(10, .long t0_55), (0, .ref th), (1, .int pn), (2, .int (nI pw)), (3, .long v3_9), (5, .long v5_9), (7, .int (nI i9)), (8, .long t0_34)]) hx hb dX17_root_55 hl (by decide) rfl (fun ls hl => ?_)
            refine lv_aload_n hx hb dX17_root_57 rfl (lv_at hl 1 rfl) ?_
            refine lv_lload hx hb dX17_root_58 (lv_at hl 7 rfl) ?_
            refine lv_lload hx hb dX17_root_60 (lv_at hl 0 rfl) ?_
            refine lv_iload_n hx hb dX17_root_62 rfl (lv_at hl 2 rfl) ?_
            refine lv_iload_n hx hb dX17_root_63 rfl (lv_at hl 3 rfl) ?_
            refine z_goI (va_runV (As := [.long t0_34, .long t0_55, .int pn, .int (nI pw)]) (rest := []) ⟨hx, hb, hml, hown, hts⟩ ((c_X17_fits E l D K X Y L T h_th k_th f_th_4 h_left k_left ⟨by omega, by omega⟩ f_th_5 h_cube k_cube ⟨by omega, by omega⟩ (by omega)) H.size) (cwV 4 hts (zg_V zw_196 zw_193 zw_197 zw_165 zw_192) rfl rfl rfl (by decide +kernel) ⟨Nat.le_of_ble_eq_true rfl, Nat.le_of_ble_eq_true rfl⟩) (z_preV hK hZ hS hA hE (z_recvP hK hZ h_th k_th rfl)) rfl rfl hl.1 rfl (lv_room (Nat.le_of_ble_eq_true rfl)) dX17_root_64 ⟨Nat.le_of_ble_eq_true rfl, Nat.le_of_ble_eq_true rfl⟩) hZ hS hA (fun x1 Y1 L1 T1 H locs hp hZ hS => ?_)
            cases hp
            refine lv_if_eq (tgt := 77) hx hb dX17_root_67 (by decide) (fun c67 => ?_) (fun c67 => ?_)
            · refine lv_iinc (v := nI i9 + (-1)) (lv' := [(7, .int (nI i9 + (-1))), (10, .long t0_55), (0, .ref th), (1, .int pn), (2, .int (nI pw)), (3, .long v3_9), (5, .long v5_9), (8, .long t0_34)]) hx hb dX17_root_77 hl (k := 6) rfl rfl (by decide) rfl (fun ls hl => ?_)
              refine lv_goto (tgt := 9) hx hb dX17_root_80 (by decide) ?_
              exact ih9 (by omega) v3_9 v5_9 _ _ _ hZ hS (lv_sub hl [0, 2, 3, 4, 5, 6] rfl) 
            · refine lv_lload hx hb dX17_root_70 (lv_at hl 7 rfl) ?_
              refine lv_lstore_n (lv' := [(3, .long t0_34), (10, .long t0_55), (0, .ref th), (1, .int pn), (2, .int (nI pw)), (5, .long v5_9), (7, .int (nI i9)), (8, .long t0_34)]) hx hb dX17_root_72 rfl hl (by decide) rfl (fun ls hl => ?_)
              refine lv_lload hx hb dX17_root_73 (lv_at hl 1 rfl) ?_
              refine lv_lstore (lv' := [(5, .long t0_55), (3, .long t0_34), (10, .long t0_55), (0, .ref th), (1, .int pn), (2, .int (nI pw)), (7, .int (nI i9)), (8, .long t0_34)]) hx hb dX17_root_75 hl (by decide) rfl (fun ls hl => ?_)
              refine lv_iinc (v := nI i9 + (-1)) (lv' := [(7, .int (nI i9 + (-1))), (5, .long t0_55), (3, .long t0_34), (10, .long t0_55), (0, .ref th), (1, .int pn), (2, .int (nI pw)), (8, .long t0_34)]) hx hb dX17_root_77 hl (k := 6) rfl rfl (by decide) rfl (fun ls hl => ?_)
              refine lv_goto (tgt := 9) hx hb dX17_root_80 (by decide) ?_
              exact ih9 (by omega) t0_34 t0_55 _ _ _ hZ hS (lv_sub hl [0, 4, 5, 6, 2, 1] rfl) 
          refine lv_iload hx hb dX17_root_36 (lv_at hl 6 rfl) ?_
          refine lv_bipush (v := nI 63) hx hb dX17_root_38 (by decide +kernel) ?_
          refine lv_icmp_le (tgt := 48) hx hb dX17_root_40 (by decide) (fun c40 => ?_) (fun c40 => ?_)
          · have e40 : i9 ≤ 63 := (nI_leI (a := i9) (b := 63) (by omega) (by omega)).mp c40
            refine lv_lload hx hb dX17_root_48 (lv_at hl 5 rfl) ?_
            refine lv_lconst (v := 1) hx hb dX17_root_50 (by decide +kernel) ?_
            refine lv_iload hx hb dX17_root_51 (lv_at hl 6 rfl) ?_
            refine lv_lshl hx hb dX17_root_53 rfl ?_
            refine lv_topl (fun x2 _ => ?_)
            refine lv_lor hx hb dX17_root_54 ?_
            refine lv_topl (fun x3 _ => ?_)
            exact J55  x3 _ _ _ hZ hS (lv_sub hl [1, 2, 3, 4, 5, 6, 0] rfl) 
          · have e40 : ¬ i9 ≤ 63 := fun q => c40 ((nI_leI (a := i9) (b := 63) (by omega) (by omega)).mpr q)
            refine lv_lload hx hb dX17_root_43 (lv_at hl 5 rfl) ?_
            refine lv_goto (tgt := 55) hx hb dX17_root_45 (by decide) ?_
            exact J55  v5_9 _ _ _ hZ hS (lv_sub hl [1, 2, 3, 4, 5, 6, 0] rfl) 
        refine lv_iload hx hb dX17_root_14 (lv_at hl 0 rfl) ?_
        refine lv_bipush (v := nI 63) hx hb dX17_root_16 (by decide +kernel) ?_
        refine lv_icmp_le (tgt := 33) hx hb dX17_root_18 (by decide) (fun c18 => ?_) (fun c18 => ?_)
        · have e18 : i9 ≤ 63 := (nI_leI (a := i9) (b := 63) (by omega) (by omega)).mp c18
          refine lv_lload_n hx hb dX17_root_33 rfl (lv_at hl 4 rfl) ?_
          exact J34  v3_9 _ _ _ hZ hS (lv_sub hl [1, 2, 3, 4, 5, 0] rfl) 
        · have e18 : ¬ i9 ≤ 63 := fun q => c18 ((nI_leI (a := i9) (b := 63) (by omega) (by omega)).mpr q)
          refine lv_lload_n hx hb dX17_root_21 rfl (lv_at hl 4 rfl) ?_
          refine lv_lconst (v := 1) hx hb dX17_root_22 (by decide +kernel) ?_
          refine lv_iload hx hb dX17_root_23 (lv_at hl 0 rfl) ?_
          refine lv_bipush (v := nI 64) hx hb dX17_root_25 (by decide +kernel) ?_
          refine lv_isub hx hb dX17_root_27 ?_
          refine lv_topi (fun x4 ex4 => ?_)
          obtain rfl : x4 = nI (i9 - 64) := ex4.trans (pk_sub (by omega))
          refine lv_lshl hx hb dX17_root_28 rfl ?_
          refine lv_topl (fun x5 _ => ?_)
          refine lv_lor hx hb dX17_root_29 ?_
          refine lv_topl (fun x6 _ => ?_)
          refine lv_goto (tgt := 34) hx hb dX17_root_30 (by decide) ?_
          exact J34  x6 _ _ _ hZ hS (lv_sub hl [1, 2, 3, 4, 5, 0] rfl) 
  exact L9 (66 + 1) (by omega) 0 0 _ _ _ hZ hS (by rw [pk_m1]; exact lv_sub hl [0, 3, 4, 5, 2, 1] rfl) 
end ZHASH

section ZNUM
abbrev ROOM_X18_copy : Room := { frames := 1, cells := 0, slots := 0, locals := 0 }
set_option maxHeartbeats 4000000 in
set_option maxRecDepth 100000 in
/-- copy: only shapes are told -/
theorem c_X18_copy (E : zEn) (l : Launch) (D : va_G) (K : Nat → ClassId) (X Y : va_W) (L : List Nat) (T : Nat → va_E → Prop) {to n_to : Nat} {a n_a : Nat}  (h_to : to ∈ L) (k_to : T to = zJ (K 1) n_to) (b_to : 16 ≤ n_to ∧ n_to < 2147483648) (h_a : a ∈ L) (k_a : T a = zJ (K 1) n_a) (b_a : 16 ≤ n_a ∧ n_a < 2147483648)  : zV E l D vwCl (zT K) yX18_copy (zws yX18_copy cX18_copy 3 none) ROOM_X18_copy 0 0 [.ref to, .ref a] X Y L T (zSame Y L T) := by
  refine z_ofW (E := E) (Qc := fun A => va_Qv (zSame Y L T) (zB D vwCl (zT K) A X) A) (cc := cX18_copy) (maxL := 3) (ret := none) (by decide +kernel) rfl (Nat.le_of_ble_eq_true rfl) ?_
  intro p e s m below meth c A ls hx hb hml hr hts hown hlocks hin hA hK hZ hS hE hl
  have hown : s.vm.findClass RX18 = some m.cls := hown
  have hts : ∀ w ∈ WR, w.before [.ref to, .ref a].toArray s = true := fun w h => hts w (List.mem_cons_of_mem _ h)
  have hl : lv_has ls 3 [(0, .ref to), (1, .ref a)] := hl
  obtain ⟨H, hH⟩ : ∃ H, H = s.heap := ⟨_, rfl⟩
  have hZ : zP D vwCl A X Y L T H := by rw [hH]; exact hZ
  obtain ⟨locs, hlc⟩ : ∃ q : List Loc, q = [] := ⟨_, rfl⟩
  have hS : va_S A s.heap H locs := by rw [hH, hlc]; exact hS
  suffices hW : W p l e ROOM_X18_copy s m [.ref to, .ref a].toArray below meth c H locs 0 0 (MQ below (va_Qv (zSame Y L T) (zB D vwCl (zT K) A X) A) [.ref to, .ref a].toArray s 0 0 A) (F0 m 0 ls []) by rw [hH, hlc] at hW; exact hW
  clear hH hlc
  refine lv_iconst (v := nI 0) hx hb dX18_copy_0 (by decide +kernel) ?_
  refine lv_istore_n (lv' := [(2, .int (nI 0)), (0, .ref to), (1, .ref a)]) hx hb dX18_copy_1 rfl hl (by decide) rfl (fun ls hl => ?_)
  have L2 : ∀ (n i2 : Nat), i2 ≤ 16 → 16 + 1 ≤ i2 + n → ∀  (H : Heap) (locs : List Loc) (ls : Array Slot), zP D vwCl A X Y L T H → va_S A s.heap H locs → lv_has ls 3 [(2, .int (nI i2)), (0, .ref to), (1, .ref a)] → W p l e ROOM_X18_copy s m [.ref to, .ref a].toArray below meth c H locs 0 0 (MQ below (va_Qv (zSame Y L T) (zB D vwCl (zT K) A X) A) [.ref to, .ref a].toArray s 0 0 A) (F0 m 2 ls []) := by
    intro n
    induction n with
    | zero => intro i2 u2 w2; exact absurd w2 (by omega)
    | succ n ih2 =>
      intro i2 u2 w2  H locs ls hZ hS hl 
      refine lv_iload_n hx hb dX18_copy_2 rfl (lv_at hl 0 rfl) ?_
      refine lv_bipush (v := nI 16) hx hb dX18_copy_3 (by decide +kernel) ?_
      refine lv_icmp_ge (tgt := 20) hx hb dX18_copy_5 (by decide) (fun c5 => ?_) (fun c5 => ?_)
      · have e5 : 16 ≤ i2 := (nI_leI (a := 16) (b := i2) (by omega) (by omega)).mp c5
        exact z_vret hx hb hr hlocks hK hZ hS rfl (Nat.le_of_ble_eq_true rfl) (Nat.le_of_ble_eq_true rfl) dX18_copy_20
      · have e5 : ¬ 16 ≤ i2 := fun q => c5 ((nI_leI (a := 16) (b := i2) (by omega) (by omega)).mpr q)
        refine lv_aload_n hx hb dX18_copy_8 rfl (lv_at hl 1 rfl) ?_
        refine lv_iload_n hx hb dX18_copy_9 rfl (lv_at hl 0 rfl) ?_
        refine lv_aload_n hx hb dX18_copy_10 rfl (lv_at hl 2 rfl) ?_
        refine lv_iload_n hx hb dX18_copy_11 rfl (lv_at hl 0 rfl) ?_
        refine z_lald hx hb hK hZ 1 h_a k_a rfl (vp_in_nI (by omega) (by omega)) dX18_copy_12 (fun x1 => ?_)
        refine z_last hx hb hK hZ hS 1 h_to k_to rfl (vp_in_nI (by omega) (by omega)) dX18_copy_13 (fun H locs hZ hS => ?_)
        refine lv_iinc (v := nI (i2 + 1)) (lv' := [(2, .int (nI (i2 + 1))), (0, .ref to), (1, .ref a)]) hx hb dX18_copy_14 hl (k := 0) rfl (nI_add i2 1) (by decide) rfl (fun ls hl => ?_)
        refine lv_goto (tgt := 2) hx hb dX18_copy_17 (by decide) ?_
        exact ih2 (i2 + 1) (by omega) (by omega)  _ _ _ hZ hS (lv_sub hl [0, 1, 2] rfl) 
  exact L2 (16 + 1) 0 (by omega) (by omega)  _ _ _ hZ hS (lv_sub hl [0, 1, 2] rfl) 
abbrev ROOM_X18_set : Room := { frames := 1, cells := 0, slots := 0, locals := 0 }
set_option maxHeartbeats 4000000 in
set_option maxRecDepth 100000 in
/-- set -/
theorem c_X18_set (E : zEn) (l : Launch) (D : va_G) (K : Nat → ClassId) (X Y : va_W) (L : List Nat) (T : Nat → va_E → Prop) {to n_to : Nat} {v : Int32}  (h_to : to ∈ L) (k_to : T to = zJ (K 1) n_to) (b_to : 16 ≤ n_to ∧ n_to < 2147483648)  : zV E l D vwCl (zT K) yX18_set (zws yX18_set cX18_set 3 none) ROOM_X18_set 0 0 [.ref to, .int v] X Y L T (zSame Y L T) := by
  refine z_ofW (E := E) (Qc := fun A => va_Qv (zSame Y L T) (zB D vwCl (zT K) A X) A) (cc := cX18_set) (maxL := 3) (ret := none) (by decide +kernel) rfl (Nat.le_of_ble_eq_true rfl) ?_
  intro p e s m below meth c A ls hx hb hml hr hts hown hlocks hin hA hK hZ hS hE hl
  have hown : s.vm.findClass RX18 = some m.cls := hown
  have hts : ∀ w ∈ WR, w.before [.ref to, .int v].toArray s = true := fun w h => hts w (List.mem_cons_of_mem _ h)
  have hl : lv_has ls 3 [(0, .ref to), (1, .int v)] := hl
  obtain ⟨H, hH⟩ : ∃ H, H = s.heap := ⟨_, rfl⟩
  have hZ : zP D vwCl A X Y L T H := by rw [hH]; exact hZ
  obtain ⟨locs, hlc⟩ : ∃ q : List Loc, q = [] := ⟨_, rfl⟩
  have hS : va_S A s.heap H locs := by rw [hH, hlc]; exact hS
  suffices hW : W p l e ROOM_X18_set s m [.ref to, .int v].toArray below meth c H locs 0 0 (MQ below (va_Qv (zSame Y L T) (zB D vwCl (zT K) A X) A) [.ref to, .int v].toArray s 0 0 A) (F0 m 0 ls []) by rw [hH, hlc] at hW; exact hW
  clear hH hlc
  refine lv_iconst (v := nI 0) hx hb dX18_set_0 (by decide +kernel) ?_
  refine lv_istore_n (lv' := [(2, .int (nI 0)), (0, .ref to), (1, .int v)]) hx hb dX18_set_1 rfl hl (by decide) rfl (fun ls hl => ?_)
  have L2 : ∀ (n i2 : Nat), i2 ≤ 16 → 16 + 1 ≤ i2 + n → ∀  (H : Heap) (locs : List Loc) (ls : Array Slot), zP D vwCl A X Y L T H → va_S A s.heap H locs → lv_has ls 3 [(2, .int (nI i2)), (0, .ref to), (1, .int v)] → W p l e ROOM_X18_set s m [.ref to, .int v].toArray below meth c H locs 0 0 (MQ below (va_Qv (zSame Y L T) (zB D vwCl (zT K) A X) A) [.ref to, .int v].toArray s 0 0 A) (F0 m 2 ls []) := by
    intro n
    induction n with
    | zero => intro i2 u2 w2; exact absurd w2 (by omega)
    | succ n ih2 =>
      intro i2 u2 w2  H locs ls hZ hS hl 
      refine lv_iload_n hx hb dX18_set_2 rfl (lv_at hl 0 rfl) ?_
      refine lv_bipush (v := nI 16) hx hb dX18_set_3 (by decide +kernel) ?_
      refine lv_icmp_ge (tgt := 27) hx hb dX18_set_5 (by decide) (fun c5 => ?_) (fun c5 => ?_)
      · have e5 : 16 ≤ i2 := (nI_leI (a := 16) (b := i2) (by omega) (by omega)).mp c5
        exact z_vret hx hb hr hlocks hK hZ hS rfl (Nat.le_of_ble_eq_true rfl) (Nat.le_of_ble_eq_true rfl) dX18_set_27
      · have e5 : ¬ 16 ≤ i2 := fun q => c5 ((nI_leI (a := 16) (b := i2) (by omega) (by omega)).mpr q)
        refine lv_aload_n hx hb dX18_set_8 rfl (lv_at hl 1 rfl) ?_
        refine lv_iload_n hx hb dX18_set_9 rfl (lv_at hl 0 rfl) ?_
        refine lv_iload_n hx hb dX18_set_10 rfl (lv_at hl 0 rfl) ?_
        refine lv_if_ne (tgt := 19) hx hb dX18_set_11 (by decide) (fun c11 => ?_) (fun c11 => ?_)
        · have e11 : ¬ i2 = 0 := fun q => c11 ((nI_eq (a := i2) (b := 0) (by omega) (by omega)).mpr q)
          refine lv_lconst (v := 0) hx hb dX18_set_19 (by decide +kernel) ?_
          refine z_last hx hb hK hZ hS 1 h_to k_to rfl (vp_in_nI (by omega) (by omega)) dX18_set_20 (fun H locs hZ hS => ?_)
          refine lv_iinc (v := nI (i2 + 1)) (lv' := [(2, .int (nI (i2 + 1))), (0, .ref to), (1, .int v)]) hx hb dX18_set_21 hl (k := 0) rfl (nI_add i2 1) (by decide) rfl (fun ls hl => ?_)
          refine lv_goto (tgt := 2) hx hb dX18_set_24 (by decide) ?_
          exact ih2 (i2 + 1) (by omega) (by omega)  _ _ _ hZ hS (lv_sub hl [0, 1, 2] rfl) 
        · have e11 : i2 = 0 := (nI_eq (a := i2) (b := 0) (by omega) (by omega)).mp c11
          refine lv_iload_n hx hb dX18_set_14 rfl (lv_at hl 2 rfl) ?_
          refine lv_i2l hx hb dX18_set_15 rfl ?_
          refine lv_topl (fun x1 _ => ?_)
          refine lv_goto (tgt := 20) hx hb dX18_set_16 (by decide) ?_
          refine z_last hx hb hK hZ hS 1 h_to k_to rfl (vp_in_nI (by omega) (by omega)) dX18_set_20 (fun H locs hZ hS => ?_)
          refine lv_iinc (v := nI (i2 + 1)) (lv' := [(2, .int (nI (i2 + 1))), (0, .ref to), (1, .int v)]) hx hb dX18_set_21 hl (k := 0) rfl (nI_add i2 1) (by decide) rfl (fun ls hl => ?_)
          refine lv_goto (tgt := 2) hx hb dX18_set_24 (by decide) ?_
          exact ih2 (i2 + 1) (by omega) (by omega)  _ _ _ hZ hS (lv_sub hl [0, 1, 2] rfl) 
  exact L2 (16 + 1) 0 (by omega) (by omega)  _ _ _ hZ hS (lv_sub hl [0, 1, 2] rfl) 
abbrev ROOM_X18_zero : Room := { frames := 1, cells := 0, slots := 0, locals := 0 }
set_option maxHeartbeats 4000000 in
set_option maxRecDepth 100000 in
/-- zero -/
theorem c_X18_zero (E : zEn) (l : Launch) (D : va_G) (K : Nat → ClassId) (X Y : va_W) (L : List Nat) (T : Nat → va_E → Prop) {a n_a : Nat}  (h_a : a ∈ L) (k_a : T a = zJ (K 1) n_a) (b_a : 16 ≤ n_a ∧ n_a < 2147483648)  : zVi E l D vwCl (zT K) yX18_zero (zws yX18_zero cX18_zero 2 (some .boolean)) ROOM_X18_zero 0 0 [.ref a] X Y L T (fun _ => zSame Y L T) := by
  refine z_ofW (E := E) (Qc := fun A => va_Qi (fun _ => zSame Y L T) (zB D vwCl (zT K) A X) A) (cc := cX18_zero) (maxL := 2) (ret := (some .boolean)) (by decide +kernel) rfl (Nat.le_of_ble_eq_true rfl) ?_
  intro p e s m below meth c A ls hx hb hml hr hts hown hlocks hin hA hK hZ hS hE hl
  have hown : s.vm.findClass RX18 = some m.cls := hown
  have hts : ∀ w ∈ WR, w.before [.ref a].toArray s = true := fun w h => hts w (List.mem_cons_of_mem _ h)
  have hl : lv_has ls 2 [(0, .ref a)] := hl
  obtain ⟨H, hH⟩ : ∃ H, H = s.heap := ⟨_, rfl⟩
  have hZ : zP D vwCl A X Y L T H := by rw [hH]; exact hZ
  obtain ⟨locs, hlc⟩ : ∃ q : List Loc, q = [] := ⟨_, rfl⟩
  have hS : va_S A s.heap H locs := by rw [hH, hlc]; exact hS
  suffices hW : W p l e ROOM_X18_zero s m [.ref a].toArray below meth c H locs 0 0 (MQ below (va_Qi (fun _ => zSame Y L T) (zB D vwCl (zT K) A X) A) [.ref a].toArray s 0 0 A) (F0 m 0 ls []) by rw [hH, hlc] at hW; exact hW
  clear hH hlc
  refine lv_iconst (v := nI 0) hx hb dX18_zero_0 (by decide +kernel) ?_
  refine lv_istore_n (lv' := [(1, .int (nI 0)), (0, .ref a)]) hx hb dX18_zero_1 rfl hl (by decide) rfl (fun ls hl => ?_)
  have L2 : ∀ (n i2 : Nat), i2 ≤ 16 → 16 + 1 ≤ i2 + n → ∀  (H : Heap) (locs : List Loc) (ls : Array Slot), zP D vwCl A X Y L T H → va_S A s.heap H locs → lv_has ls 2 [(1, .int (nI i2)), (0, .ref a)] → W p l e ROOM_X18_zero s m [.ref a].toArray below meth c H locs 0 0 (MQ below (va_Qi (fun _ => zSame Y L T) (zB D vwCl (zT K) A X) A) [.ref a].toArray s 0 0 A) (F0 m 2 ls []) := by
    intro n
    induction n with
    | zero => intro i2 u2 w2; exact absurd w2 (by omega)
    | succ n ih2 =>
      intro i2 u2 w2  H locs ls hZ hS hl 
      refine lv_iload_n hx hb dX18_zero_2 rfl (lv_at hl 0 rfl) ?_
      refine lv_bipush (v := nI 16) hx hb dX18_zero_3 (by decide +kernel) ?_
      refine lv_icmp_ge (tgt := 24) hx hb dX18_zero_5 (by decide) (fun c5 => ?_) (fun c5 => ?_)
      · have e5 : 16 ≤ i2 := (nI_leI (a := 16) (b := i2) (by omega) (by omega)).mp c5
        refine lv_iconst (v := nI 1) hx hb dX18_zero_24 (by decide +kernel) ?_
        exact z_iret hx hb hr rfl hlocks hK hZ hS rfl (Nat.le_of_ble_eq_true rfl) (Nat.le_of_ble_eq_true rfl) dX18_zero_25
      · have e5 : ¬ 16 ≤ i2 := fun q => c5 ((nI_leI (a := 16) (b := i2) (by omega) (by omega)).mpr q)
        refine lv_aload_n hx hb dX18_zero_8 rfl (lv_at hl 1 rfl) ?_
        refine lv_iload_n hx hb dX18_zero_9 rfl (lv_at hl 0 rfl) ?_
        refine z_lald hx hb hK hZ 1 h_a k_a rfl (vp_in_nI (by omega) (by omega)) dX18_zero_10 (fun x1 => ?_)
        refine lv_lconst (v := 0) hx hb dX18_zero_11 (by decide +kernel) ?_
        refine W.lcmp hx hb dX18_zero_12 ?_
        refine lv_topi (fun x2 ex2 => ?_)
        refine lv_if_eq (tgt := 18) hx hb dX18_zero_13 (by decide) (fun c13 => ?_) (fun c13 => ?_)
        · refine lv_iinc (v := nI (i2 + 1)) (lv' := [(1, .int (nI (i2 + 1))), (0, .ref a)]) hx hb dX18_zero_18 hl (k := 0) rfl (nI_add i2 1) (by decide) rfl (fun ls hl => ?_)
          refine lv_goto (tgt := 2) hx hb dX18_zero_21 (by decide) ?_
          exact ih2 (i2 + 1) (by omega) (by omega)  _ _ _ hZ hS (lv_sub hl [0, 1] rfl) 
        · refine lv_iconst (v := nI 0) hx hb dX18_zero_16 (by decide +kernel) ?_
          exact z_iret hx hb hr rfl hlocks hK hZ hS rfl (Nat.le_of_ble_eq_true rfl) (Nat.le_of_ble_eq_true rfl) dX18_zero_17
  exact L2 (16 + 1) 0 (by omega) (by omega)  _ _ _ hZ hS (lv_sub hl [0, 1] rfl) 
abbrev ROOM_X18_below : Room := { frames := 1, cells := 0, slots := 0, locals := 0 }
set_option maxHeartbeats 4000000 in
set_option maxRecDepth 100000 in
/-- below -/
theorem c_X18_below (E : zEn) (l : Launch) (D : va_G) (K : Nat → ClassId) (X Y : va_W) (L : List Nat) (T : Nat → va_E → Prop) {a n_a : Nat} {b n_b : Nat}  (h_a : a ∈ L) (k_a : T a = zJ (K 1) n_a) (b_a : 16 ≤ n_a ∧ n_a < 2147483648) (h_b : b ∈ L) (k_b : T b = zJ (K 1) n_b) (b_b : 16 ≤ n_b ∧ n_b < 2147483648)  : zVi E l D vwCl (zT K) yX18_below (zws yX18_below cX18_below 3 (some .boolean)) ROOM_X18_below 0 0 [.ref a, .ref b] X Y L T (fun _ => zSame Y L T) := by
  refine z_ofW (E := E) (Qc := fun A => va_Qi (fun _ => zSame Y L T) (zB D vwCl (zT K) A X) A) (cc := cX18_below) (maxL := 3) (ret := (some .boolean)) (by decide +kernel) rfl (Nat.le_of_ble_eq_true rfl) ?_
  intro p e s m below meth c A ls hx hb hml hr hts hown hlocks hin hA hK hZ hS hE hl
  have hown : s.vm.findClass RX18 = some m.cls := hown
  have hts : ∀ w ∈ WR, w.before [.ref a, .ref b].toArray s = true := fun w h => hts w (List.mem_cons_of_mem _ h)
  have hl : lv_has ls 3 [(0, .ref a), (1, .ref b)] := hl
  obtain ⟨H, hH⟩ : ∃ H, H = s.heap := ⟨_, rfl⟩
  have hZ : zP D vwCl A X Y L T H := by rw [hH]; exact hZ
  obtain ⟨locs, hlc⟩ : ∃ q : List Loc, q = [] := ⟨_, rfl⟩
  have hS : va_S A s.heap H locs := by rw [hH, hlc]; exact hS
  suffices hW : W p l e ROOM_X18_below s m [.ref a, .ref b].toArray below meth c H locs 0 0 (MQ below (va_Qi (fun _ => zSame Y L T) (zB D vwCl (zT K) A X) A) [.ref a, .ref b].toArray s 0 0 A) (F0 m 0 ls []) by rw [hH, hlc] at hW; exact hW
  clear hH hlc
  refine lv_bipush (v := nI 15) hx hb dX18_below_0 (by decide +kernel) ?_
  refine lv_istore_n (lv' := [(2, .int (nI 15)), (0, .ref a), (1, .ref b)]) hx hb dX18_below_2 rfl hl (by decide) rfl (fun ls hl => ?_)
  have L3 : ∀ (i3 : Nat), i3 ≤ 16 → ∀  (H : Heap) (locs : List Loc) (ls : Array Slot), zP D vwCl A X Y L T H → va_S A s.heap H locs → lv_has ls 3 [(2, .int (nI i3 + (-1))), (0, .ref a), (1, .ref b)] → W p l e ROOM_X18_below s m [.ref a, .ref b].toArray below meth c H locs 0 0 (MQ below (va_Qi (fun _ => zSame Y L T) (zB D vwCl (zT K) A X) A) [.ref a, .ref b].toArray s 0 0 A) (F0 m 3 ls []) := by
    intro i3
    induction i3 with
    | zero =>
      intro u3  H locs ls hZ hS hl 
      refine lv_iload_n hx hb dX18_below_3 rfl (lv_at hl 0 rfl) ?_
      refine lv_if_lt (tgt := 39) hx hb dX18_below_4 (by decide) (fun c4 => ?_) (fun c4 => ?_)
      · refine lv_iconst (v := nI 0) hx hb dX18_below_39 (by decide +kernel) ?_
        exact z_iret hx hb hr rfl hlocks hK hZ hS rfl (Nat.le_of_ble_eq_true rfl) (Nat.le_of_ble_eq_true rfl) dX18_below_40
      · exact absurd (by decide +kernel) c4
    | succ i3 ih3 =>
      intro u3  H locs ls hZ hS hl 
      rw [pk_m1 i3] at hl
      refine lv_iload_n hx hb dX18_below_3 rfl (lv_at hl 0 rfl) ?_
      refine lv_if_lt (tgt := 39) hx hb dX18_below_4 (by decide) (fun c4 => ?_) (fun c4 => ?_)
      · exact absurd c4 (nI_pos (by omega))
      · have e4 : ¬ i3 < 0 := fun q => c4 ((nI_ltI (a := i3) (b := 0) (by omega) (by omega)).mpr q)
        refine lv_aload_n hx hb dX18_below_7 rfl (lv_at hl 1 rfl) ?_
        refine lv_iload_n hx hb dX18_below_8 rfl (lv_at hl 0 rfl) ?_
        refine z_lald hx hb hK hZ 1 h_a k_a rfl (vp_in_nI (by omega) (by omega)) dX18_below_9 (fun x1 => ?_)
        refine lv_aload_n hx hb dX18_below_10 rfl (lv_at hl 2 rfl) ?_
        refine lv_iload_n hx hb dX18_below_11 rfl (lv_at hl 0 rfl) ?_
        refine z_lald hx hb hK hZ 1 h_b k_b rfl (vp_in_nI (by omega) (by omega)) dX18_below_12 (fun x2 => ?_)
        refine W.lcmp hx hb dX18_below_13 ?_
        refine lv_topi (fun x3 ex3 => ?_)
        refine lv_if_eq (tgt := 33) hx hb dX18_below_14 (by decide) (fun c14 => ?_) (fun c14 => ?_)
        · refine lv_iinc (v := nI i3 + (-1)) (lv' := [(2, .int (nI i3 + (-1))), (0, .ref a), (1, .ref b)]) hx hb dX18_below_33 hl (k := 0) rfl rfl (by decide) rfl (fun ls hl => ?_)
          refine lv_goto (tgt := 3) hx hb dX18_below_36 (by decide) ?_
          exact ih3 (by omega)  _ _ _ hZ hS (lv_sub hl [0, 1, 2] rfl) 
        · refine lv_aload_n hx hb dX18_below_17 rfl (lv_at hl 1 rfl) ?_
          refine lv_iload_n hx hb dX18_below_18 rfl (lv_at hl 0 rfl) ?_
          refine z_lald hx hb hK hZ 1 h_a k_a rfl (vp_in_nI (by omega) (by omega)) dX18_below_19 (fun x4 => ?_)
          refine lv_aload_n hx hb dX18_below_20 rfl (lv_at hl 2 rfl) ?_
          refine lv_iload_n hx hb dX18_below_21 rfl (lv_at hl 0 rfl) ?_
          refine z_lald hx hb hK hZ 1 h_b k_b rfl (vp_in_nI (by omega) (by omega)) dX18_below_22 (fun x5 => ?_)
          refine W.lcmp hx hb dX18_below_23 ?_
          refine lv_topi (fun x6 ex6 => ?_)
          refine lv_if_ge (tgt := 31) hx hb dX18_below_24 (by decide) (fun c24 => ?_) (fun c24 => ?_)
          · refine lv_iconst (v := nI 0) hx hb dX18_below_31 (by decide +kernel) ?_
            exact z_iret hx hb hr rfl hlocks hK hZ hS rfl (Nat.le_of_ble_eq_true rfl) (Nat.le_of_ble_eq_true rfl) dX18_below_32
          · refine lv_iconst (v := nI 1) hx hb dX18_below_27 (by decide +kernel) ?_
            refine lv_goto (tgt := 32) hx hb dX18_below_28 (by decide) ?_
            exact z_iret hx hb hr rfl hlocks hK hZ hS rfl (Nat.le_of_ble_eq_true rfl) (Nat.le_of_ble_eq_true rfl) dX18_below_32
  exact L3 (15 + 1) (by omega)  _ _ _ hZ hS (by rw [pk_m1]; exact lv_sub hl [0, 1, 2] rfl) 
abbrev ROOM_X18_alike : Room := { frames := 1, cells := 0, slots := 0, locals := 0 }
set_option maxHeartbeats 4000000 in
set_option maxRecDepth 100000 in
/-- alike -/
theorem c_X18_alike (E : zEn) (l : Launch) (D : va_G) (K : Nat → ClassId) (X Y : va_W) (L : List Nat) (T : Nat → va_E → Prop) {a n_a : Nat} {b n_b : Nat}  (h_a : a ∈ L) (k_a : T a = zJ (K 1) n_a) (b_a : 16 ≤ n_a ∧ n_a < 2147483648) (h_b : b ∈ L) (k_b : T b = zJ (K 1) n_b) (b_b : 16 ≤ n_b ∧ n_b < 2147483648)  : zVi E l D vwCl (zT K) yX18_alike (zws yX18_alike cX18_alike 3 (some .boolean)) ROOM_X18_alike 0 0 [.ref a, .ref b] X Y L T (fun _ => zSame Y L T) := by
  refine z_ofW (E := E) (Qc := fun A => va_Qi (fun _ => zSame Y L T) (zB D vwCl (zT K) A X) A) (cc := cX18_alike) (maxL := 3) (ret := (some .boolean)) (by decide +kernel) rfl (Nat.le_of_ble_eq_true rfl) ?_
  intro p e s m below meth c A ls hx hb hml hr hts hown hlocks hin hA hK hZ hS hE hl
  have hown : s.vm.findClass RX18 = some m.cls := hown
  have hts : ∀ w ∈ WR, w.before [.ref a, .ref b].toArray s = true := fun w h => hts w (List.mem_cons_of_mem _ h)
  have hl : lv_has ls 3 [(0, .ref a), (1, .ref b)] := hl
  obtain ⟨H, hH⟩ : ∃ H, H = s.heap := ⟨_, rfl⟩
  have hZ : zP D vwCl A X Y L T H := by rw [hH]; exact hZ
  obtain ⟨locs, hlc⟩ : ∃ q : List Loc, q = [] := ⟨_, rfl⟩
  have hS : va_S A s.heap H locs := by rw [hH, hlc]; exact hS
  suffices hW : W p l e ROOM_X18_alike s m [.ref a, .ref b].toArray below meth c H locs 0 0 (MQ below (va_Qi (fun _ => zSame Y L T) (zB D vwCl (zT K) A X) A) [.ref a, .ref b].toArray s 0 0 A) (F0 m 0 ls []) by rw [hH, hlc] at hW; exact hW
  clear hH hlc
  refine lv_iconst (v := nI 0) hx hb dX18_alike_0 (by decide +kernel) ?_
  refine lv_istore_n (lv' := [(2, .int (nI 0)), (0, .ref a), (1, .ref b)]) hx hb dX18_alike_1 rfl hl (by decide) rfl (fun ls hl => ?_)
  have L2 : ∀ (n i2 : Nat), i2 ≤ 16 → 16 + 1 ≤ i2 + n → ∀  (H : Heap) (locs : List Loc) (ls : Array Slot), zP D vwCl A X Y L T H → va_S A s.heap H locs → lv_has ls 3 [(2, .int (nI i2)), (0, .ref a), (1, .ref b)] → W p l e ROOM_X18_alike s m [.ref a, .ref b].toArray below meth c H locs 0 0 (MQ below (va_Qi (fun _ => zSame Y L T) (zB D vwCl (zT K) A X) A) [.ref a, .ref b].toArray s 0 0 A) (F0 m 2 ls []) := by
    intro n
    induction n with
    | zero => intro i2 u2 w2; exact absurd w2 (by omega)
    | succ n ih2 =>
      intro i2 u2 w2  H locs ls hZ hS hl 
      refine lv_iload_n hx hb dX18_alike_2 rfl (lv_at hl 0 rfl) ?_
      refine lv_bipush (v := nI 16) hx hb dX18_alike_3 (by decide +kernel) ?_
      refine lv_icmp_ge (tgt := 26) hx hb dX18_alike_5 (by decide) (fun c5 => ?_) (fun c5 => ?_)
      · have e5 : 16 ≤ i2 := (nI_leI (a := 16) (b := i2) (by omega) (by omega)).mp c5
        refine lv_iconst (v := nI 1) hx hb dX18_alike_26 (by decide +kernel) ?_
        exact z_iret hx hb hr rfl hlocks hK hZ hS rfl (Nat.le_of_ble_eq_true rfl) (Nat.le_of_ble_eq_true rfl) dX18_alike_27
      · have e5 : ¬ 16 ≤ i2 := fun q => c5 ((nI_leI (a := 16) (b := i2) (by omega) (by omega)).mpr q)
        refine lv_aload_n hx hb dX18_alike_8 rfl (lv_at hl 1 rfl) ?_
        refine lv_iload_n hx hb dX18_alike_9 rfl (lv_at hl 0 rfl) ?_
        refine z_lald hx hb hK hZ 1 h_a k_a rfl (vp_in_nI (by omega) (by omega)) dX18_alike_10 (fun x1 => ?_)
        refine lv_aload_n hx hb dX18_alike_11 rfl (lv_at hl 2 rfl) ?_
        refine lv_iload_n hx hb dX18_alike_12 rfl (lv_at hl 0 rfl) ?_
        refine z_lald hx hb hK hZ 1 h_b k_b rfl (vp_in_nI (by omega) (by omega)) dX18_alike_13 (fun x2 => ?_)
        refine W.lcmp hx hb dX18_alike_14 ?_
        refine lv_topi (fun x3 ex3 => ?_)
        refine lv_if_eq (tgt := 20) hx hb dX18_alike_15 (by decide) (fun c15 => ?_) (fun c15 => ?_)
        · refine lv_iinc (v := nI (i2 + 1)) (lv' := [(2, .int (nI (i2 + 1))), (0, .ref a), (1, .ref b)]) hx hb dX18_alike_20 hl (k := 0) rfl (nI_add i2 1) (by decide) rfl (fun ls hl => ?_)
          refine lv_goto (tgt := 2) hx hb dX18_alike_23 (by decide) ?_
          exact ih2 (i2 + 1) (by omega) (by omega)  _ _ _ hZ hS (lv_sub hl [0, 1, 2] rfl) 
        · refine lv_iconst (v := nI 0) hx hb dX18_alike_18 (by decide +kernel) ?_
          exact z_iret hx hb hr rfl hlocks hK hZ hS rfl (Nat.le_of_ble_eq_true rfl) (Nat.le_of_ble_eq_true rfl) dX18_alike_19
  exact L2 (16 + 1) 0 (by omega) (by omega)  _ _ _ hZ hS (lv_sub hl [0, 1, 2] rfl) 
abbrev ROOM_X18_less : Room := { frames := 1, cells := 0, slots := 0, locals := 0 }
set_option maxHeartbeats 4000000 in
set_option maxRecDepth 100000 in
/-- less -/
theorem c_X18_less (E : zEn) (l : Launch) (D : va_G) (K : Nat → ClassId) (X Y : va_W) (L : List Nat) (T : Nat → va_E → Prop) {to n_to : Nat} {a n_a : Nat} {b n_b : Nat}  (h_to : to ∈ L) (k_to : T to = zJ (K 1) n_to) (b_to : 16 ≤ n_to ∧ n_to < 2147483648) (h_a : a ∈ L) (k_a : T a = zJ (K 1) n_a) (b_a : 16 ≤ n_a ∧ n_a < 2147483648) (h_b : b ∈ L) (k_b : T b = zJ (K 1) n_b) (b_b : 16 ≤ n_b ∧ n_b < 2147483648)  : zV E l D vwCl (zT K) yX18_less (zws yX18_less cX18_less 8 none) ROOM_X18_less 0 0 [.ref to, .ref a, .ref b] X Y L T (zSame Y L T) := by
  refine z_ofW (E := E) (Qc := fun A => va_Qv (zSame Y L T) (zB D vwCl (zT K) A X) A) (cc := cX18_less) (maxL := 8) (ret := none) (by decide +kernel) rfl (Nat.le_of_ble_eq_true rfl) ?_
  intro p e s m below meth c A ls hx hb hml hr hts hown hlocks hin hA hK hZ hS hE hl
  have hown : s.vm.findClass RX18 = some m.cls := hown
  have hts : ∀ w ∈ WR, w.before [.ref to, .ref a, .ref b].toArray s = true := fun w h => hts w (List.mem_cons_of_mem _ h)
  have hl : lv_has ls 8 [(0, .ref to), (1, .ref a), (2, .ref b)] := hl
  obtain ⟨H, hH⟩ : ∃ H, H = s.heap := ⟨_, rfl⟩
  have hZ : zP D vwCl A X Y L T H := by rw [hH]; exact hZ
  obtain ⟨locs, hlc⟩ : ∃ q : List Loc, q = [] := ⟨_, rfl⟩
  have hS : va_S A s.heap H locs := by rw [hH, hlc]; exact hS
  suffices hW : W p l e ROOM_X18_less s m [.ref to, .ref a, .ref b].toArray below meth c H locs 0 0 (MQ below (va_Qv (zSame Y L T) (zB D vwCl (zT K) A X) A) [.ref to, .ref a, .ref b].toArray s 0 0 A) (F0 m 0 ls []) by rw [hH, hlc] at hW; exact hW
  clear hH hlc
  refine lv_lconst (v := 0) hx hb dX18_less_0 (by decide +kernel) ?_
  refine lv_lstore_n (lv' := [(3, .long 0), (0, .ref to), (1, .ref a), (2, .ref b)]) hx hb dX18_less_1 rfl hl (by decide) rfl (fun ls hl => ?_)
  refine lv_iconst (v := nI 0) hx hb dX18_less_2 (by decide +kernel) ?_
  refine lv_istore (lv' := [(5, .int (nI 0)), (3, .long 0), (0, .ref to), (1, .ref a), (2, .ref b)]) hx hb dX18_less_3 hl (by decide) rfl (fun ls hl => ?_)
  have L5 : ∀ (n i5 : Nat), i5 ≤ 16 → 16 + 1 ≤ i5 + n → ∀ (v3_5 : Int64) (H : Heap) (locs : List Loc) (ls : Array Slot), zP D vwCl A X Y L T H → va_S A s.heap H locs → lv_has ls 8 [(5, .int (nI i5)), (0, .ref to), (1, .ref a), (2, .ref b), (3, .long v3_5)] → W p l e ROOM_X18_less s m [.ref to, .ref a, .ref b].toArray below meth c H locs 0 0 (MQ below (va_Qv (zSame Y L T) (zB D vwCl (zT K) A X) A) [.ref to, .ref a, .ref b].toArray s 0 0 A) (F0 m 5 ls []) := by
    intro n
    induction n with
    | zero => intro i5 u5 w5; exact absurd w5 (by omega)
    | succ n ih5 =>
      intro i5 u5 w5 v3_5 H locs ls hZ hS hl 
      refine lv_iload hx hb dX18_less_5 (lv_at hl 0 rfl) ?_
      refine lv_bipush (v := nI 16) hx hb dX18_less_7 (by decide +kernel) ?_
      refine lv_icmp_ge (tgt := 54) hx hb dX18_less_9 (by decide) (fun c9 => ?_) (fun c9 => ?_)
      · have e9 : 16 ≤ i5 := (nI_leI (a := 16) (b := i5) (by omega) (by omega)).mp c9
        exact z_vret hx hb hr hlocks hK hZ hS rfl (Nat.le_of_ble_eq_true rfl) (Nat.le_of_ble_eq_true rfl) dX18_less_54
      · have e9 : ¬ 16 ≤ i5 := fun q => c9 ((nI_leI (a := 16) (b := i5) (by omega) (by omega)).mpr q)
        refine lv_aload_n hx hb dX18_less_12 rfl (lv_at hl 2 rfl) ?_
        refine lv_iload hx hb dX18_less_13 (lv_at hl 0 rfl) ?_
        refine z_lald hx hb hK hZ 1 h_a k_a rfl (vp_in_nI (by omega) (by omega)) dX18_less_15 (fun x1 => ?_)
        refine lv_aload_n hx hb dX18_less_16 rfl (lv_at hl 3 rfl) ?_
        refine lv_iload hx hb dX18_less_17 (lv_at hl 0 rfl) ?_
        refine z_lald hx hb hK hZ 1 h_b k_b rfl (vp_in_nI (by omega) (by omega)) dX18_less_19 (fun x2 => ?_)
        refine lv_lsub hx hb dX18_less_20 ?_
        refine lv_topl (fun x3 _ => ?_)
        refine lv_lload_n hx hb dX18_less_21 rfl (lv_at hl 4 rfl) ?_
        refine lv_lsub hx hb dX18_less_22 ?_
        refine lv_topl (fun x4 _ => ?_)
        refine lv_lstore (lv' := [(6, .long x4), (5, .int (nI i5)), (0, .ref to), (1, .ref a), (2, .ref b), (3, .long v3_5)]) hx hb dX18_less_23 hl (by decide) rfl (fun ls hl => ?_)
        refine lv_lload hx hb dX18_less_25 (lv_at hl 0 rfl) ?_
        refine lv_lconst (v := 0) hx hb dX18_less_27 (by decide +kernel) ?_
        refine W.lcmp hx hb dX18_less_28 ?_
        refine lv_topi (fun x5 ex5 => ?_)
        refine lv_if_ge (tgt := 36) hx hb dX18_less_29 (by decide) (fun c29 => ?_) (fun c29 => ?_)
        · refine lv_lconst (v := 0) hx hb dX18_less_36 (by decide +kernel) ?_
          refine lv_lstore_n (lv' := [(3, .long 0), (6, .long x4), (5, .int (nI i5)), (0, .ref to), (1, .ref a), (2, .ref b)]) hx hb dX18_less_37 rfl hl (by decide) rfl (fun ls hl => ?_)
          refine lv_aload_n hx hb dX18_less_38 rfl (lv_at hl 3 rfl) ?_
          refine lv_iload hx hb dX18_less_39 (lv_at hl 2 rfl) ?_
          refine lv_lload hx hb dX18_less_41 (lv_at hl 1 rfl) ?_
          refine lv_ldc2 (v := (65535)) hx hb hown (hts _ zw_25) dX18_less_43 ?_
          refine lv_land hx hb dX18_less_46 ?_
          refine lv_topl (fun x6 _ => ?_)
          refine z_last hx hb hK hZ hS 1 h_to k_to rfl (vp_in_nI (by omega) (by omega)) dX18_less_47 (fun H locs hZ hS => ?_)
          refine lv_iinc (v := nI (i5 + 1)) (lv' := [(5, .int (nI (i5 + 1))), (3, .long 0), (6, .long x4), (0, .ref to), (1, .ref a), (2, .ref b)]) hx hb dX18_less_48 hl (k := 2) rfl (nI_add i5 1) (by decide) rfl (fun ls hl => ?_)
          refine lv_goto (tgt := 5) hx hb dX18_less_51 (by decide) ?_
          exact ih5 (i5 + 1) (by omega) (by omega) 0 _ _ _ hZ hS (lv_sub hl [0, 3, 4, 5, 1] rfl) 
        · refine lv_lconst (v := 1) hx hb dX18_less_32 (by decide +kernel) ?_
          refine lv_goto (tgt := 37) hx hb dX18_less_33 (by decide) ?_
          refine lv_lstore_n (lv' := [(3, .long 1), (6, .long x4), (5, .int (nI i5)), (0, .ref to), (1, .ref a), (2, .ref b)]) hx hb dX18_less_37 rfl hl (by decide) rfl (fun ls hl => ?_)
          refine lv_aload_n hx hb dX18_less_38 rfl (lv_at hl 3 rfl) ?_
          refine lv_iload hx hb dX18_less_39 (lv_at hl 2 rfl) ?_
          refine lv_lload hx hb dX18_less_41 (lv_at hl 1 rfl) ?_
          refine lv_ldc2 (v := (65535)) hx hb hown (hts _ zw_25) dX18_less_43 ?_
          refine lv_land hx hb dX18_less_46 ?_
          refine lv_topl (fun x7 _ => ?_)
          refine z_last hx hb hK hZ hS 1 h_to k_to rfl (vp_in_nI (by omega) (by omega)) dX18_less_47 (fun H locs hZ hS => ?_)
          refine lv_iinc (v := nI (i5 + 1)) (lv' := [(5, .int (nI (i5 + 1))), (3, .long 1), (6, .long x4), (0, .ref to), (1, .ref a), (2, .ref b)]) hx hb dX18_less_48 hl (k := 2) rfl (nI_add i5 1) (by decide) rfl (fun ls hl => ?_)
          refine lv_goto (tgt := 5) hx hb dX18_less_51 (by decide) ?_
          exact ih5 (i5 + 1) (by omega) (by omega) 1 _ _ _ hZ hS (lv_sub hl [0, 3, 4, 5, 1] rfl) 
  exact L5 (16 + 1) 0 (by omega) (by omega) 0 _ _ _ hZ hS (lv_sub hl [0, 2, 3, 4, 1] rfl) 
abbrev ROOM_X18_plus : Room := { frames := 2, cells := 0, slots := 0, locals := 27 }
set_option maxHeartbeats 4000000 in
set_option maxRecDepth 100000 in
/-- plus -/
theorem c_X18_plus (E : zEn) (l : Launch) (D : va_G) (K : Nat → ClassId) (X Y : va_W) (L : List Nat) (T : Nat → va_E → Prop) {to n_to : Nat} {a n_a : Nat} {b n_b : Nat} {mo n_mo : Nat}  (h_to : to ∈ L) (k_to : T to = zJ (K 1) n_to) (b_to : 16 ≤ n_to ∧ n_to < 2147483648) (h_a : a ∈ L) (k_a : T a = zJ (K 1) n_a) (b_a : 16 ≤ n_a ∧ n_a < 2147483648) (h_b : b ∈ L) (k_b : T b = zJ (K 1) n_b) (b_b : 16 ≤ n_b ∧ n_b < 2147483648) (h_mo : mo ∈ L) (k_mo : T mo = zJ (K 1) n_mo) (b_mo : 16 ≤ n_mo ∧ n_mo < 2147483648)  : zV E l D vwCl (zT K) yX18_plus (zws yX18_plus cX18_plus 7 none) ROOM_X18_plus 0 0 [.ref to, .ref a, .ref b, .ref mo] X Y L T (zSame Y L T) := by
  refine z_ofW (E := E) (Qc := fun A => va_Qv (zSame Y L T) (zB D vwCl (zT K) A X) A) (cc := cX18_plus) (maxL := 7) (ret := none) (by decide +kernel) rfl (Nat.le_of_ble_eq_true rfl) ?_
  intro p e s m below meth c A ls hx hb hml hr hts hown hlocks hin hA hK hZ hS hE hl
  have hown : s.vm.findClass RX18 = some m.cls := hown
  have hts : ∀ w ∈ WR, w.before [.ref to, .ref a, .ref b, .ref mo].toArray s = true := fun w h => hts w (List.mem_cons_of_mem _ h)
  have hl : lv_has ls 7 [(0, .ref to), (1, .ref a), (2, .ref b), (3, .ref mo)] := hl
  obtain ⟨H, hH⟩ : ∃ H, H = s.heap := ⟨_, rfl⟩
  have hZ : zP D vwCl A X Y L T H := by rw [hH]; exact hZ
  obtain ⟨locs, hlc⟩ : ∃ q : List Loc, q = [] := ⟨_, rfl⟩
  have hS : va_S A s.heap H locs := by rw [hH, hlc]; exact hS
  suffices hW : W p l e ROOM_X18_plus s m [.ref to, .ref a, .ref b, .ref mo].toArray below meth c H locs 0 0 (MQ below (va_Qv (zSame Y L T) (zB D vwCl (zT K) A X) A) [.ref to, .ref a, .ref b, .ref mo].toArray s 0 0 A) (F0 m 0 ls []) by rw [hH, hlc] at hW; exact hW
  clear hH hlc
  refine lv_lconst (v := 0) hx hb dX18_plus_0 (by decide +kernel) ?_
  refine lv_lstore (lv' := [(4, .long 0), (0, .ref to), (1, .ref a), (2, .ref b), (3, .ref mo)]) hx hb dX18_plus_1 hl (by decide) rfl (fun ls hl => ?_)
  refine lv_iconst (v := nI 0) hx hb dX18_plus_3 (by decide +kernel) ?_
  refine lv_istore (lv' := [(6, .int (nI 0)), (4, .long 0), (0, .ref to), (1, .ref a), (2, .ref b), (3, .ref mo)]) hx hb dX18_plus_4 hl (by decide) rfl (fun ls hl => ?_)
  have L6 : ∀ (n i6 : Nat), i6 ≤ 16 → 16 + 1 ≤ i6 + n → ∀ (v4_6 : Int64) (H : Heap) (locs : List Loc) (ls : Array Slot), zP D vwCl A X Y L T H → va_S A s.heap H locs → lv_has ls 7 [(6, .int (nI i6)), (0, .ref to), (1, .ref a), (2, .ref b), (3, .ref mo), (4, .long v4_6)] → W p l e ROOM_X18_plus s m [.ref to, .ref a, .ref b, .ref mo].toArray below meth c H locs 0 0 (MQ below (va_Qv (zSame Y L T) (zB D vwCl (zT K) A X) A) [.ref to, .ref a, .ref b, .ref mo].toArray s 0 0 A) (F0 m 6 ls []) := by
    intro n
    induction n with
    | zero => intro i6 u6 w6; exact absurd w6 (by omega)
    | succ n ih6 =>
      intro i6 u6 w6 v4_6 H locs ls hZ hS hl 
      refine lv_iload hx hb dX18_plus_6 (lv_at hl 0 rfl) ?_
      refine lv_bipush (v := nI 16) hx hb dX18_plus_8 (by decide +kernel) ?_
      refine lv_icmp_ge (tgt := 50) hx hb dX18_plus_10 (by decide) (fun c10 => ?_) (fun c10 => ?_)
      · have e10 : 16 ≤ i6 := (nI_leI (a := 16) (b := i6) (by omega) (by omega)).mp c10
        refine lv_lload hx hb dX18_plus_50 (lv_at hl 5 rfl) ?_
        refine lv_lconst (v := 0) hx hb dX18_plus_52 (by decide +kernel) ?_
        refine W.lcmp hx hb dX18_plus_53 ?_
        refine lv_topi (fun x1 ex1 => ?_)
        refine lv_if_gt (tgt := 65) hx hb dX18_plus_54 (by decide) (fun c54 => ?_) (fun c54 => ?_)
        · refine lv_aload_n hx hb dX18_plus_65 rfl (lv_at hl 1 rfl) ?_
          refine lv_aload_n hx hb dX18_plus_66 rfl (lv_at hl 1 rfl) ?_
          refine lv_aload_n hx hb dX18_plus_67 rfl (lv_at hl 4 rfl) ?_
          refine z_goV (va_runS (As := [.ref to, .ref to, .ref mo]) (rest := []) ⟨hx, hb, hml, hown, hts⟩ ((c_X18_less E l D K X Y L T h_to k_to ⟨by omega, by omega⟩ h_to k_to ⟨by omega, by omega⟩ h_mo k_mo ⟨by omega, by omega⟩) H.size) (va_cwS 3 hts (zg_S zw_29 zw_24 zw_2 zw_23) rfl rfl rfl (by decide +kernel) ⟨Nat.le_of_ble_eq_true rfl, Nat.le_of_ble_eq_true rfl⟩) (z_preS hK hZ hS hA hE) rfl rfl hl.1 rfl (lv_room (Nat.le_of_ble_eq_true rfl)) dX18_plus_68 ⟨Nat.le_of_ble_eq_true rfl, Nat.le_of_ble_eq_true rfl⟩) hZ hS hA (fun  Y1 L1 T1 H locs hp hZ hS => ?_)
          cases hp
          exact z_vret hx hb hr hlocks hK hZ hS rfl (Nat.le_of_ble_eq_true rfl) (Nat.le_of_ble_eq_true rfl) dX18_plus_71
        · refine lv_aload_n hx hb dX18_plus_57 rfl (lv_at hl 1 rfl) ?_
          refine lv_aload_n hx hb dX18_plus_58 rfl (lv_at hl 4 rfl) ?_
          refine z_goI (va_runS (As := [.ref to, .ref mo]) (rest := []) ⟨hx, hb, hml, hown, hts⟩ ((c_X18_below E l D K X Y L T h_to k_to ⟨by omega, by omega⟩ h_mo k_mo ⟨by omega, by omega⟩) H.size) (va_cwS 2 hts (zg_S zw_28 zw_20 zw_2 zw_19) rfl rfl rfl (by decide +kernel) ⟨Nat.le_of_ble_eq_true rfl, Nat.le_of_ble_eq_true rfl⟩) (z_preS hK hZ hS hA hE) rfl rfl hl.1 rfl (lv_room (Nat.le_of_ble_eq_true rfl)) dX18_plus_59 ⟨Nat.le_of_ble_eq_true rfl, Nat.le_of_ble_eq_true rfl⟩) hZ hS hA (fun x3 Y1 L1 T1 H locs hp hZ hS => ?_)
          cases hp
          refine lv_if_ne (tgt := 71) hx hb dX18_plus_62 (by decide) (fun c62 => ?_) (fun c62 => ?_)
          · exact z_vret hx hb hr hlocks hK hZ hS rfl (Nat.le_of_ble_eq_true rfl) (Nat.le_of_ble_eq_true rfl) dX18_plus_71
          · refine lv_aload_n hx hb dX18_plus_65 rfl (lv_at hl 1 rfl) ?_
            refine lv_aload_n hx hb dX18_plus_66 rfl (lv_at hl 1 rfl) ?_
            refine lv_aload_n hx hb dX18_plus_67 rfl (lv_at hl 4 rfl) ?_
            refine z_goV (va_runS (As := [.ref to, .ref to, .ref mo]) (rest := []) ⟨hx, hb, hml, hown, hts⟩ ((c_X18_less E l D K X Y L T h_to k_to ⟨by omega, by omega⟩ h_to k_to ⟨by omega, by omega⟩ h_mo k_mo ⟨by omega, by omega⟩) H.size) (va_cwS 3 hts (zg_S zw_29 zw_24 zw_2 zw_23) rfl rfl rfl (by decide +kernel) ⟨Nat.le_of_ble_eq_true rfl, Nat.le_of_ble_eq_true rfl⟩) (z_preS hK hZ hS hA hE) rfl rfl hl.1 rfl (lv_room (Nat.le_of_ble_eq_true rfl)) dX18_plus_68 ⟨Nat.le_of_ble_eq_true rfl, Nat.le_of_ble_eq_true rfl⟩) hZ hS hA (fun  Y1 L1 T1 H locs hp hZ hS => ?_)
            cases hp
            exact z_vret hx hb hr hlocks hK hZ hS rfl (Nat.le_of_ble_eq_true rfl) (Nat.le_of_ble_eq_true rfl) dX18_plus_71
      · have e10 : ¬ 16 ≤ i6 := fun q => c10 ((nI_leI (a := 16) (b := i6) (by omega) (by omega)).mpr q)
        refine lv_lload hx hb dX18_plus_13 (lv_at hl 5 rfl) ?_
        refine lv_aload_n hx hb dX18_plus_15 rfl (lv_at hl 2 rfl) ?_
        refine lv_iload hx hb dX18_plus_16 (lv_at hl 0 rfl) ?_
        refine z_lald hx hb hK hZ 1 h_a k_a rfl (vp_in_nI (by omega) (by omega)) dX18_plus_18 (fun x5 => ?_)
        refine lv_aload_n hx hb dX18_plus_19 rfl (lv_at hl 3 rfl) ?_
        refine lv_iload hx hb dX18_plus_20 (lv_at hl 0 rfl) ?_
        refine z_lald hx hb hK hZ 1 h_b k_b rfl (vp_in_nI (by omega) (by omega)) dX18_plus_22 (fun x6 => ?_)
        refine lv_ladd hx hb dX18_plus_23 ?_
        refine lv_topl (fun x7 _ => ?_)
        refine lv_ladd hx hb dX18_plus_24 ?_
        refine lv_topl (fun x8 _ => ?_)
        refine lv_lstore (lv' := [(4, .long x8), (6, .int (nI i6)), (0, .ref to), (1, .ref a), (2, .ref b), (3, .ref mo)]) hx hb dX18_plus_25 hl (by decide) rfl (fun ls hl => ?_)
        refine lv_aload_n hx hb dX18_plus_27 rfl (lv_at hl 2 rfl) ?_
        refine lv_iload hx hb dX18_plus_28 (lv_at hl 1 rfl) ?_
        refine lv_lload hx hb dX18_plus_30 (lv_at hl 0 rfl) ?_
        refine lv_ldc2 (v := (65535)) hx hb hown (hts _ zw_25) dX18_plus_32 ?_
        refine lv_land hx hb dX18_plus_35 ?_
        refine lv_topl (fun x9 _ => ?_)
        refine z_last hx hb hK hZ hS 1 h_to k_to rfl (vp_in_nI (by omega) (by omega)) dX18_plus_36 (fun H locs hZ hS => ?_)
        refine lv_lload hx hb dX18_plus_37 (lv_at hl 0 rfl) ?_
        refine lv_bipush (v := nI 16) hx hb dX18_plus_39 (by decide +kernel) ?_
        refine lv_lshr hx hb dX18_plus_41 rfl ?_
        refine lv_topl (fun x10 _ => ?_)
        refine lv_lstore (lv' := [(4, .long x10), (6, .int (nI i6)), (0, .ref to), (1, .ref a), (2, .ref b), (3, .ref mo)]) hx hb dX18_plus_42 hl (by decide) rfl (fun ls hl => ?_)
        refine lv_iinc (v := nI (i6 + 1)) (lv' := [(6, .int (nI (i6 + 1))), (4, .long x10), (0, .ref to), (1, .ref a), (2, .ref b), (3, .ref mo)]) hx hb dX18_plus_44 hl (k := 1) rfl (nI_add i6 1) (by decide) rfl (fun ls hl => ?_)
        refine lv_goto (tgt := 6) hx hb dX18_plus_47 (by decide) ?_
        exact ih6 (i6 + 1) (by omega) (by omega) x10 _ _ _ hZ hS (lv_sub hl [0, 2, 3, 4, 5, 1] rfl) 
  exact L6 (16 + 1) 0 (by omega) (by omega) 0 _ _ _ hZ hS (lv_sub hl [0, 2, 3, 4, 5, 1] rfl) 
abbrev ROOM_X18_minus : Room := { frames := 1, cells := 0, slots := 0, locals := 0 }
set_option maxHeartbeats 4000000 in
set_option maxRecDepth 100000 in
/-- minus -/
theorem c_X18_minus (E : zEn) (l : Launch) (D : va_G) (K : Nat → ClassId) (X Y : va_W) (L : List Nat) (T : Nat → va_E → Prop) {to n_to : Nat} {a n_a : Nat} {b n_b : Nat} {mo n_mo : Nat}  (h_to : to ∈ L) (k_to : T to = zJ (K 1) n_to) (b_to : 16 ≤ n_to ∧ n_to < 2147483648) (h_a : a ∈ L) (k_a : T a = zJ (K 1) n_a) (b_a : 16 ≤ n_a ∧ n_a < 2147483648) (h_b : b ∈ L) (k_b : T b = zJ (K 1) n_b) (b_b : 16 ≤ n_b ∧ n_b < 2147483648) (h_mo : mo ∈ L) (k_mo : T mo = zJ (K 1) n_mo) (b_mo : 16 ≤ n_mo ∧ n_mo < 2147483648)  : zV E l D vwCl (zT K) yX18_minus (zws yX18_minus cX18_minus 9 none) ROOM_X18_minus 0 0 [.ref to, .ref a, .ref b, .ref mo] X Y L T (zSame Y L T) := by
  refine z_ofW (E := E) (Qc := fun A => va_Qv (zSame Y L T) (zB D vwCl (zT K) A X) A) (cc := cX18_minus) (maxL := 9) (ret := none) (by decide +kernel) rfl (Nat.le_of_ble_eq_true rfl) ?_
  intro p e s m below meth c A ls hx hb hml hr hts hown hlocks hin hA hK hZ hS hE hl
  have hown : s.vm.findClass RX18 = some m.cls := hown
  have hts : ∀ w ∈ WR, w.before [.ref to, .ref a, .ref b, .ref mo].toArray s = true := fun w h => hts w (List.mem_cons_of_mem _ h)
  have hl : lv_has ls 9 [(0, .ref to), (1, .ref a), (2, .ref b), (3, .ref mo)] := hl
  obtain ⟨H, hH⟩ : ∃ H, H = s.heap := ⟨_, rfl⟩
  have hZ : zP D vwCl A X Y L T H := by rw [hH]; exact hZ
  obtain ⟨locs, hlc⟩ : ∃ q : List Loc, q = [] := ⟨_, rfl⟩
  have hS : va_S A s.heap H locs := by rw [hH, hlc]; exact hS
  suffices hW : W p l e ROOM_X18_minus s m [.ref to, .ref a, .ref b, .ref mo].toArray below meth c H locs 0 0 (MQ below (va_Qv (zSame Y L T) (zB D vwCl (zT K) A X) A) [.ref to, .ref a, .ref b, .ref mo].toArray s 0 0 A) (F0 m 0 ls []) by rw [hH, hlc] at hW; exact hW
  clear hH hlc
  refine lv_lconst (v := 0) hx hb dX18_minus_0 (by decide +kernel) ?_
  refine lv_lstore (lv' := [(4, .long 0), (0, .ref to), (1, .ref a), (2, .ref b), (3, .ref mo)]) hx hb dX18_minus_1 hl (by decide) rfl (fun ls hl => ?_)
  refine lv_iconst (v := nI 0) hx hb dX18_minus_3 (by decide +kernel) ?_
  refine lv_istore (lv' := [(6, .int (nI 0)), (4, .long 0), (0, .ref to), (1, .ref a), (2, .ref b), (3, .ref mo)]) hx hb dX18_minus_4 hl (by decide) rfl (fun ls hl => ?_)
  have L6 : ∀ (n i6 : Nat), i6 ≤ 16 → 16 + 1 ≤ i6 + n → ∀ (v4_6 : Int64) (H : Heap) (locs : List Loc) (ls : Array Slot), zP D vwCl A X Y L T H → va_S A s.heap H locs → lv_has ls 9 [(6, .int (nI i6)), (0, .ref to), (1, .ref a), (2, .ref b), (3, .ref mo), (4, .long v4_6)] → W p l e ROOM_X18_minus s m [.ref to, .ref a, .ref b, .ref mo].toArray below meth c H locs 0 0 (MQ below (va_Qv (zSame Y L T) (zB D vwCl (zT K) A X) A) [.ref to, .ref a, .ref b, .ref mo].toArray s 0 0 A) (F0 m 6 ls []) := by
    intro n
    induction n with
    | zero => intro i6 u6 w6; exact absurd w6 (by omega)
    | succ n ih6 =>
      intro i6 u6 w6 v4_6 H locs ls hZ hS hl 
      refine lv_iload hx hb dX18_minus_6 (lv_at hl 0 rfl) ?_
      refine lv_bipush (v := nI 16) hx hb dX18_minus_8 (by decide +kernel) ?_
      refine lv_icmp_ge (tgt := 57) hx hb dX18_minus_10 (by decide) (fun c10 => ?_) (fun c10 => ?_)
      · have e10 : 16 ≤ i6 := (nI_leI (a := 16) (b := i6) (by omega) (by omega)).mp c10
        refine lv_lload hx hb dX18_minus_57 (lv_at hl 5 rfl) ?_
        refine lv_lconst (v := 0) hx hb dX18_minus_59 (by decide +kernel) ?_
        refine W.lcmp hx hb dX18_minus_60 ?_
        refine lv_topi (fun x1 ex1 => ?_)
        refine lv_if_ne (tgt := 65) hx hb dX18_minus_61 (by decide) (fun c61 => ?_) (fun c61 => ?_)
        · refine lv_lconst (v := 0) hx hb dX18_minus_65 (by decide +kernel) ?_
          refine lv_lstore (lv' := [(6, .long 0), (0, .ref to), (1, .ref a), (2, .ref b), (3, .ref mo), (4, .long v4_6)]) hx hb dX18_minus_66 hl (by decide) rfl (fun ls hl => ?_)
          refine lv_iconst (v := nI 0) hx hb dX18_minus_68 (by decide +kernel) ?_
          refine lv_istore (lv' := [(8, .int (nI 0)), (6, .long 0), (0, .ref to), (1, .ref a), (2, .ref b), (3, .ref mo), (4, .long v4_6)]) hx hb dX18_minus_69 hl (by decide) rfl (fun ls hl => ?_)
          have L71 : ∀ (n i71 : Nat), i71 ≤ 16 → 16 + 1 ≤ i71 + n → ∀ (v6_71 : Int64) (H : Heap) (locs : List Loc) (ls : Array Slot), zP D vwCl A X Y L T H → va_S A s.heap H locs → lv_has ls 9 [(8, .int (nI i71)), (0, .ref to), (3, .ref mo), (6, .long v6_71)] → W p l e ROOM_X18_minus s m [.ref to, .ref a, .ref b, .ref mo].toArray below meth c H locs 0 0 (MQ below (va_Qv (zSame Y L T) (zB D vwCl (zT K) A X) A) [.ref to, .ref a, .ref b, .ref mo].toArray s 0 0 A) (F0 m 71 ls []) := by
            intro n
            induction n with
            | zero => intro i71 u71 w71; exact absurd w71 (by omega)
            | succ n ih71 =>
              intro i71 u71 w71 v6_71 H locs ls hZ hS hl 
              refine lv_iload hx hb dX18_minus_71 (lv_at hl 0 rfl) ?_
              refine lv_bipush (v := nI 16) hx hb dX18_minus_73 (by decide +kernel) ?_
              refine lv_icmp_ge (tgt := 115) hx hb dX18_minus_75 (by decide) (fun c75 => ?_) (fun c75 => ?_)
              · have e75 : 16 ≤ i71 := (nI_leI (a := 16) (b := i71) (by omega) (by omega)).mp c75
                exact z_vret hx hb hr hlocks hK hZ hS rfl (Nat.le_of_ble_eq_true rfl) (Nat.le_of_ble_eq_true rfl) dX18_minus_115
              · have e75 : ¬ 16 ≤ i71 := fun q => c75 ((nI_leI (a := 16) (b := i71) (by omega) (by omega)).mpr q)
                refine lv_lload hx hb dX18_minus_78 (lv_at hl 3 rfl) ?_
                refine lv_aload_n hx hb dX18_minus_80 rfl (lv_at hl 1 rfl) ?_
                refine lv_iload hx hb dX18_minus_81 (lv_at hl 0 rfl) ?_
                refine z_lald hx hb hK hZ 1 h_to k_to rfl (vp_in_nI (by omega) (by omega)) dX18_minus_83 (fun x2 => ?_)
                refine lv_aload_n hx hb dX18_minus_84 rfl (lv_at hl 2 rfl) ?_
                refine lv_iload hx hb dX18_minus_85 (lv_at hl 0 rfl) ?_
                refine z_lald hx hb hK hZ 1 h_mo k_mo rfl (vp_in_nI (by omega) (by omega)) dX18_minus_87 (fun x3 => ?_)
                refine lv_ladd hx hb dX18_minus_88 ?_
                refine lv_topl (fun x4 _ => ?_)
                refine lv_ladd hx hb dX18_minus_89 ?_
                refine lv_topl (fun x5 _ => ?_)
                refine lv_lstore (lv' := [(6, .long x5), (8, .int (nI i71)), (0, .ref to), (3, .ref mo)]) hx hb dX18_minus_90 hl (by decide) rfl (fun ls hl => ?_)
                refine lv_aload_n hx hb dX18_minus_92 rfl (lv_at hl 2 rfl) ?_
                refine lv_iload hx hb dX18_minus_93 (lv_at hl 1 rfl) ?_
                refine lv_lload hx hb dX18_minus_95 (lv_at hl 0 rfl) ?_
                refine lv_ldc2 (v := (65535)) hx hb hown (hts _ zw_25) dX18_minus_97 ?_
                refine lv_land hx hb dX18_minus_100 ?_
                refine lv_topl (fun x6 _ => ?_)
                refine z_last hx hb hK hZ hS 1 h_to k_to rfl (vp_in_nI (by omega) (by omega)) dX18_minus_101 (fun H locs hZ hS => ?_)
                refine lv_lload hx hb dX18_minus_102 (lv_at hl 0 rfl) ?_
                refine lv_bipush (v := nI 16) hx hb dX18_minus_104 (by decide +kernel) ?_
                refine lv_lshr hx hb dX18_minus_106 rfl ?_
                refine lv_topl (fun x7 _ => ?_)
                refine lv_lstore (lv' := [(6, .long x7), (8, .int (nI i71)), (0, .ref to), (3, .ref mo)]) hx hb dX18_minus_107 hl (by decide) rfl (fun ls hl => ?_)
                refine lv_iinc (v := nI (i71 + 1)) (lv' := [(8, .int (nI (i71 + 1))), (6, .long x7), (0, .ref to), (3, .ref mo)]) hx hb dX18_minus_109 hl (k := 1) rfl (nI_add i71 1) (by decide) rfl (fun ls hl => ?_)
                refine lv_goto (tgt := 71) hx hb dX18_minus_112 (by decide) ?_
                exact ih71 (i71 + 1) (by omega) (by omega) x7 _ _ _ hZ hS (lv_sub hl [0, 2, 3, 1] rfl) 
          exact L71 (16 + 1) 0 (by omega) (by omega) 0 _ _ _ hZ hS (lv_sub hl [0, 2, 5, 1] rfl) 
        · exact z_vret hx hb hr hlocks hK hZ hS rfl (Nat.le_of_ble_eq_true rfl) (Nat.le_of_ble_eq_true rfl) dX18_minus_64
      · have e10 : ¬ 16 ≤ i6 := fun q => c10 ((nI_leI (a := 16) (b := i6) (by omega) (by omega)).mpr q)
        refine lv_aload_n hx hb dX18_minus_13 rfl (lv_at hl 2 rfl) ?_
        refine lv_iload hx hb dX18_minus_14 (lv_at hl 0 rfl) ?_
        refine z_lald hx hb hK hZ 1 h_a k_a rfl (vp_in_nI (by omega) (by omega)) dX18_minus_16 (fun x8 => ?_)
        refine lv_aload_n hx hb dX18_minus_17 rfl (lv_at hl 3 rfl) ?_
        refine lv_iload hx hb dX18_minus_18 (lv_at hl 0 rfl) ?_
        refine z_lald hx hb hK hZ 1 h_b k_b rfl (vp_in_nI (by omega) (by omega)) dX18_minus_20 (fun x9 => ?_)
        refine lv_lsub hx hb dX18_minus_21 ?_
        refine lv_topl (fun x10 _ => ?_)
        refine lv_lload hx hb dX18_minus_22 (lv_at hl 5 rfl) ?_
        refine lv_lsub hx hb dX18_minus_24 ?_
        refine lv_topl (fun x11 _ => ?_)
        refine lv_lstore (lv' := [(7, .long x11), (6, .int (nI i6)), (0, .ref to), (1, .ref a), (2, .ref b), (3, .ref mo), (4, .long v4_6)]) hx hb dX18_minus_25 hl (by decide) rfl (fun ls hl => ?_)
        refine lv_lload hx hb dX18_minus_27 (lv_at hl 0 rfl) ?_
        refine lv_lconst (v := 0) hx hb dX18_minus_29 (by decide +kernel) ?_
        refine W.lcmp hx hb dX18_minus_30 ?_
        refine lv_topi (fun x12 ex12 => ?_)
        refine lv_if_ge (tgt := 38) hx hb dX18_minus_31 (by decide) (fun c31 => ?_) (fun c31 => ?_)
        · refine lv_lconst (v := 0) hx hb dX18_minus_38 (by decide +kernel) ?_
          refine lv_lstore (lv' := [(4, .long 0), (7, .long x11), (6, .int (nI i6)), (0, .ref to), (1, .ref a), (2, .ref b), (3, .ref mo)]) hx hb dX18_minus_39 hl (by decide) rfl (fun ls hl => ?_)
          refine lv_aload_n hx hb dX18_minus_41 rfl (lv_at hl 3 rfl) ?_
          refine lv_iload hx hb dX18_minus_42 (lv_at hl 2 rfl) ?_
          refine lv_lload hx hb dX18_minus_44 (lv_at hl 1 rfl) ?_
          refine lv_ldc2 (v := (65535)) hx hb hown (hts _ zw_25) dX18_minus_46 ?_
          refine lv_land hx hb dX18_minus_49 ?_
          refine lv_topl (fun x13 _ => ?_)
          refine z_last hx hb hK hZ hS 1 h_to k_to rfl (vp_in_nI (by omega) (by omega)) dX18_minus_50 (fun H locs hZ hS => ?_)
          refine lv_iinc (v := nI (i6 + 1)) (lv' := [(6, .int (nI (i6 + 1))), (4, .long 0), (7, .long x11), (0, .ref to), (1, .ref a), (2, .ref b), (3, .ref mo)]) hx hb dX18_minus_51 hl (k := 2) rfl (nI_add i6 1) (by decide) rfl (fun ls hl => ?_)
          refine lv_goto (tgt := 6) hx hb dX18_minus_54 (by decide) ?_
          exact ih6 (i6 + 1) (by omega) (by omega) 0 _ _ _ hZ hS (lv_sub hl [0, 3, 4, 5, 6, 1] rfl) 
        · refine lv_lconst (v := 1) hx hb dX18_minus_34 (by decide +kernel) ?_
          refine lv_goto (tgt := 39) hx hb dX18_minus_35 (by decide) ?_
          refine lv_lstore (lv' := [(4, .long 1), (7, .long x11), (6, .int (nI i6)), (0, .ref to), (1, .ref a), (2, .ref b), (3, .ref mo)]) hx hb dX18_minus_39 hl (by decide) rfl (fun ls hl => ?_)
          refine lv_aload_n hx hb dX18_minus_41 rfl (lv_at hl 3 rfl) ?_
          refine lv_iload hx hb dX18_minus_42 (lv_at hl 2 rfl) ?_
          refine lv_lload hx hb dX18_minus_44 (lv_at hl 1 rfl) ?_
          refine lv_ldc2 (v := (65535)) hx hb hown (hts _ zw_25) dX18_minus_46 ?_
          refine lv_land hx hb dX18_minus_49 ?_
          refine lv_topl (fun x14 _ => ?_)
          refine z_last hx hb hK hZ hS 1 h_to k_to rfl (vp_in_nI (by omega) (by omega)) dX18_minus_50 (fun H locs hZ hS => ?_)
          refine lv_iinc (v := nI (i6 + 1)) (lv' := [(6, .int (nI (i6 + 1))), (4, .long 1), (7, .long x11), (0, .ref to), (1, .ref a), (2, .ref b), (3, .ref mo)]) hx hb dX18_minus_51 hl (k := 2) rfl (nI_add i6 1) (by decide) rfl (fun ls hl => ?_)
          refine lv_goto (tgt := 6) hx hb dX18_minus_54 (by decide) ?_
          exact ih6 (i6 + 1) (by omega) (by omega) 1 _ _ _ hZ hS (lv_sub hl [0, 3, 4, 5, 6, 1] rfl) 
  exact L6 (16 + 1) 0 (by omega) (by omega) 0 _ _ _ hZ hS (lv_sub hl [0, 2, 3, 4, 5, 1] rfl) 
abbrev ROOM_X18_remainders : Room := { frames := 3, cells := 0, slots := 0, locals := 53 }
set_option maxHeartbeats 4000000 in
set_option maxRecDepth 100000 in
/-- remainders -/
theorem c_X18_remainders (E : zEn) (l : Launch) (D : va_G) (K : Nat → ClassId) (X Y : va_W) (L : List Nat) (T : Nat → va_E → Prop) {t n_t : Nat} {mo n_mo : Nat} {wk n_wk : Nat}  (h_t : t ∈ L) (k_t : T t = zJ (K 1) n_t) (b_t : 256 ≤ n_t ∧ n_t < 2147483648) (h_mo : mo ∈ L) (k_mo : T mo = zJ (K 1) n_mo) (b_mo : 16 ≤ n_mo ∧ n_mo < 2147483648) (h_wk : wk ∈ L) (k_wk : T wk = zJ (K 1) n_wk) (b_wk : 16 ≤ n_wk ∧ n_wk < 2147483648)  : zV E l D vwCl (zT K) yX18_remainders (zws yX18_remainders cX18_remainders 5 none) ROOM_X18_remainders 0 0 [.ref t, .ref mo, .ref wk] X Y L T (zSame Y L T) := by
  refine z_ofW (E := E) (Qc := fun A => va_Qv (zSame Y L T) (zB D vwCl (zT K) A X) A) (cc := cX18_remainders) (maxL := 5) (ret := none) (by decide +kernel) rfl (Nat.le_of_ble_eq_true rfl) ?_
  intro p e s m below meth c A ls hx hb hml hr hts hown hlocks hin hA hK hZ hS hE hl
  have hown : s.vm.findClass RX18 = some m.cls := hown
  have hts : ∀ w ∈ WR, w.before [.ref t, .ref mo, .ref wk].toArray s = true := fun w h => hts w (List.mem_cons_of_mem _ h)
  have hl : lv_has ls 5 [(0, .ref t), (1, .ref mo), (2, .ref wk)] := hl
  obtain ⟨H, hH⟩ : ∃ H, H = s.heap := ⟨_, rfl⟩
  have hZ : zP D vwCl A X Y L T H := by rw [hH]; exact hZ
  obtain ⟨locs, hlc⟩ : ∃ q : List Loc, q = [] := ⟨_, rfl⟩
  have hS : va_S A s.heap H locs := by rw [hH, hlc]; exact hS
  suffices hW : W p l e ROOM_X18_remainders s m [.ref t, .ref mo, .ref wk].toArray below meth c H locs 0 0 (MQ below (va_Qv (zSame Y L T) (zB D vwCl (zT K) A X) A) [.ref t, .ref mo, .ref wk].toArray s 0 0 A) (F0 m 0 ls []) by rw [hH, hlc] at hW; exact hW
  clear hH hlc
  refine lv_aload_n hx hb dX18_remainders_0 rfl (lv_at hl 2 rfl) ?_
  refine lv_iconst (v := nI 1) hx hb dX18_remainders_1 (by decide +kernel) ?_
  refine z_goV (va_runS (As := [.ref wk, .int (nI 1)]) (rest := []) ⟨hx, hb, hml, hown, hts⟩ ((c_X18_set E l D K X Y L T h_wk k_wk ⟨by omega, by omega⟩) H.size) (va_cwS 2 hts (zg_S zw_34 zw_16 zw_2 zw_15) rfl rfl rfl (by decide +kernel) ⟨Nat.le_of_ble_eq_true rfl, Nat.le_of_ble_eq_true rfl⟩) (z_preS hK hZ hS hA hE) rfl rfl hl.1 rfl (lv_room (Nat.le_of_ble_eq_true rfl)) dX18_remainders_2 ⟨Nat.le_of_ble_eq_true rfl, Nat.le_of_ble_eq_true rfl⟩) hZ hS hA (fun  Y1 L1 T1 H locs hp hZ hS => ?_)
  cases hp
  refine lv_iconst (v := nI 0) hx hb dX18_remainders_5 (by decide +kernel) ?_
  refine lv_istore_n (lv' := [(3, .int (nI 0)), (0, .ref t), (1, .ref mo), (2, .ref wk)]) hx hb dX18_remainders_6 rfl hl (by decide) rfl (fun ls hl => ?_)
  have L7 : ∀ (n i7 : Nat), i7 ≤ 496 → 496 + 1 ≤ i7 + n → ∀  (H : Heap) (locs : List Loc) (ls : Array Slot), zP D vwCl A X Y L T H → va_S A s.heap H locs → lv_has ls 5 [(3, .int (nI i7)), (0, .ref t), (1, .ref mo), (2, .ref wk)] → W p l e ROOM_X18_remainders s m [.ref t, .ref mo, .ref wk].toArray below meth c H locs 0 0 (MQ below (va_Qv (zSame Y L T) (zB D vwCl (zT K) A X) A) [.ref t, .ref mo, .ref wk].toArray s 0 0 A) (F0 m 7 ls []) := by
    intro n
    induction n with
    | zero => intro i7 u7 w7; exact absurd w7 (by omega)
    | succ n ih7 =>
      intro i7 u7 w7  H locs ls hZ hS hl 
      refine lv_iload_n hx hb dX18_remainders_7 rfl (lv_at hl 0 rfl) ?_
      refine lv_sipush (v := nI 496) hx hb dX18_remainders_8 (by decide +kernel) ?_
      refine lv_icmp_ge (tgt := 73) hx hb dX18_remainders_11 (by decide) (fun c11 => ?_) (fun c11 => ?_)
      · have e11 : 496 ≤ i7 := (nI_leI (a := 496) (b := i7) (by omega) (by omega)).mp c11
        exact z_vret hx hb hr hlocks hK hZ hS rfl (Nat.le_of_ble_eq_true rfl) (Nat.le_of_ble_eq_true rfl) dX18_remainders_73
      · have e11 : ¬ 496 ≤ i7 := fun q => c11 ((nI_leI (a := 496) (b := i7) (by omega) (by omega)).mpr q)
        refine lv_aload_n hx hb dX18_remainders_14 rfl (lv_at hl 3 rfl) ?_
        refine lv_aload_n hx hb dX18_remainders_15 rfl (lv_at hl 3 rfl) ?_
        refine lv_aload_n hx hb dX18_remainders_16 rfl (lv_at hl 3 rfl) ?_
        refine lv_aload_n hx hb dX18_remainders_17 rfl (lv_at hl 2 rfl) ?_
        refine z_goV (va_runS (As := [.ref wk, .ref wk, .ref wk, .ref mo]) (rest := []) ⟨hx, hb, hml, hown, hts⟩ ((c_X18_plus E l D K X Y L T h_wk k_wk ⟨by omega, by omega⟩ h_wk k_wk ⟨by omega, by omega⟩ h_wk k_wk ⟨by omega, by omega⟩ h_mo k_mo ⟨by omega, by omega⟩) H.size) (va_cwS 4 hts (zg_S zw_35 zw_27 zw_2 zw_26) rfl rfl rfl (by decide +kernel) ⟨Nat.le_of_ble_eq_true rfl, Nat.le_of_ble_eq_true rfl⟩) (z_preS hK hZ hS hA hE) rfl rfl hl.1 rfl (lv_room (Nat.le_of_ble_eq_true rfl)) dX18_remainders_18 ⟨Nat.le_of_ble_eq_true rfl, Nat.le_of_ble_eq_true rfl⟩) hZ hS hA (fun  Y1 L1 T1 H locs hp hZ hS => ?_)
        cases hp
        refine lv_iload_n hx hb dX18_remainders_21 rfl (lv_at hl 0 rfl) ?_
        refine lv_sipush (v := nI 255) hx hb dX18_remainders_22 (by decide +kernel) ?_
        refine lv_icmp_lt (tgt := 67) hx hb dX18_remainders_25 (by decide) (fun c25 => ?_) (fun c25 => ?_)
        · have e25 : i7 < 255 := (nI_ltI (a := i7) (b := 255) (by omega) (by omega)).mp c25
          refine lv_iinc (v := nI (i7 + 1)) (lv' := [(3, .int (nI (i7 + 1))), (0, .ref t), (1, .ref mo), (2, .ref wk)]) hx hb dX18_remainders_67 hl (k := 0) rfl (nI_add i7 1) (by decide) rfl (fun ls hl => ?_)
          refine lv_goto (tgt := 7) hx hb dX18_remainders_70 (by decide) ?_
          exact ih7 (i7 + 1) (by omega) (by omega)  _ _ _ hZ hS (lv_sub hl [0, 1, 2, 3] rfl) 
        · have e25 : ¬ i7 < 255 := fun q => c25 ((nI_ltI (a := i7) (b := 255) (by omega) (by omega)).mpr q)
          refine lv_iload_n hx hb dX18_remainders_28 rfl (lv_at hl 0 rfl) ?_
          refine lv_bipush (v := nI 16) hx hb dX18_remainders_29 (by decide +kernel) ?_
          refine lv_irem hx hb dX18_remainders_31 (by decide +kernel) ?_
          refine lv_topi (fun x3 ex3 => ?_)
          obtain rfl : x3 = nI (i7 % 16) := ex3.trans (pk_rem (by omega) (by omega) (by omega))
          refine lv_bipush (v := nI 15) hx hb dX18_remainders_32 (by decide +kernel) ?_
          refine lv_icmp_ne (tgt := 67) hx hb dX18_remainders_34 (by decide) (fun c34 => ?_) (fun c34 => ?_)
          · have e34 : ¬ (i7 % 16) = 15 := fun q => c34 ((nI_eq (a := (i7 % 16)) (b := 15) (by omega) (by omega)).mpr q)
            refine lv_iinc (v := nI (i7 + 1)) (lv' := [(3, .int (nI (i7 + 1))), (0, .ref t), (1, .ref mo), (2, .ref wk)]) hx hb dX18_remainders_67 hl (k := 0) rfl (nI_add i7 1) (by decide) rfl (fun ls hl => ?_)
            refine lv_goto (tgt := 7) hx hb dX18_remainders_70 (by decide) ?_
            exact ih7 (i7 + 1) (by omega) (by omega)  _ _ _ hZ hS (lv_sub hl [0, 1, 2, 3] rfl) 
          · have e34 : (i7 % 16) = 15 := (nI_eq (a := (i7 % 16)) (b := 15) (by omega) (by omega)).mp c34
            refine lv_iconst (v := nI 0) hx hb dX18_remainders_37 (by decide +kernel) ?_
            refine lv_istore (lv' := [(4, .int (nI 0)), (3, .int (nI i7)), (0, .ref t), (1, .ref mo), (2, .ref wk)]) hx hb dX18_remainders_38 hl (by decide) rfl (fun ls hl => ?_)
            have L40 : ∀ (n i40 : Nat), i40 ≤ 16 → 16 + 1 ≤ i40 + n → ∀  (H : Heap) (locs : List Loc) (ls : Array Slot), zP D vwCl A X Y L T H → va_S A s.heap H locs → lv_has ls 5 [(4, .int (nI i40)), (0, .ref t), (1, .ref mo), (2, .ref wk), (3, .int (nI i7))] → W p l e ROOM_X18_remainders s m [.ref t, .ref mo, .ref wk].toArray below meth c H locs 0 0 (MQ below (va_Qv (zSame Y L T) (zB D vwCl (zT K) A X) A) [.ref t, .ref mo, .ref wk].toArray s 0 0 A) (F0 m 40 ls []) := by
              intro n
              induction n with
              | zero => intro i40 u40 w40; exact absurd w40 (by omega)
              | succ n ih40 =>
                intro i40 u40 w40  H locs ls hZ hS hl 
                refine lv_iload hx hb dX18_remainders_40 (lv_at hl 0 rfl) ?_
                refine lv_bipush (v := nI 16) hx hb dX18_remainders_42 (by decide +kernel) ?_
                refine lv_icmp_ge (tgt := 67) hx hb dX18_remainders_44 (by decide) (fun c44 => ?_) (fun c44 => ?_)
                · have e44 : 16 ≤ i40 := (nI_leI (a := 16) (b := i40) (by omega) (by omega)).mp c44
                  refine lv_iinc (v := nI (i7 + 1)) (lv' := [(3, .int (nI (i7 + 1))), (4, .int (nI i40)), (0, .ref t), (1, .ref mo), (2, .ref wk)]) hx hb dX18_remainders_67 hl (k := 4) rfl (nI_add i7 1) (by decide) rfl (fun ls hl => ?_)
                  refine lv_goto (tgt := 7) hx hb dX18_remainders_70 (by decide) ?_
                  exact ih7 (i7 + 1) (by omega) (by omega)  _ _ _ hZ hS (lv_sub hl [0, 2, 3, 4] rfl) 
                · have e44 : ¬ 16 ≤ i40 := fun q => c44 ((nI_leI (a := 16) (b := i40) (by omega) (by omega)).mpr q)
                  refine lv_aload_n hx hb dX18_remainders_47 rfl (lv_at hl 1 rfl) ?_
                  refine lv_iload_n hx hb dX18_remainders_48 rfl (lv_at hl 4 rfl) ?_
                  refine lv_sipush (v := nI 255) hx hb dX18_remainders_49 (by decide +kernel) ?_
                  refine lv_isub hx hb dX18_remainders_52 ?_
                  refine lv_topi (fun x4 ex4 => ?_)
                  obtain rfl : x4 = nI (i7 - 255) := ex4.trans (pk_sub (by omega))
                  refine lv_iload hx hb dX18_remainders_53 (lv_at hl 0 rfl) ?_
                  refine lv_iadd hx hb dX18_remainders_55 ?_
                  refine lv_topi (fun x5 ex5 => ?_)
                  obtain rfl : x5 = nI ((i7 - 255) + i40) := ex5.trans (nI_add (i7 - 255) i40)
                  refine lv_aload_n hx hb dX18_remainders_56 rfl (lv_at hl 3 rfl) ?_
                  refine lv_iload hx hb dX18_remainders_57 (lv_at hl 0 rfl) ?_
                  refine z_lald hx hb hK hZ 1 h_wk k_wk rfl (vp_in_nI (by omega) (by omega)) dX18_remainders_59 (fun x6 => ?_)
                  refine z_last hx hb hK hZ hS 1 h_t k_t rfl (vp_in_nI (by omega) (by omega)) dX18_remainders_60 (fun H locs hZ hS => ?_)
                  refine lv_iinc (v := nI (i40 + 1)) (lv' := [(4, .int (nI (i40 + 1))), (0, .ref t), (1, .ref mo), (2, .ref wk), (3, .int (nI i7))]) hx hb dX18_remainders_61 hl (k := 0) rfl (nI_add i40 1) (by decide) rfl (fun ls hl => ?_)
                  refine lv_goto (tgt := 40) hx hb dX18_remainders_64 (by decide) ?_
                  exact ih40 (i40 + 1) (by omega) (by omega)  _ _ _ hZ hS (lv_sub hl [0, 1, 2, 3, 4] rfl) 
            exact L40 (16 + 1) 0 (by omega) (by omega)  _ _ _ hZ hS (lv_sub hl [0, 2, 3, 4, 1] rfl) 
  exact L7 (496 + 1) 0 (by omega) (by omega)  _ _ _ hZ hS (lv_sub hl [0, 1, 2, 3] rfl) 
abbrev ROOM_X18_half : Room := { frames := 1, cells := 0, slots := 0, locals := 0 }
set_option maxHeartbeats 4000000 in
set_option maxRecDepth 100000 in
/-- half -/
theorem c_X18_half (E : zEn) (l : Launch) (D : va_G) (K : Nat → ClassId) (X Y : va_W) (L : List Nat) (T : Nat → va_E → Prop) {aa n_aa : Nat} {mo n_mo : Nat}  (h_aa : aa ∈ L) (k_aa : T aa = zJ (K 1) n_aa) (b_aa : 17 ≤ n_aa ∧ n_aa < 2147483648) (h_mo : mo ∈ L) (k_mo : T mo = zJ (K 1) n_mo) (b_mo : 16 ≤ n_mo ∧ n_mo < 2147483648)  : zV E l D vwCl (zT K) yX18_half (zws yX18_half cX18_half 5 none) ROOM_X18_half 0 0 [.ref aa, .ref mo] X Y L T (zSame Y L T) := by
  refine z_ofW (E := E) (Qc := fun A => va_Qv (zSame Y L T) (zB D vwCl (zT K) A X) A) (cc := cX18_half) (maxL := 5) (ret := none) (by decide +kernel) rfl (Nat.le_of_ble_eq_true rfl) ?_
  intro p e s m below meth c A ls hx hb hml hr hts hown hlocks hin hA hK hZ hS hE hl
  have hown : s.vm.findClass RX18 = some m.cls := hown
  have hts : ∀ w ∈ WR, w.before [.ref aa, .ref mo].toArray s = true := fun w h => hts w (List.mem_cons_of_mem _ h)
  have hl : lv_has ls 5 [(0, .ref aa), (1, .ref mo)] := hl
  obtain ⟨H, hH⟩ : ∃ H, H = s.heap := ⟨_, rfl⟩
  have hZ : zP D vwCl A X Y L T H := by rw [hH]; exact hZ
  obtain ⟨locs, hlc⟩ : ∃ q : List Loc, q = [] := ⟨_, rfl⟩
  have hS : va_S A s.heap H locs := by rw [hH, hlc]; exact hS
  suffices hW : W p l e ROOM_X18_half s m [.ref aa, .ref mo].toArray below meth c H locs 0 0 (MQ below (va_Qv (zSame Y L T) (zB D vwCl (zT K) A X) A) [.ref aa, .ref mo].toArray s 0 0 A) (F0 m 0 ls []) by rw [hH, hlc] at hW; exact hW
  clear hH hlc
  have J62 : ∀  (H : Heap) (locs : List Loc) (ls : Array Slot), zP D vwCl A X Y L T H → va_S A s.heap H locs → lv_has ls 5 [(0, .ref aa)] → W p l e ROOM_X18_half s m [.ref aa, .ref mo].toArray below meth c H locs 0 0 (MQ below (va_Qv (zSame Y L T) (zB D vwCl (zT K) A X) A) [.ref aa, .ref mo].toArray s 0 0 A) (F0 m 62 ls []) := by
    intro  H locs ls hZ hS hl 
    refine lv_iconst (v := nI 0) hx hb dX18_half_62 (by decide +kernel) ?_
    refine lv_istore_n (lv' := [(2, .int (nI 0)), (0, .ref aa)]) hx hb dX18_half_63 rfl hl (by decide) rfl (fun ls hl => ?_)
    have L64 : ∀ (n i64 : Nat), i64 ≤ 16 → 16 + 1 ≤ i64 + n → ∀  (H : Heap) (locs : List Loc) (ls : Array Slot), zP D vwCl A X Y L T H → va_S A s.heap H locs → lv_has ls 5 [(2, .int (nI i64)), (0, .ref aa)] → W p l e ROOM_X18_half s m [.ref aa, .ref mo].toArray below meth c H locs 0 0 (MQ below (va_Qv (zSame Y L T) (zB D vwCl (zT K) A X) A) [.ref aa, .ref mo].toArray s 0 0 A) (F0 m 64 ls []) := by
      intro n
      induction n with
      | zero => intro i64 u64 w64; exact absurd w64 (by omega)
      | succ n ih64 =>
        intro i64 u64 w64  H locs ls hZ hS hl 
        refine lv_iload_n hx hb dX18_half_64 rfl (lv_at hl 0 rfl) ?_
        refine lv_bipush (v := nI 16) hx hb dX18_half_65 (by decide +kernel) ?_
        refine lv_icmp_ge (tgt := 95) hx hb dX18_half_67 (by decide) (fun c67 => ?_) (fun c67 => ?_)
        · have e67 : 16 ≤ i64 := (nI_leI (a := 16) (b := i64) (by omega) (by omega)).mp c67
          refine lv_aload_n hx hb dX18_half_95 rfl (lv_at hl 1 rfl) ?_
          refine lv_bipush (v := nI 16) hx hb dX18_half_96 (by decide +kernel) ?_
          refine lv_dup2_11 hx hb dX18_half_98 rfl rfl ?_
          refine z_lald hx hb hK hZ 1 h_aa k_aa rfl (vp_in_nI (by omega) (by omega)) dX18_half_99 (fun x1 => ?_)
          refine lv_iconst (v := nI 1) hx hb dX18_half_100 (by decide +kernel) ?_
          refine lv_lshr hx hb dX18_half_101 rfl ?_
          refine lv_topl (fun x2 _ => ?_)
          refine z_last hx hb hK hZ hS 1 h_aa k_aa rfl (vp_in_nI (by omega) (by omega)) dX18_half_102 (fun H locs hZ hS => ?_)
          exact z_vret hx hb hr hlocks hK hZ hS rfl (Nat.le_of_ble_eq_true rfl) (Nat.le_of_ble_eq_true rfl) dX18_half_103
        · have e67 : ¬ 16 ≤ i64 := fun q => c67 ((nI_leI (a := 16) (b := i64) (by omega) (by omega)).mpr q)
          refine lv_aload_n hx hb dX18_half_70 rfl (lv_at hl 1 rfl) ?_
          refine lv_iload_n hx hb dX18_half_71 rfl (lv_at hl 0 rfl) ?_
          refine lv_aload_n hx hb dX18_half_72 rfl (lv_at hl 1 rfl) ?_
          refine lv_iload_n hx hb dX18_half_73 rfl (lv_at hl 0 rfl) ?_
          refine z_lald hx hb hK hZ 1 h_aa k_aa rfl (vp_in_nI (by omega) (by omega)) dX18_half_74 (fun x3 => ?_)
          refine lv_iconst (v := nI 1) hx hb dX18_half_75 (by decide +kernel) ?_
          refine lv_lshr hx hb dX18_half_76 rfl ?_
          refine lv_topl (fun x4 _ => ?_)
          refine lv_aload_n hx hb dX18_half_77 rfl (lv_at hl 1 rfl) ?_
          refine lv_iload_n hx hb dX18_half_78 rfl (lv_at hl 0 rfl) ?_
          refine lv_iconst (v := nI 1) hx hb dX18_half_79 (by decide +kernel) ?_
          refine lv_iadd hx hb dX18_half_80 ?_
          refine lv_topi (fun x5 ex5 => ?_)
          obtain rfl : x5 = nI (i64 + 1) := ex5.trans (nI_add i64 1)
          refine z_lald hx hb hK hZ 1 h_aa k_aa rfl (vp_in_nI (by omega) (by omega)) dX18_half_81 (fun x6 => ?_)
          refine lv_lconst (v := 1) hx hb dX18_half_82 (by decide +kernel) ?_
          refine lv_land hx hb dX18_half_83 ?_
          refine lv_topl (fun x7 _ => ?_)
          refine lv_bipush (v := nI 15) hx hb dX18_half_84 (by decide +kernel) ?_
          refine lv_lshl hx hb dX18_half_86 rfl ?_
          refine lv_topl (fun x8 _ => ?_)
          refine lv_lor hx hb dX18_half_87 ?_
          refine lv_topl (fun x9 _ => ?_)
          refine z_last hx hb hK hZ hS 1 h_aa k_aa rfl (vp_in_nI (by omega) (by omega)) dX18_half_88 (fun H locs hZ hS => ?_)
          refine lv_iinc (v := nI (i64 + 1)) (lv' := [(2, .int (nI (i64 + 1))), (0, .ref aa)]) hx hb dX18_half_89 hl (k := 0) rfl (nI_add i64 1) (by decide) rfl (fun ls hl => ?_)
          refine lv_goto (tgt := 64) hx hb dX18_half_92 (by decide) ?_
          exact ih64 (i64 + 1) (by omega) (by omega)  _ _ _ hZ hS (lv_sub hl [0, 1] rfl) 
    exact L64 (16 + 1) 0 (by omega) (by omega)  _ _ _ hZ hS (lv_sub hl [0, 1] rfl) 
  refine lv_aload_n hx hb dX18_half_0 rfl (lv_at hl 0 rfl) ?_
  refine lv_iconst (v := nI 0) hx hb dX18_half_1 (by decide +kernel) ?_
  refine z_lald hx hb hK hZ 1 h_aa k_aa rfl (vp_in_nI (by omega) (by omega)) dX18_half_2 (fun x10 => ?_)
  refine lv_lconst (v := 1) hx hb dX18_half_3 (by decide +kernel) ?_
  refine lv_land hx hb dX18_half_4 ?_
  refine lv_topl (fun x11 _ => ?_)
  refine lv_lconst (v := 1) hx hb dX18_half_5 (by decide +kernel) ?_
  refine W.lcmp hx hb dX18_half_6 ?_
  refine lv_topi (fun x12 ex12 => ?_)
  refine lv_if_ne (tgt := 62) hx hb dX18_half_7 (by decide) (fun c7 => ?_) (fun c7 => ?_)
  · exact J62   _ _ _ hZ hS (lv_sub hl [0] rfl)
  · refine lv_lconst (v := 0) hx hb dX18_half_10 (by decide +kernel) ?_
    refine lv_lstore_n (lv' := [(2, .long 0), (0, .ref aa), (1, .ref mo)]) hx hb dX18_half_11 rfl hl (by decide) rfl (fun ls hl => ?_)
    refine lv_iconst (v := nI 0) hx hb dX18_half_12 (by decide +kernel) ?_
    refine lv_istore (lv' := [(4, .int (nI 0)), (2, .long 0), (0, .ref aa), (1, .ref mo)]) hx hb dX18_half_13 hl (by decide) rfl (fun ls hl => ?_)
    have L15 : ∀ (n i15 : Nat), i15 ≤ 16 → 16 + 1 ≤ i15 + n → ∀ (v2_15 : Int64) (H : Heap) (locs : List Loc) (ls : Array Slot), zP D vwCl A X Y L T H → va_S A s.heap H locs → lv_has ls 5 [(4, .int (nI i15)), (0, .ref aa), (1, .ref mo), (2, .long v2_15)] → W p l e ROOM_X18_half s m [.ref aa, .ref mo].toArray below meth c H locs 0 0 (MQ below (va_Qv (zSame Y L T) (zB D vwCl (zT K) A X) A) [.ref aa, .ref mo].toArray s 0 0 A) (F0 m 15 ls []) := by
      intro n
      induction n with
      | zero => intro i15 u15 w15; exact absurd w15 (by omega)
      | succ n ih15 =>
        intro i15 u15 w15 v2_15 H locs ls hZ hS hl 
        refine lv_iload hx hb dX18_half_15 (lv_at hl 0 rfl) ?_
        refine lv_bipush (v := nI 16) hx hb dX18_half_17 (by decide +kernel) ?_
        refine lv_icmp_ge (tgt := 54) hx hb dX18_half_19 (by decide) (fun c19 => ?_) (fun c19 => ?_)
        · have e19 : 16 ≤ i15 := (nI_leI (a := 16) (b := i15) (by omega) (by omega)).mp c19
          refine lv_aload_n hx hb dX18_half_54 rfl (lv_at hl 1 rfl) ?_
          refine lv_bipush (v := nI 16) hx hb dX18_half_55 (by decide +kernel) ?_
          refine lv_dup2_11 hx hb dX18_half_57 rfl rfl ?_
          refine z_lald hx hb hK hZ 1 h_aa k_aa rfl (vp_in_nI (by omega) (by omega)) dX18_half_58 (fun x13 => ?_)
          refine lv_lload_n hx hb dX18_half_59 rfl (lv_at hl 3 rfl) ?_
          refine lv_ladd hx hb dX18_half_60 ?_
          refine lv_topl (fun x14 _ => ?_)
          refine z_last hx hb hK hZ hS 1 h_aa k_aa rfl (vp_in_nI (by omega) (by omega)) dX18_half_61 (fun H locs hZ hS => ?_)
          exact J62   _ _ _ hZ hS (lv_sub hl [1] rfl) 
        · have e19 : ¬ 16 ≤ i15 := fun q => c19 ((nI_leI (a := 16) (b := i15) (by omega) (by omega)).mpr q)
          refine lv_lload_n hx hb dX18_half_22 rfl (lv_at hl 3 rfl) ?_
          refine lv_aload_n hx hb dX18_half_23 rfl (lv_at hl 1 rfl) ?_
          refine lv_iload hx hb dX18_half_24 (lv_at hl 0 rfl) ?_
          refine z_lald hx hb hK hZ 1 h_aa k_aa rfl (vp_in_nI (by omega) (by omega)) dX18_half_26 (fun x15 => ?_)
          refine lv_aload_n hx hb dX18_half_27 rfl (lv_at hl 2 rfl) ?_
          refine lv_iload hx hb dX18_half_28 (lv_at hl 0 rfl) ?_
          refine z_lald hx hb hK hZ 1 h_mo k_mo rfl (vp_in_nI (by omega) (by omega)) dX18_half_30 (fun x16 => ?_)
          refine lv_ladd hx hb dX18_half_31 ?_
          refine lv_topl (fun x17 _ => ?_)
          refine lv_ladd hx hb dX18_half_32 ?_
          refine lv_topl (fun x18 _ => ?_)
          refine lv_lstore_n (lv' := [(2, .long x18), (4, .int (nI i15)), (0, .ref aa), (1, .ref mo)]) hx hb dX18_half_33 rfl hl (by decide) rfl (fun ls hl => ?_)
          refine lv_aload_n hx hb dX18_half_34 rfl (lv_at hl 2 rfl) ?_
          refine lv_iload hx hb dX18_half_35 (lv_at hl 1 rfl) ?_
          refine lv_lload_n hx hb dX18_half_37 rfl (lv_at hl 0 rfl) ?_
          refine lv_ldc2 (v := (65535)) hx hb hown (hts _ zw_25) dX18_half_38 ?_
          refine lv_land hx hb dX18_half_41 ?_
          refine lv_topl (fun x19 _ => ?_)
          refine z_last hx hb hK hZ hS 1 h_aa k_aa rfl (vp_in_nI (by omega) (by omega)) dX18_half_42 (fun H locs hZ hS => ?_)
          refine lv_lload_n hx hb dX18_half_43 rfl (lv_at hl 0 rfl) ?_
          refine lv_bipush (v := nI 16) hx hb dX18_half_44 (by decide +kernel) ?_
          refine lv_lshr hx hb dX18_half_46 rfl ?_
          refine lv_topl (fun x20 _ => ?_)
          refine lv_lstore_n (lv' := [(2, .long x20), (4, .int (nI i15)), (0, .ref aa), (1, .ref mo)]) hx hb dX18_half_47 rfl hl (by decide) rfl (fun ls hl => ?_)
          refine lv_iinc (v := nI (i15 + 1)) (lv' := [(4, .int (nI (i15 + 1))), (2, .long x20), (0, .ref aa), (1, .ref mo)]) hx hb dX18_half_48 hl (k := 1) rfl (nI_add i15 1) (by decide) rfl (fun ls hl => ?_)
          refine lv_goto (tgt := 15) hx hb dX18_half_51 (by decide) ?_
          exact ih15 (i15 + 1) (by omega) (by omega) x20 _ _ _ hZ hS (lv_sub hl [0, 2, 3, 1] rfl) 
    exact L15 (16 + 1) 0 (by omega) (by omega) 0 _ _ _ hZ hS (lv_sub hl [0, 2, 3, 1] rfl) 
abbrev ROOM_X18_halve : Room := { frames := 1, cells := 0, slots := 0, locals := 0 }
set_option maxHeartbeats 4000000 in
set_option maxRecDepth 100000 in
/-- halve -/
theorem c_X18_halve (E : zEn) (l : Launch) (D : va_G) (K : Nat → ClassId) (X Y : va_W) (L : List Nat) (T : Nat → va_E → Prop) {aa n_aa : Nat}  (h_aa : aa ∈ L) (k_aa : T aa = zJ (K 1) n_aa) (b_aa : 16 ≤ n_aa ∧ n_aa < 2147483648)  : zV E l D vwCl (zT K) yX18_halve (zws yX18_halve cX18_halve 2 none) ROOM_X18_halve 0 0 [.ref aa] X Y L T (zSame Y L T) := by
  refine z_ofW (E := E) (Qc := fun A => va_Qv (zSame Y L T) (zB D vwCl (zT K) A X) A) (cc := cX18_halve) (maxL := 2) (ret := none) (by decide +kernel) rfl (Nat.le_of_ble_eq_true rfl) ?_
  intro p e s m below meth c A ls hx hb hml hr hts hown hlocks hin hA hK hZ hS hE hl
  have hown : s.vm.findClass RX18 = some m.cls := hown
  have hts : ∀ w ∈ WR, w.before [.ref aa].toArray s = true := fun w h => hts w (List.mem_cons_of_mem _ h)
  have hl : lv_has ls 2 [(0, .ref aa)] := hl
  obtain ⟨H, hH⟩ : ∃ H, H = s.heap := ⟨_, rfl⟩
  have hZ : zP D vwCl A X Y L T H := by rw [hH]; exact hZ
  obtain ⟨locs, hlc⟩ : ∃ q : List Loc, q = [] := ⟨_, rfl⟩
  have hS : va_S A s.heap H locs := by rw [hH, hlc]; exact hS
  suffices hW : W p l e ROOM_X18_halve s m [.ref aa].toArray below meth c H locs 0 0 (MQ below (va_Qv (zSame Y L T) (zB D vwCl (zT K) A X) A) [.ref aa].toArray s 0 0 A) (F0 m 0 ls []) by rw [hH, hlc] at hW; exact hW
  clear hH hlc
  refine lv_iconst (v := nI 0) hx hb dX18_halve_0 (by decide +kernel) ?_
  refine lv_istore_n (lv' := [(1, .int (nI 0)), (0, .ref aa)]) hx hb dX18_halve_1 rfl hl (by decide) rfl (fun ls hl => ?_)
  have L2 : ∀ (n i2 : Nat), i2 ≤ 16 → 16 + 1 ≤ i2 + n → ∀  (H : Heap) (locs : List Loc) (ls : Array Slot), zP D vwCl A X Y L T H → va_S A s.heap H locs → lv_has ls 2 [(1, .int (nI i2)), (0, .ref aa)] → W p l e ROOM_X18_halve s m [.ref aa].toArray below meth c H locs 0 0 (MQ below (va_Qv (zSame Y L T) (zB D vwCl (zT K) A X) A) [.ref aa].toArray s 0 0 A) (F0 m 2 ls []) := by
    intro n
    induction n with
    | zero => intro i2 u2 w2; exact absurd w2 (by omega)
    | succ n ih2 =>
      intro i2 u2 w2  H locs ls hZ hS hl 
      refine lv_iload_n hx hb dX18_halve_2 rfl (lv_at hl 0 rfl) ?_
      refine lv_bipush (v := nI 16) hx hb dX18_halve_3 (by decide +kernel) ?_
      refine lv_icmp_ge (tgt := 43) hx hb dX18_halve_5 (by decide) (fun c5 => ?_) (fun c5 => ?_)
      · have e5 : 16 ≤ i2 := (nI_leI (a := 16) (b := i2) (by omega) (by omega)).mp c5
        exact z_vret hx hb hr hlocks hK hZ hS rfl (Nat.le_of_ble_eq_true rfl) (Nat.le_of_ble_eq_true rfl) dX18_halve_43
      · have e5 : ¬ 16 ≤ i2 := fun q => c5 ((nI_leI (a := 16) (b := i2) (by omega) (by omega)).mpr q)
        refine lv_aload_n hx hb dX18_halve_8 rfl (lv_at hl 1 rfl) ?_
        refine lv_iload_n hx hb dX18_halve_9 rfl (lv_at hl 0 rfl) ?_
        refine lv_aload_n hx hb dX18_halve_10 rfl (lv_at hl 1 rfl) ?_
        refine lv_iload_n hx hb dX18_halve_11 rfl (lv_at hl 0 rfl) ?_
        refine z_lald hx hb hK hZ 1 h_aa k_aa rfl (vp_in_nI (by omega) (by omega)) dX18_halve_12 (fun x1 => ?_)
        refine lv_iconst (v := nI 1) hx hb dX18_halve_13 (by decide +kernel) ?_
        refine lv_lshr hx hb dX18_halve_14 rfl ?_
        refine lv_topl (fun x2 _ => ?_)
        refine lv_iload_n hx hb dX18_halve_15 rfl (lv_at hl 0 rfl) ?_
        refine lv_bipush (v := nI 15) hx hb dX18_halve_16 (by decide +kernel) ?_
        refine lv_icmp_ge (tgt := 34) hx hb dX18_halve_18 (by decide) (fun c18 => ?_) (fun c18 => ?_)
        · have e18 : 15 ≤ i2 := (nI_leI (a := 15) (b := i2) (by omega) (by omega)).mp c18
          refine lv_lconst (v := 0) hx hb dX18_halve_34 (by decide +kernel) ?_
          refine lv_lor hx hb dX18_halve_35 ?_
          refine lv_topl (fun x3 _ => ?_)
          refine z_last hx hb hK hZ hS 1 h_aa k_aa rfl (vp_in_nI (by omega) (by omega)) dX18_halve_36 (fun H locs hZ hS => ?_)
          refine lv_iinc (v := nI (i2 + 1)) (lv' := [(1, .int (nI (i2 + 1))), (0, .ref aa)]) hx hb dX18_halve_37 hl (k := 0) rfl (nI_add i2 1) (by decide) rfl (fun ls hl => ?_)
          refine lv_goto (tgt := 2) hx hb dX18_halve_40 (by decide) ?_
          exact ih2 (i2 + 1) (by omega) (by omega)  _ _ _ hZ hS (lv_sub hl [0, 1] rfl) 
        · have e18 : ¬ 15 ≤ i2 := fun q => c18 ((nI_leI (a := 15) (b := i2) (by omega) (by omega)).mpr q)
          refine lv_aload_n hx hb dX18_halve_21 rfl (lv_at hl 1 rfl) ?_
          refine lv_iload_n hx hb dX18_halve_22 rfl (lv_at hl 0 rfl) ?_
          refine lv_iconst (v := nI 1) hx hb dX18_halve_23 (by decide +kernel) ?_
          refine lv_iadd hx hb dX18_halve_24 ?_
          refine lv_topi (fun x4 ex4 => ?_)
          obtain rfl : x4 = nI (i2 + 1) := ex4.trans (nI_add i2 1)
          refine z_lald hx hb hK hZ 1 h_aa k_aa rfl (vp_in_nI (by omega) (by omega)) dX18_halve_25 (fun x5 => ?_)
          refine lv_lconst (v := 1) hx hb dX18_halve_26 (by decide +kernel) ?_
          refine lv_land hx hb dX18_halve_27 ?_
          refine lv_topl (fun x6 _ => ?_)
          refine lv_bipush (v := nI 15) hx hb dX18_halve_28 (by decide +kernel) ?_
          refine lv_lshl hx hb dX18_halve_30 rfl ?_
          refine lv_topl (fun x7 _ => ?_)
          refine lv_goto (tgt := 35) hx hb dX18_halve_31 (by decide) ?_
          refine lv_lor hx hb dX18_halve_35 ?_
          refine lv_topl (fun x8 _ => ?_)
          refine z_last hx hb hK hZ hS 1 h_aa k_aa rfl (vp_in_nI (by omega) (by omega)) dX18_halve_36 (fun H locs hZ hS => ?_)
          refine lv_iinc (v := nI (i2 + 1)) (lv' := [(1, .int (nI (i2 + 1))), (0, .ref aa)]) hx hb dX18_halve_37 hl (k := 0) rfl (nI_add i2 1) (by decide) rfl (fun ls hl => ?_)
          refine lv_goto (tgt := 2) hx hb dX18_halve_40 (by decide) ?_
          exact ih2 (i2 + 1) (by omega) (by omega)  _ _ _ hZ hS (lv_sub hl [0, 1] rfl) 
  exact L2 (16 + 1) 0 (by omega) (by omega)  _ _ _ hZ hS (lv_sub hl [0, 1] rfl) 
abbrev ROOM_X18_one : Room := { frames := 1, cells := 0, slots := 0, locals := 0 }
set_option maxHeartbeats 4000000 in
set_option maxRecDepth 100000 in
/-- one -/
theorem c_X18_one (E : zEn) (l : Launch) (D : va_G) (K : Nat → ClassId) (X Y : va_W) (L : List Nat) (T : Nat → va_E → Prop) {aa n_aa : Nat}  (h_aa : aa ∈ L) (k_aa : T aa = zJ (K 1) n_aa) (b_aa : 16 ≤ n_aa ∧ n_aa < 2147483648)  : zVi E l D vwCl (zT K) yX18_one (zws yX18_one cX18_one 2 (some .boolean)) ROOM_X18_one 0 0 [.ref aa] X Y L T (fun _ => zSame Y L T) := by
  refine z_ofW (E := E) (Qc := fun A => va_Qi (fun _ => zSame Y L T) (zB D vwCl (zT K) A X) A) (cc := cX18_one) (maxL := 2) (ret := (some .boolean)) (by decide +kernel) rfl (Nat.le_of_ble_eq_true rfl) ?_
  intro p e s m below meth c A ls hx hb hml hr hts hown hlocks hin hA hK hZ hS hE hl
  have hown : s.vm.findClass RX18 = some m.cls := hown
  have hts : ∀ w ∈ WR, w.before [.ref aa].toArray s = true := fun w h => hts w (List.mem_cons_of_mem _ h)
  have hl : lv_has ls 2 [(0, .ref aa)] := hl
  obtain ⟨H, hH⟩ : ∃ H, H = s.heap := ⟨_, rfl⟩
  have hZ : zP D vwCl A X Y L T H := by rw [hH]; exact hZ
  obtain ⟨locs, hlc⟩ : ∃ q : List Loc, q = [] := ⟨_, rfl⟩
  have hS : va_S A s.heap H locs := by rw [hH, hlc]; exact hS
  suffices hW : W p l e ROOM_X18_one s m [.ref aa].toArray below meth c H locs 0 0 (MQ below (va_Qi (fun _ => zSame Y L T) (zB D vwCl (zT K) A X) A) [.ref aa].toArray s 0 0 A) (F0 m 0 ls []) by rw [hH, hlc] at hW; exact hW
  clear hH hlc
  refine lv_aload_n hx hb dX18_one_0 rfl (lv_at hl 0 rfl) ?_
  refine lv_iconst (v := nI 0) hx hb dX18_one_1 (by decide +kernel) ?_
  refine z_lald hx hb hK hZ 1 h_aa k_aa rfl (vp_in_nI (by omega) (by omega)) dX18_one_2 (fun x1 => ?_)
  refine lv_lconst (v := 1) hx hb dX18_one_3 (by decide +kernel) ?_
  refine W.lcmp hx hb dX18_one_4 ?_
  refine lv_topi (fun x2 ex2 => ?_)
  refine lv_if_eq (tgt := 10) hx hb dX18_one_5 (by decide) (fun c5 => ?_) (fun c5 => ?_)
  · refine lv_iconst (v := nI 1) hx hb dX18_one_10 (by decide +kernel) ?_
    refine lv_istore_n (lv' := [(1, .int (nI 1)), (0, .ref aa)]) hx hb dX18_one_11 rfl hl (by decide) rfl (fun ls hl => ?_)
    have L12 : ∀ (n i12 : Nat), i12 ≤ 16 → 16 + 1 ≤ i12 + n → ∀  (H : Heap) (locs : List Loc) (ls : Array Slot), zP D vwCl A X Y L T H → va_S A s.heap H locs → lv_has ls 2 [(1, .int (nI i12)), (0, .ref aa)] → W p l e ROOM_X18_one s m [.ref aa].toArray below meth c H locs 0 0 (MQ below (va_Qi (fun _ => zSame Y L T) (zB D vwCl (zT K) A X) A) [.ref aa].toArray s 0 0 A) (F0 m 12 ls []) := by
      intro n
      induction n with
      | zero => intro i12 u12 w12; exact absurd w12 (by omega)
      | succ n ih12 =>
        intro i12 u12 w12  H locs ls hZ hS hl 
        refine lv_iload_n hx hb dX18_one_12 rfl (lv_at hl 0 rfl) ?_
        refine lv_bipush (v := nI 16) hx hb dX18_one_13 (by decide +kernel) ?_
        refine lv_icmp_ge (tgt := 34) hx hb dX18_one_15 (by decide) (fun c15 => ?_) (fun c15 => ?_)
        · have e15 : 16 ≤ i12 := (nI_leI (a := 16) (b := i12) (by omega) (by omega)).mp c15
          refine lv_iconst (v := nI 1) hx hb dX18_one_34 (by decide +kernel) ?_
          exact z_iret hx hb hr rfl hlocks hK hZ hS rfl (Nat.le_of_ble_eq_true rfl) (Nat.le_of_ble_eq_true rfl) dX18_one_35
        · have e15 : ¬ 16 ≤ i12 := fun q => c15 ((nI_leI (a := 16) (b := i12) (by omega) (by omega)).mpr q)
          refine lv_aload_n hx hb dX18_one_18 rfl (lv_at hl 1 rfl) ?_
          refine lv_iload_n hx hb dX18_one_19 rfl (lv_at hl 0 rfl) ?_
          refine z_lald hx hb hK hZ 1 h_aa k_aa rfl (vp_in_nI (by omega) (by omega)) dX18_one_20 (fun x3 => ?_)
          refine lv_lconst (v := 0) hx hb dX18_one_21 (by decide +kernel) ?_
          refine W.lcmp hx hb dX18_one_22 ?_
          refine lv_topi (fun x4 ex4 => ?_)
          refine lv_if_eq (tgt := 28) hx hb dX18_one_23 (by decide) (fun c23 => ?_) (fun c23 => ?_)
          · refine lv_iinc (v := nI (i12 + 1)) (lv' := [(1, .int (nI (i12 + 1))), (0, .ref aa)]) hx hb dX18_one_28 hl (k := 0) rfl (nI_add i12 1) (by decide) rfl (fun ls hl => ?_)
            refine lv_goto (tgt := 12) hx hb dX18_one_31 (by decide) ?_
            exact ih12 (i12 + 1) (by omega) (by omega)  _ _ _ hZ hS (lv_sub hl [0, 1] rfl) 
          · refine lv_iconst (v := nI 0) hx hb dX18_one_26 (by decide +kernel) ?_
            exact z_iret hx hb hr rfl hlocks hK hZ hS rfl (Nat.le_of_ble_eq_true rfl) (Nat.le_of_ble_eq_true rfl) dX18_one_27
    exact L12 (16 + 1) 1 (by omega) (by omega)  _ _ _ hZ hS (lv_sub hl [0, 1] rfl) 
  · refine lv_iconst (v := nI 0) hx hb dX18_one_8 (by decide +kernel) ?_
    exact z_iret hx hb hr rfl hlocks hK hZ hS rfl (Nat.le_of_ble_eq_true rfl) (Nat.le_of_ble_eq_true rfl) dX18_one_9
abbrev ROOM_X18_bit : Room := { frames := 1, cells := 0, slots := 0, locals := 0 }
set_option maxHeartbeats 4000000 in
set_option maxRecDepth 100000 in
/-- bit -/
theorem c_X18_bit (E : zEn) (l : Launch) (D : va_G) (K : Nat → ClassId) (X Y : va_W) (L : List Nat) (T : Nat → va_E → Prop) {aa n_aa : Nat} {i : Nat}  (h_aa : aa ∈ L) (k_aa : T aa = zJ (K 1) n_aa) (b_aa : 16 ≤ n_aa ∧ n_aa < 2147483648) (b_i : i ≤ 255)  : zVi E l D vwCl (zT K) yX18_bit (zws yX18_bit cX18_bit 2 (some .int)) ROOM_X18_bit 0 0 [.ref aa, .int (nI i)] X Y L T (fun _ => zSame Y L T) := by
  refine z_ofW (E := E) (Qc := fun A => va_Qi (fun _ => zSame Y L T) (zB D vwCl (zT K) A X) A) (cc := cX18_bit) (maxL := 2) (ret := (some .int)) (by decide +kernel) rfl (Nat.le_of_ble_eq_true rfl) ?_
  intro p e s m below meth c A ls hx hb hml hr hts hown hlocks hin hA hK hZ hS hE hl
  have hown : s.vm.findClass RX18 = some m.cls := hown
  have hts : ∀ w ∈ WR, w.before [.ref aa, .int (nI i)].toArray s = true := fun w h => hts w (List.mem_cons_of_mem _ h)
  have hl : lv_has ls 2 [(0, .ref aa), (1, .int (nI i))] := hl
  obtain ⟨H, hH⟩ : ∃ H, H = s.heap := ⟨_, rfl⟩
  have hZ : zP D vwCl A X Y L T H := by rw [hH]; exact hZ
  obtain ⟨locs, hlc⟩ : ∃ q : List Loc, q = [] := ⟨_, rfl⟩
  have hS : va_S A s.heap H locs := by rw [hH, hlc]; exact hS
  suffices hW : W p l e ROOM_X18_bit s m [.ref aa, .int (nI i)].toArray below meth c H locs 0 0 (MQ below (va_Qi (fun _ => zSame Y L T) (zB D vwCl (zT K) A X) A) [.ref aa, .int (nI i)].toArray s 0 0 A) (F0 m 0 ls []) by rw [hH, hlc] at hW; exact hW
  clear hH hlc
  refine lv_aload_n hx hb dX18_bit_0 rfl (lv_at hl 0 rfl) ?_
  refine lv_iload_n hx hb dX18_bit_1 rfl (lv_at hl 1 rfl) ?_
  refine lv_iconst (v := nI 4) hx hb dX18_bit_2 (by decide +kernel) ?_
  refine lv_ishr hx hb dX18_bit_3 ?_
  refine lv_topi (fun x1 ex1 => ?_)
  obtain rfl : x1 = nI (i / 16) := ex1.trans (pk_shrN (by omega) (nI 4 &&& 31) 4 (by decide +kernel))
  refine z_lald hx hb hK hZ 1 h_aa k_aa rfl (vp_in_nI (by omega) (by omega)) dX18_bit_4 (fun x2 => ?_)
  refine lv_iload_n hx hb dX18_bit_5 rfl (lv_at hl 1 rfl) ?_
  refine lv_bipush (v := nI 15) hx hb dX18_bit_6 (by decide +kernel) ?_
  refine lv_iand hx hb dX18_bit_8 ?_
  refine lv_topi (fun x3 ex3 => ?_)
  obtain ⟨jx3, bx3, rfl⟩ : ∃ j : Nat, j < 16 ∧ x3 = nI j := by obtain ⟨j, h1, h2⟩ := pk_andE (nI i) (m := nI 15) 4 (by decide +kernel); exact ⟨j, h1, ex3.trans h2⟩
  refine lv_lshr hx hb dX18_bit_9 rfl ?_
  refine lv_topl (fun x4 _ => ?_)
  refine lv_lconst (v := 1) hx hb dX18_bit_10 (by decide +kernel) ?_
  refine lv_land hx hb dX18_bit_11 ?_
  refine lv_topl (fun x5 _ => ?_)
  refine lv_l2i hx hb dX18_bit_12 rfl ?_
  refine lv_topi (fun x6 ex6 => ?_)
  exact z_iret hx hb hr rfl hlocks hK hZ hS rfl (Nat.le_of_ble_eq_true rfl) (Nat.le_of_ble_eq_true rfl) dX18_bit_13
abbrev ROOM_X18_reduce : Room := { frames := 2, cells := 0, slots := 0, locals := 27 }
set_option maxHeartbeats 4000000 in
set_option maxRecDepth 100000 in
/-- reduce -/
theorem c_X18_reduce (E : zEn) (l : Launch) (D : va_G) (K : Nat → ClassId) (X Y : va_W) (L : List Nat) (T : Nat → va_E → Prop) {th : Nat} {vs_th : List Value} {product n_product : Nat} {sum n_sum : Nat} {to n_to : Nat} {mo n_mo : Nat} {t n_t : Nat}  (h_th : th ∈ L) (k_th : T th = zO 15 vs_th) (f_th_0 : vs_th[0]? = some (.ref product)) (h_product : product ∈ L) (k_product : T product = zJ (K 1) n_product) (b_product : 32 ≤ n_product ∧ n_product < 2147483648) (f_th_1 : vs_th[1]? = some (.ref sum)) (h_sum : sum ∈ L) (k_sum : T sum = zJ (K 1) n_sum) (b_sum : 18 ≤ n_sum ∧ n_sum < 2147483648) (h_to : to ∈ L) (k_to : T to = zJ (K 1) n_to) (b_to : 16 ≤ n_to ∧ n_to < 2147483648) (h_mo : mo ∈ L) (k_mo : T mo = zJ (K 1) n_mo) (b_mo : 16 ≤ n_mo ∧ n_mo < 2147483648) (h_t : t ∈ L) (k_t : T t = zJ (K 1) n_t) (b_t : 256 ≤ n_t ∧ n_t < 2147483648)  : zV E l D vwCl (zT K) yX18_reduce (zws yX18_reduce cX18_reduce 10 none) ROOM_X18_reduce 0 0 [.ref th, .ref to, .ref mo, .ref t] X Y L T (zSame Y L T) := by
  refine z_ofW (E := E) (Qc := fun A => va_Qv (zSame Y L T) (zB D vwCl (zT K) A X) A) (cc := cX18_reduce) (maxL := 10) (ret := none) (by decide +kernel) rfl (Nat.le_of_ble_eq_true rfl) ?_
  intro p e s m below meth c A ls hx hb hml hr hts hown hlocks hin hA hK hZ hS hE hl
  have hown : s.vm.findClass RX18 = some m.cls := hown
  have hts : ∀ w ∈ WR, w.before [.ref th, .ref to, .ref mo, .ref t].toArray s = true := fun w h => hts w (List.mem_cons_of_mem _ h)
  have hl : lv_has ls 10 [(0, .ref th), (1, .ref to), (2, .ref mo), (3, .ref t)] := hl
  obtain ⟨H, hH⟩ : ∃ H, H = s.heap := ⟨_, rfl⟩
  have hZ : zP D vwCl A X Y L T H := by rw [hH]; exact hZ
  obtain ⟨locs, hlc⟩ : ∃ q : List Loc, q = [] := ⟨_, rfl⟩
  have hS : va_S A s.heap H locs := by rw [hH, hlc]; exact hS
  suffices hW : W p l e ROOM_X18_reduce s m [.ref th, .ref to, .ref mo, .ref t].toArray below meth c H locs 0 0 (MQ below (va_Qv (zSame Y L T) (zB D vwCl (zT K) A X) A) [.ref th, .ref to, .ref mo, .ref t].toArray s 0 0 A) (F0 m 0 ls []) by rw [hH, hlc] at hW; exact hW
  clear hH hlc
  have J247 : ∀  (H : Heap) (locs : List Loc) (ls : Array Slot), zP D vwCl A X Y L T H → va_S A s.heap H locs → lv_has ls 10 [] → W p l e ROOM_X18_reduce s m [.ref th, .ref to, .ref mo, .ref t].toArray below meth c H locs 0 0 (MQ below (va_Qv (zSame Y L T) (zB D vwCl (zT K) A X) A) [.ref th, .ref to, .ref mo, .ref t].toArray s 0 0 A) (F0 m 247 ls []) := by
    intro  H locs ls hZ hS hl 
    exact z_vret hx hb hr hlocks hK hZ hS rfl (Nat.le_of_ble_eq_true rfl) (Nat.le_of_ble_eq_true rfl) dX18_reduce_247
  refine lv_iconst (v := nI 0) hx hb dX18_reduce_0 (by decide +kernel) ?_
  refine lv_istore (lv' := [(4, .int (nI 0)), (0, .ref th), (1, .ref to), (2, .ref mo), (3, .ref t)]) hx hb dX18_reduce_1 hl (by decide) rfl (fun ls hl => ?_)
  have L3 : ∀ (n i3 : Nat), i3 ≤ 16 → 16 + 1 ≤ i3 + n → ∀  (H : Heap) (locs : List Loc) (ls : Array Slot), zP D vwCl A X Y L T H → va_S A s.heap H locs → lv_has ls 10 [(4, .int (nI i3)), (0, .ref th), (1, .ref to), (2, .ref mo), (3, .ref t)] → W p l e ROOM_X18_reduce s m [.ref th, .ref to, .ref mo, .ref t].toArray below meth c H locs 0 0 (MQ below (va_Qv (zSame Y L T) (zB D vwCl (zT K) A X) A) [.ref th, .ref to, .ref mo, .ref t].toArray s 0 0 A) (F0 m 3 ls []) := by
    intro n
    induction n with
    | zero => intro i3 u3 w3; exact absurd w3 (by omega)
    | succ n ih3 =>
      intro i3 u3 w3  H locs ls hZ hS hl 
      refine lv_iload hx hb dX18_reduce_3 (lv_at hl 0 rfl) ?_
      refine lv_bipush (v := nI 16) hx hb dX18_reduce_5 (by decide +kernel) ?_
      refine lv_icmp_ge (tgt := 76) hx hb dX18_reduce_7 (by decide) (fun c7 => ?_) (fun c7 => ?_)
      · have e7 : 16 ≤ i3 := (nI_leI (a := 16) (b := i3) (by omega) (by omega)).mp c7
        have J190 : ∀  (H : Heap) (locs : List Loc) (ls : Array Slot), zP D vwCl A X Y L T H → va_S A s.heap H locs → lv_has ls 10 [(0, .ref th), (1, .ref to), (2, .ref mo)] → W p l e ROOM_X18_reduce s m [.ref th, .ref to, .ref mo, .ref t].toArray below meth c H locs 0 0 (MQ below (va_Qv (zSame Y L T) (zB D vwCl (zT K) A X) A) [.ref th, .ref to, .ref mo, .ref t].toArray s 0 0 A) (F0 m 190 ls []) := by
          intro  H locs ls hZ hS hl 
          refine lv_iconst (v := nI 0) hx hb dX18_reduce_190 (by decide +kernel) ?_
          refine lv_istore (lv' := [(6, .int (nI 0)), (0, .ref th), (1, .ref to), (2, .ref mo)]) hx hb dX18_reduce_191 hl (by decide) rfl (fun ls hl => ?_)
          have L193 : ∀ (n i193 : Nat), i193 ≤ 16 → 16 + 1 ≤ i193 + n → ∀  (H : Heap) (locs : List Loc) (ls : Array Slot), zP D vwCl A X Y L T H → va_S A s.heap H locs → lv_has ls 10 [(6, .int (nI i193)), (0, .ref th), (1, .ref to), (2, .ref mo)] → W p l e ROOM_X18_reduce s m [.ref th, .ref to, .ref mo, .ref t].toArray below meth c H locs 0 0 (MQ below (va_Qv (zSame Y L T) (zB D vwCl (zT K) A X) A) [.ref th, .ref to, .ref mo, .ref t].toArray s 0 0 A) (F0 m 193 ls []) := by
            intro n
            induction n with
            | zero => intro i193 u193 w193; exact absurd w193 (by omega)
            | succ n ih193 =>
              intro i193 u193 w193  H locs ls hZ hS hl 
              refine lv_iload hx hb dX18_reduce_193 (lv_at hl 0 rfl) ?_
              refine lv_bipush (v := nI 16) hx hb dX18_reduce_195 (by decide +kernel) ?_
              refine lv_icmp_ge (tgt := 217) hx hb dX18_reduce_197 (by decide) (fun c197 => ?_) (fun c197 => ?_)
              · have e197 : 16 ≤ i193 := (nI_leI (a := 16) (b := i193) (by omega) (by omega)).mp c197
                refine lv_iconst (v := nI 0) hx hb dX18_reduce_217 (by decide +kernel) ?_
                refine lv_istore (lv' := [(6, .int (nI 0)), (0, .ref th), (1, .ref to), (2, .ref mo)]) hx hb dX18_reduce_218 hl (by decide) rfl (fun ls hl => ?_)
                have L220 : ∀ (n i220 : Nat), i220 ≤ 16 → 16 + 1 ≤ i220 + n → ∀  (H : Heap) (locs : List Loc) (ls : Array Slot), zP D vwCl A X Y L T H → va_S A s.heap H locs → lv_has ls 10 [(6, .int (nI i220)), (0, .ref th), (1, .ref to), (2, .ref mo)] → W p l e ROOM_X18_reduce s m [.ref th, .ref to, .ref mo, .ref t].toArray below meth c H locs 0 0 (MQ below (va_Qv (zSame Y L T) (zB D vwCl (zT K) A X) A) [.ref th, .ref to, .ref mo, .ref t].toArray s 0 0 A) (F0 m 220 ls []) := by
                  intro n
                  induction n with
                  | zero => intro i220 u220 w220; exact absurd w220 (by omega)
                  | succ n ih220 =>
                    intro i220 u220 w220  H locs ls hZ hS hl 
                    refine lv_iload hx hb dX18_reduce_220 (lv_at hl 0 rfl) ?_
                    refine lv_bipush (v := nI 16) hx hb dX18_reduce_222 (by decide +kernel) ?_
                    refine lv_icmp_ge (tgt := 247) hx hb dX18_reduce_224 (by decide) (fun c224 => ?_) (fun c224 => ?_)
                    · have e224 : 16 ≤ i220 := (nI_leI (a := 16) (b := i220) (by omega) (by omega)).mp c224
                      exact J247   _ _ _ hZ hS (lv_sub hl [] rfl) 
                    · have e224 : ¬ 16 ≤ i220 := fun q => c224 ((nI_leI (a := 16) (b := i220) (by omega) (by omega)).mpr q)
                      refine lv_aload_n hx hb dX18_reduce_227 rfl (lv_at hl 2 rfl) ?_
                      refine lv_aload_n hx hb dX18_reduce_228 rfl (lv_at hl 3 rfl) ?_
                      refine z_goI (va_runS (As := [.ref to, .ref mo]) (rest := []) ⟨hx, hb, hml, hown, hts⟩ ((c_X18_below E l D K X Y L T h_to k_to ⟨by omega, by omega⟩ h_mo k_mo ⟨by omega, by omega⟩) H.size) (va_cwS 2 hts (zg_S zw_28 zw_20 zw_2 zw_19) rfl rfl rfl (by decide +kernel) ⟨Nat.le_of_ble_eq_true rfl, Nat.le_of_ble_eq_true rfl⟩) (z_preS hK hZ hS hA hE) rfl rfl hl.1 rfl (lv_room (Nat.le_of_ble_eq_true rfl)) dX18_reduce_229 ⟨Nat.le_of_ble_eq_true rfl, Nat.le_of_ble_eq_true rfl⟩) hZ hS hA (fun x1 Y1 L1 T1 H locs hp hZ hS => ?_)
                      cases hp
                      refine lv_if_ne (tgt := 247) hx hb dX18_reduce_232 (by decide) (fun c232 => ?_) (fun c232 => ?_)
                      · exact J247   _ _ _ hZ hS (lv_sub hl [] rfl)
                      · refine lv_aload_n hx hb dX18_reduce_235 rfl (lv_at hl 2 rfl) ?_
                        refine lv_aload_n hx hb dX18_reduce_236 rfl (lv_at hl 2 rfl) ?_
                        refine lv_aload_n hx hb dX18_reduce_237 rfl (lv_at hl 3 rfl) ?_
                        refine z_goV (va_runS (As := [.ref to, .ref to, .ref mo]) (rest := []) ⟨hx, hb, hml, hown, hts⟩ ((c_X18_less E l D K X Y L T h_to k_to ⟨by omega, by omega⟩ h_to k_to ⟨by omega, by omega⟩ h_mo k_mo ⟨by omega, by omega⟩) H.size) (va_cwS 3 hts (zg_S zw_29 zw_24 zw_2 zw_23) rfl rfl rfl (by decide +kernel) ⟨Nat.le_of_ble_eq_true rfl, Nat.le_of_ble_eq_true rfl⟩) (z_preS hK hZ hS hA hE) rfl rfl hl.1 rfl (lv_room (Nat.le_of_ble_eq_true rfl)) dX18_reduce_238 ⟨Nat.le_of_ble_eq_true rfl, Nat.le_of_ble_eq_true rfl⟩) hZ hS hA (fun  Y1 L1 T1 H locs hp hZ hS => ?_)
                        cases hp
                        refine lv_iinc (v := nI (i220 + 1)) (lv' := [(6, .int (nI (i220 + 1))), (0, .ref th), (1, .ref to), (2, .ref mo)]) hx hb dX18_reduce_241 hl (k := 0) rfl (nI_add i220 1) (by decide) rfl (fun ls hl => ?_)
                        refine lv_goto (tgt := 220) hx hb dX18_reduce_244 (by decide) ?_
                        exact ih220 (i220 + 1) (by omega) (by omega)  _ _ _ hZ hS (lv_sub hl [0, 1, 2, 3] rfl) 
                exact L220 (16 + 1) 0 (by omega) (by omega)  _ _ _ hZ hS (lv_sub hl [0, 1, 2, 3] rfl) 
              · have e197 : ¬ 16 ≤ i193 := fun q => c197 ((nI_leI (a := 16) (b := i193) (by omega) (by omega)).mpr q)
                refine lv_aload_n hx hb dX18_reduce_200 rfl (lv_at hl 2 rfl) ?_
                refine lv_iload hx hb dX18_reduce_201 (lv_at hl 0 rfl) ?_
                refine lv_aload_n hx hb dX18_reduce_203 rfl (lv_at hl 1 rfl) ?_
                refine z_getP (own := RX18) (C := RX14) (TT := TX14) (N := 42) (ci := 15) (Ts := WR) hx hb hts zin_wsX140 hown hK hZ h_th k_th rfl 1 (by decide) (hts _ zw_8) (fun _ h9 => h9) f_th_1 dX18_reduce_204 ?_
                refine lv_iload hx hb dX18_reduce_207 (lv_at hl 0 rfl) ?_
                refine z_lald hx hb hK hZ 1 h_sum k_sum rfl (vp_in_nI (by omega) (by omega)) dX18_reduce_209 (fun x3 => ?_)
                refine z_last hx hb hK hZ hS 1 h_to k_to rfl (vp_in_nI (by omega) (by omega)) dX18_reduce_210 (fun H locs hZ hS => ?_)
                refine lv_iinc (v := nI (i193 + 1)) (lv' := [(6, .int (nI (i193 + 1))), (0, .ref th), (1, .ref to), (2, .ref mo)]) hx hb dX18_reduce_211 hl (k := 0) rfl (nI_add i193 1) (by decide) rfl (fun ls hl => ?_)
                refine lv_goto (tgt := 193) hx hb dX18_reduce_214 (by decide) ?_
                exact ih193 (i193 + 1) (by omega) (by omega)  _ _ _ hZ hS (lv_sub hl [0, 1, 2, 3] rfl) 
          exact L193 (16 + 1) 0 (by omega) (by omega)  _ _ _ hZ hS (lv_sub hl [0, 1, 2, 3] rfl) 
        refine lv_lconst (v := 1) hx hb dX18_reduce_76 (by decide +kernel) ?_
        refine lv_lstore (lv' := [(4, .long 1), (0, .ref th), (1, .ref to), (2, .ref mo), (3, .ref t)]) hx hb dX18_reduce_77 hl (by decide) rfl (fun ls hl => ?_)
        refine lv_iconst (v := nI 0) hx hb dX18_reduce_79 (by decide +kernel) ?_
        refine lv_istore (lv' := [(6, .int (nI 0)), (4, .long 1), (0, .ref th), (1, .ref to), (2, .ref mo), (3, .ref t)]) hx hb dX18_reduce_80 hl (by decide) rfl (fun ls hl => ?_)
        have L82 : ∀ (n i82 : Nat), i82 ≤ 9 → 9 + 1 ≤ i82 + n → ∀ (v4_82 : Int64) (H : Heap) (locs : List Loc) (ls : Array Slot), zP D vwCl A X Y L T H → va_S A s.heap H locs → lv_has ls 10 [(6, .int (nI i82)), (0, .ref th), (1, .ref to), (2, .ref mo), (3, .ref t), (4, .long v4_82)] → W p l e ROOM_X18_reduce s m [.ref th, .ref to, .ref mo, .ref t].toArray below meth c H locs 0 0 (MQ below (va_Qv (zSame Y L T) (zB D vwCl (zT K) A X) A) [.ref th, .ref to, .ref mo, .ref t].toArray s 0 0 A) (F0 m 82 ls []) := by
          intro n
          induction n with
          | zero => intro i82 u82 w82; exact absurd w82 (by omega)
          | succ n ih82 =>
            intro i82 u82 w82 v4_82 H locs ls hZ hS hl 
            refine lv_iload hx hb dX18_reduce_82 (lv_at hl 0 rfl) ?_
            refine lv_bipush (v := nI 9) hx hb dX18_reduce_84 (by decide +kernel) ?_
            refine lv_icmp_ge (tgt := 190) hx hb dX18_reduce_86 (by decide) (fun c86 => ?_) (fun c86 => ?_)
            · have e86 : 9 ≤ i82 := (nI_leI (a := 9) (b := i82) (by omega) (by omega)).mp c86
              exact J190   _ _ _ hZ hS (lv_sub hl [1, 2, 3] rfl) 
            · have e86 : ¬ 9 ≤ i82 := fun q => c86 ((nI_leI (a := 9) (b := i82) (by omega) (by omega)).mpr q)
              refine lv_lload hx hb dX18_reduce_89 (lv_at hl 5 rfl) ?_
              refine lv_lconst (v := 0) hx hb dX18_reduce_91 (by decide +kernel) ?_
              refine W.lcmp hx hb dX18_reduce_92 ?_
              refine lv_topi (fun x4 ex4 => ?_)
              refine lv_if_le (tgt := 190) hx hb dX18_reduce_93 (by decide) (fun c93 => ?_) (fun c93 => ?_)
              · exact J190   _ _ _ hZ hS (lv_sub hl [1, 2, 3] rfl)
              · refine lv_lconst (v := 0) hx hb dX18_reduce_96 (by decide +kernel) ?_
                refine lv_lstore (lv' := [(7, .long 0), (6, .int (nI i82)), (0, .ref th), (1, .ref to), (2, .ref mo), (3, .ref t), (4, .long v4_82)]) hx hb dX18_reduce_97 hl (by decide) rfl (fun ls hl => ?_)
                refine lv_iconst (v := nI 0) hx hb dX18_reduce_99 (by decide +kernel) ?_
                refine lv_istore (lv' := [(9, .int (nI 0)), (7, .long 0), (6, .int (nI i82)), (0, .ref th), (1, .ref to), (2, .ref mo), (3, .ref t), (4, .long v4_82)]) hx hb dX18_reduce_100 hl (by decide) rfl (fun ls hl => ?_)
                have L102 : ∀ (n i102 : Nat), i102 ≤ 16 → 16 + 1 ≤ i102 + n → ∀ (v7_102 : Int64) (H : Heap) (locs : List Loc) (ls : Array Slot), zP D vwCl A X Y L T H → va_S A s.heap H locs → lv_has ls 10 [(9, .int (nI i102)), (0, .ref th), (1, .ref to), (2, .ref mo), (3, .ref t), (6, .int (nI i82)), (7, .long v7_102)] → W p l e ROOM_X18_reduce s m [.ref th, .ref to, .ref mo, .ref t].toArray below meth c H locs 0 0 (MQ below (va_Qv (zSame Y L T) (zB D vwCl (zT K) A X) A) [.ref th, .ref to, .ref mo, .ref t].toArray s 0 0 A) (F0 m 102 ls []) := by
                  intro n
                  induction n with
                  | zero => intro i102 u102 w102; exact absurd w102 (by omega)
                  | succ n ih102 =>
                    intro i102 u102 w102 v7_102 H locs ls hZ hS hl 
                    refine lv_iload hx hb dX18_reduce_102 (lv_at hl 0 rfl) ?_
                    refine lv_bipush (v := nI 16) hx hb dX18_reduce_104 (by decide +kernel) ?_
                    refine lv_icmp_ge (tgt := 147) hx hb dX18_reduce_106 (by decide) (fun c106 => ?_) (fun c106 => ?_)
                    · have e106 : 16 ≤ i102 := (nI_leI (a := 16) (b := i102) (by omega) (by omega)).mp c106
                      refine lv_lload hx hb dX18_reduce_147 (lv_at hl 6 rfl) ?_
                      refine lv_lstore (lv' := [(4, .long v7_102), (9, .int (nI i102)), (0, .ref th), (1, .ref to), (2, .ref mo), (3, .ref t), (6, .int (nI i82)), (7, .long v7_102)]) hx hb dX18_reduce_149 hl (by decide) rfl (fun ls hl => ?_)
                      refine lv_iconst (v := nI 0) hx hb dX18_reduce_151 (by decide +kernel) ?_
                      refine lv_istore (lv' := [(9, .int (nI 0)), (4, .long v7_102), (0, .ref th), (1, .ref to), (2, .ref mo), (3, .ref t), (6, .int (nI i82)), (7, .long v7_102)]) hx hb dX18_reduce_152 hl (by decide) rfl (fun ls hl => ?_)
                      have L154 : ∀ (n i154 : Nat), i154 ≤ 16 → 16 + 1 ≤ i154 + n → ∀  (H : Heap) (locs : List Loc) (ls : Array Slot), zP D vwCl A X Y L T H → va_S A s.heap H locs → lv_has ls 10 [(9, .int (nI i154)), (0, .ref th), (1, .ref to), (2, .ref mo), (3, .ref t), (4, .long v7_102), (6, .int (nI i82))] → W p l e ROOM_X18_reduce s m [.ref th, .ref to, .ref mo, .ref t].toArray below meth c H locs 0 0 (MQ below (va_Qv (zSame Y L T) (zB D vwCl (zT K) A X) A) [.ref th, .ref to, .ref mo, .ref t].toArray s 0 0 A) (F0 m 154 ls []) := by
                        intro n
                        induction n with
                        | zero => intro i154 u154 w154; exact absurd w154 (by omega)
                        | succ n ih154 =>
                          intro i154 u154 w154  H locs ls hZ hS hl 
                          refine lv_iload hx hb dX18_reduce_154 (lv_at hl 0 rfl) ?_
                          refine lv_bipush (v := nI 16) hx hb dX18_reduce_156 (by decide +kernel) ?_
                          refine lv_icmp_ge (tgt := 184) hx hb dX18_reduce_158 (by decide) (fun c158 => ?_) (fun c158 => ?_)
                          · have e158 : 16 ≤ i154 := (nI_leI (a := 16) (b := i154) (by omega) (by omega)).mp c158
                            refine lv_iinc (v := nI (i82 + 1)) (lv' := [(6, .int (nI (i82 + 1))), (9, .int (nI i154)), (0, .ref th), (1, .ref to), (2, .ref mo), (3, .ref t), (4, .long v7_102)]) hx hb dX18_reduce_184 hl (k := 6) rfl (nI_add i82 1) (by decide) rfl (fun ls hl => ?_)
                            refine lv_goto (tgt := 82) hx hb dX18_reduce_187 (by decide) ?_
                            exact ih82 (i82 + 1) (by omega) (by omega) v7_102 _ _ _ hZ hS (lv_sub hl [0, 2, 3, 4, 5, 6] rfl) 
                          · have e158 : ¬ 16 ≤ i154 := fun q => c158 ((nI_leI (a := 16) (b := i154) (by omega) (by omega)).mpr q)
                            refine lv_aload_n hx hb dX18_reduce_161 rfl (lv_at hl 1 rfl) ?_
                            refine z_getP (own := RX18) (C := RX14) (TT := TX14) (N := 42) (ci := 15) (Ts := WR) hx hb hts zin_wsX140 hown hK hZ h_th k_th rfl 1 (by decide) (hts _ zw_8) (fun _ h9 => h9) f_th_1 dX18_reduce_162 ?_
                            refine lv_iload hx hb dX18_reduce_165 (lv_at hl 0 rfl) ?_
                            refine lv_dup2_11 hx hb dX18_reduce_167 rfl rfl ?_
                            refine z_lald hx hb hK hZ 1 h_sum k_sum rfl (vp_in_nI (by omega) (by omega)) dX18_reduce_168 (fun x5 => ?_)
                            refine lv_lload hx hb dX18_reduce_169 (lv_at hl 5 rfl) ?_
                            refine lv_aload_n hx hb dX18_reduce_171 rfl (lv_at hl 4 rfl) ?_
                            refine lv_iload hx hb dX18_reduce_172 (lv_at hl 0 rfl) ?_
                            refine z_lald hx hb hK hZ 1 h_t k_t rfl (vp_in_nI (by omega) (by omega)) dX18_reduce_174 (fun x6 => ?_)
                            refine lv_lmul hx hb dX18_reduce_175 ?_
                            refine lv_topl (fun x7 _ => ?_)
                            refine lv_ladd hx hb dX18_reduce_176 ?_
                            refine lv_topl (fun x8 _ => ?_)
                            refine z_last hx hb hK hZ hS 1 h_sum k_sum rfl (vp_in_nI (by omega) (by omega)) dX18_reduce_177 (fun H locs hZ hS => ?_)
                            refine lv_iinc (v := nI (i154 + 1)) (lv' := [(9, .int (nI (i154 + 1))), (0, .ref th), (1, .ref to), (2, .ref mo), (3, .ref t), (4, .long v7_102), (6, .int (nI i82))]) hx hb dX18_reduce_178 hl (k := 0) rfl (nI_add i154 1) (by decide) rfl (fun ls hl => ?_)
                            refine lv_goto (tgt := 154) hx hb dX18_reduce_181 (by decide) ?_
                            exact ih154 (i154 + 1) (by omega) (by omega)  _ _ _ hZ hS (lv_sub hl [0, 1, 2, 3, 4, 5, 6] rfl) 
                      exact L154 (16 + 1) 0 (by omega) (by omega)  _ _ _ hZ hS (lv_sub hl [0, 2, 3, 4, 5, 1, 6] rfl) 
                    · have e106 : ¬ 16 ≤ i102 := fun q => c106 ((nI_leI (a := 16) (b := i102) (by omega) (by omega)).mpr q)
                      refine lv_lload hx hb dX18_reduce_109 (lv_at hl 6 rfl) ?_
                      refine lv_aload_n hx hb dX18_reduce_111 rfl (lv_at hl 1 rfl) ?_
                      refine z_getP (own := RX18) (C := RX14) (TT := TX14) (N := 42) (ci := 15) (Ts := WR) hx hb hts zin_wsX140 hown hK hZ h_th k_th rfl 1 (by decide) (hts _ zw_8) (fun _ h9 => h9) f_th_1 dX18_reduce_112 ?_
                      refine lv_iload hx hb dX18_reduce_115 (lv_at hl 0 rfl) ?_
                      refine z_lald hx hb hK hZ 1 h_sum k_sum rfl (vp_in_nI (by omega) (by omega)) dX18_reduce_117 (fun x9 => ?_)
                      refine lv_ladd hx hb dX18_reduce_118 ?_
                      refine lv_topl (fun x10 _ => ?_)
                      refine lv_lstore (lv' := [(7, .long x10), (9, .int (nI i102)), (0, .ref th), (1, .ref to), (2, .ref mo), (3, .ref t), (6, .int (nI i82))]) hx hb dX18_reduce_119 hl (by decide) rfl (fun ls hl => ?_)
                      refine lv_aload_n hx hb dX18_reduce_121 rfl (lv_at hl 2 rfl) ?_
                      refine z_getP (own := RX18) (C := RX14) (TT := TX14) (N := 42) (ci := 15) (Ts := WR) hx hb hts zin_wsX140 hown hK hZ h_th k_th rfl 1 (by decide) (hts _ zw_8) (fun _ h9 => h9) f_th_1 dX18_reduce_122 ?_
                      refine lv_iload hx hb dX18_reduce_125 (lv_at hl 1 rfl) ?_
                      refine lv_lload hx hb dX18_reduce_127 (lv_at hl 0 rfl) ?_
                      refine lv_ldc2 (v := (65535)) hx hb hown (hts _ zw_25) dX18_reduce_129 ?_
                      refine lv_land hx hb dX18_reduce_132 ?_
                      refine lv_topl (fun x11 _ => ?_)
                      refine z_last hx hb hK hZ hS 1 h_sum k_sum rfl (vp_in_nI (by omega) (by omega)) dX18_reduce_133 (fun H locs hZ hS => ?_)
                      refine lv_lload hx hb dX18_reduce_134 (lv_at hl 0 rfl) ?_
                      refine lv_bipush (v := nI 16) hx hb dX18_reduce_136 (by decide +kernel) ?_
                      refine lv_lshr hx hb dX18_reduce_138 rfl ?_
                      refine lv_topl (fun x12 _ => ?_)
                      refine lv_lstore (lv' := [(7, .long x12), (9, .int (nI i102)), (0, .ref th), (1, .ref to), (2, .ref mo), (3, .ref t), (6, .int (nI i82))]) hx hb dX18_reduce_139 hl (by decide) rfl (fun ls hl => ?_)
                      refine lv_iinc (v := nI (i102 + 1)) (lv' := [(9, .int (nI (i102 + 1))), (7, .long x12), (0, .ref th), (1, .ref to), (2, .ref mo), (3, .ref t), (6, .int (nI i82))]) hx hb dX18_reduce_141 hl (k := 1) rfl (nI_add i102 1) (by decide) rfl (fun ls hl => ?_)
                      refine lv_goto (tgt := 102) hx hb dX18_reduce_144 (by decide) ?_
                      exact ih102 (i102 + 1) (by omega) (by omega) x12 _ _ _ hZ hS (lv_sub hl [0, 2, 3, 4, 5, 6, 1] rfl) 
                exact L102 (16 + 1) 0 (by omega) (by omega) 0 _ _ _ hZ hS (lv_sub hl [0, 3, 4, 5, 6, 2, 1] rfl) 
        exact L82 (9 + 1) 0 (by omega) (by omega) 1 _ _ _ hZ hS (lv_sub hl [0, 2, 3, 4, 5, 1] rfl) 
      · have e7 : ¬ 16 ≤ i3 := fun q => c7 ((nI_leI (a := 16) (b := i3) (by omega) (by omega)).mpr q)
        refine lv_aload_n hx hb dX18_reduce_10 rfl (lv_at hl 1 rfl) ?_
        refine z_getP (own := RX18) (C := RX14) (TT := TX14) (N := 42) (ci := 15) (Ts := WR) hx hb hts zin_wsX140 hown hK hZ h_th k_th rfl 0 (by decide) (hts _ zw_7) (fun _ h9 => h9) f_th_0 dX18_reduce_11 ?_
        refine lv_iload hx hb dX18_reduce_14 (lv_at hl 0 rfl) ?_
        refine z_lald hx hb hK hZ 1 h_product k_product rfl (vp_in_nI (by omega) (by omega)) dX18_reduce_16 (fun x13 => ?_)
        refine lv_lstore (lv' := [(5, .long x13), (4, .int (nI i3)), (0, .ref th), (1, .ref to), (2, .ref mo), (3, .ref t)]) hx hb dX18_reduce_17 hl (by decide) rfl (fun ls hl => ?_)
        refine lv_iconst (v := nI 0) hx hb dX18_reduce_19 (by decide +kernel) ?_
        refine lv_istore (lv' := [(7, .int (nI 0)), (5, .long x13), (4, .int (nI i3)), (0, .ref th), (1, .ref to), (2, .ref mo), (3, .ref t)]) hx hb dX18_reduce_20 hl (by decide) rfl (fun ls hl => ?_)
        have L22 : ∀ (n i22 : Nat), i22 ≤ 16 → 16 + 1 ≤ i22 + n → ∀ (v5_22 : Int64) (H : Heap) (locs : List Loc) (ls : Array Slot), zP D vwCl A X Y L T H → va_S A s.heap H locs → lv_has ls 10 [(7, .int (nI i22)), (0, .ref th), (1, .ref to), (2, .ref mo), (3, .ref t), (4, .int (nI i3)), (5, .long v5_22)] → W p l e ROOM_X18_reduce s m [.ref th, .ref to, .ref mo, .ref t].toArray below meth c H locs 0 0 (MQ below (va_Qv (zSame Y L T) (zB D vwCl (zT K) A X) A) [.ref th, .ref to, .ref mo, .ref t].toArray s 0 0 A) (F0 m 22 ls []) := by
          intro n
          induction n with
          | zero => intro i22 u22 w22; exact absurd w22 (by omega)
          | succ n ih22 =>
            intro i22 u22 w22 v5_22 H locs ls hZ hS hl 
            refine lv_iload hx hb dX18_reduce_22 (lv_at hl 0 rfl) ?_
            refine lv_bipush (v := nI 16) hx hb dX18_reduce_24 (by decide +kernel) ?_
            refine lv_icmp_ge (tgt := 61) hx hb dX18_reduce_26 (by decide) (fun c26 => ?_) (fun c26 => ?_)
            · have e26 : 16 ≤ i22 := (nI_leI (a := 16) (b := i22) (by omega) (by omega)).mp c26
              refine lv_aload_n hx hb dX18_reduce_61 rfl (lv_at hl 1 rfl) ?_
              refine z_getP (own := RX18) (C := RX14) (TT := TX14) (N := 42) (ci := 15) (Ts := WR) hx hb hts zin_wsX140 hown hK hZ h_th k_th rfl 1 (by decide) (hts _ zw_8) (fun _ h9 => h9) f_th_1 dX18_reduce_62 ?_
              refine lv_iload hx hb dX18_reduce_65 (lv_at hl 5 rfl) ?_
              refine lv_lload hx hb dX18_reduce_67 (lv_at hl 6 rfl) ?_
              refine z_last hx hb hK hZ hS 1 h_sum k_sum rfl (vp_in_nI (by omega) (by omega)) dX18_reduce_69 (fun H locs hZ hS => ?_)
              refine lv_iinc (v := nI (i3 + 1)) (lv' := [(4, .int (nI (i3 + 1))), (7, .int (nI i22)), (0, .ref th), (1, .ref to), (2, .ref mo), (3, .ref t), (5, .long v5_22)]) hx hb dX18_reduce_70 hl (k := 5) rfl (nI_add i3 1) (by decide) rfl (fun ls hl => ?_)
              refine lv_goto (tgt := 3) hx hb dX18_reduce_73 (by decide) ?_
              exact ih3 (i3 + 1) (by omega) (by omega)  _ _ _ hZ hS (lv_sub hl [0, 2, 3, 4, 5] rfl) 
            · have e26 : ¬ 16 ≤ i22 := fun q => c26 ((nI_leI (a := 16) (b := i22) (by omega) (by omega)).mpr q)
              refine lv_lload hx hb dX18_reduce_29 (lv_at hl 6 rfl) ?_
              refine lv_aload_n hx hb dX18_reduce_31 rfl (lv_at hl 1 rfl) ?_
              refine z_getP (own := RX18) (C := RX14) (TT := TX14) (N := 42) (ci := 15) (Ts := WR) hx hb hts zin_wsX140 hown hK hZ h_th k_th rfl 0 (by decide) (hts _ zw_7) (fun _ h9 => h9) f_th_0 dX18_reduce_32 ?_
              refine lv_bipush (v := nI 16) hx hb dX18_reduce_35 (by decide +kernel) ?_
              refine lv_iload hx hb dX18_reduce_37 (lv_at hl 0 rfl) ?_
              refine lv_iadd hx hb dX18_reduce_39 ?_
              refine lv_topi (fun x14 ex14 => ?_)
              obtain rfl : x14 = nI (16 + i22) := ex14.trans (nI_add 16 i22)
              refine z_lald hx hb hK hZ 1 h_product k_product rfl (vp_in_nI (by omega) (by omega)) dX18_reduce_40 (fun x15 => ?_)
              refine lv_aload_n hx hb dX18_reduce_41 rfl (lv_at hl 4 rfl) ?_
              refine lv_bipush (v := nI 16) hx hb dX18_reduce_42 (by decide +kernel) ?_
              refine lv_iload hx hb dX18_reduce_44 (lv_at hl 0 rfl) ?_
              refine lv_imul hx hb dX18_reduce_46 ?_
              refine lv_topi (fun x16 ex16 => ?_)
              obtain rfl : x16 = nI (16 * i22) := ex16.trans (pk_mul 16 i22)
              refine lv_iload hx hb dX18_reduce_47 (lv_at hl 5 rfl) ?_
              refine lv_iadd hx hb dX18_reduce_49 ?_
              refine lv_topi (fun x17 ex17 => ?_)
              obtain rfl : x17 = nI ((16 * i22) + i3) := ex17.trans (nI_add (16 * i22) i3)
              refine z_lald hx hb hK hZ 1 h_t k_t rfl (vp_in_nI (by omega) (by omega)) dX18_reduce_50 (fun x18 => ?_)
              refine lv_lmul hx hb dX18_reduce_51 ?_
              refine lv_topl (fun x19 _ => ?_)
              refine lv_ladd hx hb dX18_reduce_52 ?_
              refine lv_topl (fun x20 _ => ?_)
              refine lv_lstore (lv' := [(5, .long x20), (7, .int (nI i22)), (0, .ref th), (1, .ref to), (2, .ref mo), (3, .ref t), (4, .int (nI i3))]) hx hb dX18_reduce_53 hl (by decide) rfl (fun ls hl => ?_)
              refine lv_iinc (v := nI (i22 + 1)) (lv' := [(7, .int (nI (i22 + 1))), (5, .long x20), (0, .ref th), (1, .ref to), (2, .ref mo), (3, .ref t), (4, .int (nI i3))]) hx hb dX18_reduce_55 hl (k := 1) rfl (nI_add i22 1) (by decide) rfl (fun ls hl => ?_)
              refine lv_goto (tgt := 22) hx hb dX18_reduce_58 (by decide) ?_
              exact ih22 (i22 + 1) (by omega) (by omega) x20 _ _ _ hZ hS (lv_sub hl [0, 2, 3, 4, 5, 6, 1] rfl) 
        exact L22 (16 + 1) 0 (by omega) (by omega) x13 _ _ _ hZ hS (lv_sub hl [0, 3, 4, 5, 6, 2, 1] rfl) 
  exact L3 (16 + 1) 0 (by omega) (by omega)  _ _ _ hZ hS (lv_sub hl [0, 1, 2, 3, 4] rfl) 
abbrev ROOM_X18_times : Room := { frames := 3, cells := 0, slots := 0, locals := 56 }
set_option maxHeartbeats 4000000 in
set_option maxRecDepth 100000 in
/-- times -/
theorem c_X18_times (E : zEn) (l : Launch) (D : va_G) (K : Nat → ClassId) (X Y : va_W) (L : List Nat) (T : Nat → va_E → Prop) {th : Nat} {vs_th : List Value} {product n_product : Nat} {sum n_sum : Nat} {to n_to : Nat} {aa n_aa : Nat} {bb n_bb : Nat} {mo n_mo : Nat} {t n_t : Nat}  (h_th : th ∈ L) (k_th : T th = zO 15 vs_th) (f_th_0 : vs_th[0]? = some (.ref product)) (h_product : product ∈ L) (k_product : T product = zJ (K 1) n_product) (b_product : 32 ≤ n_product ∧ n_product < 2147483648) (f_th_1 : vs_th[1]? = some (.ref sum)) (h_sum : sum ∈ L) (k_sum : T sum = zJ (K 1) n_sum) (b_sum : 18 ≤ n_sum ∧ n_sum < 2147483648) (h_to : to ∈ L) (k_to : T to = zJ (K 1) n_to) (b_to : 16 ≤ n_to ∧ n_to < 2147483648) (h_aa : aa ∈ L) (k_aa : T aa = zJ (K 1) n_aa) (b_aa : 16 ≤ n_aa ∧ n_aa < 2147483648) (h_bb : bb ∈ L) (k_bb : T bb = zJ (K 1) n_bb) (b_bb : 16 ≤ n_bb ∧ n_bb < 2147483648) (h_mo : mo ∈ L) (k_mo : T mo = zJ (K 1) n_mo) (b_mo : 16 ≤ n_mo ∧ n_mo < 2147483648) (h_t : t ∈ L) (k_t : T t = zJ (K 1) n_t) (b_t : 256 ≤ n_t ∧ n_t < 2147483648)  : zV E l D vwCl (zT K) yX18_times (zws yX18_times cX18_times 10 none) ROOM_X18_times 0 0 [.ref th, .ref to, .ref aa, .ref bb, .ref mo, .ref t] X Y L T (zSame Y L T) := by
  refine z_ofW (E := E) (Qc := fun A => va_Qv (zSame Y L T) (zB D vwCl (zT K) A X) A) (cc := cX18_times) (maxL := 10) (ret := none) (by decide +kernel) rfl (Nat.le_of_ble_eq_true rfl) ?_
  intro p e s m below meth c A ls hx hb hml hr hts hown hlocks hin hA hK hZ hS hE hl
  have hown : s.vm.findClass RX18 = some m.cls := hown
  have hts : ∀ w ∈ WR, w.before [.ref th, .ref to, .ref aa, .ref bb, .ref mo, .ref t].toArray s = true := fun w h => hts w (List.mem_cons_of_mem _ h)
  have hl : lv_has ls 10 [(0, .ref th), (1, .ref to), (2, .ref aa), (3, .ref bb), (4, .ref mo), (5, .ref t)] := hl
  obtain ⟨H, hH⟩ : ∃ H, H = s.heap := ⟨_, rfl⟩
  have hZ : zP D vwCl A X Y L T H := by rw [hH]; exact hZ
  obtain ⟨locs, hlc⟩ : ∃ q : List Loc, q = [] := ⟨_, rfl⟩
  have hS : va_S A s.heap H locs := by rw [hH, hlc]; exact hS
  suffices hW : W p l e ROOM_X18_times s m [.ref th, .ref to, .ref aa, .ref bb, .ref mo, .ref t].toArray below meth c H locs 0 0 (MQ below (va_Qv (zSame Y L T) (zB D vwCl (zT K) A X) A) [.ref th, .ref to, .ref aa, .ref bb, .ref mo, .ref t].toArray s 0 0 A) (F0 m 0 ls []) by rw [hH, hlc] at hW; exact hW
  clear hH hlc
  refine lv_iconst (v := nI 0) hx hb dX18_times_0 (by decide +kernel) ?_
  refine lv_istore (lv' := [(6, .int (nI 0)), (0, .ref th), (1, .ref to), (2, .ref aa), (3, .ref bb), (4, .ref mo), (5, .ref t)]) hx hb dX18_times_1 hl (by decide) rfl (fun ls hl => ?_)
  have L3 : ∀ (n i3 : Nat), i3 ≤ 32 → 32 + 1 ≤ i3 + n → ∀  (H : Heap) (locs : List Loc) (ls : Array Slot), zP D vwCl A X Y L T H → va_S A s.heap H locs → lv_has ls 10 [(6, .int (nI i3)), (0, .ref th), (1, .ref to), (2, .ref aa), (3, .ref bb), (4, .ref mo), (5, .ref t)] → W p l e ROOM_X18_times s m [.ref th, .ref to, .ref aa, .ref bb, .ref mo, .ref t].toArray below meth c H locs 0 0 (MQ below (va_Qv (zSame Y L T) (zB D vwCl (zT K) A X) A) [.ref th, .ref to, .ref aa, .ref bb, .ref mo, .ref t].toArray s 0 0 A) (F0 m 3 ls []) := by
    intro n
    induction n with
    | zero => intro i3 u3 w3; exact absurd w3 (by omega)
    | succ n ih3 =>
      intro i3 u3 w3  H locs ls hZ hS hl 
      refine lv_iload hx hb dX18_times_3 (lv_at hl 0 rfl) ?_
      refine lv_bipush (v := nI 32) hx hb dX18_times_5 (by decide +kernel) ?_
      refine lv_icmp_ge (tgt := 24) hx hb dX18_times_7 (by decide) (fun c7 => ?_) (fun c7 => ?_)
      · have e7 : 32 ≤ i3 := (nI_leI (a := 32) (b := i3) (by omega) (by omega)).mp c7
        refine lv_iconst (v := nI 0) hx hb dX18_times_24 (by decide +kernel) ?_
        refine lv_istore (lv' := [(6, .int (nI 0)), (0, .ref th), (1, .ref to), (2, .ref aa), (3, .ref bb), (4, .ref mo), (5, .ref t)]) hx hb dX18_times_25 hl (by decide) rfl (fun ls hl => ?_)
        have L27 : ∀ (n i27 : Nat), i27 ≤ 16 → 16 + 1 ≤ i27 + n → ∀  (H : Heap) (locs : List Loc) (ls : Array Slot), zP D vwCl A X Y L T H → va_S A s.heap H locs → lv_has ls 10 [(6, .int (nI i27)), (0, .ref th), (1, .ref to), (2, .ref aa), (3, .ref bb), (4, .ref mo), (5, .ref t)] → W p l e ROOM_X18_times s m [.ref th, .ref to, .ref aa, .ref bb, .ref mo, .ref t].toArray below meth c H locs 0 0 (MQ below (va_Qv (zSame Y L T) (zB D vwCl (zT K) A X) A) [.ref th, .ref to, .ref aa, .ref bb, .ref mo, .ref t].toArray s 0 0 A) (F0 m 27 ls []) := by
          intro n
          induction n with
          | zero => intro i27 u27 w27; exact absurd w27 (by omega)
          | succ n ih27 =>
            intro i27 u27 w27  H locs ls hZ hS hl 
            refine lv_iload hx hb dX18_times_27 (lv_at hl 0 rfl) ?_
            refine lv_bipush (v := nI 16) hx hb dX18_times_29 (by decide +kernel) ?_
            refine lv_icmp_ge (tgt := 119) hx hb dX18_times_31 (by decide) (fun c31 => ?_) (fun c31 => ?_)
            · have e31 : 16 ≤ i27 := (nI_leI (a := 16) (b := i27) (by omega) (by omega)).mp c31
              refine lv_aload_n hx hb dX18_times_119 rfl (lv_at hl 1 rfl) ?_
              refine lv_aload_n hx hb dX18_times_120 rfl (lv_at hl 2 rfl) ?_
              refine lv_aload hx hb dX18_times_121 (lv_at hl 5 rfl) ?_
              refine lv_aload hx hb dX18_times_123 (lv_at hl 6 rfl) ?_
              refine z_goV (va_runU (C := RX14) (owner := "ShellPairModel$Numbers") (x := ⟨"ShellPairModel$Numbers", "reduce", "([J[J[J)V"⟩) (As := [.ref to, .ref mo, .ref t]) (rest := []) ⟨hx, hb, hml, hown, hts⟩ ((c_X18_reduce E l D K X Y L T h_th k_th f_th_0 h_product k_product ⟨by omega, by omega⟩ f_th_1 h_sum k_sum ⟨by omega, by omega⟩ h_to k_to ⟨by omega, by omega⟩ h_mo k_mo ⟨by omega, by omega⟩ h_t k_t ⟨by omega, by omega⟩) H.size) (va_cwU 3 hts (zg_U zw_48 zw_50 zw_49 zw_45 zw_2 zw_44) rfl rfl rfl rfl (by decide +kernel) ⟨Nat.le_of_ble_eq_true rfl, Nat.le_of_ble_eq_true rfl⟩) (z_preV hK hZ hS hA hE (z_recvP hK hZ h_th k_th rfl)) rfl rfl hl.1 rfl (lv_room (Nat.le_of_ble_eq_true rfl)) dX18_times_125 ⟨Nat.le_of_ble_eq_true rfl, Nat.le_of_ble_eq_true rfl⟩) hZ hS hA (fun  Y1 L1 T1 H locs hp hZ hS => ?_)
              cases hp
              exact z_vret hx hb hr hlocks hK hZ hS rfl (Nat.le_of_ble_eq_true rfl) (Nat.le_of_ble_eq_true rfl) dX18_times_128
            · have e31 : ¬ 16 ≤ i27 := fun q => c31 ((nI_leI (a := 16) (b := i27) (by omega) (by omega)).mpr q)
              refine lv_lconst (v := 0) hx hb dX18_times_34 (by decide +kernel) ?_
              refine lv_lstore (lv' := [(7, .long 0), (6, .int (nI i27)), (0, .ref th), (1, .ref to), (2, .ref aa), (3, .ref bb), (4, .ref mo), (5, .ref t)]) hx hb dX18_times_35 hl (by decide) rfl (fun ls hl => ?_)
              refine lv_iconst (v := nI 0) hx hb dX18_times_37 (by decide +kernel) ?_
              refine lv_istore (lv' := [(9, .int (nI 0)), (7, .long 0), (6, .int (nI i27)), (0, .ref th), (1, .ref to), (2, .ref aa), (3, .ref bb), (4, .ref mo), (5, .ref t)]) hx hb dX18_times_38 hl (by decide) rfl (fun ls hl => ?_)
              have L40 : ∀ (n i40 : Nat), i40 ≤ 16 → 16 + 1 ≤ i40 + n → ∀ (v7_40 : Int64) (H : Heap) (locs : List Loc) (ls : Array Slot), zP D vwCl A X Y L T H → va_S A s.heap H locs → lv_has ls 10 [(9, .int (nI i40)), (0, .ref th), (1, .ref to), (2, .ref aa), (3, .ref bb), (4, .ref mo), (5, .ref t), (6, .int (nI i27)), (7, .long v7_40)] → W p l e ROOM_X18_times s m [.ref th, .ref to, .ref aa, .ref bb, .ref mo, .ref t].toArray below meth c H locs 0 0 (MQ below (va_Qv (zSame Y L T) (zB D vwCl (zT K) A X) A) [.ref th, .ref to, .ref aa, .ref bb, .ref mo, .ref t].toArray s 0 0 A) (F0 m 40 ls []) := by
                intro n
                induction n with
                | zero => intro i40 u40 w40; exact absurd w40 (by omega)
                | succ n ih40 =>
                  intro i40 u40 w40 v7_40 H locs ls hZ hS hl 
                  refine lv_iload hx hb dX18_times_40 (lv_at hl 0 rfl) ?_
                  refine lv_bipush (v := nI 16) hx hb dX18_times_42 (by decide +kernel) ?_
                  refine lv_icmp_ge (tgt := 101) hx hb dX18_times_44 (by decide) (fun c44 => ?_) (fun c44 => ?_)
                  · have e44 : 16 ≤ i40 := (nI_leI (a := 16) (b := i40) (by omega) (by omega)).mp c44
                    refine lv_aload_n hx hb dX18_times_101 rfl (lv_at hl 1 rfl) ?_
                    refine z_getP (own := RX18) (C := RX14) (TT := TX14) (N := 42) (ci := 15) (Ts := WR) hx hb hts zin_wsX140 hown hK hZ h_th k_th rfl 0 (by decide) (hts _ zw_7) (fun _ h9 => h9) f_th_0 dX18_times_102 ?_
                    refine lv_iload hx hb dX18_times_105 (lv_at hl 7 rfl) ?_
                    refine lv_bipush (v := nI 16) hx hb dX18_times_107 (by decide +kernel) ?_
                    refine lv_iadd hx hb dX18_times_109 ?_
                    refine lv_topi (fun x2 ex2 => ?_)
                    obtain rfl : x2 = nI (i27 + 16) := ex2.trans (nI_add i27 16)
                    refine lv_lload hx hb dX18_times_110 (lv_at hl 8 rfl) ?_
                    refine z_last hx hb hK hZ hS 1 h_product k_product rfl (vp_in_nI (by omega) (by omega)) dX18_times_112 (fun H locs hZ hS => ?_)
                    refine lv_iinc (v := nI (i27 + 1)) (lv' := [(6, .int (nI (i27 + 1))), (9, .int (nI i40)), (0, .ref th), (1, .ref to), (2, .ref aa), (3, .ref bb), (4, .ref mo), (5, .ref t), (7, .long v7_40)]) hx hb dX18_times_113 hl (k := 7) rfl (nI_add i27 1) (by decide) rfl (fun ls hl => ?_)
                    refine lv_goto (tgt := 27) hx hb dX18_times_116 (by decide) ?_
                    exact ih27 (i27 + 1) (by omega) (by omega)  _ _ _ hZ hS (lv_sub hl [0, 2, 3, 4, 5, 6, 7] rfl) 
                  · have e44 : ¬ 16 ≤ i40 := fun q => c44 ((nI_leI (a := 16) (b := i40) (by omega) (by omega)).mpr q)
                    refine lv_lload hx hb dX18_times_47 (lv_at hl 8 rfl) ?_
                    refine lv_aload_n hx hb dX18_times_49 rfl (lv_at hl 1 rfl) ?_
                    refine z_getP (own := RX18) (C := RX14) (TT := TX14) (N := 42) (ci := 15) (Ts := WR) hx hb hts zin_wsX140 hown hK hZ h_th k_th rfl 0 (by decide) (hts _ zw_7) (fun _ h9 => h9) f_th_0 dX18_times_50 ?_
                    refine lv_iload hx hb dX18_times_53 (lv_at hl 7 rfl) ?_
                    refine lv_iload hx hb dX18_times_55 (lv_at hl 0 rfl) ?_
                    refine lv_iadd hx hb dX18_times_57 ?_
                    refine lv_topi (fun x3 ex3 => ?_)
                    obtain rfl : x3 = nI (i27 + i40) := ex3.trans (nI_add i27 i40)
                    refine z_lald hx hb hK hZ 1 h_product k_product rfl (vp_in_nI (by omega) (by omega)) dX18_times_58 (fun x4 => ?_)
                    refine lv_aload_n hx hb dX18_times_59 rfl (lv_at hl 3 rfl) ?_
                    refine lv_iload hx hb dX18_times_60 (lv_at hl 7 rfl) ?_
                    refine z_lald hx hb hK hZ 1 h_aa k_aa rfl (vp_in_nI (by omega) (by omega)) dX18_times_62 (fun x5 => ?_)
                    refine lv_aload_n hx hb dX18_times_63 rfl (lv_at hl 4 rfl) ?_
                    refine lv_iload hx hb dX18_times_64 (lv_at hl 0 rfl) ?_
                    refine z_lald hx hb hK hZ 1 h_bb k_bb rfl (vp_in_nI (by omega) (by omega)) dX18_times_66 (fun x6 => ?_)
                    refine lv_lmul hx hb dX18_times_67 ?_
                    refine lv_topl (fun x7 _ => ?_)
                    refine lv_ladd hx hb dX18_times_68 ?_
                    refine lv_topl (fun x8 _ => ?_)
                    refine lv_ladd hx hb dX18_times_69 ?_
                    refine lv_topl (fun x9 _ => ?_)
                    refine lv_lstore (lv' := [(7, .long x9), (9, .int (nI i40)), (0, .ref th), (1, .ref to), (2, .ref aa), (3, .ref bb), (4, .ref mo), (5, .ref t), (6, .int (nI i27))]) hx hb dX18_times_70 hl (by decide) rfl (fun ls hl => ?_)
                    refine lv_aload_n hx hb dX18_times_72 rfl (lv_at hl 2 rfl) ?_
                    refine z_getP (own := RX18) (C := RX14) (TT := TX14) (N := 42) (ci := 15) (Ts := WR) hx hb hts zin_wsX140 hown hK hZ h_th k_th rfl 0 (by decide) (hts _ zw_7) (fun _ h9 => h9) f_th_0 dX18_times_73 ?_
                    refine lv_iload hx hb dX18_times_76 (lv_at hl 8 rfl) ?_
                    refine lv_iload hx hb dX18_times_78 (lv_at hl 1 rfl) ?_
                    refine lv_iadd hx hb dX18_times_80 ?_
                    refine lv_topi (fun x10 ex10 => ?_)
                    obtain rfl : x10 = nI (i27 + i40) := ex10.trans (nI_add i27 i40)
                    refine lv_lload hx hb dX18_times_81 (lv_at hl 0 rfl) ?_
                    refine lv_ldc2 (v := (65535)) hx hb hown (hts _ zw_25) dX18_times_83 ?_
                    refine lv_land hx hb dX18_times_86 ?_
                    refine lv_topl (fun x11 _ => ?_)
                    refine z_last hx hb hK hZ hS 1 h_product k_product rfl (vp_in_nI (by omega) (by omega)) dX18_times_87 (fun H locs hZ hS => ?_)
                    refine lv_lload hx hb dX18_times_88 (lv_at hl 0 rfl) ?_
                    refine lv_bipush (v := nI 16) hx hb dX18_times_90 (by decide +kernel) ?_
                    refine lv_lshr hx hb dX18_times_92 rfl ?_
                    refine lv_topl (fun x12 _ => ?_)
                    refine lv_lstore (lv' := [(7, .long x12), (9, .int (nI i40)), (0, .ref th), (1, .ref to), (2, .ref aa), (3, .ref bb), (4, .ref mo), (5, .ref t), (6, .int (nI i27))]) hx hb dX18_times_93 hl (by decide) rfl (fun ls hl => ?_)
                    refine lv_iinc (v := nI (i40 + 1)) (lv' := [(9, .int (nI (i40 + 1))), (7, .long x12), (0, .ref th), (1, .ref to), (2, .ref aa), (3, .ref bb), (4, .ref mo), (5, .ref t), (6, .int (nI i27))]) hx hb dX18_times_95 hl (k := 1) rfl (nI_add i40 1) (by decide) rfl (fun ls hl => ?_)
                    refine lv_goto (tgt := 40) hx hb dX18_times_98 (by decide) ?_
                    exact ih40 (i40 + 1) (by omega) (by omega) x12 _ _ _ hZ hS (lv_sub hl [0, 2, 3, 4, 5, 6, 7, 8, 1] rfl) 
              exact L40 (16 + 1) 0 (by omega) (by omega) 0 _ _ _ hZ hS (lv_sub hl [0, 3, 4, 5, 6, 7, 8, 2, 1] rfl) 
        exact L27 (16 + 1) 0 (by omega) (by omega)  _ _ _ hZ hS (lv_sub hl [0, 1, 2, 3, 4, 5, 6] rfl) 
      · have e7 : ¬ 32 ≤ i3 := fun q => c7 ((nI_leI (a := 32) (b := i3) (by omega) (by omega)).mpr q)
        refine lv_aload_n hx hb dX18_times_10 rfl (lv_at hl 1 rfl) ?_
        refine z_getP (own := RX18) (C := RX14) (TT := TX14) (N := 42) (ci := 15) (Ts := WR) hx hb hts zin_wsX140 hown hK hZ h_th k_th rfl 0 (by decide) (hts _ zw_7) (fun _ h9 => h9) f_th_0 dX18_times_11 ?_
        refine lv_iload hx hb dX18_times_14 (lv_at hl 0 rfl) ?_
        refine lv_lconst (v := 0) hx hb dX18_times_16 (by decide +kernel) ?_
        refine z_last hx hb hK hZ hS 1 h_product k_product rfl (vp_in_nI (by omega) (by omega)) dX18_times_17 (fun H locs hZ hS => ?_)
        refine lv_iinc (v := nI (i3 + 1)) (lv' := [(6, .int (nI (i3 + 1))), (0, .ref th), (1, .ref to), (2, .ref aa), (3, .ref bb), (4, .ref mo), (5, .ref t)]) hx hb dX18_times_18 hl (k := 0) rfl (nI_add i3 1) (by decide) rfl (fun ls hl => ?_)
        refine lv_goto (tgt := 3) hx hb dX18_times_21 (by decide) ?_
        exact ih3 (i3 + 1) (by omega) (by omega)  _ _ _ hZ hS (lv_sub hl [0, 1, 2, 3, 4, 5, 6] rfl) 
  exact L3 (32 + 1) 0 (by omega) (by omega)  _ _ _ hZ hS (lv_sub hl [0, 1, 2, 3, 4, 5, 6] rfl) 
abbrev ROOM_X18_inverse : Room := { frames := 2, cells := 0, slots := 0, locals := 28 }
set_option maxHeartbeats 4000000 in
set_option maxRecDepth 100000 in
/-- inverse -/
theorem c_X18_inverse (E : zEn) (l : Launch) (D : va_G) (K : Nat → ClassId) (X Y : va_W) (L : List Nat) (T : Nat → va_E → Prop) {th : Nat} {vs_th : List Value} {u n_u : Nat} {v n_v : Nat} {x1 n_x1 : Nat} {x2 n_x2 : Nat} {to n_to : Nat} {aa n_aa : Nat} {mo n_mo : Nat}  (h_th : th ∈ L) (k_th : T th = zO 15 vs_th) (f_th_2 : vs_th[2]? = some (.ref u)) (h_u : u ∈ L) (k_u : T u = zJ (K 1) n_u) (b_u : 16 ≤ n_u ∧ n_u < 2147483648) (f_th_3 : vs_th[3]? = some (.ref v)) (h_v : v ∈ L) (k_v : T v = zJ (K 1) n_v) (b_v : 16 ≤ n_v ∧ n_v < 2147483648) (f_th_4 : vs_th[4]? = some (.ref x1)) (h_x1 : x1 ∈ L) (k_x1 : T x1 = zJ (K 1) n_x1) (b_x1 : 17 ≤ n_x1 ∧ n_x1 < 2147483648) (f_th_5 : vs_th[5]? = some (.ref x2)) (h_x2 : x2 ∈ L) (k_x2 : T x2 = zJ (K 1) n_x2) (b_x2 : 17 ≤ n_x2 ∧ n_x2 < 2147483648) (h_to : to ∈ L) (k_to : T to = zJ (K 1) n_to) (b_to : 16 ≤ n_to ∧ n_to < 2147483648) (h_aa : aa ∈ L) (k_aa : T aa = zJ (K 1) n_aa) (b_aa : 16 ≤ n_aa ∧ n_aa < 2147483648) (h_mo : mo ∈ L) (k_mo : T mo = zJ (K 1) n_mo) (b_mo : 16 ≤ n_mo ∧ n_mo < 2147483648)  : zV E l D vwCl (zT K) yX18_inverse (zws yX18_inverse cX18_inverse 5 none) ROOM_X18_inverse 0 0 [.ref th, .ref to, .ref aa, .ref mo] X Y L T (zSame Y L T) := by
  refine z_ofW (E := E) (Qc := fun A => va_Qv (zSame Y L T) (zB D vwCl (zT K) A X) A) (cc := cX18_inverse) (maxL := 5) (ret := none) (by decide +kernel) rfl (Nat.le_of_ble_eq_true rfl) ?_
  intro p e s m below meth c A ls hx hb hml hr hts hown hlocks hin hA hK hZ hS hE hl
  have hown : s.vm.findClass RX18 = some m.cls := hown
  have hts : ∀ w ∈ WR, w.before [.ref th, .ref to, .ref aa, .ref mo].toArray s = true := fun w h => hts w (List.mem_cons_of_mem _ h)
  have hl : lv_has ls 5 [(0, .ref th), (1, .ref to), (2, .ref aa), (3, .ref mo)] := hl
  obtain ⟨H, hH⟩ : ∃ H, H = s.heap := ⟨_, rfl⟩
  have hZ : zP D vwCl A X Y L T H := by rw [hH]; exact hZ
  obtain ⟨locs, hlc⟩ : ∃ q : List Loc, q = [] := ⟨_, rfl⟩
  have hS : va_S A s.heap H locs := by rw [hH, hlc]; exact hS
  suffices hW : W p l e ROOM_X18_inverse s m [.ref th, .ref to, .ref aa, .ref mo].toArray below meth c H locs 0 0 (MQ below (va_Qv (zSame Y L T) (zB D vwCl (zT K) A X) A) [.ref th, .ref to, .ref aa, .ref mo].toArray s 0 0 A) (F0 m 0 ls []) by rw [hH, hlc] at hW; exact hW
  clear hH hlc
  refine lv_aload_n hx hb dX18_inverse_0 rfl (lv_at hl 0 rfl) ?_
  refine z_getP (own := RX18) (C := RX14) (TT := TX14) (N := 42) (ci := 15) (Ts := WR) hx hb hts zin_wsX140 hown hK hZ h_th k_th rfl 2 (by decide) (hts _ zw_9) (fun _ h9 => h9) f_th_2 dX18_inverse_1 ?_
  refine lv_aload_n hx hb dX18_inverse_4 rfl (lv_at hl 2 rfl) ?_
  refine z_goV (va_runS (As := [.ref u, .ref aa]) (rest := []) ⟨hx, hb, hml, hown, hts⟩ ((c_X18_copy E l D K X Y L T h_u k_u ⟨by omega, by omega⟩ h_aa k_aa ⟨by omega, by omega⟩) H.size) (va_cwS 2 hts (zg_S zw_54 zw_14 zw_2 zw_13) rfl rfl rfl (by decide +kernel) ⟨Nat.le_of_ble_eq_true rfl, Nat.le_of_ble_eq_true rfl⟩) (z_preS hK hZ hS hA hE) rfl rfl hl.1 rfl (lv_room (Nat.le_of_ble_eq_true rfl)) dX18_inverse_5 ⟨Nat.le_of_ble_eq_true rfl, Nat.le_of_ble_eq_true rfl⟩) hZ hS hA (fun  Y1 L1 T1 H locs hp hZ hS => ?_)
  cases hp
  refine lv_aload_n hx hb dX18_inverse_8 rfl (lv_at hl 0 rfl) ?_
  refine z_getP (own := RX18) (C := RX14) (TT := TX14) (N := 42) (ci := 15) (Ts := WR) hx hb hts zin_wsX140 hown hK hZ h_th k_th rfl 3 (by decide) (hts _ zw_10) (fun _ h9 => h9) f_th_3 dX18_inverse_9 ?_
  refine lv_aload_n hx hb dX18_inverse_12 rfl (lv_at hl 3 rfl) ?_
  refine z_goV (va_runS (As := [.ref v, .ref mo]) (rest := []) ⟨hx, hb, hml, hown, hts⟩ ((c_X18_copy E l D K X Y L T h_v k_v ⟨by omega, by omega⟩ h_mo k_mo ⟨by omega, by omega⟩) H.size) (va_cwS 2 hts (zg_S zw_54 zw_14 zw_2 zw_13) rfl rfl rfl (by decide +kernel) ⟨Nat.le_of_ble_eq_true rfl, Nat.le_of_ble_eq_true rfl⟩) (z_preS hK hZ hS hA hE) rfl rfl hl.1 rfl (lv_room (Nat.le_of_ble_eq_true rfl)) dX18_inverse_13 ⟨Nat.le_of_ble_eq_true rfl, Nat.le_of_ble_eq_true rfl⟩) hZ hS hA (fun  Y1 L1 T1 H locs hp hZ hS => ?_)
  cases hp
  refine lv_aload_n hx hb dX18_inverse_16 rfl (lv_at hl 0 rfl) ?_
  refine z_getP (own := RX18) (C := RX14) (TT := TX14) (N := 42) (ci := 15) (Ts := WR) hx hb hts zin_wsX140 hown hK hZ h_th k_th rfl 4 (by decide) (hts _ zw_11) (fun _ h9 => h9) f_th_4 dX18_inverse_17 ?_
  refine lv_iconst (v := nI 1) hx hb dX18_inverse_20 (by decide +kernel) ?_
  refine z_goV (va_runS (As := [.ref x1, .int (nI 1)]) (rest := []) ⟨hx, hb, hml, hown, hts⟩ ((c_X18_set E l D K X Y L T h_x1 k_x1 ⟨by omega, by omega⟩) H.size) (va_cwS 2 hts (zg_S zw_34 zw_16 zw_2 zw_15) rfl rfl rfl (by decide +kernel) ⟨Nat.le_of_ble_eq_true rfl, Nat.le_of_ble_eq_true rfl⟩) (z_preS hK hZ hS hA hE) rfl rfl hl.1 rfl (lv_room (Nat.le_of_ble_eq_true rfl)) dX18_inverse_21 ⟨Nat.le_of_ble_eq_true rfl, Nat.le_of_ble_eq_true rfl⟩) hZ hS hA (fun  Y1 L1 T1 H locs hp hZ hS => ?_)
  cases hp
  refine lv_aload_n hx hb dX18_inverse_24 rfl (lv_at hl 0 rfl) ?_
  refine z_getP (own := RX18) (C := RX14) (TT := TX14) (N := 42) (ci := 15) (Ts := WR) hx hb hts zin_wsX140 hown hK hZ h_th k_th rfl 5 (by decide) (hts _ zw_12) (fun _ h9 => h9) f_th_5 dX18_inverse_25 ?_
  refine lv_iconst (v := nI 0) hx hb dX18_inverse_28 (by decide +kernel) ?_
  refine z_goV (va_runS (As := [.ref x2, .int (nI 0)]) (rest := []) ⟨hx, hb, hml, hown, hts⟩ ((c_X18_set E l D K X Y L T h_x2 k_x2 ⟨by omega, by omega⟩) H.size) (va_cwS 2 hts (zg_S zw_34 zw_16 zw_2 zw_15) rfl rfl rfl (by decide +kernel) ⟨Nat.le_of_ble_eq_true rfl, Nat.le_of_ble_eq_true rfl⟩) (z_preS hK hZ hS hA hE) rfl rfl hl.1 rfl (lv_room (Nat.le_of_ble_eq_true rfl)) dX18_inverse_29 ⟨Nat.le_of_ble_eq_true rfl, Nat.le_of_ble_eq_true rfl⟩) hZ hS hA (fun  Y1 L1 T1 H locs hp hZ hS => ?_)
  cases hp
  refine lv_aload_n hx hb dX18_inverse_32 rfl (lv_at hl 0 rfl) ?_
  refine z_getP (own := RX18) (C := RX14) (TT := TX14) (N := 42) (ci := 15) (Ts := WR) hx hb hts zin_wsX140 hown hK hZ h_th k_th rfl 4 (by decide) (hts _ zw_11) (fun _ h9 => h9) f_th_4 dX18_inverse_33 ?_
  refine lv_bipush (v := nI 16) hx hb dX18_inverse_36 (by decide +kernel) ?_
  refine lv_lconst (v := 0) hx hb dX18_inverse_38 (by decide +kernel) ?_
  refine z_last hx hb hK hZ hS 1 h_x1 k_x1 rfl (vp_in_nI (by omega) (by omega)) dX18_inverse_39 (fun H locs hZ hS => ?_)
  refine lv_aload_n hx hb dX18_inverse_40 rfl (lv_at hl 0 rfl) ?_
  refine z_getP (own := RX18) (C := RX14) (TT := TX14) (N := 42) (ci := 15) (Ts := WR) hx hb hts zin_wsX140 hown hK hZ h_th k_th rfl 5 (by decide) (hts _ zw_12) (fun _ h9 => h9) f_th_5 dX18_inverse_41 ?_
  refine lv_bipush (v := nI 16) hx hb dX18_inverse_44 (by decide +kernel) ?_
  refine lv_lconst (v := 0) hx hb dX18_inverse_46 (by decide +kernel) ?_
  refine z_last hx hb hK hZ hS 1 h_x2 k_x2 rfl (vp_in_nI (by omega) (by omega)) dX18_inverse_47 (fun H locs hZ hS => ?_)
  have J233 : ∀  (H : Heap) (locs : List Loc) (ls : Array Slot), zP D vwCl A X Y L T H → va_S A s.heap H locs → lv_has ls 5 [(0, .ref th), (1, .ref to), (2, .ref aa), (3, .ref mo)] → W p l e ROOM_X18_inverse s m [.ref th, .ref to, .ref aa, .ref mo].toArray below meth c H locs 0 0 (MQ below (va_Qv (zSame Y L T) (zB D vwCl (zT K) A X) A) [.ref th, .ref to, .ref aa, .ref mo].toArray s 0 0 A) (F0 m 233 ls []) := by
    intro  H locs ls hZ hS hl 
    refine lv_aload_n hx hb dX18_inverse_233 rfl (lv_at hl 2 rfl) ?_
    refine z_goI (va_runS (As := [.ref aa]) (rest := []) ⟨hx, hb, hml, hown, hts⟩ ((c_X18_zero E l D K X Y L T h_aa k_aa ⟨by omega, by omega⟩) H.size) (va_cwS 1 hts (zg_S zw_55 zw_18 zw_2 zw_17) rfl rfl rfl (by decide +kernel) ⟨Nat.le_of_ble_eq_true rfl, Nat.le_of_ble_eq_true rfl⟩) (z_preS hK hZ hS hA hE) rfl rfl hl.1 rfl (lv_room (Nat.le_of_ble_eq_true rfl)) dX18_inverse_234 ⟨Nat.le_of_ble_eq_true rfl, Nat.le_of_ble_eq_true rfl⟩) hZ hS hA (fun x5 Y1 L1 T1 H locs hp hZ hS => ?_)
    cases hp
    refine lv_if_eq (tgt := 248) hx hb dX18_inverse_237 (by decide) (fun c237 => ?_) (fun c237 => ?_)
    · refine lv_aload_n hx hb dX18_inverse_248 rfl (lv_at hl 1 rfl) ?_
      refine lv_aload_n hx hb dX18_inverse_249 rfl (lv_at hl 0 rfl) ?_
      refine z_getP (own := RX18) (C := RX14) (TT := TX14) (N := 42) (ci := 15) (Ts := WR) hx hb hts zin_wsX140 hown hK hZ h_th k_th rfl 2 (by decide) (hts _ zw_9) (fun _ h9 => h9) f_th_2 dX18_inverse_250 ?_
      refine z_goI (va_runS (As := [.ref u]) (rest := [.ref to]) ⟨hx, hb, hml, hown, hts⟩ ((c_X18_one E l D K X Y L T h_u k_u ⟨by omega, by omega⟩) H.size) (va_cwS 1 hts (zg_S zw_56 zw_41 zw_2 zw_40) rfl rfl rfl (by decide +kernel) ⟨Nat.le_of_ble_eq_true rfl, Nat.le_of_ble_eq_true rfl⟩) (z_preS hK hZ hS hA hE) rfl rfl hl.1 rfl (lv_room (Nat.le_of_ble_eq_true rfl)) dX18_inverse_253 ⟨Nat.le_of_ble_eq_true rfl, Nat.le_of_ble_eq_true rfl⟩) hZ hS hA (fun x6 Y1 L1 T1 H locs hp hZ hS => ?_)
      cases hp
      refine lv_if_eq (tgt := 266) hx hb dX18_inverse_256 (by decide) (fun c256 => ?_) (fun c256 => ?_)
      · refine lv_aload_n hx hb dX18_inverse_266 rfl (lv_at hl 0 rfl) ?_
        refine z_getP (own := RX18) (C := RX14) (TT := TX14) (N := 42) (ci := 15) (Ts := WR) hx hb hts zin_wsX140 hown hK hZ h_th k_th rfl 5 (by decide) (hts _ zw_12) (fun _ h9 => h9) f_th_5 dX18_inverse_267 ?_
        refine z_goV (va_runS (As := [.ref to, .ref x2]) (rest := []) ⟨hx, hb, hml, hown, hts⟩ ((c_X18_copy E l D K X Y L T h_to k_to ⟨by omega, by omega⟩ h_x2 k_x2 ⟨by omega, by omega⟩) H.size) (va_cwS 2 hts (zg_S zw_54 zw_14 zw_2 zw_13) rfl rfl rfl (by decide +kernel) ⟨Nat.le_of_ble_eq_true rfl, Nat.le_of_ble_eq_true rfl⟩) (z_preS hK hZ hS hA hE) rfl rfl hl.1 rfl (lv_room (Nat.le_of_ble_eq_true rfl)) dX18_inverse_270 ⟨Nat.le_of_ble_eq_true rfl, Nat.le_of_ble_eq_true rfl⟩) hZ hS hA (fun  Y1 L1 T1 H locs hp hZ hS => ?_)
        cases hp
        exact z_vret hx hb hr hlocks hK hZ hS rfl (Nat.le_of_ble_eq_true rfl) (Nat.le_of_ble_eq_true rfl) dX18_inverse_273
      · refine lv_aload_n hx hb dX18_inverse_259 rfl (lv_at hl 0 rfl) ?_
        refine z_getP (own := RX18) (C := RX14) (TT := TX14) (N := 42) (ci := 15) (Ts := WR) hx hb hts zin_wsX140 hown hK hZ h_th k_th rfl 4 (by decide) (hts _ zw_11) (fun _ h9 => h9) f_th_4 dX18_inverse_260 ?_
        refine lv_goto (tgt := 270) hx hb dX18_inverse_263 (by decide) ?_
        refine z_goV (va_runS (As := [.ref to, .ref x1]) (rest := []) ⟨hx, hb, hml, hown, hts⟩ ((c_X18_copy E l D K X Y L T h_to k_to ⟨by omega, by omega⟩ h_x1 k_x1 ⟨by omega, by omega⟩) H.size) (va_cwS 2 hts (zg_S zw_54 zw_14 zw_2 zw_13) rfl rfl rfl (by decide +kernel) ⟨Nat.le_of_ble_eq_true rfl, Nat.le_of_ble_eq_true rfl⟩) (z_preS hK hZ hS hA hE) rfl rfl hl.1 rfl (lv_room (Nat.le_of_ble_eq_true rfl)) dX18_inverse_270 ⟨Nat.le_of_ble_eq_true rfl, Nat.le_of_ble_eq_true rfl⟩) hZ hS hA (fun  Y1 L1 T1 H locs hp hZ hS => ?_)
        cases hp
        exact z_vret hx hb hr hlocks hK hZ hS rfl (Nat.le_of_ble_eq_true rfl) (Nat.le_of_ble_eq_true rfl) dX18_inverse_273
    · refine lv_aload_n hx hb dX18_inverse_240 rfl (lv_at hl 1 rfl) ?_
      refine lv_iconst (v := nI 0) hx hb dX18_inverse_241 (by decide +kernel) ?_
      refine z_goV (va_runS (As := [.ref to, .int (nI 0)]) (rest := []) ⟨hx, hb, hml, hown, hts⟩ ((c_X18_set E l D K X Y L T h_to k_to ⟨by omega, by omega⟩) H.size) (va_cwS 2 hts (zg_S zw_34 zw_16 zw_2 zw_15) rfl rfl rfl (by decide +kernel) ⟨Nat.le_of_ble_eq_true rfl, Nat.le_of_ble_eq_true rfl⟩) (z_preS hK hZ hS hA hE) rfl rfl hl.1 rfl (lv_room (Nat.le_of_ble_eq_true rfl)) dX18_inverse_242 ⟨Nat.le_of_ble_eq_true rfl, Nat.le_of_ble_eq_true rfl⟩) hZ hS hA (fun  Y1 L1 T1 H locs hp hZ hS => ?_)
      cases hp
      refine lv_goto (tgt := 273) hx hb dX18_inverse_245 (by decide) ?_
      exact z_vret hx hb hr hlocks hK hZ hS rfl (Nat.le_of_ble_eq_true rfl) (Nat.le_of_ble_eq_true rfl) dX18_inverse_273
  refine lv_iconst (v := nI 0) hx hb dX18_inverse_48 (by decide +kernel) ?_
  refine lv_istore (lv' := [(4, .int (nI 0)), (0, .ref th), (1, .ref to), (2, .ref aa), (3, .ref mo)]) hx hb dX18_inverse_49 hl (by decide) rfl (fun ls hl => ?_)
  have L51 : ∀ (n i51 : Nat), i51 ≤ 1100 → 1100 + 1 ≤ i51 + n → ∀  (H : Heap) (locs : List Loc) (ls : Array Slot), zP D vwCl A X Y L T H → va_S A s.heap H locs → lv_has ls 5 [(4, .int (nI i51)), (0, .ref th), (1, .ref to), (2, .ref aa), (3, .ref mo)] → W p l e ROOM_X18_inverse s m [.ref th, .ref to, .ref aa, .ref mo].toArray below meth c H locs 0 0 (MQ below (va_Qv (zSame Y L T) (zB D vwCl (zT K) A X) A) [.ref th, .ref to, .ref aa, .ref mo].toArray s 0 0 A) (F0 m 51 ls []) := by
    intro n
    induction n with
    | zero => intro i51 u51 w51; exact absurd w51 (by omega)
    | succ n ih51 =>
      intro i51 u51 w51  H locs ls hZ hS hl 
      refine lv_iload hx hb dX18_inverse_51 (lv_at hl 0 rfl) ?_
      refine lv_sipush (v := nI 1100) hx hb dX18_inverse_53 (by decide +kernel) ?_
      refine lv_icmp_ge (tgt := 233) hx hb dX18_inverse_56 (by decide) (fun c56 => ?_) (fun c56 => ?_)
      · have e56 : 1100 ≤ i51 := (nI_leI (a := 1100) (b := i51) (by omega) (by omega)).mp c56
        exact J233   _ _ _ hZ hS (lv_sub hl [1, 2, 3, 4] rfl) 
      · have e56 : ¬ 1100 ≤ i51 := fun q => c56 ((nI_leI (a := 1100) (b := i51) (by omega) (by omega)).mpr q)
        have J227 : ∀  (H : Heap) (locs : List Loc) (ls : Array Slot), zP D vwCl A X Y L T H → va_S A s.heap H locs → lv_has ls 5 [(0, .ref th), (1, .ref to), (2, .ref aa), (3, .ref mo), (4, .int (nI i51))] → W p l e ROOM_X18_inverse s m [.ref th, .ref to, .ref aa, .ref mo].toArray below meth c H locs 0 0 (MQ below (va_Qv (zSame Y L T) (zB D vwCl (zT K) A X) A) [.ref th, .ref to, .ref aa, .ref mo].toArray s 0 0 A) (F0 m 227 ls []) := by
          intro  H locs ls hZ hS hl 
          refine lv_iinc (v := nI (i51 + 1)) (lv' := [(4, .int (nI (i51 + 1))), (0, .ref th), (1, .ref to), (2, .ref aa), (3, .ref mo)]) hx hb dX18_inverse_227 hl (k := 4) rfl (nI_add i51 1) (by decide) rfl (fun ls hl => ?_)
          refine lv_goto (tgt := 51) hx hb dX18_inverse_230 (by decide) ?_
          exact ih51 (i51 + 1) (by omega) (by omega)  _ _ _ hZ hS (lv_sub hl [0, 1, 2, 3, 4] rfl) 
        refine lv_aload_n hx hb dX18_inverse_59 rfl (lv_at hl 3 rfl) ?_
        refine z_goI (va_runS (As := [.ref aa]) (rest := []) ⟨hx, hb, hml, hown, hts⟩ ((c_X18_zero E l D K X Y L T h_aa k_aa ⟨by omega, by omega⟩) H.size) (va_cwS 1 hts (zg_S zw_55 zw_18 zw_2 zw_17) rfl rfl rfl (by decide +kernel) ⟨Nat.le_of_ble_eq_true rfl, Nat.le_of_ble_eq_true rfl⟩) (z_preS hK hZ hS hA hE) rfl rfl hl.1 rfl (lv_room (Nat.le_of_ble_eq_true rfl)) dX18_inverse_60 ⟨Nat.le_of_ble_eq_true rfl, Nat.le_of_ble_eq_true rfl⟩) hZ hS hA (fun x10 Y1 L1 T1 H locs hp hZ hS => ?_)
        cases hp
        refine lv_if_ne (tgt := 233) hx hb dX18_inverse_63 (by decide) (fun c63 => ?_) (fun c63 => ?_)
        · exact J233   _ _ _ hZ hS (lv_sub hl [1, 2, 3, 4] rfl)
        · refine lv_aload_n hx hb dX18_inverse_66 rfl (lv_at hl 1 rfl) ?_
          refine z_getP (own := RX18) (C := RX14) (TT := TX14) (N := 42) (ci := 15) (Ts := WR) hx hb hts zin_wsX140 hown hK hZ h_th k_th rfl 2 (by decide) (hts _ zw_9) (fun _ h9 => h9) f_th_2 dX18_inverse_67 ?_
          refine z_goI (va_runS (As := [.ref u]) (rest := []) ⟨hx, hb, hml, hown, hts⟩ ((c_X18_one E l D K X Y L T h_u k_u ⟨by omega, by omega⟩) H.size) (va_cwS 1 hts (zg_S zw_56 zw_41 zw_2 zw_40) rfl rfl rfl (by decide +kernel) ⟨Nat.le_of_ble_eq_true rfl, Nat.le_of_ble_eq_true rfl⟩) (z_preS hK hZ hS hA hE) rfl rfl hl.1 rfl (lv_room (Nat.le_of_ble_eq_true rfl)) dX18_inverse_70 ⟨Nat.le_of_ble_eq_true rfl, Nat.le_of_ble_eq_true rfl⟩) hZ hS hA (fun x11 Y1 L1 T1 H locs hp hZ hS => ?_)
          cases hp
          refine lv_if_ne (tgt := 233) hx hb dX18_inverse_73 (by decide) (fun c73 => ?_) (fun c73 => ?_)
          · exact J233   _ _ _ hZ hS (lv_sub hl [1, 2, 3, 4] rfl)
          · refine lv_aload_n hx hb dX18_inverse_76 rfl (lv_at hl 1 rfl) ?_
            refine z_getP (own := RX18) (C := RX14) (TT := TX14) (N := 42) (ci := 15) (Ts := WR) hx hb hts zin_wsX140 hown hK hZ h_th k_th rfl 3 (by decide) (hts _ zw_10) (fun _ h9 => h9) f_th_3 dX18_inverse_77 ?_
            refine z_goI (va_runS (As := [.ref v]) (rest := []) ⟨hx, hb, hml, hown, hts⟩ ((c_X18_one E l D K X Y L T h_v k_v ⟨by omega, by omega⟩) H.size) (va_cwS 1 hts (zg_S zw_56 zw_41 zw_2 zw_40) rfl rfl rfl (by decide +kernel) ⟨Nat.le_of_ble_eq_true rfl, Nat.le_of_ble_eq_true rfl⟩) (z_preS hK hZ hS hA hE) rfl rfl hl.1 rfl (lv_room (Nat.le_of_ble_eq_true rfl)) dX18_inverse_80 ⟨Nat.le_of_ble_eq_true rfl, Nat.le_of_ble_eq_true rfl⟩) hZ hS hA (fun x12 Y1 L1 T1 H locs hp hZ hS => ?_)
            cases hp
            refine lv_if_ne (tgt := 233) hx hb dX18_inverse_83 (by decide) (fun c83 => ?_) (fun c83 => ?_)
            · exact J233   _ _ _ hZ hS (lv_sub hl [1, 2, 3, 4] rfl)
            · refine lv_aload_n hx hb dX18_inverse_86 rfl (lv_at hl 1 rfl) ?_
              refine z_getP (own := RX18) (C := RX14) (TT := TX14) (N := 42) (ci := 15) (Ts := WR) hx hb hts zin_wsX140 hown hK hZ h_th k_th rfl 2 (by decide) (hts _ zw_9) (fun _ h9 => h9) f_th_2 dX18_inverse_87 ?_
              refine lv_iconst (v := nI 0) hx hb dX18_inverse_90 (by decide +kernel) ?_
              refine z_lald hx hb hK hZ 1 h_u k_u rfl (vp_in_nI (by omega) (by omega)) dX18_inverse_91 (fun x13 => ?_)
              refine lv_lconst (v := 1) hx hb dX18_inverse_92 (by decide +kernel) ?_
              refine lv_land hx hb dX18_inverse_93 ?_
              refine lv_topl (fun x14 _ => ?_)
              refine lv_lconst (v := 0) hx hb dX18_inverse_94 (by decide +kernel) ?_
              refine W.lcmp hx hb dX18_inverse_95 ?_
              refine lv_topi (fun x15 ex15 => ?_)
              refine lv_if_ne (tgt := 117) hx hb dX18_inverse_96 (by decide) (fun c96 => ?_) (fun c96 => ?_)
              · refine lv_aload_n hx hb dX18_inverse_117 rfl (lv_at hl 1 rfl) ?_
                refine z_getP (own := RX18) (C := RX14) (TT := TX14) (N := 42) (ci := 15) (Ts := WR) hx hb hts zin_wsX140 hown hK hZ h_th k_th rfl 3 (by decide) (hts _ zw_10) (fun _ h9 => h9) f_th_3 dX18_inverse_118 ?_
                refine lv_iconst (v := nI 0) hx hb dX18_inverse_121 (by decide +kernel) ?_
                refine z_lald hx hb hK hZ 1 h_v k_v rfl (vp_in_nI (by omega) (by omega)) dX18_inverse_122 (fun x16 => ?_)
                refine lv_lconst (v := 1) hx hb dX18_inverse_123 (by decide +kernel) ?_
                refine lv_land hx hb dX18_inverse_124 ?_
                refine lv_topl (fun x17 _ => ?_)
                refine lv_lconst (v := 0) hx hb dX18_inverse_125 (by decide +kernel) ?_
                refine W.lcmp hx hb dX18_inverse_126 ?_
                refine lv_topi (fun x18 ex18 => ?_)
                refine lv_if_ne (tgt := 148) hx hb dX18_inverse_127 (by decide) (fun c127 => ?_) (fun c127 => ?_)
                · refine lv_aload_n hx hb dX18_inverse_148 rfl (lv_at hl 1 rfl) ?_
                  refine z_getP (own := RX18) (C := RX14) (TT := TX14) (N := 42) (ci := 15) (Ts := WR) hx hb hts zin_wsX140 hown hK hZ h_th k_th rfl 2 (by decide) (hts _ zw_9) (fun _ h9 => h9) f_th_2 dX18_inverse_149 ?_
                  refine lv_aload_n hx hb dX18_inverse_152 rfl (lv_at hl 1 rfl) ?_
                  refine z_getP (own := RX18) (C := RX14) (TT := TX14) (N := 42) (ci := 15) (Ts := WR) hx hb hts zin_wsX140 hown hK hZ h_th k_th rfl 3 (by decide) (hts _ zw_10) (fun _ h9 => h9) f_th_3 dX18_inverse_153 ?_
                  refine z_goI (va_runS (As := [.ref u, .ref v]) (rest := []) ⟨hx, hb, hml, hown, hts⟩ ((c_X18_below E l D K X Y L T h_u k_u ⟨by omega, by omega⟩ h_v k_v ⟨by omega, by omega⟩) H.size) (va_cwS 2 hts (zg_S zw_28 zw_20 zw_2 zw_19) rfl rfl rfl (by decide +kernel) ⟨Nat.le_of_ble_eq_true rfl, Nat.le_of_ble_eq_true rfl⟩) (z_preS hK hZ hS hA hE) rfl rfl hl.1 rfl (lv_room (Nat.le_of_ble_eq_true rfl)) dX18_inverse_156 ⟨Nat.le_of_ble_eq_true rfl, Nat.le_of_ble_eq_true rfl⟩) hZ hS hA (fun x19 Y1 L1 T1 H locs hp hZ hS => ?_)
                  cases hp
                  refine lv_if_eq (tgt := 196) hx hb dX18_inverse_159 (by decide) (fun c159 => ?_) (fun c159 => ?_)
                  · refine lv_aload_n hx hb dX18_inverse_196 rfl (lv_at hl 1 rfl) ?_
                    refine z_getP (own := RX18) (C := RX14) (TT := TX14) (N := 42) (ci := 15) (Ts := WR) hx hb hts zin_wsX140 hown hK hZ h_th k_th rfl 2 (by decide) (hts _ zw_9) (fun _ h9 => h9) f_th_2 dX18_inverse_197 ?_
                    refine lv_aload_n hx hb dX18_inverse_200 rfl (lv_at hl 1 rfl) ?_
                    refine z_getP (own := RX18) (C := RX14) (TT := TX14) (N := 42) (ci := 15) (Ts := WR) hx hb hts zin_wsX140 hown hK hZ h_th k_th rfl 2 (by decide) (hts _ zw_9) (fun _ h9 => h9) f_th_2 dX18_inverse_201 ?_
                    refine lv_aload_n hx hb dX18_inverse_204 rfl (lv_at hl 1 rfl) ?_
                    refine z_getP (own := RX18) (C := RX14) (TT := TX14) (N := 42) (ci := 15) (Ts := WR) hx hb hts zin_wsX140 hown hK hZ h_th k_th rfl 3 (by decide) (hts _ zw_10) (fun _ h9 => h9) f_th_3 dX18_inverse_205 ?_
                    refine z_goV (va_runS (As := [.ref u, .ref u, .ref v]) (rest := []) ⟨hx, hb, hml, hown, hts⟩ ((c_X18_less E l D K X Y L T h_u k_u ⟨by omega, by omega⟩ h_u k_u ⟨by omega, by omega⟩ h_v k_v ⟨by omega, by omega⟩) H.size) (va_cwS 3 hts (zg_S zw_29 zw_24 zw_2 zw_23) rfl rfl rfl (by decide +kernel) ⟨Nat.le_of_ble_eq_true rfl, Nat.le_of_ble_eq_true rfl⟩) (z_preS hK hZ hS hA hE) rfl rfl hl.1 rfl (lv_room (Nat.le_of_ble_eq_true rfl)) dX18_inverse_208 ⟨Nat.le_of_ble_eq_true rfl, Nat.le_of_ble_eq_true rfl⟩) hZ hS hA (fun  Y1 L1 T1 H locs hp hZ hS => ?_)
                    cases hp
                    refine lv_aload_n hx hb dX18_inverse_211 rfl (lv_at hl 1 rfl) ?_
                    refine z_getP (own := RX18) (C := RX14) (TT := TX14) (N := 42) (ci := 15) (Ts := WR) hx hb hts zin_wsX140 hown hK hZ h_th k_th rfl 4 (by decide) (hts _ zw_11) (fun _ h9 => h9) f_th_4 dX18_inverse_212 ?_
                    refine lv_aload_n hx hb dX18_inverse_215 rfl (lv_at hl 1 rfl) ?_
                    refine z_getP (own := RX18) (C := RX14) (TT := TX14) (N := 42) (ci := 15) (Ts := WR) hx hb hts zin_wsX140 hown hK hZ h_th k_th rfl 4 (by decide) (hts _ zw_11) (fun _ h9 => h9) f_th_4 dX18_inverse_216 ?_
                    refine lv_aload_n hx hb dX18_inverse_219 rfl (lv_at hl 1 rfl) ?_
                    refine z_getP (own := RX18) (C := RX14) (TT := TX14) (N := 42) (ci := 15) (Ts := WR) hx hb hts zin_wsX140 hown hK hZ h_th k_th rfl 5 (by decide) (hts _ zw_12) (fun _ h9 => h9) f_th_5 dX18_inverse_220 ?_
                    refine lv_aload_n hx hb dX18_inverse_223 rfl (lv_at hl 4 rfl) ?_
                    refine z_goV (va_runS (As := [.ref x1, .ref x1, .ref x2, .ref mo]) (rest := []) ⟨hx, hb, hml, hown, hts⟩ ((c_X18_minus E l D K X Y L T h_x1 k_x1 ⟨by omega, by omega⟩ h_x1 k_x1 ⟨by omega, by omega⟩ h_x2 k_x2 ⟨by omega, by omega⟩ h_mo k_mo ⟨by omega, by omega⟩) H.size) (va_cwS 4 hts (zg_S zw_59 zw_31 zw_2 zw_30) rfl rfl rfl (by decide +kernel) ⟨Nat.le_of_ble_eq_true rfl, Nat.le_of_ble_eq_true rfl⟩) (z_preS hK hZ hS hA hE) rfl rfl hl.1 rfl (lv_room (Nat.le_of_ble_eq_true rfl)) dX18_inverse_224 ⟨Nat.le_of_ble_eq_true rfl, Nat.le_of_ble_eq_true rfl⟩) hZ hS hA (fun  Y1 L1 T1 H locs hp hZ hS => ?_)
                    cases hp
                    exact J227   _ _ _ hZ hS (lv_sub hl [1, 2, 3, 4, 0] rfl) 
                  · refine lv_aload_n hx hb dX18_inverse_162 rfl (lv_at hl 1 rfl) ?_
                    refine z_getP (own := RX18) (C := RX14) (TT := TX14) (N := 42) (ci := 15) (Ts := WR) hx hb hts zin_wsX140 hown hK hZ h_th k_th rfl 3 (by decide) (hts _ zw_10) (fun _ h9 => h9) f_th_3 dX18_inverse_163 ?_
                    refine lv_aload_n hx hb dX18_inverse_166 rfl (lv_at hl 1 rfl) ?_
                    refine z_getP (own := RX18) (C := RX14) (TT := TX14) (N := 42) (ci := 15) (Ts := WR) hx hb hts zin_wsX140 hown hK hZ h_th k_th rfl 3 (by decide) (hts _ zw_10) (fun _ h9 => h9) f_th_3 dX18_inverse_167 ?_
                    refine lv_aload_n hx hb dX18_inverse_170 rfl (lv_at hl 1 rfl) ?_
                    refine z_getP (own := RX18) (C := RX14) (TT := TX14) (N := 42) (ci := 15) (Ts := WR) hx hb hts zin_wsX140 hown hK hZ h_th k_th rfl 2 (by decide) (hts _ zw_9) (fun _ h9 => h9) f_th_2 dX18_inverse_171 ?_
                    refine z_goV (va_runS (As := [.ref v, .ref v, .ref u]) (rest := []) ⟨hx, hb, hml, hown, hts⟩ ((c_X18_less E l D K X Y L T h_v k_v ⟨by omega, by omega⟩ h_v k_v ⟨by omega, by omega⟩ h_u k_u ⟨by omega, by omega⟩) H.size) (va_cwS 3 hts (zg_S zw_29 zw_24 zw_2 zw_23) rfl rfl rfl (by decide +kernel) ⟨Nat.le_of_ble_eq_true rfl, Nat.le_of_ble_eq_true rfl⟩) (z_preS hK hZ hS hA hE) rfl rfl hl.1 rfl (lv_room (Nat.le_of_ble_eq_true rfl)) dX18_inverse_174 ⟨Nat.le_of_ble_eq_true rfl, Nat.le_of_ble_eq_true rfl⟩) hZ hS hA (fun  Y1 L1 T1 H locs hp hZ hS => ?_)
                    cases hp
                    refine lv_aload_n hx hb dX18_inverse_177 rfl (lv_at hl 1 rfl) ?_
                    refine z_getP (own := RX18) (C := RX14) (TT := TX14) (N := 42) (ci := 15) (Ts := WR) hx hb hts zin_wsX140 hown hK hZ h_th k_th rfl 5 (by decide) (hts _ zw_12) (fun _ h9 => h9) f_th_5 dX18_inverse_178 ?_
                    refine lv_aload_n hx hb dX18_inverse_181 rfl (lv_at hl 1 rfl) ?_
                    refine z_getP (own := RX18) (C := RX14) (TT := TX14) (N := 42) (ci := 15) (Ts := WR) hx hb hts zin_wsX140 hown hK hZ h_th k_th rfl 5 (by decide) (hts _ zw_12) (fun _ h9 => h9) f_th_5 dX18_inverse_182 ?_
                    refine lv_aload_n hx hb dX18_inverse_185 rfl (lv_at hl 1 rfl) ?_
                    refine z_getP (own := RX18) (C := RX14) (TT := TX14) (N := 42) (ci := 15) (Ts := WR) hx hb hts zin_wsX140 hown hK hZ h_th k_th rfl 4 (by decide) (hts _ zw_11) (fun _ h9 => h9) f_th_4 dX18_inverse_186 ?_
                    refine lv_aload_n hx hb dX18_inverse_189 rfl (lv_at hl 4 rfl) ?_
                    refine z_goV (va_runS (As := [.ref x2, .ref x2, .ref x1, .ref mo]) (rest := []) ⟨hx, hb, hml, hown, hts⟩ ((c_X18_minus E l D K X Y L T h_x2 k_x2 ⟨by omega, by omega⟩ h_x2 k_x2 ⟨by omega, by omega⟩ h_x1 k_x1 ⟨by omega, by omega⟩ h_mo k_mo ⟨by omega, by omega⟩) H.size) (va_cwS 4 hts (zg_S zw_59 zw_31 zw_2 zw_30) rfl rfl rfl (by decide +kernel) ⟨Nat.le_of_ble_eq_true rfl, Nat.le_of_ble_eq_true rfl⟩) (z_preS hK hZ hS hA hE) rfl rfl hl.1 rfl (lv_room (Nat.le_of_ble_eq_true rfl)) dX18_inverse_190 ⟨Nat.le_of_ble_eq_true rfl, Nat.le_of_ble_eq_true rfl⟩) hZ hS hA (fun  Y1 L1 T1 H locs hp hZ hS => ?_)
                    cases hp
                    refine lv_goto (tgt := 227) hx hb dX18_inverse_193 (by decide) ?_
                    exact J227   _ _ _ hZ hS (lv_sub hl [1, 2, 3, 4, 0] rfl) 
                · refine lv_aload_n hx hb dX18_inverse_130 rfl (lv_at hl 1 rfl) ?_
                  refine z_getP (own := RX18) (C := RX14) (TT := TX14) (N := 42) (ci := 15) (Ts := WR) hx hb hts zin_wsX140 hown hK hZ h_th k_th rfl 3 (by decide) (hts _ zw_10) (fun _ h9 => h9) f_th_3 dX18_inverse_131 ?_
                  refine z_goV (va_runS (As := [.ref v]) (rest := []) ⟨hx, hb, hml, hown, hts⟩ ((c_X18_halve E l D K X Y L T h_v k_v ⟨by omega, by omega⟩) H.size) (va_cwS 1 hts (zg_S zw_57 zw_39 zw_2 zw_38) rfl rfl rfl (by decide +kernel) ⟨Nat.le_of_ble_eq_true rfl, Nat.le_of_ble_eq_true rfl⟩) (z_preS hK hZ hS hA hE) rfl rfl hl.1 rfl (lv_room (Nat.le_of_ble_eq_true rfl)) dX18_inverse_134 ⟨Nat.le_of_ble_eq_true rfl, Nat.le_of_ble_eq_true rfl⟩) hZ hS hA (fun  Y1 L1 T1 H locs hp hZ hS => ?_)
                  cases hp
                  refine lv_aload_n hx hb dX18_inverse_137 rfl (lv_at hl 1 rfl) ?_
                  refine z_getP (own := RX18) (C := RX14) (TT := TX14) (N := 42) (ci := 15) (Ts := WR) hx hb hts zin_wsX140 hown hK hZ h_th k_th rfl 5 (by decide) (hts _ zw_12) (fun _ h9 => h9) f_th_5 dX18_inverse_138 ?_
                  refine lv_aload_n hx hb dX18_inverse_141 rfl (lv_at hl 4 rfl) ?_
                  refine z_goV (va_runS (As := [.ref x2, .ref mo]) (rest := []) ⟨hx, hb, hml, hown, hts⟩ ((c_X18_half E l D K X Y L T h_x2 k_x2 ⟨by omega, by omega⟩ h_mo k_mo ⟨by omega, by omega⟩) H.size) (va_cwS 2 hts (zg_S zw_58 zw_37 zw_2 zw_36) rfl rfl rfl (by decide +kernel) ⟨Nat.le_of_ble_eq_true rfl, Nat.le_of_ble_eq_true rfl⟩) (z_preS hK hZ hS hA hE) rfl rfl hl.1 rfl (lv_room (Nat.le_of_ble_eq_true rfl)) dX18_inverse_142 ⟨Nat.le_of_ble_eq_true rfl, Nat.le_of_ble_eq_true rfl⟩) hZ hS hA (fun  Y1 L1 T1 H locs hp hZ hS => ?_)
                  cases hp
                  refine lv_goto (tgt := 227) hx hb dX18_inverse_145 (by decide) ?_
                  exact J227   _ _ _ hZ hS (lv_sub hl [1, 2, 3, 4, 0] rfl) 
              · refine lv_aload_n hx hb dX18_inverse_99 rfl (lv_at hl 1 rfl) ?_
                refine z_getP (own := RX18) (C := RX14) (TT := TX14) (N := 42) (ci := 15) (Ts := WR) hx hb hts zin_wsX140 hown hK hZ h_th k_th rfl 2 (by decide) (hts _ zw_9) (fun _ h9 => h9) f_th_2 dX18_inverse_100 ?_
                refine z_goV (va_runS (As := [.ref u]) (rest := []) ⟨hx, hb, hml, hown, hts⟩ ((c_X18_halve E l D K X Y L T h_u k_u ⟨by omega, by omega⟩) H.size) (va_cwS 1 hts (zg_S zw_57 zw_39 zw_2 zw_38) rfl rfl rfl (by decide +kernel) ⟨Nat.le_of_ble_eq_true rfl, Nat.le_of_ble_eq_true rfl⟩) (z_preS hK hZ hS hA hE) rfl rfl hl.1 rfl (lv_room (Nat.le_of_ble_eq_true rfl)) dX18_inverse_103 ⟨Nat.le_of_ble_eq_true rfl, Nat.le_of_ble_eq_true rfl⟩) hZ hS hA (fun  Y1 L1 T1 H locs hp hZ hS => ?_)
                cases hp
                refine lv_aload_n hx hb dX18_inverse_106 rfl (lv_at hl 1 rfl) ?_
                refine z_getP (own := RX18) (C := RX14) (TT := TX14) (N := 42) (ci := 15) (Ts := WR) hx hb hts zin_wsX140 hown hK hZ h_th k_th rfl 4 (by decide) (hts _ zw_11) (fun _ h9 => h9) f_th_4 dX18_inverse_107 ?_
                refine lv_aload_n hx hb dX18_inverse_110 rfl (lv_at hl 4 rfl) ?_
                refine z_goV (va_runS (As := [.ref x1, .ref mo]) (rest := []) ⟨hx, hb, hml, hown, hts⟩ ((c_X18_half E l D K X Y L T h_x1 k_x1 ⟨by omega, by omega⟩ h_mo k_mo ⟨by omega, by omega⟩) H.size) (va_cwS 2 hts (zg_S zw_58 zw_37 zw_2 zw_36) rfl rfl rfl (by decide +kernel) ⟨Nat.le_of_ble_eq_true rfl, Nat.le_of_ble_eq_true rfl⟩) (z_preS hK hZ hS hA hE) rfl rfl hl.1 rfl (lv_room (Nat.le_of_ble_eq_true rfl)) dX18_inverse_111 ⟨Nat.le_of_ble_eq_true rfl, Nat.le_of_ble_eq_true rfl⟩) hZ hS hA (fun  Y1 L1 T1 H locs hp hZ hS => ?_)
                cases hp
                refine lv_goto (tgt := 227) hx hb dX18_inverse_114 (by decide) ?_
                exact J227   _ _ _ hZ hS (lv_sub hl [1, 2, 3, 4, 0] rfl) 
  exact L51 (1100 + 1) 0 (by omega) (by omega)  _ _ _ hZ hS (lv_sub hl [0, 1, 2, 3, 4] rfl) 
abbrev ROOM_X14_power : Room := { frames := 4, cells := 0, slots := 0, locals := 85 }
set_option maxHeartbeats 4000000 in
set_option maxRecDepth 100000 in
/-- power -/
theorem c_X14_power (E : zEn) (l : Launch) (D : va_G) (K : Nat → ClassId) (X Y : va_W) (L : List Nat) (T : Nat → va_E → Prop) {th : Nat} {vs_th : List Value} {product n_product : Nat} {sum n_sum : Nat} {pp n_pp : Nat} {pt n_pt : Nat} {ff n_ff : Nat} {to n_to : Nat} {of n_of : Nat} {ex n_ex : Nat}  (h_th : th ∈ L) (k_th : T th = zO 15 vs_th) (f_th_0 : vs_th[0]? = some (.ref product)) (h_product : product ∈ L) (k_product : T product = zJ (K 1) n_product) (b_product : 32 ≤ n_product ∧ n_product < 2147483648) (f_th_1 : vs_th[1]? = some (.ref sum)) (h_sum : sum ∈ L) (k_sum : T sum = zJ (K 1) n_sum) (b_sum : 18 ≤ n_sum ∧ n_sum < 2147483648) (f_th_8 : vs_th[8]? = some (.ref pp)) (h_pp : pp ∈ L) (k_pp : T pp = zJ (K 1) n_pp) (b_pp : 16 ≤ n_pp ∧ n_pp < 2147483648) (f_th_9 : vs_th[9]? = some (.ref pt)) (h_pt : pt ∈ L) (k_pt : T pt = zJ (K 1) n_pt) (b_pt : 256 ≤ n_pt ∧ n_pt < 2147483648) (f_th_26 : vs_th[26]? = some (.ref ff)) (h_ff : ff ∈ L) (k_ff : T ff = zJ (K 1) n_ff) (b_ff : 16 ≤ n_ff ∧ n_ff < 2147483648) (h_to : to ∈ L) (k_to : T to = zJ (K 1) n_to) (b_to : 16 ≤ n_to ∧ n_to < 2147483648) (h_of : of ∈ L) (k_of : T of = zJ (K 1) n_of) (b_of : 16 ≤ n_of ∧ n_of < 2147483648) (h_ex : ex ∈ L) (k_ex : T ex = zJ (K 1) n_ex) (b_ex : 16 ≤ n_ex ∧ n_ex < 2147483648)  : zV E l D vwCl (zT K) yX14_power (zws yX14_power cX14_power 5 none) ROOM_X14_power 0 0 [.ref th, .ref to, .ref of, .ref ex] X Y L T (zSame Y L T) := by
  refine z_ofW (E := E) (Qc := fun A => va_Qv (zSame Y L T) (zB D vwCl (zT K) A X) A) (cc := cX14_power) (maxL := 5) (ret := none) (by decide +kernel) rfl (Nat.le_of_ble_eq_true rfl) ?_
  intro p e s m below meth c A ls hx hb hml hr hts hown hlocks hin hA hK hZ hS hE hl
  have hown : s.vm.findClass RX14 = some m.cls := hown
  have hts : ∀ w ∈ WR, w.before [.ref th, .ref to, .ref of, .ref ex].toArray s = true := fun w h => hts w (List.mem_cons_of_mem _ h)
  have hl : lv_has ls 5 [(0, .ref th), (1, .ref to), (2, .ref of), (3, .ref ex)] := hl
  obtain ⟨H, hH⟩ : ∃ H, H = s.heap := ⟨_, rfl⟩
  have hZ : zP D vwCl A X Y L T H := by rw [hH]; exact hZ
  obtain ⟨locs, hlc⟩ : ∃ q : List Loc, q = [] := ⟨_, rfl⟩
  have hS : va_S A s.heap H locs := by rw [hH, hlc]; exact hS
  suffices hW : W p l e ROOM_X14_power s m [.ref th, .ref to, .ref of, .ref ex].toArray below meth c H locs 0 0 (MQ below (va_Qv (zSame Y L T) (zB D vwCl (zT K) A X) A) [.ref th, .ref to, .ref of, .ref ex].toArray s 0 0 A) (F0 m 0 ls []) by rw [hH, hlc] at hW; exact hW
  clear hH hlc
  refine lv_aload_n hx hb dX14_power_0 rfl (lv_at hl 0 rfl) ?_
  refine z_getP (own := RX14) (C := RX14) (TT := TX14) (N := 42) (ci := 15) (Ts := WR) hx hb hts zin_wsX140 hown hK hZ h_th k_th rfl 26 (by decide) (hts _ zw_83) (fun _ h9 => h9) f_th_26 dX14_power_1 ?_
  refine lv_iconst (v := nI 1) hx hb dX14_power_4 (by decide +kernel) ?_
  refine z_goV (z_runSUp (x := ⟨"ShellPairModel$Curve", "set", "([JI)V"⟩) (owner := "ShellPairModel$Numbers") (n := 2) (As := [.ref ff, .int (nI 1)]) (rest := []) ⟨hx, hb, hml, hown, hts⟩ ((c_X18_set E l D K X Y L T h_ff k_ff ⟨by omega, by omega⟩) H.size) rfl (zg_I zw_15) rfl rfl rfl ⟨Nat.le_of_ble_eq_true rfl, Nat.le_of_ble_eq_true rfl⟩ (hts _ zw_111) (hts _ zw_112) (hts _ zw_16) (hts _ zw_2) (by decide +kernel) (z_preS hK hZ hS hA hE) rfl rfl hl.1 rfl (lv_room (Nat.le_of_ble_eq_true rfl)) dX14_power_5 ⟨Nat.le_of_ble_eq_true rfl, Nat.le_of_ble_eq_true rfl⟩) hZ hS hA (fun  Y1 L1 T1 H locs hp hZ hS => ?_)
  cases hp
  refine lv_sipush (v := nI 255) hx hb dX14_power_8 (by decide +kernel) ?_
  refine lv_istore (lv' := [(4, .int (nI 255)), (0, .ref th), (1, .ref to), (2, .ref of), (3, .ref ex)]) hx hb dX14_power_11 hl (by decide) rfl (fun ls hl => ?_)
  have L13 : ∀ (i13 : Nat), i13 ≤ 256 → ∀  (H : Heap) (locs : List Loc) (ls : Array Slot), zP D vwCl A X Y L T H → va_S A s.heap H locs → lv_has ls 5 [(4, .int (nI i13 + (-1))), (0, .ref th), (1, .ref to), (2, .ref of), (3, .ref ex)] → W p l e ROOM_X14_power s m [.ref th, .ref to, .ref of, .ref ex].toArray below meth c H locs 0 0 (MQ below (va_Qv (zSame Y L T) (zB D vwCl (zT K) A X) A) [.ref th, .ref to, .ref of, .ref ex].toArray s 0 0 A) (F0 m 13 ls []) := by
    intro i13
    induction i13 with
    | zero =>
      intro u13  H locs ls hZ hS hl 
      refine lv_iload hx hb dX14_power_13 (lv_at hl 0 rfl) ?_
      refine lv_if_lt (tgt := 79) hx hb dX14_power_15 (by decide) (fun c15 => ?_) (fun c15 => ?_)
      · refine lv_aload_n hx hb dX14_power_79 rfl (lv_at hl 2 rfl) ?_
        refine lv_aload_n hx hb dX14_power_80 rfl (lv_at hl 1 rfl) ?_
        refine z_getP (own := RX14) (C := RX14) (TT := TX14) (N := 42) (ci := 15) (Ts := WR) hx hb hts zin_wsX140 hown hK hZ h_th k_th rfl 26 (by decide) (hts _ zw_83) (fun _ h9 => h9) f_th_26 dX14_power_81 ?_
        refine z_goV (z_runSUp (x := ⟨"ShellPairModel$Curve", "copy", "([J[J)V"⟩) (owner := "ShellPairModel$Numbers") (n := 2) (As := [.ref to, .ref ff]) (rest := []) ⟨hx, hb, hml, hown, hts⟩ ((c_X18_copy E l D K X Y L T h_to k_to ⟨by omega, by omega⟩ h_ff k_ff ⟨by omega, by omega⟩) H.size) rfl (zg_I zw_13) rfl rfl rfl ⟨Nat.le_of_ble_eq_true rfl, Nat.le_of_ble_eq_true rfl⟩ (hts _ zw_133) (hts _ zw_134) (hts _ zw_14) (hts _ zw_2) (by decide +kernel) (z_preS hK hZ hS hA hE) rfl rfl hl.1 rfl (lv_room (Nat.le_of_ble_eq_true rfl)) dX14_power_84 ⟨Nat.le_of_ble_eq_true rfl, Nat.le_of_ble_eq_true rfl⟩) hZ hS hA (fun  Y1 L1 T1 H locs hp hZ hS => ?_)
        cases hp
        exact z_vret hx hb hr hlocks hK hZ hS rfl (Nat.le_of_ble_eq_true rfl) (Nat.le_of_ble_eq_true rfl) dX14_power_87
      · exact absurd (by decide +kernel) c15
    | succ i13 ih13 =>
      intro u13  H locs ls hZ hS hl 
      rw [pk_m1 i13] at hl
      refine lv_iload hx hb dX14_power_13 (lv_at hl 0 rfl) ?_
      refine lv_if_lt (tgt := 79) hx hb dX14_power_15 (by decide) (fun c15 => ?_) (fun c15 => ?_)
      · exact absurd c15 (nI_pos (by omega))
      · have e15 : ¬ i13 < 0 := fun q => c15 ((nI_ltI (a := i13) (b := 0) (by omega) (by omega)).mpr q)
        refine lv_aload_n hx hb dX14_power_18 rfl (lv_at hl 1 rfl) ?_
        refine lv_aload_n hx hb dX14_power_19 rfl (lv_at hl 1 rfl) ?_
        refine z_getP (own := RX14) (C := RX14) (TT := TX14) (N := 42) (ci := 15) (Ts := WR) hx hb hts zin_wsX140 hown hK hZ h_th k_th rfl 26 (by decide) (hts _ zw_83) (fun _ h9 => h9) f_th_26 dX14_power_20 ?_
        refine lv_aload_n hx hb dX14_power_23 rfl (lv_at hl 1 rfl) ?_
        refine z_getP (own := RX14) (C := RX14) (TT := TX14) (N := 42) (ci := 15) (Ts := WR) hx hb hts zin_wsX140 hown hK hZ h_th k_th rfl 26 (by decide) (hts _ zw_83) (fun _ h9 => h9) f_th_26 dX14_power_24 ?_
        refine lv_aload_n hx hb dX14_power_27 rfl (lv_at hl 1 rfl) ?_
        refine z_getP (own := RX14) (C := RX14) (TT := TX14) (N := 42) (ci := 15) (Ts := WR) hx hb hts zin_wsX140 hown hK hZ h_th k_th rfl 26 (by decide) (hts _ zw_83) (fun _ h9 => h9) f_th_26 dX14_power_28 ?_
        refine lv_aload_n hx hb dX14_power_31 rfl (lv_at hl 1 rfl) ?_
        refine z_getP (own := RX14) (C := RX14) (TT := TX14) (N := 42) (ci := 15) (Ts := WR) hx hb hts zin_wsX140 hown hK hZ h_th k_th rfl 8 (by decide) (hts _ zw_65) (fun _ h9 => h9) f_th_8 dX14_power_32 ?_
        refine lv_aload_n hx hb dX14_power_35 rfl (lv_at hl 1 rfl) ?_
        refine z_getP (own := RX14) (C := RX14) (TT := TX14) (N := 42) (ci := 15) (Ts := WR) hx hb hts zin_wsX140 hown hK hZ h_th k_th rfl 9 (by decide) (hts _ zw_66) (fun _ h9 => h9) f_th_9 dX14_power_36 ?_
        refine z_goV (va_runU (C := RX14) (owner := "ShellPairModel$Numbers") (x := ⟨"ShellPairModel$Curve", "times", "([J[J[J[J[J)V"⟩) (As := [.ref ff, .ref ff, .ref ff, .ref pp, .ref pt]) (rest := []) ⟨hx, hb, hml, hown, hts⟩ ((c_X18_times E l D K X Y L T h_th k_th f_th_0 h_product k_product ⟨by omega, by omega⟩ f_th_1 h_sum k_sum ⟨by omega, by omega⟩ h_ff k_ff ⟨by omega, by omega⟩ h_ff k_ff ⟨by omega, by omega⟩ h_ff k_ff ⟨by omega, by omega⟩ h_pp k_pp ⟨by omega, by omega⟩ h_pt k_pt ⟨by omega, by omega⟩) H.size) (va_cwU 5 hts (zg_U zw_118 zw_120 zw_119 zw_47 zw_2 zw_46) rfl rfl rfl rfl (by decide +kernel) ⟨Nat.le_of_ble_eq_true rfl, Nat.le_of_ble_eq_true rfl⟩) (z_preV hK hZ hS hA hE (z_recvP hK hZ h_th k_th rfl)) rfl rfl hl.1 rfl (lv_room (Nat.le_of_ble_eq_true rfl)) dX14_power_39 ⟨Nat.le_of_ble_eq_true rfl, Nat.le_of_ble_eq_true rfl⟩) hZ hS hA (fun  Y1 L1 T1 H locs hp hZ hS => ?_)
        cases hp
        refine lv_aload_n hx hb dX14_power_42 rfl (lv_at hl 4 rfl) ?_
        refine lv_iload hx hb dX14_power_43 (lv_at hl 0 rfl) ?_
        refine z_goI (z_runSUp (x := ⟨"ShellPairModel$Curve", "bit", "([JI)I"⟩) (owner := "ShellPairModel$Numbers") (n := 2) (As := [.ref ex, .int (nI i13)]) (rest := []) ⟨hx, hb, hml, hown, hts⟩ ((c_X18_bit E l D K X Y L T h_ex k_ex ⟨by omega, by omega⟩ (by omega)) H.size) rfl (zg_I zw_42) rfl rfl rfl ⟨Nat.le_of_ble_eq_true rfl, Nat.le_of_ble_eq_true rfl⟩ (hts _ zw_135) (hts _ zw_136) (hts _ zw_43) (hts _ zw_2) (by decide +kernel) (z_preS hK hZ hS hA hE) rfl rfl hl.1 rfl (lv_room (Nat.le_of_ble_eq_true rfl)) dX14_power_45 ⟨Nat.le_of_ble_eq_true rfl, Nat.le_of_ble_eq_true rfl⟩) hZ hS hA (fun x4 Y1 L1 T1 H locs hp hZ hS => ?_)
        cases hp
        refine lv_iconst (v := nI 1) hx hb dX14_power_48 (by decide +kernel) ?_
        refine lv_icmp_ne (tgt := 73) hx hb dX14_power_49 (by decide) (fun c49 => ?_) (fun c49 => ?_)
        · refine lv_iinc (v := nI i13 + (-1)) (lv' := [(4, .int (nI i13 + (-1))), (0, .ref th), (1, .ref to), (2, .ref of), (3, .ref ex)]) hx hb dX14_power_73 hl (k := 0) rfl rfl (by decide) rfl (fun ls hl => ?_)
          refine lv_goto (tgt := 13) hx hb dX14_power_76 (by decide) ?_
          exact ih13 (by omega)  _ _ _ hZ hS (lv_sub hl [0, 1, 2, 3, 4] rfl) 
        · refine lv_aload_n hx hb dX14_power_52 rfl (lv_at hl 1 rfl) ?_
          refine lv_aload_n hx hb dX14_power_53 rfl (lv_at hl 1 rfl) ?_
          refine z_getP (own := RX14) (C := RX14) (TT := TX14) (N := 42) (ci := 15) (Ts := WR) hx hb hts zin_wsX140 hown hK hZ h_th k_th rfl 26 (by decide) (hts _ zw_83) (fun _ h9 => h9) f_th_26 dX14_power_54 ?_
          refine lv_aload_n hx hb dX14_power_57 rfl (lv_at hl 1 rfl) ?_
          refine z_getP (own := RX14) (C := RX14) (TT := TX14) (N := 42) (ci := 15) (Ts := WR) hx hb hts zin_wsX140 hown hK hZ h_th k_th rfl 26 (by decide) (hts _ zw_83) (fun _ h9 => h9) f_th_26 dX14_power_58 ?_
          refine lv_aload_n hx hb dX14_power_61 rfl (lv_at hl 3 rfl) ?_
          refine lv_aload_n hx hb dX14_power_62 rfl (lv_at hl 1 rfl) ?_
          refine z_getP (own := RX14) (C := RX14) (TT := TX14) (N := 42) (ci := 15) (Ts := WR) hx hb hts zin_wsX140 hown hK hZ h_th k_th rfl 8 (by decide) (hts _ zw_65) (fun _ h9 => h9) f_th_8 dX14_power_63 ?_
          refine lv_aload_n hx hb dX14_power_66 rfl (lv_at hl 1 rfl) ?_
          refine z_getP (own := RX14) (C := RX14) (TT := TX14) (N := 42) (ci := 15) (Ts := WR) hx hb hts zin_wsX140 hown hK hZ h_th k_th rfl 9 (by decide) (hts _ zw_66) (fun _ h9 => h9) f_th_9 dX14_power_67 ?_
          refine z_goV (va_runU (C := RX14) (owner := "ShellPairModel$Numbers") (x := ⟨"ShellPairModel$Curve", "times", "([J[J[J[J[J)V"⟩) (As := [.ref ff, .ref ff, .ref of, .ref pp, .ref pt]) (rest := []) ⟨hx, hb, hml, hown, hts⟩ ((c_X18_times E l D K X Y L T h_th k_th f_th_0 h_product k_product ⟨by omega, by omega⟩ f_th_1 h_sum k_sum ⟨by omega, by omega⟩ h_ff k_ff ⟨by omega, by omega⟩ h_ff k_ff ⟨by omega, by omega⟩ h_of k_of ⟨by omega, by omega⟩ h_pp k_pp ⟨by omega, by omega⟩ h_pt k_pt ⟨by omega, by omega⟩) H.size) (va_cwU 5 hts (zg_U zw_118 zw_120 zw_119 zw_47 zw_2 zw_46) rfl rfl rfl rfl (by decide +kernel) ⟨Nat.le_of_ble_eq_true rfl, Nat.le_of_ble_eq_true rfl⟩) (z_preV hK hZ hS hA hE (z_recvP hK hZ h_th k_th rfl)) rfl rfl hl.1 rfl (lv_room (Nat.le_of_ble_eq_true rfl)) dX14_power_70 ⟨Nat.le_of_ble_eq_true rfl, Nat.le_of_ble_eq_true rfl⟩) hZ hS hA (fun  Y1 L1 T1 H locs hp hZ hS => ?_)
          cases hp
          refine lv_iinc (v := nI i13 + (-1)) (lv' := [(4, .int (nI i13 + (-1))), (0, .ref th), (1, .ref to), (2, .ref of), (3, .ref ex)]) hx hb dX14_power_73 hl (k := 0) rfl rfl (by decide) rfl (fun ls hl => ?_)
          refine lv_goto (tgt := 13) hx hb dX14_power_76 (by decide) ?_
          exact ih13 (by omega)  _ _ _ hZ hS (lv_sub hl [0, 1, 2, 3, 4] rfl) 
  exact L13 (255 + 1) (by omega)  _ _ _ hZ hS (by rw [pk_m1]; exact lv_sub hl [0, 1, 2, 3, 4] rfl) 
abbrev ROOM_X14_decode : Room := { frames := 5, cells := 0, slots := 0, locals := 109 }
set_option maxHeartbeats 4000000 in
set_option maxRecDepth 100000 in
/-- decode -/
theorem c_X14_decode (E : zEn) (l : Launch) (D : va_G) (K : Nat → ClassId) (X Y : va_W) (L : List Nat) (T : Nat → va_E → Prop) {th : Nat} {vs_th : List Value} {product n_product : Nat} {sum n_sum : Nat} {u n_u : Nat} {v n_v : Nat} {x1 n_x1 : Nat} {x2 n_x2 : Nat} {pp n_pp : Nat} {pt n_pt : Nat} {dd n_dd : Nat} {root n_root : Nat} {qx n_qx : Nat} {qy n_qy : Nat} {fa n_fa : Nat} {fb n_fb : Nat} {fc n_fc : Nat} {fe n_fe : Nat} {ff n_ff : Nat} {one n_one : Nat} {row n_row : Nat}  (h_th : th ∈ L) (k_th : T th = zO 15 vs_th) (f_th_0 : vs_th[0]? = some (.ref product)) (h_product : product ∈ L) (k_product : T product = zJ (K 1) n_product) (b_product : 32 ≤ n_product ∧ n_product < 2147483648) (f_th_1 : vs_th[1]? = some (.ref sum)) (h_sum : sum ∈ L) (k_sum : T sum = zJ (K 1) n_sum) (b_sum : 18 ≤ n_sum ∧ n_sum < 2147483648) (f_th_2 : vs_th[2]? = some (.ref u)) (h_u : u ∈ L) (k_u : T u = zJ (K 1) n_u) (b_u : 16 ≤ n_u ∧ n_u < 2147483648) (f_th_3 : vs_th[3]? = some (.ref v)) (h_v : v ∈ L) (k_v : T v = zJ (K 1) n_v) (b_v : 16 ≤ n_v ∧ n_v < 2147483648) (f_th_4 : vs_th[4]? = some (.ref x1)) (h_x1 : x1 ∈ L) (k_x1 : T x1 = zJ (K 1) n_x1) (b_x1 : 17 ≤ n_x1 ∧ n_x1 < 2147483648) (f_th_5 : vs_th[5]? = some (.ref x2)) (h_x2 : x2 ∈ L) (k_x2 : T x2 = zJ (K 1) n_x2) (b_x2 : 17 ≤ n_x2 ∧ n_x2 < 2147483648) (f_th_8 : vs_th[8]? = some (.ref pp)) (h_pp : pp ∈ L) (k_pp : T pp = zJ (K 1) n_pp) (b_pp : 16 ≤ n_pp ∧ n_pp < 2147483648) (f_th_9 : vs_th[9]? = some (.ref pt)) (h_pt : pt ∈ L) (k_pt : T pt = zJ (K 1) n_pt) (b_pt : 256 ≤ n_pt ∧ n_pt < 2147483648) (f_th_12 : vs_th[12]? = some (.ref dd)) (h_dd : dd ∈ L) (k_dd : T dd = zJ (K 1) n_dd) (b_dd : 16 ≤ n_dd ∧ n_dd < 2147483648) (f_th_13 : vs_th[13]? = some (.ref root)) (h_root : root ∈ L) (k_root : T root = zJ (K 1) n_root) (b_root : 16 ≤ n_root ∧ n_root < 2147483648) (f_th_18 : vs_th[18]? = some (.ref qx)) (h_qx : qx ∈ L) (k_qx : T qx = zJ (K 1) n_qx) (b_qx : 16 ≤ n_qx ∧ n_qx < 2147483648) (f_th_19 : vs_th[19]? = some (.ref qy)) (h_qy : qy ∈ L) (k_qy : T qy = zJ (K 1) n_qy) (b_qy : 16 ≤ n_qy ∧ n_qy < 2147483648) (f_th_22 : vs_th[22]? = some (.ref fa)) (h_fa : fa ∈ L) (k_fa : T fa = zJ (K 1) n_fa) (b_fa : 16 ≤ n_fa ∧ n_fa < 2147483648) (f_th_23 : vs_th[23]? = some (.ref fb)) (h_fb : fb ∈ L) (k_fb : T fb = zJ (K 1) n_fb) (b_fb : 16 ≤ n_fb ∧ n_fb < 2147483648) (f_th_24 : vs_th[24]? = some (.ref fc)) (h_fc : fc ∈ L) (k_fc : T fc = zJ (K 1) n_fc) (b_fc : 16 ≤ n_fc ∧ n_fc < 2147483648) (f_th_25 : vs_th[25]? = some (.ref fe)) (h_fe : fe ∈ L) (k_fe : T fe = zJ (K 1) n_fe) (b_fe : 16 ≤ n_fe ∧ n_fe < 2147483648) (f_th_26 : vs_th[26]? = some (.ref ff)) (h_ff : ff ∈ L) (k_ff : T ff = zJ (K 1) n_ff) (b_ff : 16 ≤ n_ff ∧ n_ff < 2147483648) (f_th_32 : vs_th[32]? = some (.ref one)) (h_one : one ∈ L) (k_one : T one = zJ (K 1) n_one) (b_one : 16 ≤ n_one ∧ n_one < 2147483648) (f_th_37 : vs_th[37]? = some (.ref row)) (h_row : row ∈ L) (k_row : T row = zI (K 2) n_row) (b_row : 32 ≤ n_row ∧ n_row < 2147483648)  : zVi E l D vwCl (zT K) yX14_decode (zws yX14_decode cX14_decode 2 (some .boolean)) ROOM_X14_decode 0 0 [.ref th] X Y L T (fun _ => zSame Y L T) := by
  refine z_ofW (E := E) (Qc := fun A => va_Qi (fun _ => zSame Y L T) (zB D vwCl (zT K) A X) A) (cc := cX14_decode) (maxL := 2) (ret := (some .boolean)) (by decide +kernel) rfl (Nat.le_of_ble_eq_true rfl) ?_
  intro p e s m below meth c A ls hx hb hml hr hts hown hlocks hin hA hK hZ hS hE hl
  have hown : s.vm.findClass RX14 = some m.cls := hown
  have hts : ∀ w ∈ WR, w.before [.ref th].toArray s = true := fun w h => hts w (List.mem_cons_of_mem _ h)
  have hl : lv_has ls 2 [(0, .ref th)] := hl
  obtain ⟨H, hH⟩ : ∃ H, H = s.heap := ⟨_, rfl⟩
  have hZ : zP D vwCl A X Y L T H := by rw [hH]; exact hZ
  obtain ⟨locs, hlc⟩ : ∃ q : List Loc, q = [] := ⟨_, rfl⟩
  have hS : va_S A s.heap H locs := by rw [hH, hlc]; exact hS
  suffices hW : W p l e ROOM_X14_decode s m [.ref th].toArray below meth c H locs 0 0 (MQ below (va_Qi (fun _ => zSame Y L T) (zB D vwCl (zT K) A X) A) [.ref th].toArray s 0 0 A) (F0 m 0 ls []) by rw [hH, hlc] at hW; exact hW
  clear hH hlc
  refine lv_iconst (v := nI 0) hx hb dX14_decode_0 (by decide +kernel) ?_
  refine lv_istore_n (lv' := [(1, .int (nI 0)), (0, .ref th)]) hx hb dX14_decode_1 rfl hl (by decide) rfl (fun ls hl => ?_)
  have L2 : ∀ (n i2 : Nat), i2 ≤ 16 → 16 + 1 ≤ i2 + n → ∀  (H : Heap) (locs : List Loc) (ls : Array Slot), zP D vwCl A X Y L T H → va_S A s.heap H locs → lv_has ls 2 [(1, .int (nI i2)), (0, .ref th)] → W p l e ROOM_X14_decode s m [.ref th].toArray below meth c H locs 0 0 (MQ below (va_Qi (fun _ => zSame Y L T) (zB D vwCl (zT K) A X) A) [.ref th].toArray s 0 0 A) (F0 m 2 ls []) := by
    intro n
    induction n with
    | zero => intro i2 u2 w2; exact absurd w2 (by omega)
    | succ n ih2 =>
      intro i2 u2 w2  H locs ls hZ hS hl 
      refine lv_iload_n hx hb dX14_decode_2 rfl (lv_at hl 0 rfl) ?_
      refine lv_bipush (v := nI 16) hx hb dX14_decode_3 (by decide +kernel) ?_
      refine lv_icmp_ge (tgt := 70) hx hb dX14_decode_5 (by decide) (fun c5 => ?_) (fun c5 => ?_)
      · have e5 : 16 ≤ i2 := (nI_leI (a := 16) (b := i2) (by omega) (by omega)).mp c5
        refine lv_aload_n hx hb dX14_decode_70 rfl (lv_at hl 1 rfl) ?_
        refine z_getP (own := RX14) (C := RX14) (TT := TX14) (N := 42) (ci := 15) (Ts := WR) hx hb hts zin_wsX140 hown hK hZ h_th k_th rfl 19 (by decide) (hts _ zw_76) (fun _ h9 => h9) f_th_19 dX14_decode_71 ?_
        refine lv_aload_n hx hb dX14_decode_74 rfl (lv_at hl 1 rfl) ?_
        refine z_getP (own := RX14) (C := RX14) (TT := TX14) (N := 42) (ci := 15) (Ts := WR) hx hb hts zin_wsX140 hown hK hZ h_th k_th rfl 8 (by decide) (hts _ zw_65) (fun _ h9 => h9) f_th_8 dX14_decode_75 ?_
        refine z_goI (z_runSUp (x := ⟨"ShellPairModel$Curve", "below", "([J[J)Z"⟩) (owner := "ShellPairModel$Numbers") (n := 2) (As := [.ref qy, .ref pp]) (rest := []) ⟨hx, hb, hml, hown, hts⟩ ((c_X18_below E l D K X Y L T h_qy k_qy ⟨by omega, by omega⟩ h_pp k_pp ⟨by omega, by omega⟩) H.size) rfl (zg_I zw_19) rfl rfl rfl ⟨Nat.le_of_ble_eq_true rfl, Nat.le_of_ble_eq_true rfl⟩ (hts _ zw_137) (hts _ zw_138) (hts _ zw_20) (hts _ zw_2) (by decide +kernel) (z_preS hK hZ hS hA hE) rfl rfl hl.1 rfl (lv_room (Nat.le_of_ble_eq_true rfl)) dX14_decode_78 ⟨Nat.le_of_ble_eq_true rfl, Nat.le_of_ble_eq_true rfl⟩) hZ hS hA (fun x1 Y1 L1 T1 H locs hp hZ hS => ?_)
        cases hp
        refine lv_if_ne (tgt := 86) hx hb dX14_decode_81 (by decide) (fun c81 => ?_) (fun c81 => ?_)
        · refine lv_aload_n hx hb dX14_decode_86 rfl (lv_at hl 1 rfl) ?_
          refine lv_aload_n hx hb dX14_decode_87 rfl (lv_at hl 1 rfl) ?_
          refine z_getP (own := RX14) (C := RX14) (TT := TX14) (N := 42) (ci := 15) (Ts := WR) hx hb hts zin_wsX140 hown hK hZ h_th k_th rfl 22 (by decide) (hts _ zw_79) (fun _ h9 => h9) f_th_22 dX14_decode_88 ?_
          refine lv_aload_n hx hb dX14_decode_91 rfl (lv_at hl 1 rfl) ?_
          refine z_getP (own := RX14) (C := RX14) (TT := TX14) (N := 42) (ci := 15) (Ts := WR) hx hb hts zin_wsX140 hown hK hZ h_th k_th rfl 19 (by decide) (hts _ zw_76) (fun _ h9 => h9) f_th_19 dX14_decode_92 ?_
          refine lv_aload_n hx hb dX14_decode_95 rfl (lv_at hl 1 rfl) ?_
          refine z_getP (own := RX14) (C := RX14) (TT := TX14) (N := 42) (ci := 15) (Ts := WR) hx hb hts zin_wsX140 hown hK hZ h_th k_th rfl 19 (by decide) (hts _ zw_76) (fun _ h9 => h9) f_th_19 dX14_decode_96 ?_
          refine lv_aload_n hx hb dX14_decode_99 rfl (lv_at hl 1 rfl) ?_
          refine z_getP (own := RX14) (C := RX14) (TT := TX14) (N := 42) (ci := 15) (Ts := WR) hx hb hts zin_wsX140 hown hK hZ h_th k_th rfl 8 (by decide) (hts _ zw_65) (fun _ h9 => h9) f_th_8 dX14_decode_100 ?_
          refine lv_aload_n hx hb dX14_decode_103 rfl (lv_at hl 1 rfl) ?_
          refine z_getP (own := RX14) (C := RX14) (TT := TX14) (N := 42) (ci := 15) (Ts := WR) hx hb hts zin_wsX140 hown hK hZ h_th k_th rfl 9 (by decide) (hts _ zw_66) (fun _ h9 => h9) f_th_9 dX14_decode_104 ?_
          refine z_goV (va_runU (C := RX14) (owner := "ShellPairModel$Numbers") (x := ⟨"ShellPairModel$Curve", "times", "([J[J[J[J[J)V"⟩) (As := [.ref fa, .ref qy, .ref qy, .ref pp, .ref pt]) (rest := []) ⟨hx, hb, hml, hown, hts⟩ ((c_X18_times E l D K X Y L T h_th k_th f_th_0 h_product k_product ⟨by omega, by omega⟩ f_th_1 h_sum k_sum ⟨by omega, by omega⟩ h_fa k_fa ⟨by omega, by omega⟩ h_qy k_qy ⟨by omega, by omega⟩ h_qy k_qy ⟨by omega, by omega⟩ h_pp k_pp ⟨by omega, by omega⟩ h_pt k_pt ⟨by omega, by omega⟩) H.size) (va_cwU 5 hts (zg_U zw_118 zw_120 zw_119 zw_47 zw_2 zw_46) rfl rfl rfl rfl (by decide +kernel) ⟨Nat.le_of_ble_eq_true rfl, Nat.le_of_ble_eq_true rfl⟩) (z_preV hK hZ hS hA hE (z_recvP hK hZ h_th k_th rfl)) rfl rfl hl.1 rfl (lv_room (Nat.le_of_ble_eq_true rfl)) dX14_decode_107 ⟨Nat.le_of_ble_eq_true rfl, Nat.le_of_ble_eq_true rfl⟩) hZ hS hA (fun  Y1 L1 T1 H locs hp hZ hS => ?_)
          cases hp
          refine lv_aload_n hx hb dX14_decode_110 rfl (lv_at hl 1 rfl) ?_
          refine lv_aload_n hx hb dX14_decode_111 rfl (lv_at hl 1 rfl) ?_
          refine z_getP (own := RX14) (C := RX14) (TT := TX14) (N := 42) (ci := 15) (Ts := WR) hx hb hts zin_wsX140 hown hK hZ h_th k_th rfl 23 (by decide) (hts _ zw_80) (fun _ h9 => h9) f_th_23 dX14_decode_112 ?_
          refine lv_aload_n hx hb dX14_decode_115 rfl (lv_at hl 1 rfl) ?_
          refine z_getP (own := RX14) (C := RX14) (TT := TX14) (N := 42) (ci := 15) (Ts := WR) hx hb hts zin_wsX140 hown hK hZ h_th k_th rfl 22 (by decide) (hts _ zw_79) (fun _ h9 => h9) f_th_22 dX14_decode_116 ?_
          refine lv_aload_n hx hb dX14_decode_119 rfl (lv_at hl 1 rfl) ?_
          refine z_getP (own := RX14) (C := RX14) (TT := TX14) (N := 42) (ci := 15) (Ts := WR) hx hb hts zin_wsX140 hown hK hZ h_th k_th rfl 12 (by decide) (hts _ zw_69) (fun _ h9 => h9) f_th_12 dX14_decode_120 ?_
          refine lv_aload_n hx hb dX14_decode_123 rfl (lv_at hl 1 rfl) ?_
          refine z_getP (own := RX14) (C := RX14) (TT := TX14) (N := 42) (ci := 15) (Ts := WR) hx hb hts zin_wsX140 hown hK hZ h_th k_th rfl 8 (by decide) (hts _ zw_65) (fun _ h9 => h9) f_th_8 dX14_decode_124 ?_
          refine lv_aload_n hx hb dX14_decode_127 rfl (lv_at hl 1 rfl) ?_
          refine z_getP (own := RX14) (C := RX14) (TT := TX14) (N := 42) (ci := 15) (Ts := WR) hx hb hts zin_wsX140 hown hK hZ h_th k_th rfl 9 (by decide) (hts _ zw_66) (fun _ h9 => h9) f_th_9 dX14_decode_128 ?_
          refine z_goV (va_runU (C := RX14) (owner := "ShellPairModel$Numbers") (x := ⟨"ShellPairModel$Curve", "times", "([J[J[J[J[J)V"⟩) (As := [.ref fb, .ref fa, .ref dd, .ref pp, .ref pt]) (rest := []) ⟨hx, hb, hml, hown, hts⟩ ((c_X18_times E l D K X Y L T h_th k_th f_th_0 h_product k_product ⟨by omega, by omega⟩ f_th_1 h_sum k_sum ⟨by omega, by omega⟩ h_fb k_fb ⟨by omega, by omega⟩ h_fa k_fa ⟨by omega, by omega⟩ h_dd k_dd ⟨by omega, by omega⟩ h_pp k_pp ⟨by omega, by omega⟩ h_pt k_pt ⟨by omega, by omega⟩) H.size) (va_cwU 5 hts (zg_U zw_118 zw_120 zw_119 zw_47 zw_2 zw_46) rfl rfl rfl rfl (by decide +kernel) ⟨Nat.le_of_ble_eq_true rfl, Nat.le_of_ble_eq_true rfl⟩) (z_preV hK hZ hS hA hE (z_recvP hK hZ h_th k_th rfl)) rfl rfl hl.1 rfl (lv_room (Nat.le_of_ble_eq_true rfl)) dX14_decode_131 ⟨Nat.le_of_ble_eq_true rfl, Nat.le_of_ble_eq_true rfl⟩) hZ hS hA (fun  Y1 L1 T1 H locs hp hZ hS => ?_)
          cases hp
          refine lv_aload_n hx hb dX14_decode_134 rfl (lv_at hl 1 rfl) ?_
          refine z_getP (own := RX14) (C := RX14) (TT := TX14) (N := 42) (ci := 15) (Ts := WR) hx hb hts zin_wsX140 hown hK hZ h_th k_th rfl 22 (by decide) (hts _ zw_79) (fun _ h9 => h9) f_th_22 dX14_decode_135 ?_
          refine lv_aload_n hx hb dX14_decode_138 rfl (lv_at hl 1 rfl) ?_
          refine z_getP (own := RX14) (C := RX14) (TT := TX14) (N := 42) (ci := 15) (Ts := WR) hx hb hts zin_wsX140 hown hK hZ h_th k_th rfl 22 (by decide) (hts _ zw_79) (fun _ h9 => h9) f_th_22 dX14_decode_139 ?_
          refine lv_aload_n hx hb dX14_decode_142 rfl (lv_at hl 1 rfl) ?_
          refine z_getP (own := RX14) (C := RX14) (TT := TX14) (N := 42) (ci := 15) (Ts := WR) hx hb hts zin_wsX140 hown hK hZ h_th k_th rfl 32 (by decide) (hts _ zw_89) (fun _ h9 => h9) f_th_32 dX14_decode_143 ?_
          refine lv_aload_n hx hb dX14_decode_146 rfl (lv_at hl 1 rfl) ?_
          refine z_getP (own := RX14) (C := RX14) (TT := TX14) (N := 42) (ci := 15) (Ts := WR) hx hb hts zin_wsX140 hown hK hZ h_th k_th rfl 8 (by decide) (hts _ zw_65) (fun _ h9 => h9) f_th_8 dX14_decode_147 ?_
          refine z_goV (z_runSUp (x := ⟨"ShellPairModel$Curve", "minus", "([J[J[J[J)V"⟩) (owner := "ShellPairModel$Numbers") (n := 4) (As := [.ref fa, .ref fa, .ref one, .ref pp]) (rest := []) ⟨hx, hb, hml, hown, hts⟩ ((c_X18_minus E l D K X Y L T h_fa k_fa ⟨by omega, by omega⟩ h_fa k_fa ⟨by omega, by omega⟩ h_one k_one ⟨by omega, by omega⟩ h_pp k_pp ⟨by omega, by omega⟩) H.size) rfl (zg_I zw_30) rfl rfl rfl ⟨Nat.le_of_ble_eq_true rfl, Nat.le_of_ble_eq_true rfl⟩ (hts _ zw_121) (hts _ zw_122) (hts _ zw_31) (hts _ zw_2) (by decide +kernel) (z_preS hK hZ hS hA hE) rfl rfl hl.1 rfl (lv_room (Nat.le_of_ble_eq_true rfl)) dX14_decode_150 ⟨Nat.le_of_ble_eq_true rfl, Nat.le_of_ble_eq_true rfl⟩) hZ hS hA (fun  Y1 L1 T1 H locs hp hZ hS => ?_)
          cases hp
          refine lv_aload_n hx hb dX14_decode_153 rfl (lv_at hl 1 rfl) ?_
          refine z_getP (own := RX14) (C := RX14) (TT := TX14) (N := 42) (ci := 15) (Ts := WR) hx hb hts zin_wsX140 hown hK hZ h_th k_th rfl 23 (by decide) (hts _ zw_80) (fun _ h9 => h9) f_th_23 dX14_decode_154 ?_
          refine lv_aload_n hx hb dX14_decode_157 rfl (lv_at hl 1 rfl) ?_
          refine z_getP (own := RX14) (C := RX14) (TT := TX14) (N := 42) (ci := 15) (Ts := WR) hx hb hts zin_wsX140 hown hK hZ h_th k_th rfl 23 (by decide) (hts _ zw_80) (fun _ h9 => h9) f_th_23 dX14_decode_158 ?_
          refine lv_aload_n hx hb dX14_decode_161 rfl (lv_at hl 1 rfl) ?_
          refine z_getP (own := RX14) (C := RX14) (TT := TX14) (N := 42) (ci := 15) (Ts := WR) hx hb hts zin_wsX140 hown hK hZ h_th k_th rfl 32 (by decide) (hts _ zw_89) (fun _ h9 => h9) f_th_32 dX14_decode_162 ?_
          refine lv_aload_n hx hb dX14_decode_165 rfl (lv_at hl 1 rfl) ?_
          refine z_getP (own := RX14) (C := RX14) (TT := TX14) (N := 42) (ci := 15) (Ts := WR) hx hb hts zin_wsX140 hown hK hZ h_th k_th rfl 8 (by decide) (hts _ zw_65) (fun _ h9 => h9) f_th_8 dX14_decode_166 ?_
          refine z_goV (z_runSUp (x := ⟨"ShellPairModel$Curve", "plus", "([J[J[J[J)V"⟩) (owner := "ShellPairModel$Numbers") (n := 4) (As := [.ref fb, .ref fb, .ref one, .ref pp]) (rest := []) ⟨hx, hb, hml, hown, hts⟩ ((c_X18_plus E l D K X Y L T h_fb k_fb ⟨by omega, by omega⟩ h_fb k_fb ⟨by omega, by omega⟩ h_one k_one ⟨by omega, by omega⟩ h_pp k_pp ⟨by omega, by omega⟩) H.size) rfl (zg_I zw_26) rfl rfl rfl ⟨Nat.le_of_ble_eq_true rfl, Nat.le_of_ble_eq_true rfl⟩ (hts _ zw_139) (hts _ zw_140) (hts _ zw_27) (hts _ zw_2) (by decide +kernel) (z_preS hK hZ hS hA hE) rfl rfl hl.1 rfl (lv_room (Nat.le_of_ble_eq_true rfl)) dX14_decode_169 ⟨Nat.le_of_ble_eq_true rfl, Nat.le_of_ble_eq_true rfl⟩) hZ hS hA (fun  Y1 L1 T1 H locs hp hZ hS => ?_)
          cases hp
          refine lv_aload_n hx hb dX14_decode_172 rfl (lv_at hl 1 rfl) ?_
          refine lv_aload_n hx hb dX14_decode_173 rfl (lv_at hl 1 rfl) ?_
          refine z_getP (own := RX14) (C := RX14) (TT := TX14) (N := 42) (ci := 15) (Ts := WR) hx hb hts zin_wsX140 hown hK hZ h_th k_th rfl 24 (by decide) (hts _ zw_81) (fun _ h9 => h9) f_th_24 dX14_decode_174 ?_
          refine lv_aload_n hx hb dX14_decode_177 rfl (lv_at hl 1 rfl) ?_
          refine z_getP (own := RX14) (C := RX14) (TT := TX14) (N := 42) (ci := 15) (Ts := WR) hx hb hts zin_wsX140 hown hK hZ h_th k_th rfl 23 (by decide) (hts _ zw_80) (fun _ h9 => h9) f_th_23 dX14_decode_178 ?_
          refine lv_aload_n hx hb dX14_decode_181 rfl (lv_at hl 1 rfl) ?_
          refine z_getP (own := RX14) (C := RX14) (TT := TX14) (N := 42) (ci := 15) (Ts := WR) hx hb hts zin_wsX140 hown hK hZ h_th k_th rfl 8 (by decide) (hts _ zw_65) (fun _ h9 => h9) f_th_8 dX14_decode_182 ?_
          refine z_goV (va_runU (C := RX14) (owner := "ShellPairModel$Numbers") (x := ⟨"ShellPairModel$Curve", "inverse", "([J[J[J)V"⟩) (As := [.ref fc, .ref fb, .ref pp]) (rest := []) ⟨hx, hb, hml, hown, hts⟩ ((c_X18_inverse E l D K X Y L T h_th k_th f_th_2 h_u k_u ⟨by omega, by omega⟩ f_th_3 h_v k_v ⟨by omega, by omega⟩ f_th_4 h_x1 k_x1 ⟨by omega, by omega⟩ f_th_5 h_x2 k_x2 ⟨by omega, by omega⟩ h_fc k_fc ⟨by omega, by omega⟩ h_fb k_fb ⟨by omega, by omega⟩ h_pp k_pp ⟨by omega, by omega⟩) H.size) (va_cwU 3 hts (zg_U zw_115 zw_117 zw_116 zw_53 zw_2 zw_52) rfl rfl rfl rfl (by decide +kernel) ⟨Nat.le_of_ble_eq_true rfl, Nat.le_of_ble_eq_true rfl⟩) (z_preV hK hZ hS hA hE (z_recvP hK hZ h_th k_th rfl)) rfl rfl hl.1 rfl (lv_room (Nat.le_of_ble_eq_true rfl)) dX14_decode_185 ⟨Nat.le_of_ble_eq_true rfl, Nat.le_of_ble_eq_true rfl⟩) hZ hS hA (fun  Y1 L1 T1 H locs hp hZ hS => ?_)
          cases hp
          refine lv_aload_n hx hb dX14_decode_188 rfl (lv_at hl 1 rfl) ?_
          refine lv_aload_n hx hb dX14_decode_189 rfl (lv_at hl 1 rfl) ?_
          refine z_getP (own := RX14) (C := RX14) (TT := TX14) (N := 42) (ci := 15) (Ts := WR) hx hb hts zin_wsX140 hown hK hZ h_th k_th rfl 22 (by decide) (hts _ zw_79) (fun _ h9 => h9) f_th_22 dX14_decode_190 ?_
          refine lv_aload_n hx hb dX14_decode_193 rfl (lv_at hl 1 rfl) ?_
          refine z_getP (own := RX14) (C := RX14) (TT := TX14) (N := 42) (ci := 15) (Ts := WR) hx hb hts zin_wsX140 hown hK hZ h_th k_th rfl 22 (by decide) (hts _ zw_79) (fun _ h9 => h9) f_th_22 dX14_decode_194 ?_
          refine lv_aload_n hx hb dX14_decode_197 rfl (lv_at hl 1 rfl) ?_
          refine z_getP (own := RX14) (C := RX14) (TT := TX14) (N := 42) (ci := 15) (Ts := WR) hx hb hts zin_wsX140 hown hK hZ h_th k_th rfl 24 (by decide) (hts _ zw_81) (fun _ h9 => h9) f_th_24 dX14_decode_198 ?_
          refine lv_aload_n hx hb dX14_decode_201 rfl (lv_at hl 1 rfl) ?_
          refine z_getP (own := RX14) (C := RX14) (TT := TX14) (N := 42) (ci := 15) (Ts := WR) hx hb hts zin_wsX140 hown hK hZ h_th k_th rfl 8 (by decide) (hts _ zw_65) (fun _ h9 => h9) f_th_8 dX14_decode_202 ?_
          refine lv_aload_n hx hb dX14_decode_205 rfl (lv_at hl 1 rfl) ?_
          refine z_getP (own := RX14) (C := RX14) (TT := TX14) (N := 42) (ci := 15) (Ts := WR) hx hb hts zin_wsX140 hown hK hZ h_th k_th rfl 9 (by decide) (hts _ zw_66) (fun _ h9 => h9) f_th_9 dX14_decode_206 ?_
          refine z_goV (va_runU (C := RX14) (owner := "ShellPairModel$Numbers") (x := ⟨"ShellPairModel$Curve", "times", "([J[J[J[J[J)V"⟩) (As := [.ref fa, .ref fa, .ref fc, .ref pp, .ref pt]) (rest := []) ⟨hx, hb, hml, hown, hts⟩ ((c_X18_times E l D K X Y L T h_th k_th f_th_0 h_product k_product ⟨by omega, by omega⟩ f_th_1 h_sum k_sum ⟨by omega, by omega⟩ h_fa k_fa ⟨by omega, by omega⟩ h_fa k_fa ⟨by omega, by omega⟩ h_fc k_fc ⟨by omega, by omega⟩ h_pp k_pp ⟨by omega, by omega⟩ h_pt k_pt ⟨by omega, by omega⟩) H.size) (va_cwU 5 hts (zg_U zw_118 zw_120 zw_119 zw_47 zw_2 zw_46) rfl rfl rfl rfl (by decide +kernel) ⟨Nat.le_of_ble_eq_true rfl, Nat.le_of_ble_eq_true rfl⟩) (z_preV hK hZ hS hA hE (z_recvP hK hZ h_th k_th rfl)) rfl rfl hl.1 rfl (lv_room (Nat.le_of_ble_eq_true rfl)) dX14_decode_209 ⟨Nat.le_of_ble_eq_true rfl, Nat.le_of_ble_eq_true rfl⟩) hZ hS hA (fun  Y1 L1 T1 H locs hp hZ hS => ?_)
          cases hp
          refine lv_iconst (v := nI 0) hx hb dX14_decode_212 (by decide +kernel) ?_
          refine lv_istore_n (lv' := [(1, .int (nI 0)), (0, .ref th)]) hx hb dX14_decode_213 rfl hl (by decide) rfl (fun ls hl => ?_)
          have L214 : ∀ (n i214 : Nat), i214 ≤ 16 → 16 + 1 ≤ i214 + n → ∀  (H : Heap) (locs : List Loc) (ls : Array Slot), zP D vwCl A X Y L T H → va_S A s.heap H locs → lv_has ls 2 [(1, .int (nI i214)), (0, .ref th)] → W p l e ROOM_X14_decode s m [.ref th].toArray below meth c H locs 0 0 (MQ below (va_Qi (fun _ => zSame Y L T) (zB D vwCl (zT K) A X) A) [.ref th].toArray s 0 0 A) (F0 m 214 ls []) := by
            intro n
            induction n with
            | zero => intro i214 u214 w214; exact absurd w214 (by omega)
            | succ n ih214 =>
              intro i214 u214 w214  H locs ls hZ hS hl 
              refine lv_iload_n hx hb dX14_decode_214 rfl (lv_at hl 0 rfl) ?_
              refine lv_bipush (v := nI 16) hx hb dX14_decode_215 (by decide +kernel) ?_
              refine lv_icmp_ge (tgt := 257) hx hb dX14_decode_217 (by decide) (fun c217 => ?_) (fun c217 => ?_)
              · have e217 : 16 ≤ i214 := (nI_leI (a := 16) (b := i214) (by omega) (by omega)).mp c217
                have J335 : ∀  (H : Heap) (locs : List Loc) (ls : Array Slot), zP D vwCl A X Y L T H → va_S A s.heap H locs → lv_has ls 2 [(0, .ref th)] → W p l e ROOM_X14_decode s m [.ref th].toArray below meth c H locs 0 0 (MQ below (va_Qi (fun _ => zSame Y L T) (zB D vwCl (zT K) A X) A) [.ref th].toArray s 0 0 A) (F0 m 335 ls []) := by
                  intro  H locs ls hZ hS hl 
                  refine lv_aload_n hx hb dX14_decode_335 rfl (lv_at hl 0 rfl) ?_
                  refine lv_aload_n hx hb dX14_decode_336 rfl (lv_at hl 0 rfl) ?_
                  refine z_getP (own := RX14) (C := RX14) (TT := TX14) (N := 42) (ci := 15) (Ts := WR) hx hb hts zin_wsX140 hown hK hZ h_th k_th rfl 24 (by decide) (hts _ zw_81) (fun _ h9 => h9) f_th_24 dX14_decode_337 ?_
                  refine lv_aload_n hx hb dX14_decode_340 rfl (lv_at hl 0 rfl) ?_
                  refine z_getP (own := RX14) (C := RX14) (TT := TX14) (N := 42) (ci := 15) (Ts := WR) hx hb hts zin_wsX140 hown hK hZ h_th k_th rfl 18 (by decide) (hts _ zw_75) (fun _ h9 => h9) f_th_18 dX14_decode_341 ?_
                  refine lv_aload_n hx hb dX14_decode_344 rfl (lv_at hl 0 rfl) ?_
                  refine z_getP (own := RX14) (C := RX14) (TT := TX14) (N := 42) (ci := 15) (Ts := WR) hx hb hts zin_wsX140 hown hK hZ h_th k_th rfl 18 (by decide) (hts _ zw_75) (fun _ h9 => h9) f_th_18 dX14_decode_345 ?_
                  refine lv_aload_n hx hb dX14_decode_348 rfl (lv_at hl 0 rfl) ?_
                  refine z_getP (own := RX14) (C := RX14) (TT := TX14) (N := 42) (ci := 15) (Ts := WR) hx hb hts zin_wsX140 hown hK hZ h_th k_th rfl 8 (by decide) (hts _ zw_65) (fun _ h9 => h9) f_th_8 dX14_decode_349 ?_
                  refine lv_aload_n hx hb dX14_decode_352 rfl (lv_at hl 0 rfl) ?_
                  refine z_getP (own := RX14) (C := RX14) (TT := TX14) (N := 42) (ci := 15) (Ts := WR) hx hb hts zin_wsX140 hown hK hZ h_th k_th rfl 9 (by decide) (hts _ zw_66) (fun _ h9 => h9) f_th_9 dX14_decode_353 ?_
                  refine z_goV (va_runU (C := RX14) (owner := "ShellPairModel$Numbers") (x := ⟨"ShellPairModel$Curve", "times", "([J[J[J[J[J)V"⟩) (As := [.ref fc, .ref qx, .ref qx, .ref pp, .ref pt]) (rest := []) ⟨hx, hb, hml, hown, hts⟩ ((c_X18_times E l D K X Y L T h_th k_th f_th_0 h_product k_product ⟨by omega, by omega⟩ f_th_1 h_sum k_sum ⟨by omega, by omega⟩ h_fc k_fc ⟨by omega, by omega⟩ h_qx k_qx ⟨by omega, by omega⟩ h_qx k_qx ⟨by omega, by omega⟩ h_pp k_pp ⟨by omega, by omega⟩ h_pt k_pt ⟨by omega, by omega⟩) H.size) (va_cwU 5 hts (zg_U zw_118 zw_120 zw_119 zw_47 zw_2 zw_46) rfl rfl rfl rfl (by decide +kernel) ⟨Nat.le_of_ble_eq_true rfl, Nat.le_of_ble_eq_true rfl⟩) (z_preV hK hZ hS hA hE (z_recvP hK hZ h_th k_th rfl)) rfl rfl hl.1 rfl (lv_room (Nat.le_of_ble_eq_true rfl)) dX14_decode_356 ⟨Nat.le_of_ble_eq_true rfl, Nat.le_of_ble_eq_true rfl⟩) hZ hS hA (fun  Y1 L1 T1 H locs hp hZ hS => ?_)
                  cases hp
                  refine lv_aload_n hx hb dX14_decode_359 rfl (lv_at hl 0 rfl) ?_
                  refine z_getP (own := RX14) (C := RX14) (TT := TX14) (N := 42) (ci := 15) (Ts := WR) hx hb hts zin_wsX140 hown hK hZ h_th k_th rfl 24 (by decide) (hts _ zw_81) (fun _ h9 => h9) f_th_24 dX14_decode_360 ?_
                  refine lv_aload_n hx hb dX14_decode_363 rfl (lv_at hl 0 rfl) ?_
                  refine z_getP (own := RX14) (C := RX14) (TT := TX14) (N := 42) (ci := 15) (Ts := WR) hx hb hts zin_wsX140 hown hK hZ h_th k_th rfl 22 (by decide) (hts _ zw_79) (fun _ h9 => h9) f_th_22 dX14_decode_364 ?_
                  refine z_goI (z_runSUp (x := ⟨"ShellPairModel$Curve", "alike", "([J[J)Z"⟩) (owner := "ShellPairModel$Numbers") (n := 2) (As := [.ref fc, .ref fa]) (rest := []) ⟨hx, hb, hml, hown, hts⟩ ((c_X18_alike E l D K X Y L T h_fc k_fc ⟨by omega, by omega⟩ h_fa k_fa ⟨by omega, by omega⟩) H.size) rfl (zg_I zw_21) rfl rfl rfl ⟨Nat.le_of_ble_eq_true rfl, Nat.le_of_ble_eq_true rfl⟩ (hts _ zw_143) (hts _ zw_144) (hts _ zw_22) (hts _ zw_2) (by decide +kernel) (z_preS hK hZ hS hA hE) rfl rfl hl.1 rfl (lv_room (Nat.le_of_ble_eq_true rfl)) dX14_decode_367 ⟨Nat.le_of_ble_eq_true rfl, Nat.le_of_ble_eq_true rfl⟩) hZ hS hA (fun x9 Y1 L1 T1 H locs hp hZ hS => ?_)
                  cases hp
                  refine lv_if_ne (tgt := 375) hx hb dX14_decode_370 (by decide) (fun c370 => ?_) (fun c370 => ?_)
                  · refine lv_aload_n hx hb dX14_decode_375 rfl (lv_at hl 0 rfl) ?_
                    refine z_getP (own := RX14) (C := RX14) (TT := TX14) (N := 42) (ci := 15) (Ts := WR) hx hb hts zin_wsX140 hown hK hZ h_th k_th rfl 37 (by decide) (hts _ zw_94) (fun _ h9 => h9) f_th_37 dX14_decode_376 ?_
                    refine lv_bipush (v := nI 31) hx hb dX14_decode_379 (by decide +kernel) ?_
                    refine z_bald hx hb hK hZ 2 h_row k_row rfl (vp_in_nI (by omega) (by omega)) dX14_decode_381 (fun x10 => ?_)
                    refine lv_bipush (v := nI 7) hx hb dX14_decode_382 (by decide +kernel) ?_
                    refine lv_ishr hx hb dX14_decode_384 ?_
                    refine lv_topi (fun x11 ex11 => ?_)
                    refine lv_iconst (v := nI 1) hx hb dX14_decode_385 (by decide +kernel) ?_
                    refine lv_iand hx hb dX14_decode_386 ?_
                    refine lv_topi (fun x12 ex12 => ?_)
                    obtain ⟨jx12, bx12, rfl⟩ : ∃ j : Nat, j < 2 ∧ x12 = nI j := by obtain ⟨j, h1, h2⟩ := pk_andE x11 (m := nI 1) 1 (by decide +kernel); exact ⟨j, h1, ex12.trans h2⟩
                    refine lv_istore_n (lv' := [(1, .int (nI jx12)), (0, .ref th)]) hx hb dX14_decode_387 rfl hl (by decide) rfl (fun ls hl => ?_)
                    refine lv_aload_n hx hb dX14_decode_388 rfl (lv_at hl 1 rfl) ?_
                    refine z_getP (own := RX14) (C := RX14) (TT := TX14) (N := 42) (ci := 15) (Ts := WR) hx hb hts zin_wsX140 hown hK hZ h_th k_th rfl 18 (by decide) (hts _ zw_75) (fun _ h9 => h9) f_th_18 dX14_decode_389 ?_
                    refine z_goI (z_runSUp (x := ⟨"ShellPairModel$Curve", "zero", "([J)Z"⟩) (owner := "ShellPairModel$Numbers") (n := 1) (As := [.ref qx]) (rest := []) ⟨hx, hb, hml, hown, hts⟩ ((c_X18_zero E l D K X Y L T h_qx k_qx ⟨by omega, by omega⟩) H.size) rfl (zg_I zw_17) rfl rfl rfl ⟨Nat.le_of_ble_eq_true rfl, Nat.le_of_ble_eq_true rfl⟩ (hts _ zw_145) (hts _ zw_146) (hts _ zw_18) (hts _ zw_2) (by decide +kernel) (z_preS hK hZ hS hA hE) rfl rfl hl.1 rfl (lv_room (Nat.le_of_ble_eq_true rfl)) dX14_decode_392 ⟨Nat.le_of_ble_eq_true rfl, Nat.le_of_ble_eq_true rfl⟩) hZ hS hA (fun x13 Y1 L1 T1 H locs hp hZ hS => ?_)
                    cases hp
                    refine lv_if_eq (tgt := 405) hx hb dX14_decode_395 (by decide) (fun c395 => ?_) (fun c395 => ?_)
                    · refine lv_aload_n hx hb dX14_decode_405 rfl (lv_at hl 1 rfl) ?_
                      refine z_getP (own := RX14) (C := RX14) (TT := TX14) (N := 42) (ci := 15) (Ts := WR) hx hb hts zin_wsX140 hown hK hZ h_th k_th rfl 18 (by decide) (hts _ zw_75) (fun _ h9 => h9) f_th_18 dX14_decode_406 ?_
                      refine lv_iconst (v := nI 0) hx hb dX14_decode_409 (by decide +kernel) ?_
                      refine z_lald hx hb hK hZ 1 h_qx k_qx rfl (vp_in_nI (by omega) (by omega)) dX14_decode_410 (fun x14 => ?_)
                      refine lv_lconst (v := 1) hx hb dX14_decode_411 (by decide +kernel) ?_
                      refine lv_land hx hb dX14_decode_412 ?_
                      refine lv_topl (fun x15 _ => ?_)
                      refine lv_iload_n hx hb dX14_decode_413 rfl (lv_at hl 0 rfl) ?_
                      refine lv_i2l hx hb dX14_decode_414 rfl ?_
                      refine lv_topl (fun x16 _ => ?_)
                      refine W.lcmp hx hb dX14_decode_415 ?_
                      refine lv_topi (fun x17 ex17 => ?_)
                      refine lv_if_eq (tgt := 446) hx hb dX14_decode_416 (by decide) (fun c416 => ?_) (fun c416 => ?_)
                      · refine lv_iconst (v := nI 1) hx hb dX14_decode_446 (by decide +kernel) ?_
                        exact z_iret hx hb hr rfl hlocks hK hZ hS rfl (Nat.le_of_ble_eq_true rfl) (Nat.le_of_ble_eq_true rfl) dX14_decode_447
                      · refine lv_aload_n hx hb dX14_decode_419 rfl (lv_at hl 1 rfl) ?_
                        refine z_getP (own := RX14) (C := RX14) (TT := TX14) (N := 42) (ci := 15) (Ts := WR) hx hb hts zin_wsX140 hown hK hZ h_th k_th rfl 24 (by decide) (hts _ zw_81) (fun _ h9 => h9) f_th_24 dX14_decode_420 ?_
                        refine lv_iconst (v := nI 0) hx hb dX14_decode_423 (by decide +kernel) ?_
                        refine z_goV (z_runSUp (x := ⟨"ShellPairModel$Curve", "set", "([JI)V"⟩) (owner := "ShellPairModel$Numbers") (n := 2) (As := [.ref fc, .int (nI 0)]) (rest := []) ⟨hx, hb, hml, hown, hts⟩ ((c_X18_set E l D K X Y L T h_fc k_fc ⟨by omega, by omega⟩) H.size) rfl (zg_I zw_15) rfl rfl rfl ⟨Nat.le_of_ble_eq_true rfl, Nat.le_of_ble_eq_true rfl⟩ (hts _ zw_111) (hts _ zw_112) (hts _ zw_16) (hts _ zw_2) (by decide +kernel) (z_preS hK hZ hS hA hE) rfl rfl hl.1 rfl (lv_room (Nat.le_of_ble_eq_true rfl)) dX14_decode_424 ⟨Nat.le_of_ble_eq_true rfl, Nat.le_of_ble_eq_true rfl⟩) hZ hS hA (fun  Y1 L1 T1 H locs hp hZ hS => ?_)
                        cases hp
                        refine lv_aload_n hx hb dX14_decode_427 rfl (lv_at hl 1 rfl) ?_
                        refine z_getP (own := RX14) (C := RX14) (TT := TX14) (N := 42) (ci := 15) (Ts := WR) hx hb hts zin_wsX140 hown hK hZ h_th k_th rfl 18 (by decide) (hts _ zw_75) (fun _ h9 => h9) f_th_18 dX14_decode_428 ?_
                        refine lv_aload_n hx hb dX14_decode_431 rfl (lv_at hl 1 rfl) ?_
                        refine z_getP (own := RX14) (C := RX14) (TT := TX14) (N := 42) (ci := 15) (Ts := WR) hx hb hts zin_wsX140 hown hK hZ h_th k_th rfl 24 (by decide) (hts _ zw_81) (fun _ h9 => h9) f_th_24 dX14_decode_432 ?_
                        refine lv_aload_n hx hb dX14_decode_435 rfl (lv_at hl 1 rfl) ?_
                        refine z_getP (own := RX14) (C := RX14) (TT := TX14) (N := 42) (ci := 15) (Ts := WR) hx hb hts zin_wsX140 hown hK hZ h_th k_th rfl 18 (by decide) (hts _ zw_75) (fun _ h9 => h9) f_th_18 dX14_decode_436 ?_
                        refine lv_aload_n hx hb dX14_decode_439 rfl (lv_at hl 1 rfl) ?_
                        refine z_getP (own := RX14) (C := RX14) (TT := TX14) (N := 42) (ci := 15) (Ts := WR) hx hb hts zin_wsX140 hown hK hZ h_th k_th rfl 8 (by decide) (hts _ zw_65) (fun _ h9 => h9) f_th_8 dX14_decode_440 ?_
                        refine z_goV (z_runSUp (x := ⟨"ShellPairModel$Curve", "minus", "([J[J[J[J)V"⟩) (owner := "ShellPairModel$Numbers") (n := 4) (As := [.ref qx, .ref fc, .ref qx, .ref pp]) (rest := []) ⟨hx, hb, hml, hown, hts⟩ ((c_X18_minus E l D K X Y L T h_qx k_qx ⟨by omega, by omega⟩ h_fc k_fc ⟨by omega, by omega⟩ h_qx k_qx ⟨by omega, by omega⟩ h_pp k_pp ⟨by omega, by omega⟩) H.size) rfl (zg_I zw_30) rfl rfl rfl ⟨Nat.le_of_ble_eq_true rfl, Nat.le_of_ble_eq_true rfl⟩ (hts _ zw_121) (hts _ zw_122) (hts _ zw_31) (hts _ zw_2) (by decide +kernel) (z_preS hK hZ hS hA hE) rfl rfl hl.1 rfl (lv_room (Nat.le_of_ble_eq_true rfl)) dX14_decode_443 ⟨Nat.le_of_ble_eq_true rfl, Nat.le_of_ble_eq_true rfl⟩) hZ hS hA (fun  Y1 L1 T1 H locs hp hZ hS => ?_)
                        cases hp
                        refine lv_iconst (v := nI 1) hx hb dX14_decode_446 (by decide +kernel) ?_
                        exact z_iret hx hb hr rfl hlocks hK hZ hS rfl (Nat.le_of_ble_eq_true rfl) (Nat.le_of_ble_eq_true rfl) dX14_decode_447
                    · refine lv_iload_n hx hb dX14_decode_398 rfl (lv_at hl 0 rfl) ?_
                      refine lv_iconst (v := nI 1) hx hb dX14_decode_399 (by decide +kernel) ?_
                      refine lv_icmp_ne (tgt := 405) hx hb dX14_decode_400 (by decide) (fun c400 => ?_) (fun c400 => ?_)
                      · have e400 : ¬ jx12 = 1 := fun q => c400 ((nI_eq (a := jx12) (b := 1) (by omega) (by omega)).mpr q)
                        refine lv_aload_n hx hb dX14_decode_405 rfl (lv_at hl 1 rfl) ?_
                        refine z_getP (own := RX14) (C := RX14) (TT := TX14) (N := 42) (ci := 15) (Ts := WR) hx hb hts zin_wsX140 hown hK hZ h_th k_th rfl 18 (by decide) (hts _ zw_75) (fun _ h9 => h9) f_th_18 dX14_decode_406 ?_
                        refine lv_iconst (v := nI 0) hx hb dX14_decode_409 (by decide +kernel) ?_
                        refine z_lald hx hb hK hZ 1 h_qx k_qx rfl (vp_in_nI (by omega) (by omega)) dX14_decode_410 (fun x20 => ?_)
                        refine lv_lconst (v := 1) hx hb dX14_decode_411 (by decide +kernel) ?_
                        refine lv_land hx hb dX14_decode_412 ?_
                        refine lv_topl (fun x21 _ => ?_)
                        refine lv_iload_n hx hb dX14_decode_413 rfl (lv_at hl 0 rfl) ?_
                        refine lv_i2l hx hb dX14_decode_414 rfl ?_
                        refine lv_topl (fun x22 _ => ?_)
                        refine W.lcmp hx hb dX14_decode_415 ?_
                        refine lv_topi (fun x23 ex23 => ?_)
                        refine lv_if_eq (tgt := 446) hx hb dX14_decode_416 (by decide) (fun c416 => ?_) (fun c416 => ?_)
                        · refine lv_iconst (v := nI 1) hx hb dX14_decode_446 (by decide +kernel) ?_
                          exact z_iret hx hb hr rfl hlocks hK hZ hS rfl (Nat.le_of_ble_eq_true rfl) (Nat.le_of_ble_eq_true rfl) dX14_decode_447
                        · refine lv_aload_n hx hb dX14_decode_419 rfl (lv_at hl 1 rfl) ?_
                          refine z_getP (own := RX14) (C := RX14) (TT := TX14) (N := 42) (ci := 15) (Ts := WR) hx hb hts zin_wsX140 hown hK hZ h_th k_th rfl 24 (by decide) (hts _ zw_81) (fun _ h9 => h9) f_th_24 dX14_decode_420 ?_
                          refine lv_iconst (v := nI 0) hx hb dX14_decode_423 (by decide +kernel) ?_
                          refine z_goV (z_runSUp (x := ⟨"ShellPairModel$Curve", "set", "([JI)V"⟩) (owner := "ShellPairModel$Numbers") (n := 2) (As := [.ref fc, .int (nI 0)]) (rest := []) ⟨hx, hb, hml, hown, hts⟩ ((c_X18_set E l D K X Y L T h_fc k_fc ⟨by omega, by omega⟩) H.size) rfl (zg_I zw_15) rfl rfl rfl ⟨Nat.le_of_ble_eq_true rfl, Nat.le_of_ble_eq_true rfl⟩ (hts _ zw_111) (hts _ zw_112) (hts _ zw_16) (hts _ zw_2) (by decide +kernel) (z_preS hK hZ hS hA hE) rfl rfl hl.1 rfl (lv_room (Nat.le_of_ble_eq_true rfl)) dX14_decode_424 ⟨Nat.le_of_ble_eq_true rfl, Nat.le_of_ble_eq_true rfl⟩) hZ hS hA (fun  Y1 L1 T1 H locs hp hZ hS => ?_)
                          cases hp
                          refine lv_aload_n hx hb dX14_decode_427 rfl (lv_at hl 1 rfl) ?_
                          refine z_getP (own := RX14) (C := RX14) (TT := TX14) (N := 42) (ci := 15) (Ts := WR) hx hb hts zin_wsX140 hown hK hZ h_th k_th rfl 18 (by decide) (hts _ zw_75) (fun _ h9 => h9) f_th_18 dX14_decode_428 ?_
                          refine lv_aload_n hx hb dX14_decode_431 rfl (lv_at hl 1 rfl) ?_
                          refine z_getP (own := RX14) (C := RX14) (TT := TX14) (N := 42) (ci := 15) (Ts := WR) hx hb hts zin_wsX140 hown hK hZ h_th k_th rfl 24 (by decide) (hts _ zw_81) (fun _ h9 => h9) f_th_24 dX14_decode_432 ?_
                          refine lv_aload_n hx hb dX14_decode_435 rfl (lv_at hl 1 rfl) ?_
                          refine z_getP (own := RX14) (C := RX14) (TT := TX14) (N := 42) (ci := 15) (Ts := WR) hx hb hts zin_wsX140 hown hK hZ h_th k_th rfl 18 (by decide) (hts _ zw_75) (fun _ h9 => h9) f_th_18 dX14_decode_436 ?_
                          refine lv_aload_n hx hb dX14_decode_439 rfl (lv_at hl 1 rfl) ?_
                          refine z_getP (own := RX14) (C := RX14) (TT := TX14) (N := 42) (ci := 15) (Ts := WR) hx hb hts zin_wsX140 hown hK hZ h_th k_th rfl 8 (by decide) (hts _ zw_65) (fun _ h9 => h9) f_th_8 dX14_decode_440 ?_
                          refine z_goV (z_runSUp (x := ⟨"ShellPairModel$Curve", "minus", "([J[J[J[J)V"⟩) (owner := "ShellPairModel$Numbers") (n := 4) (As := [.ref qx, .ref fc, .ref qx, .ref pp]) (rest := []) ⟨hx, hb, hml, hown, hts⟩ ((c_X18_minus E l D K X Y L T h_qx k_qx ⟨by omega, by omega⟩ h_fc k_fc ⟨by omega, by omega⟩ h_qx k_qx ⟨by omega, by omega⟩ h_pp k_pp ⟨by omega, by omega⟩) H.size) rfl (zg_I zw_30) rfl rfl rfl ⟨Nat.le_of_ble_eq_true rfl, Nat.le_of_ble_eq_true rfl⟩ (hts _ zw_121) (hts _ zw_122) (hts _ zw_31) (hts _ zw_2) (by decide +kernel) (z_preS hK hZ hS hA hE) rfl rfl hl.1 rfl (lv_room (Nat.le_of_ble_eq_true rfl)) dX14_decode_443 ⟨Nat.le_of_ble_eq_true rfl, Nat.le_of_ble_eq_true rfl⟩) hZ hS hA (fun  Y1 L1 T1 H locs hp hZ hS => ?_)
                          cases hp
                          refine lv_iconst (v := nI 1) hx hb dX14_decode_446 (by decide +kernel) ?_
                          exact z_iret hx hb hr rfl hlocks hK hZ hS rfl (Nat.le_of_ble_eq_true rfl) (Nat.le_of_ble_eq_true rfl) dX14_decode_447
                      · have e400 : jx12 = 1 := (nI_eq (a := jx12) (b := 1) (by omega) (by omega)).mp c400
                        refine lv_iconst (v := nI 0) hx hb dX14_decode_403 (by decide +kernel) ?_
                        exact z_iret hx hb hr rfl hlocks hK hZ hS rfl (Nat.le_of_ble_eq_true rfl) (Nat.le_of_ble_eq_true rfl) dX14_decode_404
                  · refine lv_iconst (v := nI 0) hx hb dX14_decode_373 (by decide +kernel) ?_
                    exact z_iret hx hb hr rfl hlocks hK hZ hS rfl (Nat.le_of_ble_eq_true rfl) (Nat.le_of_ble_eq_true rfl) dX14_decode_374
                refine lv_aload_n hx hb dX14_decode_257 rfl (lv_at hl 1 rfl) ?_
                refine lv_aload_n hx hb dX14_decode_258 rfl (lv_at hl 1 rfl) ?_
                refine z_getP (own := RX14) (C := RX14) (TT := TX14) (N := 42) (ci := 15) (Ts := WR) hx hb hts zin_wsX140 hown hK hZ h_th k_th rfl 18 (by decide) (hts _ zw_75) (fun _ h9 => h9) f_th_18 dX14_decode_259 ?_
                refine lv_aload_n hx hb dX14_decode_262 rfl (lv_at hl 1 rfl) ?_
                refine z_getP (own := RX14) (C := RX14) (TT := TX14) (N := 42) (ci := 15) (Ts := WR) hx hb hts zin_wsX140 hown hK hZ h_th k_th rfl 22 (by decide) (hts _ zw_79) (fun _ h9 => h9) f_th_22 dX14_decode_263 ?_
                refine lv_aload_n hx hb dX14_decode_266 rfl (lv_at hl 1 rfl) ?_
                refine z_getP (own := RX14) (C := RX14) (TT := TX14) (N := 42) (ci := 15) (Ts := WR) hx hb hts zin_wsX140 hown hK hZ h_th k_th rfl 25 (by decide) (hts _ zw_82) (fun _ h9 => h9) f_th_25 dX14_decode_267 ?_
                refine z_goV (va_runV (As := [.ref qx, .ref fa, .ref fe]) (rest := []) ⟨hx, hb, hml, hown, hts⟩ ((c_X14_power E l D K X Y L T h_th k_th f_th_0 h_product k_product ⟨by omega, by omega⟩ f_th_1 h_sum k_sum ⟨by omega, by omega⟩ f_th_8 h_pp k_pp ⟨by omega, by omega⟩ f_th_9 h_pt k_pt ⟨by omega, by omega⟩ f_th_26 h_ff k_ff ⟨by omega, by omega⟩ h_qx k_qx ⟨by omega, by omega⟩ h_fa k_fa ⟨by omega, by omega⟩ h_fe k_fe ⟨by omega, by omega⟩) H.size) (cwV 3 hts (zg_V zw_125 zw_127 zw_128 zw_62 zw_126) rfl rfl rfl (by decide +kernel) ⟨Nat.le_of_ble_eq_true rfl, Nat.le_of_ble_eq_true rfl⟩) (z_preV hK hZ hS hA hE (z_recvP hK hZ h_th k_th rfl)) rfl rfl hl.1 rfl (lv_room (Nat.le_of_ble_eq_true rfl)) dX14_decode_270 ⟨Nat.le_of_ble_eq_true rfl, Nat.le_of_ble_eq_true rfl⟩) hZ hS hA (fun  Y1 L1 T1 H locs hp hZ hS => ?_)
                cases hp
                refine lv_aload_n hx hb dX14_decode_273 rfl (lv_at hl 1 rfl) ?_
                refine lv_aload_n hx hb dX14_decode_274 rfl (lv_at hl 1 rfl) ?_
                refine z_getP (own := RX14) (C := RX14) (TT := TX14) (N := 42) (ci := 15) (Ts := WR) hx hb hts zin_wsX140 hown hK hZ h_th k_th rfl 24 (by decide) (hts _ zw_81) (fun _ h9 => h9) f_th_24 dX14_decode_275 ?_
                refine lv_aload_n hx hb dX14_decode_278 rfl (lv_at hl 1 rfl) ?_
                refine z_getP (own := RX14) (C := RX14) (TT := TX14) (N := 42) (ci := 15) (Ts := WR) hx hb hts zin_wsX140 hown hK hZ h_th k_th rfl 18 (by decide) (hts _ zw_75) (fun _ h9 => h9) f_th_18 dX14_decode_279 ?_
                refine lv_aload_n hx hb dX14_decode_282 rfl (lv_at hl 1 rfl) ?_
                refine z_getP (own := RX14) (C := RX14) (TT := TX14) (N := 42) (ci := 15) (Ts := WR) hx hb hts zin_wsX140 hown hK hZ h_th k_th rfl 18 (by decide) (hts _ zw_75) (fun _ h9 => h9) f_th_18 dX14_decode_283 ?_
                refine lv_aload_n hx hb dX14_decode_286 rfl (lv_at hl 1 rfl) ?_
                refine z_getP (own := RX14) (C := RX14) (TT := TX14) (N := 42) (ci := 15) (Ts := WR) hx hb hts zin_wsX140 hown hK hZ h_th k_th rfl 8 (by decide) (hts _ zw_65) (fun _ h9 => h9) f_th_8 dX14_decode_287 ?_
                refine lv_aload_n hx hb dX14_decode_290 rfl (lv_at hl 1 rfl) ?_
                refine z_getP (own := RX14) (C := RX14) (TT := TX14) (N := 42) (ci := 15) (Ts := WR) hx hb hts zin_wsX140 hown hK hZ h_th k_th rfl 9 (by decide) (hts _ zw_66) (fun _ h9 => h9) f_th_9 dX14_decode_291 ?_
                refine z_goV (va_runU (C := RX14) (owner := "ShellPairModel$Numbers") (x := ⟨"ShellPairModel$Curve", "times", "([J[J[J[J[J)V"⟩) (As := [.ref fc, .ref qx, .ref qx, .ref pp, .ref pt]) (rest := []) ⟨hx, hb, hml, hown, hts⟩ ((c_X18_times E l D K X Y L T h_th k_th f_th_0 h_product k_product ⟨by omega, by omega⟩ f_th_1 h_sum k_sum ⟨by omega, by omega⟩ h_fc k_fc ⟨by omega, by omega⟩ h_qx k_qx ⟨by omega, by omega⟩ h_qx k_qx ⟨by omega, by omega⟩ h_pp k_pp ⟨by omega, by omega⟩ h_pt k_pt ⟨by omega, by omega⟩) H.size) (va_cwU 5 hts (zg_U zw_118 zw_120 zw_119 zw_47 zw_2 zw_46) rfl rfl rfl rfl (by decide +kernel) ⟨Nat.le_of_ble_eq_true rfl, Nat.le_of_ble_eq_true rfl⟩) (z_preV hK hZ hS hA hE (z_recvP hK hZ h_th k_th rfl)) rfl rfl hl.1 rfl (lv_room (Nat.le_of_ble_eq_true rfl)) dX14_decode_294 ⟨Nat.le_of_ble_eq_true rfl, Nat.le_of_ble_eq_true rfl⟩) hZ hS hA (fun  Y1 L1 T1 H locs hp hZ hS => ?_)
                cases hp
                refine lv_aload_n hx hb dX14_decode_297 rfl (lv_at hl 1 rfl) ?_
                refine z_getP (own := RX14) (C := RX14) (TT := TX14) (N := 42) (ci := 15) (Ts := WR) hx hb hts zin_wsX140 hown hK hZ h_th k_th rfl 24 (by decide) (hts _ zw_81) (fun _ h9 => h9) f_th_24 dX14_decode_298 ?_
                refine lv_aload_n hx hb dX14_decode_301 rfl (lv_at hl 1 rfl) ?_
                refine z_getP (own := RX14) (C := RX14) (TT := TX14) (N := 42) (ci := 15) (Ts := WR) hx hb hts zin_wsX140 hown hK hZ h_th k_th rfl 22 (by decide) (hts _ zw_79) (fun _ h9 => h9) f_th_22 dX14_decode_302 ?_
                refine z_goI (z_runSUp (x := ⟨"ShellPairModel$Curve", "alike", "([J[J)Z"⟩) (owner := "ShellPairModel$Numbers") (n := 2) (As := [.ref fc, .ref fa]) (rest := []) ⟨hx, hb, hml, hown, hts⟩ ((c_X18_alike E l D K X Y L T h_fc k_fc ⟨by omega, by omega⟩ h_fa k_fa ⟨by omega, by omega⟩) H.size) rfl (zg_I zw_21) rfl rfl rfl ⟨Nat.le_of_ble_eq_true rfl, Nat.le_of_ble_eq_true rfl⟩ (hts _ zw_143) (hts _ zw_144) (hts _ zw_22) (hts _ zw_2) (by decide +kernel) (z_preS hK hZ hS hA hE) rfl rfl hl.1 rfl (lv_room (Nat.le_of_ble_eq_true rfl)) dX14_decode_305 ⟨Nat.le_of_ble_eq_true rfl, Nat.le_of_ble_eq_true rfl⟩) hZ hS hA (fun x28 Y1 L1 T1 H locs hp hZ hS => ?_)
                cases hp
                refine lv_if_ne (tgt := 335) hx hb dX14_decode_308 (by decide) (fun c308 => ?_) (fun c308 => ?_)
                · exact J335   _ _ _ hZ hS (lv_sub hl [1] rfl)
                · refine lv_aload_n hx hb dX14_decode_311 rfl (lv_at hl 1 rfl) ?_
                  refine lv_aload_n hx hb dX14_decode_312 rfl (lv_at hl 1 rfl) ?_
                  refine z_getP (own := RX14) (C := RX14) (TT := TX14) (N := 42) (ci := 15) (Ts := WR) hx hb hts zin_wsX140 hown hK hZ h_th k_th rfl 18 (by decide) (hts _ zw_75) (fun _ h9 => h9) f_th_18 dX14_decode_313 ?_
                  refine lv_aload_n hx hb dX14_decode_316 rfl (lv_at hl 1 rfl) ?_
                  refine z_getP (own := RX14) (C := RX14) (TT := TX14) (N := 42) (ci := 15) (Ts := WR) hx hb hts zin_wsX140 hown hK hZ h_th k_th rfl 18 (by decide) (hts _ zw_75) (fun _ h9 => h9) f_th_18 dX14_decode_317 ?_
                  refine lv_aload_n hx hb dX14_decode_320 rfl (lv_at hl 1 rfl) ?_
                  refine z_getP (own := RX14) (C := RX14) (TT := TX14) (N := 42) (ci := 15) (Ts := WR) hx hb hts zin_wsX140 hown hK hZ h_th k_th rfl 13 (by decide) (hts _ zw_70) (fun _ h9 => h9) f_th_13 dX14_decode_321 ?_
                  refine lv_aload_n hx hb dX14_decode_324 rfl (lv_at hl 1 rfl) ?_
                  refine z_getP (own := RX14) (C := RX14) (TT := TX14) (N := 42) (ci := 15) (Ts := WR) hx hb hts zin_wsX140 hown hK hZ h_th k_th rfl 8 (by decide) (hts _ zw_65) (fun _ h9 => h9) f_th_8 dX14_decode_325 ?_
                  refine lv_aload_n hx hb dX14_decode_328 rfl (lv_at hl 1 rfl) ?_
                  refine z_getP (own := RX14) (C := RX14) (TT := TX14) (N := 42) (ci := 15) (Ts := WR) hx hb hts zin_wsX140 hown hK hZ h_th k_th rfl 9 (by decide) (hts _ zw_66) (fun _ h9 => h9) f_th_9 dX14_decode_329 ?_
                  refine z_goV (va_runU (C := RX14) (owner := "ShellPairModel$Numbers") (x := ⟨"ShellPairModel$Curve", "times", "([J[J[J[J[J)V"⟩) (As := [.ref qx, .ref qx, .ref root, .ref pp, .ref pt]) (rest := []) ⟨hx, hb, hml, hown, hts⟩ ((c_X18_times E l D K X Y L T h_th k_th f_th_0 h_product k_product ⟨by omega, by omega⟩ f_th_1 h_sum k_sum ⟨by omega, by omega⟩ h_qx k_qx ⟨by omega, by omega⟩ h_qx k_qx ⟨by omega, by omega⟩ h_root k_root ⟨by omega, by omega⟩ h_pp k_pp ⟨by omega, by omega⟩ h_pt k_pt ⟨by omega, by omega⟩) H.size) (va_cwU 5 hts (zg_U zw_118 zw_120 zw_119 zw_47 zw_2 zw_46) rfl rfl rfl rfl (by decide +kernel) ⟨Nat.le_of_ble_eq_true rfl, Nat.le_of_ble_eq_true rfl⟩) (z_preV hK hZ hS hA hE (z_recvP hK hZ h_th k_th rfl)) rfl rfl hl.1 rfl (lv_room (Nat.le_of_ble_eq_true rfl)) dX14_decode_332 ⟨Nat.le_of_ble_eq_true rfl, Nat.le_of_ble_eq_true rfl⟩) hZ hS hA (fun  Y1 L1 T1 H locs hp hZ hS => ?_)
                  cases hp
                  exact J335   _ _ _ hZ hS (lv_sub hl [1] rfl) 
              · have e217 : ¬ 16 ≤ i214 := fun q => c217 ((nI_leI (a := 16) (b := i214) (by omega) (by omega)).mpr q)
                have J250 : ∀ (t2_250 : Int64) (H : Heap) (locs : List Loc) (ls : Array Slot), zP D vwCl A X Y L T H → va_S A s.heap H locs → lv_has ls 2 [(0, .ref th), (1, .int (nI i214))] → W p l e ROOM_X14_decode s m [.ref th].toArray below meth c H locs 0 0 (MQ below (va_Qi (fun _ => zSame Y L T) (zB D vwCl (zT K) A X) A) [.ref th].toArray s 0 0 A) (F0 m 250 ls [.long t2_250, .int (nI i214), .ref fe]) := by
                  intro t2_250 H locs ls hZ hS hl 
                  refine z_last hx hb hK hZ hS 1 h_fe k_fe rfl (vp_in_nI (by omega) (by omega)) dX14_decode_250 (fun H locs hZ hS => ?_)
                  refine lv_iinc (v := nI (i214 + 1)) (lv' := [(1, .int (nI (i214 + 1))), (0, .ref th)]) hx hb dX14_decode_251 hl (k := 1) rfl (nI_add i214 1) (by decide) rfl (fun ls hl => ?_)
                  refine lv_goto (tgt := 214) hx hb dX14_decode_254 (by decide) ?_
                  exact ih214 (i214 + 1) (by omega) (by omega)  _ _ _ hZ hS (lv_sub hl [0, 1] rfl) 
                refine lv_aload_n hx hb dX14_decode_220 rfl (lv_at hl 1 rfl) ?_
                refine z_getP (own := RX14) (C := RX14) (TT := TX14) (N := 42) (ci := 15) (Ts := WR) hx hb hts zin_wsX140 hown hK hZ h_th k_th rfl 25 (by decide) (hts _ zw_82) (fun _ h9 => h9) f_th_25 dX14_decode_221 ?_
                refine lv_iload_n hx hb dX14_decode_224 rfl (lv_at hl 0 rfl) ?_
                refine lv_iload_n hx hb dX14_decode_225 rfl (lv_at hl 0 rfl) ?_
                refine lv_if_ne (tgt := 235) hx hb dX14_decode_226 (by decide) (fun c226 => ?_) (fun c226 => ?_)
                · have e226 : ¬ i214 = 0 := fun q => c226 ((nI_eq (a := i214) (b := 0) (by omega) (by omega)).mpr q)
                  refine lv_iload_n hx hb dX14_decode_235 rfl (lv_at hl 0 rfl) ?_
                  refine lv_bipush (v := nI 15) hx hb dX14_decode_236 (by decide +kernel) ?_
                  refine lv_icmp_ne (tgt := 247) hx hb dX14_decode_238 (by decide) (fun c238 => ?_) (fun c238 => ?_)
                  · have e238 : ¬ i214 = 15 := fun q => c238 ((nI_eq (a := i214) (b := 15) (by omega) (by omega)).mpr q)
                    refine lv_ldc2 (v := (65535)) hx hb hown (hts _ zw_107) dX14_decode_247 ?_
                    exact J250  (65535) _ _ _ hZ hS (lv_sub hl [1, 0] rfl) 
                  · have e238 : i214 = 15 := (nI_eq (a := i214) (b := 15) (by omega) (by omega)).mp c238
                    refine lv_ldc2 (v := (4095)) hx hb hown (hts _ zw_142) dX14_decode_241 ?_
                    refine lv_goto (tgt := 250) hx hb dX14_decode_244 (by decide) ?_
                    exact J250  (4095) _ _ _ hZ hS (lv_sub hl [1, 0] rfl) 
                · have e226 : i214 = 0 := (nI_eq (a := i214) (b := 0) (by omega) (by omega)).mp c226
                  refine lv_ldc2 (v := (65534)) hx hb hown (hts _ zw_141) dX14_decode_229 ?_
                  refine lv_goto (tgt := 250) hx hb dX14_decode_232 (by decide) ?_
                  exact J250  (65534) _ _ _ hZ hS (lv_sub hl [1, 0] rfl) 
          exact L214 (16 + 1) 0 (by omega) (by omega)  _ _ _ hZ hS (lv_sub hl [0, 1] rfl) 
        · refine lv_iconst (v := nI 0) hx hb dX14_decode_84 (by decide +kernel) ?_
          exact z_iret hx hb hr rfl hlocks hK hZ hS rfl (Nat.le_of_ble_eq_true rfl) (Nat.le_of_ble_eq_true rfl) dX14_decode_85
      · have e5 : ¬ 16 ≤ i2 := fun q => c5 ((nI_leI (a := 16) (b := i2) (by omega) (by omega)).mpr q)
        have J58 : ∀ (t2_58 : Int32) (t3_58 : Int32) (H : Heap) (locs : List Loc) (ls : Array Slot), zP D vwCl A X Y L T H → va_S A s.heap H locs → lv_has ls 2 [(0, .ref th), (1, .int (nI i2))] → W p l e ROOM_X14_decode s m [.ref th].toArray below meth c H locs 0 0 (MQ below (va_Qi (fun _ => zSame Y L T) (zB D vwCl (zT K) A X) A) [.ref th].toArray s 0 0 A) (F0 m 58 ls [.int t3_58, .int t2_58, .int (nI i2), .ref qy]) := by
          intro t2_58 t3_58 H locs ls hZ hS hl 
          refine lv_bipush (v := nI 8) hx hb dX14_decode_58 (by decide +kernel) ?_
          refine lv_ishl hx hb dX14_decode_60 ?_
          refine lv_topi (fun x30 ex30 => ?_)
          refine lv_ior hx hb dX14_decode_61 ?_
          refine lv_topi (fun x31 ex31 => ?_)
          refine lv_i2l hx hb dX14_decode_62 rfl ?_
          refine lv_topl (fun x32 _ => ?_)
          refine z_last hx hb hK hZ hS 1 h_qy k_qy rfl (vp_in_nI (by omega) (by omega)) dX14_decode_63 (fun H locs hZ hS => ?_)
          refine lv_iinc (v := nI (i2 + 1)) (lv' := [(1, .int (nI (i2 + 1))), (0, .ref th)]) hx hb dX14_decode_64 hl (k := 1) rfl (nI_add i2 1) (by decide) rfl (fun ls hl => ?_)
          refine lv_goto (tgt := 2) hx hb dX14_decode_67 (by decide) ?_
          exact ih2 (i2 + 1) (by omega) (by omega)  _ _ _ hZ hS (lv_sub hl [0, 1] rfl) 
        refine lv_aload_n hx hb dX14_decode_8 rfl (lv_at hl 1 rfl) ?_
        refine z_getP (own := RX14) (C := RX14) (TT := TX14) (N := 42) (ci := 15) (Ts := WR) hx hb hts zin_wsX140 hown hK hZ h_th k_th rfl 19 (by decide) (hts _ zw_76) (fun _ h9 => h9) f_th_19 dX14_decode_9 ?_
        refine lv_iload_n hx hb dX14_decode_12 rfl (lv_at hl 0 rfl) ?_
        refine lv_aload_n hx hb dX14_decode_13 rfl (lv_at hl 1 rfl) ?_
        refine z_getP (own := RX14) (C := RX14) (TT := TX14) (N := 42) (ci := 15) (Ts := WR) hx hb hts zin_wsX140 hown hK hZ h_th k_th rfl 37 (by decide) (hts _ zw_94) (fun _ h9 => h9) f_th_37 dX14_decode_14 ?_
        refine lv_iconst (v := nI 2) hx hb dX14_decode_17 (by decide +kernel) ?_
        refine lv_iload_n hx hb dX14_decode_18 rfl (lv_at hl 0 rfl) ?_
        refine lv_imul hx hb dX14_decode_19 ?_
        refine lv_topi (fun x33 ex33 => ?_)
        obtain rfl : x33 = nI (2 * i2) := ex33.trans (pk_mul 2 i2)
        refine z_bald hx hb hK hZ 2 h_row k_row rfl (vp_in_nI (by omega) (by omega)) dX14_decode_20 (fun x34 => ?_)
        refine lv_sipush (v := nI 255) hx hb dX14_decode_21 (by decide +kernel) ?_
        refine lv_iand hx hb dX14_decode_24 ?_
        refine lv_topi (fun x35 ex35 => ?_)
        obtain ⟨jx35, bx35, rfl⟩ : ∃ j : Nat, j < 256 ∧ x35 = nI j := by obtain ⟨j, h1, h2⟩ := pk_andE x34 (m := nI 255) 8 (by decide +kernel); exact ⟨j, h1, ex35.trans h2⟩
        refine lv_iload_n hx hb dX14_decode_25 rfl (lv_at hl 0 rfl) ?_
        refine lv_bipush (v := nI 15) hx hb dX14_decode_26 (by decide +kernel) ?_
        refine lv_icmp_ne (tgt := 44) hx hb dX14_decode_28 (by decide) (fun c28 => ?_) (fun c28 => ?_)
        · have e28 : ¬ i2 = 15 := fun q => c28 ((nI_eq (a := i2) (b := 15) (by omega) (by omega)).mpr q)
          refine lv_aload_n hx hb dX14_decode_44 rfl (lv_at hl 1 rfl) ?_
          refine z_getP (own := RX14) (C := RX14) (TT := TX14) (N := 42) (ci := 15) (Ts := WR) hx hb hts zin_wsX140 hown hK hZ h_th k_th rfl 37 (by decide) (hts _ zw_94) (fun _ h9 => h9) f_th_37 dX14_decode_45 ?_
          refine lv_iconst (v := nI 2) hx hb dX14_decode_48 (by decide +kernel) ?_
          refine lv_iload_n hx hb dX14_decode_49 rfl (lv_at hl 0 rfl) ?_
          refine lv_imul hx hb dX14_decode_50 ?_
          refine lv_topi (fun x36 ex36 => ?_)
          obtain rfl : x36 = nI (2 * i2) := ex36.trans (pk_mul 2 i2)
          refine lv_iconst (v := nI 1) hx hb dX14_decode_51 (by decide +kernel) ?_
          refine lv_iadd hx hb dX14_decode_52 ?_
          refine lv_topi (fun x37 ex37 => ?_)
          obtain rfl : x37 = nI ((2 * i2) + 1) := ex37.trans (nI_add (2 * i2) 1)
          refine z_bald hx hb hK hZ 2 h_row k_row rfl (vp_in_nI (by omega) (by omega)) dX14_decode_53 (fun x38 => ?_)
          refine lv_sipush (v := nI 255) hx hb dX14_decode_54 (by decide +kernel) ?_
          refine lv_iand hx hb dX14_decode_57 ?_
          refine lv_topi (fun x39 ex39 => ?_)
          obtain ⟨jx39, bx39, rfl⟩ : ∃ j : Nat, j < 256 ∧ x39 = nI j := by obtain ⟨j, h1, h2⟩ := pk_andE x38 (m := nI 255) 8 (by decide +kernel); exact ⟨j, h1, ex39.trans h2⟩
          exact J58  (nI jx35) (nI jx39) _ _ _ hZ hS (lv_sub hl [1, 0] rfl) 
        · have e28 : i2 = 15 := (nI_eq (a := i2) (b := 15) (by omega) (by omega)).mp c28
          refine lv_aload_n hx hb dX14_decode_31 rfl (lv_at hl 1 rfl) ?_
          refine z_getP (own := RX14) (C := RX14) (TT := TX14) (N := 42) (ci := 15) (Ts := WR) hx hb hts zin_wsX140 hown hK hZ h_th k_th rfl 37 (by decide) (hts _ zw_94) (fun _ h9 => h9) f_th_37 dX14_decode_32 ?_
          refine lv_bipush (v := nI 31) hx hb dX14_decode_35 (by decide +kernel) ?_
          refine z_bald hx hb hK hZ 2 h_row k_row rfl (vp_in_nI (by omega) (by omega)) dX14_decode_37 (fun x40 => ?_)
          refine lv_bipush (v := nI 127) hx hb dX14_decode_38 (by decide +kernel) ?_
          refine lv_iand hx hb dX14_decode_40 ?_
          refine lv_topi (fun x41 ex41 => ?_)
          obtain ⟨jx41, bx41, rfl⟩ : ∃ j : Nat, j < 128 ∧ x41 = nI j := by obtain ⟨j, h1, h2⟩ := pk_andE x40 (m := nI 127) 7 (by decide +kernel); exact ⟨j, h1, ex41.trans h2⟩
          refine lv_goto (tgt := 58) hx hb dX14_decode_41 (by decide) ?_
          exact J58  (nI jx35) (nI jx41) _ _ _ hZ hS (lv_sub hl [1, 0] rfl) 
  exact L2 (16 + 1) 0 (by omega) (by omega)  _ _ _ hZ hS (lv_sub hl [0, 1] rfl) 
abbrev ROOM_X13_times : Room := { frames := 1, cells := 0, slots := 0, locals := 0 }
set_option maxHeartbeats 4000000 in
set_option maxRecDepth 100000 in
/-- times of the field of AES -/
theorem c_X13_times (E : zEn) (l : Launch) (D : va_G) (K : Nat → ClassId) (X Y : va_W) (L : List Nat) (T : Nat → va_E → Prop) {aa : Int32} {bb : Int32}    : zVi E l D vwCl (zT K) yX13_times (zws yX13_times cX13_times 5 (some .int)) ROOM_X13_times 0 0 [.int aa, .int bb] X Y L T (fun _ => zSame Y L T) := by
  refine z_ofW (E := E) (Qc := fun A => va_Qi (fun _ => zSame Y L T) (zB D vwCl (zT K) A X) A) (cc := cX13_times) (maxL := 5) (ret := (some .int)) (by decide +kernel) rfl (Nat.le_of_ble_eq_true rfl) ?_
  intro p e s m below meth c A ls hx hb hml hr hts hown hlocks hin hA hK hZ hS hE hl
  have hown : s.vm.findClass RX13 = some m.cls := hown
  have hts : ∀ w ∈ WR, w.before [.int aa, .int bb].toArray s = true := fun w h => hts w (List.mem_cons_of_mem _ h)
  have hl : lv_has ls 5 [(0, .int aa), (1, .int bb)] := hl
  obtain ⟨H, hH⟩ : ∃ H, H = s.heap := ⟨_, rfl⟩
  have hZ : zP D vwCl A X Y L T H := by rw [hH]; exact hZ
  obtain ⟨locs, hlc⟩ : ∃ q : List Loc, q = [] := ⟨_, rfl⟩
  have hS : va_S A s.heap H locs := by rw [hH, hlc]; exact hS
  suffices hW : W p l e ROOM_X13_times s m [.int aa, .int bb].toArray below meth c H locs 0 0 (MQ below (va_Qi (fun _ => zSame Y L T) (zB D vwCl (zT K) A X) A) [.int aa, .int bb].toArray s 0 0 A) (F0 m 0 ls []) by rw [hH, hlc] at hW; exact hW
  clear hH hlc
  refine lv_iconst (v := nI 0) hx hb dX13_times_0 (by decide +kernel) ?_
  refine lv_istore_n (lv' := [(2, .int (nI 0)), (0, .int aa), (1, .int bb)]) hx hb dX13_times_1 rfl hl (by decide) rfl (fun ls hl => ?_)
  refine lv_iload_n hx hb dX13_times_2 rfl (lv_at hl 1 rfl) ?_
  refine lv_istore_n (lv' := [(3, .int aa), (2, .int (nI 0)), (0, .int aa), (1, .int bb)]) hx hb dX13_times_3 rfl hl (by decide) rfl (fun ls hl => ?_)
  refine lv_iconst (v := nI 0) hx hb dX13_times_4 (by decide +kernel) ?_
  refine lv_istore (lv' := [(4, .int (nI 0)), (3, .int aa), (2, .int (nI 0)), (0, .int aa), (1, .int bb)]) hx hb dX13_times_5 hl (by decide) rfl (fun ls hl => ?_)
  have L7 : ∀ (n i7 : Nat), i7 ≤ 8 → 8 + 1 ≤ i7 + n → ∀ (v2_7 : Int32) (v3_7 : Int32) (H : Heap) (locs : List Loc) (ls : Array Slot), zP D vwCl A X Y L T H → va_S A s.heap H locs → lv_has ls 5 [(4, .int (nI i7)), (0, .int aa), (1, .int bb), (2, .int v2_7), (3, .int v3_7)] → W p l e ROOM_X13_times s m [.int aa, .int bb].toArray below meth c H locs 0 0 (MQ below (va_Qi (fun _ => zSame Y L T) (zB D vwCl (zT K) A X) A) [.int aa, .int bb].toArray s 0 0 A) (F0 m 7 ls []) := by
    intro n
    induction n with
    | zero => intro i7 u7 w7; exact absurd w7 (by omega)
    | succ n ih7 =>
      intro i7 u7 w7 v2_7 v3_7 H locs ls hZ hS hl 
      refine lv_iload hx hb dX13_times_7 (lv_at hl 0 rfl) ?_
      refine lv_bipush (v := nI 8) hx hb dX13_times_9 (by decide +kernel) ?_
      refine lv_icmp_ge (tgt := 52) hx hb dX13_times_11 (by decide) (fun c11 => ?_) (fun c11 => ?_)
      · have e11 : 8 ≤ i7 := (nI_leI (a := 8) (b := i7) (by omega) (by omega)).mp c11
        refine lv_iload_n hx hb dX13_times_52 rfl (lv_at hl 3 rfl) ?_
        exact z_iret hx hb hr rfl hlocks hK hZ hS rfl (Nat.le_of_ble_eq_true rfl) (Nat.le_of_ble_eq_true rfl) dX13_times_53
      · have e11 : ¬ 8 ≤ i7 := fun q => c11 ((nI_leI (a := 8) (b := i7) (by omega) (by omega)).mpr q)
        have J28 : ∀ (v2_28 : Int32) (H : Heap) (locs : List Loc) (ls : Array Slot), zP D vwCl A X Y L T H → va_S A s.heap H locs → lv_has ls 5 [(0, .int aa), (1, .int bb), (2, .int v2_28), (3, .int v3_7), (4, .int (nI i7))] → W p l e ROOM_X13_times s m [.int aa, .int bb].toArray below meth c H locs 0 0 (MQ below (va_Qi (fun _ => zSame Y L T) (zB D vwCl (zT K) A X) A) [.int aa, .int bb].toArray s 0 0 A) (F0 m 28 ls []) := by
          intro v2_28 H locs ls hZ hS hl 
          have J44 : ∀ (t0_44 : Int32) (t1_44 : Int32) (H : Heap) (locs : List Loc) (ls : Array Slot), zP D vwCl A X Y L T H → va_S A s.heap H locs → lv_has ls 5 [(0, .int aa), (1, .int bb), (2, .int v2_28), (3, .int v3_7), (4, .int (nI i7))] → W p l e ROOM_X13_times s m [.int aa, .int bb].toArray below meth c H locs 0 0 (MQ below (va_Qi (fun _ => zSame Y L T) (zB D vwCl (zT K) A X) A) [.int aa, .int bb].toArray s 0 0 A) (F0 m 44 ls [.int t1_44, .int t0_44]) := by
            intro t0_44 t1_44 H locs ls hZ hS hl 
            refine lv_ixor hx hb dX13_times_44 ?_
            refine lv_topi (fun x1 ex1 => ?_)
            refine lv_istore_n (lv' := [(3, .int x1), (0, .int aa), (1, .int bb), (2, .int v2_28), (4, .int (nI i7))]) hx hb dX13_times_45 rfl hl (by decide) rfl (fun ls hl => ?_)
            refine lv_iinc (v := nI (i7 + 1)) (lv' := [(4, .int (nI (i7 + 1))), (3, .int x1), (0, .int aa), (1, .int bb), (2, .int v2_28)]) hx hb dX13_times_46 hl (k := 4) rfl (nI_add i7 1) (by decide) rfl (fun ls hl => ?_)
            refine lv_goto (tgt := 7) hx hb dX13_times_49 (by decide) ?_
            exact ih7 (i7 + 1) (by omega) (by omega) v2_28 x1 _ _ _ hZ hS (lv_sub hl [0, 2, 3, 4, 1] rfl) 
          refine lv_iload_n hx hb dX13_times_28 rfl (lv_at hl 3 rfl) ?_
          refine lv_iconst (v := nI 1) hx hb dX13_times_29 (by decide +kernel) ?_
          refine lv_ishl hx hb dX13_times_30 ?_
          refine lv_topi (fun x2 ex2 => ?_)
          refine lv_iload_n hx hb dX13_times_31 rfl (lv_at hl 3 rfl) ?_
          refine lv_bipush (v := nI 127) hx hb dX13_times_32 (by decide +kernel) ?_
          refine lv_icmp_le (tgt := 43) hx hb dX13_times_34 (by decide) (fun c34 => ?_) (fun c34 => ?_)
          · refine lv_iconst (v := nI 0) hx hb dX13_times_43 (by decide +kernel) ?_
            exact J44  x2 (nI 0) _ _ _ hZ hS (lv_sub hl [0, 1, 2, 3, 4] rfl) 
          · refine lv_sipush (v := nI 283) hx hb dX13_times_37 (by decide +kernel) ?_
            refine lv_goto (tgt := 44) hx hb dX13_times_40 (by decide) ?_
            exact J44  x2 (nI 283) _ _ _ hZ hS (lv_sub hl [0, 1, 2, 3, 4] rfl) 
        refine lv_iload_n hx hb dX13_times_14 rfl (lv_at hl 2 rfl) ?_
        refine lv_iload hx hb dX13_times_15 (lv_at hl 0 rfl) ?_
        refine lv_ishr hx hb dX13_times_17 ?_
        refine lv_topi (fun x3 ex3 => ?_)
        refine lv_iconst (v := nI 1) hx hb dX13_times_18 (by decide +kernel) ?_
        refine lv_iand hx hb dX13_times_19 ?_
        refine lv_topi (fun x4 ex4 => ?_)
        obtain ⟨jx4, bx4, rfl⟩ : ∃ j : Nat, j < 2 ∧ x4 = nI j := by obtain ⟨j, h1, h2⟩ := pk_andE x3 (m := nI 1) 1 (by decide +kernel); exact ⟨j, h1, ex4.trans h2⟩
        refine lv_iconst (v := nI 1) hx hb dX13_times_20 (by decide +kernel) ?_
        refine lv_icmp_ne (tgt := 28) hx hb dX13_times_21 (by decide) (fun c21 => ?_) (fun c21 => ?_)
        · have e21 : ¬ jx4 = 1 := fun q => c21 ((nI_eq (a := jx4) (b := 1) (by omega) (by omega)).mpr q)
          exact J28 v2_7  _ _ _ hZ hS (lv_sub hl [1, 2, 3, 4, 0] rfl) 
        · have e21 : jx4 = 1 := (nI_eq (a := jx4) (b := 1) (by omega) (by omega)).mp c21
          refine lv_iload_n hx hb dX13_times_24 rfl (lv_at hl 3 rfl) ?_
          refine lv_iload_n hx hb dX13_times_25 rfl (lv_at hl 4 rfl) ?_
          refine lv_ixor hx hb dX13_times_26 ?_
          refine lv_topi (fun x5 ex5 => ?_)
          refine lv_istore_n (lv' := [(2, .int x5), (4, .int (nI i7)), (0, .int aa), (1, .int bb), (3, .int v3_7)]) hx hb dX13_times_27 rfl hl (by decide) rfl (fun ls hl => ?_)
          exact J28 x5  _ _ _ hZ hS (lv_sub hl [2, 3, 0, 4, 1] rfl) 
  exact L7 (8 + 1) 0 (by omega) (by omega) (nI 0) aa _ _ _ hZ hS (lv_sub hl [0, 3, 4, 2, 1] rfl) 
end ZNUM

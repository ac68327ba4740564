section ZBY
abbrev ROOM_J0_coder_7d493 : Room := { frames := 1, cells := 0, slots := 0, locals := 0 }
set_option maxHeartbeats 4000000 in
set_option maxRecDepth 100000 in
/-- String.coder: Latin1 -/
theorem c_J0_coder_7d493 (E : zEn) (l : Launch) (D : va_G) (K : Nat → ClassId) (X Y : va_W) (L : List Nat) (T : Nat → va_E → Prop) {th v_th n_th : Nat}  (h_th : (th, v_th, n_th) ∈ E.2.2.2) (b_th : n_th < 2147483648) (hSA : zSA E) : zVi E l D vwCl (zT K) yJ0_coder_7d493 (zws yJ0_coder_7d493 cJ0_coder_7d493 1 (some .byte)) ROOM_J0_coder_7d493 0 0 [.ref th] X Y L T (fun (r : Int32) (u : zU) => r = nI 0 ∧ u = (Y, L, T)) := by
  refine z_ofW (E := E) (Qc := fun A => va_Qi (fun (r : Int32) (u : zU) => r = nI 0 ∧ u = (Y, L, T)) (zB D vwCl (zT K) A X) A) (cc := cJ0_coder_7d493) (maxL := 1) (ret := (some .byte)) (by decide +kernel) rfl (Nat.le_of_ble_eq_true rfl) ?_
  intro p e s m below meth c A ls hx hb hml hr hts hown hlocks hin hA hK hZ hS hE hl
  have hown : s.vm.findClass RJ0 = some m.cls := hown
  have hts : ∀ w ∈ WR, w.before [.ref th].toArray s = true := fun w h => hts w (List.mem_cons_of_mem _ h)
  have hl : lv_has ls 1 [(0, .ref th)] := hl
  obtain ⟨H, hH⟩ : ∃ H, H = s.heap := ⟨_, rfl⟩
  have hZ : zP D vwCl A X Y L T H := by rw [hH]; exact hZ
  obtain ⟨locs, hlc⟩ : ∃ q : List Loc, q = [] := ⟨_, rfl⟩
  have hS : va_S A s.heap H locs := by rw [hH, hlc]; exact hS
  suffices hW : W p l e ROOM_J0_coder_7d493 s m [.ref th].toArray below meth c H locs 0 0 (MQ below (va_Qi (fun (r : Int32) (u : zU) => r = nI 0 ∧ u = (Y, L, T)) (zB D vwCl (zT K) A X) A) [.ref th].toArray s 0 0 A) (F0 m 0 ls []) by rw [hH, hlc] at hW; exact hW
  clear hH hlc
  refine z_gets (C := "java/lang/String") (n := "COMPACT_STRINGS") (d := "Z") (v := .int 1) hx hb hE (zSA_COMPACT_STRINGS hSA) hS hown (hts _ zw_985) dJ0_coder_7d493_0 ?_
  refine lv_if_eq (tgt := 13) hx hb dJ0_coder_7d493_3 (by decide) (fun c3 => absurd c3 (by decide +kernel)) (fun c3 => ?_)
  clear c3
  refine lv_aload_n hx hb dJ0_coder_7d493_6 rfl (lv_at hl 0 rfl) ?_
  refine vk_getf hx hb (hE.2.2.2.1 _ h_th).2.1 hS hown (hts _ zw_986) (fun _ h9 => h9) dJ0_coder_7d493_7 ?_
  refine lv_topi (fun x1 ex1 => ?_)
  obtain rfl : x1 = nI 0 := ex1.trans (by decide +kernel)
  refine lv_goto (tgt := 14) hx hb dJ0_coder_7d493_10 (by decide) ?_
  exact z_iret hx hb hr (by decide +kernel) hlocks hK hZ hS ⟨(by first | rfl | decide +kernel | exact congrArg nI (by omega)), rfl⟩ (Nat.le_of_ble_eq_true rfl) (Nat.le_of_ble_eq_true rfl) dJ0_coder_7d493_14
abbrev ROOM_J0_isLatin1_aae02 : Room := { frames := 1, cells := 0, slots := 0, locals := 0 }
set_option maxHeartbeats 4000000 in
set_option maxRecDepth 100000 in
/-- String.isLatin1 -/
theorem c_J0_isLatin1_aae02 (E : zEn) (l : Launch) (D : va_G) (K : Nat → ClassId) (X Y : va_W) (L : List Nat) (T : Nat → va_E → Prop) {th v_th n_th : Nat}  (h_th : (th, v_th, n_th) ∈ E.2.2.2) (b_th : n_th < 2147483648) (hSA : zSA E) : zVi E l D vwCl (zT K) yJ0_isLatin1_aae02 (zws yJ0_isLatin1_aae02 cJ0_isLatin1_aae02 1 (some .boolean)) ROOM_J0_isLatin1_aae02 0 0 [.ref th] X Y L T (fun (r : Int32) (u : zU) => r = nI 1 ∧ u = (Y, L, T)) := by
  refine z_ofW (E := E) (Qc := fun A => va_Qi (fun (r : Int32) (u : zU) => r = nI 1 ∧ u = (Y, L, T)) (zB D vwCl (zT K) A X) A) (cc := cJ0_isLatin1_aae02) (maxL := 1) (ret := (some .boolean)) (by decide +kernel) rfl (Nat.le_of_ble_eq_true rfl) ?_
  intro p e s m below meth c A ls hx hb hml hr hts hown hlocks hin hA hK hZ hS hE hl
  have hown : s.vm.findClass RJ0 = some m.cls := hown
  have hts : ∀ w ∈ WR, w.before [.ref th].toArray s = true := fun w h => hts w (List.mem_cons_of_mem _ h)
  have hl : lv_has ls 1 [(0, .ref th)] := hl
  obtain ⟨H, hH⟩ : ∃ H, H = s.heap := ⟨_, rfl⟩
  have hZ : zP D vwCl A X Y L T H := by rw [hH]; exact hZ
  obtain ⟨locs, hlc⟩ : ∃ q : List Loc, q = [] := ⟨_, rfl⟩
  have hS : va_S A s.heap H locs := by rw [hH, hlc]; exact hS
  suffices hW : W p l e ROOM_J0_isLatin1_aae02 s m [.ref th].toArray below meth c H locs 0 0 (MQ below (va_Qi (fun (r : Int32) (u : zU) => r = nI 1 ∧ u = (Y, L, T)) (zB D vwCl (zT K) A X) A) [.ref th].toArray s 0 0 A) (F0 m 0 ls []) by rw [hH, hlc] at hW; exact hW
  clear hH hlc
  refine z_gets (C := "java/lang/String") (n := "COMPACT_STRINGS") (d := "Z") (v := .int 1) hx hb hE (zSA_COMPACT_STRINGS hSA) hS hown (hts _ zw_985) dJ0_isLatin1_aae02_0 ?_
  refine lv_if_eq (tgt := 17) hx hb dJ0_isLatin1_aae02_3 (by decide) (fun c3 => absurd c3 (by decide +kernel)) (fun c3 => ?_)
  clear c3
  refine lv_aload_n hx hb dJ0_isLatin1_aae02_6 rfl (lv_at hl 0 rfl) ?_
  refine vk_getf hx hb (hE.2.2.2.1 _ h_th).2.1 hS hown (hts _ zw_986) (fun _ h9 => h9) dJ0_isLatin1_aae02_7 ?_
  refine lv_topi (fun x1 ex1 => ?_)
  obtain rfl : x1 = nI 0 := ex1.trans (by decide +kernel)
  refine lv_if_ne (tgt := 17) hx hb dJ0_isLatin1_aae02_10 (by decide) (fun c10 => absurd c10 (by decide +kernel)) (fun c10 => ?_)
  clear c10
  refine lv_iconst (v := nI 1) hx hb dJ0_isLatin1_aae02_13 (by decide +kernel) ?_
  refine lv_goto (tgt := 18) hx hb dJ0_isLatin1_aae02_14 (by decide) ?_
  exact z_iret hx hb hr (by decide +kernel) hlocks hK hZ hS ⟨(by first | rfl | decide +kernel | exact congrArg nI (by omega)), rfl⟩ (Nat.le_of_ble_eq_true rfl) (Nat.le_of_ble_eq_true rfl) dJ0_isLatin1_aae02_18
abbrev ROOM_J0_length_8abf5 : Room := { frames := 2, cells := 0, slots := 0, locals := 20 }
set_option maxHeartbeats 4000000 in
set_option maxRecDepth 100000 in
/-- String.length -/
theorem c_J0_length_8abf5 (E : zEn) (l : Launch) (D : va_G) (K : Nat → ClassId) (X Y : va_W) (L : List Nat) (T : Nat → va_E → Prop) {th v_th n_th : Nat}  (h_th : (th, v_th, n_th) ∈ E.2.2.2) (b_th : n_th < 2147483648) (hSA : zSA E) : zVi E l D vwCl (zT K) yJ0_length_8abf5 (zws yJ0_length_8abf5 cJ0_length_8abf5 1 (some .int)) ROOM_J0_length_8abf5 0 0 [.ref th] X Y L T (fun (r : Int32) (u : zU) => r = nI n_th ∧ u = (Y, L, T)) := by
  refine z_ofW (E := E) (Qc := fun A => va_Qi (fun (r : Int32) (u : zU) => r = nI n_th ∧ u = (Y, L, T)) (zB D vwCl (zT K) A X) A) (cc := cJ0_length_8abf5) (maxL := 1) (ret := (some .int)) (by decide +kernel) rfl (Nat.le_of_ble_eq_true rfl) ?_
  intro p e s m below meth c A ls hx hb hml hr hts hown hlocks hin hA hK hZ hS hE hl
  have hown : s.vm.findClass RJ0 = some m.cls := hown
  have hts : ∀ w ∈ WR, w.before [.ref th].toArray s = true := fun w h => hts w (List.mem_cons_of_mem _ h)
  have hl : lv_has ls 1 [(0, .ref th)] := hl
  obtain ⟨H, hH⟩ : ∃ H, H = s.heap := ⟨_, rfl⟩
  have hZ : zP D vwCl A X Y L T H := by rw [hH]; exact hZ
  obtain ⟨locs, hlc⟩ : ∃ q : List Loc, q = [] := ⟨_, rfl⟩
  have hS : va_S A s.heap H locs := by rw [hH, hlc]; exact hS
  suffices hW : W p l e ROOM_J0_length_8abf5 s m [.ref th].toArray below meth c H locs 0 0 (MQ below (va_Qi (fun (r : Int32) (u : zU) => r = nI n_th ∧ u = (Y, L, T)) (zB D vwCl (zT K) A X) A) [.ref th].toArray s 0 0 A) (F0 m 0 ls []) by rw [hH, hlc] at hW; exact hW
  clear hH hlc
  refine lv_aload_n hx hb dJ0_length_8abf5_0 rfl (lv_at hl 0 rfl) ?_
  refine vk_getf hx hb (hE.2.2.2.1 _ h_th).2.2.1 hS hown (hts _ zw_980) (fun _ h9 => h9) dJ0_length_8abf5_1 ?_
  obtain ⟨-, -, -, f9, h9⟩ := hE.2.2.2.1 _ h_th
  refine va_tlen hx hb h9 hS (v := nI n_th) rfl dJ0_length_8abf5_4 ?_
  refine lv_aload_n hx hb dJ0_length_8abf5_5 rfl (lv_at hl 0 rfl) ?_
  have rv1 : ∃ cell : Cell, H[th]? = some cell ∧ cell.vm.isStatics = false ∧ s.vm.findClass RJ0 = some cell.cls := z_recvS hE h_th hS
  refine z_goI (va_runV (As := []) (rest := [.int (nI n_th)]) ⟨hx, hb, hml, hown, hts⟩ ((c_J0_coder_7d493 E l D K X Y L T h_th (by omega) hSA) H.size) (cwV 0 hts (zg_V zw_981 zw_983 zw_984 zw_317 zw_982) rfl rfl rfl (by decide +kernel) ⟨Nat.le_of_ble_eq_true rfl, Nat.le_of_ble_eq_true rfl⟩) (z_preV hK hZ hS hA hE rv1) rfl rfl hl.1 rfl (lv_room (Nat.le_of_ble_eq_true rfl)) dJ0_length_8abf5_6 ⟨Nat.le_of_ble_eq_true rfl, Nat.le_of_ble_eq_true rfl⟩) hZ hS hA (fun x2 Y1 L1 T1 H locs hp hZ hS => ?_)
  obtain ⟨hres, hp⟩ := hp
  cases hp
  obtain rfl : x2 = nI 0 := hres
  refine lv_ishr hx hb dJ0_length_8abf5_9 ?_
  refine lv_topi (fun x3 ex3 => ?_)
  obtain rfl : x3 = nI (n_th / 1) := ex3.trans (pk_shrN (by omega) (nI 0 &&& 31) 0 (by decide +kernel))
  exact z_iret hx hb hr rfl hlocks hK hZ hS ⟨(by first | rfl | decide +kernel | exact congrArg nI (by omega)), rfl⟩ (Nat.le_of_ble_eq_true rfl) (Nat.le_of_ble_eq_true rfl) dJ0_length_8abf5_10
abbrev ROOM_J3_checkIndex_8e157 : Room := { frames := 1, cells := 0, slots := 0, locals := 0 }
set_option maxHeartbeats 4000000 in
set_option maxRecDepth 100000 in
/-- Preconditions.checkIndex -/
theorem c_J3_checkIndex_8e157 (E : zEn) (l : Launch) (D : va_G) (K : Nat → ClassId) (X Y : va_W) (L : List Nat) (T : Nat → va_E → Prop) {i : Nat} {n : Nat} {fm : Nat}  (b_i : i < 2147483648) (b_n : n < 2147483648) (hi : i < n) : zVi E l D vwCl (zT K) yJ3_checkIndex_8e157 (zws yJ3_checkIndex_8e157 cJ3_checkIndex_8e157 3 (some .int)) ROOM_J3_checkIndex_8e157 0 0 [.int (nI i), .int (nI n), .ref fm] X Y L T (fun (r : Int32) (u : zU) => r = nI i ∧ u = (Y, L, T)) := by
  refine z_ofW (E := E) (Qc := fun A => va_Qi (fun (r : Int32) (u : zU) => r = nI i ∧ u = (Y, L, T)) (zB D vwCl (zT K) A X) A) (cc := cJ3_checkIndex_8e157) (maxL := 3) (ret := (some .int)) (by decide +kernel) rfl (Nat.le_of_ble_eq_true rfl) ?_
  intro p e s m below meth c A ls hx hb hml hr hts hown hlocks hin hA hK hZ hS hE hl
  have hown : s.vm.findClass RJ3 = some m.cls := hown
  have hts : ∀ w ∈ WR, w.before [.int (nI i), .int (nI n), .ref fm].toArray s = true := fun w h => hts w (List.mem_cons_of_mem _ h)
  have hl : lv_has ls 3 [(0, .int (nI i)), (1, .int (nI n)), (2, .ref fm)] := hl
  obtain ⟨H, hH⟩ : ∃ H, H = s.heap := ⟨_, rfl⟩
  have hZ : zP D vwCl A X Y L T H := by rw [hH]; exact hZ
  obtain ⟨locs, hlc⟩ : ∃ q : List Loc, q = [] := ⟨_, rfl⟩
  have hS : va_S A s.heap H locs := by rw [hH, hlc]; exact hS
  suffices hW : W p l e ROOM_J3_checkIndex_8e157 s m [.int (nI i), .int (nI n), .ref fm].toArray below meth c H locs 0 0 (MQ below (va_Qi (fun (r : Int32) (u : zU) => r = nI i ∧ u = (Y, L, T)) (zB D vwCl (zT K) A X) A) [.int (nI i), .int (nI n), .ref fm].toArray s 0 0 A) (F0 m 0 ls []) by rw [hH, hlc] at hW; exact hW
  clear hH hlc
  refine lv_iload_n hx hb dJ3_checkIndex_8e157_0 rfl (lv_at hl 0 rfl) ?_
  refine lv_if_lt (tgt := 9) hx hb dJ3_checkIndex_8e157_1 (by decide) (fun c1 => ?_) (fun c1 => ?_)
  · exact absurd c1 (nI_pos (by omega))
  · have e1 : ¬ i < 0 := fun q => c1 ((nI_ltI (a := i) (b := 0) (by omega) (by omega)).mpr q)
    refine lv_iload_n hx hb dJ3_checkIndex_8e157_4 rfl (lv_at hl 0 rfl) ?_
    refine lv_iload_n hx hb dJ3_checkIndex_8e157_5 rfl (lv_at hl 1 rfl) ?_
    refine lv_icmp_lt (tgt := 16) hx hb dJ3_checkIndex_8e157_6 (by decide) (fun c6 => ?_) (fun c6 => (absurd ((nI_ltI (a := i) (b := n) (by omega) (by omega)).mpr (by omega)) c6))
    refine lv_iload_n hx hb dJ3_checkIndex_8e157_16 rfl (lv_at hl 0 rfl) ?_
    exact z_iret hx hb hr rfl hlocks hK hZ hS ⟨(by first | rfl | decide +kernel | exact congrArg nI (by omega)), rfl⟩ (Nat.le_of_ble_eq_true rfl) (Nat.le_of_ble_eq_true rfl) dJ3_checkIndex_8e157_17
abbrev ROOM_J3_checkIndex_8e157_null : Room := { frames := 1, cells := 0, slots := 0, locals := 0 }
set_option maxHeartbeats 4000000 in
set_option maxRecDepth 100000 in
/-- Preconditions.checkIndex, no formatter -/
theorem c_J3_checkIndex_8e157_null (E : zEn) (l : Launch) (D : va_G) (K : Nat → ClassId) (X Y : va_W) (L : List Nat) (T : Nat → va_E → Prop) {i : Nat} {n : Nat}  (b_i : i < 2147483648) (b_n : n < 2147483648) (hi : i < n) : zVi E l D vwCl (zT K) yJ3_checkIndex_8e157 (zws yJ3_checkIndex_8e157 cJ3_checkIndex_8e157 3 (some .int)) ROOM_J3_checkIndex_8e157_null 0 0 [.int (nI i), .int (nI n), .null] X Y L T (fun (r : Int32) (u : zU) => r = nI i ∧ u = (Y, L, T)) := by
  refine z_ofW (E := E) (Qc := fun A => va_Qi (fun (r : Int32) (u : zU) => r = nI i ∧ u = (Y, L, T)) (zB D vwCl (zT K) A X) A) (cc := cJ3_checkIndex_8e157) (maxL := 3) (ret := (some .int)) (by decide +kernel) rfl (Nat.le_of_ble_eq_true rfl) ?_
  intro p e s m below meth c A ls hx hb hml hr hts hown hlocks hin hA hK hZ hS hE hl
  have hown : s.vm.findClass RJ3 = some m.cls := hown
  have hts : ∀ w ∈ WR, w.before [.int (nI i), .int (nI n), .null].toArray s = true := fun w h => hts w (List.mem_cons_of_mem _ h)
  have hl : lv_has ls 3 [(0, .int (nI i)), (1, .int (nI n)), (2, .null)] := hl
  obtain ⟨H, hH⟩ : ∃ H, H = s.heap := ⟨_, rfl⟩
  have hZ : zP D vwCl A X Y L T H := by rw [hH]; exact hZ
  obtain ⟨locs, hlc⟩ : ∃ q : List Loc, q = [] := ⟨_, rfl⟩
  have hS : va_S A s.heap H locs := by rw [hH, hlc]; exact hS
  suffices hW : W p l e ROOM_J3_checkIndex_8e157_null s m [.int (nI i), .int (nI n), .null].toArray below meth c H locs 0 0 (MQ below (va_Qi (fun (r : Int32) (u : zU) => r = nI i ∧ u = (Y, L, T)) (zB D vwCl (zT K) A X) A) [.int (nI i), .int (nI n), .null].toArray s 0 0 A) (F0 m 0 ls []) by rw [hH, hlc] at hW; exact hW
  clear hH hlc
  refine lv_iload_n hx hb dJ3_checkIndex_8e157_0 rfl (lv_at hl 0 rfl) ?_
  refine lv_if_lt (tgt := 9) hx hb dJ3_checkIndex_8e157_1 (by decide) (fun c1 => ?_) (fun c1 => ?_)
  · exact absurd c1 (nI_pos (by omega))
  · have e1 : ¬ i < 0 := fun q => c1 ((nI_ltI (a := i) (b := 0) (by omega) (by omega)).mpr q)
    refine lv_iload_n hx hb dJ3_checkIndex_8e157_4 rfl (lv_at hl 0 rfl) ?_
    refine lv_iload_n hx hb dJ3_checkIndex_8e157_5 rfl (lv_at hl 1 rfl) ?_
    refine lv_icmp_lt (tgt := 16) hx hb dJ3_checkIndex_8e157_6 (by decide) (fun c6 => ?_) (fun c6 => (absurd ((nI_ltI (a := i) (b := n) (by omega) (by omega)).mpr (by omega)) c6))
    refine lv_iload_n hx hb dJ3_checkIndex_8e157_16 rfl (lv_at hl 0 rfl) ?_
    exact z_iret hx hb hr rfl hlocks hK hZ hS ⟨(by first | rfl | decide +kernel | exact congrArg nI (by omega)), rfl⟩ (Nat.le_of_ble_eq_true rfl) (Nat.le_of_ble_eq_true rfl) dJ3_checkIndex_8e157_17
abbrev ROOM_J0_checkIndex_df160 : Room := { frames := 2, cells := 0, slots := 0, locals := 22 }
set_option maxHeartbeats 4000000 in
set_option maxRecDepth 100000 in
/-- String.checkIndex -/
theorem c_J0_checkIndex_df160 (E : zEn) (l : Launch) (D : va_G) (K : Nat → ClassId) (X Y : va_W) (L : List Nat) (T : Nat → va_E → Prop) {i : Nat} {n : Nat}  (b_i : i < 2147483648) (b_n : n < 2147483648) (hi : i < n) (hSA : zSA E) : zV E l D vwCl (zT K) yJ0_checkIndex_df160 (zws yJ0_checkIndex_df160 cJ0_checkIndex_df160 2 none) ROOM_J0_checkIndex_df160 0 0 [.int (nI i), .int (nI n)] X Y L T (zSame Y L T) := by
  refine z_ofW (E := E) (Qc := fun A => va_Qv (zSame Y L T) (zB D vwCl (zT K) A X) A) (cc := cJ0_checkIndex_df160) (maxL := 2) (ret := none) (by decide +kernel) rfl (Nat.le_of_ble_eq_true rfl) ?_
  intro p e s m below meth c A ls hx hb hml hr hts hown hlocks hin hA hK hZ hS hE hl
  have hown : s.vm.findClass RJ0 = some m.cls := hown
  have hts : ∀ w ∈ WR, w.before [.int (nI i), .int (nI n)].toArray s = true := fun w h => hts w (List.mem_cons_of_mem _ h)
  have hl : lv_has ls 2 [(0, .int (nI i)), (1, .int (nI n))] := hl
  obtain ⟨H, hH⟩ : ∃ H, H = s.heap := ⟨_, rfl⟩
  have hZ : zP D vwCl A X Y L T H := by rw [hH]; exact hZ
  obtain ⟨locs, hlc⟩ : ∃ q : List Loc, q = [] := ⟨_, rfl⟩
  have hS : va_S A s.heap H locs := by rw [hH, hlc]; exact hS
  suffices hW : W p l e ROOM_J0_checkIndex_df160 s m [.int (nI i), .int (nI n)].toArray below meth c H locs 0 0 (MQ below (va_Qv (zSame Y L T) (zB D vwCl (zT K) A X) A) [.int (nI i), .int (nI n)].toArray s 0 0 A) (F0 m 0 ls []) by rw [hH, hlc] at hW; exact hW
  clear hH hlc
  refine lv_iload_n hx hb dJ0_checkIndex_df160_0 rfl (lv_at hl 0 rfl) ?_
  refine lv_iload_n hx hb dJ0_checkIndex_df160_1 rfl (lv_at hl 1 rfl) ?_
  rcases zSA_SIOOBE_FORMATTER hSA with z_t1 | ⟨t1, z_t1⟩
  · refine z_gets (C := "jdk/internal/util/Preconditions") (n := "SIOOBE_FORMATTER") (d := "Ljava/util/function/BiFunction;") (v := .null) hx hb hE z_t1 hS hown (hts _ zw_999) dJ0_checkIndex_df160_2 ?_
    refine z_goI (va_runS (As := [.int (nI i), .int (nI n), .null]) (rest := []) ⟨hx, hb, hml, hown, hts⟩ ((c_J3_checkIndex_8e157_null E l D K X Y L T (by omega) (by omega) (by omega)) H.size) (va_cwS 3 hts (zg_S zw_1000 zw_1002 zw_1003 zw_1001) rfl rfl rfl (by decide +kernel) ⟨Nat.le_of_ble_eq_true rfl, Nat.le_of_ble_eq_true rfl⟩) (z_preS hK hZ hS hA hE) rfl rfl hl.1 rfl (lv_room (Nat.le_of_ble_eq_true rfl)) dJ0_checkIndex_df160_5 ⟨Nat.le_of_ble_eq_true rfl, Nat.le_of_ble_eq_true rfl⟩) hZ hS hA (fun x2 Y1 L1 T1 H locs hp hZ hS => ?_)
    obtain ⟨hres, hp⟩ := hp
    cases hp
    obtain rfl : x2 = nI i := hres
    refine lv_pop hx hb dJ0_checkIndex_df160_8 rfl ?_
    exact z_vret hx hb hr hlocks hK hZ hS rfl (Nat.le_of_ble_eq_true rfl) (Nat.le_of_ble_eq_true rfl) dJ0_checkIndex_df160_9
  · refine z_gets (C := "jdk/internal/util/Preconditions") (n := "SIOOBE_FORMATTER") (d := "Ljava/util/function/BiFunction;") (v := .ref t1) hx hb hE z_t1 hS hown (hts _ zw_999) dJ0_checkIndex_df160_2 ?_
    refine z_goI (va_runS (As := [.int (nI i), .int (nI n), .ref t1]) (rest := []) ⟨hx, hb, hml, hown, hts⟩ ((c_J3_checkIndex_8e157 E l D K X Y L T (by omega) (by omega) (by omega)) H.size) (va_cwS 3 hts (zg_S zw_1000 zw_1002 zw_1003 zw_1001) rfl rfl rfl (by decide +kernel) ⟨Nat.le_of_ble_eq_true rfl, Nat.le_of_ble_eq_true rfl⟩) (z_preS hK hZ hS hA hE) rfl rfl hl.1 rfl (lv_room (Nat.le_of_ble_eq_true rfl)) dJ0_checkIndex_df160_5 ⟨Nat.le_of_ble_eq_true rfl, Nat.le_of_ble_eq_true rfl⟩) hZ hS hA (fun x3 Y1 L1 T1 H locs hp hZ hS => ?_)
    obtain ⟨hres, hp⟩ := hp
    cases hp
    obtain rfl : x3 = nI i := hres
    refine lv_pop hx hb dJ0_checkIndex_df160_8 rfl ?_
    exact z_vret hx hb hr hlocks hK hZ hS rfl (Nat.le_of_ble_eq_true rfl) (Nat.le_of_ble_eq_true rfl) dJ0_checkIndex_df160_9
abbrev ROOM_J1_charAt_3b067 : Room := { frames := 3, cells := 0, slots := 0, locals := 43 }
set_option maxHeartbeats 4000000 in
set_option maxRecDepth 100000 in
/-- StringLatin1.charAt -/
theorem c_J1_charAt_3b067 (E : zEn) (l : Launch) (D : va_G) (K : Nat → ClassId) (X Y : va_W) (L : List Nat) (T : Nat → va_E → Prop) {a s_a n_a : Nat} {i : Nat}  (h_a : (s_a, a, n_a) ∈ E.2.2.2) (b_a : n_a < 2147483648) (b_i : i < 2147483648) (hi : i < n_a) (hSA : zSA E) : zVi E l D vwCl (zT K) yJ1_charAt_3b067 (zws yJ1_charAt_3b067 cJ1_charAt_3b067 2 (some .char)) ROOM_J1_charAt_3b067 0 0 [.ref a, .int (nI i)] X Y L T (fun (r : Int32) (u : zU) => (∃ j : Nat, j < 256 ∧ r = nI j) ∧ u = (Y, L, T)) := by
  refine z_ofW (E := E) (Qc := fun A => va_Qi (fun (r : Int32) (u : zU) => (∃ j : Nat, j < 256 ∧ r = nI j) ∧ u = (Y, L, T)) (zB D vwCl (zT K) A X) A) (cc := cJ1_charAt_3b067) (maxL := 2) (ret := (some .char)) (by decide +kernel) rfl (Nat.le_of_ble_eq_true rfl) ?_
  intro p e s m below meth c A ls hx hb hml hr hts hown hlocks hin hA hK hZ hS hE hl
  have hown : s.vm.findClass RJ1 = some m.cls := hown
  have hts : ∀ w ∈ WR, w.before [.ref a, .int (nI i)].toArray s = true := fun w h => hts w (List.mem_cons_of_mem _ h)
  have hl : lv_has ls 2 [(0, .ref a), (1, .int (nI i))] := hl
  obtain ⟨H, hH⟩ : ∃ H, H = s.heap := ⟨_, rfl⟩
  have hZ : zP D vwCl A X Y L T H := by rw [hH]; exact hZ
  obtain ⟨locs, hlc⟩ : ∃ q : List Loc, q = [] := ⟨_, rfl⟩
  have hS : va_S A s.heap H locs := by rw [hH, hlc]; exact hS
  suffices hW : W p l e ROOM_J1_charAt_3b067 s m [.ref a, .int (nI i)].toArray below meth c H locs 0 0 (MQ below (va_Qi (fun (r : Int32) (u : zU) => (∃ j : Nat, j < 256 ∧ r = nI j) ∧ u = (Y, L, T)) (zB D vwCl (zT K) A X) A) [.ref a, .int (nI i)].toArray s 0 0 A) (F0 m 0 ls []) by rw [hH, hlc] at hW; exact hW
  clear hH hlc
  refine lv_iload_n hx hb dJ1_charAt_3b067_0 rfl (lv_at hl 1 rfl) ?_
  refine lv_aload_n hx hb dJ1_charAt_3b067_1 rfl (lv_at hl 0 rfl) ?_
  obtain ⟨-, -, -, f9, h9⟩ := hE.2.2.2.1 _ h_a
  refine va_tlen hx hb h9 hS (v := nI n_a) rfl dJ1_charAt_3b067_2 ?_
  refine z_goV (va_runS (As := [.int (nI i), .int (nI n_a)]) (rest := []) ⟨hx, hb, hml, hown, hts⟩ ((c_J0_checkIndex_df160 E l D K X Y L T (by omega) (by omega) (by omega) hSA) H.size) (va_cwS 2 hts (zg_S zw_996 zw_998 zw_317 zw_997) rfl rfl rfl (by decide +kernel) ⟨Nat.le_of_ble_eq_true rfl, Nat.le_of_ble_eq_true rfl⟩) (z_preS hK hZ hS hA hE) rfl rfl hl.1 rfl (lv_room (Nat.le_of_ble_eq_true rfl)) dJ1_charAt_3b067_3 ⟨Nat.le_of_ble_eq_true rfl, Nat.le_of_ble_eq_true rfl⟩) hZ hS hA (fun  Y1 L1 T1 H locs hp hZ hS => ?_)
  cases hp
  refine lv_aload_n hx hb dJ1_charAt_3b067_6 rfl (lv_at hl 0 rfl) ?_
  refine lv_iload_n hx hb dJ1_charAt_3b067_7 rfl (lv_at hl 1 rfl) ?_
  refine z_tb hx hb (hE.2.2.2.1 _ h_a).2.2.2 hS (vp_in_nI (by omega) (by omega)) dJ1_charAt_3b067_8 (fun x1 => ?_)
  refine lv_sipush (v := nI 255) hx hb dJ1_charAt_3b067_9 (by decide +kernel) ?_
  refine lv_iand hx hb dJ1_charAt_3b067_12 ?_
  refine lv_topi (fun x2 ex2 => ?_)
  obtain ⟨jx2, bx2, rfl⟩ : ∃ j : Nat, j < 256 ∧ x2 = nI j := by obtain ⟨j, h1, h2⟩ := pk_andE x1 (m := nI 255) 8 (by decide +kernel); exact ⟨j, h1, ex2.trans h2⟩
  refine lv_i2c (v := nI jx2) hx hb dJ1_charAt_3b067_13 (zn_i2c _ (by omega)) ?_
  exact z_iret hx hb hr (zn_char _ (by omega)) hlocks hK hZ hS ⟨⟨_, (by omega), rfl⟩, rfl⟩ (Nat.le_of_ble_eq_true rfl) (Nat.le_of_ble_eq_true rfl) dJ1_charAt_3b067_14
abbrev ROOM_J0_charAt_5068e : Room := { frames := 4, cells := 0, slots := 0, locals := 64 }
set_option maxHeartbeats 4000000 in
set_option maxRecDepth 100000 in
/-- String.charAt -/
theorem c_J0_charAt_5068e (E : zEn) (l : Launch) (D : va_G) (K : Nat → ClassId) (X Y : va_W) (L : List Nat) (T : Nat → va_E → Prop) {th v_th n_th : Nat} {i : Nat}  (h_th : (th, v_th, n_th) ∈ E.2.2.2) (b_th : n_th < 2147483648) (b_i : i < 2147483648) (hi : i < n_th) (hSA : zSA E) : zVi E l D vwCl (zT K) yJ0_charAt_5068e (zws yJ0_charAt_5068e cJ0_charAt_5068e 2 (some .char)) ROOM_J0_charAt_5068e 0 0 [.ref th, .int (nI i)] X Y L T (fun (r : Int32) (u : zU) => (∃ j : Nat, j < 256 ∧ r = nI j) ∧ u = (Y, L, T)) := by
  refine z_ofW (E := E) (Qc := fun A => va_Qi (fun (r : Int32) (u : zU) => (∃ j : Nat, j < 256 ∧ r = nI j) ∧ u = (Y, L, T)) (zB D vwCl (zT K) A X) A) (cc := cJ0_charAt_5068e) (maxL := 2) (ret := (some .char)) (by decide +kernel) rfl (Nat.le_of_ble_eq_true rfl) ?_
  intro p e s m below meth c A ls hx hb hml hr hts hown hlocks hin hA hK hZ hS hE hl
  have hown : s.vm.findClass RJ0 = some m.cls := hown
  have hts : ∀ w ∈ WR, w.before [.ref th, .int (nI i)].toArray s = true := fun w h => hts w (List.mem_cons_of_mem _ h)
  have hl : lv_has ls 2 [(0, .ref th), (1, .int (nI i))] := hl
  obtain ⟨H, hH⟩ : ∃ H, H = s.heap := ⟨_, rfl⟩
  have hZ : zP D vwCl A X Y L T H := by rw [hH]; exact hZ
  obtain ⟨locs, hlc⟩ : ∃ q : List Loc, q = [] := ⟨_, rfl⟩
  have hS : va_S A s.heap H locs := by rw [hH, hlc]; exact hS
  suffices hW : W p l e ROOM_J0_charAt_5068e s m [.ref th, .int (nI i)].toArray below meth c H locs 0 0 (MQ below (va_Qi (fun (r : Int32) (u : zU) => (∃ j : Nat, j < 256 ∧ r = nI j) ∧ u = (Y, L, T)) (zB D vwCl (zT K) A X) A) [.ref th, .int (nI i)].toArray s 0 0 A) (F0 m 0 ls []) by rw [hH, hlc] at hW; exact hW
  clear hH hlc
  refine lv_aload_n hx hb dJ0_charAt_5068e_0 rfl (lv_at hl 0 rfl) ?_
  have rv1 : ∃ cell : Cell, H[th]? = some cell ∧ cell.vm.isStatics = false ∧ s.vm.findClass RJ0 = some cell.cls := z_recvS hE h_th hS
  refine z_goI (va_runV (As := []) (rest := []) ⟨hx, hb, hml, hown, hts⟩ ((c_J0_isLatin1_aae02 E l D K X Y L T h_th (by omega) hSA) H.size) (cwV 0 hts (zg_V zw_987 zw_989 zw_990 zw_317 zw_988) rfl rfl rfl (by decide +kernel) ⟨Nat.le_of_ble_eq_true rfl, Nat.le_of_ble_eq_true rfl⟩) (z_preV hK hZ hS hA hE rv1) rfl rfl hl.1 rfl (lv_room (Nat.le_of_ble_eq_true rfl)) dJ0_charAt_5068e_1 ⟨Nat.le_of_ble_eq_true rfl, Nat.le_of_ble_eq_true rfl⟩) hZ hS hA (fun x2 Y1 L1 T1 H locs hp hZ hS => ?_)
  obtain ⟨hres, hp⟩ := hp
  cases hp
  obtain rfl : x2 = nI 1 := hres
  refine lv_if_eq (tgt := 16) hx hb dJ0_charAt_5068e_4 (by decide) (fun c4 => absurd c4 (by decide +kernel)) (fun c4 => ?_)
  clear c4
  refine lv_aload_n hx hb dJ0_charAt_5068e_7 rfl (lv_at hl 0 rfl) ?_
  refine vk_getf hx hb (hE.2.2.2.1 _ h_th).2.2.1 hS hown (hts _ zw_980) (fun _ h9 => h9) dJ0_charAt_5068e_8 ?_
  refine lv_iload_n hx hb dJ0_charAt_5068e_11 rfl (lv_at hl 1 rfl) ?_
  refine z_goI (va_runS (As := [.ref v_th, .int (nI i)]) (rest := []) ⟨hx, hb, hml, hown, hts⟩ ((c_J1_charAt_3b067 E l D K X Y L T h_th (by omega) (by omega) (by omega) hSA) H.size) (va_cwS 2 hts (zg_S zw_991 zw_993 zw_994 zw_992) rfl rfl rfl (by decide +kernel) ⟨Nat.le_of_ble_eq_true rfl, Nat.le_of_ble_eq_true rfl⟩) (z_preS hK hZ hS hA hE) rfl rfl hl.1 rfl (lv_room (Nat.le_of_ble_eq_true rfl)) dJ0_charAt_5068e_12 ⟨Nat.le_of_ble_eq_true rfl, Nat.le_of_ble_eq_true rfl⟩) hZ hS hA (fun x3 Y1 L1 T1 H locs hp hZ hS => ?_)
  obtain ⟨hrespx3, hp⟩ := hp
  cases hp
  obtain ⟨j_x3, b_x3, rfl⟩ := hrespx3
  exact z_iret hx hb hr (zn_char _ (by omega)) hlocks hK hZ hS ⟨⟨_, (by omega), rfl⟩, rfl⟩ (Nat.le_of_ble_eq_true rfl) (Nat.le_of_ble_eq_true rfl) dJ0_charAt_5068e_15
abbrev ROOM_X1_init_r8 : Room := { frames := 2, cells := 1, slots := 8, locals := 40 }
set_option maxHeartbeats 4000000 in
set_option maxRecDepth 100000 in
/-- Bytes(8) -/
theorem c_X1_init_r8 (E : zEn) (l : Launch) (D : va_G) (K : Nat → ClassId) (X : va_W) (L : List Nat) (T : Nat → va_E → Prop) {th : Nat}    : zV E l D vwCl (zT K) yX1_init (zws yX1_init cX1_init 2 none) ROOM_X1_init_r8 1 8 [.ref th, .int (nI 8)] X [(th, .inr (3, [.null, .int (nI 0), .int (nI 0), .int (nI 0), .int (nI 0), .int (nI 0)]))] L T (fun (u : zU) => ∃ (d : Nat), u = ([(th, .inr (3, [.ref d, .int (nI 0), .int (nI 0), .int (nI 0), .int (nI 0), .int (nI 0)])), (d, .inl (K 2, 8, .inl (fun _ => 0)))], L, T)) := by
  refine z_ofW (E := E) (Qc := fun A => va_Qv (fun (u : zU) => ∃ (d : Nat), u = ([(th, .inr (3, [.ref d, .int (nI 0), .int (nI 0), .int (nI 0), .int (nI 0), .int (nI 0)])), (d, .inl (K 2, 8, .inl (fun _ => 0)))], L, T)) (zB D vwCl (zT K) A X) A) (cc := cX1_init) (maxL := 2) (ret := none) (by decide +kernel) rfl (Nat.le_of_ble_eq_true rfl) ?_
  intro p e s m below meth c A ls hx hb hml hr hts hown hlocks hin hA hK hZ hS hE hl
  have hown : s.vm.findClass RX1 = some m.cls := hown
  have hts : ∀ w ∈ WR, w.before [.ref th, .int (nI 8)].toArray s = true := fun w h => hts w (List.mem_cons_of_mem _ h)
  have hl : lv_has ls 2 [(0, .ref th), (1, .int (nI 8))] := hl
  obtain ⟨H, hH⟩ : ∃ H, H = s.heap := ⟨_, rfl⟩
  have hZ : zP D vwCl A X [(th, .inr (3, [.null, .int (nI 0), .int (nI 0), .int (nI 0), .int (nI 0), .int (nI 0)]))] L T H := by rw [hH]; exact hZ
  obtain ⟨locs, hlc⟩ : ∃ q : List Loc, q = [] := ⟨_, rfl⟩
  have hS : va_S A s.heap H locs := by rw [hH, hlc]; exact hS
  suffices hW : W p l e ROOM_X1_init_r8 s m [.ref th, .int (nI 8)].toArray below meth c H locs 0 0 (MQ below (va_Qv (fun (u : zU) => ∃ (d : Nat), u = ([(th, .inr (3, [.ref d, .int (nI 0), .int (nI 0), .int (nI 0), .int (nI 0), .int (nI 0)])), (d, .inl (K 2, 8, .inl (fun _ => 0)))], L, T)) (zB D vwCl (zT K) A X) A) [.ref th, .int (nI 8)].toArray s 1 8 A) (F0 m 0 ls []) by rw [hH, hlc] at hW; exact hW
  clear hH hlc
  refine lv_aload_n hx hb dX1_init_0 rfl (lv_at hl 0 rfl) ?_
  refine W.objInit hx hb hown (hts _ zw_489) (hts _ zw_4) (hts _ zw_5) rfl (by rw [hml]; exact hl.1) rfl dX1_init_1 (Nat.le_of_ble_eq_true rfl) (Nat.le_of_ble_eq_true rfl) ?_
  refine lv_aload_n hx hb dX1_init_4 rfl (lv_at hl 0 rfl) ?_
  refine lv_iload_n hx hb dX1_init_5 rfl (lv_at hl 1 rfl) ?_
  refine lv_iconst (v := nI 1) hx hb dX1_init_6 (by decide +kernel) ?_
  refine va_mmax hx hb (by rw [hml]; exact hl.1.symm) hown (hts _ zw_490) (hts _ zw_491) (hts _ zw_373) (hts _ zw_492) (Nat.le_of_ble_eq_true rfl) (Nat.le_of_ble_eq_true rfl) (Nat.le_of_ble_eq_true rfl) (Nat.le_of_ble_eq_true rfl) dX1_init_7 ?_
  refine lv_topi (fun x1 ex1 => ?_)
  obtain rfl : x1 = nI 8 := ex1.trans (by decide +kernel)
  refine z_newB hx hb (hts _ zw_63) hK hZ hS hA 2 rfl (n := nI 8) (N := 8) (nI_pos (Nat.le_of_ble_eq_true rfl)) (nI_clamp (Nat.le_of_ble_eq_true rfl)) (Nat.le_of_ble_eq_true rfl) (Nat.le_of_ble_eq_true rfl) (Nat.le_of_ble_eq_true rfl) dX1_init_10 (fun q2 H hZ hS => ?_)
  have hZ : zP D vwCl A X [(th, .inr (3, [.null, .int (nI 0), .int (nI 0), .int (nI 0), .int (nI 0), .int (nI 0)])), (q2, .inl (K 2, 8, .inl (fun _ => 0)))] L T H := hZ
  refine z_put (own := RX1) (C := RX1) (TT := TX1) (N := 6) (ci := 3) (Ts := WR) (v := .ref q2) (ty := (.array .byte)) hx hb hts zin_wsX10 tyX1 tyX1_ok nmX1 hown hK hZ hS 0 rfl rfl 0 (by decide) (hts _ zw_493) (fun _ h9 => h9) rfl (by decide +kernel) rfl rfl (Nat.le_of_ble_eq_true rfl) dX1_init_12 (fun H locs hZ hS => ?_)
  have hZ : zP D vwCl A X [(th, .inr (3, [.ref q2, .int (nI 0), .int (nI 0), .int (nI 0), .int (nI 0), .int (nI 0)])), (q2, .inl (K 2, 8, .inl (fun _ => 0)))] L T H := hZ
  exact z_vret hx hb hr hlocks hK hZ hS ⟨q2, rfl⟩ (Nat.le_of_ble_eq_true rfl) (Nat.le_of_ble_eq_true rfl) dX1_init_15
abbrev ROOM_X1_init_r16 : Room := { frames := 2, cells := 1, slots := 16, locals := 40 }
set_option maxHeartbeats 4000000 in
set_option maxRecDepth 100000 in
/-- Bytes(16) -/
theorem c_X1_init_r16 (E : zEn) (l : Launch) (D : va_G) (K : Nat → ClassId) (X : va_W) (L : List Nat) (T : Nat → va_E → Prop) {th : Nat}    : zV E l D vwCl (zT K) yX1_init (zws yX1_init cX1_init 2 none) ROOM_X1_init_r16 1 16 [.ref th, .int (nI 16)] X [(th, .inr (3, [.null, .int (nI 0), .int (nI 0), .int (nI 0), .int (nI 0), .int (nI 0)]))] L T (fun (u : zU) => ∃ (d : Nat), u = ([(th, .inr (3, [.ref d, .int (nI 0), .int (nI 0), .int (nI 0), .int (nI 0), .int (nI 0)])), (d, .inl (K 2, 16, .inl (fun _ => 0)))], L, T)) := by
  refine z_ofW (E := E) (Qc := fun A => va_Qv (fun (u : zU) => ∃ (d : Nat), u = ([(th, .inr (3, [.ref d, .int (nI 0), .int (nI 0), .int (nI 0), .int (nI 0), .int (nI 0)])), (d, .inl (K 2, 16, .inl (fun _ => 0)))], L, T)) (zB D vwCl (zT K) A X) A) (cc := cX1_init) (maxL := 2) (ret := none) (by decide +kernel) rfl (Nat.le_of_ble_eq_true rfl) ?_
  intro p e s m below meth c A ls hx hb hml hr hts hown hlocks hin hA hK hZ hS hE hl
  have hown : s.vm.findClass RX1 = some m.cls := hown
  have hts : ∀ w ∈ WR, w.before [.ref th, .int (nI 16)].toArray s = true := fun w h => hts w (List.mem_cons_of_mem _ h)
  have hl : lv_has ls 2 [(0, .ref th), (1, .int (nI 16))] := hl
  obtain ⟨H, hH⟩ : ∃ H, H = s.heap := ⟨_, rfl⟩
  have hZ : zP D vwCl A X [(th, .inr (3, [.null, .int (nI 0), .int (nI 0), .int (nI 0), .int (nI 0), .int (nI 0)]))] L T H := by rw [hH]; exact hZ
  obtain ⟨locs, hlc⟩ : ∃ q : List Loc, q = [] := ⟨_, rfl⟩
  have hS : va_S A s.heap H locs := by rw [hH, hlc]; exact hS
  suffices hW : W p l e ROOM_X1_init_r16 s m [.ref th, .int (nI 16)].toArray below meth c H locs 0 0 (MQ below (va_Qv (fun (u : zU) => ∃ (d : Nat), u = ([(th, .inr (3, [.ref d, .int (nI 0), .int (nI 0), .int (nI 0), .int (nI 0), .int (nI 0)])), (d, .inl (K 2, 16, .inl (fun _ => 0)))], L, T)) (zB D vwCl (zT K) A X) A) [.ref th, .int (nI 16)].toArray s 1 16 A) (F0 m 0 ls []) by rw [hH, hlc] at hW; exact hW
  clear hH hlc
  refine lv_aload_n hx hb dX1_init_0 rfl (lv_at hl 0 rfl) ?_
  refine W.objInit hx hb hown (hts _ zw_489) (hts _ zw_4) (hts _ zw_5) rfl (by rw [hml]; exact hl.1) rfl dX1_init_1 (Nat.le_of_ble_eq_true rfl) (Nat.le_of_ble_eq_true rfl) ?_
  refine lv_aload_n hx hb dX1_init_4 rfl (lv_at hl 0 rfl) ?_
  refine lv_iload_n hx hb dX1_init_5 rfl (lv_at hl 1 rfl) ?_
  refine lv_iconst (v := nI 1) hx hb dX1_init_6 (by decide +kernel) ?_
  refine va_mmax hx hb (by rw [hml]; exact hl.1.symm) hown (hts _ zw_490) (hts _ zw_491) (hts _ zw_373) (hts _ zw_492) (Nat.le_of_ble_eq_true rfl) (Nat.le_of_ble_eq_true rfl) (Nat.le_of_ble_eq_true rfl) (Nat.le_of_ble_eq_true rfl) dX1_init_7 ?_
  refine lv_topi (fun x1 ex1 => ?_)
  obtain rfl : x1 = nI 16 := ex1.trans (by decide +kernel)
  refine z_newB hx hb (hts _ zw_63) hK hZ hS hA 2 rfl (n := nI 16) (N := 16) (nI_pos (Nat.le_of_ble_eq_true rfl)) (nI_clamp (Nat.le_of_ble_eq_true rfl)) (Nat.le_of_ble_eq_true rfl) (Nat.le_of_ble_eq_true rfl) (Nat.le_of_ble_eq_true rfl) dX1_init_10 (fun q2 H hZ hS => ?_)
  have hZ : zP D vwCl A X [(th, .inr (3, [.null, .int (nI 0), .int (nI 0), .int (nI 0), .int (nI 0), .int (nI 0)])), (q2, .inl (K 2, 16, .inl (fun _ => 0)))] L T H := hZ
  refine z_put (own := RX1) (C := RX1) (TT := TX1) (N := 6) (ci := 3) (Ts := WR) (v := .ref q2) (ty := (.array .byte)) hx hb hts zin_wsX10 tyX1 tyX1_ok nmX1 hown hK hZ hS 0 rfl rfl 0 (by decide) (hts _ zw_493) (fun _ h9 => h9) rfl (by decide +kernel) rfl rfl (Nat.le_of_ble_eq_true rfl) dX1_init_12 (fun H locs hZ hS => ?_)
  have hZ : zP D vwCl A X [(th, .inr (3, [.ref q2, .int (nI 0), .int (nI 0), .int (nI 0), .int (nI 0), .int (nI 0)])), (q2, .inl (K 2, 16, .inl (fun _ => 0)))] L T H := hZ
  exact z_vret hx hb hr hlocks hK hZ hS ⟨q2, rfl⟩ (Nat.le_of_ble_eq_true rfl) (Nat.le_of_ble_eq_true rfl) dX1_init_15
abbrev ROOM_X1_init_r32 : Room := { frames := 2, cells := 1, slots := 32, locals := 40 }
set_option maxHeartbeats 4000000 in
set_option maxRecDepth 100000 in
/-- Bytes(32) -/
theorem c_X1_init_r32 (E : zEn) (l : Launch) (D : va_G) (K : Nat → ClassId) (X : va_W) (L : List Nat) (T : Nat → va_E → Prop) {th : Nat}    : zV E l D vwCl (zT K) yX1_init (zws yX1_init cX1_init 2 none) ROOM_X1_init_r32 1 32 [.ref th, .int (nI 32)] X [(th, .inr (3, [.null, .int (nI 0), .int (nI 0), .int (nI 0), .int (nI 0), .int (nI 0)]))] L T (fun (u : zU) => ∃ (d : Nat), u = ([(th, .inr (3, [.ref d, .int (nI 0), .int (nI 0), .int (nI 0), .int (nI 0), .int (nI 0)])), (d, .inl (K 2, 32, .inl (fun _ => 0)))], L, T)) := by
  refine z_ofW (E := E) (Qc := fun A => va_Qv (fun (u : zU) => ∃ (d : Nat), u = ([(th, .inr (3, [.ref d, .int (nI 0), .int (nI 0), .int (nI 0), .int (nI 0), .int (nI 0)])), (d, .inl (K 2, 32, .inl (fun _ => 0)))], L, T)) (zB D vwCl (zT K) A X) A) (cc := cX1_init) (maxL := 2) (ret := none) (by decide +kernel) rfl (Nat.le_of_ble_eq_true rfl) ?_
  intro p e s m below meth c A ls hx hb hml hr hts hown hlocks hin hA hK hZ hS hE hl
  have hown : s.vm.findClass RX1 = some m.cls := hown
  have hts : ∀ w ∈ WR, w.before [.ref th, .int (nI 32)].toArray s = true := fun w h => hts w (List.mem_cons_of_mem _ h)
  have hl : lv_has ls 2 [(0, .ref th), (1, .int (nI 32))] := hl
  obtain ⟨H, hH⟩ : ∃ H, H = s.heap := ⟨_, rfl⟩
  have hZ : zP D vwCl A X [(th, .inr (3, [.null, .int (nI 0), .int (nI 0), .int (nI 0), .int (nI 0), .int (nI 0)]))] L T H := by rw [hH]; exact hZ
  obtain ⟨locs, hlc⟩ : ∃ q : List Loc, q = [] := ⟨_, rfl⟩
  have hS : va_S A s.heap H locs := by rw [hH, hlc]; exact hS
  suffices hW : W p l e ROOM_X1_init_r32 s m [.ref th, .int (nI 32)].toArray below meth c H locs 0 0 (MQ below (va_Qv (fun (u : zU) => ∃ (d : Nat), u = ([(th, .inr (3, [.ref d, .int (nI 0), .int (nI 0), .int (nI 0), .int (nI 0), .int (nI 0)])), (d, .inl (K 2, 32, .inl (fun _ => 0)))], L, T)) (zB D vwCl (zT K) A X) A) [.ref th, .int (nI 32)].toArray s 1 32 A) (F0 m 0 ls []) by rw [hH, hlc] at hW; exact hW
  clear hH hlc
  refine lv_aload_n hx hb dX1_init_0 rfl (lv_at hl 0 rfl) ?_
  refine W.objInit hx hb hown (hts _ zw_489) (hts _ zw_4) (hts _ zw_5) rfl (by rw [hml]; exact hl.1) rfl dX1_init_1 (Nat.le_of_ble_eq_true rfl) (Nat.le_of_ble_eq_true rfl) ?_
  refine lv_aload_n hx hb dX1_init_4 rfl (lv_at hl 0 rfl) ?_
  refine lv_iload_n hx hb dX1_init_5 rfl (lv_at hl 1 rfl) ?_
  refine lv_iconst (v := nI 1) hx hb dX1_init_6 (by decide +kernel) ?_
  refine va_mmax hx hb (by rw [hml]; exact hl.1.symm) hown (hts _ zw_490) (hts _ zw_491) (hts _ zw_373) (hts _ zw_492) (Nat.le_of_ble_eq_true rfl) (Nat.le_of_ble_eq_true rfl) (Nat.le_of_ble_eq_true rfl) (Nat.le_of_ble_eq_true rfl) dX1_init_7 ?_
  refine lv_topi (fun x1 ex1 => ?_)
  obtain rfl : x1 = nI 32 := ex1.trans (by decide +kernel)
  refine z_newB hx hb (hts _ zw_63) hK hZ hS hA 2 rfl (n := nI 32) (N := 32) (nI_pos (Nat.le_of_ble_eq_true rfl)) (nI_clamp (Nat.le_of_ble_eq_true rfl)) (Nat.le_of_ble_eq_true rfl) (Nat.le_of_ble_eq_true rfl) (Nat.le_of_ble_eq_true rfl) dX1_init_10 (fun q2 H hZ hS => ?_)
  have hZ : zP D vwCl A X [(th, .inr (3, [.null, .int (nI 0), .int (nI 0), .int (nI 0), .int (nI 0), .int (nI 0)])), (q2, .inl (K 2, 32, .inl (fun _ => 0)))] L T H := hZ
  refine z_put (own := RX1) (C := RX1) (TT := TX1) (N := 6) (ci := 3) (Ts := WR) (v := .ref q2) (ty := (.array .byte)) hx hb hts zin_wsX10 tyX1 tyX1_ok nmX1 hown hK hZ hS 0 rfl rfl 0 (by decide) (hts _ zw_493) (fun _ h9 => h9) rfl (by decide +kernel) rfl rfl (Nat.le_of_ble_eq_true rfl) dX1_init_12 (fun H locs hZ hS => ?_)
  have hZ : zP D vwCl A X [(th, .inr (3, [.ref q2, .int (nI 0), .int (nI 0), .int (nI 0), .int (nI 0), .int (nI 0)])), (q2, .inl (K 2, 32, .inl (fun _ => 0)))] L T H := hZ
  exact z_vret hx hb hr hlocks hK hZ hS ⟨q2, rfl⟩ (Nat.le_of_ble_eq_true rfl) (Nat.le_of_ble_eq_true rfl) dX1_init_15
abbrev ROOM_X1_init_r64 : Room := { frames := 2, cells := 1, slots := 64, locals := 40 }
set_option maxHeartbeats 4000000 in
set_option maxRecDepth 100000 in
/-- Bytes(64) -/
theorem c_X1_init_r64 (E : zEn) (l : Launch) (D : va_G) (K : Nat → ClassId) (X : va_W) (L : List Nat) (T : Nat → va_E → Prop) {th : Nat}    : zV E l D vwCl (zT K) yX1_init (zws yX1_init cX1_init 2 none) ROOM_X1_init_r64 1 64 [.ref th, .int (nI 64)] X [(th, .inr (3, [.null, .int (nI 0), .int (nI 0), .int (nI 0), .int (nI 0), .int (nI 0)]))] L T (fun (u : zU) => ∃ (d : Nat), u = ([(th, .inr (3, [.ref d, .int (nI 0), .int (nI 0), .int (nI 0), .int (nI 0), .int (nI 0)])), (d, .inl (K 2, 64, .inl (fun _ => 0)))], L, T)) := by
  refine z_ofW (E := E) (Qc := fun A => va_Qv (fun (u : zU) => ∃ (d : Nat), u = ([(th, .inr (3, [.ref d, .int (nI 0), .int (nI 0), .int (nI 0), .int (nI 0), .int (nI 0)])), (d, .inl (K 2, 64, .inl (fun _ => 0)))], L, T)) (zB D vwCl (zT K) A X) A) (cc := cX1_init) (maxL := 2) (ret := none) (by decide +kernel) rfl (Nat.le_of_ble_eq_true rfl) ?_
  intro p e s m below meth c A ls hx hb hml hr hts hown hlocks hin hA hK hZ hS hE hl
  have hown : s.vm.findClass RX1 = some m.cls := hown
  have hts : ∀ w ∈ WR, w.before [.ref th, .int (nI 64)].toArray s = true := fun w h => hts w (List.mem_cons_of_mem _ h)
  have hl : lv_has ls 2 [(0, .ref th), (1, .int (nI 64))] := hl
  obtain ⟨H, hH⟩ : ∃ H, H = s.heap := ⟨_, rfl⟩
  have hZ : zP D vwCl A X [(th, .inr (3, [.null, .int (nI 0), .int (nI 0), .int (nI 0), .int (nI 0), .int (nI 0)]))] L T H := by rw [hH]; exact hZ
  obtain ⟨locs, hlc⟩ : ∃ q : List Loc, q = [] := ⟨_, rfl⟩
  have hS : va_S A s.heap H locs := by rw [hH, hlc]; exact hS
  suffices hW : W p l e ROOM_X1_init_r64 s m [.ref th, .int (nI 64)].toArray below meth c H locs 0 0 (MQ below (va_Qv (fun (u : zU) => ∃ (d : Nat), u = ([(th, .inr (3, [.ref d, .int (nI 0), .int (nI 0), .int (nI 0), .int (nI 0), .int (nI 0)])), (d, .inl (K 2, 64, .inl (fun _ => 0)))], L, T)) (zB D vwCl (zT K) A X) A) [.ref th, .int (nI 64)].toArray s 1 64 A) (F0 m 0 ls []) by rw [hH, hlc] at hW; exact hW
  clear hH hlc
  refine lv_aload_n hx hb dX1_init_0 rfl (lv_at hl 0 rfl) ?_
  refine W.objInit hx hb hown (hts _ zw_489) (hts _ zw_4) (hts _ zw_5) rfl (by rw [hml]; exact hl.1) rfl dX1_init_1 (Nat.le_of_ble_eq_true rfl) (Nat.le_of_ble_eq_true rfl) ?_
  refine lv_aload_n hx hb dX1_init_4 rfl (lv_at hl 0 rfl) ?_
  refine lv_iload_n hx hb dX1_init_5 rfl (lv_at hl 1 rfl) ?_
  refine lv_iconst (v := nI 1) hx hb dX1_init_6 (by decide +kernel) ?_
  refine va_mmax hx hb (by rw [hml]; exact hl.1.symm) hown (hts _ zw_490) (hts _ zw_491) (hts _ zw_373) (hts _ zw_492) (Nat.le_of_ble_eq_true rfl) (Nat.le_of_ble_eq_true rfl) (Nat.le_of_ble_eq_true rfl) (Nat.le_of_ble_eq_true rfl) dX1_init_7 ?_
  refine lv_topi (fun x1 ex1 => ?_)
  obtain rfl : x1 = nI 64 := ex1.trans (by decide +kernel)
  refine z_newB hx hb (hts _ zw_63) hK hZ hS hA 2 rfl (n := nI 64) (N := 64) (nI_pos (Nat.le_of_ble_eq_true rfl)) (nI_clamp (Nat.le_of_ble_eq_true rfl)) (Nat.le_of_ble_eq_true rfl) (Nat.le_of_ble_eq_true rfl) (Nat.le_of_ble_eq_true rfl) dX1_init_10 (fun q2 H hZ hS => ?_)
  have hZ : zP D vwCl A X [(th, .inr (3, [.null, .int (nI 0), .int (nI 0), .int (nI 0), .int (nI 0), .int (nI 0)])), (q2, .inl (K 2, 64, .inl (fun _ => 0)))] L T H := hZ
  refine z_put (own := RX1) (C := RX1) (TT := TX1) (N := 6) (ci := 3) (Ts := WR) (v := .ref q2) (ty := (.array .byte)) hx hb hts zin_wsX10 tyX1 tyX1_ok nmX1 hown hK hZ hS 0 rfl rfl 0 (by decide) (hts _ zw_493) (fun _ h9 => h9) rfl (by decide +kernel) rfl rfl (Nat.le_of_ble_eq_true rfl) dX1_init_12 (fun H locs hZ hS => ?_)
  have hZ : zP D vwCl A X [(th, .inr (3, [.ref q2, .int (nI 0), .int (nI 0), .int (nI 0), .int (nI 0), .int (nI 0)])), (q2, .inl (K 2, 64, .inl (fun _ => 0)))] L T H := hZ
  exact z_vret hx hb hr hlocks hK hZ hS ⟨q2, rfl⟩ (Nat.le_of_ble_eq_true rfl) (Nat.le_of_ble_eq_true rfl) dX1_init_15
abbrev ROOM_X1_init_r256 : Room := { frames := 2, cells := 1, slots := 256, locals := 40 }
set_option maxHeartbeats 4000000 in
set_option maxRecDepth 100000 in
/-- Bytes(256) -/
theorem c_X1_init_r256 (E : zEn) (l : Launch) (D : va_G) (K : Nat → ClassId) (X : va_W) (L : List Nat) (T : Nat → va_E → Prop) {th : Nat}    : zV E l D vwCl (zT K) yX1_init (zws yX1_init cX1_init 2 none) ROOM_X1_init_r256 1 256 [.ref th, .int (nI 256)] X [(th, .inr (3, [.null, .int (nI 0), .int (nI 0), .int (nI 0), .int (nI 0), .int (nI 0)]))] L T (fun (u : zU) => ∃ (d : Nat), u = ([(th, .inr (3, [.ref d, .int (nI 0), .int (nI 0), .int (nI 0), .int (nI 0), .int (nI 0)])), (d, .inl (K 2, 256, .inl (fun _ => 0)))], L, T)) := by
  refine z_ofW (E := E) (Qc := fun A => va_Qv (fun (u : zU) => ∃ (d : Nat), u = ([(th, .inr (3, [.ref d, .int (nI 0), .int (nI 0), .int (nI 0), .int (nI 0), .int (nI 0)])), (d, .inl (K 2, 256, .inl (fun _ => 0)))], L, T)) (zB D vwCl (zT K) A X) A) (cc := cX1_init) (maxL := 2) (ret := none) (by decide +kernel) rfl (Nat.le_of_ble_eq_true rfl) ?_
  intro p e s m below meth c A ls hx hb hml hr hts hown hlocks hin hA hK hZ hS hE hl
  have hown : s.vm.findClass RX1 = some m.cls := hown
  have hts : ∀ w ∈ WR, w.before [.ref th, .int (nI 256)].toArray s = true := fun w h => hts w (List.mem_cons_of_mem _ h)
  have hl : lv_has ls 2 [(0, .ref th), (1, .int (nI 256))] := hl
  obtain ⟨H, hH⟩ : ∃ H, H = s.heap := ⟨_, rfl⟩
  have hZ : zP D vwCl A X [(th, .inr (3, [.null, .int (nI 0), .int (nI 0), .int (nI 0), .int (nI 0), .int (nI 0)]))] L T H := by rw [hH]; exact hZ
  obtain ⟨locs, hlc⟩ : ∃ q : List Loc, q = [] := ⟨_, rfl⟩
  have hS : va_S A s.heap H locs := by rw [hH, hlc]; exact hS
  suffices hW : W p l e ROOM_X1_init_r256 s m [.ref th, .int (nI 256)].toArray below meth c H locs 0 0 (MQ below (va_Qv (fun (u : zU) => ∃ (d : Nat), u = ([(th, .inr (3, [.ref d, .int (nI 0), .int (nI 0), .int (nI 0), .int (nI 0), .int (nI 0)])), (d, .inl (K 2, 256, .inl (fun _ => 0)))], L, T)) (zB D vwCl (zT K) A X) A) [.ref th, .int (nI 256)].toArray s 1 256 A) (F0 m 0 ls []) by rw [hH, hlc] at hW; exact hW
  clear hH hlc
  refine lv_aload_n hx hb dX1_init_0 rfl (lv_at hl 0 rfl) ?_
  refine W.objInit hx hb hown (hts _ zw_489) (hts _ zw_4) (hts _ zw_5) rfl (by rw [hml]; exact hl.1) rfl dX1_init_1 (Nat.le_of_ble_eq_true rfl) (Nat.le_of_ble_eq_true rfl) ?_
  refine lv_aload_n hx hb dX1_init_4 rfl (lv_at hl 0 rfl) ?_
  refine lv_iload_n hx hb dX1_init_5 rfl (lv_at hl 1 rfl) ?_
  refine lv_iconst (v := nI 1) hx hb dX1_init_6 (by decide +kernel) ?_
  refine va_mmax hx hb (by rw [hml]; exact hl.1.symm) hown (hts _ zw_490) (hts _ zw_491) (hts _ zw_373) (hts _ zw_492) (Nat.le_of_ble_eq_true rfl) (Nat.le_of_ble_eq_true rfl) (Nat.le_of_ble_eq_true rfl) (Nat.le_of_ble_eq_true rfl) dX1_init_7 ?_
  refine lv_topi (fun x1 ex1 => ?_)
  obtain rfl : x1 = nI 256 := ex1.trans (by decide +kernel)
  refine z_newB hx hb (hts _ zw_63) hK hZ hS hA 2 rfl (n := nI 256) (N := 256) (nI_pos (Nat.le_of_ble_eq_true rfl)) (nI_clamp (Nat.le_of_ble_eq_true rfl)) (Nat.le_of_ble_eq_true rfl) (Nat.le_of_ble_eq_true rfl) (Nat.le_of_ble_eq_true rfl) dX1_init_10 (fun q2 H hZ hS => ?_)
  have hZ : zP D vwCl A X [(th, .inr (3, [.null, .int (nI 0), .int (nI 0), .int (nI 0), .int (nI 0), .int (nI 0)])), (q2, .inl (K 2, 256, .inl (fun _ => 0)))] L T H := hZ
  refine z_put (own := RX1) (C := RX1) (TT := TX1) (N := 6) (ci := 3) (Ts := WR) (v := .ref q2) (ty := (.array .byte)) hx hb hts zin_wsX10 tyX1 tyX1_ok nmX1 hown hK hZ hS 0 rfl rfl 0 (by decide) (hts _ zw_493) (fun _ h9 => h9) rfl (by decide +kernel) rfl rfl (Nat.le_of_ble_eq_true rfl) dX1_init_12 (fun H locs hZ hS => ?_)
  have hZ : zP D vwCl A X [(th, .inr (3, [.ref q2, .int (nI 0), .int (nI 0), .int (nI 0), .int (nI 0), .int (nI 0)])), (q2, .inl (K 2, 256, .inl (fun _ => 0)))] L T H := hZ
  exact z_vret hx hb hr hlocks hK hZ hS ⟨q2, rfl⟩ (Nat.le_of_ble_eq_true rfl) (Nat.le_of_ble_eq_true rfl) dX1_init_15
abbrev ROOM_X1_init_r300 : Room := { frames := 2, cells := 1, slots := 300, locals := 40 }
set_option maxHeartbeats 4000000 in
set_option maxRecDepth 100000 in
/-- Bytes(300) -/
theorem c_X1_init_r300 (E : zEn) (l : Launch) (D : va_G) (K : Nat → ClassId) (X : va_W) (L : List Nat) (T : Nat → va_E → Prop) {th : Nat}    : zV E l D vwCl (zT K) yX1_init (zws yX1_init cX1_init 2 none) ROOM_X1_init_r300 1 300 [.ref th, .int (nI 300)] X [(th, .inr (3, [.null, .int (nI 0), .int (nI 0), .int (nI 0), .int (nI 0), .int (nI 0)]))] L T (fun (u : zU) => ∃ (d : Nat), u = ([(th, .inr (3, [.ref d, .int (nI 0), .int (nI 0), .int (nI 0), .int (nI 0), .int (nI 0)])), (d, .inl (K 2, 300, .inl (fun _ => 0)))], L, T)) := by
  refine z_ofW (E := E) (Qc := fun A => va_Qv (fun (u : zU) => ∃ (d : Nat), u = ([(th, .inr (3, [.ref d, .int (nI 0), .int (nI 0), .int (nI 0), .int (nI 0), .int (nI 0)])), (d, .inl (K 2, 300, .inl (fun _ => 0)))], L, T)) (zB D vwCl (zT K) A X) A) (cc := cX1_init) (maxL := 2) (ret := none) (by decide +kernel) rfl (Nat.le_of_ble_eq_true rfl) ?_
  intro p e s m below meth c A ls hx hb hml hr hts hown hlocks hin hA hK hZ hS hE hl
  have hown : s.vm.findClass RX1 = some m.cls := hown
  have hts : ∀ w ∈ WR, w.before [.ref th, .int (nI 300)].toArray s = true := fun w h => hts w (List.mem_cons_of_mem _ h)
  have hl : lv_has ls 2 [(0, .ref th), (1, .int (nI 300))] := hl
  obtain ⟨H, hH⟩ : ∃ H, H = s.heap := ⟨_, rfl⟩
  have hZ : zP D vwCl A X [(th, .inr (3, [.null, .int (nI 0), .int (nI 0), .int (nI 0), .int (nI 0), .int (nI 0)]))] L T H := by rw [hH]; exact hZ
  obtain ⟨locs, hlc⟩ : ∃ q : List Loc, q = [] := ⟨_, rfl⟩
  have hS : va_S A s.heap H locs := by rw [hH, hlc]; exact hS
  suffices hW : W p l e ROOM_X1_init_r300 s m [.ref th, .int (nI 300)].toArray below meth c H locs 0 0 (MQ below (va_Qv (fun (u : zU) => ∃ (d : Nat), u = ([(th, .inr (3, [.ref d, .int (nI 0), .int (nI 0), .int (nI 0), .int (nI 0), .int (nI 0)])), (d, .inl (K 2, 300, .inl (fun _ => 0)))], L, T)) (zB D vwCl (zT K) A X) A) [.ref th, .int (nI 300)].toArray s 1 300 A) (F0 m 0 ls []) by rw [hH, hlc] at hW; exact hW
  clear hH hlc
  refine lv_aload_n hx hb dX1_init_0 rfl (lv_at hl 0 rfl) ?_
  refine W.objInit hx hb hown (hts _ zw_489) (hts _ zw_4) (hts _ zw_5) rfl (by rw [hml]; exact hl.1) rfl dX1_init_1 (Nat.le_of_ble_eq_true rfl) (Nat.le_of_ble_eq_true rfl) ?_
  refine lv_aload_n hx hb dX1_init_4 rfl (lv_at hl 0 rfl) ?_
  refine lv_iload_n hx hb dX1_init_5 rfl (lv_at hl 1 rfl) ?_
  refine lv_iconst (v := nI 1) hx hb dX1_init_6 (by decide +kernel) ?_
  refine va_mmax hx hb (by rw [hml]; exact hl.1.symm) hown (hts _ zw_490) (hts _ zw_491) (hts _ zw_373) (hts _ zw_492) (Nat.le_of_ble_eq_true rfl) (Nat.le_of_ble_eq_true rfl) (Nat.le_of_ble_eq_true rfl) (Nat.le_of_ble_eq_true rfl) dX1_init_7 ?_
  refine lv_topi (fun x1 ex1 => ?_)
  obtain rfl : x1 = nI 300 := ex1.trans (by decide +kernel)
  refine z_newB hx hb (hts _ zw_63) hK hZ hS hA 2 rfl (n := nI 300) (N := 300) (nI_pos (Nat.le_of_ble_eq_true rfl)) (nI_clamp (Nat.le_of_ble_eq_true rfl)) (Nat.le_of_ble_eq_true rfl) (Nat.le_of_ble_eq_true rfl) (Nat.le_of_ble_eq_true rfl) dX1_init_10 (fun q2 H hZ hS => ?_)
  have hZ : zP D vwCl A X [(th, .inr (3, [.null, .int (nI 0), .int (nI 0), .int (nI 0), .int (nI 0), .int (nI 0)])), (q2, .inl (K 2, 300, .inl (fun _ => 0)))] L T H := hZ
  refine z_put (own := RX1) (C := RX1) (TT := TX1) (N := 6) (ci := 3) (Ts := WR) (v := .ref q2) (ty := (.array .byte)) hx hb hts zin_wsX10 tyX1 tyX1_ok nmX1 hown hK hZ hS 0 rfl rfl 0 (by decide) (hts _ zw_493) (fun _ h9 => h9) rfl (by decide +kernel) rfl rfl (Nat.le_of_ble_eq_true rfl) dX1_init_12 (fun H locs hZ hS => ?_)
  have hZ : zP D vwCl A X [(th, .inr (3, [.ref q2, .int (nI 0), .int (nI 0), .int (nI 0), .int (nI 0), .int (nI 0)])), (q2, .inl (K 2, 300, .inl (fun _ => 0)))] L T H := hZ
  exact z_vret hx hb hr hlocks hK hZ hS ⟨q2, rfl⟩ (Nat.le_of_ble_eq_true rfl) (Nat.le_of_ble_eq_true rfl) dX1_init_15
abbrev ROOM_X1_init_r1024 : Room := { frames := 2, cells := 1, slots := 1024, locals := 40 }
set_option maxHeartbeats 4000000 in
set_option maxRecDepth 100000 in
/-- Bytes(1024) -/
theorem c_X1_init_r1024 (E : zEn) (l : Launch) (D : va_G) (K : Nat → ClassId) (X : va_W) (L : List Nat) (T : Nat → va_E → Prop) {th : Nat}    : zV E l D vwCl (zT K) yX1_init (zws yX1_init cX1_init 2 none) ROOM_X1_init_r1024 1 1024 [.ref th, .int (nI 1024)] X [(th, .inr (3, [.null, .int (nI 0), .int (nI 0), .int (nI 0), .int (nI 0), .int (nI 0)]))] L T (fun (u : zU) => ∃ (d : Nat), u = ([(th, .inr (3, [.ref d, .int (nI 0), .int (nI 0), .int (nI 0), .int (nI 0), .int (nI 0)])), (d, .inl (K 2, 1024, .inl (fun _ => 0)))], L, T)) := by
  refine z_ofW (E := E) (Qc := fun A => va_Qv (fun (u : zU) => ∃ (d : Nat), u = ([(th, .inr (3, [.ref d, .int (nI 0), .int (nI 0), .int (nI 0), .int (nI 0), .int (nI 0)])), (d, .inl (K 2, 1024, .inl (fun _ => 0)))], L, T)) (zB D vwCl (zT K) A X) A) (cc := cX1_init) (maxL := 2) (ret := none) (by decide +kernel) rfl (Nat.le_of_ble_eq_true rfl) ?_
  intro p e s m below meth c A ls hx hb hml hr hts hown hlocks hin hA hK hZ hS hE hl
  have hown : s.vm.findClass RX1 = some m.cls := hown
  have hts : ∀ w ∈ WR, w.before [.ref th, .int (nI 1024)].toArray s = true := fun w h => hts w (List.mem_cons_of_mem _ h)
  have hl : lv_has ls 2 [(0, .ref th), (1, .int (nI 1024))] := hl
  obtain ⟨H, hH⟩ : ∃ H, H = s.heap := ⟨_, rfl⟩
  have hZ : zP D vwCl A X [(th, .inr (3, [.null, .int (nI 0), .int (nI 0), .int (nI 0), .int (nI 0), .int (nI 0)]))] L T H := by rw [hH]; exact hZ
  obtain ⟨locs, hlc⟩ : ∃ q : List Loc, q = [] := ⟨_, rfl⟩
  have hS : va_S A s.heap H locs := by rw [hH, hlc]; exact hS
  suffices hW : W p l e ROOM_X1_init_r1024 s m [.ref th, .int (nI 1024)].toArray below meth c H locs 0 0 (MQ below (va_Qv (fun (u : zU) => ∃ (d : Nat), u = ([(th, .inr (3, [.ref d, .int (nI 0), .int (nI 0), .int (nI 0), .int (nI 0), .int (nI 0)])), (d, .inl (K 2, 1024, .inl (fun _ => 0)))], L, T)) (zB D vwCl (zT K) A X) A) [.ref th, .int (nI 1024)].toArray s 1 1024 A) (F0 m 0 ls []) by rw [hH, hlc] at hW; exact hW
  clear hH hlc
  refine lv_aload_n hx hb dX1_init_0 rfl (lv_at hl 0 rfl) ?_
  refine W.objInit hx hb hown (hts _ zw_489) (hts _ zw_4) (hts _ zw_5) rfl (by rw [hml]; exact hl.1) rfl dX1_init_1 (Nat.le_of_ble_eq_true rfl) (Nat.le_of_ble_eq_true rfl) ?_
  refine lv_aload_n hx hb dX1_init_4 rfl (lv_at hl 0 rfl) ?_
  refine lv_iload_n hx hb dX1_init_5 rfl (lv_at hl 1 rfl) ?_
  refine lv_iconst (v := nI 1) hx hb dX1_init_6 (by decide +kernel) ?_
  refine va_mmax hx hb (by rw [hml]; exact hl.1.symm) hown (hts _ zw_490) (hts _ zw_491) (hts _ zw_373) (hts _ zw_492) (Nat.le_of_ble_eq_true rfl) (Nat.le_of_ble_eq_true rfl) (Nat.le_of_ble_eq_true rfl) (Nat.le_of_ble_eq_true rfl) dX1_init_7 ?_
  refine lv_topi (fun x1 ex1 => ?_)
  obtain rfl : x1 = nI 1024 := ex1.trans (by decide +kernel)
  refine z_newB hx hb (hts _ zw_63) hK hZ hS hA 2 rfl (n := nI 1024) (N := 1024) (nI_pos (Nat.le_of_ble_eq_true rfl)) (nI_clamp (Nat.le_of_ble_eq_true rfl)) (Nat.le_of_ble_eq_true rfl) (Nat.le_of_ble_eq_true rfl) (Nat.le_of_ble_eq_true rfl) dX1_init_10 (fun q2 H hZ hS => ?_)
  have hZ : zP D vwCl A X [(th, .inr (3, [.null, .int (nI 0), .int (nI 0), .int (nI 0), .int (nI 0), .int (nI 0)])), (q2, .inl (K 2, 1024, .inl (fun _ => 0)))] L T H := hZ
  refine z_put (own := RX1) (C := RX1) (TT := TX1) (N := 6) (ci := 3) (Ts := WR) (v := .ref q2) (ty := (.array .byte)) hx hb hts zin_wsX10 tyX1 tyX1_ok nmX1 hown hK hZ hS 0 rfl rfl 0 (by decide) (hts _ zw_493) (fun _ h9 => h9) rfl (by decide +kernel) rfl rfl (Nat.le_of_ble_eq_true rfl) dX1_init_12 (fun H locs hZ hS => ?_)
  have hZ : zP D vwCl A X [(th, .inr (3, [.ref q2, .int (nI 0), .int (nI 0), .int (nI 0), .int (nI 0), .int (nI 0)])), (q2, .inl (K 2, 1024, .inl (fun _ => 0)))] L T H := hZ
  exact z_vret hx hb hr hlocks hK hZ hS ⟨q2, rfl⟩ (Nat.le_of_ble_eq_true rfl) (Nat.le_of_ble_eq_true rfl) dX1_init_15
abbrev ROOM_X1_clear : Room := { frames := 1, cells := 0, slots := 0, locals := 0 }
set_option maxHeartbeats 4000000 in
set_option maxRecDepth 100000 in
/-- clear -/
theorem c_X1_clear (E : zEn) (l : Launch) (D : va_G) (K : Nat → ClassId) (X : va_W) (L : List Nat) (T : Nat → va_E → Prop) {b : Nat} {d f n : Nat} {cu bd ts : Int32}   : zV E l D vwCl (zT K) yX1_clear (zws yX1_clear cX1_clear 1 none) ROOM_X1_clear 0 0 [.ref b] X [(b, .inr (3, [.ref d, .int (nI f), .int (nI n), .int cu, .int bd, .int ts]))] L T (fun (u : zU) => u = ([(b, .inr (3, [.ref d, .int (nI 0), .int (nI 0), .int (nI 0), .int (nI 0), .int (nI 0)]))], L, T)) := by
  refine z_ofW (E := E) (Qc := fun A => va_Qv (fun (u : zU) => u = ([(b, .inr (3, [.ref d, .int (nI 0), .int (nI 0), .int (nI 0), .int (nI 0), .int (nI 0)]))], L, T)) (zB D vwCl (zT K) A X) A) (cc := cX1_clear) (maxL := 1) (ret := none) (by decide +kernel) rfl (Nat.le_of_ble_eq_true rfl) ?_
  intro p e s m below meth c A ls hx hb hml hr hts hown hlocks hin hA hK hZ hS hE hl
  have hown : s.vm.findClass RX1 = some m.cls := hown
  have hts : ∀ w ∈ WR, w.before [.ref b].toArray s = true := fun w h => hts w (List.mem_cons_of_mem _ h)
  have hl : lv_has ls 1 [(0, .ref b)] := hl
  obtain ⟨H, hH⟩ : ∃ H, H = s.heap := ⟨_, rfl⟩
  have hZ : zP D vwCl A X [(b, .inr (3, [.ref d, .int (nI f), .int (nI n), .int cu, .int bd, .int ts]))] L T H := by rw [hH]; exact hZ
  obtain ⟨locs, hlc⟩ : ∃ q : List Loc, q = [] := ⟨_, rfl⟩
  have hS : va_S A s.heap H locs := by rw [hH, hlc]; exact hS
  suffices hW : W p l e ROOM_X1_clear s m [.ref b].toArray below meth c H locs 0 0 (MQ below (va_Qv (fun (u : zU) => u = ([(b, .inr (3, [.ref d, .int (nI 0), .int (nI 0), .int (nI 0), .int (nI 0), .int (nI 0)]))], L, T)) (zB D vwCl (zT K) A X) A) [.ref b].toArray s 0 0 A) (F0 m 0 ls []) by rw [hH, hlc] at hW; exact hW
  clear hH hlc
  refine lv_aload_n hx hb dX1_clear_0 rfl (lv_at hl 0 rfl) ?_
  refine lv_iconst (v := nI 0) hx hb dX1_clear_1 (by decide +kernel) ?_
  refine z_put (own := RX1) (C := RX1) (TT := TX1) (N := 6) (ci := 3) (Ts := WR) (v := .int (nI 0)) (ty := .int) hx hb hts zin_wsX10 tyX1 tyX1_ok nmX1 hown hK hZ hS 0 rfl rfl 1 (by decide) (hts _ zw_496) (fun _ h9 => h9) rfl (by decide +kernel) rfl rfl (Nat.le_of_ble_eq_true rfl) dX1_clear_2 (fun H locs hZ hS => ?_)
  have hZ : zP D vwCl A X [(b, .inr (3, [.ref d, .int (nI 0), .int (nI n), .int cu, .int bd, .int ts]))] L T H := hZ
  refine lv_aload_n hx hb dX1_clear_5 rfl (lv_at hl 0 rfl) ?_
  refine lv_iconst (v := nI 0) hx hb dX1_clear_6 (by decide +kernel) ?_
  refine z_put (own := RX1) (C := RX1) (TT := TX1) (N := 6) (ci := 3) (Ts := WR) (v := .int (nI 0)) (ty := .int) hx hb hts zin_wsX10 tyX1 tyX1_ok nmX1 hown hK hZ hS 0 rfl rfl 2 (by decide) (hts _ zw_497) (fun _ h9 => h9) rfl (by decide +kernel) rfl rfl (Nat.le_of_ble_eq_true rfl) dX1_clear_7 (fun H locs hZ hS => ?_)
  have hZ : zP D vwCl A X [(b, .inr (3, [.ref d, .int (nI 0), .int (nI 0), .int cu, .int bd, .int ts]))] L T H := hZ
  refine lv_aload_n hx hb dX1_clear_10 rfl (lv_at hl 0 rfl) ?_
  refine lv_iconst (v := nI 0) hx hb dX1_clear_11 (by decide +kernel) ?_
  refine z_put (own := RX1) (C := RX1) (TT := TX1) (N := 6) (ci := 3) (Ts := WR) (v := .int (nI 0)) (ty := .int) hx hb hts zin_wsX10 tyX1 tyX1_ok nmX1 hown hK hZ hS 0 rfl rfl 3 (by decide) (hts _ zw_498) (fun _ h9 => h9) rfl (by decide +kernel) rfl rfl (Nat.le_of_ble_eq_true rfl) dX1_clear_12 (fun H locs hZ hS => ?_)
  have hZ : zP D vwCl A X [(b, .inr (3, [.ref d, .int (nI 0), .int (nI 0), .int (nI 0), .int bd, .int ts]))] L T H := hZ
  refine lv_aload_n hx hb dX1_clear_15 rfl (lv_at hl 0 rfl) ?_
  refine lv_iconst (v := nI 0) hx hb dX1_clear_16 (by decide +kernel) ?_
  refine z_put (own := RX1) (C := RX1) (TT := TX1) (N := 6) (ci := 3) (Ts := WR) (v := .int (nI 0)) (ty := .boolean) hx hb hts zin_wsX10 tyX1 tyX1_ok nmX1 hown hK hZ hS 0 rfl rfl 4 (by decide) (hts _ zw_499) (fun _ h9 => h9) rfl (by decide +kernel) rfl rfl (Nat.le_of_ble_eq_true rfl) dX1_clear_17 (fun H locs hZ hS => ?_)
  have hZ : zP D vwCl A X [(b, .inr (3, [.ref d, .int (nI 0), .int (nI 0), .int (nI 0), .int (nI 0), .int ts]))] L T H := hZ
  refine lv_aload_n hx hb dX1_clear_20 rfl (lv_at hl 0 rfl) ?_
  refine lv_iconst (v := nI 0) hx hb dX1_clear_21 (by decide +kernel) ?_
  refine z_put (own := RX1) (C := RX1) (TT := TX1) (N := 6) (ci := 3) (Ts := WR) (v := .int (nI 0)) (ty := .int) hx hb hts zin_wsX10 tyX1 tyX1_ok nmX1 hown hK hZ hS 0 rfl rfl 5 (by decide) (hts _ zw_500) (fun _ h9 => h9) rfl (by decide +kernel) rfl rfl (Nat.le_of_ble_eq_true rfl) dX1_clear_22 (fun H locs hZ hS => ?_)
  have hZ : zP D vwCl A X [(b, .inr (3, [.ref d, .int (nI 0), .int (nI 0), .int (nI 0), .int (nI 0), .int (nI 0)]))] L T H := hZ
  exact z_vret hx hb hr hlocks hK hZ hS rfl (Nat.le_of_ble_eq_true rfl) (Nat.le_of_ble_eq_true rfl) dX1_clear_25
abbrev ROOM_X1_makeRoom : Room := { frames := 1, cells := 0, slots := 0, locals := 0 }
set_option maxHeartbeats 4000000 in
set_option maxRecDepth 100000 in
/-- makeRoom where there is room -/
theorem c_X1_makeRoom (E : zEn) (l : Launch) (D : va_G) (K : Nat → ClassId) (X : va_W) (L : List Nat) (T : Nat → va_E → Prop) {b : Nat} {mo : Nat} {d : Nat} {f n N : Nat} {cu bd ts : Int32} (b_mo : mo < 2147483648) (h_d : d ∈ L) (k_d : T d = zI (K 2) N) (hr : f + n + mo ≤ N) (hN : N < 2147483648) : zV E l D vwCl (zT K) yX1_makeRoom (zws yX1_makeRoom cX1_makeRoom 3 none) ROOM_X1_makeRoom 0 0 [.ref b, .int (nI mo)] X [(b, .inr (3, [.ref d, .int (nI f), .int (nI n), .int cu, .int bd, .int ts]))] L T (fun (u : zU) => u = ([(b, .inr (3, [.ref d, .int (nI f), .int (nI n), .int cu, .int bd, .int ts]))], L, T)) := by
  refine z_ofW (E := E) (Qc := fun A => va_Qv (fun (u : zU) => u = ([(b, .inr (3, [.ref d, .int (nI f), .int (nI n), .int cu, .int bd, .int ts]))], L, T)) (zB D vwCl (zT K) A X) A) (cc := cX1_makeRoom) (maxL := 3) (ret := none) (by decide +kernel) rfl (Nat.le_of_ble_eq_true rfl) ?_
  intro p e s m below meth c A ls hx hb hml hr hts hown hlocks hin hA hK hZ hS hE hl
  have hown : s.vm.findClass RX1 = some m.cls := hown
  have hts : ∀ w ∈ WR, w.before [.ref b, .int (nI mo)].toArray s = true := fun w h => hts w (List.mem_cons_of_mem _ h)
  have hl : lv_has ls 3 [(0, .ref b), (1, .int (nI mo))] := hl
  obtain ⟨H, hH⟩ : ∃ H, H = s.heap := ⟨_, rfl⟩
  have hZ : zP D vwCl A X [(b, .inr (3, [.ref d, .int (nI f), .int (nI n), .int cu, .int bd, .int ts]))] L T H := by rw [hH]; exact hZ
  obtain ⟨locs, hlc⟩ : ∃ q : List Loc, q = [] := ⟨_, rfl⟩
  have hS : va_S A s.heap H locs := by rw [hH, hlc]; exact hS
  suffices hW : W p l e ROOM_X1_makeRoom s m [.ref b, .int (nI mo)].toArray below meth c H locs 0 0 (MQ below (va_Qv (fun (u : zU) => u = ([(b, .inr (3, [.ref d, .int (nI f), .int (nI n), .int cu, .int bd, .int ts]))], L, T)) (zB D vwCl (zT K) A X) A) [.ref b, .int (nI mo)].toArray s 0 0 A) (F0 m 0 ls []) by rw [hH, hlc] at hW; exact hW
  clear hH hlc
  refine lv_iload_n hx hb dX1_makeRoom_0 rfl (lv_at hl 1 rfl) ?_
  refine lv_if_lt (tgt := 23) hx hb dX1_makeRoom_1 (by decide) (fun c1 => ?_) (fun c1 => ?_)
  · exact absurd c1 (nI_pos (by omega))
  · have e1 : ¬ mo < 0 := fun q => c1 ((nI_ltI (a := mo) (b := 0) (by omega) (by omega)).mpr q)
    refine lv_aload_n hx hb dX1_makeRoom_4 rfl (lv_at hl 0 rfl) ?_
    refine z_getY (own := RX1) (C := RX1) (TT := TX1) (N := 6) (ci := 3) (Ts := WR) hx hb hts zin_wsX10 hown hK hZ 0 rfl rfl 1 (by decide) (hts _ zw_496) (fun _ h9 => h9) rfl dX1_makeRoom_5 ?_
    refine lv_aload_n hx hb dX1_makeRoom_8 rfl (lv_at hl 0 rfl) ?_
    refine z_getY (own := RX1) (C := RX1) (TT := TX1) (N := 6) (ci := 3) (Ts := WR) hx hb hts zin_wsX10 hown hK hZ 0 rfl rfl 2 (by decide) (hts _ zw_497) (fun _ h9 => h9) rfl dX1_makeRoom_9 ?_
    refine lv_iadd hx hb dX1_makeRoom_12 ?_
    refine lv_topi (fun x1 ex1 => ?_)
    obtain rfl : x1 = nI (f + n) := ex1.trans (nI_add f n)
    refine lv_iload_n hx hb dX1_makeRoom_13 rfl (lv_at hl 1 rfl) ?_
    refine lv_iadd hx hb dX1_makeRoom_14 ?_
    refine lv_topi (fun x2 ex2 => ?_)
    obtain rfl : x2 = nI ((f + n) + mo) := ex2.trans (nI_add (f + n) mo)
    refine lv_aload_n hx hb dX1_makeRoom_15 rfl (lv_at hl 0 rfl) ?_
    refine z_getY (own := RX1) (C := RX1) (TT := TX1) (N := 6) (ci := 3) (Ts := WR) hx hb hts zin_wsX10 hown hK hZ 0 rfl rfl 0 (by decide) (hts _ zw_493) (fun _ h9 => h9) rfl dX1_makeRoom_16 ?_
    refine z_alenP hx hb hK hZ 2 h_d k_d rfl dX1_makeRoom_19 ?_
    show W p l e ROOM_X1_makeRoom s m [.ref b, .int (nI mo)].toArray below meth c H locs 0 0 (MQ below (va_Qv (fun (u : zU) => u = ([(b, .inr (3, [.ref d, .int (nI f), .int (nI n), .int cu, .int bd, .int ts]))], L, T)) (zB D vwCl (zT K) A X) A) [.ref b, .int (nI mo)].toArray s 0 0 A) (F0 m 20 ls [.int (nI N), .int (nI ((f + n) + mo))])
    refine lv_icmp_gt (tgt := 24) hx hb dX1_makeRoom_20 (by decide) (fun c20 => (absurd ((nI_ltI (a := N) (b := ((f + n) + mo)) (by omega) (by omega)).mp c20) (by omega))) (fun c20 => ?_)
    exact z_vret hx hb hr hlocks hK hZ hS rfl (Nat.le_of_ble_eq_true rfl) (Nat.le_of_ble_eq_true rfl) dX1_makeRoom_23
abbrev ROOM_X1_put : Room := { frames := 2, cells := 0, slots := 0, locals := 22 }
set_option maxHeartbeats 4000000 in
set_option maxRecDepth 100000 in
/-- put -/
theorem c_X1_put (E : zEn) (l : Launch) (D : va_G) (K : Nat → ClassId) (X : va_W) (L : List Nat) (T : Nat → va_E → Prop) {b : Nat} {v : Int32} {d : Nat} {f n N : Nat} {cu bd ts : Int32} (h_d : d ∈ L) (k_d : T d = zI (K 2) N) (hr : f + n + 1 ≤ N) (hN : N < 2147483648) : zV E l D vwCl (zT K) yX1_put (zws yX1_put cX1_put 2 none) ROOM_X1_put 0 0 [.ref b, .int v] X [(b, .inr (3, [.ref d, .int (nI f), .int (nI n), .int cu, .int bd, .int ts]))] L T (fun (u : zU) => u = ([(b, .inr (3, [.ref d, .int (nI f), .int (nI (n + 1)), .int cu, .int bd, .int ts]))], L, T)) := by
  refine z_ofW (E := E) (Qc := fun A => va_Qv (fun (u : zU) => u = ([(b, .inr (3, [.ref d, .int (nI f), .int (nI (n + 1)), .int cu, .int bd, .int ts]))], L, T)) (zB D vwCl (zT K) A X) A) (cc := cX1_put) (maxL := 2) (ret := none) (by decide +kernel) rfl (Nat.le_of_ble_eq_true rfl) ?_
  intro p e s m below meth c A ls hx hb hml hr hts hown hlocks hin hA hK hZ hS hE hl
  have hown : s.vm.findClass RX1 = some m.cls := hown
  have hts : ∀ w ∈ WR, w.before [.ref b, .int v].toArray s = true := fun w h => hts w (List.mem_cons_of_mem _ h)
  have hl : lv_has ls 2 [(0, .ref b), (1, .int v)] := hl
  obtain ⟨H, hH⟩ : ∃ H, H = s.heap := ⟨_, rfl⟩
  have hZ : zP D vwCl A X [(b, .inr (3, [.ref d, .int (nI f), .int (nI n), .int cu, .int bd, .int ts]))] L T H := by rw [hH]; exact hZ
  obtain ⟨locs, hlc⟩ : ∃ q : List Loc, q = [] := ⟨_, rfl⟩
  have hS : va_S A s.heap H locs := by rw [hH, hlc]; exact hS
  suffices hW : W p l e ROOM_X1_put s m [.ref b, .int v].toArray below meth c H locs 0 0 (MQ below (va_Qv (fun (u : zU) => u = ([(b, .inr (3, [.ref d, .int (nI f), .int (nI (n + 1)), .int cu, .int bd, .int ts]))], L, T)) (zB D vwCl (zT K) A X) A) [.ref b, .int v].toArray s 0 0 A) (F0 m 0 ls []) by rw [hH, hlc] at hW; exact hW
  clear hH hlc
  refine lv_aload_n hx hb dX1_put_0 rfl (lv_at hl 0 rfl) ?_
  refine lv_iconst (v := nI 1) hx hb dX1_put_1 (by decide +kernel) ?_
  have rv1 : ∃ cell : Cell, H[b]? = some cell ∧ cell.vm.isStatics = false ∧ s.vm.findClass RX1 = some cell.cls := z_recvY hK hZ 0 rfl rfl
  have hZc := zP.into (Y1 := []) (Y2 := [(b, .inr (3, [.ref d, .int (nI f), .int (nI n), .int cu, .int bd, .int ts]))]) hZ
  refine z_goV (va_runV (As := [.int (nI 1)]) (rest := []) ⟨hx, hb, hml, hown, hts⟩ ((c_X1_makeRoom E l D K (X ++ []) L T (by omega) h_d k_d (by omega) (by omega)) H.size) (cwV 1 hts (zg_V zw_509 zw_502 zw_510 zw_488 zw_501) rfl rfl rfl (by decide +kernel) ⟨Nat.le_of_ble_eq_true rfl, Nat.le_of_ble_eq_true rfl⟩) (z_preV hK hZc hS hA hE rv1) rfl rfl hl.1 rfl (lv_room (Nat.le_of_ble_eq_true rfl)) dX1_put_2 ⟨Nat.le_of_ble_eq_true rfl, Nat.le_of_ble_eq_true rfl⟩) hZc hS hA (fun  Y1 L1 T1 H locs hp hZ hS => ?_)
  cases hp
  have hZ : zP D vwCl A X [(b, .inr (3, [.ref d, .int (nI f), .int (nI n), .int cu, .int bd, .int ts]))] L T H := zP.back hZ
  refine lv_aload_n hx hb dX1_put_5 rfl (lv_at hl 0 rfl) ?_
  refine z_getY (own := RX1) (C := RX1) (TT := TX1) (N := 6) (ci := 3) (Ts := WR) hx hb hts zin_wsX10 hown hK hZ 0 rfl rfl 0 (by decide) (hts _ zw_493) (fun _ h9 => h9) rfl dX1_put_6 ?_
  refine lv_aload_n hx hb dX1_put_9 rfl (lv_at hl 0 rfl) ?_
  refine z_getY (own := RX1) (C := RX1) (TT := TX1) (N := 6) (ci := 3) (Ts := WR) hx hb hts zin_wsX10 hown hK hZ 0 rfl rfl 1 (by decide) (hts _ zw_496) (fun _ h9 => h9) rfl dX1_put_10 ?_
  refine lv_aload_n hx hb dX1_put_13 rfl (lv_at hl 0 rfl) ?_
  refine z_getY (own := RX1) (C := RX1) (TT := TX1) (N := 6) (ci := 3) (Ts := WR) hx hb hts zin_wsX10 hown hK hZ 0 rfl rfl 2 (by decide) (hts _ zw_497) (fun _ h9 => h9) rfl dX1_put_14 ?_
  refine lv_iadd hx hb dX1_put_17 ?_
  refine lv_topi (fun x2 ex2 => ?_)
  obtain rfl : x2 = nI (f + n) := ex2.trans (nI_add f n)
  refine lv_iload_n hx hb dX1_put_18 rfl (lv_at hl 1 rfl) ?_
  refine lv_i2b hx hb dX1_put_19 rfl ?_
  refine lv_topi (fun x3 ex3 => ?_)
  refine z_bast hx hb hK hZ hS 2 h_d k_d rfl (vp_in_nI (by omega) (by omega)) dX1_put_20 (fun H locs hZ hS => ?_)
  refine lv_aload_n hx hb dX1_put_21 rfl (lv_at hl 0 rfl) ?_
  refine lv_dup hx hb dX1_put_22 rfl ?_
  refine z_getY (own := RX1) (C := RX1) (TT := TX1) (N := 6) (ci := 3) (Ts := WR) hx hb hts zin_wsX10 hown hK hZ 0 rfl rfl 2 (by decide) (hts _ zw_497) (fun _ h9 => h9) rfl dX1_put_23 ?_
  refine lv_iconst (v := nI 1) hx hb dX1_put_26 (by decide +kernel) ?_
  refine lv_iadd hx hb dX1_put_27 ?_
  refine lv_topi (fun x4 ex4 => ?_)
  obtain rfl : x4 = nI (n + 1) := ex4.trans (nI_add n 1)
  refine z_put (own := RX1) (C := RX1) (TT := TX1) (N := 6) (ci := 3) (Ts := WR) (v := .int (nI (n + 1))) (ty := .int) hx hb hts zin_wsX10 tyX1 tyX1_ok nmX1 hown hK hZ hS 0 rfl rfl 2 (by decide) (hts _ zw_497) (fun _ h9 => h9) rfl (by decide +kernel) rfl rfl (Nat.le_of_ble_eq_true rfl) dX1_put_28 (fun H locs hZ hS => ?_)
  have hZ : zP D vwCl A X [(b, .inr (3, [.ref d, .int (nI f), .int (nI (n + 1)), .int cu, .int bd, .int ts]))] L T H := hZ
  exact z_vret hx hb hr hlocks hK hZ hS rfl (Nat.le_of_ble_eq_true rfl) (Nat.le_of_ble_eq_true rfl) dX1_put_31
abbrev ROOM_X1_putInt : Room := { frames := 2, cells := 0, slots := 0, locals := 22 }
set_option maxHeartbeats 4000000 in
set_option maxRecDepth 100000 in
/-- putInt -/
theorem c_X1_putInt (E : zEn) (l : Launch) (D : va_G) (K : Nat → ClassId) (X : va_W) (L : List Nat) (T : Nat → va_E → Prop) {b : Nat} {v : Int32} {d : Nat} {f n N : Nat} {cu bd ts : Int32} (h_d : d ∈ L) (k_d : T d = zI (K 2) N) (hr : f + n + 4 ≤ N) (hN : N < 2147483648) : zV E l D vwCl (zT K) yX1_putInt (zws yX1_putInt cX1_putInt 3 none) ROOM_X1_putInt 0 0 [.ref b, .int v] X [(b, .inr (3, [.ref d, .int (nI f), .int (nI n), .int cu, .int bd, .int ts]))] L T (fun (u : zU) => u = ([(b, .inr (3, [.ref d, .int (nI f), .int (nI (n + 4)), .int cu, .int bd, .int ts]))], L, T)) := by
  refine z_ofW (E := E) (Qc := fun A => va_Qv (fun (u : zU) => u = ([(b, .inr (3, [.ref d, .int (nI f), .int (nI (n + 4)), .int cu, .int bd, .int ts]))], L, T)) (zB D vwCl (zT K) A X) A) (cc := cX1_putInt) (maxL := 3) (ret := none) (by decide +kernel) rfl (Nat.le_of_ble_eq_true rfl) ?_
  intro p e s m below meth c A ls hx hb hml hr hts hown hlocks hin hA hK hZ hS hE hl
  have hown : s.vm.findClass RX1 = some m.cls := hown
  have hts : ∀ w ∈ WR, w.before [.ref b, .int v].toArray s = true := fun w h => hts w (List.mem_cons_of_mem _ h)
  have hl : lv_has ls 3 [(0, .ref b), (1, .int v)] := hl
  obtain ⟨H, hH⟩ : ∃ H, H = s.heap := ⟨_, rfl⟩
  have hZ : zP D vwCl A X [(b, .inr (3, [.ref d, .int (nI f), .int (nI n), .int cu, .int bd, .int ts]))] L T H := by rw [hH]; exact hZ
  obtain ⟨locs, hlc⟩ : ∃ q : List Loc, q = [] := ⟨_, rfl⟩
  have hS : va_S A s.heap H locs := by rw [hH, hlc]; exact hS
  suffices hW : W p l e ROOM_X1_putInt s m [.ref b, .int v].toArray below meth c H locs 0 0 (MQ below (va_Qv (fun (u : zU) => u = ([(b, .inr (3, [.ref d, .int (nI f), .int (nI (n + 4)), .int cu, .int bd, .int ts]))], L, T)) (zB D vwCl (zT K) A X) A) [.ref b, .int v].toArray s 0 0 A) (F0 m 0 ls []) by rw [hH, hlc] at hW; exact hW
  clear hH hlc
  refine lv_aload_n hx hb dX1_putInt_0 rfl (lv_at hl 0 rfl) ?_
  refine lv_iconst (v := nI 4) hx hb dX1_putInt_1 (by decide +kernel) ?_
  have rv1 : ∃ cell : Cell, H[b]? = some cell ∧ cell.vm.isStatics = false ∧ s.vm.findClass RX1 = some cell.cls := z_recvY hK hZ 0 rfl rfl
  have hZc := zP.into (Y1 := []) (Y2 := [(b, .inr (3, [.ref d, .int (nI f), .int (nI n), .int cu, .int bd, .int ts]))]) hZ
  refine z_goV (va_runV (As := [.int (nI 4)]) (rest := []) ⟨hx, hb, hml, hown, hts⟩ ((c_X1_makeRoom E l D K (X ++ []) L T (by omega) h_d k_d (by omega) (by omega)) H.size) (cwV 1 hts (zg_V zw_509 zw_502 zw_510 zw_488 zw_501) rfl rfl rfl (by decide +kernel) ⟨Nat.le_of_ble_eq_true rfl, Nat.le_of_ble_eq_true rfl⟩) (z_preV hK hZc hS hA hE rv1) rfl rfl hl.1 rfl (lv_room (Nat.le_of_ble_eq_true rfl)) dX1_putInt_2 ⟨Nat.le_of_ble_eq_true rfl, Nat.le_of_ble_eq_true rfl⟩) hZc hS hA (fun  Y1 L1 T1 H locs hp hZ hS => ?_)
  cases hp
  have hZ : zP D vwCl A X [(b, .inr (3, [.ref d, .int (nI f), .int (nI n), .int cu, .int bd, .int ts]))] L T H := zP.back hZ
  refine lv_bipush (v := nI 24) hx hb dX1_putInt_5 (by decide +kernel) ?_
  refine lv_istore_n (lv' := [(2, .int (nI 24)), (0, .ref b), (1, .int v)]) hx hb dX1_putInt_7 rfl hl (by decide) rfl (fun ls hl => ?_)
  refine lv_iload_n hx hb dX1_putInt_8 rfl (lv_at hl 0 rfl) ?_
  refine lv_if_lt (tgt := 46) hx hb dX1_putInt_9 (by decide) (fun c9 => absurd c9 (by decide +kernel)) (fun c9 => ?_)
  clear c9
  refine lv_aload_n hx hb dX1_putInt_12 rfl (lv_at hl 1 rfl) ?_
  refine z_getY (own := RX1) (C := RX1) (TT := TX1) (N := 6) (ci := 3) (Ts := WR) hx hb hts zin_wsX10 hown hK hZ 0 rfl rfl 0 (by decide) (hts _ zw_493) (fun _ h9 => h9) rfl dX1_putInt_13 ?_
  refine lv_aload_n hx hb dX1_putInt_16 rfl (lv_at hl 1 rfl) ?_
  refine z_getY (own := RX1) (C := RX1) (TT := TX1) (N := 6) (ci := 3) (Ts := WR) hx hb hts zin_wsX10 hown hK hZ 0 rfl rfl 1 (by decide) (hts _ zw_496) (fun _ h9 => h9) rfl dX1_putInt_17 ?_
  refine lv_aload_n hx hb dX1_putInt_20 rfl (lv_at hl 1 rfl) ?_
  refine z_getY (own := RX1) (C := RX1) (TT := TX1) (N := 6) (ci := 3) (Ts := WR) hx hb hts zin_wsX10 hown hK hZ 0 rfl rfl 2 (by decide) (hts _ zw_497) (fun _ h9 => h9) rfl dX1_putInt_21 ?_
  refine lv_iadd hx hb dX1_putInt_24 ?_
  refine lv_topi (fun x2 ex2 => ?_)
  obtain rfl : x2 = nI (f + n) := ex2.trans (nI_add f n)
  refine lv_iload_n hx hb dX1_putInt_25 rfl (lv_at hl 2 rfl) ?_
  refine lv_iload_n hx hb dX1_putInt_26 rfl (lv_at hl 0 rfl) ?_
  refine lv_iushr hx hb dX1_putInt_27 rfl ?_
  refine lv_topi (fun x3 ex3 => ?_)
  refine lv_i2b hx hb dX1_putInt_28 rfl ?_
  refine lv_topi (fun x4 ex4 => ?_)
  refine z_bast hx hb hK hZ hS 2 h_d k_d rfl (vp_in_nI (by omega) (by omega)) dX1_putInt_29 (fun H locs hZ hS => ?_)
  refine lv_aload_n hx hb dX1_putInt_30 rfl (lv_at hl 1 rfl) ?_
  refine lv_dup hx hb dX1_putInt_31 rfl ?_
  refine z_getY (own := RX1) (C := RX1) (TT := TX1) (N := 6) (ci := 3) (Ts := WR) hx hb hts zin_wsX10 hown hK hZ 0 rfl rfl 2 (by decide) (hts _ zw_497) (fun _ h9 => h9) rfl dX1_putInt_32 ?_
  refine lv_iconst (v := nI 1) hx hb dX1_putInt_35 (by decide +kernel) ?_
  refine lv_iadd hx hb dX1_putInt_36 ?_
  refine lv_topi (fun x5 ex5 => ?_)
  obtain rfl : x5 = nI (n + 1) := ex5.trans (nI_add n 1)
  refine z_put (own := RX1) (C := RX1) (TT := TX1) (N := 6) (ci := 3) (Ts := WR) (v := .int (nI (n + 1))) (ty := .int) hx hb hts zin_wsX10 tyX1 tyX1_ok nmX1 hown hK hZ hS 0 rfl rfl 2 (by decide) (hts _ zw_497) (fun _ h9 => h9) rfl (by decide +kernel) rfl rfl (Nat.le_of_ble_eq_true rfl) dX1_putInt_37 (fun H locs hZ hS => ?_)
  have hZ : zP D vwCl A X [(b, .inr (3, [.ref d, .int (nI f), .int (nI (n + 1)), .int cu, .int bd, .int ts]))] L T H := hZ
  refine lv_iinc (v := nI 16) (lv' := [(2, .int (nI 16)), (0, .ref b), (1, .int v)]) hx hb dX1_putInt_40 hl (k := 0) rfl (by decide +kernel) (by decide) rfl (fun ls hl => ?_)
  show W p l e ROOM_X1_putInt s m [.ref b, .int v].toArray below meth c H locs 0 0 (MQ below (va_Qv (fun (u : zU) => u = ([(b, .inr (3, [.ref d, .int (nI f), .int (nI (n + 4)), .int cu, .int bd, .int ts]))], L, T)) (zB D vwCl (zT K) A X) A) [.ref b, .int v].toArray s 0 0 A) (F0 m 43 ls [])
  refine lv_goto (tgt := 8) hx hb dX1_putInt_43 (by decide) ?_
  refine lv_iload_n hx hb dX1_putInt_8 rfl (lv_at hl 0 rfl) ?_
  refine lv_if_lt (tgt := 46) hx hb dX1_putInt_9 (by decide) (fun c9 => absurd c9 (by decide +kernel)) (fun c9 => ?_)
  clear c9
  refine lv_aload_n hx hb dX1_putInt_12 rfl (lv_at hl 1 rfl) ?_
  refine z_getY (own := RX1) (C := RX1) (TT := TX1) (N := 6) (ci := 3) (Ts := WR) hx hb hts zin_wsX10 hown hK hZ 0 rfl rfl 0 (by decide) (hts _ zw_493) (fun _ h9 => h9) rfl dX1_putInt_13 ?_
  refine lv_aload_n hx hb dX1_putInt_16 rfl (lv_at hl 1 rfl) ?_
  refine z_getY (own := RX1) (C := RX1) (TT := TX1) (N := 6) (ci := 3) (Ts := WR) hx hb hts zin_wsX10 hown hK hZ 0 rfl rfl 1 (by decide) (hts _ zw_496) (fun _ h9 => h9) rfl dX1_putInt_17 ?_
  refine lv_aload_n hx hb dX1_putInt_20 rfl (lv_at hl 1 rfl) ?_
  refine z_getY (own := RX1) (C := RX1) (TT := TX1) (N := 6) (ci := 3) (Ts := WR) hx hb hts zin_wsX10 hown hK hZ 0 rfl rfl 2 (by decide) (hts _ zw_497) (fun _ h9 => h9) rfl dX1_putInt_21 ?_
  refine lv_iadd hx hb dX1_putInt_24 ?_
  refine lv_topi (fun x6 ex6 => ?_)
  obtain rfl : x6 = nI (f + (n + 1)) := ex6.trans (nI_add f (n + 1))
  refine lv_iload_n hx hb dX1_putInt_25 rfl (lv_at hl 2 rfl) ?_
  refine lv_iload_n hx hb dX1_putInt_26 rfl (lv_at hl 0 rfl) ?_
  refine lv_iushr hx hb dX1_putInt_27 rfl ?_
  refine lv_topi (fun x7 ex7 => ?_)
  refine lv_i2b hx hb dX1_putInt_28 rfl ?_
  refine lv_topi (fun x8 ex8 => ?_)
  refine z_bast hx hb hK hZ hS 2 h_d k_d rfl (vp_in_nI (by omega) (by omega)) dX1_putInt_29 (fun H locs hZ hS => ?_)
  refine lv_aload_n hx hb dX1_putInt_30 rfl (lv_at hl 1 rfl) ?_
  refine lv_dup hx hb dX1_putInt_31 rfl ?_
  refine z_getY (own := RX1) (C := RX1) (TT := TX1) (N := 6) (ci := 3) (Ts := WR) hx hb hts zin_wsX10 hown hK hZ 0 rfl rfl 2 (by decide) (hts _ zw_497) (fun _ h9 => h9) rfl dX1_putInt_32 ?_
  refine lv_iconst (v := nI 1) hx hb dX1_putInt_35 (by decide +kernel) ?_
  refine lv_iadd hx hb dX1_putInt_36 ?_
  refine lv_topi (fun x9 ex9 => ?_)
  obtain rfl : x9 = nI ((n + 1) + 1) := ex9.trans (nI_add (n + 1) 1)
  refine z_put (own := RX1) (C := RX1) (TT := TX1) (N := 6) (ci := 3) (Ts := WR) (v := .int (nI ((n + 1) + 1))) (ty := .int) hx hb hts zin_wsX10 tyX1 tyX1_ok nmX1 hown hK hZ hS 0 rfl rfl 2 (by decide) (hts _ zw_497) (fun _ h9 => h9) rfl (by decide +kernel) rfl rfl (Nat.le_of_ble_eq_true rfl) dX1_putInt_37 (fun H locs hZ hS => ?_)
  have hZ : zP D vwCl A X [(b, .inr (3, [.ref d, .int (nI f), .int (nI ((n + 1) + 1)), .int cu, .int bd, .int ts]))] L T H := hZ
  refine lv_iinc (v := nI 8) (lv' := [(2, .int (nI 8)), (0, .ref b), (1, .int v)]) hx hb dX1_putInt_40 hl (k := 0) rfl (by decide +kernel) (by decide) rfl (fun ls hl => ?_)
  show W p l e ROOM_X1_putInt s m [.ref b, .int v].toArray below meth c H locs 0 0 (MQ below (va_Qv (fun (u : zU) => u = ([(b, .inr (3, [.ref d, .int (nI f), .int (nI (n + 4)), .int cu, .int bd, .int ts]))], L, T)) (zB D vwCl (zT K) A X) A) [.ref b, .int v].toArray s 0 0 A) (F0 m 43 ls [])
  refine lv_goto (tgt := 8) hx hb dX1_putInt_43 (by decide) ?_
  refine lv_iload_n hx hb dX1_putInt_8 rfl (lv_at hl 0 rfl) ?_
  refine lv_if_lt (tgt := 46) hx hb dX1_putInt_9 (by decide) (fun c9 => absurd c9 (by decide +kernel)) (fun c9 => ?_)
  clear c9
  refine lv_aload_n hx hb dX1_putInt_12 rfl (lv_at hl 1 rfl) ?_
  refine z_getY (own := RX1) (C := RX1) (TT := TX1) (N := 6) (ci := 3) (Ts := WR) hx hb hts zin_wsX10 hown hK hZ 0 rfl rfl 0 (by decide) (hts _ zw_493) (fun _ h9 => h9) rfl dX1_putInt_13 ?_
  refine lv_aload_n hx hb dX1_putInt_16 rfl (lv_at hl 1 rfl) ?_
  refine z_getY (own := RX1) (C := RX1) (TT := TX1) (N := 6) (ci := 3) (Ts := WR) hx hb hts zin_wsX10 hown hK hZ 0 rfl rfl 1 (by decide) (hts _ zw_496) (fun _ h9 => h9) rfl dX1_putInt_17 ?_
  refine lv_aload_n hx hb dX1_putInt_20 rfl (lv_at hl 1 rfl) ?_
  refine z_getY (own := RX1) (C := RX1) (TT := TX1) (N := 6) (ci := 3) (Ts := WR) hx hb hts zin_wsX10 hown hK hZ 0 rfl rfl 2 (by decide) (hts _ zw_497) (fun _ h9 => h9) rfl dX1_putInt_21 ?_
  refine lv_iadd hx hb dX1_putInt_24 ?_
  refine lv_topi (fun x10 ex10 => ?_)
  obtain rfl : x10 = nI (f + ((n + 1) + 1)) := ex10.trans (nI_add f ((n + 1) + 1))
  refine lv_iload_n hx hb dX1_putInt_25 rfl (lv_at hl 2 rfl) ?_
  refine lv_iload_n hx hb dX1_putInt_26 rfl (lv_at hl 0 rfl) ?_
  refine lv_iushr hx hb dX1_putInt_27 rfl ?_
  refine lv_topi (fun x11 ex11 => ?_)
  refine lv_i2b hx hb dX1_putInt_28 rfl ?_
  refine lv_topi (fun x12 ex12 => ?_)
  refine z_bast hx hb hK hZ hS 2 h_d k_d rfl (vp_in_nI (by omega) (by omega)) dX1_putInt_29 (fun H locs hZ hS => ?_)
  refine lv_aload_n hx hb dX1_putInt_30 rfl (lv_at hl 1 rfl) ?_
  refine lv_dup hx hb dX1_putInt_31 rfl ?_
  refine z_getY (own := RX1) (C := RX1) (TT := TX1) (N := 6) (ci := 3) (Ts := WR) hx hb hts zin_wsX10 hown hK hZ 0 rfl rfl 2 (by decide) (hts _ zw_497) (fun _ h9 => h9) rfl dX1_putInt_32 ?_
  refine lv_iconst (v := nI 1) hx hb dX1_putInt_35 (by decide +kernel) ?_
  refine lv_iadd hx hb dX1_putInt_36 ?_
  refine lv_topi (fun x13 ex13 => ?_)
  obtain rfl : x13 = nI (((n + 1) + 1) + 1) := ex13.trans (nI_add ((n + 1) + 1) 1)
  refine z_put (own := RX1) (C := RX1) (TT := TX1) (N := 6) (ci := 3) (Ts := WR) (v := .int (nI (((n + 1) + 1) + 1))) (ty := .int) hx hb hts zin_wsX10 tyX1 tyX1_ok nmX1 hown hK hZ hS 0 rfl rfl 2 (by decide) (hts _ zw_497) (fun _ h9 => h9) rfl (by decide +kernel) rfl rfl (Nat.le_of_ble_eq_true rfl) dX1_putInt_37 (fun H locs hZ hS => ?_)
  have hZ : zP D vwCl A X [(b, .inr (3, [.ref d, .int (nI f), .int (nI (((n + 1) + 1) + 1)), .int cu, .int bd, .int ts]))] L T H := hZ
  refine lv_iinc (v := nI 0) (lv' := [(2, .int (nI 0)), (0, .ref b), (1, .int v)]) hx hb dX1_putInt_40 hl (k := 0) rfl (by decide +kernel) (by decide) rfl (fun ls hl => ?_)
  show W p l e ROOM_X1_putInt s m [.ref b, .int v].toArray below meth c H locs 0 0 (MQ below (va_Qv (fun (u : zU) => u = ([(b, .inr (3, [.ref d, .int (nI f), .int (nI (n + 4)), .int cu, .int bd, .int ts]))], L, T)) (zB D vwCl (zT K) A X) A) [.ref b, .int v].toArray s 0 0 A) (F0 m 43 ls [])
  refine lv_goto (tgt := 8) hx hb dX1_putInt_43 (by decide) ?_
  refine lv_iload_n hx hb dX1_putInt_8 rfl (lv_at hl 0 rfl) ?_
  refine lv_if_lt (tgt := 46) hx hb dX1_putInt_9 (by decide) (fun c9 => absurd c9 (by decide +kernel)) (fun c9 => ?_)
  clear c9
  refine lv_aload_n hx hb dX1_putInt_12 rfl (lv_at hl 1 rfl) ?_
  refine z_getY (own := RX1) (C := RX1) (TT := TX1) (N := 6) (ci := 3) (Ts := WR) hx hb hts zin_wsX10 hown hK hZ 0 rfl rfl 0 (by decide) (hts _ zw_493) (fun _ h9 => h9) rfl dX1_putInt_13 ?_
  refine lv_aload_n hx hb dX1_putInt_16 rfl (lv_at hl 1 rfl) ?_
  refine z_getY (own := RX1) (C := RX1) (TT := TX1) (N := 6) (ci := 3) (Ts := WR) hx hb hts zin_wsX10 hown hK hZ 0 rfl rfl 1 (by decide) (hts _ zw_496) (fun _ h9 => h9) rfl dX1_putInt_17 ?_
  refine lv_aload_n hx hb dX1_putInt_20 rfl (lv_at hl 1 rfl) ?_
  refine z_getY (own := RX1) (C := RX1) (TT := TX1) (N := 6) (ci := 3) (Ts := WR) hx hb hts zin_wsX10 hown hK hZ 0 rfl rfl 2 (by decide) (hts _ zw_497) (fun _ h9 => h9) rfl dX1_putInt_21 ?_
  refine lv_iadd hx hb dX1_putInt_24 ?_
  refine lv_topi (fun x14 ex14 => ?_)
  obtain rfl : x14 = nI (f + (((n + 1) + 1) + 1)) := ex14.trans (nI_add f (((n + 1) + 1) + 1))
  refine lv_iload_n hx hb dX1_putInt_25 rfl (lv_at hl 2 rfl) ?_
  refine lv_iload_n hx hb dX1_putInt_26 rfl (lv_at hl 0 rfl) ?_
  refine lv_iushr hx hb dX1_putInt_27 rfl ?_
  refine lv_topi (fun x15 ex15 => ?_)
  refine lv_i2b hx hb dX1_putInt_28 rfl ?_
  refine lv_topi (fun x16 ex16 => ?_)
  refine z_bast hx hb hK hZ hS 2 h_d k_d rfl (vp_in_nI (by omega) (by omega)) dX1_putInt_29 (fun H locs hZ hS => ?_)
  refine lv_aload_n hx hb dX1_putInt_30 rfl (lv_at hl 1 rfl) ?_
  refine lv_dup hx hb dX1_putInt_31 rfl ?_
  refine z_getY (own := RX1) (C := RX1) (TT := TX1) (N := 6) (ci := 3) (Ts := WR) hx hb hts zin_wsX10 hown hK hZ 0 rfl rfl 2 (by decide) (hts _ zw_497) (fun _ h9 => h9) rfl dX1_putInt_32 ?_
  refine lv_iconst (v := nI 1) hx hb dX1_putInt_35 (by decide +kernel) ?_
  refine lv_iadd hx hb dX1_putInt_36 ?_
  refine lv_topi (fun x17 ex17 => ?_)
  obtain rfl : x17 = nI ((((n + 1) + 1) + 1) + 1) := ex17.trans (nI_add (((n + 1) + 1) + 1) 1)
  refine z_put (own := RX1) (C := RX1) (TT := TX1) (N := 6) (ci := 3) (Ts := WR) (v := .int (nI ((((n + 1) + 1) + 1) + 1))) (ty := .int) hx hb hts zin_wsX10 tyX1 tyX1_ok nmX1 hown hK hZ hS 0 rfl rfl 2 (by decide) (hts _ zw_497) (fun _ h9 => h9) rfl (by decide +kernel) rfl rfl (Nat.le_of_ble_eq_true rfl) dX1_putInt_37 (fun H locs hZ hS => ?_)
  have hZ : zP D vwCl A X [(b, .inr (3, [.ref d, .int (nI f), .int (nI ((((n + 1) + 1) + 1) + 1)), .int cu, .int bd, .int ts]))] L T H := hZ
  refine lv_iinc (v := (-8)) (lv' := [(2, .int (-8)), (0, .ref b), (1, .int v)]) hx hb dX1_putInt_40 hl (k := 0) rfl (by decide +kernel) (by decide) rfl (fun ls hl => ?_)
  show W p l e ROOM_X1_putInt s m [.ref b, .int v].toArray below meth c H locs 0 0 (MQ below (va_Qv (fun (u : zU) => u = ([(b, .inr (3, [.ref d, .int (nI f), .int (nI (n + 4)), .int cu, .int bd, .int ts]))], L, T)) (zB D vwCl (zT K) A X) A) [.ref b, .int v].toArray s 0 0 A) (F0 m 43 ls [])
  refine lv_goto (tgt := 8) hx hb dX1_putInt_43 (by decide) ?_
  refine lv_iload_n hx hb dX1_putInt_8 rfl (lv_at hl 0 rfl) ?_
  refine lv_if_lt (tgt := 46) hx hb dX1_putInt_9 (by decide) (fun c9 => ?_) (fun c9 => absurd c9 (by decide +kernel))
  clear c9
  have hZ : zP D vwCl A X [(b, .inr (3, [.ref d, .int (nI f), .int (nI (n + 4)), .int cu, .int bd, .int ts]))] L T H := (congrArg (fun q9 : Nat => zP D vwCl A X [(b, .inr (3, [.ref d, .int (nI f), .int (nI q9), .int cu, .int bd, .int ts]))] L T H) (show (((((n + 1) + 1) + 1) + 1) : Nat) = (n + 4) by omega)).mp hZ
  exact z_vret hx hb hr hlocks hK hZ hS rfl (Nat.le_of_ble_eq_true rfl) (Nat.le_of_ble_eq_true rfl) dX1_putInt_46
abbrev ROOM_X1_putText : Room := { frames := 5, cells := 0, slots := 0, locals := 85 }
set_option maxHeartbeats 4000000 in
set_option maxRecDepth 100000 in
/-- putText -/
theorem c_X1_putText (E : zEn) (l : Launch) (D : va_G) (K : Nat → ClassId) (X : va_W) (L : List Nat) (T : Nat → va_E → Prop) {b : Nat} {tx v_tx n_tx : Nat} {d : Nat} {f n N : Nat} {cu bd ts : Int32} (h_tx : (tx, v_tx, n_tx) ∈ E.2.2.2) (b_tx : n_tx < 2147483648) (h_d : d ∈ L) (k_d : T d = zI (K 2) N) (hr : f + n + n_tx ≤ N) (hN : N < 2147483648) (hSA : zSA E) : zV E l D vwCl (zT K) yX1_putText (zws yX1_putText cX1_putText 3 none) ROOM_X1_putText 0 0 [.ref b, .ref tx] X [(b, .inr (3, [.ref d, .int (nI f), .int (nI n), .int cu, .int bd, .int ts]))] L T (fun (u : zU) => u = ([(b, .inr (3, [.ref d, .int (nI f), .int (nI (n + n_tx)), .int cu, .int bd, .int ts]))], L, T)) := by
  refine z_ofW (E := E) (Qc := fun A => va_Qv (fun (u : zU) => u = ([(b, .inr (3, [.ref d, .int (nI f), .int (nI (n + n_tx)), .int cu, .int bd, .int ts]))], L, T)) (zB D vwCl (zT K) A X) A) (cc := cX1_putText) (maxL := 3) (ret := none) (by decide +kernel) rfl (Nat.le_of_ble_eq_true rfl) ?_
  intro p e s m below meth c A ls hx hb hml hr hts hown hlocks hin hA hK hZ hS hE hl
  have hown : s.vm.findClass RX1 = some m.cls := hown
  have hts : ∀ w ∈ WR, w.before [.ref b, .ref tx].toArray s = true := fun w h => hts w (List.mem_cons_of_mem _ h)
  have hl : lv_has ls 3 [(0, .ref b), (1, .ref tx)] := hl
  obtain ⟨H, hH⟩ : ∃ H, H = s.heap := ⟨_, rfl⟩
  have hZ : zP D vwCl A X [(b, .inr (3, [.ref d, .int (nI f), .int (nI n), .int cu, .int bd, .int ts]))] L T H := by rw [hH]; exact hZ
  obtain ⟨locs, hlc⟩ : ∃ q : List Loc, q = [] := ⟨_, rfl⟩
  have hS : va_S A s.heap H locs := by rw [hH, hlc]; exact hS
  suffices hW : W p l e ROOM_X1_putText s m [.ref b, .ref tx].toArray below meth c H locs 0 0 (MQ below (va_Qv (fun (u : zU) => u = ([(b, .inr (3, [.ref d, .int (nI f), .int (nI (n + n_tx)), .int cu, .int bd, .int ts]))], L, T)) (zB D vwCl (zT K) A X) A) [.ref b, .ref tx].toArray s 0 0 A) (F0 m 0 ls []) by rw [hH, hlc] at hW; exact hW
  clear hH hlc
  refine lv_aload_n hx hb dX1_putText_0 rfl (lv_at hl 0 rfl) ?_
  refine lv_aload_n hx hb dX1_putText_1 rfl (lv_at hl 1 rfl) ?_
  have rv1 : ∃ cell : Cell, H[tx]? = some cell ∧ cell.vm.isStatics = false ∧ s.vm.findClass RJ0 = some cell.cls := z_recvS hE h_tx hS
  refine z_goI (va_runV (As := []) (rest := [.ref b]) ⟨hx, hb, hml, hown, hts⟩ ((c_J0_length_8abf5 E l D K X [(b, .inr (3, [.ref d, .int (nI f), .int (nI n), .int cu, .int bd, .int ts]))] L T h_tx (by omega) hSA) H.size) (cwV 0 hts (zg_V zw_515 zw_315 zw_316 zw_317 zw_314) rfl rfl rfl (by decide +kernel) ⟨Nat.le_of_ble_eq_true rfl, Nat.le_of_ble_eq_true rfl⟩) (z_preV hK hZ hS hA hE rv1) rfl rfl hl.1 rfl (lv_room (Nat.le_of_ble_eq_true rfl)) dX1_putText_2 ⟨Nat.le_of_ble_eq_true rfl, Nat.le_of_ble_eq_true rfl⟩) hZ hS hA (fun x2 Y1 L1 T1 H locs hp hZ hS => ?_)
  obtain ⟨hres, hp⟩ := hp
  cases hp
  obtain rfl : x2 = nI n_tx := hres
  have rv3 : ∃ cell : Cell, H[b]? = some cell ∧ cell.vm.isStatics = false ∧ s.vm.findClass RX1 = some cell.cls := z_recvY hK hZ 0 rfl rfl
  have hZc := zP.into (Y1 := []) (Y2 := [(b, .inr (3, [.ref d, .int (nI f), .int (nI n), .int cu, .int bd, .int ts]))]) hZ
  refine z_goV (va_runV (As := [.int (nI n_tx)]) (rest := []) ⟨hx, hb, hml, hown, hts⟩ ((c_X1_makeRoom E l D K (X ++ []) L T (by omega) h_d k_d (by omega) (by omega)) H.size) (cwV 1 hts (zg_V zw_509 zw_502 zw_510 zw_488 zw_501) rfl rfl rfl (by decide +kernel) ⟨Nat.le_of_ble_eq_true rfl, Nat.le_of_ble_eq_true rfl⟩) (z_preV hK hZc hS hA hE rv3) rfl rfl hl.1 rfl (lv_room (Nat.le_of_ble_eq_true rfl)) dX1_putText_5 ⟨Nat.le_of_ble_eq_true rfl, Nat.le_of_ble_eq_true rfl⟩) hZc hS hA (fun  Y1 L1 T1 H locs hp hZ hS => ?_)
  cases hp
  have hZ : zP D vwCl A X [(b, .inr (3, [.ref d, .int (nI f), .int (nI n), .int cu, .int bd, .int ts]))] L T H := zP.back hZ
  refine lv_iconst (v := nI 0) hx hb dX1_putText_8 (by decide +kernel) ?_
  refine lv_istore_n (lv' := [(2, .int (nI 0)), (0, .ref b), (1, .ref tx)]) hx hb dX1_putText_9 rfl hl (by decide) rfl (fun ls hl => ?_)
  have L10_ : ∀ (n9 i10 : Nat), i10 ≤ n_tx → n_tx + 1 ≤ i10 + n9 → ∀   (H : Heap) (locs : List Loc) (ls : Array Slot), zP D vwCl A X [(b, .inr (3, [.ref d, .int (nI f), .int (nI (n + i10)), .int cu, .int bd, .int ts]))] L T H → va_S A s.heap H locs → lv_has ls 3 [(2, .int (nI i10)), (0, .ref b), (1, .ref tx)] → W p l e ROOM_X1_putText s m [.ref b, .ref tx].toArray below meth c H locs 0 0 (MQ below (va_Qv (fun (u : zU) => u = ([(b, .inr (3, [.ref d, .int (nI f), .int (nI (n + n_tx)), .int cu, .int bd, .int ts]))], L, T)) (zB D vwCl (zT K) A X) A) [.ref b, .ref tx].toArray s 0 0 A) (F0 m 10 ls []) := by
    intro n9
    induction n9 with
    | zero => intro i10 u10 w10; exact absurd w10 (by omega)
    | succ n9 ih10 =>
      intro i10 u10 w10  H locs ls hZ hS hl 
      refine lv_iload_n hx hb dX1_putText_10 rfl (lv_at hl 0 rfl) ?_
      refine lv_aload_n hx hb dX1_putText_11 rfl (lv_at hl 2 rfl) ?_
      have rv4 : ∃ cell : Cell, H[tx]? = some cell ∧ cell.vm.isStatics = false ∧ s.vm.findClass RJ0 = some cell.cls := z_recvS hE h_tx hS
      refine z_goI (va_runV (As := []) (rest := [.int (nI i10)]) ⟨hx, hb, hml, hown, hts⟩ ((c_J0_length_8abf5 E l D K X [(b, .inr (3, [.ref d, .int (nI f), .int (nI (n + i10)), .int cu, .int bd, .int ts]))] L T h_tx (by omega) hSA) H.size) (cwV 0 hts (zg_V zw_515 zw_315 zw_316 zw_317 zw_314) rfl rfl rfl (by decide +kernel) ⟨Nat.le_of_ble_eq_true rfl, Nat.le_of_ble_eq_true rfl⟩) (z_preV hK hZ hS hA hE rv4) rfl rfl hl.1 rfl (lv_room (Nat.le_of_ble_eq_true rfl)) dX1_putText_12 ⟨Nat.le_of_ble_eq_true rfl, Nat.le_of_ble_eq_true rfl⟩) hZ hS hA (fun x5 Y1 L1 T1 H locs hp hZ hS => ?_)
      obtain ⟨hres, hp⟩ := hp
      cases hp
      obtain rfl : x5 = nI n_tx := hres
      refine lv_icmp_ge (tgt := 54) hx hb dX1_putText_15 (by decide) (fun c15 => ?_) (fun c15 => ?_)
      · have e15 : n_tx ≤ i10 := (nI_leI (a := n_tx) (b := i10) (by omega) (by omega)).mp c15
        have hZ : zP D vwCl A X [(b, .inr (3, [.ref d, .int (nI f), .int (nI (n + n_tx)), .int cu, .int bd, .int ts]))] L T H := (congrArg (fun q9 : Nat => zP D vwCl A X [(b, .inr (3, [.ref d, .int (nI f), .int (nI q9), .int cu, .int bd, .int ts]))] L T H) (show ((n + i10) : Nat) = (n + n_tx) by omega)).mp hZ
        exact z_vret hx hb hr hlocks hK hZ hS rfl (Nat.le_of_ble_eq_true rfl) (Nat.le_of_ble_eq_true rfl) dX1_putText_54
      · have e15 : ¬ n_tx ≤ i10 := fun q => c15 ((nI_leI (a := n_tx) (b := i10) (by omega) (by omega)).mpr q)
        refine lv_aload_n hx hb dX1_putText_18 rfl (lv_at hl 1 rfl) ?_
        refine z_getY (own := RX1) (C := RX1) (TT := TX1) (N := 6) (ci := 3) (Ts := WR) hx hb hts zin_wsX10 hown hK hZ 0 rfl rfl 0 (by decide) (hts _ zw_493) (fun _ h9 => h9) rfl dX1_putText_19 ?_
        refine lv_aload_n hx hb dX1_putText_22 rfl (lv_at hl 1 rfl) ?_
        refine z_getY (own := RX1) (C := RX1) (TT := TX1) (N := 6) (ci := 3) (Ts := WR) hx hb hts zin_wsX10 hown hK hZ 0 rfl rfl 1 (by decide) (hts _ zw_496) (fun _ h9 => h9) rfl dX1_putText_23 ?_
        refine lv_aload_n hx hb dX1_putText_26 rfl (lv_at hl 1 rfl) ?_
        refine z_getY (own := RX1) (C := RX1) (TT := TX1) (N := 6) (ci := 3) (Ts := WR) hx hb hts zin_wsX10 hown hK hZ 0 rfl rfl 2 (by decide) (hts _ zw_497) (fun _ h9 => h9) rfl dX1_putText_27 ?_
        refine lv_iadd hx hb dX1_putText_30 ?_
        refine lv_topi (fun x6 ex6 => ?_)
        obtain rfl : x6 = nI (f + (n + i10)) := ex6.trans (nI_add f (n + i10))
        refine lv_aload_n hx hb dX1_putText_31 rfl (lv_at hl 2 rfl) ?_
        refine lv_iload_n hx hb dX1_putText_32 rfl (lv_at hl 0 rfl) ?_
        have rv7 : ∃ cell : Cell, H[tx]? = some cell ∧ cell.vm.isStatics = false ∧ s.vm.findClass RJ0 = some cell.cls := z_recvS hE h_tx hS
        refine z_goI (va_runV (As := [.int (nI i10)]) (rest := [.int (nI (f + (n + i10))), .ref d]) ⟨hx, hb, hml, hown, hts⟩ ((c_J0_charAt_5068e E l D K X [(b, .inr (3, [.ref d, .int (nI f), .int (nI (n + i10)), .int cu, .int bd, .int ts]))] L T h_tx (by omega) (by omega) (by omega) hSA) H.size) (cwV 1 hts (zg_V zw_516 zw_320 zw_321 zw_317 zw_319) rfl rfl rfl (by decide +kernel) ⟨Nat.le_of_ble_eq_true rfl, Nat.le_of_ble_eq_true rfl⟩) (z_preV hK hZ hS hA hE rv7) rfl rfl hl.1 rfl (lv_room (Nat.le_of_ble_eq_true rfl)) dX1_putText_33 ⟨Nat.le_of_ble_eq_true rfl, Nat.le_of_ble_eq_true rfl⟩) hZ hS hA (fun x8 Y1 L1 T1 H locs hp hZ hS => ?_)
        obtain ⟨hrespx8, hp⟩ := hp
        cases hp
        obtain ⟨j_x8, b_x8, rfl⟩ := hrespx8
        refine lv_i2b hx hb dX1_putText_36 rfl ?_
        refine lv_topi (fun x9 ex9 => ?_)
        refine z_bast hx hb hK hZ hS 2 h_d k_d rfl (vp_in_nI (by omega) (by omega)) dX1_putText_37 (fun H locs hZ hS => ?_)
        refine lv_aload_n hx hb dX1_putText_38 rfl (lv_at hl 1 rfl) ?_
        refine lv_dup hx hb dX1_putText_39 rfl ?_
        refine z_getY (own := RX1) (C := RX1) (TT := TX1) (N := 6) (ci := 3) (Ts := WR) hx hb hts zin_wsX10 hown hK hZ 0 rfl rfl 2 (by decide) (hts _ zw_497) (fun _ h9 => h9) rfl dX1_putText_40 ?_
        refine lv_iconst (v := nI 1) hx hb dX1_putText_43 (by decide +kernel) ?_
        refine lv_iadd hx hb dX1_putText_44 ?_
        refine lv_topi (fun x10 ex10 => ?_)
        obtain rfl : x10 = nI ((n + i10) + 1) := ex10.trans (nI_add (n + i10) 1)
        refine z_put (own := RX1) (C := RX1) (TT := TX1) (N := 6) (ci := 3) (Ts := WR) (v := .int (nI ((n + i10) + 1))) (ty := .int) hx hb hts zin_wsX10 tyX1 tyX1_ok nmX1 hown hK hZ hS 0 rfl rfl 2 (by decide) (hts _ zw_497) (fun _ h9 => h9) rfl (by decide +kernel) rfl rfl (Nat.le_of_ble_eq_true rfl) dX1_putText_45 (fun H locs hZ hS => ?_)
        have hZ : zP D vwCl A X [(b, .inr (3, [.ref d, .int (nI f), .int (nI ((n + i10) + 1)), .int cu, .int bd, .int ts]))] L T H := hZ
        refine lv_iinc (v := nI (i10 + 1)) (lv' := [(2, .int (nI (i10 + 1))), (0, .ref b), (1, .ref tx)]) hx hb dX1_putText_48 hl (k := 0) rfl (nI_add i10 1) (by decide) rfl (fun ls hl => ?_)
        show W p l e ROOM_X1_putText s m [.ref b, .ref tx].toArray below meth c H locs 0 0 (MQ below (va_Qv (fun (u : zU) => u = ([(b, .inr (3, [.ref d, .int (nI f), .int (nI (n + n_tx)), .int cu, .int bd, .int ts]))], L, T)) (zB D vwCl (zT K) A X) A) [.ref b, .ref tx].toArray s 0 0 A) (F0 m 51 ls [])
        refine lv_goto (tgt := 10) hx hb dX1_putText_51 (by decide) ?_
        exact ih10 (i10 + 1) (by omega) (by omega)   _ _ _ hZ hS (lv_sub hl [0, 1, 2] rfl) 
  exact L10_ (n_tx + 1) 0 (by omega) (by omega)   _ _ _ hZ hS (lv_sub hl [0, 1, 2] rfl) 
abbrev ROOM_X1_putName : Room := { frames := 6, cells := 0, slots := 0, locals := 107 }
set_option maxHeartbeats 4000000 in
set_option maxRecDepth 100000 in
/-- putName -/
theorem c_X1_putName (E : zEn) (l : Launch) (D : va_G) (K : Nat → ClassId) (X : va_W) (L : List Nat) (T : Nat → va_E → Prop) {b : Nat} {tx v_tx n_tx : Nat} {d : Nat} {f n N : Nat} {cu bd ts : Int32} (h_tx : (tx, v_tx, n_tx) ∈ E.2.2.2) (b_tx : n_tx < 2147483648) (h_d : d ∈ L) (k_d : T d = zI (K 2) N) (hr : f + n + (4 + n_tx) ≤ N) (hN : N < 2147483648) (hSA : zSA E) : zV E l D vwCl (zT K) yX1_putName (zws yX1_putName cX1_putName 2 none) ROOM_X1_putName 0 0 [.ref b, .ref tx] X [(b, .inr (3, [.ref d, .int (nI f), .int (nI n), .int cu, .int bd, .int ts]))] L T (fun (u : zU) => u = ([(b, .inr (3, [.ref d, .int (nI f), .int (nI (n + (4 + n_tx))), .int cu, .int bd, .int ts]))], L, T)) := by
  refine z_ofW (E := E) (Qc := fun A => va_Qv (fun (u : zU) => u = ([(b, .inr (3, [.ref d, .int (nI f), .int (nI (n + (4 + n_tx))), .int cu, .int bd, .int ts]))], L, T)) (zB D vwCl (zT K) A X) A) (cc := cX1_putName) (maxL := 2) (ret := none) (by decide +kernel) rfl (Nat.le_of_ble_eq_true rfl) ?_
  intro p e s m below meth c A ls hx hb hml hr hts hown hlocks hin hA hK hZ hS hE hl
  have hown : s.vm.findClass RX1 = some m.cls := hown
  have hts : ∀ w ∈ WR, w.before [.ref b, .ref tx].toArray s = true := fun w h => hts w (List.mem_cons_of_mem _ h)
  have hl : lv_has ls 2 [(0, .ref b), (1, .ref tx)] := hl
  obtain ⟨H, hH⟩ : ∃ H, H = s.heap := ⟨_, rfl⟩
  have hZ : zP D vwCl A X [(b, .inr (3, [.ref d, .int (nI f), .int (nI n), .int cu, .int bd, .int ts]))] L T H := by rw [hH]; exact hZ
  obtain ⟨locs, hlc⟩ : ∃ q : List Loc, q = [] := ⟨_, rfl⟩
  have hS : va_S A s.heap H locs := by rw [hH, hlc]; exact hS
  suffices hW : W p l e ROOM_X1_putName s m [.ref b, .ref tx].toArray below meth c H locs 0 0 (MQ below (va_Qv (fun (u : zU) => u = ([(b, .inr (3, [.ref d, .int (nI f), .int (nI (n + (4 + n_tx))), .int cu, .int bd, .int ts]))], L, T)) (zB D vwCl (zT K) A X) A) [.ref b, .ref tx].toArray s 0 0 A) (F0 m 0 ls []) by rw [hH, hlc] at hW; exact hW
  clear hH hlc
  refine lv_aload_n hx hb dX1_putName_0 rfl (lv_at hl 0 rfl) ?_
  refine lv_aload_n hx hb dX1_putName_1 rfl (lv_at hl 1 rfl) ?_
  have rv1 : ∃ cell : Cell, H[tx]? = some cell ∧ cell.vm.isStatics = false ∧ s.vm.findClass RJ0 = some cell.cls := z_recvS hE h_tx hS
  refine z_goI (va_runV (As := []) (rest := [.ref b]) ⟨hx, hb, hml, hown, hts⟩ ((c_J0_length_8abf5 E l D K X [(b, .inr (3, [.ref d, .int (nI f), .int (nI n), .int cu, .int bd, .int ts]))] L T h_tx (by omega) hSA) H.size) (cwV 0 hts (zg_V zw_515 zw_315 zw_316 zw_317 zw_314) rfl rfl rfl (by decide +kernel) ⟨Nat.le_of_ble_eq_true rfl, Nat.le_of_ble_eq_true rfl⟩) (z_preV hK hZ hS hA hE rv1) rfl rfl hl.1 rfl (lv_room (Nat.le_of_ble_eq_true rfl)) dX1_putName_2 ⟨Nat.le_of_ble_eq_true rfl, Nat.le_of_ble_eq_true rfl⟩) hZ hS hA (fun x2 Y1 L1 T1 H locs hp hZ hS => ?_)
  obtain ⟨hres, hp⟩ := hp
  cases hp
  obtain rfl : x2 = nI n_tx := hres
  have rv3 : ∃ cell : Cell, H[b]? = some cell ∧ cell.vm.isStatics = false ∧ s.vm.findClass RX1 = some cell.cls := z_recvY hK hZ 0 rfl rfl
  have hZc := zP.into (Y1 := []) (Y2 := [(b, .inr (3, [.ref d, .int (nI f), .int (nI n), .int cu, .int bd, .int ts]))]) hZ
  refine z_goV (va_runV (As := [.int (nI n_tx)]) (rest := []) ⟨hx, hb, hml, hown, hts⟩ ((c_X1_putInt E l D K (X ++ []) L T h_d k_d (by omega) (by omega)) H.size) (cwV 1 hts (zg_V zw_519 zw_512 zw_520 zw_488 zw_511) rfl rfl rfl (by decide +kernel) ⟨Nat.le_of_ble_eq_true rfl, Nat.le_of_ble_eq_true rfl⟩) (z_preV hK hZc hS hA hE rv3) rfl rfl hl.1 rfl (lv_room (Nat.le_of_ble_eq_true rfl)) dX1_putName_5 ⟨Nat.le_of_ble_eq_true rfl, Nat.le_of_ble_eq_true rfl⟩) hZc hS hA (fun  Y1 L1 T1 H locs hp hZ hS => ?_)
  cases hp
  have hZ : zP D vwCl A X [(b, .inr (3, [.ref d, .int (nI f), .int (nI (n + 4)), .int cu, .int bd, .int ts]))] L T H := zP.back hZ
  refine lv_aload_n hx hb dX1_putName_8 rfl (lv_at hl 0 rfl) ?_
  refine lv_aload_n hx hb dX1_putName_9 rfl (lv_at hl 1 rfl) ?_
  have rv4 : ∃ cell : Cell, H[b]? = some cell ∧ cell.vm.isStatics = false ∧ s.vm.findClass RX1 = some cell.cls := z_recvY hK hZ 0 rfl rfl
  have hZc := zP.into (Y1 := []) (Y2 := [(b, .inr (3, [.ref d, .int (nI f), .int (nI (n + 4)), .int cu, .int bd, .int ts]))]) hZ
  refine z_goV (va_runV (As := [.ref tx]) (rest := []) ⟨hx, hb, hml, hown, hts⟩ ((c_X1_putText E l D K (X ++ []) L T h_tx (by omega) h_d k_d (by omega) (by omega) hSA) H.size) (cwV 1 hts (zg_V zw_521 zw_514 zw_522 zw_488 zw_513) rfl rfl rfl (by decide +kernel) ⟨Nat.le_of_ble_eq_true rfl, Nat.le_of_ble_eq_true rfl⟩) (z_preV hK hZc hS hA hE rv4) rfl rfl hl.1 rfl (lv_room (Nat.le_of_ble_eq_true rfl)) dX1_putName_10 ⟨Nat.le_of_ble_eq_true rfl, Nat.le_of_ble_eq_true rfl⟩) hZc hS hA (fun  Y1 L1 T1 H locs hp hZ hS => ?_)
  cases hp
  have hZ : zP D vwCl A X [(b, .inr (3, [.ref d, .int (nI f), .int (nI ((n + 4) + n_tx)), .int cu, .int bd, .int ts]))] L T H := zP.back hZ
  have hZ : zP D vwCl A X [(b, .inr (3, [.ref d, .int (nI f), .int (nI (n + (4 + n_tx))), .int cu, .int bd, .int ts]))] L T H := (congrArg (fun q9 : Nat => zP D vwCl A X [(b, .inr (3, [.ref d, .int (nI f), .int (nI q9), .int cu, .int bd, .int ts]))] L T H) (show (((n + 4) + n_tx) : Nat) = (n + (4 + n_tx)) by omega)).mp hZ
  exact z_vret hx hb hr hlocks hK hZ hS rfl (Nat.le_of_ble_eq_true rfl) (Nat.le_of_ble_eq_true rfl) dX1_putName_13
abbrev ROOM_X1_cut : Room := { frames := 1, cells := 0, slots := 0, locals := 0 }
set_option maxHeartbeats 4000000 in
set_option maxRecDepth 100000 in
/-- cut(0) of nothing -/
theorem c_X1_cut (E : zEn) (l : Launch) (D : va_G) (K : Nat → ClassId) (X : va_W) (L : List Nat) (T : Nat → va_E → Prop) {b : Nat} {d f : Nat} {cu bd ts : Int32}   : zV E l D vwCl (zT K) yX1_cut (zws yX1_cut cX1_cut 2 none) ROOM_X1_cut 0 0 [.ref b, .int (nI 0)] X [(b, .inr (3, [.ref d, .int (nI f), .int (nI 0), .int cu, .int bd, .int ts]))] L T (fun (u : zU) => u = ([(b, .inr (3, [.ref d, .int (nI f), .int (nI 0), .int cu, .int bd, .int ts]))], L, T)) := by
  refine z_ofW (E := E) (Qc := fun A => va_Qv (fun (u : zU) => u = ([(b, .inr (3, [.ref d, .int (nI f), .int (nI 0), .int cu, .int bd, .int ts]))], L, T)) (zB D vwCl (zT K) A X) A) (cc := cX1_cut) (maxL := 2) (ret := none) (by decide +kernel) rfl (Nat.le_of_ble_eq_true rfl) ?_
  intro p e s m below meth c A ls hx hb hml hr hts hown hlocks hin hA hK hZ hS hE hl
  have hown : s.vm.findClass RX1 = some m.cls := hown
  have hts : ∀ w ∈ WR, w.before [.ref b, .int (nI 0)].toArray s = true := fun w h => hts w (List.mem_cons_of_mem _ h)
  have hl : lv_has ls 2 [(0, .ref b), (1, .int (nI 0))] := hl
  obtain ⟨H, hH⟩ : ∃ H, H = s.heap := ⟨_, rfl⟩
  have hZ : zP D vwCl A X [(b, .inr (3, [.ref d, .int (nI f), .int (nI 0), .int cu, .int bd, .int ts]))] L T H := by rw [hH]; exact hZ
  obtain ⟨locs, hlc⟩ : ∃ q : List Loc, q = [] := ⟨_, rfl⟩
  have hS : va_S A s.heap H locs := by rw [hH, hlc]; exact hS
  suffices hW : W p l e ROOM_X1_cut s m [.ref b, .int (nI 0)].toArray below meth c H locs 0 0 (MQ below (va_Qv (fun (u : zU) => u = ([(b, .inr (3, [.ref d, .int (nI f), .int (nI 0), .int cu, .int bd, .int ts]))], L, T)) (zB D vwCl (zT K) A X) A) [.ref b, .int (nI 0)].toArray s 0 0 A) (F0 m 0 ls []) by rw [hH, hlc] at hW; exact hW
  clear hH hlc
  refine lv_iload_n hx hb dX1_cut_0 rfl (lv_at hl 1 rfl) ?_
  refine lv_if_lt (tgt := 17) hx hb dX1_cut_1 (by decide) (fun c1 => absurd c1 (by decide +kernel)) (fun c1 => ?_)
  clear c1
  refine lv_iload_n hx hb dX1_cut_4 rfl (lv_at hl 1 rfl) ?_
  refine lv_aload_n hx hb dX1_cut_5 rfl (lv_at hl 0 rfl) ?_
  refine z_getY (own := RX1) (C := RX1) (TT := TX1) (N := 6) (ci := 3) (Ts := WR) hx hb hts zin_wsX10 hown hK hZ 0 rfl rfl 2 (by decide) (hts _ zw_497) (fun _ h9 => h9) rfl dX1_cut_6 ?_
  refine lv_icmp_ge (tgt := 17) hx hb dX1_cut_9 (by decide) (fun c9 => ?_) (fun c9 => absurd c9 (by decide +kernel))
  clear c9
  exact z_vret hx hb hr hlocks hK hZ hS rfl (Nat.le_of_ble_eq_true rfl) (Nat.le_of_ble_eq_true rfl) dX1_cut_17
end ZBY

section ZME
abbrev ROOM_X1_at_n0 : Room := { frames := 1, cells := 0, slots := 0, locals := 0 }
set_option maxHeartbeats 4000000 in
set_option maxRecDepth 100000 in
/-- at of nothing -/
theorem c_X1_at_n0 (E : zEn) (l : Launch) (D : va_G) (K : Nat → ClassId) (X Y : va_W) (L : List Nat) (T : Nat → va_E → Prop) {b : Nat}  (h_b : b ∈ L) (k_b : T b = zOp 3 zB0)  : zVi E l D vwCl (zT K) yX1_at (zws yX1_at cX1_at 2 (some .int)) ROOM_X1_at_n0 0 0 [.ref b, .int (nI 0)] X Y L T (fun (r : Int32) (u : zU) => r = nI 0 ∧ u = (Y, L, T)) := by
  refine z_ofW (E := E) (Qc := fun A => va_Qi (fun (r : Int32) (u : zU) => r = nI 0 ∧ u = (Y, L, T)) (zB D vwCl (zT K) A X) A) (cc := cX1_at) (maxL := 2) (ret := (some .int)) (by decide +kernel) rfl (Nat.le_of_ble_eq_true rfl) ?_
  intro p e s m below meth c A ls hx hb hml hr hts hown hlocks hin hA hK hZ hS hE hl
  have hown : s.vm.findClass RX1 = some m.cls := hown
  have hts : ∀ w ∈ WR, w.before [.ref b, .int (nI 0)].toArray s = true := fun w h => hts w (List.mem_cons_of_mem _ h)
  have hl : lv_has ls 2 [(0, .ref b), (1, .int (nI 0))] := hl
  obtain ⟨H, hH⟩ : ∃ H, H = s.heap := ⟨_, rfl⟩
  have hZ : zP D vwCl A X Y L T H := by rw [hH]; exact hZ
  obtain ⟨locs, hlc⟩ : ∃ q : List Loc, q = [] := ⟨_, rfl⟩
  have hS : va_S A s.heap H locs := by rw [hH, hlc]; exact hS
  suffices hW : W p l e ROOM_X1_at_n0 s m [.ref b, .int (nI 0)].toArray below meth c H locs 0 0 (MQ below (va_Qi (fun (r : Int32) (u : zU) => r = nI 0 ∧ u = (Y, L, T)) (zB D vwCl (zT K) A X) A) [.ref b, .int (nI 0)].toArray s 0 0 A) (F0 m 0 ls []) by rw [hH, hlc] at hW; exact hW
  clear hH hlc
  refine lv_iload_n hx hb dX1_at_0 rfl (lv_at hl 1 rfl) ?_
  refine lv_if_lt (tgt := 30) hx hb dX1_at_1 (by decide) (fun c1 => absurd c1 (by decide +kernel)) (fun c1 => ?_)
  clear c1
  refine lv_iload_n hx hb dX1_at_4 rfl (lv_at hl 1 rfl) ?_
  refine lv_aload_n hx hb dX1_at_5 rfl (lv_at hl 0 rfl) ?_
  refine z_getPp (own := RX1) (C := RX1) (TT := TX1) (N := 6) (ci := 3) (Ts := WR) (v := .int (nI 0)) hx hb hts zin_wsX10 hown hK hZ h_b k_b rfl 2 (by decide) (hts _ zw_497) (fun _ h9 => h9) (fun _ h => h) dX1_at_6 ?_
  refine lv_icmp_ge (tgt := 30) hx hb dX1_at_9 (by decide) (fun c9 => ?_) (fun c9 => absurd c9 (by decide +kernel))
  clear c9
  refine lv_iconst (v := nI 0) hx hb dX1_at_30 (by decide +kernel) ?_
  exact z_iret hx hb hr rfl hlocks hK hZ hS ⟨(by first | rfl | decide +kernel | exact congrArg nI (by omega)), rfl⟩ (Nat.le_of_ble_eq_true rfl) (Nat.le_of_ble_eq_true rfl) dX1_at_31
abbrev ROOM_X1_at_n1 : Room := { frames := 1, cells := 0, slots := 0, locals := 0 }
set_option maxHeartbeats 4000000 in
set_option maxRecDepth 100000 in
/-- at of nothing -/
theorem c_X1_at_n1 (E : zEn) (l : Launch) (D : va_G) (K : Nat → ClassId) (X Y : va_W) (L : List Nat) (T : Nat → va_E → Prop) {b : Nat}  (h_b : b ∈ L) (k_b : T b = zOp 3 zB0)  : zVi E l D vwCl (zT K) yX1_at (zws yX1_at cX1_at 2 (some .int)) ROOM_X1_at_n1 0 0 [.ref b, .int (nI 1)] X Y L T (fun (r : Int32) (u : zU) => r = nI 0 ∧ u = (Y, L, T)) := by
  refine z_ofW (E := E) (Qc := fun A => va_Qi (fun (r : Int32) (u : zU) => r = nI 0 ∧ u = (Y, L, T)) (zB D vwCl (zT K) A X) A) (cc := cX1_at) (maxL := 2) (ret := (some .int)) (by decide +kernel) rfl (Nat.le_of_ble_eq_true rfl) ?_
  intro p e s m below meth c A ls hx hb hml hr hts hown hlocks hin hA hK hZ hS hE hl
  have hown : s.vm.findClass RX1 = some m.cls := hown
  have hts : ∀ w ∈ WR, w.before [.ref b, .int (nI 1)].toArray s = true := fun w h => hts w (List.mem_cons_of_mem _ h)
  have hl : lv_has ls 2 [(0, .ref b), (1, .int (nI 1))] := hl
  obtain ⟨H, hH⟩ : ∃ H, H = s.heap := ⟨_, rfl⟩
  have hZ : zP D vwCl A X Y L T H := by rw [hH]; exact hZ
  obtain ⟨locs, hlc⟩ : ∃ q : List Loc, q = [] := ⟨_, rfl⟩
  have hS : va_S A s.heap H locs := by rw [hH, hlc]; exact hS
  suffices hW : W p l e ROOM_X1_at_n1 s m [.ref b, .int (nI 1)].toArray below meth c H locs 0 0 (MQ below (va_Qi (fun (r : Int32) (u : zU) => r = nI 0 ∧ u = (Y, L, T)) (zB D vwCl (zT K) A X) A) [.ref b, .int (nI 1)].toArray s 0 0 A) (F0 m 0 ls []) by rw [hH, hlc] at hW; exact hW
  clear hH hlc
  refine lv_iload_n hx hb dX1_at_0 rfl (lv_at hl 1 rfl) ?_
  refine lv_if_lt (tgt := 30) hx hb dX1_at_1 (by decide) (fun c1 => absurd c1 (by decide +kernel)) (fun c1 => ?_)
  clear c1
  refine lv_iload_n hx hb dX1_at_4 rfl (lv_at hl 1 rfl) ?_
  refine lv_aload_n hx hb dX1_at_5 rfl (lv_at hl 0 rfl) ?_
  refine z_getPp (own := RX1) (C := RX1) (TT := TX1) (N := 6) (ci := 3) (Ts := WR) (v := .int (nI 0)) hx hb hts zin_wsX10 hown hK hZ h_b k_b rfl 2 (by decide) (hts _ zw_497) (fun _ h9 => h9) (fun _ h => h) dX1_at_6 ?_
  refine lv_icmp_ge (tgt := 30) hx hb dX1_at_9 (by decide) (fun c9 => ?_) (fun c9 => absurd c9 (by decide +kernel))
  clear c9
  refine lv_iconst (v := nI 0) hx hb dX1_at_30 (by decide +kernel) ?_
  exact z_iret hx hb hr rfl hlocks hK hZ hS ⟨(by first | rfl | decide +kernel | exact congrArg nI (by omega)), rfl⟩ (Nat.le_of_ble_eq_true rfl) (Nat.le_of_ble_eq_true rfl) dX1_at_31
abbrev ROOM_X1_at_n2 : Room := { frames := 1, cells := 0, slots := 0, locals := 0 }
set_option maxHeartbeats 4000000 in
set_option maxRecDepth 100000 in
/-- at of nothing -/
theorem c_X1_at_n2 (E : zEn) (l : Launch) (D : va_G) (K : Nat → ClassId) (X Y : va_W) (L : List Nat) (T : Nat → va_E → Prop) {b : Nat}  (h_b : b ∈ L) (k_b : T b = zOp 3 zB0)  : zVi E l D vwCl (zT K) yX1_at (zws yX1_at cX1_at 2 (some .int)) ROOM_X1_at_n2 0 0 [.ref b, .int (nI 2)] X Y L T (fun (r : Int32) (u : zU) => r = nI 0 ∧ u = (Y, L, T)) := by
  refine z_ofW (E := E) (Qc := fun A => va_Qi (fun (r : Int32) (u : zU) => r = nI 0 ∧ u = (Y, L, T)) (zB D vwCl (zT K) A X) A) (cc := cX1_at) (maxL := 2) (ret := (some .int)) (by decide +kernel) rfl (Nat.le_of_ble_eq_true rfl) ?_
  intro p e s m below meth c A ls hx hb hml hr hts hown hlocks hin hA hK hZ hS hE hl
  have hown : s.vm.findClass RX1 = some m.cls := hown
  have hts : ∀ w ∈ WR, w.before [.ref b, .int (nI 2)].toArray s = true := fun w h => hts w (List.mem_cons_of_mem _ h)
  have hl : lv_has ls 2 [(0, .ref b), (1, .int (nI 2))] := hl
  obtain ⟨H, hH⟩ : ∃ H, H = s.heap := ⟨_, rfl⟩
  have hZ : zP D vwCl A X Y L T H := by rw [hH]; exact hZ
  obtain ⟨locs, hlc⟩ : ∃ q : List Loc, q = [] := ⟨_, rfl⟩
  have hS : va_S A s.heap H locs := by rw [hH, hlc]; exact hS
  suffices hW : W p l e ROOM_X1_at_n2 s m [.ref b, .int (nI 2)].toArray below meth c H locs 0 0 (MQ below (va_Qi (fun (r : Int32) (u : zU) => r = nI 0 ∧ u = (Y, L, T)) (zB D vwCl (zT K) A X) A) [.ref b, .int (nI 2)].toArray s 0 0 A) (F0 m 0 ls []) by rw [hH, hlc] at hW; exact hW
  clear hH hlc
  refine lv_iload_n hx hb dX1_at_0 rfl (lv_at hl 1 rfl) ?_
  refine lv_if_lt (tgt := 30) hx hb dX1_at_1 (by decide) (fun c1 => absurd c1 (by decide +kernel)) (fun c1 => ?_)
  clear c1
  refine lv_iload_n hx hb dX1_at_4 rfl (lv_at hl 1 rfl) ?_
  refine lv_aload_n hx hb dX1_at_5 rfl (lv_at hl 0 rfl) ?_
  refine z_getPp (own := RX1) (C := RX1) (TT := TX1) (N := 6) (ci := 3) (Ts := WR) (v := .int (nI 0)) hx hb hts zin_wsX10 hown hK hZ h_b k_b rfl 2 (by decide) (hts _ zw_497) (fun _ h9 => h9) (fun _ h => h) dX1_at_6 ?_
  refine lv_icmp_ge (tgt := 30) hx hb dX1_at_9 (by decide) (fun c9 => ?_) (fun c9 => absurd c9 (by decide +kernel))
  clear c9
  refine lv_iconst (v := nI 0) hx hb dX1_at_30 (by decide +kernel) ?_
  exact z_iret hx hb hr rfl hlocks hK hZ hS ⟨(by first | rfl | decide +kernel | exact congrArg nI (by omega)), rfl⟩ (Nat.le_of_ble_eq_true rfl) (Nat.le_of_ble_eq_true rfl) dX1_at_31
abbrev ROOM_X1_at_n3 : Room := { frames := 1, cells := 0, slots := 0, locals := 0 }
set_option maxHeartbeats 4000000 in
set_option maxRecDepth 100000 in
/-- at of nothing -/
theorem c_X1_at_n3 (E : zEn) (l : Launch) (D : va_G) (K : Nat → ClassId) (X Y : va_W) (L : List Nat) (T : Nat → va_E → Prop) {b : Nat}  (h_b : b ∈ L) (k_b : T b = zOp 3 zB0)  : zVi E l D vwCl (zT K) yX1_at (zws yX1_at cX1_at 2 (some .int)) ROOM_X1_at_n3 0 0 [.ref b, .int (nI 3)] X Y L T (fun (r : Int32) (u : zU) => r = nI 0 ∧ u = (Y, L, T)) := by
  refine z_ofW (E := E) (Qc := fun A => va_Qi (fun (r : Int32) (u : zU) => r = nI 0 ∧ u = (Y, L, T)) (zB D vwCl (zT K) A X) A) (cc := cX1_at) (maxL := 2) (ret := (some .int)) (by decide +kernel) rfl (Nat.le_of_ble_eq_true rfl) ?_
  intro p e s m below meth c A ls hx hb hml hr hts hown hlocks hin hA hK hZ hS hE hl
  have hown : s.vm.findClass RX1 = some m.cls := hown
  have hts : ∀ w ∈ WR, w.before [.ref b, .int (nI 3)].toArray s = true := fun w h => hts w (List.mem_cons_of_mem _ h)
  have hl : lv_has ls 2 [(0, .ref b), (1, .int (nI 3))] := hl
  obtain ⟨H, hH⟩ : ∃ H, H = s.heap := ⟨_, rfl⟩
  have hZ : zP D vwCl A X Y L T H := by rw [hH]; exact hZ
  obtain ⟨locs, hlc⟩ : ∃ q : List Loc, q = [] := ⟨_, rfl⟩
  have hS : va_S A s.heap H locs := by rw [hH, hlc]; exact hS
  suffices hW : W p l e ROOM_X1_at_n3 s m [.ref b, .int (nI 3)].toArray below meth c H locs 0 0 (MQ below (va_Qi (fun (r : Int32) (u : zU) => r = nI 0 ∧ u = (Y, L, T)) (zB D vwCl (zT K) A X) A) [.ref b, .int (nI 3)].toArray s 0 0 A) (F0 m 0 ls []) by rw [hH, hlc] at hW; exact hW
  clear hH hlc
  refine lv_iload_n hx hb dX1_at_0 rfl (lv_at hl 1 rfl) ?_
  refine lv_if_lt (tgt := 30) hx hb dX1_at_1 (by decide) (fun c1 => absurd c1 (by decide +kernel)) (fun c1 => ?_)
  clear c1
  refine lv_iload_n hx hb dX1_at_4 rfl (lv_at hl 1 rfl) ?_
  refine lv_aload_n hx hb dX1_at_5 rfl (lv_at hl 0 rfl) ?_
  refine z_getPp (own := RX1) (C := RX1) (TT := TX1) (N := 6) (ci := 3) (Ts := WR) (v := .int (nI 0)) hx hb hts zin_wsX10 hown hK hZ h_b k_b rfl 2 (by decide) (hts _ zw_497) (fun _ h9 => h9) (fun _ h => h) dX1_at_6 ?_
  refine lv_icmp_ge (tgt := 30) hx hb dX1_at_9 (by decide) (fun c9 => ?_) (fun c9 => absurd c9 (by decide +kernel))
  clear c9
  refine lv_iconst (v := nI 0) hx hb dX1_at_30 (by decide +kernel) ?_
  exact z_iret hx hb hr rfl hlocks hK hZ hS ⟨(by first | rfl | decide +kernel | exact congrArg nI (by omega)), rfl⟩ (Nat.le_of_ble_eq_true rfl) (Nat.le_of_ble_eq_true rfl) dX1_at_31
abbrev ROOM_X1_intAt_n : Room := { frames := 2, cells := 0, slots := 0, locals := 21 }
set_option maxHeartbeats 4000000 in
set_option maxRecDepth 100000 in
/-- intAt of nothing -/
theorem c_X1_intAt_n (E : zEn) (l : Launch) (D : va_G) (K : Nat → ClassId) (X Y : va_W) (L : List Nat) (T : Nat → va_E → Prop) {b : Nat}  (h_b : b ∈ L) (k_b : T b = zOp 3 zB0)  : zVi E l D vwCl (zT K) yX1_intAt (zws yX1_intAt cX1_intAt 2 (some .int)) ROOM_X1_intAt_n 0 0 [.ref b, .int (nI 0)] X Y L T (fun (r : Int32) (u : zU) => r = nI 0 ∧ u = (Y, L, T)) := by
  refine z_ofW (E := E) (Qc := fun A => va_Qi (fun (r : Int32) (u : zU) => r = nI 0 ∧ u = (Y, L, T)) (zB D vwCl (zT K) A X) A) (cc := cX1_intAt) (maxL := 2) (ret := (some .int)) (by decide +kernel) rfl (Nat.le_of_ble_eq_true rfl) ?_
  intro p e s m below meth c A ls hx hb hml hr hts hown hlocks hin hA hK hZ hS hE hl
  have hown : s.vm.findClass RX1 = some m.cls := hown
  have hts : ∀ w ∈ WR, w.before [.ref b, .int (nI 0)].toArray s = true := fun w h => hts w (List.mem_cons_of_mem _ h)
  have hl : lv_has ls 2 [(0, .ref b), (1, .int (nI 0))] := hl
  obtain ⟨H, hH⟩ : ∃ H, H = s.heap := ⟨_, rfl⟩
  have hZ : zP D vwCl A X Y L T H := by rw [hH]; exact hZ
  obtain ⟨locs, hlc⟩ : ∃ q : List Loc, q = [] := ⟨_, rfl⟩
  have hS : va_S A s.heap H locs := by rw [hH, hlc]; exact hS
  suffices hW : W p l e ROOM_X1_intAt_n s m [.ref b, .int (nI 0)].toArray below meth c H locs 0 0 (MQ below (va_Qi (fun (r : Int32) (u : zU) => r = nI 0 ∧ u = (Y, L, T)) (zB D vwCl (zT K) A X) A) [.ref b, .int (nI 0)].toArray s 0 0 A) (F0 m 0 ls []) by rw [hH, hlc] at hW; exact hW
  clear hH hlc
  refine lv_aload_n hx hb dX1_intAt_0 rfl (lv_at hl 0 rfl) ?_
  refine lv_iload_n hx hb dX1_intAt_1 rfl (lv_at hl 1 rfl) ?_
  have rv1 : ∃ cell : Cell, H[b]? = some cell ∧ cell.vm.isStatics = false ∧ s.vm.findClass RX1 = some cell.cls := z_recvPp hK hZ h_b k_b rfl
  refine z_goI (va_runV (As := [.int (nI 0)]) (rest := []) ⟨hx, hb, hml, hown, hts⟩ ((c_X1_at_n0 E l D K X Y L T h_b k_b) H.size) (cwV 1 hts (zg_V zw_531 zw_528 zw_532 zw_488 zw_527) rfl rfl rfl (by decide +kernel) ⟨Nat.le_of_ble_eq_true rfl, Nat.le_of_ble_eq_true rfl⟩) (z_preV hK hZ hS hA hE rv1) rfl rfl hl.1 rfl (lv_room (Nat.le_of_ble_eq_true rfl)) dX1_intAt_2 ⟨Nat.le_of_ble_eq_true rfl, Nat.le_of_ble_eq_true rfl⟩) hZ hS hA (fun x2 Y1 L1 T1 H locs hp hZ hS => ?_)
  obtain ⟨hres, hp⟩ := hp
  cases hp
  obtain rfl : x2 = nI 0 := hres
  refine lv_bipush (v := nI 24) hx hb dX1_intAt_5 (by decide +kernel) ?_
  refine lv_ishl hx hb dX1_intAt_7 ?_
  refine lv_topi (fun x3 ex3 => ?_)
  obtain rfl : x3 = nI 0 := ex3.trans (by decide +kernel)
  refine lv_aload_n hx hb dX1_intAt_8 rfl (lv_at hl 0 rfl) ?_
  refine lv_iload_n hx hb dX1_intAt_9 rfl (lv_at hl 1 rfl) ?_
  refine lv_iconst (v := nI 1) hx hb dX1_intAt_10 (by decide +kernel) ?_
  refine lv_iadd hx hb dX1_intAt_11 ?_
  refine lv_topi (fun x4 ex4 => ?_)
  obtain rfl : x4 = nI 1 := ex4.trans (by decide +kernel)
  have rv5 : ∃ cell : Cell, H[b]? = some cell ∧ cell.vm.isStatics = false ∧ s.vm.findClass RX1 = some cell.cls := z_recvPp hK hZ h_b k_b rfl
  refine z_goI (va_runV (As := [.int (nI 1)]) (rest := [.int (nI 0)]) ⟨hx, hb, hml, hown, hts⟩ ((c_X1_at_n1 E l D K X Y L T h_b k_b) H.size) (cwV 1 hts (zg_V zw_531 zw_528 zw_532 zw_488 zw_527) rfl rfl rfl (by decide +kernel) ⟨Nat.le_of_ble_eq_true rfl, Nat.le_of_ble_eq_true rfl⟩) (z_preV hK hZ hS hA hE rv5) rfl rfl hl.1 rfl (lv_room (Nat.le_of_ble_eq_true rfl)) dX1_intAt_12 ⟨Nat.le_of_ble_eq_true rfl, Nat.le_of_ble_eq_true rfl⟩) hZ hS hA (fun x6 Y1 L1 T1 H locs hp hZ hS => ?_)
  obtain ⟨hres, hp⟩ := hp
  cases hp
  obtain rfl : x6 = nI 0 := hres
  refine lv_bipush (v := nI 16) hx hb dX1_intAt_15 (by decide +kernel) ?_
  refine lv_ishl hx hb dX1_intAt_17 ?_
  refine lv_topi (fun x7 ex7 => ?_)
  obtain rfl : x7 = nI 0 := ex7.trans (by decide +kernel)
  refine lv_ior hx hb dX1_intAt_18 ?_
  refine lv_topi (fun x8 ex8 => ?_)
  obtain rfl : x8 = nI 0 := ex8.trans (by decide +kernel)
  refine lv_aload_n hx hb dX1_intAt_19 rfl (lv_at hl 0 rfl) ?_
  refine lv_iload_n hx hb dX1_intAt_20 rfl (lv_at hl 1 rfl) ?_
  refine lv_iconst (v := nI 2) hx hb dX1_intAt_21 (by decide +kernel) ?_
  refine lv_iadd hx hb dX1_intAt_22 ?_
  refine lv_topi (fun x9 ex9 => ?_)
  obtain rfl : x9 = nI 2 := ex9.trans (by decide +kernel)
  have rv10 : ∃ cell : Cell, H[b]? = some cell ∧ cell.vm.isStatics = false ∧ s.vm.findClass RX1 = some cell.cls := z_recvPp hK hZ h_b k_b rfl
  refine z_goI (va_runV (As := [.int (nI 2)]) (rest := [.int (nI 0)]) ⟨hx, hb, hml, hown, hts⟩ ((c_X1_at_n2 E l D K X Y L T h_b k_b) H.size) (cwV 1 hts (zg_V zw_531 zw_528 zw_532 zw_488 zw_527) rfl rfl rfl (by decide +kernel) ⟨Nat.le_of_ble_eq_true rfl, Nat.le_of_ble_eq_true rfl⟩) (z_preV hK hZ hS hA hE rv10) rfl rfl hl.1 rfl (lv_room (Nat.le_of_ble_eq_true rfl)) dX1_intAt_23 ⟨Nat.le_of_ble_eq_true rfl, Nat.le_of_ble_eq_true rfl⟩) hZ hS hA (fun x11 Y1 L1 T1 H locs hp hZ hS => ?_)
  obtain ⟨hres, hp⟩ := hp
  cases hp
  obtain rfl : x11 = nI 0 := hres
  refine lv_bipush (v := nI 8) hx hb dX1_intAt_26 (by decide +kernel) ?_
  refine lv_ishl hx hb dX1_intAt_28 ?_
  refine lv_topi (fun x12 ex12 => ?_)
  obtain rfl : x12 = nI 0 := ex12.trans (by decide +kernel)
  refine lv_ior hx hb dX1_intAt_29 ?_
  refine lv_topi (fun x13 ex13 => ?_)
  obtain rfl : x13 = nI 0 := ex13.trans (by decide +kernel)
  refine lv_aload_n hx hb dX1_intAt_30 rfl (lv_at hl 0 rfl) ?_
  refine lv_iload_n hx hb dX1_intAt_31 rfl (lv_at hl 1 rfl) ?_
  refine lv_iconst (v := nI 3) hx hb dX1_intAt_32 (by decide +kernel) ?_
  refine lv_iadd hx hb dX1_intAt_33 ?_
  refine lv_topi (fun x14 ex14 => ?_)
  obtain rfl : x14 = nI 3 := ex14.trans (by decide +kernel)
  have rv15 : ∃ cell : Cell, H[b]? = some cell ∧ cell.vm.isStatics = false ∧ s.vm.findClass RX1 = some cell.cls := z_recvPp hK hZ h_b k_b rfl
  refine z_goI (va_runV (As := [.int (nI 3)]) (rest := [.int (nI 0)]) ⟨hx, hb, hml, hown, hts⟩ ((c_X1_at_n3 E l D K X Y L T h_b k_b) H.size) (cwV 1 hts (zg_V zw_531 zw_528 zw_532 zw_488 zw_527) rfl rfl rfl (by decide +kernel) ⟨Nat.le_of_ble_eq_true rfl, Nat.le_of_ble_eq_true rfl⟩) (z_preV hK hZ hS hA hE rv15) rfl rfl hl.1 rfl (lv_room (Nat.le_of_ble_eq_true rfl)) dX1_intAt_34 ⟨Nat.le_of_ble_eq_true rfl, Nat.le_of_ble_eq_true rfl⟩) hZ hS hA (fun x16 Y1 L1 T1 H locs hp hZ hS => ?_)
  obtain ⟨hres, hp⟩ := hp
  cases hp
  obtain rfl : x16 = nI 0 := hres
  refine lv_ior hx hb dX1_intAt_37 ?_
  refine lv_topi (fun x17 ex17 => ?_)
  obtain rfl : x17 = nI 0 := ex17.trans (by decide +kernel)
  exact z_iret hx hb hr rfl hlocks hK hZ hS ⟨(by first | rfl | decide +kernel | exact congrArg nI (by omega)), rfl⟩ (Nat.le_of_ble_eq_true rfl) (Nat.le_of_ble_eq_true rfl) dX1_intAt_38
abbrev ROOM_X7_sessionStart : Room := { frames := 3, cells := 0, slots := 0, locals := 42 }
set_option maxHeartbeats 4000000 in
set_option maxRecDepth 100000 in
/-- sessionStart -/
theorem c_X7_sessionStart (E : zEn) (l : Launch) (D : va_G) (K : Nat → ClassId) (X Y : va_W) (L : List Nat) (T : Nat → va_E → Prop) {ex : Nat} {se : Nat} {li : Nat} (h_ex : ex ∈ L) (k_ex : T ex = zOp 8 (zEx li se)) (h_se : se ∈ L) (k_se : T se = zOp 3 zB0)  : zVi E l D vwCl (zT K) yX7_sessionStart (zws yX7_sessionStart cX7_sessionStart 1 (some .int)) ROOM_X7_sessionStart 0 0 [.ref ex] X Y L T (fun (r : Int32) (u : zU) => r = nI 0 ∧ u = (Y, L, T)) := by
  refine z_ofW (E := E) (Qc := fun A => va_Qi (fun (r : Int32) (u : zU) => r = nI 0 ∧ u = (Y, L, T)) (zB D vwCl (zT K) A X) A) (cc := cX7_sessionStart) (maxL := 1) (ret := (some .int)) (by decide +kernel) rfl (Nat.le_of_ble_eq_true rfl) ?_
  intro p e s m below meth c A ls hx hb hml hr hts hown hlocks hin hA hK hZ hS hE hl
  have hown : s.vm.findClass RX7 = some m.cls := hown
  have hts : ∀ w ∈ WR, w.before [.ref ex].toArray s = true := fun w h => hts w (List.mem_cons_of_mem _ h)
  have hl : lv_has ls 1 [(0, .ref ex)] := hl
  obtain ⟨H, hH⟩ : ∃ H, H = s.heap := ⟨_, rfl⟩
  have hZ : zP D vwCl A X Y L T H := by rw [hH]; exact hZ
  obtain ⟨locs, hlc⟩ : ∃ q : List Loc, q = [] := ⟨_, rfl⟩
  have hS : va_S A s.heap H locs := by rw [hH, hlc]; exact hS
  suffices hW : W p l e ROOM_X7_sessionStart s m [.ref ex].toArray below meth c H locs 0 0 (MQ below (va_Qi (fun (r : Int32) (u : zU) => r = nI 0 ∧ u = (Y, L, T)) (zB D vwCl (zT K) A X) A) [.ref ex].toArray s 0 0 A) (F0 m 0 ls []) by rw [hH, hlc] at hW; exact hW
  clear hH hlc
  refine lv_aload_n hx hb dX7_sessionStart_0 rfl (lv_at hl 0 rfl) ?_
  refine z_getPp (own := RX7) (C := RX7) (TT := TX7) (N := 20) (ci := 8) (Ts := WR) (v := .ref se) hx hb hts zin_wsX70 hown hK hZ h_ex k_ex rfl 5 (by decide) (hts _ zw_700) (fun _ h9 => h9) (fun _ h => h.2.1) dX7_sessionStart_1 ?_
  refine lv_iconst (v := nI 0) hx hb dX7_sessionStart_4 (by decide +kernel) ?_
  have rv1 : ∃ cell : Cell, H[se]? = some cell ∧ cell.vm.isStatics = false ∧ s.vm.findClass RX1 = some cell.cls := z_recvPp hK hZ h_se k_se rfl
  refine z_goI (va_runV (As := [.int (nI 0)]) (rest := []) ⟨hx, hb, hml, hown, hts⟩ ((c_X1_intAt_n E l D K X Y L T h_se k_se) H.size) (cwV 1 hts (zg_V zw_728 zw_530 zw_729 zw_488 zw_529) rfl rfl rfl (by decide +kernel) ⟨Nat.le_of_ble_eq_true rfl, Nat.le_of_ble_eq_true rfl⟩) (z_preV hK hZ hS hA hE rv1) rfl rfl hl.1 rfl (lv_room (Nat.le_of_ble_eq_true rfl)) dX7_sessionStart_5 ⟨Nat.le_of_ble_eq_true rfl, Nat.le_of_ble_eq_true rfl⟩) hZ hS hA (fun x2 Y1 L1 T1 H locs hp hZ hS => ?_)
  obtain ⟨hres, hp⟩ := hp
  cases hp
  obtain rfl : x2 = nI 0 := hres
  exact z_iret hx hb hr rfl hlocks hK hZ hS ⟨(by first | rfl | decide +kernel | exact congrArg nI (by omega)), rfl⟩ (Nat.le_of_ble_eq_true rfl) (Nat.le_of_ble_eq_true rfl) dX7_sessionStart_8
abbrev ROOM_X4_asked : Room := { frames := 1, cells := 0, slots := 0, locals := 0 }
set_option maxHeartbeats 4000000 in
set_option maxRecDepth 100000 in
/-- asked -/
theorem c_X4_asked (E : zEn) (l : Launch) (D : va_G) (K : Nat → ClassId) (X Y : va_W) (L : List Nat) (T : Nat → va_E → Prop) {cl : Nat} {exC owC iwC stC chC : Nat} (h_cl : cl ∈ L) (k_cl : T cl = zOp 6 (zCl exC owC iwC stC chC))  : zVi E l D vwCl (zT K) yX4_asked (zws yX4_asked cX4_asked 1 (some .int)) ROOM_X4_asked 0 0 [.ref cl] X Y L T (fun (r : Int32) (u : zU) => r = nI 0 ∧ u = (Y, L, T)) := by
  refine z_ofW (E := E) (Qc := fun A => va_Qi (fun (r : Int32) (u : zU) => r = nI 0 ∧ u = (Y, L, T)) (zB D vwCl (zT K) A X) A) (cc := cX4_asked) (maxL := 1) (ret := (some .int)) (by decide +kernel) rfl (Nat.le_of_ble_eq_true rfl) ?_
  intro p e s m below meth c A ls hx hb hml hr hts hown hlocks hin hA hK hZ hS hE hl
  have hown : s.vm.findClass RX4 = some m.cls := hown
  have hts : ∀ w ∈ WR, w.before [.ref cl].toArray s = true := fun w h => hts w (List.mem_cons_of_mem _ h)
  have hl : lv_has ls 1 [(0, .ref cl)] := hl
  obtain ⟨H, hH⟩ : ∃ H, H = s.heap := ⟨_, rfl⟩
  have hZ : zP D vwCl A X Y L T H := by rw [hH]; exact hZ
  obtain ⟨locs, hlc⟩ : ∃ q : List Loc, q = [] := ⟨_, rfl⟩
  have hS : va_S A s.heap H locs := by rw [hH, hlc]; exact hS
  suffices hW : W p l e ROOM_X4_asked s m [.ref cl].toArray below meth c H locs 0 0 (MQ below (va_Qi (fun (r : Int32) (u : zU) => r = nI 0 ∧ u = (Y, L, T)) (zB D vwCl (zT K) A X) A) [.ref cl].toArray s 0 0 A) (F0 m 0 ls []) by rw [hH, hlc] at hW; exact hW
  clear hH hlc
  refine lv_aload_n hx hb dX4_asked_0 rfl (lv_at hl 0 rfl) ?_
  refine z_getPp (own := RX4) (C := RX4) (TT := TX4) (N := 36) (ci := 6) (Ts := WR) (v := .int (nI 0)) hx hb hts zin_wsX40 hown hK hZ h_cl k_cl rfl 35 (by decide) (hts _ zw_588) (fun _ h9 => h9) (fun _ h => h.2.2.2.2.2.2.2.2) dX4_asked_1 ?_
  exact z_iret hx hb hr rfl hlocks hK hZ hS ⟨(by first | rfl | decide +kernel | exact congrArg nI (by omega)), rfl⟩ (Nat.le_of_ble_eq_true rfl) (Nat.le_of_ble_eq_true rfl) dX4_asked_4
abbrev ROOM_X6_channelsInUse_X4 : Room := { frames := 2, cells := 0, slots := 0, locals := 20 }
set_option maxHeartbeats 4000000 in
set_option maxRecDepth 100000 in
/-- channelsInUse -/
theorem c_X6_channelsInUse_X4 (E : zEn) (l : Launch) (D : va_G) (K : Nat → ClassId) (X : va_W) (L : List Nat) (T : Nat → va_E → Prop) {cl : Nat} {exC owC iwC stC chC : Nat} {ghC : Nat → Option Nat} (h_cl : cl ∈ L) (k_cl : T cl = zOp 6 (zCl exC owC iwC stC chC)) (hgC : zAll 16 ghC L T (zOp 5 zCh)) : zVi E l D vwCl (zT K) yX6_channelsInUse (zws yX6_channelsInUse cX6_channelsInUse 3 (some .int)) ROOM_X6_channelsInUse_X4 0 0 [.ref cl] X [(chC, .inl (K 5, 16, .inr (.inr (.inr (.inr ghC)))))] L T (fun (r : Int32) (u : zU) => r = nI 0 ∧ u = ([(chC, .inl (K 5, 16, .inr (.inr (.inr (.inr ghC)))))], L, T)) := by
  refine z_ofW (E := E) (Qc := fun A => va_Qi (fun (r : Int32) (u : zU) => r = nI 0 ∧ u = ([(chC, .inl (K 5, 16, .inr (.inr (.inr (.inr ghC)))))], L, T)) (zB D vwCl (zT K) A X) A) (cc := cX6_channelsInUse) (maxL := 3) (ret := (some .int)) (by decide +kernel) rfl (Nat.le_of_ble_eq_true rfl) ?_
  intro p e s m below meth c A ls hx hb hml hr hts hown hlocks hin hA hK hZ hS hE hl
  have hown : s.vm.findClass RX6 = some m.cls := hown
  have hts : ∀ w ∈ WR, w.before [.ref cl].toArray s = true := fun w h => hts w (List.mem_cons_of_mem _ h)
  have hl : lv_has ls 3 [(0, .ref cl)] := hl
  obtain ⟨H, hH⟩ : ∃ H, H = s.heap := ⟨_, rfl⟩
  have hZ : zP D vwCl A X [(chC, .inl (K 5, 16, .inr (.inr (.inr (.inr ghC)))))] L T H := by rw [hH]; exact hZ
  obtain ⟨locs, hlc⟩ : ∃ q : List Loc, q = [] := ⟨_, rfl⟩
  have hS : va_S A s.heap H locs := by rw [hH, hlc]; exact hS
  suffices hW : W p l e ROOM_X6_channelsInUse_X4 s m [.ref cl].toArray below meth c H locs 0 0 (MQ below (va_Qi (fun (r : Int32) (u : zU) => r = nI 0 ∧ u = ([(chC, .inl (K 5, 16, .inr (.inr (.inr (.inr ghC)))))], L, T)) (zB D vwCl (zT K) A X) A) [.ref cl].toArray s 0 0 A) (F0 m 0 ls []) by rw [hH, hlc] at hW; exact hW
  clear hH hlc
  refine lv_iconst (v := nI 0) hx hb dX6_channelsInUse_0 (by decide +kernel) ?_
  refine lv_istore_n (lv' := [(1, .int (nI 0)), (0, .ref cl)]) hx hb dX6_channelsInUse_1 rfl hl (by decide) rfl (fun ls hl => ?_)
  refine lv_iconst (v := nI 0) hx hb dX6_channelsInUse_2 (by decide +kernel) ?_
  refine lv_istore_n (lv' := [(2, .int (nI 0)), (1, .int (nI 0)), (0, .ref cl)]) hx hb dX6_channelsInUse_3 rfl hl (by decide) rfl (fun ls hl => ?_)
  have L4_ : ∀ (n9 i4 : Nat), i4 ≤ 16 → 16 + 1 ≤ i4 + n9 → ∀   (H : Heap) (locs : List Loc) (ls : Array Slot), zP D vwCl A X [(chC, .inl (K 5, 16, .inr (.inr (.inr (.inr ghC)))))] L T H → va_S A s.heap H locs → lv_has ls 3 [(2, .int (nI i4)), (0, .ref cl), (1, .int (nI 0))] → W p l e ROOM_X6_channelsInUse_X4 s m [.ref cl].toArray below meth c H locs 0 0 (MQ below (va_Qi (fun (r : Int32) (u : zU) => r = nI 0 ∧ u = ([(chC, .inl (K 5, 16, .inr (.inr (.inr (.inr ghC)))))], L, T)) (zB D vwCl (zT K) A X) A) [.ref cl].toArray s 0 0 A) (F0 m 4 ls []) := by
    intro n9
    induction n9 with
    | zero => intro i4 u4 w4; exact absurd w4 (by omega)
    | succ n9 ih4 =>
      intro i4 u4 w4  H locs ls hZ hS hl 
      refine lv_iload_n hx hb dX6_channelsInUse_4 rfl (lv_at hl 0 rfl) ?_
      refine lv_bipush (v := nI 16) hx hb dX6_channelsInUse_5 (by decide +kernel) ?_
      refine lv_icmp_ge (tgt := 31) hx hb dX6_channelsInUse_7 (by decide) (fun c7 => ?_) (fun c7 => ?_)
      · have e7 : 16 ≤ i4 := (nI_leI (a := 16) (b := i4) (by omega) (by omega)).mp c7
        refine lv_iload_n hx hb dX6_channelsInUse_31 rfl (lv_at hl 2 rfl) ?_
        exact z_iret hx hb hr rfl hlocks hK hZ hS ⟨(by first | rfl | decide +kernel | exact congrArg nI (by omega)), rfl⟩ (Nat.le_of_ble_eq_true rfl) (Nat.le_of_ble_eq_true rfl) dX6_channelsInUse_32
      · have e7 : ¬ 16 ≤ i4 := fun q => c7 ((nI_leI (a := 16) (b := i4) (by omega) (by omega)).mpr q)
        refine lv_aload_n hx hb dX6_channelsInUse_10 rfl (lv_at hl 1 rfl) ?_
        refine z_getPp (own := RX6) (C := RX4) (TT := TX4) (N := 36) (ci := 6) (Ts := WR) (v := .ref chC) hx hb hts zin_wsX40 hown hK hZ h_cl k_cl rfl 8 (by decide) (hts _ zw_634) (fun _ h9 => h9) (fun _ h => h.2.2.2.2.1) dX6_channelsInUse_11 ?_
        refine lv_iload_n hx hb dX6_channelsInUse_14 rfl (lv_at hl 0 rfl) ?_
        obtain ⟨q1, e_q1, h_q1, k_q1⟩ := hgC i4 (by omega)
        refine z_aldqY hx hb hK hZ 5 0 rfl rfl (vp_in_nI (by omega) (by omega)) (v := .ref q1) (by rw [nI_clamp (by omega), e_q1]; rfl) dX6_channelsInUse_15 ?_
        have rv2 : ∃ cell : Cell, H[q1]? = some cell ∧ cell.vm.isStatics = false ∧ s.vm.findClass RX3 = some cell.cls := z_recvPp hK hZ h_q1 k_q1 rfl
        refine z_goI (va_runV (As := []) (rest := []) ⟨hx, hb, hml, hown, hts⟩ ((c_X3_inUse E l D K X [(chC, .inl (K 5, 16, .inr (.inr (.inr (.inr ghC)))))] L T h_q1 k_q1) H.size) (cwV 0 hts (zg_V zw_689 zw_554 zw_596 zw_543 zw_553) rfl rfl rfl (by decide +kernel) ⟨Nat.le_of_ble_eq_true rfl, Nat.le_of_ble_eq_true rfl⟩) (z_preV hK hZ hS hA hE rv2) rfl rfl hl.1 rfl (lv_room (Nat.le_of_ble_eq_true rfl)) dX6_channelsInUse_16 ⟨Nat.le_of_ble_eq_true rfl, Nat.le_of_ble_eq_true rfl⟩) hZ hS hA (fun x3 Y1 L1 T1 H locs hp hZ hS => ?_)
        obtain ⟨hres, hp⟩ := hp
        cases hp
        obtain rfl : x3 = nI 0 := hres
        show W p l e ROOM_X6_channelsInUse_X4 s m [.ref cl].toArray below meth c H locs 0 0 (MQ below (va_Qi (fun (r : Int32) (u : zU) => r = nI 0 ∧ u = ([(chC, .inl (K 5, 16, .inr (.inr (.inr (.inr ghC)))))], L, T)) (zB D vwCl (zT K) A X) A) [.ref cl].toArray s 0 0 A) (F0 m 19 ls [.int (nI 0)])
        refine lv_if_eq (tgt := 25) hx hb dX6_channelsInUse_19 (by decide) (fun c19 => ?_) (fun c19 => absurd c19 (by decide +kernel))
        clear c19
        refine lv_iinc (v := nI (i4 + 1)) (lv' := [(2, .int (nI (i4 + 1))), (0, .ref cl), (1, .int (nI 0))]) hx hb dX6_channelsInUse_25 hl (k := 0) rfl (nI_add i4 1) (by decide) rfl (fun ls hl => ?_)
        refine lv_goto (tgt := 4) hx hb dX6_channelsInUse_28 (by decide) ?_
        exact ih4 (i4 + 1) (by omega) (by omega)   _ _ _ hZ hS (lv_sub hl [0, 1, 2] rfl) 
  exact L4_ (16 + 1) 0 (by omega) (by omega)   _ _ _ hZ hS (lv_sub hl [0, 2, 1] rfl) 
abbrev ROOM_X6_tells_X4 : Room := { frames := 4, cells := 0, slots := 0, locals := 62 }
set_option maxHeartbeats 4000000 in
set_option maxRecDepth 100000 in
/-- tells -/
theorem c_X6_tells_X4 (E : zEn) (l : Launch) (D : va_G) (K : Nat → ClassId) (X : va_W) (L : List Nat) (T : Nat → va_E → Prop) {cl : Nat} {w : Int32} {exC : Nat} {seC : Nat} {owC : Nat} {iwC : Nat} {stC chC : Nat} {ghC : Nat → Option Nat} {liC : Nat} (h_cl : cl ∈ L) (k_cl : T cl = zOp 6 (zCl exC owC iwC stC chC)) (h_exC : exC ∈ L) (k_exC : T exC = zOp 8 (zEx liC seC)) (h_seC : seC ∈ L) (k_seC : T seC = zOp 3 zB0) (h_owC : owC ∈ L) (k_owC : T owC = zOp 9 zFl) (h_iwC : iwC ∈ L) (k_iwC : T iwC = zOp 9 zFl) (hgC : zAll 16 ghC L T (zOp 5 zCh)) : zVi E l D vwCl (zT K) yX6_tells (zws yX6_tells cX6_tells 2 (some .int)) ROOM_X6_tells_X4 0 0 [.ref cl, .int w] X [(chC, .inl (K 5, 16, .inr (.inr (.inr (.inr ghC)))))] L T (fun (r : Int32) (u : zU) => r = nI 0 ∧ u = ([(chC, .inl (K 5, 16, .inr (.inr (.inr (.inr ghC)))))], L, T)) := by
  refine z_ofW (E := E) (Qc := fun A => va_Qi (fun (r : Int32) (u : zU) => r = nI 0 ∧ u = ([(chC, .inl (K 5, 16, .inr (.inr (.inr (.inr ghC)))))], L, T)) (zB D vwCl (zT K) A X) A) (cc := cX6_tells) (maxL := 2) (ret := (some .int)) (by decide +kernel) rfl (Nat.le_of_ble_eq_true rfl) ?_
  intro p e s m below meth c A ls hx hb hml hr hts hown hlocks hin hA hK hZ hS hE hl
  have hown : s.vm.findClass RX6 = some m.cls := hown
  have hts : ∀ w9 ∈ WR, w9.before [.ref cl, .int w].toArray s = true := fun w9 h => hts w9 (List.mem_cons_of_mem _ h)
  have hl : lv_has ls 2 [(0, .ref cl), (1, .int w)] := hl
  obtain ⟨H, hH⟩ : ∃ H, H = s.heap := ⟨_, rfl⟩
  have hZ : zP D vwCl A X [(chC, .inl (K 5, 16, .inr (.inr (.inr (.inr ghC)))))] L T H := by rw [hH]; exact hZ
  obtain ⟨locs, hlc⟩ : ∃ q : List Loc, q = [] := ⟨_, rfl⟩
  have hS : va_S A s.heap H locs := by rw [hH, hlc]; exact hS
  suffices hW : W p l e ROOM_X6_tells_X4 s m [.ref cl, .int w].toArray below meth c H locs 0 0 (MQ below (va_Qi (fun (r : Int32) (u : zU) => r = nI 0 ∧ u = ([(chC, .inl (K 5, 16, .inr (.inr (.inr (.inr ghC)))))], L, T)) (zB D vwCl (zT K) A X) A) [.ref cl, .int w].toArray s 0 0 A) (F0 m 0 ls []) by rw [hH, hlc] at hW; exact hW
  clear hH hlc
  refine lv_iload_n hx hb dX6_tells_0 rfl (lv_at hl 1 rfl) ?_
  by_cases sw0 : w = nI 0
  · refine lv_tableIn (off := 59) (tgt := 60) hx hb dX6_tells_1 (by (try rw [sw0]) <;> decide +kernel) (by (try rw [sw0]) <;> decide +kernel) (by (try rw [sw0]) <;> decide +kernel) (by decide) ?_
    have is0 : w.toInt = 0 := (by (try rw [sw0]) <;> decide +kernel)
    refine lv_aload_n hx hb dX6_tells_60 rfl (lv_at hl 0 rfl) ?_
    refine z_getPp (own := RX6) (C := RX4) (TT := TX4) (N := 36) (ci := 6) (Ts := WR) (v := .int (nI 0)) hx hb hts zin_wsX40 hown hK hZ h_cl k_cl rfl 13 (by decide) (hts _ zw_665) (fun _ h9 => h9) (fun _ h => h.2.2.2.2.2.1) dX6_tells_61 ?_
    exact z_iret hx hb hr rfl hlocks hK hZ hS ⟨(by first | rfl | decide +kernel | exact congrArg nI (by omega)), rfl⟩ (Nat.le_of_ble_eq_true rfl) (Nat.le_of_ble_eq_true rfl) dX6_tells_64
  by_cases sw1 : w = nI 1
  · refine lv_tableIn (off := 64) (tgt := 65) hx hb dX6_tells_1 (by (try rw [sw1]) <;> decide +kernel) (by (try rw [sw1]) <;> decide +kernel) (by (try rw [sw1]) <;> decide +kernel) (by decide) ?_
    have is1 : w.toInt = 1 := (by (try rw [sw1]) <;> decide +kernel)
    refine lv_aload_n hx hb dX6_tells_65 rfl (lv_at hl 0 rfl) ?_
    refine z_getPp (own := RX6) (C := RX4) (TT := TX4) (N := 36) (ci := 6) (Ts := WR) (v := .int (nI 0)) hx hb hts zin_wsX40 hown hK hZ h_cl k_cl rfl 14 (by decide) (hts _ zw_666) (fun _ h9 => h9) (fun _ h => h.2.2.2.2.2.2.1) dX6_tells_66 ?_
    exact z_iret hx hb hr rfl hlocks hK hZ hS ⟨(by first | rfl | decide +kernel | exact congrArg nI (by omega)), rfl⟩ (Nat.le_of_ble_eq_true rfl) (Nat.le_of_ble_eq_true rfl) dX6_tells_69
  by_cases sw2 : w = nI 2
  · refine lv_tableIn (off := 69) (tgt := 70) hx hb dX6_tells_1 (by (try rw [sw2]) <;> decide +kernel) (by (try rw [sw2]) <;> decide +kernel) (by (try rw [sw2]) <;> decide +kernel) (by decide) ?_
    have is2 : w.toInt = 2 := (by (try rw [sw2]) <;> decide +kernel)
    refine lv_aload_n hx hb dX6_tells_70 rfl (lv_at hl 0 rfl) ?_
    refine z_getPp (own := RX6) (C := RX4) (TT := TX4) (N := 36) (ci := 6) (Ts := WR) (v := .ref owC) hx hb hts zin_wsX40 hown hK hZ h_cl k_cl rfl 5 (by decide) (hts _ zw_661) (fun _ h9 => h9) (fun _ h => h.2.1) dX6_tells_71 ?_
    refine z_getPp (own := RX6) (C := RX8) (TT := TX8) (N := 15) (ci := 9) (Ts := WR) (v := .int (nI 0)) hx hb hts zin_wsX80 hown hK hZ h_owC k_owC rfl 7 (by decide) (hts _ zw_667) (fun _ h9 => h9) (fun _ h => h.1) dX6_tells_74 ?_
    exact z_iret hx hb hr rfl hlocks hK hZ hS ⟨(by first | rfl | decide +kernel | exact congrArg nI (by omega)), rfl⟩ (Nat.le_of_ble_eq_true rfl) (Nat.le_of_ble_eq_true rfl) dX6_tells_77
  by_cases sw3 : w = nI 3
  · refine lv_tableIn (off := 77) (tgt := 78) hx hb dX6_tells_1 (by (try rw [sw3]) <;> decide +kernel) (by (try rw [sw3]) <;> decide +kernel) (by (try rw [sw3]) <;> decide +kernel) (by decide) ?_
    have is3 : w.toInt = 3 := (by (try rw [sw3]) <;> decide +kernel)
    refine lv_aload_n hx hb dX6_tells_78 rfl (lv_at hl 0 rfl) ?_
    refine z_getPp (own := RX6) (C := RX4) (TT := TX4) (N := 36) (ci := 6) (Ts := WR) (v := .ref iwC) hx hb hts zin_wsX40 hown hK hZ h_cl k_cl rfl 6 (by decide) (hts _ zw_662) (fun _ h9 => h9) (fun _ h => h.2.2.1) dX6_tells_79 ?_
    refine z_getPp (own := RX6) (C := RX8) (TT := TX8) (N := 15) (ci := 9) (Ts := WR) (v := .int (nI 0)) hx hb hts zin_wsX80 hown hK hZ h_iwC k_iwC rfl 7 (by decide) (hts _ zw_667) (fun _ h9 => h9) (fun _ h => h.1) dX6_tells_82 ?_
    exact z_iret hx hb hr rfl hlocks hK hZ hS ⟨(by first | rfl | decide +kernel | exact congrArg nI (by omega)), rfl⟩ (Nat.le_of_ble_eq_true rfl) (Nat.le_of_ble_eq_true rfl) dX6_tells_85
  by_cases sw4 : w = nI 4
  · refine lv_tableIn (off := 85) (tgt := 86) hx hb dX6_tells_1 (by (try rw [sw4]) <;> decide +kernel) (by (try rw [sw4]) <;> decide +kernel) (by (try rw [sw4]) <;> decide +kernel) (by decide) ?_
    have is4 : w.toInt = 4 := (by (try rw [sw4]) <;> decide +kernel)
    refine lv_aload_n hx hb dX6_tells_86 rfl (lv_at hl 0 rfl) ?_
    refine z_getPp (own := RX6) (C := RX4) (TT := TX4) (N := 36) (ci := 6) (Ts := WR) (v := .ref exC) hx hb hts zin_wsX40 hown hK hZ h_cl k_cl rfl 4 (by decide) (hts _ zw_654) (fun _ h9 => h9) (fun _ h => h.1) dX6_tells_87 ?_
    refine z_getPp (own := RX6) (C := RX7) (TT := TX7) (N := 20) (ci := 8) (Ts := WR) (v := .int (nI 0)) hx hb hts zin_wsX70 hown hK hZ h_exC k_exC rfl 18 (by decide) (hts _ zw_668) (fun _ h9 => h9) (fun _ h => h.2.2.2) dX6_tells_90 ?_
    exact z_iret hx hb hr rfl hlocks hK hZ hS ⟨(by first | rfl | decide +kernel | exact congrArg nI (by omega)), rfl⟩ (Nat.le_of_ble_eq_true rfl) (Nat.le_of_ble_eq_true rfl) dX6_tells_93
  by_cases sw5 : w = nI 5
  · refine lv_tableIn (off := 132) (tgt := 133) hx hb dX6_tells_1 (by (try rw [sw5]) <;> decide +kernel) (by (try rw [sw5]) <;> decide +kernel) (by (try rw [sw5]) <;> decide +kernel) (by decide) ?_
    have is5 : w.toInt = 5 := (by (try rw [sw5]) <;> decide +kernel)
    refine lv_aload_n hx hb dX6_tells_133 rfl (lv_at hl 0 rfl) ?_
    refine z_getPp (own := RX6) (C := RX4) (TT := TX4) (N := 36) (ci := 6) (Ts := WR) (v := .ref exC) hx hb hts zin_wsX40 hown hK hZ h_cl k_cl rfl 4 (by decide) (hts _ zw_654) (fun _ h9 => h9) (fun _ h => h.1) dX6_tells_134 ?_
    have rv1 : ∃ cell : Cell, H[exC]? = some cell ∧ cell.vm.isStatics = false ∧ s.vm.findClass RX7 = some cell.cls := z_recvPp hK hZ h_exC k_exC rfl
    refine z_goI (va_runV (As := []) (rest := []) ⟨hx, hb, hml, hown, hts⟩ ((c_X7_sessionStart E l D K X [(chC, .inl (K 5, 16, .inr (.inr (.inr (.inr ghC)))))] L T h_exC k_exC h_seC k_seC) H.size) (cwV 0 hts (zg_V zw_685 zw_687 zw_688 zw_649 zw_686) rfl rfl rfl (by decide +kernel) ⟨Nat.le_of_ble_eq_true rfl, Nat.le_of_ble_eq_true rfl⟩) (z_preV hK hZ hS hA hE rv1) rfl rfl hl.1 rfl (lv_room (Nat.le_of_ble_eq_true rfl)) dX6_tells_137 ⟨Nat.le_of_ble_eq_true rfl, Nat.le_of_ble_eq_true rfl⟩) hZ hS hA (fun x2 Y1 L1 T1 H locs hp hZ hS => ?_)
    obtain ⟨hres, hp⟩ := hp
    cases hp
    obtain rfl : x2 = nI 0 := hres
    exact z_iret hx hb hr rfl hlocks hK hZ hS ⟨(by first | rfl | decide +kernel | exact congrArg nI (by omega)), rfl⟩ (Nat.le_of_ble_eq_true rfl) (Nat.le_of_ble_eq_true rfl) dX6_tells_140
  by_cases sw6 : w = nI 6
  · refine lv_tableIn (off := 93) (tgt := 94) hx hb dX6_tells_1 (by (try rw [sw6]) <;> decide +kernel) (by (try rw [sw6]) <;> decide +kernel) (by (try rw [sw6]) <;> decide +kernel) (by decide) ?_
    have is6 : w.toInt = 6 := (by (try rw [sw6]) <;> decide +kernel)
    refine lv_aload_n hx hb dX6_tells_94 rfl (lv_at hl 0 rfl) ?_
    refine z_getPp (own := RX6) (C := RX4) (TT := TX4) (N := 36) (ci := 6) (Ts := WR) (v := .ref owC) hx hb hts zin_wsX40 hown hK hZ h_cl k_cl rfl 5 (by decide) (hts _ zw_661) (fun _ h9 => h9) (fun _ h => h.2.1) dX6_tells_95 ?_
    refine z_getPp (own := RX6) (C := RX8) (TT := TX8) (N := 15) (ci := 9) (Ts := WR) (v := .int (nI 0)) hx hb hts zin_wsX80 hown hK hZ h_owC k_owC rfl 8 (by decide) (hts _ zw_669) (fun _ h9 => h9) (fun _ h => h.2.1) dX6_tells_98 ?_
    exact z_iret hx hb hr rfl hlocks hK hZ hS ⟨(by first | rfl | decide +kernel | exact congrArg nI (by omega)), rfl⟩ (Nat.le_of_ble_eq_true rfl) (Nat.le_of_ble_eq_true rfl) dX6_tells_101
  by_cases sw7 : w = nI 7
  · refine lv_tableIn (off := 101) (tgt := 102) hx hb dX6_tells_1 (by (try rw [sw7]) <;> decide +kernel) (by (try rw [sw7]) <;> decide +kernel) (by (try rw [sw7]) <;> decide +kernel) (by decide) ?_
    have is7 : w.toInt = 7 := (by (try rw [sw7]) <;> decide +kernel)
    refine lv_aload_n hx hb dX6_tells_102 rfl (lv_at hl 0 rfl) ?_
    refine z_getPp (own := RX6) (C := RX4) (TT := TX4) (N := 36) (ci := 6) (Ts := WR) (v := .ref owC) hx hb hts zin_wsX40 hown hK hZ h_cl k_cl rfl 5 (by decide) (hts _ zw_661) (fun _ h9 => h9) (fun _ h => h.2.1) dX6_tells_103 ?_
    refine z_getPp (own := RX6) (C := RX8) (TT := TX8) (N := 15) (ci := 9) (Ts := WR) (v := .int (nI 0)) hx hb hts zin_wsX80 hown hK hZ h_owC k_owC rfl 9 (by decide) (hts _ zw_670) (fun _ h9 => h9) (fun _ h => h.2.2) dX6_tells_106 ?_
    exact z_iret hx hb hr rfl hlocks hK hZ hS ⟨(by first | rfl | decide +kernel | exact congrArg nI (by omega)), rfl⟩ (Nat.le_of_ble_eq_true rfl) (Nat.le_of_ble_eq_true rfl) dX6_tells_109
  by_cases sw8 : w = nI 8
  · refine lv_tableIn (off := 109) (tgt := 110) hx hb dX6_tells_1 (by (try rw [sw8]) <;> decide +kernel) (by (try rw [sw8]) <;> decide +kernel) (by (try rw [sw8]) <;> decide +kernel) (by decide) ?_
    have is8 : w.toInt = 8 := (by (try rw [sw8]) <;> decide +kernel)
    refine lv_aload_n hx hb dX6_tells_110 rfl (lv_at hl 0 rfl) ?_
    refine z_getPp (own := RX6) (C := RX4) (TT := TX4) (N := 36) (ci := 6) (Ts := WR) (v := .int (nI 0)) hx hb hts zin_wsX40 hown hK hZ h_cl k_cl rfl 15 (by decide) (hts _ zw_671) (fun _ h9 => h9) (fun _ h => h.2.2.2.2.2.2.2.1) dX6_tells_111 ?_
    refine lv_if_eq (tgt := 121) hx hb dX6_tells_114 (by decide) (fun c114 => ?_) (fun c114 => absurd c114 (by decide +kernel))
    clear c114
    refine lv_iconst (v := nI 0) hx hb dX6_tells_121 (by decide +kernel) ?_
    exact z_iret hx hb hr rfl hlocks hK hZ hS ⟨(by first | rfl | decide +kernel | exact congrArg nI (by omega)), rfl⟩ (Nat.le_of_ble_eq_true rfl) (Nat.le_of_ble_eq_true rfl) dX6_tells_122
  by_cases sw9 : w = nI 9
  · refine lv_tableIn (off := 122) (tgt := 123) hx hb dX6_tells_1 (by (try rw [sw9]) <;> decide +kernel) (by (try rw [sw9]) <;> decide +kernel) (by (try rw [sw9]) <;> decide +kernel) (by decide) ?_
    have is9 : w.toInt = 9 := (by (try rw [sw9]) <;> decide +kernel)
    refine lv_aload_n hx hb dX6_tells_123 rfl (lv_at hl 0 rfl) ?_
    have rv3 : ∃ cell : Cell, H[cl]? = some cell ∧ cell.vm.isStatics = false ∧ s.vm.findClass RX4 = some cell.cls := z_recvPp hK hZ h_cl k_cl rfl
    have hZc := zP.into (Y1 := []) (Y2 := [(chC, .inl (K 5, 16, .inr (.inr (.inr (.inr ghC)))))]) hZ
    refine z_goI (va_runU (C := RX4) (owner := "ShellPair$End") (x := ⟨"ShellPair$End", "channelsInUse", "()I"⟩) (As := []) (rest := []) ⟨hx, hb, hml, hown, hts⟩ ((c_X6_channelsInUse_X4 E l D K (X ++ []) L T h_cl k_cl hgC) H.size) (va_cwU 0 hts (zg_U zw_672 zw_675 zw_673 zw_676 zw_571 zw_674) rfl rfl rfl rfl (by decide +kernel) ⟨Nat.le_of_ble_eq_true rfl, Nat.le_of_ble_eq_true rfl⟩) (z_preV hK hZc hS hA hE rv3) rfl rfl hl.1 rfl (lv_room (Nat.le_of_ble_eq_true rfl)) dX6_tells_124 ⟨Nat.le_of_ble_eq_true rfl, Nat.le_of_ble_eq_true rfl⟩) hZc hS hA (fun x4 Y1 L1 T1 H locs hp hZ hS => ?_)
    obtain ⟨hres, hp⟩ := hp
    cases hp
    have hZ : zP D vwCl A X [(chC, .inl (K 5, 16, .inr (.inr (.inr (.inr ghC)))))] L T H := zP.back hZ
    obtain rfl : x4 = nI 0 := hres
    exact z_iret hx hb hr rfl hlocks hK hZ hS ⟨(by first | rfl | decide +kernel | exact congrArg nI (by omega)), rfl⟩ (Nat.le_of_ble_eq_true rfl) (Nat.le_of_ble_eq_true rfl) dX6_tells_127
  by_cases sw10 : w = nI 10
  · refine lv_tableIn (off := 127) (tgt := 128) hx hb dX6_tells_1 (by (try rw [sw10]) <;> decide +kernel) (by (try rw [sw10]) <;> decide +kernel) (by (try rw [sw10]) <;> decide +kernel) (by decide) ?_
    have is10 : w.toInt = 10 := (by (try rw [sw10]) <;> decide +kernel)
    refine lv_aload_n hx hb dX6_tells_128 rfl (lv_at hl 0 rfl) ?_
    have rv5 : ∃ cell : Cell, H[cl]? = some cell ∧ cell.vm.isStatics = false ∧ s.vm.findClass RX4 = some cell.cls := z_recvPp hK hZ h_cl k_cl rfl
    refine z_goI (va_runU (C := RX4) (owner := "ShellPair$End") (x := ⟨"ShellPair$End", "asked", "()I"⟩) (As := []) (rest := []) ⟨hx, hb, hml, hown, hts⟩ ((c_X4_asked E l D K X [(chC, .inl (K 5, 16, .inr (.inr (.inr (.inr ghC)))))] L T h_cl k_cl) H.size) (va_cwA 0 hts (zg_U zw_678 zw_680 zw_679 zw_587 zw_567 zw_586) rfl rfl rfl (zdcl hE) (by decide +kernel) ⟨Nat.le_of_ble_eq_true rfl, Nat.le_of_ble_eq_true rfl⟩) (z_preV hK hZ hS hA hE rv5) rfl rfl hl.1 rfl (lv_room (Nat.le_of_ble_eq_true rfl)) dX6_tells_129 ⟨Nat.le_of_ble_eq_true rfl, Nat.le_of_ble_eq_true rfl⟩) hZ hS hA (fun x6 Y1 L1 T1 H locs hp hZ hS => ?_)
    obtain ⟨hres, hp⟩ := hp
    cases hp
    obtain rfl : x6 = nI 0 := hres
    exact z_iret hx hb hr rfl hlocks hK hZ hS ⟨(by first | rfl | decide +kernel | exact congrArg nI (by omega)), rfl⟩ (Nat.le_of_ble_eq_true rfl) (Nat.le_of_ble_eq_true rfl) dX6_tells_132
  have is0 : w.toInt ≠ 0 := fun q => sw0 (Int32.toInt_inj.mp (q.trans (by decide +kernel)))
  have is1 : w.toInt ≠ 1 := fun q => sw1 (Int32.toInt_inj.mp (q.trans (by decide +kernel)))
  have is2 : w.toInt ≠ 2 := fun q => sw2 (Int32.toInt_inj.mp (q.trans (by decide +kernel)))
  have is3 : w.toInt ≠ 3 := fun q => sw3 (Int32.toInt_inj.mp (q.trans (by decide +kernel)))
  have is4 : w.toInt ≠ 4 := fun q => sw4 (Int32.toInt_inj.mp (q.trans (by decide +kernel)))
  have is5 : w.toInt ≠ 5 := fun q => sw5 (Int32.toInt_inj.mp (q.trans (by decide +kernel)))
  have is6 : w.toInt ≠ 6 := fun q => sw6 (Int32.toInt_inj.mp (q.trans (by decide +kernel)))
  have is7 : w.toInt ≠ 7 := fun q => sw7 (Int32.toInt_inj.mp (q.trans (by decide +kernel)))
  have is8 : w.toInt ≠ 8 := fun q => sw8 (Int32.toInt_inj.mp (q.trans (by decide +kernel)))
  have is9 : w.toInt ≠ 9 := fun q => sw9 (Int32.toInt_inj.mp (q.trans (by decide +kernel)))
  have is10 : w.toInt ≠ 10 := fun q => sw10 (Int32.toInt_inj.mp (q.trans (by decide +kernel)))
  refine lv_tableOut (tgt := 133) hx hb dX6_tells_1 (by omega) (by decide) ?_
  refine lv_aload_n hx hb dX6_tells_133 rfl (lv_at hl 0 rfl) ?_
  refine z_getPp (own := RX6) (C := RX4) (TT := TX4) (N := 36) (ci := 6) (Ts := WR) (v := .ref exC) hx hb hts zin_wsX40 hown hK hZ h_cl k_cl rfl 4 (by decide) (hts _ zw_654) (fun _ h9 => h9) (fun _ h => h.1) dX6_tells_134 ?_
  have rv7 : ∃ cell : Cell, H[exC]? = some cell ∧ cell.vm.isStatics = false ∧ s.vm.findClass RX7 = some cell.cls := z_recvPp hK hZ h_exC k_exC rfl
  refine z_goI (va_runV (As := []) (rest := []) ⟨hx, hb, hml, hown, hts⟩ ((c_X7_sessionStart E l D K X [(chC, .inl (K 5, 16, .inr (.inr (.inr (.inr ghC)))))] L T h_exC k_exC h_seC k_seC) H.size) (cwV 0 hts (zg_V zw_685 zw_687 zw_688 zw_649 zw_686) rfl rfl rfl (by decide +kernel) ⟨Nat.le_of_ble_eq_true rfl, Nat.le_of_ble_eq_true rfl⟩) (z_preV hK hZ hS hA hE rv7) rfl rfl hl.1 rfl (lv_room (Nat.le_of_ble_eq_true rfl)) dX6_tells_137 ⟨Nat.le_of_ble_eq_true rfl, Nat.le_of_ble_eq_true rfl⟩) hZ hS hA (fun x8 Y1 L1 T1 H locs hp hZ hS => ?_)
  obtain ⟨hres, hp⟩ := hp
  cases hp
  obtain rfl : x8 = nI 0 := hres
  exact z_iret hx hb hr rfl hlocks hK hZ hS ⟨(by first | rfl | decide +kernel | exact congrArg nI (by omega)), rfl⟩ (Nat.le_of_ble_eq_true rfl) (Nat.le_of_ble_eq_true rfl) dX6_tells_140
abbrev ROOM_X9_asked : Room := { frames := 1, cells := 0, slots := 0, locals := 0 }
set_option maxHeartbeats 4000000 in
set_option maxRecDepth 100000 in
/-- asked -/
theorem c_X9_asked (E : zEn) (l : Launch) (D : va_G) (K : Nat → ClassId) (X Y : va_W) (L : List Nat) (T : Nat → va_E → Prop) {sv : Nat} {exS owS iwS stS chS so hk po : Nat} (h_sv : sv ∈ L) (k_sv : T sv = zOp 10 (zSv exS owS iwS stS chS so hk po))  : zVi E l D vwCl (zT K) yX9_asked (zws yX9_asked cX9_asked 1 (some .int)) ROOM_X9_asked 0 0 [.ref sv] X Y L T (fun (r : Int32) (u : zU) => r = nI 0 ∧ u = (Y, L, T)) := by
  refine z_ofW (E := E) (Qc := fun A => va_Qi (fun (r : Int32) (u : zU) => r = nI 0 ∧ u = (Y, L, T)) (zB D vwCl (zT K) A X) A) (cc := cX9_asked) (maxL := 1) (ret := (some .int)) (by decide +kernel) rfl (Nat.le_of_ble_eq_true rfl) ?_
  intro p e s m below meth c A ls hx hb hml hr hts hown hlocks hin hA hK hZ hS hE hl
  have hown : s.vm.findClass RX9 = some m.cls := hown
  have hts : ∀ w ∈ WR, w.before [.ref sv].toArray s = true := fun w h => hts w (List.mem_cons_of_mem _ h)
  have hl : lv_has ls 1 [(0, .ref sv)] := hl
  obtain ⟨H, hH⟩ : ∃ H, H = s.heap := ⟨_, rfl⟩
  have hZ : zP D vwCl A X Y L T H := by rw [hH]; exact hZ
  obtain ⟨locs, hlc⟩ : ∃ q : List Loc, q = [] := ⟨_, rfl⟩
  have hS : va_S A s.heap H locs := by rw [hH, hlc]; exact hS
  suffices hW : W p l e ROOM_X9_asked s m [.ref sv].toArray below meth c H locs 0 0 (MQ below (va_Qi (fun (r : Int32) (u : zU) => r = nI 0 ∧ u = (Y, L, T)) (zB D vwCl (zT K) A X) A) [.ref sv].toArray s 0 0 A) (F0 m 0 ls []) by rw [hH, hlc] at hW; exact hW
  clear hH hlc
  refine lv_aload_n hx hb dX9_asked_0 rfl (lv_at hl 0 rfl) ?_
  refine z_getPp (own := RX9) (C := RX9) (TT := TX9) (N := 34) (ci := 10) (Ts := WR) (v := .int (nI 0)) hx hb hts zin_wsX90 hown hK hZ h_sv k_sv rfl 33 (by decide) (hts _ zw_767) (fun _ h9 => h9) (fun _ h => h.2.2.2.2.2.2.2.2.2.2.2.2) dX9_asked_1 ?_
  exact z_iret hx hb hr rfl hlocks hK hZ hS ⟨(by first | rfl | decide +kernel | exact congrArg nI (by omega)), rfl⟩ (Nat.le_of_ble_eq_true rfl) (Nat.le_of_ble_eq_true rfl) dX9_asked_4
abbrev ROOM_X6_channelsInUse_X9 : Room := { frames := 2, cells := 0, slots := 0, locals := 20 }
set_option maxHeartbeats 4000000 in
set_option maxRecDepth 100000 in
/-- channelsInUse -/
theorem c_X6_channelsInUse_X9 (E : zEn) (l : Launch) (D : va_G) (K : Nat → ClassId) (X : va_W) (L : List Nat) (T : Nat → va_E → Prop) {sv : Nat} {exS owS iwS stS chS so hk po : Nat} {ghS : Nat → Option Nat} (h_sv : sv ∈ L) (k_sv : T sv = zOp 10 (zSv exS owS iwS stS chS so hk po)) (hgS : zAll 16 ghS L T (zOp 5 zCh)) : zVi E l D vwCl (zT K) yX6_channelsInUse (zws yX6_channelsInUse cX6_channelsInUse 3 (some .int)) ROOM_X6_channelsInUse_X9 0 0 [.ref sv] X [(chS, .inl (K 5, 16, .inr (.inr (.inr (.inr ghS)))))] L T (fun (r : Int32) (u : zU) => r = nI 0 ∧ u = ([(chS, .inl (K 5, 16, .inr (.inr (.inr (.inr ghS)))))], L, T)) := by
  refine z_ofW (E := E) (Qc := fun A => va_Qi (fun (r : Int32) (u : zU) => r = nI 0 ∧ u = ([(chS, .inl (K 5, 16, .inr (.inr (.inr (.inr ghS)))))], L, T)) (zB D vwCl (zT K) A X) A) (cc := cX6_channelsInUse) (maxL := 3) (ret := (some .int)) (by decide +kernel) rfl (Nat.le_of_ble_eq_true rfl) ?_
  intro p e s m below meth c A ls hx hb hml hr hts hown hlocks hin hA hK hZ hS hE hl
  have hown : s.vm.findClass RX6 = some m.cls := hown
  have hts : ∀ w ∈ WR, w.before [.ref sv].toArray s = true := fun w h => hts w (List.mem_cons_of_mem _ h)
  have hl : lv_has ls 3 [(0, .ref sv)] := hl
  obtain ⟨H, hH⟩ : ∃ H, H = s.heap := ⟨_, rfl⟩
  have hZ : zP D vwCl A X [(chS, .inl (K 5, 16, .inr (.inr (.inr (.inr ghS)))))] L T H := by rw [hH]; exact hZ
  obtain ⟨locs, hlc⟩ : ∃ q : List Loc, q = [] := ⟨_, rfl⟩
  have hS : va_S A s.heap H locs := by rw [hH, hlc]; exact hS
  suffices hW : W p l e ROOM_X6_channelsInUse_X9 s m [.ref sv].toArray below meth c H locs 0 0 (MQ below (va_Qi (fun (r : Int32) (u : zU) => r = nI 0 ∧ u = ([(chS, .inl (K 5, 16, .inr (.inr (.inr (.inr ghS)))))], L, T)) (zB D vwCl (zT K) A X) A) [.ref sv].toArray s 0 0 A) (F0 m 0 ls []) by rw [hH, hlc] at hW; exact hW
  clear hH hlc
  refine lv_iconst (v := nI 0) hx hb dX6_channelsInUse_0 (by decide +kernel) ?_
  refine lv_istore_n (lv' := [(1, .int (nI 0)), (0, .ref sv)]) hx hb dX6_channelsInUse_1 rfl hl (by decide) rfl (fun ls hl => ?_)
  refine lv_iconst (v := nI 0) hx hb dX6_channelsInUse_2 (by decide +kernel) ?_
  refine lv_istore_n (lv' := [(2, .int (nI 0)), (1, .int (nI 0)), (0, .ref sv)]) hx hb dX6_channelsInUse_3 rfl hl (by decide) rfl (fun ls hl => ?_)
  have L4_ : ∀ (n9 i4 : Nat), i4 ≤ 16 → 16 + 1 ≤ i4 + n9 → ∀   (H : Heap) (locs : List Loc) (ls : Array Slot), zP D vwCl A X [(chS, .inl (K 5, 16, .inr (.inr (.inr (.inr ghS)))))] L T H → va_S A s.heap H locs → lv_has ls 3 [(2, .int (nI i4)), (0, .ref sv), (1, .int (nI 0))] → W p l e ROOM_X6_channelsInUse_X9 s m [.ref sv].toArray below meth c H locs 0 0 (MQ below (va_Qi (fun (r : Int32) (u : zU) => r = nI 0 ∧ u = ([(chS, .inl (K 5, 16, .inr (.inr (.inr (.inr ghS)))))], L, T)) (zB D vwCl (zT K) A X) A) [.ref sv].toArray s 0 0 A) (F0 m 4 ls []) := by
    intro n9
    induction n9 with
    | zero => intro i4 u4 w4; exact absurd w4 (by omega)
    | succ n9 ih4 =>
      intro i4 u4 w4  H locs ls hZ hS hl 
      refine lv_iload_n hx hb dX6_channelsInUse_4 rfl (lv_at hl 0 rfl) ?_
      refine lv_bipush (v := nI 16) hx hb dX6_channelsInUse_5 (by decide +kernel) ?_
      refine lv_icmp_ge (tgt := 31) hx hb dX6_channelsInUse_7 (by decide) (fun c7 => ?_) (fun c7 => ?_)
      · have e7 : 16 ≤ i4 := (nI_leI (a := 16) (b := i4) (by omega) (by omega)).mp c7
        refine lv_iload_n hx hb dX6_channelsInUse_31 rfl (lv_at hl 2 rfl) ?_
        exact z_iret hx hb hr rfl hlocks hK hZ hS ⟨(by first | rfl | decide +kernel | exact congrArg nI (by omega)), rfl⟩ (Nat.le_of_ble_eq_true rfl) (Nat.le_of_ble_eq_true rfl) dX6_channelsInUse_32
      · have e7 : ¬ 16 ≤ i4 := fun q => c7 ((nI_leI (a := 16) (b := i4) (by omega) (by omega)).mpr q)
        refine lv_aload_n hx hb dX6_channelsInUse_10 rfl (lv_at hl 1 rfl) ?_
        refine z_getPp (own := RX6) (C := RX9) (TT := TX9) (N := 34) (ci := 10) (Ts := WR) (v := .ref chS) hx hb hts zin_wsX90 hown hK hZ h_sv k_sv rfl 8 (by decide) (hts _ zw_634) (fun _ h9 => h9) (fun _ h => h.2.2.2.2.1) dX6_channelsInUse_11 ?_
        refine lv_iload_n hx hb dX6_channelsInUse_14 rfl (lv_at hl 0 rfl) ?_
        obtain ⟨q1, e_q1, h_q1, k_q1⟩ := hgS i4 (by omega)
        refine z_aldqY hx hb hK hZ 5 0 rfl rfl (vp_in_nI (by omega) (by omega)) (v := .ref q1) (by rw [nI_clamp (by omega), e_q1]; rfl) dX6_channelsInUse_15 ?_
        have rv2 : ∃ cell : Cell, H[q1]? = some cell ∧ cell.vm.isStatics = false ∧ s.vm.findClass RX3 = some cell.cls := z_recvPp hK hZ h_q1 k_q1 rfl
        refine z_goI (va_runV (As := []) (rest := []) ⟨hx, hb, hml, hown, hts⟩ ((c_X3_inUse E l D K X [(chS, .inl (K 5, 16, .inr (.inr (.inr (.inr ghS)))))] L T h_q1 k_q1) H.size) (cwV 0 hts (zg_V zw_689 zw_554 zw_596 zw_543 zw_553) rfl rfl rfl (by decide +kernel) ⟨Nat.le_of_ble_eq_true rfl, Nat.le_of_ble_eq_true rfl⟩) (z_preV hK hZ hS hA hE rv2) rfl rfl hl.1 rfl (lv_room (Nat.le_of_ble_eq_true rfl)) dX6_channelsInUse_16 ⟨Nat.le_of_ble_eq_true rfl, Nat.le_of_ble_eq_true rfl⟩) hZ hS hA (fun x3 Y1 L1 T1 H locs hp hZ hS => ?_)
        obtain ⟨hres, hp⟩ := hp
        cases hp
        obtain rfl : x3 = nI 0 := hres
        show W p l e ROOM_X6_channelsInUse_X9 s m [.ref sv].toArray below meth c H locs 0 0 (MQ below (va_Qi (fun (r : Int32) (u : zU) => r = nI 0 ∧ u = ([(chS, .inl (K 5, 16, .inr (.inr (.inr (.inr ghS)))))], L, T)) (zB D vwCl (zT K) A X) A) [.ref sv].toArray s 0 0 A) (F0 m 19 ls [.int (nI 0)])
        refine lv_if_eq (tgt := 25) hx hb dX6_channelsInUse_19 (by decide) (fun c19 => ?_) (fun c19 => absurd c19 (by decide +kernel))
        clear c19
        refine lv_iinc (v := nI (i4 + 1)) (lv' := [(2, .int (nI (i4 + 1))), (0, .ref sv), (1, .int (nI 0))]) hx hb dX6_channelsInUse_25 hl (k := 0) rfl (nI_add i4 1) (by decide) rfl (fun ls hl => ?_)
        refine lv_goto (tgt := 4) hx hb dX6_channelsInUse_28 (by decide) ?_
        exact ih4 (i4 + 1) (by omega) (by omega)   _ _ _ hZ hS (lv_sub hl [0, 1, 2] rfl) 
  exact L4_ (16 + 1) 0 (by omega) (by omega)   _ _ _ hZ hS (lv_sub hl [0, 2, 1] rfl) 
abbrev ROOM_X6_tells_X9 : Room := { frames := 4, cells := 0, slots := 0, locals := 62 }
set_option maxHeartbeats 4000000 in
set_option maxRecDepth 100000 in
/-- tells -/
theorem c_X6_tells_X9 (E : zEn) (l : Launch) (D : va_G) (K : Nat → ClassId) (X : va_W) (L : List Nat) (T : Nat → va_E → Prop) {sv : Nat} {w : Int32} {exS : Nat} {seS : Nat} {owS : Nat} {iwS : Nat} {stS chS so hk po : Nat} {ghS : Nat → Option Nat} {liS : Nat} (h_sv : sv ∈ L) (k_sv : T sv = zOp 10 (zSv exS owS iwS stS chS so hk po)) (h_exS : exS ∈ L) (k_exS : T exS = zOp 8 (zEx liS seS)) (h_seS : seS ∈ L) (k_seS : T seS = zOp 3 zB0) (h_owS : owS ∈ L) (k_owS : T owS = zOp 9 zFl) (h_iwS : iwS ∈ L) (k_iwS : T iwS = zOp 9 zFl) (hgS : zAll 16 ghS L T (zOp 5 zCh)) : zVi E l D vwCl (zT K) yX6_tells (zws yX6_tells cX6_tells 2 (some .int)) ROOM_X6_tells_X9 0 0 [.ref sv, .int w] X [(chS, .inl (K 5, 16, .inr (.inr (.inr (.inr ghS)))))] L T (fun (r : Int32) (u : zU) => r = nI 0 ∧ u = ([(chS, .inl (K 5, 16, .inr (.inr (.inr (.inr ghS)))))], L, T)) := by
  refine z_ofW (E := E) (Qc := fun A => va_Qi (fun (r : Int32) (u : zU) => r = nI 0 ∧ u = ([(chS, .inl (K 5, 16, .inr (.inr (.inr (.inr ghS)))))], L, T)) (zB D vwCl (zT K) A X) A) (cc := cX6_tells) (maxL := 2) (ret := (some .int)) (by decide +kernel) rfl (Nat.le_of_ble_eq_true rfl) ?_
  intro p e s m below meth c A ls hx hb hml hr hts hown hlocks hin hA hK hZ hS hE hl
  have hown : s.vm.findClass RX6 = some m.cls := hown
  have hts : ∀ w9 ∈ WR, w9.before [.ref sv, .int w].toArray s = true := fun w9 h => hts w9 (List.mem_cons_of_mem _ h)
  have hl : lv_has ls 2 [(0, .ref sv), (1, .int w)] := hl
  obtain ⟨H, hH⟩ : ∃ H, H = s.heap := ⟨_, rfl⟩
  have hZ : zP D vwCl A X [(chS, .inl (K 5, 16, .inr (.inr (.inr (.inr ghS)))))] L T H := by rw [hH]; exact hZ
  obtain ⟨locs, hlc⟩ : ∃ q : List Loc, q = [] := ⟨_, rfl⟩
  have hS : va_S A s.heap H locs := by rw [hH, hlc]; exact hS
  suffices hW : W p l e ROOM_X6_tells_X9 s m [.ref sv, .int w].toArray below meth c H locs 0 0 (MQ below (va_Qi (fun (r : Int32) (u : zU) => r = nI 0 ∧ u = ([(chS, .inl (K 5, 16, .inr (.inr (.inr (.inr ghS)))))], L, T)) (zB D vwCl (zT K) A X) A) [.ref sv, .int w].toArray s 0 0 A) (F0 m 0 ls []) by rw [hH, hlc] at hW; exact hW
  clear hH hlc
  refine lv_iload_n hx hb dX6_tells_0 rfl (lv_at hl 1 rfl) ?_
  by_cases sw0 : w = nI 0
  · refine lv_tableIn (off := 59) (tgt := 60) hx hb dX6_tells_1 (by (try rw [sw0]) <;> decide +kernel) (by (try rw [sw0]) <;> decide +kernel) (by (try rw [sw0]) <;> decide +kernel) (by decide) ?_
    have is0 : w.toInt = 0 := (by (try rw [sw0]) <;> decide +kernel)
    refine lv_aload_n hx hb dX6_tells_60 rfl (lv_at hl 0 rfl) ?_
    refine z_getPp (own := RX6) (C := RX9) (TT := TX9) (N := 34) (ci := 10) (Ts := WR) (v := .int (nI 0)) hx hb hts zin_wsX90 hown hK hZ h_sv k_sv rfl 13 (by decide) (hts _ zw_665) (fun _ h9 => h9) (fun _ h => h.2.2.2.2.2.1) dX6_tells_61 ?_
    exact z_iret hx hb hr rfl hlocks hK hZ hS ⟨(by first | rfl | decide +kernel | exact congrArg nI (by omega)), rfl⟩ (Nat.le_of_ble_eq_true rfl) (Nat.le_of_ble_eq_true rfl) dX6_tells_64
  by_cases sw1 : w = nI 1
  · refine lv_tableIn (off := 64) (tgt := 65) hx hb dX6_tells_1 (by (try rw [sw1]) <;> decide +kernel) (by (try rw [sw1]) <;> decide +kernel) (by (try rw [sw1]) <;> decide +kernel) (by decide) ?_
    have is1 : w.toInt = 1 := (by (try rw [sw1]) <;> decide +kernel)
    refine lv_aload_n hx hb dX6_tells_65 rfl (lv_at hl 0 rfl) ?_
    refine z_getPp (own := RX6) (C := RX9) (TT := TX9) (N := 34) (ci := 10) (Ts := WR) (v := .int (nI 0)) hx hb hts zin_wsX90 hown hK hZ h_sv k_sv rfl 14 (by decide) (hts _ zw_666) (fun _ h9 => h9) (fun _ h => h.2.2.2.2.2.2.1) dX6_tells_66 ?_
    exact z_iret hx hb hr rfl hlocks hK hZ hS ⟨(by first | rfl | decide +kernel | exact congrArg nI (by omega)), rfl⟩ (Nat.le_of_ble_eq_true rfl) (Nat.le_of_ble_eq_true rfl) dX6_tells_69
  by_cases sw2 : w = nI 2
  · refine lv_tableIn (off := 69) (tgt := 70) hx hb dX6_tells_1 (by (try rw [sw2]) <;> decide +kernel) (by (try rw [sw2]) <;> decide +kernel) (by (try rw [sw2]) <;> decide +kernel) (by decide) ?_
    have is2 : w.toInt = 2 := (by (try rw [sw2]) <;> decide +kernel)
    refine lv_aload_n hx hb dX6_tells_70 rfl (lv_at hl 0 rfl) ?_
    refine z_getPp (own := RX6) (C := RX9) (TT := TX9) (N := 34) (ci := 10) (Ts := WR) (v := .ref owS) hx hb hts zin_wsX90 hown hK hZ h_sv k_sv rfl 5 (by decide) (hts _ zw_661) (fun _ h9 => h9) (fun _ h => h.2.1) dX6_tells_71 ?_
    refine z_getPp (own := RX6) (C := RX8) (TT := TX8) (N := 15) (ci := 9) (Ts := WR) (v := .int (nI 0)) hx hb hts zin_wsX80 hown hK hZ h_owS k_owS rfl 7 (by decide) (hts _ zw_667) (fun _ h9 => h9) (fun _ h => h.1) dX6_tells_74 ?_
    exact z_iret hx hb hr rfl hlocks hK hZ hS ⟨(by first | rfl | decide +kernel | exact congrArg nI (by omega)), rfl⟩ (Nat.le_of_ble_eq_true rfl) (Nat.le_of_ble_eq_true rfl) dX6_tells_77
  by_cases sw3 : w = nI 3
  · refine lv_tableIn (off := 77) (tgt := 78) hx hb dX6_tells_1 (by (try rw [sw3]) <;> decide +kernel) (by (try rw [sw3]) <;> decide +kernel) (by (try rw [sw3]) <;> decide +kernel) (by decide) ?_
    have is3 : w.toInt = 3 := (by (try rw [sw3]) <;> decide +kernel)
    refine lv_aload_n hx hb dX6_tells_78 rfl (lv_at hl 0 rfl) ?_
    refine z_getPp (own := RX6) (C := RX9) (TT := TX9) (N := 34) (ci := 10) (Ts := WR) (v := .ref iwS) hx hb hts zin_wsX90 hown hK hZ h_sv k_sv rfl 6 (by decide) (hts _ zw_662) (fun _ h9 => h9) (fun _ h => h.2.2.1) dX6_tells_79 ?_
    refine z_getPp (own := RX6) (C := RX8) (TT := TX8) (N := 15) (ci := 9) (Ts := WR) (v := .int (nI 0)) hx hb hts zin_wsX80 hown hK hZ h_iwS k_iwS rfl 7 (by decide) (hts _ zw_667) (fun _ h9 => h9) (fun _ h => h.1) dX6_tells_82 ?_
    exact z_iret hx hb hr rfl hlocks hK hZ hS ⟨(by first | rfl | decide +kernel | exact congrArg nI (by omega)), rfl⟩ (Nat.le_of_ble_eq_true rfl) (Nat.le_of_ble_eq_true rfl) dX6_tells_85
  by_cases sw4 : w = nI 4
  · refine lv_tableIn (off := 85) (tgt := 86) hx hb dX6_tells_1 (by (try rw [sw4]) <;> decide +kernel) (by (try rw [sw4]) <;> decide +kernel) (by (try rw [sw4]) <;> decide +kernel) (by decide) ?_
    have is4 : w.toInt = 4 := (by (try rw [sw4]) <;> decide +kernel)
    refine lv_aload_n hx hb dX6_tells_86 rfl (lv_at hl 0 rfl) ?_
    refine z_getPp (own := RX6) (C := RX9) (TT := TX9) (N := 34) (ci := 10) (Ts := WR) (v := .ref exS) hx hb hts zin_wsX90 hown hK hZ h_sv k_sv rfl 4 (by decide) (hts _ zw_654) (fun _ h9 => h9) (fun _ h => h.1) dX6_tells_87 ?_
    refine z_getPp (own := RX6) (C := RX7) (TT := TX7) (N := 20) (ci := 8) (Ts := WR) (v := .int (nI 0)) hx hb hts zin_wsX70 hown hK hZ h_exS k_exS rfl 18 (by decide) (hts _ zw_668) (fun _ h9 => h9) (fun _ h => h.2.2.2) dX6_tells_90 ?_
    exact z_iret hx hb hr rfl hlocks hK hZ hS ⟨(by first | rfl | decide +kernel | exact congrArg nI (by omega)), rfl⟩ (Nat.le_of_ble_eq_true rfl) (Nat.le_of_ble_eq_true rfl) dX6_tells_93
  by_cases sw5 : w = nI 5
  · refine lv_tableIn (off := 132) (tgt := 133) hx hb dX6_tells_1 (by (try rw [sw5]) <;> decide +kernel) (by (try rw [sw5]) <;> decide +kernel) (by (try rw [sw5]) <;> decide +kernel) (by decide) ?_
    have is5 : w.toInt = 5 := (by (try rw [sw5]) <;> decide +kernel)
    refine lv_aload_n hx hb dX6_tells_133 rfl (lv_at hl 0 rfl) ?_
    refine z_getPp (own := RX6) (C := RX9) (TT := TX9) (N := 34) (ci := 10) (Ts := WR) (v := .ref exS) hx hb hts zin_wsX90 hown hK hZ h_sv k_sv rfl 4 (by decide) (hts _ zw_654) (fun _ h9 => h9) (fun _ h => h.1) dX6_tells_134 ?_
    have rv1 : ∃ cell : Cell, H[exS]? = some cell ∧ cell.vm.isStatics = false ∧ s.vm.findClass RX7 = some cell.cls := z_recvPp hK hZ h_exS k_exS rfl
    refine z_goI (va_runV (As := []) (rest := []) ⟨hx, hb, hml, hown, hts⟩ ((c_X7_sessionStart E l D K X [(chS, .inl (K 5, 16, .inr (.inr (.inr (.inr ghS)))))] L T h_exS k_exS h_seS k_seS) H.size) (cwV 0 hts (zg_V zw_685 zw_687 zw_688 zw_649 zw_686) rfl rfl rfl (by decide +kernel) ⟨Nat.le_of_ble_eq_true rfl, Nat.le_of_ble_eq_true rfl⟩) (z_preV hK hZ hS hA hE rv1) rfl rfl hl.1 rfl (lv_room (Nat.le_of_ble_eq_true rfl)) dX6_tells_137 ⟨Nat.le_of_ble_eq_true rfl, Nat.le_of_ble_eq_true rfl⟩) hZ hS hA (fun x2 Y1 L1 T1 H locs hp hZ hS => ?_)
    obtain ⟨hres, hp⟩ := hp
    cases hp
    obtain rfl : x2 = nI 0 := hres
    exact z_iret hx hb hr rfl hlocks hK hZ hS ⟨(by first | rfl | decide +kernel | exact congrArg nI (by omega)), rfl⟩ (Nat.le_of_ble_eq_true rfl) (Nat.le_of_ble_eq_true rfl) dX6_tells_140
  by_cases sw6 : w = nI 6
  · refine lv_tableIn (off := 93) (tgt := 94) hx hb dX6_tells_1 (by (try rw [sw6]) <;> decide +kernel) (by (try rw [sw6]) <;> decide +kernel) (by (try rw [sw6]) <;> decide +kernel) (by decide) ?_
    have is6 : w.toInt = 6 := (by (try rw [sw6]) <;> decide +kernel)
    refine lv_aload_n hx hb dX6_tells_94 rfl (lv_at hl 0 rfl) ?_
    refine z_getPp (own := RX6) (C := RX9) (TT := TX9) (N := 34) (ci := 10) (Ts := WR) (v := .ref owS) hx hb hts zin_wsX90 hown hK hZ h_sv k_sv rfl 5 (by decide) (hts _ zw_661) (fun _ h9 => h9) (fun _ h => h.2.1) dX6_tells_95 ?_
    refine z_getPp (own := RX6) (C := RX8) (TT := TX8) (N := 15) (ci := 9) (Ts := WR) (v := .int (nI 0)) hx hb hts zin_wsX80 hown hK hZ h_owS k_owS rfl 8 (by decide) (hts _ zw_669) (fun _ h9 => h9) (fun _ h => h.2.1) dX6_tells_98 ?_
    exact z_iret hx hb hr rfl hlocks hK hZ hS ⟨(by first | rfl | decide +kernel | exact congrArg nI (by omega)), rfl⟩ (Nat.le_of_ble_eq_true rfl) (Nat.le_of_ble_eq_true rfl) dX6_tells_101
  by_cases sw7 : w = nI 7
  · refine lv_tableIn (off := 101) (tgt := 102) hx hb dX6_tells_1 (by (try rw [sw7]) <;> decide +kernel) (by (try rw [sw7]) <;> decide +kernel) (by (try rw [sw7]) <;> decide +kernel) (by decide) ?_
    have is7 : w.toInt = 7 := (by (try rw [sw7]) <;> decide +kernel)
    refine lv_aload_n hx hb dX6_tells_102 rfl (lv_at hl 0 rfl) ?_
    refine z_getPp (own := RX6) (C := RX9) (TT := TX9) (N := 34) (ci := 10) (Ts := WR) (v := .ref owS) hx hb hts zin_wsX90 hown hK hZ h_sv k_sv rfl 5 (by decide) (hts _ zw_661) (fun _ h9 => h9) (fun _ h => h.2.1) dX6_tells_103 ?_
    refine z_getPp (own := RX6) (C := RX8) (TT := TX8) (N := 15) (ci := 9) (Ts := WR) (v := .int (nI 0)) hx hb hts zin_wsX80 hown hK hZ h_owS k_owS rfl 9 (by decide) (hts _ zw_670) (fun _ h9 => h9) (fun _ h => h.2.2) dX6_tells_106 ?_
    exact z_iret hx hb hr rfl hlocks hK hZ hS ⟨(by first | rfl | decide +kernel | exact congrArg nI (by omega)), rfl⟩ (Nat.le_of_ble_eq_true rfl) (Nat.le_of_ble_eq_true rfl) dX6_tells_109
  by_cases sw8 : w = nI 8
  · refine lv_tableIn (off := 109) (tgt := 110) hx hb dX6_tells_1 (by (try rw [sw8]) <;> decide +kernel) (by (try rw [sw8]) <;> decide +kernel) (by (try rw [sw8]) <;> decide +kernel) (by decide) ?_
    have is8 : w.toInt = 8 := (by (try rw [sw8]) <;> decide +kernel)
    refine lv_aload_n hx hb dX6_tells_110 rfl (lv_at hl 0 rfl) ?_
    refine z_getPp (own := RX6) (C := RX9) (TT := TX9) (N := 34) (ci := 10) (Ts := WR) (v := .int (nI 0)) hx hb hts zin_wsX90 hown hK hZ h_sv k_sv rfl 15 (by decide) (hts _ zw_671) (fun _ h9 => h9) (fun _ h => h.2.2.2.2.2.2.2.1) dX6_tells_111 ?_
    refine lv_if_eq (tgt := 121) hx hb dX6_tells_114 (by decide) (fun c114 => ?_) (fun c114 => absurd c114 (by decide +kernel))
    clear c114
    refine lv_iconst (v := nI 0) hx hb dX6_tells_121 (by decide +kernel) ?_
    exact z_iret hx hb hr rfl hlocks hK hZ hS ⟨(by first | rfl | decide +kernel | exact congrArg nI (by omega)), rfl⟩ (Nat.le_of_ble_eq_true rfl) (Nat.le_of_ble_eq_true rfl) dX6_tells_122
  by_cases sw9 : w = nI 9
  · refine lv_tableIn (off := 122) (tgt := 123) hx hb dX6_tells_1 (by (try rw [sw9]) <;> decide +kernel) (by (try rw [sw9]) <;> decide +kernel) (by (try rw [sw9]) <;> decide +kernel) (by decide) ?_
    have is9 : w.toInt = 9 := (by (try rw [sw9]) <;> decide +kernel)
    refine lv_aload_n hx hb dX6_tells_123 rfl (lv_at hl 0 rfl) ?_
    have rv3 : ∃ cell : Cell, H[sv]? = some cell ∧ cell.vm.isStatics = false ∧ s.vm.findClass RX9 = some cell.cls := z_recvPp hK hZ h_sv k_sv rfl
    have hZc := zP.into (Y1 := []) (Y2 := [(chS, .inl (K 5, 16, .inr (.inr (.inr (.inr ghS)))))]) hZ
    refine z_goI (va_runU (C := RX9) (owner := "ShellPair$End") (x := ⟨"ShellPair$End", "channelsInUse", "()I"⟩) (As := []) (rest := []) ⟨hx, hb, hml, hown, hts⟩ ((c_X6_channelsInUse_X9 E l D K (X ++ []) L T h_sv k_sv hgS) H.size) (va_cwU 0 hts (zg_U zw_672 zw_675 zw_677 zw_676 zw_571 zw_674) rfl rfl rfl rfl (by decide +kernel) ⟨Nat.le_of_ble_eq_true rfl, Nat.le_of_ble_eq_true rfl⟩) (z_preV hK hZc hS hA hE rv3) rfl rfl hl.1 rfl (lv_room (Nat.le_of_ble_eq_true rfl)) dX6_tells_124 ⟨Nat.le_of_ble_eq_true rfl, Nat.le_of_ble_eq_true rfl⟩) hZc hS hA (fun x4 Y1 L1 T1 H locs hp hZ hS => ?_)
    obtain ⟨hres, hp⟩ := hp
    cases hp
    have hZ : zP D vwCl A X [(chS, .inl (K 5, 16, .inr (.inr (.inr (.inr ghS)))))] L T H := zP.back hZ
    obtain rfl : x4 = nI 0 := hres
    exact z_iret hx hb hr rfl hlocks hK hZ hS ⟨(by first | rfl | decide +kernel | exact congrArg nI (by omega)), rfl⟩ (Nat.le_of_ble_eq_true rfl) (Nat.le_of_ble_eq_true rfl) dX6_tells_127
  by_cases sw10 : w = nI 10
  · refine lv_tableIn (off := 127) (tgt := 128) hx hb dX6_tells_1 (by (try rw [sw10]) <;> decide +kernel) (by (try rw [sw10]) <;> decide +kernel) (by (try rw [sw10]) <;> decide +kernel) (by decide) ?_
    have is10 : w.toInt = 10 := (by (try rw [sw10]) <;> decide +kernel)
    refine lv_aload_n hx hb dX6_tells_128 rfl (lv_at hl 0 rfl) ?_
    have rv5 : ∃ cell : Cell, H[sv]? = some cell ∧ cell.vm.isStatics = false ∧ s.vm.findClass RX9 = some cell.cls := z_recvPp hK hZ h_sv k_sv rfl
    refine z_goI (va_runU (C := RX9) (owner := "ShellPair$End") (x := ⟨"ShellPair$End", "asked", "()I"⟩) (As := []) (rest := []) ⟨hx, hb, hml, hown, hts⟩ ((c_X9_asked E l D K X [(chS, .inl (K 5, 16, .inr (.inr (.inr (.inr ghS)))))] L T h_sv k_sv) H.size) (va_cwA 0 hts (zg_U zw_678 zw_680 zw_681 zw_684 zw_682 zw_683) rfl rfl rfl (zdcl hE) (by decide +kernel) ⟨Nat.le_of_ble_eq_true rfl, Nat.le_of_ble_eq_true rfl⟩) (z_preV hK hZ hS hA hE rv5) rfl rfl hl.1 rfl (lv_room (Nat.le_of_ble_eq_true rfl)) dX6_tells_129 ⟨Nat.le_of_ble_eq_true rfl, Nat.le_of_ble_eq_true rfl⟩) hZ hS hA (fun x6 Y1 L1 T1 H locs hp hZ hS => ?_)
    obtain ⟨hres, hp⟩ := hp
    cases hp
    obtain rfl : x6 = nI 0 := hres
    exact z_iret hx hb hr rfl hlocks hK hZ hS ⟨(by first | rfl | decide +kernel | exact congrArg nI (by omega)), rfl⟩ (Nat.le_of_ble_eq_true rfl) (Nat.le_of_ble_eq_true rfl) dX6_tells_132
  have is0 : w.toInt ≠ 0 := fun q => sw0 (Int32.toInt_inj.mp (q.trans (by decide +kernel)))
  have is1 : w.toInt ≠ 1 := fun q => sw1 (Int32.toInt_inj.mp (q.trans (by decide +kernel)))
  have is2 : w.toInt ≠ 2 := fun q => sw2 (Int32.toInt_inj.mp (q.trans (by decide +kernel)))
  have is3 : w.toInt ≠ 3 := fun q => sw3 (Int32.toInt_inj.mp (q.trans (by decide +kernel)))
  have is4 : w.toInt ≠ 4 := fun q => sw4 (Int32.toInt_inj.mp (q.trans (by decide +kernel)))
  have is5 : w.toInt ≠ 5 := fun q => sw5 (Int32.toInt_inj.mp (q.trans (by decide +kernel)))
  have is6 : w.toInt ≠ 6 := fun q => sw6 (Int32.toInt_inj.mp (q.trans (by decide +kernel)))
  have is7 : w.toInt ≠ 7 := fun q => sw7 (Int32.toInt_inj.mp (q.trans (by decide +kernel)))
  have is8 : w.toInt ≠ 8 := fun q => sw8 (Int32.toInt_inj.mp (q.trans (by decide +kernel)))
  have is9 : w.toInt ≠ 9 := fun q => sw9 (Int32.toInt_inj.mp (q.trans (by decide +kernel)))
  have is10 : w.toInt ≠ 10 := fun q => sw10 (Int32.toInt_inj.mp (q.trans (by decide +kernel)))
  refine lv_tableOut (tgt := 133) hx hb dX6_tells_1 (by omega) (by decide) ?_
  refine lv_aload_n hx hb dX6_tells_133 rfl (lv_at hl 0 rfl) ?_
  refine z_getPp (own := RX6) (C := RX9) (TT := TX9) (N := 34) (ci := 10) (Ts := WR) (v := .ref exS) hx hb hts zin_wsX90 hown hK hZ h_sv k_sv rfl 4 (by decide) (hts _ zw_654) (fun _ h9 => h9) (fun _ h => h.1) dX6_tells_134 ?_
  have rv7 : ∃ cell : Cell, H[exS]? = some cell ∧ cell.vm.isStatics = false ∧ s.vm.findClass RX7 = some cell.cls := z_recvPp hK hZ h_exS k_exS rfl
  refine z_goI (va_runV (As := []) (rest := []) ⟨hx, hb, hml, hown, hts⟩ ((c_X7_sessionStart E l D K X [(chS, .inl (K 5, 16, .inr (.inr (.inr (.inr ghS)))))] L T h_exS k_exS h_seS k_seS) H.size) (cwV 0 hts (zg_V zw_685 zw_687 zw_688 zw_649 zw_686) rfl rfl rfl (by decide +kernel) ⟨Nat.le_of_ble_eq_true rfl, Nat.le_of_ble_eq_true rfl⟩) (z_preV hK hZ hS hA hE rv7) rfl rfl hl.1 rfl (lv_room (Nat.le_of_ble_eq_true rfl)) dX6_tells_137 ⟨Nat.le_of_ble_eq_true rfl, Nat.le_of_ble_eq_true rfl⟩) hZ hS hA (fun x8 Y1 L1 T1 H locs hp hZ hS => ?_)
  obtain ⟨hres, hp⟩ := hp
  cases hp
  obtain rfl : x8 = nI 0 := hres
  exact z_iret hx hb hr rfl hlocks hK hZ hS ⟨(by first | rfl | decide +kernel | exact congrArg nI (by omega)), rfl⟩ (Nat.le_of_ble_eq_true rfl) (Nat.le_of_ble_eq_true rfl) dX6_tells_140
abbrev ROOM_X1_putAll_n : Room := { frames := 2, cells := 0, slots := 0, locals := 60 }
set_option maxHeartbeats 4000000 in
set_option maxRecDepth 100000 in
/-- putAll of nothing -/
theorem c_X1_putAll_n (E : zEn) (l : Launch) (D : va_G) (K : Nat → ClassId) (X : va_W) (L : List Nat) (T : Nat → va_E → Prop) {b : Nat} {o : Nat} {d : Nat} {od : Nat} {f n N : Nat} {cu bd ts : Int32}  {oc ob ot : Int32} {M : Nat} (h_d : d ∈ L) (k_d : T d = zI (K 2) N) (h_od : od ∈ L) (k_od : T od = zI (K 2) M) (hr : f + n ≤ N) (hN : N < 2147483648) (hM : M < 2147483648) : zV E l D vwCl (zT K) yX1_putAll (zws yX1_putAll cX1_putAll 2 none) ROOM_X1_putAll_n 0 0 [.ref b, .ref o] X [(b, .inr (3, [.ref d, .int (nI f), .int (nI n), .int cu, .int bd, .int ts])), (o, .inr (3, [.ref od, .int (nI 0), .int (nI 0), .int oc, .int ob, .int ot]))] L T (fun (u : zU) => u = ([(b, .inr (3, [.ref d, .int (nI f), .int (nI (n + 0)), .int cu, .int bd, .int ts])), (o, .inr (3, [.ref od, .int (nI 0), .int (nI 0), .int oc, .int ob, .int ot]))], L, T)) := by
  refine z_ofW (E := E) (Qc := fun A => va_Qv (fun (u : zU) => u = ([(b, .inr (3, [.ref d, .int (nI f), .int (nI (n + 0)), .int cu, .int bd, .int ts])), (o, .inr (3, [.ref od, .int (nI 0), .int (nI 0), .int oc, .int ob, .int ot]))], L, T)) (zB D vwCl (zT K) A X) A) (cc := cX1_putAll) (maxL := 2) (ret := none) (by decide +kernel) rfl (Nat.le_of_ble_eq_true rfl) ?_
  intro p e s m below meth c A ls hx hb hml hr hts hown hlocks hin hA hK hZ hS hE hl
  have hown : s.vm.findClass RX1 = some m.cls := hown
  have hts : ∀ w ∈ WR, w.before [.ref b, .ref o].toArray s = true := fun w h => hts w (List.mem_cons_of_mem _ h)
  have hl : lv_has ls 2 [(0, .ref b), (1, .ref o)] := hl
  obtain ⟨H, hH⟩ : ∃ H, H = s.heap := ⟨_, rfl⟩
  have hZ : zP D vwCl A X [(b, .inr (3, [.ref d, .int (nI f), .int (nI n), .int cu, .int bd, .int ts])), (o, .inr (3, [.ref od, .int (nI 0), .int (nI 0), .int oc, .int ob, .int ot]))] L T H := by rw [hH]; exact hZ
  obtain ⟨locs, hlc⟩ : ∃ q : List Loc, q = [] := ⟨_, rfl⟩
  have hS : va_S A s.heap H locs := by rw [hH, hlc]; exact hS
  suffices hW : W p l e ROOM_X1_putAll_n s m [.ref b, .ref o].toArray below meth c H locs 0 0 (MQ below (va_Qv (fun (u : zU) => u = ([(b, .inr (3, [.ref d, .int (nI f), .int (nI (n + 0)), .int cu, .int bd, .int ts])), (o, .inr (3, [.ref od, .int (nI 0), .int (nI 0), .int oc, .int ob, .int ot]))], L, T)) (zB D vwCl (zT K) A X) A) [.ref b, .ref o].toArray s 0 0 A) (F0 m 0 ls []) by rw [hH, hlc] at hW; exact hW
  clear hH hlc
  refine lv_aload_n hx hb dX1_putAll_0 rfl (lv_at hl 0 rfl) ?_
  refine lv_aload_n hx hb dX1_putAll_1 rfl (lv_at hl 1 rfl) ?_
  refine z_getY (own := RX1) (C := RX1) (TT := TX1) (N := 6) (ci := 3) (Ts := WR) hx hb hts zin_wsX10 hown hK hZ 1 rfl rfl 2 (by decide) (hts _ zw_497) (fun _ h9 => h9) rfl dX1_putAll_2 ?_
  have rv1 : ∃ cell : Cell, H[b]? = some cell ∧ cell.vm.isStatics = false ∧ s.vm.findClass RX1 = some cell.cls := z_recvY hK hZ 0 rfl rfl
  have hZc := zP.into (Y1 := [(o, .inr (3, [.ref od, .int (nI 0), .int (nI 0), .int oc, .int ob, .int ot]))]) (Y2 := [(b, .inr (3, [.ref d, .int (nI f), .int (nI n), .int cu, .int bd, .int ts]))]) (zP.pick [1, 0] [(o, .inr (3, [.ref od, .int (nI 0), .int (nI 0), .int oc, .int ob, .int ot])), (b, .inr (3, [.ref d, .int (nI f), .int (nI n), .int cu, .int bd, .int ts]))] hZ (by decide) rfl)
  refine z_goV (va_runV (As := [.int (nI 0)]) (rest := []) ⟨hx, hb, hml, hown, hts⟩ ((c_X1_makeRoom E l D K (X ++ [(o, .inr (3, [.ref od, .int (nI 0), .int (nI 0), .int oc, .int ob, .int ot]))]) L T (by omega) h_d k_d (by omega) (by omega)) H.size) (cwV 1 hts (zg_V zw_509 zw_502 zw_510 zw_488 zw_501) rfl rfl rfl (by decide +kernel) ⟨Nat.le_of_ble_eq_true rfl, Nat.le_of_ble_eq_true rfl⟩) (z_preV hK hZc hS hA hE rv1) rfl rfl hl.1 rfl (lv_room (Nat.le_of_ble_eq_true rfl)) dX1_putAll_5 ⟨Nat.le_of_ble_eq_true rfl, Nat.le_of_ble_eq_true rfl⟩) hZc hS hA (fun  Y1 L1 T1 H locs hp hZ hS => ?_)
  cases hp
  have hZ : zP D vwCl A X [(o, .inr (3, [.ref od, .int (nI 0), .int (nI 0), .int oc, .int ob, .int ot])), (b, .inr (3, [.ref d, .int (nI f), .int (nI n), .int cu, .int bd, .int ts]))] L T H := zP.back hZ
  refine lv_aload_n hx hb dX1_putAll_8 rfl (lv_at hl 1 rfl) ?_
  refine z_getY (own := RX1) (C := RX1) (TT := TX1) (N := 6) (ci := 3) (Ts := WR) hx hb hts zin_wsX10 hown hK hZ 0 rfl rfl 0 (by decide) (hts _ zw_493) (fun _ h9 => h9) rfl dX1_putAll_9 ?_
  refine lv_aload_n hx hb dX1_putAll_12 rfl (lv_at hl 1 rfl) ?_
  refine z_getY (own := RX1) (C := RX1) (TT := TX1) (N := 6) (ci := 3) (Ts := WR) hx hb hts zin_wsX10 hown hK hZ 0 rfl rfl 1 (by decide) (hts _ zw_496) (fun _ h9 => h9) rfl dX1_putAll_13 ?_
  refine lv_aload_n hx hb dX1_putAll_16 rfl (lv_at hl 0 rfl) ?_
  refine z_getY (own := RX1) (C := RX1) (TT := TX1) (N := 6) (ci := 3) (Ts := WR) hx hb hts zin_wsX10 hown hK hZ 1 rfl rfl 0 (by decide) (hts _ zw_493) (fun _ h9 => h9) rfl dX1_putAll_17 ?_
  refine lv_aload_n hx hb dX1_putAll_20 rfl (lv_at hl 0 rfl) ?_
  refine z_getY (own := RX1) (C := RX1) (TT := TX1) (N := 6) (ci := 3) (Ts := WR) hx hb hts zin_wsX10 hown hK hZ 1 rfl rfl 1 (by decide) (hts _ zw_496) (fun _ h9 => h9) rfl dX1_putAll_21 ?_
  refine lv_aload_n hx hb dX1_putAll_24 rfl (lv_at hl 0 rfl) ?_
  refine z_getY (own := RX1) (C := RX1) (TT := TX1) (N := 6) (ci := 3) (Ts := WR) hx hb hts zin_wsX10 hown hK hZ 1 rfl rfl 2 (by decide) (hts _ zw_497) (fun _ h9 => h9) rfl dX1_putAll_25 ?_
  refine lv_iadd hx hb dX1_putAll_28 ?_
  refine lv_topi (fun x2 ex2 => ?_)
  obtain rfl : x2 = nI (f + n) := ex2.trans (nI_add f n)
  refine lv_aload_n hx hb dX1_putAll_29 rfl (lv_at hl 1 rfl) ?_
  refine z_getY (own := RX1) (C := RX1) (TT := TX1) (N := 6) (ci := 3) (Ts := WR) hx hb hts zin_wsX10 hown hK hZ 0 rfl rfl 2 (by decide) (hts _ zw_497) (fun _ h9 => h9) rfl dX1_putAll_30 ?_
  refine z_copyBB (n0 := M) hx hb (by rw [hml]; exact hl.1.symm) hown (hts _ zw_503) (hts _ zw_504) (hts _ zw_505) (hts _ zw_506) hK hZ hS h_od k_od h_d k_d (nI_pos (by omega)) (nI_pos (by omega)) (nI_pos (by omega)) (by (try rw [nI_clamp (by omega)]); (try rw [nI_clamp (by omega)]); omega) (by (try rw [nI_clamp (by omega)]); (try rw [nI_clamp (by omega)]); omega) (Nat.le_of_ble_eq_true rfl) (Nat.le_of_ble_eq_true rfl) dX1_putAll_33 (fun H locs hZ hS => ?_)
  refine lv_aload_n hx hb dX1_putAll_36 rfl (lv_at hl 0 rfl) ?_
  refine lv_dup hx hb dX1_putAll_37 rfl ?_
  refine z_getY (own := RX1) (C := RX1) (TT := TX1) (N := 6) (ci := 3) (Ts := WR) hx hb hts zin_wsX10 hown hK hZ 1 rfl rfl 2 (by decide) (hts _ zw_497) (fun _ h9 => h9) rfl dX1_putAll_38 ?_
  refine lv_aload_n hx hb dX1_putAll_41 rfl (lv_at hl 1 rfl) ?_
  refine z_getY (own := RX1) (C := RX1) (TT := TX1) (N := 6) (ci := 3) (Ts := WR) hx hb hts zin_wsX10 hown hK hZ 0 rfl rfl 2 (by decide) (hts _ zw_497) (fun _ h9 => h9) rfl dX1_putAll_42 ?_
  refine lv_iadd hx hb dX1_putAll_45 ?_
  refine lv_topi (fun x3 ex3 => ?_)
  obtain rfl : x3 = nI (n + 0) := ex3.trans (nI_add n 0)
  refine z_put (own := RX1) (C := RX1) (TT := TX1) (N := 6) (ci := 3) (Ts := WR) (v := .int (nI (n + 0))) (ty := .int) hx hb hts zin_wsX10 tyX1 tyX1_ok nmX1 hown hK hZ hS 1 rfl rfl 2 (by decide) (hts _ zw_497) (fun _ h9 => h9) rfl (by decide +kernel) rfl rfl (Nat.le_of_ble_eq_true rfl) dX1_putAll_46 (fun H locs hZ hS => ?_)
  have hZ : zP D vwCl A X [(o, .inr (3, [.ref od, .int (nI 0), .int (nI 0), .int oc, .int ob, .int ot])), (b, .inr (3, [.ref d, .int (nI f), .int (nI (n + 0)), .int cu, .int bd, .int ts]))] L T H := hZ
  have hZ : zP D vwCl A X [(b, .inr (3, [.ref d, .int (nI f), .int (nI (n + 0)), .int cu, .int bd, .int ts])), (o, .inr (3, [.ref od, .int (nI 0), .int (nI 0), .int oc, .int ob, .int ot]))] L T H := zP.pick [1, 0] [(b, .inr (3, [.ref d, .int (nI f), .int (nI (n + 0)), .int cu, .int bd, .int ts])), (o, .inr (3, [.ref od, .int (nI 0), .int (nI 0), .int oc, .int ob, .int ot]))] hZ (by decide) rfl
  exact z_vret hx hb hr hlocks hK hZ hS rfl (Nat.le_of_ble_eq_true rfl) (Nat.le_of_ble_eq_true rfl) dX1_putAll_49
abbrev ROOM_J6_bitCount_0f7a4 : Room := { frames := 1, cells := 0, slots := 0, locals := 0 }
set_option maxHeartbeats 4000000 in
set_option maxRecDepth 100000 in
/-- bitCount(0) -/
theorem c_J6_bitCount_0f7a4 (E : zEn) (l : Launch) (D : va_G) (K : Nat → ClassId) (X Y : va_W) (L : List Nat) (T : Nat → va_E → Prop)     : zVi E l D vwCl (zT K) yJ6_bitCount_0f7a4 (zws yJ6_bitCount_0f7a4 cJ6_bitCount_0f7a4 1 (some .int)) ROOM_J6_bitCount_0f7a4 0 0 [.int (nI 0)] X Y L T (fun (r : Int32) (u : zU) => r = nI 0 ∧ u = (Y, L, T)) := by
  refine z_ofW (E := E) (Qc := fun A => va_Qi (fun (r : Int32) (u : zU) => r = nI 0 ∧ u = (Y, L, T)) (zB D vwCl (zT K) A X) A) (cc := cJ6_bitCount_0f7a4) (maxL := 1) (ret := (some .int)) (by decide +kernel) rfl (Nat.le_of_ble_eq_true rfl) ?_
  intro p e s m below meth c A ls hx hb hml hr hts hown hlocks hin hA hK hZ hS hE hl
  have hown : s.vm.findClass RJ6 = some m.cls := hown
  have hts : ∀ w ∈ WR, w.before [.int (nI 0)].toArray s = true := fun w h => hts w (List.mem_cons_of_mem _ h)
  have hl : lv_has ls 1 [(0, .int (nI 0))] := hl
  obtain ⟨H, hH⟩ : ∃ H, H = s.heap := ⟨_, rfl⟩
  have hZ : zP D vwCl A X Y L T H := by rw [hH]; exact hZ
  obtain ⟨locs, hlc⟩ : ∃ q : List Loc, q = [] := ⟨_, rfl⟩
  have hS : va_S A s.heap H locs := by rw [hH, hlc]; exact hS
  suffices hW : W p l e ROOM_J6_bitCount_0f7a4 s m [.int (nI 0)].toArray below meth c H locs 0 0 (MQ below (va_Qi (fun (r : Int32) (u : zU) => r = nI 0 ∧ u = (Y, L, T)) (zB D vwCl (zT K) A X) A) [.int (nI 0)].toArray s 0 0 A) (F0 m 0 ls []) by rw [hH, hlc] at hW; exact hW
  clear hH hlc
  refine lv_iload_n hx hb dJ6_bitCount_0f7a4_0 rfl (lv_at hl 0 rfl) ?_
  refine lv_iload_n hx hb dJ6_bitCount_0f7a4_1 rfl (lv_at hl 0 rfl) ?_
  refine lv_iconst (v := nI 1) hx hb dJ6_bitCount_0f7a4_2 (by decide +kernel) ?_
  refine lv_iushr hx hb dJ6_bitCount_0f7a4_3 rfl ?_
  refine lv_topi (fun x1 ex1 => ?_)
  obtain rfl : x1 = nI 0 := ex1.trans (by decide +kernel)
  refine lv_ldcw (v := nI 1431655765) hx hb hown (hts _ zw_1004) dJ6_bitCount_0f7a4_4 ?_
  refine lv_iand hx hb dJ6_bitCount_0f7a4_7 ?_
  refine lv_topi (fun x2 ex2 => ?_)
  obtain rfl : x2 = nI 0 := ex2.trans (by decide +kernel)
  refine lv_isub hx hb dJ6_bitCount_0f7a4_8 ?_
  refine lv_topi (fun x3 ex3 => ?_)
  obtain rfl : x3 = nI 0 := ex3.trans (by decide +kernel)
  refine lv_istore_n (lv' := [(0, .int (nI 0))]) hx hb dJ6_bitCount_0f7a4_9 rfl hl (by decide) rfl (fun ls hl => ?_)
  refine lv_iload_n hx hb dJ6_bitCount_0f7a4_10 rfl (lv_at hl 0 rfl) ?_
  refine lv_ldcw (v := nI 858993459) hx hb hown (hts _ zw_1005) dJ6_bitCount_0f7a4_11 ?_
  refine lv_iand hx hb dJ6_bitCount_0f7a4_14 ?_
  refine lv_topi (fun x4 ex4 => ?_)
  obtain rfl : x4 = nI 0 := ex4.trans (by decide +kernel)
  refine lv_iload_n hx hb dJ6_bitCount_0f7a4_15 rfl (lv_at hl 0 rfl) ?_
  refine lv_iconst (v := nI 2) hx hb dJ6_bitCount_0f7a4_16 (by decide +kernel) ?_
  refine lv_iushr hx hb dJ6_bitCount_0f7a4_17 rfl ?_
  refine lv_topi (fun x5 ex5 => ?_)
  obtain rfl : x5 = nI 0 := ex5.trans (by decide +kernel)
  refine lv_ldcw (v := nI 858993459) hx hb hown (hts _ zw_1005) dJ6_bitCount_0f7a4_18 ?_
  refine lv_iand hx hb dJ6_bitCount_0f7a4_21 ?_
  refine lv_topi (fun x6 ex6 => ?_)
  obtain rfl : x6 = nI 0 := ex6.trans (by decide +kernel)
  refine lv_iadd hx hb dJ6_bitCount_0f7a4_22 ?_
  refine lv_topi (fun x7 ex7 => ?_)
  obtain rfl : x7 = nI 0 := ex7.trans (by decide +kernel)
  refine lv_istore_n (lv' := [(0, .int (nI 0))]) hx hb dJ6_bitCount_0f7a4_23 rfl hl (by decide) rfl (fun ls hl => ?_)
  refine lv_iload_n hx hb dJ6_bitCount_0f7a4_24 rfl (lv_at hl 0 rfl) ?_
  refine lv_iload_n hx hb dJ6_bitCount_0f7a4_25 rfl (lv_at hl 0 rfl) ?_
  refine lv_iconst (v := nI 4) hx hb dJ6_bitCount_0f7a4_26 (by decide +kernel) ?_
  refine lv_iushr hx hb dJ6_bitCount_0f7a4_27 rfl ?_
  refine lv_topi (fun x8 ex8 => ?_)
  obtain rfl : x8 = nI 0 := ex8.trans (by decide +kernel)
  refine lv_iadd hx hb dJ6_bitCount_0f7a4_28 ?_
  refine lv_topi (fun x9 ex9 => ?_)
  obtain rfl : x9 = nI 0 := ex9.trans (by decide +kernel)
  refine lv_ldcw (v := nI 252645135) hx hb hown (hts _ zw_1006) dJ6_bitCount_0f7a4_29 ?_
  refine lv_iand hx hb dJ6_bitCount_0f7a4_32 ?_
  refine lv_topi (fun x10 ex10 => ?_)
  obtain rfl : x10 = nI 0 := ex10.trans (by decide +kernel)
  refine lv_istore_n (lv' := [(0, .int (nI 0))]) hx hb dJ6_bitCount_0f7a4_33 rfl hl (by decide) rfl (fun ls hl => ?_)
  refine lv_iload_n hx hb dJ6_bitCount_0f7a4_34 rfl (lv_at hl 0 rfl) ?_
  refine lv_iload_n hx hb dJ6_bitCount_0f7a4_35 rfl (lv_at hl 0 rfl) ?_
  refine lv_bipush (v := nI 8) hx hb dJ6_bitCount_0f7a4_36 (by decide +kernel) ?_
  refine lv_iushr hx hb dJ6_bitCount_0f7a4_38 rfl ?_
  refine lv_topi (fun x11 ex11 => ?_)
  obtain rfl : x11 = nI 0 := ex11.trans (by decide +kernel)
  refine lv_iadd hx hb dJ6_bitCount_0f7a4_39 ?_
  refine lv_topi (fun x12 ex12 => ?_)
  obtain rfl : x12 = nI 0 := ex12.trans (by decide +kernel)
  refine lv_istore_n (lv' := [(0, .int (nI 0))]) hx hb dJ6_bitCount_0f7a4_40 rfl hl (by decide) rfl (fun ls hl => ?_)
  refine lv_iload_n hx hb dJ6_bitCount_0f7a4_41 rfl (lv_at hl 0 rfl) ?_
  refine lv_iload_n hx hb dJ6_bitCount_0f7a4_42 rfl (lv_at hl 0 rfl) ?_
  refine lv_bipush (v := nI 16) hx hb dJ6_bitCount_0f7a4_43 (by decide +kernel) ?_
  refine lv_iushr hx hb dJ6_bitCount_0f7a4_45 rfl ?_
  refine lv_topi (fun x13 ex13 => ?_)
  obtain rfl : x13 = nI 0 := ex13.trans (by decide +kernel)
  refine lv_iadd hx hb dJ6_bitCount_0f7a4_46 ?_
  refine lv_topi (fun x14 ex14 => ?_)
  obtain rfl : x14 = nI 0 := ex14.trans (by decide +kernel)
  refine lv_istore_n (lv' := [(0, .int (nI 0))]) hx hb dJ6_bitCount_0f7a4_47 rfl hl (by decide) rfl (fun ls hl => ?_)
  refine lv_iload_n hx hb dJ6_bitCount_0f7a4_48 rfl (lv_at hl 0 rfl) ?_
  refine lv_bipush (v := nI 63) hx hb dJ6_bitCount_0f7a4_49 (by decide +kernel) ?_
  show W p l e ROOM_J6_bitCount_0f7a4 s m [.int (nI 0)].toArray below meth c H locs 0 0 (MQ below (va_Qi (fun (r : Int32) (u : zU) => r = nI 0 ∧ u = (Y, L, T)) (zB D vwCl (zT K) A X) A) [.int (nI 0)].toArray s 0 0 A) (F0 m 51 ls [.int (nI 63), .int (nI 0)])
  refine lv_iand hx hb dJ6_bitCount_0f7a4_51 ?_
  refine lv_topi (fun x15 ex15 => ?_)
  obtain rfl : x15 = nI 0 := ex15.trans (by decide +kernel)
  exact z_iret hx hb hr rfl hlocks hK hZ hS ⟨(by first | rfl | decide +kernel | exact congrArg nI (by omega)), rfl⟩ (Nat.le_of_ble_eq_true rfl) (Nat.le_of_ble_eq_true rfl) dJ6_bitCount_0f7a4_52
abbrev ROOM_X9_openPorts : Room := { frames := 2, cells := 0, slots := 0, locals := 20 }
set_option maxHeartbeats 4000000 in
set_option maxRecDepth 100000 in
/-- openPorts -/
theorem c_X9_openPorts (E : zEn) (l : Launch) (D : va_G) (K : Nat → ClassId) (X : va_W) (L : List Nat) (T : Nat → va_E → Prop) {sv : Nat} {exS owS iwS stS chS so hk po : Nat} (h_sv : sv ∈ L) (k_sv : T sv = zOp 10 (zSv exS owS iwS stS chS so hk po))  : zVi E l D vwCl (zT K) yX9_openPorts (zws yX9_openPorts cX9_openPorts 3 (some .int)) ROOM_X9_openPorts 0 0 [.ref sv] X [(po, .inl (K 0, 2048, .inl (fun _ => 0)))] L T (fun (r : Int32) (u : zU) => r = nI 0 ∧ u = ([(po, .inl (K 0, 2048, .inl (fun _ => 0)))], L, T)) := by
  refine z_ofW (E := E) (Qc := fun A => va_Qi (fun (r : Int32) (u : zU) => r = nI 0 ∧ u = ([(po, .inl (K 0, 2048, .inl (fun _ => 0)))], L, T)) (zB D vwCl (zT K) A X) A) (cc := cX9_openPorts) (maxL := 3) (ret := (some .int)) (by decide +kernel) rfl (Nat.le_of_ble_eq_true rfl) ?_
  intro p e s m below meth c A ls hx hb hml hr hts hown hlocks hin hA hK hZ hS hE hl
  have hown : s.vm.findClass RX9 = some m.cls := hown
  have hts : ∀ w ∈ WR, w.before [.ref sv].toArray s = true := fun w h => hts w (List.mem_cons_of_mem _ h)
  have hl : lv_has ls 3 [(0, .ref sv)] := hl
  obtain ⟨H, hH⟩ : ∃ H, H = s.heap := ⟨_, rfl⟩
  have hZ : zP D vwCl A X [(po, .inl (K 0, 2048, .inl (fun _ => 0)))] L T H := by rw [hH]; exact hZ
  obtain ⟨locs, hlc⟩ : ∃ q : List Loc, q = [] := ⟨_, rfl⟩
  have hS : va_S A s.heap H locs := by rw [hH, hlc]; exact hS
  suffices hW : W p l e ROOM_X9_openPorts s m [.ref sv].toArray below meth c H locs 0 0 (MQ below (va_Qi (fun (r : Int32) (u : zU) => r = nI 0 ∧ u = ([(po, .inl (K 0, 2048, .inl (fun _ => 0)))], L, T)) (zB D vwCl (zT K) A X) A) [.ref sv].toArray s 0 0 A) (F0 m 0 ls []) by rw [hH, hlc] at hW; exact hW
  clear hH hlc
  refine lv_iconst (v := nI 0) hx hb dX9_openPorts_0 (by decide +kernel) ?_
  refine lv_istore_n (lv' := [(1, .int (nI 0)), (0, .ref sv)]) hx hb dX9_openPorts_1 rfl hl (by decide) rfl (fun ls hl => ?_)
  refine lv_iconst (v := nI 0) hx hb dX9_openPorts_2 (by decide +kernel) ?_
  refine lv_istore_n (lv' := [(2, .int (nI 0)), (1, .int (nI 0)), (0, .ref sv)]) hx hb dX9_openPorts_3 rfl hl (by decide) rfl (fun ls hl => ?_)
  have L4_ : ∀ (n9 i4 : Nat), i4 ≤ 2048 → 2048 + 1 ≤ i4 + n9 → ∀   (H : Heap) (locs : List Loc) (ls : Array Slot), zP D vwCl A X [(po, .inl (K 0, 2048, .inl (fun _ => 0)))] L T H → va_S A s.heap H locs → lv_has ls 3 [(2, .int (nI i4)), (0, .ref sv), (1, .int (nI 0))] → W p l e ROOM_X9_openPorts s m [.ref sv].toArray below meth c H locs 0 0 (MQ below (va_Qi (fun (r : Int32) (u : zU) => r = nI 0 ∧ u = ([(po, .inl (K 0, 2048, .inl (fun _ => 0)))], L, T)) (zB D vwCl (zT K) A X) A) [.ref sv].toArray s 0 0 A) (F0 m 4 ls []) := by
    intro n9
    induction n9 with
    | zero => intro i4 u4 w4; exact absurd w4 (by omega)
    | succ n9 ih4 =>
      intro i4 u4 w4  H locs ls hZ hS hl 
      refine lv_iload_n hx hb dX9_openPorts_4 rfl (lv_at hl 0 rfl) ?_
      refine lv_aload_n hx hb dX9_openPorts_5 rfl (lv_at hl 1 rfl) ?_
      refine z_getPp (own := RX9) (C := RX9) (TT := TX9) (N := 34) (ci := 10) (Ts := WR) (v := .ref po) hx hb hts zin_wsX90 hown hK hZ h_sv k_sv rfl 26 (by decide) (hts _ zw_761) (fun _ h9 => h9) (fun _ h => h.2.2.2.2.2.2.2.2.2.2.2.1) dX9_openPorts_6 ?_
      refine z_alenY hx hb hK hZ 0 0 rfl rfl (v := nI 2048) rfl dX9_openPorts_9 ?_
      refine lv_icmp_ge (tgt := 31) hx hb dX9_openPorts_10 (by decide) (fun c10 => ?_) (fun c10 => ?_)
      · have e10 : 2048 ≤ i4 := (nI_leI (a := 2048) (b := i4) (by omega) (by omega)).mp c10
        refine lv_iload_n hx hb dX9_openPorts_31 rfl (lv_at hl 2 rfl) ?_
        exact z_iret hx hb hr rfl hlocks hK hZ hS ⟨(by first | rfl | decide +kernel | exact congrArg nI (by omega)), rfl⟩ (Nat.le_of_ble_eq_true rfl) (Nat.le_of_ble_eq_true rfl) dX9_openPorts_32
      · have e10 : ¬ 2048 ≤ i4 := fun q => c10 ((nI_leI (a := 2048) (b := i4) (by omega) (by omega)).mpr q)
        refine lv_iload_n hx hb dX9_openPorts_13 rfl (lv_at hl 2 rfl) ?_
        refine lv_aload_n hx hb dX9_openPorts_14 rfl (lv_at hl 1 rfl) ?_
        refine z_getPp (own := RX9) (C := RX9) (TT := TX9) (N := 34) (ci := 10) (Ts := WR) (v := .ref po) hx hb hts zin_wsX90 hown hK hZ h_sv k_sv rfl 26 (by decide) (hts _ zw_761) (fun _ h9 => h9) (fun _ h => h.2.2.2.2.2.2.2.2.2.2.2.1) dX9_openPorts_15 ?_
        refine lv_iload_n hx hb dX9_openPorts_18 rfl (lv_at hl 0 rfl) ?_
        refine z_ialdY hx hb hK hZ 0 0 rfl rfl (vp_in_nI (by omega) (by omega)) (v := nI 0) rfl dX9_openPorts_19 ?_
        refine z_goI (va_runS (As := [.int (nI 0)]) (rest := [.int (nI 0)]) ⟨hx, hb, hml, hown, hts⟩ ((c_J6_bitCount_0f7a4 E l D K X [(po, .inl (K 0, 2048, .inl (fun _ => 0)))] L T ) H.size) (va_cwS 1 hts (zg_S zw_778 zw_780 zw_781 zw_779) rfl rfl rfl (by decide +kernel) ⟨Nat.le_of_ble_eq_true rfl, Nat.le_of_ble_eq_true rfl⟩) (z_preS hK hZ hS hA hE) rfl rfl hl.1 rfl (lv_room (Nat.le_of_ble_eq_true rfl)) dX9_openPorts_20 ⟨Nat.le_of_ble_eq_true rfl, Nat.le_of_ble_eq_true rfl⟩) hZ hS hA (fun x1 Y1 L1 T1 H locs hp hZ hS => ?_)
        obtain ⟨hres, hp⟩ := hp
        cases hp
        obtain rfl : x1 = nI 0 := hres
        refine lv_iadd hx hb dX9_openPorts_23 ?_
        refine lv_topi (fun x2 ex2 => ?_)
        obtain rfl : x2 = nI 0 := ex2.trans (by decide +kernel)
        refine lv_istore_n (lv' := [(1, .int (nI 0)), (2, .int (nI i4)), (0, .ref sv)]) hx hb dX9_openPorts_24 rfl hl (by decide) rfl (fun ls hl => ?_)
        refine lv_iinc (v := nI (i4 + 1)) (lv' := [(2, .int (nI (i4 + 1))), (1, .int (nI 0)), (0, .ref sv)]) hx hb dX9_openPorts_25 hl (k := 1) rfl (nI_add i4 1) (by decide) rfl (fun ls hl => ?_)
        show W p l e ROOM_X9_openPorts s m [.ref sv].toArray below meth c H locs 0 0 (MQ below (va_Qi (fun (r : Int32) (u : zU) => r = nI 0 ∧ u = ([(po, .inl (K 0, 2048, .inl (fun _ => 0)))], L, T)) (zB D vwCl (zT K) A X) A) [.ref sv].toArray s 0 0 A) (F0 m 28 ls [])
        refine lv_goto (tgt := 4) hx hb dX9_openPorts_28 (by decide) ?_
        exact ih4 (i4 + 1) (by omega) (by omega)   _ _ _ hZ hS (lv_sub hl [0, 2, 1] rfl) 
  exact L4_ (2048 + 1) 0 (by omega) (by omega)   _ _ _ hZ hS (lv_sub hl [0, 2, 1] rfl) 
abbrev ROOM_X9_opensPort : Room := { frames := 1, cells := 0, slots := 0, locals := 0 }
set_option maxHeartbeats 4000000 in
set_option maxRecDepth 100000 in
/-- opensPort -/
theorem c_X9_opensPort (E : zEn) (l : Launch) (D : va_G) (K : Nat → ClassId) (X : va_W) (L : List Nat) (T : Nat → va_E → Prop) {sv : Nat} {pp : Nat} {op : Int32} {exS owS iwS stS chS so hk po : Nat} (b_pp : pp ≤ 65535) (h_sv : sv ∈ L) (k_sv : T sv = zOp 10 (zSv exS owS iwS stS chS so hk po))  : zV E l D vwCl (zT K) yX9_opensPort (zws yX9_opensPort cX9_opensPort 4 none) ROOM_X9_opensPort 0 0 [.ref sv, .int (nI pp), .int op] X [(po, .inl (K 0, 2048, .inl (fun _ => 0)))] L T (fun (u : zU) => ∃ (gp : Nat → Int32), u = ([(po, .inl (K 0, 2048, .inl gp))], L, T)) := by
  refine z_ofW (E := E) (Qc := fun A => va_Qv (fun (u : zU) => ∃ (gp : Nat → Int32), u = ([(po, .inl (K 0, 2048, .inl gp))], L, T)) (zB D vwCl (zT K) A X) A) (cc := cX9_opensPort) (maxL := 4) (ret := none) (by decide +kernel) rfl (Nat.le_of_ble_eq_true rfl) ?_
  intro p e s m below meth c A ls hx hb hml hr hts hown hlocks hin hA hK hZ hS hE hl
  have hown : s.vm.findClass RX9 = some m.cls := hown
  have hts : ∀ w ∈ WR, w.before [.ref sv, .int (nI pp), .int op].toArray s = true := fun w h => hts w (List.mem_cons_of_mem _ h)
  have hl : lv_has ls 4 [(0, .ref sv), (1, .int (nI pp)), (2, .int op)] := hl
  obtain ⟨H, hH⟩ : ∃ H, H = s.heap := ⟨_, rfl⟩
  have hZ : zP D vwCl A X [(po, .inl (K 0, 2048, .inl (fun _ => 0)))] L T H := by rw [hH]; exact hZ
  obtain ⟨locs, hlc⟩ : ∃ q : List Loc, q = [] := ⟨_, rfl⟩
  have hS : va_S A s.heap H locs := by rw [hH, hlc]; exact hS
  suffices hW : W p l e ROOM_X9_opensPort s m [.ref sv, .int (nI pp), .int op].toArray below meth c H locs 0 0 (MQ below (va_Qv (fun (u : zU) => ∃ (gp : Nat → Int32), u = ([(po, .inl (K 0, 2048, .inl gp))], L, T)) (zB D vwCl (zT K) A X) A) [.ref sv, .int (nI pp), .int op].toArray s 0 0 A) (F0 m 0 ls []) by rw [hH, hlc] at hW; exact hW
  clear hH hlc
  refine lv_iconst (v := nI 1) hx hb dX9_opensPort_0 (by decide +kernel) ?_
  refine lv_iload_n hx hb dX9_opensPort_1 rfl (lv_at hl 1 rfl) ?_
  refine lv_bipush (v := nI 31) hx hb dX9_opensPort_2 (by decide +kernel) ?_
  refine lv_iand hx hb dX9_opensPort_4 ?_
  refine lv_topi (fun x1 ex1 => ?_)
  obtain ⟨jx1, bx1, rfl⟩ : ∃ j : Nat, j < 32 ∧ x1 = nI j := by obtain ⟨j, h1, h2⟩ := pk_andE (nI pp) (m := nI 31) 5 (by decide +kernel); exact ⟨j, h1, ex1.trans h2⟩
  refine lv_ishl hx hb dX9_opensPort_5 ?_
  refine lv_topi (fun x2 ex2 => ?_)
  refine lv_istore_n (lv' := [(3, .int x2), (0, .ref sv), (1, .int (nI pp)), (2, .int op)]) hx hb dX9_opensPort_6 rfl hl (by decide) rfl (fun ls hl => ?_)
  refine lv_aload_n hx hb dX9_opensPort_7 rfl (lv_at hl 1 rfl) ?_
  refine z_getPp (own := RX9) (C := RX9) (TT := TX9) (N := 34) (ci := 10) (Ts := WR) (v := .ref po) hx hb hts zin_wsX90 hown hK hZ h_sv k_sv rfl 26 (by decide) (hts _ zw_761) (fun _ h9 => h9) (fun _ h => h.2.2.2.2.2.2.2.2.2.2.2.1) dX9_opensPort_8 ?_
  refine lv_iload_n hx hb dX9_opensPort_11 rfl (lv_at hl 2 rfl) ?_
  refine lv_iconst (v := nI 5) hx hb dX9_opensPort_12 (by decide +kernel) ?_
  refine lv_ishr hx hb dX9_opensPort_13 ?_
  refine lv_topi (fun x3 ex3 => ?_)
  obtain rfl : x3 = nI (pp / 32) := ex3.trans (pk_shrN (by omega) (nI 5 &&& 31) 5 (by decide +kernel))
  refine lv_iload_n hx hb dX9_opensPort_14 rfl (lv_at hl 3 rfl) ?_
  show W p l e ROOM_X9_opensPort s m [.ref sv, .int (nI pp), .int op].toArray below meth c H locs 0 0 (MQ below (va_Qv (fun (u : zU) => ∃ (gp : Nat → Int32), u = ([(po, .inl (K 0, 2048, .inl gp))], L, T)) (zB D vwCl (zT K) A X) A) [.ref sv, .int (nI pp), .int op].toArray s 0 0 A) (F0 m 15 ls [.int op, .int (nI (pp / 32)), .ref po])
  refine lv_if_eq (tgt := 31) hx hb dX9_opensPort_15 (by decide) (fun c15 => ?_) (fun c15 => ?_)
  · have i15 : op.toInt = 0 := (by have h := zq_eq_t c15; have e : (0 : Int32).toInt = 0 := (by decide +kernel); omega)
    refine lv_aload_n hx hb dX9_opensPort_31 rfl (lv_at hl 1 rfl) ?_
    refine z_getPp (own := RX9) (C := RX9) (TT := TX9) (N := 34) (ci := 10) (Ts := WR) (v := .ref po) hx hb hts zin_wsX90 hown hK hZ h_sv k_sv rfl 26 (by decide) (hts _ zw_761) (fun _ h9 => h9) (fun _ h => h.2.2.2.2.2.2.2.2.2.2.2.1) dX9_opensPort_32 ?_
    refine lv_iload_n hx hb dX9_opensPort_35 rfl (lv_at hl 2 rfl) ?_
    refine lv_iconst (v := nI 5) hx hb dX9_opensPort_36 (by decide +kernel) ?_
    refine lv_ishr hx hb dX9_opensPort_37 ?_
    refine lv_topi (fun x4 ex4 => ?_)
    obtain rfl : x4 = nI (pp / 32) := ex4.trans (pk_shrN (by omega) (nI 5 &&& 31) 5 (by decide +kernel))
    refine z_ialdY hx hb hK hZ 0 0 rfl rfl (vp_in_nI (by omega) (by omega)) rfl dX9_opensPort_38 ?_
    refine lv_topi (fun x6 ex6 => ?_)
    refine lv_iload_n hx hb dX9_opensPort_39 rfl (lv_at hl 0 rfl) ?_
    refine lv_iconst (v := (-1)) hx hb dX9_opensPort_40 (by decide +kernel) ?_
    refine lv_ixor hx hb dX9_opensPort_41 ?_
    refine lv_topi (fun x7 ex7 => ?_)
    refine lv_iand hx hb dX9_opensPort_42 ?_
    refine lv_topi (fun x8 ex8 => ?_)
    refine z_iastG hx hb hK hZ hS 0 0 rfl rfl (vp_in_nI (by omega) (by omega)) dX9_opensPort_43 (fun g9 H locs hZ hS => ?_)
    have hZ : zP D vwCl A X [(po, .inl (K 0, 2048, .inl g9))] L T H := hZ
    exact z_vret hx hb hr hlocks hK hZ hS ⟨g9, rfl⟩ (Nat.le_of_ble_eq_true rfl) (Nat.le_of_ble_eq_true rfl) dX9_opensPort_44
  · have i15 : op.toInt ≠ 0 := (by have h := zq_eq_f c15; have e : (0 : Int32).toInt = 0 := (by decide +kernel); omega)
    refine lv_aload_n hx hb dX9_opensPort_18 rfl (lv_at hl 1 rfl) ?_
    refine z_getPp (own := RX9) (C := RX9) (TT := TX9) (N := 34) (ci := 10) (Ts := WR) (v := .ref po) hx hb hts zin_wsX90 hown hK hZ h_sv k_sv rfl 26 (by decide) (hts _ zw_761) (fun _ h9 => h9) (fun _ h => h.2.2.2.2.2.2.2.2.2.2.2.1) dX9_opensPort_19 ?_
    refine lv_iload_n hx hb dX9_opensPort_22 rfl (lv_at hl 2 rfl) ?_
    refine lv_iconst (v := nI 5) hx hb dX9_opensPort_23 (by decide +kernel) ?_
    refine lv_ishr hx hb dX9_opensPort_24 ?_
    refine lv_topi (fun x10 ex10 => ?_)
    obtain rfl : x10 = nI (pp / 32) := ex10.trans (pk_shrN (by omega) (nI 5 &&& 31) 5 (by decide +kernel))
    refine z_ialdY hx hb hK hZ 0 0 rfl rfl (vp_in_nI (by omega) (by omega)) rfl dX9_opensPort_25 ?_
    refine lv_topi (fun x12 ex12 => ?_)
    refine lv_iload_n hx hb dX9_opensPort_26 rfl (lv_at hl 0 rfl) ?_
    refine lv_ior hx hb dX9_opensPort_27 ?_
    refine lv_topi (fun x13 ex13 => ?_)
    refine lv_goto (tgt := 43) hx hb dX9_opensPort_28 (by decide) ?_
    refine z_iastG hx hb hK hZ hS 0 0 rfl rfl (vp_in_nI (by omega) (by omega)) dX9_opensPort_43 (fun g14 H locs hZ hS => ?_)
    have hZ : zP D vwCl A X [(po, .inl (K 0, 2048, .inl g14))] L T H := hZ
    exact z_vret hx hb hr hlocks hK hZ hS ⟨g14, rfl⟩ (Nat.le_of_ble_eq_true rfl) (Nat.le_of_ble_eq_true rfl) dX9_opensPort_44
end ZME

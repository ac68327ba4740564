section ZEXC
abbrev ROOM_X7_listsBy : Room := { frames := 7, cells := 0, slots := 0, locals := 128 }
set_option maxHeartbeats 4000000 in
set_option maxRecDepth 100000 in
/-- listsBy -/
theorem c_X7_listsBy (E : zEn) (l : Launch) (D : va_G) (K : Nat → ClassId) (X : va_W) (L : List Nat) (T : Nat → va_E → Prop) {th : Nat} {ci : Int32} {ma : Int32} {ld : Nat} {li se lf ln : Nat} {lc lb lt : Int32} (h_th : th ∈ L) (k_th : T th = zOp 8 (zEx li se)) (h_ld : ld ∈ L) (k_ld : T ld = zI (K 2) 256) (hSt : zSt E) (hSA : zSA E) : zV E l D vwCl (zT K) yX7_listsBy (zws yX7_listsBy cX7_listsBy 5 none) ROOM_X7_listsBy 0 0 [.ref th, .int ci, .int ma] X [(li, .inr (3, [.ref ld, .int (nI lf), .int (nI ln), .int lc, .int lb, .int lt]))] L T (fun (u : zU) => ∃ (z : Nat), u = ([(li, .inr (3, [.ref ld, .int (nI 0), .int (nI z), .int (nI 0), .int (nI 0), .int (nI 0)]))], L, T)) := by
  refine z_ofW (E := E) (Qc := fun A => va_Qv (fun (u : zU) => ∃ (z : Nat), u = ([(li, .inr (3, [.ref ld, .int (nI 0), .int (nI z), .int (nI 0), .int (nI 0), .int (nI 0)]))], L, T)) (zB D vwCl (zT K) A X) A) (cc := cX7_listsBy) (maxL := 5) (ret := none) (by decide +kernel) rfl (Nat.le_of_ble_eq_true rfl) ?_
  intro p e s m below meth c A ls hx hb hml hr hts hown hlocks hin hA hK hZ hS hE hl
  have hown : s.vm.findClass RX7 = some m.cls := hown
  have hts : ∀ w ∈ WR, w.before [.ref th, .int ci, .int ma].toArray s = true := fun w h => hts w (List.mem_cons_of_mem _ h)
  have hl : lv_has ls 5 [(0, .ref th), (1, .int ci), (2, .int ma)] := hl
  obtain ⟨H, hH⟩ : ∃ H, H = s.heap := ⟨_, rfl⟩
  have hZ : zP D vwCl A X [(li, .inr (3, [.ref ld, .int (nI lf), .int (nI ln), .int lc, .int lb, .int lt]))] L T H := by rw [hH]; exact hZ
  obtain ⟨locs, hlc⟩ : ∃ q : List Loc, q = [] := ⟨_, rfl⟩
  have hS : va_S A s.heap H locs := by rw [hH, hlc]; exact hS
  suffices hW : W p l e ROOM_X7_listsBy s m [.ref th, .int ci, .int ma].toArray below meth c H locs 0 0 (MQ below (va_Qv (fun (u : zU) => ∃ (z : Nat), u = ([(li, .inr (3, [.ref ld, .int (nI 0), .int (nI z), .int (nI 0), .int (nI 0), .int (nI 0)]))], L, T)) (zB D vwCl (zT K) A X) A) [.ref th, .int ci, .int ma].toArray s 0 0 A) (F0 m 0 ls []) by rw [hH, hlc] at hW; exact hW
  clear hH hlc
  refine lv_iload_n hx hb dX7_listsBy_0 rfl (lv_at hl 1 rfl) ?_
  refine z_goQ (va_runS (As := [.int ci]) (rest := []) ⟨hx, hb, hml, hown, hts⟩ ((c_X7_cipherNames E l D K X [(li, .inr (3, [.ref ld, .int (nI lf), .int (nI ln), .int lc, .int lb, .int lt]))] L T hSt) H.size) (va_cwS 1 hts (zg_S zw_715 zw_717 zw_649 zw_716) rfl rfl rfl (by decide +kernel) ⟨Nat.le_of_ble_eq_true rfl, Nat.le_of_ble_eq_true rfl⟩) (z_preS hK hZ hS hA hE) rfl rfl hl.1 rfl (lv_room (Nat.le_of_ble_eq_true rfl)) dX7_listsBy_1 ⟨Nat.le_of_ble_eq_true rfl, Nat.le_of_ble_eq_true rfl⟩) hZ hS hA (fun x1 Y1 L1 T1 H locs hp hZ hS => ?_)
  obtain ⟨hrespx1, hp⟩ := hp
  cases hp
  obtain ⟨q2, v_q2, n_q2, rfl, h_q2, b_q2⟩ := hrespx1
  refine lv_astore_n (lv' := [(3, .ref q2), (0, .ref th), (1, .int ci), (2, .int ma)]) hx hb dX7_listsBy_4 rfl hl (by decide) rfl (fun ls hl => ?_)
  refine lv_iload_n hx hb dX7_listsBy_5 rfl (lv_at hl 3 rfl) ?_
  refine z_goQ (va_runS (As := [.int ma]) (rest := []) ⟨hx, hb, hml, hown, hts⟩ ((c_X7_macNames E l D K X [(li, .inr (3, [.ref ld, .int (nI lf), .int (nI ln), .int lc, .int lb, .int lt]))] L T hSt) H.size) (va_cwS 1 hts (zg_S zw_718 zw_720 zw_649 zw_719) rfl rfl rfl (by decide +kernel) ⟨Nat.le_of_ble_eq_true rfl, Nat.le_of_ble_eq_true rfl⟩) (z_preS hK hZ hS hA hE) rfl rfl hl.1 rfl (lv_room (Nat.le_of_ble_eq_true rfl)) dX7_listsBy_6 ⟨Nat.le_of_ble_eq_true rfl, Nat.le_of_ble_eq_true rfl⟩) hZ hS hA (fun x3 Y1 L1 T1 H locs hp hZ hS => ?_)
  obtain ⟨hrespx3, hp⟩ := hp
  cases hp
  obtain ⟨q4, v_q4, n_q4, rfl, h_q4, b_q4⟩ := hrespx3
  refine lv_astore (lv' := [(4, .ref q4), (3, .ref q2), (0, .ref th), (1, .int ci), (2, .int ma)]) hx hb dX7_listsBy_9 hl (by decide) rfl (fun ls hl => ?_)
  refine lv_aload_n hx hb dX7_listsBy_11 rfl (lv_at hl 2 rfl) ?_
  refine z_getPp (own := RX7) (C := RX7) (TT := TX7) (N := 20) (ci := 8) (Ts := WR) (v := .ref li) hx hb hts zin_wsX70 hown hK hZ h_th k_th rfl 0 (by decide) (hts _ zw_695) (fun _ h9 => h9) (fun _ h => h.1) dX7_listsBy_12 ?_
  have rv5 : ∃ cell : Cell, H[li]? = some cell ∧ cell.vm.isStatics = false ∧ s.vm.findClass RX1 = some cell.cls := z_recvY hK hZ 0 rfl rfl
  have hZc := zP.into (Y1 := []) (Y2 := [(li, .inr (3, [.ref ld, .int (nI lf), .int (nI ln), .int lc, .int lb, .int lt]))]) hZ
  refine z_goV (va_runV (As := []) (rest := []) ⟨hx, hb, hml, hown, hts⟩ ((c_X1_clear E l D K (X ++ []) L T ) H.size) (cwV 0 hts (zg_V zw_721 zw_495 zw_722 zw_488 zw_494) rfl rfl rfl (by decide +kernel) ⟨Nat.le_of_ble_eq_true rfl, Nat.le_of_ble_eq_true rfl⟩) (z_preV hK hZc hS hA hE rv5) rfl rfl hl.1 rfl (lv_room (Nat.le_of_ble_eq_true rfl)) dX7_listsBy_15 ⟨Nat.le_of_ble_eq_true rfl, Nat.le_of_ble_eq_true rfl⟩) hZc hS hA (fun  Y1 L1 T1 H locs hp hZ hS => ?_)
  cases hp
  have hZ : zP D vwCl A X [(li, .inr (3, [.ref ld, .int (nI 0), .int (nI 0), .int (nI 0), .int (nI 0), .int (nI 0)]))] L T H := zP.back hZ
  refine lv_aload_n hx hb dX7_listsBy_18 rfl (lv_at hl 2 rfl) ?_
  refine z_getPp (own := RX7) (C := RX7) (TT := TX7) (N := 20) (ci := 8) (Ts := WR) (v := .ref li) hx hb hts zin_wsX70 hown hK hZ h_th k_th rfl 0 (by decide) (hts _ zw_695) (fun _ h9 => h9) (fun _ h => h.1) dX7_listsBy_19 ?_
  obtain ⟨q6, v_q6, r_q6, h_q6⟩ := hSt RX7 100 46 "curve25519-sha256,curve25519-sha256@libssh.org" (zstr_RX7_100)
  refine z_ldcS hx hb hown hE r_q6 dX7_listsBy_22 ?_
  have rv7 : ∃ cell : Cell, H[li]? = some cell ∧ cell.vm.isStatics = false ∧ s.vm.findClass RX1 = some cell.cls := z_recvY hK hZ 0 rfl rfl
  have hZc := zP.into (Y1 := []) (Y2 := [(li, .inr (3, [.ref ld, .int (nI 0), .int (nI 0), .int (nI 0), .int (nI 0), .int (nI 0)]))]) hZ
  refine z_goV (va_runV (As := [.ref q6]) (rest := []) ⟨hx, hb, hml, hown, hts⟩ ((c_X1_putName E l D K (X ++ []) L T h_q6 (by omega) h_ld k_ld (by omega) (by omega) hSA) H.size) (cwV 1 hts (zg_V zw_723 zw_518 zw_724 zw_488 zw_517) rfl rfl rfl (by decide +kernel) ⟨Nat.le_of_ble_eq_true rfl, Nat.le_of_ble_eq_true rfl⟩) (z_preV hK hZc hS hA hE rv7) rfl rfl hl.1 rfl (lv_room (Nat.le_of_ble_eq_true rfl)) dX7_listsBy_24 ⟨Nat.le_of_ble_eq_true rfl, Nat.le_of_ble_eq_true rfl⟩) hZc hS hA (fun  Y1 L1 T1 H locs hp hZ hS => ?_)
  cases hp
  have hZ : zP D vwCl A X [(li, .inr (3, [.ref ld, .int (nI 0), .int (nI (0 + (4 + 46))), .int (nI 0), .int (nI 0), .int (nI 0)]))] L T H := zP.back hZ
  refine lv_aload_n hx hb dX7_listsBy_27 rfl (lv_at hl 2 rfl) ?_
  refine z_getPp (own := RX7) (C := RX7) (TT := TX7) (N := 20) (ci := 8) (Ts := WR) (v := .ref li) hx hb hts zin_wsX70 hown hK hZ h_th k_th rfl 0 (by decide) (hts _ zw_695) (fun _ h9 => h9) (fun _ h => h.1) dX7_listsBy_28 ?_
  obtain ⟨q8, v_q8, r_q8, h_q8⟩ := hSt RX7 105 11 "ssh-ed25519" (zstr_RX7_105)
  refine z_ldcS hx hb hown hE r_q8 dX7_listsBy_31 ?_
  have rv9 : ∃ cell : Cell, H[li]? = some cell ∧ cell.vm.isStatics = false ∧ s.vm.findClass RX1 = some cell.cls := z_recvY hK hZ 0 rfl rfl
  have hZc := zP.into (Y1 := []) (Y2 := [(li, .inr (3, [.ref ld, .int (nI 0), .int (nI (0 + (4 + 46))), .int (nI 0), .int (nI 0), .int (nI 0)]))]) hZ
  refine z_goV (va_runV (As := [.ref q8]) (rest := []) ⟨hx, hb, hml, hown, hts⟩ ((c_X1_putName E l D K (X ++ []) L T h_q8 (by omega) h_ld k_ld (by omega) (by omega) hSA) H.size) (cwV 1 hts (zg_V zw_723 zw_518 zw_724 zw_488 zw_517) rfl rfl rfl (by decide +kernel) ⟨Nat.le_of_ble_eq_true rfl, Nat.le_of_ble_eq_true rfl⟩) (z_preV hK hZc hS hA hE rv9) rfl rfl hl.1 rfl (lv_room (Nat.le_of_ble_eq_true rfl)) dX7_listsBy_33 ⟨Nat.le_of_ble_eq_true rfl, Nat.le_of_ble_eq_true rfl⟩) hZc hS hA (fun  Y1 L1 T1 H locs hp hZ hS => ?_)
  cases hp
  have hZ : zP D vwCl A X [(li, .inr (3, [.ref ld, .int (nI 0), .int (nI ((0 + (4 + 46)) + (4 + 11))), .int (nI 0), .int (nI 0), .int (nI 0)]))] L T H := zP.back hZ
  refine lv_aload_n hx hb dX7_listsBy_36 rfl (lv_at hl 2 rfl) ?_
  refine z_getPp (own := RX7) (C := RX7) (TT := TX7) (N := 20) (ci := 8) (Ts := WR) (v := .ref li) hx hb hts zin_wsX70 hown hK hZ h_th k_th rfl 0 (by decide) (hts _ zw_695) (fun _ h9 => h9) (fun _ h => h.1) dX7_listsBy_37 ?_
  refine lv_aload_n hx hb dX7_listsBy_40 rfl (lv_at hl 1 rfl) ?_
  have rv10 : ∃ cell : Cell, H[li]? = some cell ∧ cell.vm.isStatics = false ∧ s.vm.findClass RX1 = some cell.cls := z_recvY hK hZ 0 rfl rfl
  have hZc := zP.into (Y1 := []) (Y2 := [(li, .inr (3, [.ref ld, .int (nI 0), .int (nI ((0 + (4 + 46)) + (4 + 11))), .int (nI 0), .int (nI 0), .int (nI 0)]))]) hZ
  refine z_goV (va_runV (As := [.ref q2]) (rest := []) ⟨hx, hb, hml, hown, hts⟩ ((c_X1_putName E l D K (X ++ []) L T h_q2 (by omega) h_ld k_ld (by omega) (by omega) hSA) H.size) (cwV 1 hts (zg_V zw_723 zw_518 zw_724 zw_488 zw_517) rfl rfl rfl (by decide +kernel) ⟨Nat.le_of_ble_eq_true rfl, Nat.le_of_ble_eq_true rfl⟩) (z_preV hK hZc hS hA hE rv10) rfl rfl hl.1 rfl (lv_room (Nat.le_of_ble_eq_true rfl)) dX7_listsBy_41 ⟨Nat.le_of_ble_eq_true rfl, Nat.le_of_ble_eq_true rfl⟩) hZc hS hA (fun  Y1 L1 T1 H locs hp hZ hS => ?_)
  cases hp
  have hZ : zP D vwCl A X [(li, .inr (3, [.ref ld, .int (nI 0), .int (nI (((0 + (4 + 46)) + (4 + 11)) + (4 + n_q2))), .int (nI 0), .int (nI 0), .int (nI 0)]))] L T H := zP.back hZ
  refine lv_aload_n hx hb dX7_listsBy_44 rfl (lv_at hl 2 rfl) ?_
  refine z_getPp (own := RX7) (C := RX7) (TT := TX7) (N := 20) (ci := 8) (Ts := WR) (v := .ref li) hx hb hts zin_wsX70 hown hK hZ h_th k_th rfl 0 (by decide) (hts _ zw_695) (fun _ h9 => h9) (fun _ h => h.1) dX7_listsBy_45 ?_
  refine lv_aload_n hx hb dX7_listsBy_48 rfl (lv_at hl 1 rfl) ?_
  have rv11 : ∃ cell : Cell, H[li]? = some cell ∧ cell.vm.isStatics = false ∧ s.vm.findClass RX1 = some cell.cls := z_recvY hK hZ 0 rfl rfl
  have hZc := zP.into (Y1 := []) (Y2 := [(li, .inr (3, [.ref ld, .int (nI 0), .int (nI (((0 + (4 + 46)) + (4 + 11)) + (4 + n_q2))), .int (nI 0), .int (nI 0), .int (nI 0)]))]) hZ
  refine z_goV (va_runV (As := [.ref q2]) (rest := []) ⟨hx, hb, hml, hown, hts⟩ ((c_X1_putName E l D K (X ++ []) L T h_q2 (by omega) h_ld k_ld (by omega) (by omega) hSA) H.size) (cwV 1 hts (zg_V zw_723 zw_518 zw_724 zw_488 zw_517) rfl rfl rfl (by decide +kernel) ⟨Nat.le_of_ble_eq_true rfl, Nat.le_of_ble_eq_true rfl⟩) (z_preV hK hZc hS hA hE rv11) rfl rfl hl.1 rfl (lv_room (Nat.le_of_ble_eq_true rfl)) dX7_listsBy_49 ⟨Nat.le_of_ble_eq_true rfl, Nat.le_of_ble_eq_true rfl⟩) hZc hS hA (fun  Y1 L1 T1 H locs hp hZ hS => ?_)
  cases hp
  have hZ : zP D vwCl A X [(li, .inr (3, [.ref ld, .int (nI 0), .int (nI ((((0 + (4 + 46)) + (4 + 11)) + (4 + n_q2)) + (4 + n_q2))), .int (nI 0), .int (nI 0), .int (nI 0)]))] L T H := zP.back hZ
  refine lv_aload_n hx hb dX7_listsBy_52 rfl (lv_at hl 2 rfl) ?_
  refine z_getPp (own := RX7) (C := RX7) (TT := TX7) (N := 20) (ci := 8) (Ts := WR) (v := .ref li) hx hb hts zin_wsX70 hown hK hZ h_th k_th rfl 0 (by decide) (hts _ zw_695) (fun _ h9 => h9) (fun _ h => h.1) dX7_listsBy_53 ?_
  refine lv_aload hx hb dX7_listsBy_56 (lv_at hl 0 rfl) ?_
  have rv12 : ∃ cell : Cell, H[li]? = some cell ∧ cell.vm.isStatics = false ∧ s.vm.findClass RX1 = some cell.cls := z_recvY hK hZ 0 rfl rfl
  have hZc := zP.into (Y1 := []) (Y2 := [(li, .inr (3, [.ref ld, .int (nI 0), .int (nI ((((0 + (4 + 46)) + (4 + 11)) + (4 + n_q2)) + (4 + n_q2))), .int (nI 0), .int (nI 0), .int (nI 0)]))]) hZ
  refine z_goV (va_runV (As := [.ref q4]) (rest := []) ⟨hx, hb, hml, hown, hts⟩ ((c_X1_putName E l D K (X ++ []) L T h_q4 (by omega) h_ld k_ld (by omega) (by omega) hSA) H.size) (cwV 1 hts (zg_V zw_723 zw_518 zw_724 zw_488 zw_517) rfl rfl rfl (by decide +kernel) ⟨Nat.le_of_ble_eq_true rfl, Nat.le_of_ble_eq_true rfl⟩) (z_preV hK hZc hS hA hE rv12) rfl rfl hl.1 rfl (lv_room (Nat.le_of_ble_eq_true rfl)) dX7_listsBy_58 ⟨Nat.le_of_ble_eq_true rfl, Nat.le_of_ble_eq_true rfl⟩) hZc hS hA (fun  Y1 L1 T1 H locs hp hZ hS => ?_)
  cases hp
  have hZ : zP D vwCl A X [(li, .inr (3, [.ref ld, .int (nI 0), .int (nI (((((0 + (4 + 46)) + (4 + 11)) + (4 + n_q2)) + (4 + n_q2)) + (4 + n_q4))), .int (nI 0), .int (nI 0), .int (nI 0)]))] L T H := zP.back hZ
  refine lv_aload_n hx hb dX7_listsBy_61 rfl (lv_at hl 2 rfl) ?_
  refine z_getPp (own := RX7) (C := RX7) (TT := TX7) (N := 20) (ci := 8) (Ts := WR) (v := .ref li) hx hb hts zin_wsX70 hown hK hZ h_th k_th rfl 0 (by decide) (hts _ zw_695) (fun _ h9 => h9) (fun _ h => h.1) dX7_listsBy_62 ?_
  refine lv_aload hx hb dX7_listsBy_65 (lv_at hl 0 rfl) ?_
  have rv13 : ∃ cell : Cell, H[li]? = some cell ∧ cell.vm.isStatics = false ∧ s.vm.findClass RX1 = some cell.cls := z_recvY hK hZ 0 rfl rfl
  have hZc := zP.into (Y1 := []) (Y2 := [(li, .inr (3, [.ref ld, .int (nI 0), .int (nI (((((0 + (4 + 46)) + (4 + 11)) + (4 + n_q2)) + (4 + n_q2)) + (4 + n_q4))), .int (nI 0), .int (nI 0), .int (nI 0)]))]) hZ
  refine z_goV (va_runV (As := [.ref q4]) (rest := []) ⟨hx, hb, hml, hown, hts⟩ ((c_X1_putName E l D K (X ++ []) L T h_q4 (by omega) h_ld k_ld (by omega) (by omega) hSA) H.size) (cwV 1 hts (zg_V zw_723 zw_518 zw_724 zw_488 zw_517) rfl rfl rfl (by decide +kernel) ⟨Nat.le_of_ble_eq_true rfl, Nat.le_of_ble_eq_true rfl⟩) (z_preV hK hZc hS hA hE rv13) rfl rfl hl.1 rfl (lv_room (Nat.le_of_ble_eq_true rfl)) dX7_listsBy_67 ⟨Nat.le_of_ble_eq_true rfl, Nat.le_of_ble_eq_true rfl⟩) hZc hS hA (fun  Y1 L1 T1 H locs hp hZ hS => ?_)
  cases hp
  have hZ : zP D vwCl A X [(li, .inr (3, [.ref ld, .int (nI 0), .int (nI ((((((0 + (4 + 46)) + (4 + 11)) + (4 + n_q2)) + (4 + n_q2)) + (4 + n_q4)) + (4 + n_q4))), .int (nI 0), .int (nI 0), .int (nI 0)]))] L T H := zP.back hZ
  refine lv_aload_n hx hb dX7_listsBy_70 rfl (lv_at hl 2 rfl) ?_
  refine z_getPp (own := RX7) (C := RX7) (TT := TX7) (N := 20) (ci := 8) (Ts := WR) (v := .ref li) hx hb hts zin_wsX70 hown hK hZ h_th k_th rfl 0 (by decide) (hts _ zw_695) (fun _ h9 => h9) (fun _ h => h.1) dX7_listsBy_71 ?_
  obtain ⟨q14, v_q14, r_q14, h_q14⟩ := hSt RX7 107 4 "none" (zstr_RX7_107)
  refine z_ldcS hx hb hown hE r_q14 dX7_listsBy_74 ?_
  have rv15 : ∃ cell : Cell, H[li]? = some cell ∧ cell.vm.isStatics = false ∧ s.vm.findClass RX1 = some cell.cls := z_recvY hK hZ 0 rfl rfl
  have hZc := zP.into (Y1 := []) (Y2 := [(li, .inr (3, [.ref ld, .int (nI 0), .int (nI ((((((0 + (4 + 46)) + (4 + 11)) + (4 + n_q2)) + (4 + n_q2)) + (4 + n_q4)) + (4 + n_q4))), .int (nI 0), .int (nI 0), .int (nI 0)]))]) hZ
  refine z_goV (va_runV (As := [.ref q14]) (rest := []) ⟨hx, hb, hml, hown, hts⟩ ((c_X1_putName E l D K (X ++ []) L T h_q14 (by omega) h_ld k_ld (by omega) (by omega) hSA) H.size) (cwV 1 hts (zg_V zw_723 zw_518 zw_724 zw_488 zw_517) rfl rfl rfl (by decide +kernel) ⟨Nat.le_of_ble_eq_true rfl, Nat.le_of_ble_eq_true rfl⟩) (z_preV hK hZc hS hA hE rv15) rfl rfl hl.1 rfl (lv_room (Nat.le_of_ble_eq_true rfl)) dX7_listsBy_76 ⟨Nat.le_of_ble_eq_true rfl, Nat.le_of_ble_eq_true rfl⟩) hZc hS hA (fun  Y1 L1 T1 H locs hp hZ hS => ?_)
  cases hp
  have hZ : zP D vwCl A X [(li, .inr (3, [.ref ld, .int (nI 0), .int (nI (((((((0 + (4 + 46)) + (4 + 11)) + (4 + n_q2)) + (4 + n_q2)) + (4 + n_q4)) + (4 + n_q4)) + (4 + 4))), .int (nI 0), .int (nI 0), .int (nI 0)]))] L T H := zP.back hZ
  refine lv_aload_n hx hb dX7_listsBy_79 rfl (lv_at hl 2 rfl) ?_
  refine z_getPp (own := RX7) (C := RX7) (TT := TX7) (N := 20) (ci := 8) (Ts := WR) (v := .ref li) hx hb hts zin_wsX70 hown hK hZ h_th k_th rfl 0 (by decide) (hts _ zw_695) (fun _ h9 => h9) (fun _ h => h.1) dX7_listsBy_80 ?_
  obtain ⟨q16, v_q16, r_q16, h_q16⟩ := hSt RX7 107 4 "none" (zstr_RX7_107)
  refine z_ldcS hx hb hown hE r_q16 dX7_listsBy_83 ?_
  show W p l e ROOM_X7_listsBy s m [.ref th, .int ci, .int ma].toArray below meth c H locs 0 0 (MQ below (va_Qv (fun (u : zU) => ∃ (z : Nat), u = ([(li, .inr (3, [.ref ld, .int (nI 0), .int (nI z), .int (nI 0), .int (nI 0), .int (nI 0)]))], L, T)) (zB D vwCl (zT K) A X) A) [.ref th, .int ci, .int ma].toArray s 0 0 A) (F0 m 85 ls [.ref q16, .ref li])
  have rv17 : ∃ cell : Cell, H[li]? = some cell ∧ cell.vm.isStatics = false ∧ s.vm.findClass RX1 = some cell.cls := z_recvY hK hZ 0 rfl rfl
  have hZc := zP.into (Y1 := []) (Y2 := [(li, .inr (3, [.ref ld, .int (nI 0), .int (nI (((((((0 + (4 + 46)) + (4 + 11)) + (4 + n_q2)) + (4 + n_q2)) + (4 + n_q4)) + (4 + n_q4)) + (4 + 4))), .int (nI 0), .int (nI 0), .int (nI 0)]))]) hZ
  refine z_goV (va_runV (As := [.ref q16]) (rest := []) ⟨hx, hb, hml, hown, hts⟩ ((c_X1_putName E l D K (X ++ []) L T h_q16 (by omega) h_ld k_ld (by omega) (by omega) hSA) H.size) (cwV 1 hts (zg_V zw_723 zw_518 zw_724 zw_488 zw_517) rfl rfl rfl (by decide +kernel) ⟨Nat.le_of_ble_eq_true rfl, Nat.le_of_ble_eq_true rfl⟩) (z_preV hK hZc hS hA hE rv17) rfl rfl hl.1 rfl (lv_room (Nat.le_of_ble_eq_true rfl)) dX7_listsBy_85 ⟨Nat.le_of_ble_eq_true rfl, Nat.le_of_ble_eq_true rfl⟩) hZc hS hA (fun  Y1 L1 T1 H locs hp hZ hS => ?_)
  cases hp
  have hZ : zP D vwCl A X [(li, .inr (3, [.ref ld, .int (nI 0), .int (nI ((((((((0 + (4 + 46)) + (4 + 11)) + (4 + n_q2)) + (4 + n_q2)) + (4 + n_q4)) + (4 + n_q4)) + (4 + 4)) + (4 + 4))), .int (nI 0), .int (nI 0), .int (nI 0)]))] L T H := zP.back hZ
  refine lv_aload_n hx hb dX7_listsBy_88 rfl (lv_at hl 2 rfl) ?_
  refine z_getPp (own := RX7) (C := RX7) (TT := TX7) (N := 20) (ci := 8) (Ts := WR) (v := .ref li) hx hb hts zin_wsX70 hown hK hZ h_th k_th rfl 0 (by decide) (hts _ zw_695) (fun _ h9 => h9) (fun _ h => h.1) dX7_listsBy_89 ?_
  refine lv_iconst (v := nI 0) hx hb dX7_listsBy_92 (by decide +kernel) ?_
  have rv18 : ∃ cell : Cell, H[li]? = some cell ∧ cell.vm.isStatics = false ∧ s.vm.findClass RX1 = some cell.cls := z_recvY hK hZ 0 rfl rfl
  have hZc := zP.into (Y1 := []) (Y2 := [(li, .inr (3, [.ref ld, .int (nI 0), .int (nI ((((((((0 + (4 + 46)) + (4 + 11)) + (4 + n_q2)) + (4 + n_q2)) + (4 + n_q4)) + (4 + n_q4)) + (4 + 4)) + (4 + 4))), .int (nI 0), .int (nI 0), .int (nI 0)]))]) hZ
  refine z_goV (va_runV (As := [.int (nI 0)]) (rest := []) ⟨hx, hb, hml, hown, hts⟩ ((c_X1_putInt E l D K (X ++ []) L T h_ld k_ld (by omega) (by omega)) H.size) (cwV 1 hts (zg_V zw_725 zw_512 zw_520 zw_488 zw_511) rfl rfl rfl (by decide +kernel) ⟨Nat.le_of_ble_eq_true rfl, Nat.le_of_ble_eq_true rfl⟩) (z_preV hK hZc hS hA hE rv18) rfl rfl hl.1 rfl (lv_room (Nat.le_of_ble_eq_true rfl)) dX7_listsBy_93 ⟨Nat.le_of_ble_eq_true rfl, Nat.le_of_ble_eq_true rfl⟩) hZc hS hA (fun  Y1 L1 T1 H locs hp hZ hS => ?_)
  cases hp
  have hZ : zP D vwCl A X [(li, .inr (3, [.ref ld, .int (nI 0), .int (nI (((((((((0 + (4 + 46)) + (4 + 11)) + (4 + n_q2)) + (4 + n_q2)) + (4 + n_q4)) + (4 + n_q4)) + (4 + 4)) + (4 + 4)) + 4)), .int (nI 0), .int (nI 0), .int (nI 0)]))] L T H := zP.back hZ
  refine lv_aload_n hx hb dX7_listsBy_96 rfl (lv_at hl 2 rfl) ?_
  refine z_getPp (own := RX7) (C := RX7) (TT := TX7) (N := 20) (ci := 8) (Ts := WR) (v := .ref li) hx hb hts zin_wsX70 hown hK hZ h_th k_th rfl 0 (by decide) (hts _ zw_695) (fun _ h9 => h9) (fun _ h => h.1) dX7_listsBy_97 ?_
  refine lv_iconst (v := nI 0) hx hb dX7_listsBy_100 (by decide +kernel) ?_
  have rv19 : ∃ cell : Cell, H[li]? = some cell ∧ cell.vm.isStatics = false ∧ s.vm.findClass RX1 = some cell.cls := z_recvY hK hZ 0 rfl rfl
  have hZc := zP.into (Y1 := []) (Y2 := [(li, .inr (3, [.ref ld, .int (nI 0), .int (nI (((((((((0 + (4 + 46)) + (4 + 11)) + (4 + n_q2)) + (4 + n_q2)) + (4 + n_q4)) + (4 + n_q4)) + (4 + 4)) + (4 + 4)) + 4)), .int (nI 0), .int (nI 0), .int (nI 0)]))]) hZ
  refine z_goV (va_runV (As := [.int (nI 0)]) (rest := []) ⟨hx, hb, hml, hown, hts⟩ ((c_X1_putInt E l D K (X ++ []) L T h_ld k_ld (by omega) (by omega)) H.size) (cwV 1 hts (zg_V zw_725 zw_512 zw_520 zw_488 zw_511) rfl rfl rfl (by decide +kernel) ⟨Nat.le_of_ble_eq_true rfl, Nat.le_of_ble_eq_true rfl⟩) (z_preV hK hZc hS hA hE rv19) rfl rfl hl.1 rfl (lv_room (Nat.le_of_ble_eq_true rfl)) dX7_listsBy_101 ⟨Nat.le_of_ble_eq_true rfl, Nat.le_of_ble_eq_true rfl⟩) hZc hS hA (fun  Y1 L1 T1 H locs hp hZ hS => ?_)
  cases hp
  have hZ : zP D vwCl A X [(li, .inr (3, [.ref ld, .int (nI 0), .int (nI ((((((((((0 + (4 + 46)) + (4 + 11)) + (4 + n_q2)) + (4 + n_q2)) + (4 + n_q4)) + (4 + n_q4)) + (4 + 4)) + (4 + 4)) + 4) + 4)), .int (nI 0), .int (nI 0), .int (nI 0)]))] L T H := zP.back hZ
  refine lv_aload_n hx hb dX7_listsBy_104 rfl (lv_at hl 2 rfl) ?_
  refine z_getPp (own := RX7) (C := RX7) (TT := TX7) (N := 20) (ci := 8) (Ts := WR) (v := .ref li) hx hb hts zin_wsX70 hown hK hZ h_th k_th rfl 0 (by decide) (hts _ zw_695) (fun _ h9 => h9) (fun _ h => h.1) dX7_listsBy_105 ?_
  refine lv_iconst (v := nI 0) hx hb dX7_listsBy_108 (by decide +kernel) ?_
  have rv20 : ∃ cell : Cell, H[li]? = some cell ∧ cell.vm.isStatics = false ∧ s.vm.findClass RX1 = some cell.cls := z_recvY hK hZ 0 rfl rfl
  have hZc := zP.into (Y1 := []) (Y2 := [(li, .inr (3, [.ref ld, .int (nI 0), .int (nI ((((((((((0 + (4 + 46)) + (4 + 11)) + (4 + n_q2)) + (4 + n_q2)) + (4 + n_q4)) + (4 + n_q4)) + (4 + 4)) + (4 + 4)) + 4) + 4)), .int (nI 0), .int (nI 0), .int (nI 0)]))]) hZ
  refine z_goV (va_runV (As := [.int (nI 0)]) (rest := []) ⟨hx, hb, hml, hown, hts⟩ ((c_X1_put E l D K (X ++ []) L T h_ld k_ld (by omega) (by omega)) H.size) (cwV 1 hts (zg_V zw_726 zw_508 zw_727 zw_488 zw_507) rfl rfl rfl (by decide +kernel) ⟨Nat.le_of_ble_eq_true rfl, Nat.le_of_ble_eq_true rfl⟩) (z_preV hK hZc hS hA hE rv20) rfl rfl hl.1 rfl (lv_room (Nat.le_of_ble_eq_true rfl)) dX7_listsBy_109 ⟨Nat.le_of_ble_eq_true rfl, Nat.le_of_ble_eq_true rfl⟩) hZc hS hA (fun  Y1 L1 T1 H locs hp hZ hS => ?_)
  cases hp
  have hZ : zP D vwCl A X [(li, .inr (3, [.ref ld, .int (nI 0), .int (nI (((((((((((0 + (4 + 46)) + (4 + 11)) + (4 + n_q2)) + (4 + n_q2)) + (4 + n_q4)) + (4 + n_q4)) + (4 + 4)) + (4 + 4)) + 4) + 4) + 1)), .int (nI 0), .int (nI 0), .int (nI 0)]))] L T H := zP.back hZ
  refine lv_aload_n hx hb dX7_listsBy_112 rfl (lv_at hl 2 rfl) ?_
  refine z_getPp (own := RX7) (C := RX7) (TT := TX7) (N := 20) (ci := 8) (Ts := WR) (v := .ref li) hx hb hts zin_wsX70 hown hK hZ h_th k_th rfl 0 (by decide) (hts _ zw_695) (fun _ h9 => h9) (fun _ h => h.1) dX7_listsBy_113 ?_
  refine lv_iconst (v := nI 0) hx hb dX7_listsBy_116 (by decide +kernel) ?_
  have rv21 : ∃ cell : Cell, H[li]? = some cell ∧ cell.vm.isStatics = false ∧ s.vm.findClass RX1 = some cell.cls := z_recvY hK hZ 0 rfl rfl
  have hZc := zP.into (Y1 := []) (Y2 := [(li, .inr (3, [.ref ld, .int (nI 0), .int (nI (((((((((((0 + (4 + 46)) + (4 + 11)) + (4 + n_q2)) + (4 + n_q2)) + (4 + n_q4)) + (4 + n_q4)) + (4 + 4)) + (4 + 4)) + 4) + 4) + 1)), .int (nI 0), .int (nI 0), .int (nI 0)]))]) hZ
  refine z_goV (va_runV (As := [.int (nI 0)]) (rest := []) ⟨hx, hb, hml, hown, hts⟩ ((c_X1_putInt E l D K (X ++ []) L T h_ld k_ld (by omega) (by omega)) H.size) (cwV 1 hts (zg_V zw_725 zw_512 zw_520 zw_488 zw_511) rfl rfl rfl (by decide +kernel) ⟨Nat.le_of_ble_eq_true rfl, Nat.le_of_ble_eq_true rfl⟩) (z_preV hK hZc hS hA hE rv21) rfl rfl hl.1 rfl (lv_room (Nat.le_of_ble_eq_true rfl)) dX7_listsBy_117 ⟨Nat.le_of_ble_eq_true rfl, Nat.le_of_ble_eq_true rfl⟩) hZc hS hA (fun  Y1 L1 T1 H locs hp hZ hS => ?_)
  cases hp
  have hZ : zP D vwCl A X [(li, .inr (3, [.ref ld, .int (nI 0), .int (nI ((((((((((((0 + (4 + 46)) + (4 + 11)) + (4 + n_q2)) + (4 + n_q2)) + (4 + n_q4)) + (4 + n_q4)) + (4 + 4)) + (4 + 4)) + 4) + 4) + 1) + 4)), .int (nI 0), .int (nI 0), .int (nI 0)]))] L T H := zP.back hZ
  exact z_vret hx hb hr hlocks hK hZ hS ⟨((((((((((((0 + (4 + 46)) + (4 + 11)) + (4 + n_q2)) + (4 + n_q2)) + (4 + n_q4)) + (4 + n_q4)) + (4 + 4)) + (4 + 4)) + 4) + 4) + 1) + 4), rfl⟩ (Nat.le_of_ble_eq_true rfl) (Nat.le_of_ble_eq_true rfl) dX7_listsBy_120
end ZEXC

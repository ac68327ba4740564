section ZMO
abbrev ROOM_X17_init : Room := { frames := 4, cells := 13, slots := 37555, locals := 92 }
set_option maxHeartbeats 4000000 in
set_option maxRecDepth 100000 in
/-- Hash() -/
theorem c_X17_init (E : zEn) (l : Launch) (D : va_G) (K : Nat → ClassId) (X : va_W) (L : List Nat) (T : Nat → va_E → Prop) {th : Nat}    : zV E l D vwCl (zT K) yX17_init (zws yX17_init cX17_init 3 none) ROOM_X17_init 13 37555 [.ref th] X [(th, .inr (18, [.null, .null, .null, .null, .null, .null, .int (nI 0), .null, .null, .null, .null, .null, .null, .null]))] L T (fun (u : zU) => u = ([], L, T)) := by
  refine z_ofW (E := E) (Qc := fun A => va_Qv (fun (u : zU) => u = ([], L, T)) (zB D vwCl (zT K) A X) A) (cc := cX17_init) (maxL := 3) (ret := none) (by decide +kernel) rfl (Nat.le_of_ble_eq_true rfl) ?_
  intro p e s m below meth c A ls hx hb hml hr hts hown hlocks hin hA hK hZ hS hE hl
  have hown : s.vm.findClass RX17 = some m.cls := hown
  have hts : ∀ w ∈ WR, w.before [.ref th].toArray s = true := fun w h => hts w (List.mem_cons_of_mem _ h)
  have hl : lv_has ls 3 [(0, .ref th)] := hl
  obtain ⟨H, hH⟩ : ∃ H, H = s.heap := ⟨_, rfl⟩
  have hZ : zP D vwCl A X [(th, .inr (18, [.null, .null, .null, .null, .null, .null, .int (nI 0), .null, .null, .null, .null, .null, .null, .null]))] L T H := by rw [hH]; exact hZ
  obtain ⟨locs, hlc⟩ : ∃ q : List Loc, q = [] := ⟨_, rfl⟩
  have hS : va_S A s.heap H locs := by rw [hH, hlc]; exact hS
  suffices hW : W p l e ROOM_X17_init s m [.ref th].toArray below meth c H locs 0 0 (MQ below (va_Qv (fun (u : zU) => u = ([], L, T)) (zB D vwCl (zT K) A X) A) [.ref th].toArray s 13 37555 A) (F0 m 0 ls []) by rw [hH, hlc] at hW; exact hW
  clear hH hlc
  have hGG : zG L T L T := zG.rf
  have hND := hZ.nodup
  refine lv_aload_n hx hb dX17_init_0 rfl (lv_at hl 0 rfl) ?_
  refine W.objInit hx hb hown (hts _ zw_166) (hts _ zw_4) (hts _ zw_5) rfl (by rw [hml]; exact hl.1) rfl dX17_init_1 (Nat.le_of_ble_eq_true rfl) (Nat.le_of_ble_eq_true rfl) ?_
  refine lv_aload_n hx hb dX17_init_4 rfl (lv_at hl 0 rfl) ?_
  refine lv_bipush (v := nI 80) hx hb dX17_init_5 (by decide +kernel) ?_
  refine z_newJ hx hb (hts _ zw_6) hK hZ hS hA 1 rfl (n := nI 80) (N := 80) (nI_pos (Nat.le_of_ble_eq_true rfl)) (nI_clamp (Nat.le_of_ble_eq_true rfl)) (Nat.le_of_ble_eq_true rfl) (Nat.le_of_ble_eq_true rfl) (Nat.le_of_ble_eq_true rfl) dX17_init_7 (fun q1 H hZ hS => ?_)
  have hZ : zP D vwCl A X [(th, .inr (18, [.null, .null, .null, .null, .null, .null, .int (nI 0), .null, .null, .null, .null, .null, .null, .null])), (q1, .inl (K 1, 80, .inr (.inl (fun _ => 0))))] L T H := hZ
  refine z_putF (own := RX17) (C := RX17) (TT := TX17) (N := 14) (ci := 18) (Ts := WR) (v := .ref q1) (ty := (.array .long)) hx hb hts zin_wsX170 tyX17 tyX17_ok nmX17 hown hK hZ hS 0 rfl rfl 0 (by decide) (hts _ zw_167) (fun _ h9 => h9) rfl hin rfl (by decide +kernel) rfl rfl (Nat.le_of_ble_eq_true rfl) dX17_init_9 (fun H locs hZ hS => ?_)
  have hZ : zP D vwCl A X [(th, .inr (18, [.ref q1, .null, .null, .null, .null, .null, .int (nI 0), .null, .null, .null, .null, .null, .null, .null])), (q1, .inl (K 1, 80, .inr (.inl (fun _ => 0))))] L T H := hZ
  refine lv_aload_n hx hb dX17_init_12 rfl (lv_at hl 0 rfl) ?_
  refine lv_bipush (v := nI 24) hx hb dX17_init_13 (by decide +kernel) ?_
  refine z_newJ hx hb (hts _ zw_6) hK hZ hS hA 1 rfl (n := nI 24) (N := 24) (nI_pos (Nat.le_of_ble_eq_true rfl)) (nI_clamp (Nat.le_of_ble_eq_true rfl)) (Nat.le_of_ble_eq_true rfl) (Nat.le_of_ble_eq_true rfl) (Nat.le_of_ble_eq_true rfl) dX17_init_15 (fun q2 H hZ hS => ?_)
  have hZ : zP D vwCl A X [(th, .inr (18, [.ref q1, .null, .null, .null, .null, .null, .int (nI 0), .null, .null, .null, .null, .null, .null, .null])), (q1, .inl (K 1, 80, .inr (.inl (fun _ => 0)))), (q2, .inl (K 1, 24, .inr (.inl (fun _ => 0))))] L T H := hZ
  refine z_putF (own := RX17) (C := RX17) (TT := TX17) (N := 14) (ci := 18) (Ts := WR) (v := .ref q2) (ty := (.array .long)) hx hb hts zin_wsX170 tyX17 tyX17_ok nmX17 hown hK hZ hS 0 rfl rfl 1 (by decide) (hts _ zw_168) (fun _ h9 => h9) rfl hin rfl (by decide +kernel) rfl rfl (Nat.le_of_ble_eq_true rfl) dX17_init_17 (fun H locs hZ hS => ?_)
  have hZ : zP D vwCl A X [(th, .inr (18, [.ref q1, .ref q2, .null, .null, .null, .null, .int (nI 0), .null, .null, .null, .null, .null, .null, .null])), (q1, .inl (K 1, 80, .inr (.inl (fun _ => 0)))), (q2, .inl (K 1, 24, .inr (.inl (fun _ => 0))))] L T H := hZ
  refine lv_aload_n hx hb dX17_init_20 rfl (lv_at hl 0 rfl) ?_
  refine lv_bipush (v := nI 80) hx hb dX17_init_21 (by decide +kernel) ?_
  refine z_newJ hx hb (hts _ zw_6) hK hZ hS hA 1 rfl (n := nI 80) (N := 80) (nI_pos (Nat.le_of_ble_eq_true rfl)) (nI_clamp (Nat.le_of_ble_eq_true rfl)) (Nat.le_of_ble_eq_true rfl) (Nat.le_of_ble_eq_true rfl) (Nat.le_of_ble_eq_true rfl) dX17_init_23 (fun q3 H hZ hS => ?_)
  have hZ : zP D vwCl A X [(th, .inr (18, [.ref q1, .ref q2, .null, .null, .null, .null, .int (nI 0), .null, .null, .null, .null, .null, .null, .null])), (q1, .inl (K 1, 80, .inr (.inl (fun _ => 0)))), (q2, .inl (K 1, 24, .inr (.inl (fun _ => 0)))), (q3, .inl (K 1, 80, .inr (.inl (fun _ => 0))))] L T H := hZ
  refine z_putF (own := RX17) (C := RX17) (TT := TX17) (N := 14) (ci := 18) (Ts := WR) (v := .ref q3) (ty := (.array .long)) hx hb hts zin_wsX170 tyX17 tyX17_ok nmX17 hown hK hZ hS 0 rfl rfl 2 (by decide) (hts _ zw_169) (fun _ h9 => h9) rfl hin rfl (by decide +kernel) rfl rfl (Nat.le_of_ble_eq_true rfl) dX17_init_25 (fun H locs hZ hS => ?_)
  have hZ : zP D vwCl A X [(th, .inr (18, [.ref q1, .ref q2, .ref q3, .null, .null, .null, .int (nI 0), .null, .null, .null, .null, .null, .null, .null])), (q1, .inl (K 1, 80, .inr (.inl (fun _ => 0)))), (q2, .inl (K 1, 24, .inr (.inl (fun _ => 0)))), (q3, .inl (K 1, 80, .inr (.inl (fun _ => 0))))] L T H := hZ
  refine lv_aload_n hx hb dX17_init_28 rfl (lv_at hl 0 rfl) ?_
  refine lv_bipush (v := nI 8) hx hb dX17_init_29 (by decide +kernel) ?_
  refine z_newJ hx hb (hts _ zw_6) hK hZ hS hA 1 rfl (n := nI 8) (N := 8) (nI_pos (Nat.le_of_ble_eq_true rfl)) (nI_clamp (Nat.le_of_ble_eq_true rfl)) (Nat.le_of_ble_eq_true rfl) (Nat.le_of_ble_eq_true rfl) (Nat.le_of_ble_eq_true rfl) dX17_init_31 (fun q4 H hZ hS => ?_)
  have hZ : zP D vwCl A X [(th, .inr (18, [.ref q1, .ref q2, .ref q3, .null, .null, .null, .int (nI 0), .null, .null, .null, .null, .null, .null, .null])), (q1, .inl (K 1, 80, .inr (.inl (fun _ => 0)))), (q2, .inl (K 1, 24, .inr (.inl (fun _ => 0)))), (q3, .inl (K 1, 80, .inr (.inl (fun _ => 0)))), (q4, .inl (K 1, 8, .inr (.inl (fun _ => 0))))] L T H := hZ
  refine z_putF (own := RX17) (C := RX17) (TT := TX17) (N := 14) (ci := 18) (Ts := WR) (v := .ref q4) (ty := (.array .long)) hx hb hts zin_wsX170 tyX17 tyX17_ok nmX17 hown hK hZ hS 0 rfl rfl 3 (by decide) (hts _ zw_170) (fun _ h9 => h9) rfl hin rfl (by decide +kernel) rfl rfl (Nat.le_of_ble_eq_true rfl) dX17_init_33 (fun H locs hZ hS => ?_)
  have hZ : zP D vwCl A X [(th, .inr (18, [.ref q1, .ref q2, .ref q3, .ref q4, .null, .null, .int (nI 0), .null, .null, .null, .null, .null, .null, .null])), (q1, .inl (K 1, 80, .inr (.inl (fun _ => 0)))), (q2, .inl (K 1, 24, .inr (.inl (fun _ => 0)))), (q3, .inl (K 1, 80, .inr (.inl (fun _ => 0)))), (q4, .inl (K 1, 8, .inr (.inl (fun _ => 0))))] L T H := hZ
  refine lv_aload_n hx hb dX17_init_36 rfl (lv_at hl 0 rfl) ?_
  refine lv_bipush (v := nI 8) hx hb dX17_init_37 (by decide +kernel) ?_
  refine z_newJ hx hb (hts _ zw_6) hK hZ hS hA 1 rfl (n := nI 8) (N := 8) (nI_pos (Nat.le_of_ble_eq_true rfl)) (nI_clamp (Nat.le_of_ble_eq_true rfl)) (Nat.le_of_ble_eq_true rfl) (Nat.le_of_ble_eq_true rfl) (Nat.le_of_ble_eq_true rfl) dX17_init_39 (fun q5 H hZ hS => ?_)
  have hZ : zP D vwCl A X [(th, .inr (18, [.ref q1, .ref q2, .ref q3, .ref q4, .null, .null, .int (nI 0), .null, .null, .null, .null, .null, .null, .null])), (q1, .inl (K 1, 80, .inr (.inl (fun _ => 0)))), (q2, .inl (K 1, 24, .inr (.inl (fun _ => 0)))), (q3, .inl (K 1, 80, .inr (.inl (fun _ => 0)))), (q4, .inl (K 1, 8, .inr (.inl (fun _ => 0)))), (q5, .inl (K 1, 8, .inr (.inl (fun _ => 0))))] L T H := hZ
  refine z_putF (own := RX17) (C := RX17) (TT := TX17) (N := 14) (ci := 18) (Ts := WR) (v := .ref q5) (ty := (.array .long)) hx hb hts zin_wsX170 tyX17 tyX17_ok nmX17 hown hK hZ hS 0 rfl rfl 4 (by decide) (hts _ zw_171) (fun _ h9 => h9) rfl hin rfl (by decide +kernel) rfl rfl (Nat.le_of_ble_eq_true rfl) dX17_init_41 (fun H locs hZ hS => ?_)
  have hZ : zP D vwCl A X [(th, .inr (18, [.ref q1, .ref q2, .ref q3, .ref q4, .ref q5, .null, .int (nI 0), .null, .null, .null, .null, .null, .null, .null])), (q1, .inl (K 1, 80, .inr (.inl (fun _ => 0)))), (q2, .inl (K 1, 24, .inr (.inl (fun _ => 0)))), (q3, .inl (K 1, 80, .inr (.inl (fun _ => 0)))), (q4, .inl (K 1, 8, .inr (.inl (fun _ => 0)))), (q5, .inl (K 1, 8, .inr (.inl (fun _ => 0))))] L T H := hZ
  refine lv_aload_n hx hb dX17_init_44 rfl (lv_at hl 0 rfl) ?_
  refine lv_bipush (v := nI 8) hx hb dX17_init_45 (by decide +kernel) ?_
  refine z_newJ hx hb (hts _ zw_6) hK hZ hS hA 1 rfl (n := nI 8) (N := 8) (nI_pos (Nat.le_of_ble_eq_true rfl)) (nI_clamp (Nat.le_of_ble_eq_true rfl)) (Nat.le_of_ble_eq_true rfl) (Nat.le_of_ble_eq_true rfl) (Nat.le_of_ble_eq_true rfl) dX17_init_47 (fun q6 H hZ hS => ?_)
  have hZ : zP D vwCl A X [(th, .inr (18, [.ref q1, .ref q2, .ref q3, .ref q4, .ref q5, .null, .int (nI 0), .null, .null, .null, .null, .null, .null, .null])), (q1, .inl (K 1, 80, .inr (.inl (fun _ => 0)))), (q2, .inl (K 1, 24, .inr (.inl (fun _ => 0)))), (q3, .inl (K 1, 80, .inr (.inl (fun _ => 0)))), (q4, .inl (K 1, 8, .inr (.inl (fun _ => 0)))), (q5, .inl (K 1, 8, .inr (.inl (fun _ => 0)))), (q6, .inl (K 1, 8, .inr (.inl (fun _ => 0))))] L T H := hZ
  refine z_putF (own := RX17) (C := RX17) (TT := TX17) (N := 14) (ci := 18) (Ts := WR) (v := .ref q6) (ty := (.array .long)) hx hb hts zin_wsX170 tyX17 tyX17_ok nmX17 hown hK hZ hS 0 rfl rfl 5 (by decide) (hts _ zw_172) (fun _ h9 => h9) rfl hin rfl (by decide +kernel) rfl rfl (Nat.le_of_ble_eq_true rfl) dX17_init_49 (fun H locs hZ hS => ?_)
  have hZ : zP D vwCl A X [(th, .inr (18, [.ref q1, .ref q2, .ref q3, .ref q4, .ref q5, .ref q6, .int (nI 0), .null, .null, .null, .null, .null, .null, .null])), (q1, .inl (K 1, 80, .inr (.inl (fun _ => 0)))), (q2, .inl (K 1, 24, .inr (.inl (fun _ => 0)))), (q3, .inl (K 1, 80, .inr (.inl (fun _ => 0)))), (q4, .inl (K 1, 8, .inr (.inl (fun _ => 0)))), (q5, .inl (K 1, 8, .inr (.inl (fun _ => 0)))), (q6, .inl (K 1, 8, .inr (.inl (fun _ => 0))))] L T H := hZ
  refine lv_aload_n hx hb dX17_init_52 rfl (lv_at hl 0 rfl) ?_
  refine lv_bipush (v := nI 64) hx hb dX17_init_53 (by decide +kernel) ?_
  refine z_newB hx hb (hts _ zw_63) hK hZ hS hA 2 rfl (n := nI 64) (N := 64) (nI_pos (Nat.le_of_ble_eq_true rfl)) (nI_clamp (Nat.le_of_ble_eq_true rfl)) (Nat.le_of_ble_eq_true rfl) (Nat.le_of_ble_eq_true rfl) (Nat.le_of_ble_eq_true rfl) dX17_init_55 (fun q7 H hZ hS => ?_)
  have hZ : zP D vwCl A X [(th, .inr (18, [.ref q1, .ref q2, .ref q3, .ref q4, .ref q5, .ref q6, .int (nI 0), .null, .null, .null, .null, .null, .null, .null])), (q1, .inl (K 1, 80, .inr (.inl (fun _ => 0)))), (q2, .inl (K 1, 24, .inr (.inl (fun _ => 0)))), (q3, .inl (K 1, 80, .inr (.inl (fun _ => 0)))), (q4, .inl (K 1, 8, .inr (.inl (fun _ => 0)))), (q5, .inl (K 1, 8, .inr (.inl (fun _ => 0)))), (q6, .inl (K 1, 8, .inr (.inl (fun _ => 0)))), (q7, .inl (K 2, 64, .inl (fun _ => 0)))] L T H := hZ
  refine z_putF (own := RX17) (C := RX17) (TT := TX17) (N := 14) (ci := 18) (Ts := WR) (v := .ref q7) (ty := (.array .byte)) hx hb hts zin_wsX170 tyX17 tyX17_ok nmX17 hown hK hZ hS 0 rfl rfl 7 (by decide) (hts _ zw_173) (fun _ h9 => h9) rfl hin rfl (by decide +kernel) rfl rfl (Nat.le_of_ble_eq_true rfl) dX17_init_57 (fun H locs hZ hS => ?_)
  have hZ : zP D vwCl A X [(th, .inr (18, [.ref q1, .ref q2, .ref q3, .ref q4, .ref q5, .ref q6, .int (nI 0), .ref q7, .null, .null, .null, .null, .null, .null])), (q1, .inl (K 1, 80, .inr (.inl (fun _ => 0)))), (q2, .inl (K 1, 24, .inr (.inl (fun _ => 0)))), (q3, .inl (K 1, 80, .inr (.inl (fun _ => 0)))), (q4, .inl (K 1, 8, .inr (.inl (fun _ => 0)))), (q5, .inl (K 1, 8, .inr (.inl (fun _ => 0)))), (q6, .inl (K 1, 8, .inr (.inl (fun _ => 0)))), (q7, .inl (K 2, 64, .inl (fun _ => 0)))] L T H := hZ
  refine lv_aload_n hx hb dX17_init_60 rfl (lv_at hl 0 rfl) ?_
  refine lv_sipush (v := nI 128) hx hb dX17_init_61 (by decide +kernel) ?_
  refine z_newB hx hb (hts _ zw_63) hK hZ hS hA 2 rfl (n := nI 128) (N := 128) (nI_pos (Nat.le_of_ble_eq_true rfl)) (nI_clamp (Nat.le_of_ble_eq_true rfl)) (Nat.le_of_ble_eq_true rfl) (Nat.le_of_ble_eq_true rfl) (Nat.le_of_ble_eq_true rfl) dX17_init_64 (fun q8 H hZ hS => ?_)
  have hZ : zP D vwCl A X [(th, .inr (18, [.ref q1, .ref q2, .ref q3, .ref q4, .ref q5, .ref q6, .int (nI 0), .ref q7, .null, .null, .null, .null, .null, .null])), (q1, .inl (K 1, 80, .inr (.inl (fun _ => 0)))), (q2, .inl (K 1, 24, .inr (.inl (fun _ => 0)))), (q3, .inl (K 1, 80, .inr (.inl (fun _ => 0)))), (q4, .inl (K 1, 8, .inr (.inl (fun _ => 0)))), (q5, .inl (K 1, 8, .inr (.inl (fun _ => 0)))), (q6, .inl (K 1, 8, .inr (.inl (fun _ => 0)))), (q7, .inl (K 2, 64, .inl (fun _ => 0))), (q8, .inl (K 2, 128, .inl (fun _ => 0)))] L T H := hZ
  refine z_putF (own := RX17) (C := RX17) (TT := TX17) (N := 14) (ci := 18) (Ts := WR) (v := .ref q8) (ty := (.array .byte)) hx hb hts zin_wsX170 tyX17 tyX17_ok nmX17 hown hK hZ hS 0 rfl rfl 8 (by decide) (hts _ zw_174) (fun _ h9 => h9) rfl hin rfl (by decide +kernel) rfl rfl (Nat.le_of_ble_eq_true rfl) dX17_init_66 (fun H locs hZ hS => ?_)
  have hZ : zP D vwCl A X [(th, .inr (18, [.ref q1, .ref q2, .ref q3, .ref q4, .ref q5, .ref q6, .int (nI 0), .ref q7, .ref q8, .null, .null, .null, .null, .null])), (q1, .inl (K 1, 80, .inr (.inl (fun _ => 0)))), (q2, .inl (K 1, 24, .inr (.inl (fun _ => 0)))), (q3, .inl (K 1, 80, .inr (.inl (fun _ => 0)))), (q4, .inl (K 1, 8, .inr (.inl (fun _ => 0)))), (q5, .inl (K 1, 8, .inr (.inl (fun _ => 0)))), (q6, .inl (K 1, 8, .inr (.inl (fun _ => 0)))), (q7, .inl (K 2, 64, .inl (fun _ => 0))), (q8, .inl (K 2, 128, .inl (fun _ => 0)))] L T H := hZ
  refine lv_aload_n hx hb dX17_init_69 rfl (lv_at hl 0 rfl) ?_
  refine lv_ldc (v := nI 36000) hx hb hown (hts _ zw_175) dX17_init_70 ?_
  refine z_newB hx hb (hts _ zw_63) hK hZ hS hA 2 rfl (n := nI 36000) (N := 36000) (nI_pos (Nat.le_of_ble_eq_true rfl)) (nI_clamp (Nat.le_of_ble_eq_true rfl)) (Nat.le_of_ble_eq_true rfl) (Nat.le_of_ble_eq_true rfl) (Nat.le_of_ble_eq_true rfl) dX17_init_72 (fun q9 H hZ hS => ?_)
  have hZ : zP D vwCl A X [(th, .inr (18, [.ref q1, .ref q2, .ref q3, .ref q4, .ref q5, .ref q6, .int (nI 0), .ref q7, .ref q8, .null, .null, .null, .null, .null])), (q1, .inl (K 1, 80, .inr (.inl (fun _ => 0)))), (q2, .inl (K 1, 24, .inr (.inl (fun _ => 0)))), (q3, .inl (K 1, 80, .inr (.inl (fun _ => 0)))), (q4, .inl (K 1, 8, .inr (.inl (fun _ => 0)))), (q5, .inl (K 1, 8, .inr (.inl (fun _ => 0)))), (q6, .inl (K 1, 8, .inr (.inl (fun _ => 0)))), (q7, .inl (K 2, 64, .inl (fun _ => 0))), (q8, .inl (K 2, 128, .inl (fun _ => 0))), (q9, .inl (K 2, 36000, .inl (fun _ => 0)))] L T H := hZ
  refine z_putF (own := RX17) (C := RX17) (TT := TX17) (N := 14) (ci := 18) (Ts := WR) (v := .ref q9) (ty := (.array .byte)) hx hb hts zin_wsX170 tyX17 tyX17_ok nmX17 hown hK hZ hS 0 rfl rfl 9 (by decide) (hts _ zw_176) (fun _ h9 => h9) rfl hin rfl (by decide +kernel) rfl rfl (Nat.le_of_ble_eq_true rfl) dX17_init_74 (fun H locs hZ hS => ?_)
  have hZ : zP D vwCl A X [(th, .inr (18, [.ref q1, .ref q2, .ref q3, .ref q4, .ref q5, .ref q6, .int (nI 0), .ref q7, .ref q8, .ref q9, .null, .null, .null, .null])), (q1, .inl (K 1, 80, .inr (.inl (fun _ => 0)))), (q2, .inl (K 1, 24, .inr (.inl (fun _ => 0)))), (q3, .inl (K 1, 80, .inr (.inl (fun _ => 0)))), (q4, .inl (K 1, 8, .inr (.inl (fun _ => 0)))), (q5, .inl (K 1, 8, .inr (.inl (fun _ => 0)))), (q6, .inl (K 1, 8, .inr (.inl (fun _ => 0)))), (q7, .inl (K 2, 64, .inl (fun _ => 0))), (q8, .inl (K 2, 128, .inl (fun _ => 0))), (q9, .inl (K 2, 36000, .inl (fun _ => 0)))] L T H := hZ
  refine lv_aload_n hx hb dX17_init_77 rfl (lv_at hl 0 rfl) ?_
  refine lv_sipush (v := nI 1024) hx hb dX17_init_78 (by decide +kernel) ?_
  show W p l e ROOM_X17_init s m [.ref th].toArray below meth c H locs 9 36400 (MQ below (va_Qv (fun (u : zU) => u = ([], L, T)) (zB D vwCl (zT K) A X) A) [.ref th].toArray s 13 37555 A) (F0 m 81 ls [.int (nI 1024), .ref th])
  refine z_newB hx hb (hts _ zw_63) hK hZ hS hA 2 rfl (n := nI 1024) (N := 1024) (nI_pos (Nat.le_of_ble_eq_true rfl)) (nI_clamp (Nat.le_of_ble_eq_true rfl)) (Nat.le_of_ble_eq_true rfl) (Nat.le_of_ble_eq_true rfl) (Nat.le_of_ble_eq_true rfl) dX17_init_81 (fun q10 H hZ hS => ?_)
  have hZ : zP D vwCl A X [(th, .inr (18, [.ref q1, .ref q2, .ref q3, .ref q4, .ref q5, .ref q6, .int (nI 0), .ref q7, .ref q8, .ref q9, .null, .null, .null, .null])), (q1, .inl (K 1, 80, .inr (.inl (fun _ => 0)))), (q2, .inl (K 1, 24, .inr (.inl (fun _ => 0)))), (q3, .inl (K 1, 80, .inr (.inl (fun _ => 0)))), (q4, .inl (K 1, 8, .inr (.inl (fun _ => 0)))), (q5, .inl (K 1, 8, .inr (.inl (fun _ => 0)))), (q6, .inl (K 1, 8, .inr (.inl (fun _ => 0)))), (q7, .inl (K 2, 64, .inl (fun _ => 0))), (q8, .inl (K 2, 128, .inl (fun _ => 0))), (q9, .inl (K 2, 36000, .inl (fun _ => 0))), (q10, .inl (K 2, 1024, .inl (fun _ => 0)))] L T H := hZ
  refine z_putF (own := RX17) (C := RX17) (TT := TX17) (N := 14) (ci := 18) (Ts := WR) (v := .ref q10) (ty := (.array .byte)) hx hb hts zin_wsX170 tyX17 tyX17_ok nmX17 hown hK hZ hS 0 rfl rfl 10 (by decide) (hts _ zw_177) (fun _ h9 => h9) rfl hin rfl (by decide +kernel) rfl rfl (Nat.le_of_ble_eq_true rfl) dX17_init_83 (fun H locs hZ hS => ?_)
  have hZ : zP D vwCl A X [(th, .inr (18, [.ref q1, .ref q2, .ref q3, .ref q4, .ref q5, .ref q6, .int (nI 0), .ref q7, .ref q8, .ref q9, .ref q10, .null, .null, .null])), (q1, .inl (K 1, 80, .inr (.inl (fun _ => 0)))), (q2, .inl (K 1, 24, .inr (.inl (fun _ => 0)))), (q3, .inl (K 1, 80, .inr (.inl (fun _ => 0)))), (q4, .inl (K 1, 8, .inr (.inl (fun _ => 0)))), (q5, .inl (K 1, 8, .inr (.inl (fun _ => 0)))), (q6, .inl (K 1, 8, .inr (.inl (fun _ => 0)))), (q7, .inl (K 2, 64, .inl (fun _ => 0))), (q8, .inl (K 2, 128, .inl (fun _ => 0))), (q9, .inl (K 2, 36000, .inl (fun _ => 0))), (q10, .inl (K 2, 1024, .inl (fun _ => 0)))] L T H := hZ
  refine lv_aload_n hx hb dX17_init_86 rfl (lv_at hl 0 rfl) ?_
  refine lv_bipush (v := nI 64) hx hb dX17_init_87 (by decide +kernel) ?_
  refine z_newB hx hb (hts _ zw_63) hK hZ hS hA 2 rfl (n := nI 64) (N := 64) (nI_pos (Nat.le_of_ble_eq_true rfl)) (nI_clamp (Nat.le_of_ble_eq_true rfl)) (Nat.le_of_ble_eq_true rfl) (Nat.le_of_ble_eq_true rfl) (Nat.le_of_ble_eq_true rfl) dX17_init_89 (fun q11 H hZ hS => ?_)
  have hZ : zP D vwCl A X [(th, .inr (18, [.ref q1, .ref q2, .ref q3, .ref q4, .ref q5, .ref q6, .int (nI 0), .ref q7, .ref q8, .ref q9, .ref q10, .null, .null, .null])), (q1, .inl (K 1, 80, .inr (.inl (fun _ => 0)))), (q2, .inl (K 1, 24, .inr (.inl (fun _ => 0)))), (q3, .inl (K 1, 80, .inr (.inl (fun _ => 0)))), (q4, .inl (K 1, 8, .inr (.inl (fun _ => 0)))), (q5, .inl (K 1, 8, .inr (.inl (fun _ => 0)))), (q6, .inl (K 1, 8, .inr (.inl (fun _ => 0)))), (q7, .inl (K 2, 64, .inl (fun _ => 0))), (q8, .inl (K 2, 128, .inl (fun _ => 0))), (q9, .inl (K 2, 36000, .inl (fun _ => 0))), (q10, .inl (K 2, 1024, .inl (fun _ => 0))), (q11, .inl (K 2, 64, .inl (fun _ => 0)))] L T H := hZ
  refine z_putF (own := RX17) (C := RX17) (TT := TX17) (N := 14) (ci := 18) (Ts := WR) (v := .ref q11) (ty := (.array .byte)) hx hb hts zin_wsX170 tyX17 tyX17_ok nmX17 hown hK hZ hS 0 rfl rfl 11 (by decide) (hts _ zw_178) (fun _ h9 => h9) rfl hin rfl (by decide +kernel) rfl rfl (Nat.le_of_ble_eq_true rfl) dX17_init_91 (fun H locs hZ hS => ?_)
  have hZ : zP D vwCl A X [(th, .inr (18, [.ref q1, .ref q2, .ref q3, .ref q4, .ref q5, .ref q6, .int (nI 0), .ref q7, .ref q8, .ref q9, .ref q10, .ref q11, .null, .null])), (q1, .inl (K 1, 80, .inr (.inl (fun _ => 0)))), (q2, .inl (K 1, 24, .inr (.inl (fun _ => 0)))), (q3, .inl (K 1, 80, .inr (.inl (fun _ => 0)))), (q4, .inl (K 1, 8, .inr (.inl (fun _ => 0)))), (q5, .inl (K 1, 8, .inr (.inl (fun _ => 0)))), (q6, .inl (K 1, 8, .inr (.inl (fun _ => 0)))), (q7, .inl (K 2, 64, .inl (fun _ => 0))), (q8, .inl (K 2, 128, .inl (fun _ => 0))), (q9, .inl (K 2, 36000, .inl (fun _ => 0))), (q10, .inl (K 2, 1024, .inl (fun _ => 0))), (q11, .inl (K 2, 64, .inl (fun _ => 0)))] L T H := hZ
  refine lv_aload_n hx hb dX17_init_94 rfl (lv_at hl 0 rfl) ?_
  refine lv_bipush (v := nI 64) hx hb dX17_init_95 (by decide +kernel) ?_
  refine z_newB hx hb (hts _ zw_63) hK hZ hS hA 2 rfl (n := nI 64) (N := 64) (nI_pos (Nat.le_of_ble_eq_true rfl)) (nI_clamp (Nat.le_of_ble_eq_true rfl)) (Nat.le_of_ble_eq_true rfl) (Nat.le_of_ble_eq_true rfl) (Nat.le_of_ble_eq_true rfl) dX17_init_97 (fun q12 H hZ hS => ?_)
  have hZ : zP D vwCl A X [(th, .inr (18, [.ref q1, .ref q2, .ref q3, .ref q4, .ref q5, .ref q6, .int (nI 0), .ref q7, .ref q8, .ref q9, .ref q10, .ref q11, .null, .null])), (q1, .inl (K 1, 80, .inr (.inl (fun _ => 0)))), (q2, .inl (K 1, 24, .inr (.inl (fun _ => 0)))), (q3, .inl (K 1, 80, .inr (.inl (fun _ => 0)))), (q4, .inl (K 1, 8, .inr (.inl (fun _ => 0)))), (q5, .inl (K 1, 8, .inr (.inl (fun _ => 0)))), (q6, .inl (K 1, 8, .inr (.inl (fun _ => 0)))), (q7, .inl (K 2, 64, .inl (fun _ => 0))), (q8, .inl (K 2, 128, .inl (fun _ => 0))), (q9, .inl (K 2, 36000, .inl (fun _ => 0))), (q10, .inl (K 2, 1024, .inl (fun _ => 0))), (q11, .inl (K 2, 64, .inl (fun _ => 0))), (q12, .inl (K 2, 64, .inl (fun _ => 0)))] L T H := hZ
  refine z_putF (own := RX17) (C := RX17) (TT := TX17) (N := 14) (ci := 18) (Ts := WR) (v := .ref q12) (ty := (.array .byte)) hx hb hts zin_wsX170 tyX17 tyX17_ok nmX17 hown hK hZ hS 0 rfl rfl 12 (by decide) (hts _ zw_179) (fun _ h9 => h9) rfl hin rfl (by decide +kernel) rfl rfl (Nat.le_of_ble_eq_true rfl) dX17_init_99 (fun H locs hZ hS => ?_)
  have hZ : zP D vwCl A X [(th, .inr (18, [.ref q1, .ref q2, .ref q3, .ref q4, .ref q5, .ref q6, .int (nI 0), .ref q7, .ref q8, .ref q9, .ref q10, .ref q11, .ref q12, .null])), (q1, .inl (K 1, 80, .inr (.inl (fun _ => 0)))), (q2, .inl (K 1, 24, .inr (.inl (fun _ => 0)))), (q3, .inl (K 1, 80, .inr (.inl (fun _ => 0)))), (q4, .inl (K 1, 8, .inr (.inl (fun _ => 0)))), (q5, .inl (K 1, 8, .inr (.inl (fun _ => 0)))), (q6, .inl (K 1, 8, .inr (.inl (fun _ => 0)))), (q7, .inl (K 2, 64, .inl (fun _ => 0))), (q8, .inl (K 2, 128, .inl (fun _ => 0))), (q9, .inl (K 2, 36000, .inl (fun _ => 0))), (q10, .inl (K 2, 1024, .inl (fun _ => 0))), (q11, .inl (K 2, 64, .inl (fun _ => 0))), (q12, .inl (K 2, 64, .inl (fun _ => 0)))] L T H := hZ
  refine lv_aload_n hx hb dX17_init_102 rfl (lv_at hl 0 rfl) ?_
  refine lv_iconst (v := nI 3) hx hb dX17_init_103 (by decide +kernel) ?_
  refine z_newA (ty := .byte) hx hb hown (hts _ zw_180) (zaoB hE) hK hZ hS hA 9 rfl (n := nI 3) (N := 3) (nI_pos (Nat.le_of_ble_eq_true rfl)) (nI_clamp (Nat.le_of_ble_eq_true rfl)) (Nat.le_of_ble_eq_true rfl) (Nat.le_of_ble_eq_true rfl) (Nat.le_of_ble_eq_true rfl) dX17_init_104 (fun q13 H hZ hS => ?_)
  have hZ : zP D vwCl A X [(th, .inr (18, [.ref q1, .ref q2, .ref q3, .ref q4, .ref q5, .ref q6, .int (nI 0), .ref q7, .ref q8, .ref q9, .ref q10, .ref q11, .ref q12, .null])), (q1, .inl (K 1, 80, .inr (.inl (fun _ => 0)))), (q2, .inl (K 1, 24, .inr (.inl (fun _ => 0)))), (q3, .inl (K 1, 80, .inr (.inl (fun _ => 0)))), (q4, .inl (K 1, 8, .inr (.inl (fun _ => 0)))), (q5, .inl (K 1, 8, .inr (.inl (fun _ => 0)))), (q6, .inl (K 1, 8, .inr (.inl (fun _ => 0)))), (q7, .inl (K 2, 64, .inl (fun _ => 0))), (q8, .inl (K 2, 128, .inl (fun _ => 0))), (q9, .inl (K 2, 36000, .inl (fun _ => 0))), (q10, .inl (K 2, 1024, .inl (fun _ => 0))), (q11, .inl (K 2, 64, .inl (fun _ => 0))), (q12, .inl (K 2, 64, .inl (fun _ => 0))), (q13, .inl (K 9, 3, .inr (.inr (.inr (.inr (fun _ => none))))))] L T H := hZ
  refine z_putF (own := RX17) (C := RX17) (TT := TX17) (N := 14) (ci := 18) (Ts := WR) (v := .ref q13) (ty := (.array (.array .byte))) hx hb hts zin_wsX170 tyX17 tyX17_ok nmX17 hown hK hZ hS 0 rfl rfl 13 (by decide) (hts _ zw_181) (fun _ h9 => h9) rfl hin rfl (by decide +kernel) rfl rfl (Nat.le_of_ble_eq_true rfl) dX17_init_107 (fun H locs hZ hS => ?_)
  have hZ : zP D vwCl A X [(th, .inr (18, [.ref q1, .ref q2, .ref q3, .ref q4, .ref q5, .ref q6, .int (nI 0), .ref q7, .ref q8, .ref q9, .ref q10, .ref q11, .ref q12, .ref q13])), (q1, .inl (K 1, 80, .inr (.inl (fun _ => 0)))), (q2, .inl (K 1, 24, .inr (.inl (fun _ => 0)))), (q3, .inl (K 1, 80, .inr (.inl (fun _ => 0)))), (q4, .inl (K 1, 8, .inr (.inl (fun _ => 0)))), (q5, .inl (K 1, 8, .inr (.inl (fun _ => 0)))), (q6, .inl (K 1, 8, .inr (.inl (fun _ => 0)))), (q7, .inl (K 2, 64, .inl (fun _ => 0))), (q8, .inl (K 2, 128, .inl (fun _ => 0))), (q9, .inl (K 2, 36000, .inl (fun _ => 0))), (q10, .inl (K 2, 1024, .inl (fun _ => 0))), (q11, .inl (K 2, 64, .inl (fun _ => 0))), (q12, .inl (K 2, 64, .inl (fun _ => 0))), (q13, .inl (K 9, 3, .inr (.inr (.inr (.inr (fun _ => none))))))] L T H := hZ
  have hZ : zP D vwCl A X [(th, .inr (18, [.ref q1, .ref q2, .ref q3, .ref q4, .ref q5, .ref q6, .int (nI 0), .ref q7, .ref q8, .ref q9, .ref q10, .ref q11, .ref q12, .ref q13])), (q1, .inl (K 1, 80, .inr (.inl (fun _ => 0)))), (q2, .inl (K 1, 24, .inr (.inl (fun _ => 0)))), (q5, .inl (K 1, 8, .inr (.inl (fun _ => 0)))), (q6, .inl (K 1, 8, .inr (.inl (fun _ => 0))))] L T H := zP.pick [0, 1, 2, 5, 6] [(th, .inr (18, [.ref q1, .ref q2, .ref q3, .ref q4, .ref q5, .ref q6, .int (nI 0), .ref q7, .ref q8, .ref q9, .ref q10, .ref q11, .ref q12, .ref q13])), (q1, .inl (K 1, 80, .inr (.inl (fun _ => 0)))), (q2, .inl (K 1, 24, .inr (.inl (fun _ => 0)))), (q5, .inl (K 1, 8, .inr (.inl (fun _ => 0)))), (q6, .inl (K 1, 8, .inr (.inl (fun _ => 0))))] hZ (by decide) rfl
  have hZ : zP D vwCl A X [(q1, .inl (K 1, 80, .inr (.inl (fun _ => 0)))), (q2, .inl (K 1, 24, .inr (.inl (fun _ => 0)))), (q5, .inl (K 1, 8, .inr (.inl (fun _ => 0)))), (q6, .inl (K 1, 8, .inr (.inl (fun _ => 0)))), (th, .inr (18, [.ref q1, .ref q2, .ref q3, .ref q4, .ref q5, .ref q6, .int (nI 0), .ref q7, .ref q8, .ref q9, .ref q10, .ref q11, .ref q12, .ref q13]))] L T H := zP.pick [1, 2, 3, 4, 0] [(q1, .inl (K 1, 80, .inr (.inl (fun _ => 0)))), (q2, .inl (K 1, 24, .inr (.inl (fun _ => 0)))), (q5, .inl (K 1, 8, .inr (.inl (fun _ => 0)))), (q6, .inl (K 1, 8, .inr (.inl (fun _ => 0)))), (th, .inr (18, [.ref q1, .ref q2, .ref q3, .ref q4, .ref q5, .ref q6, .int (nI 0), .ref q7, .ref q8, .ref q9, .ref q10, .ref q11, .ref q12, .ref q13]))] hZ (by decide) rfl
  obtain ⟨L14, T15, hZ, hG, hN⟩ := zP.pooled [(q1, .inl (K 1, 80, .inr (.inl (fun _ => 0))), zJ (K 1) 80), (q2, .inl (K 1, 24, .inr (.inl (fun _ => 0))), zJ (K 1) 24), (q5, .inl (K 1, 8, .inr (.inl (fun _ => 0))), zJ (K 1) 8), (q6, .inl (K 1, 8, .inr (.inl (fun _ => 0))), zJ (K 1) 8), (th, .inr (18, [.ref q1, .ref q2, .ref q3, .ref q4, .ref q5, .ref q6, .int (nI 0), .ref q7, .ref q8, .ref q9, .ref q10, .ref q11, .ref q12, .ref q13]), zO 18 [.ref q1, .ref q2, .ref q3, .ref q4, .ref q5, .ref q6, .int (nI 0), .ref q7, .ref q8, .ref q9, .ref q10, .ref q11, .ref q12, .ref q13])] [] hZ (List.forall_mem_cons.mpr ⟨⟨_, rfl⟩, (List.forall_mem_cons.mpr ⟨⟨_, rfl⟩, (List.forall_mem_cons.mpr ⟨⟨_, rfl⟩, (List.forall_mem_cons.mpr ⟨⟨_, rfl⟩, (List.forall_mem_cons.mpr ⟨rfl, (fun _ h => absurd h List.not_mem_nil)⟩)⟩)⟩)⟩)⟩)
  obtain ⟨h_q1, k_q1⟩ := hN _ (List.mem_of_getElem? (i := 0) rfl)
  have k_q1 : T15 q1 = zJ (K 1) 80 := k_q1
  obtain ⟨h_q2, k_q2⟩ := hN _ (List.mem_of_getElem? (i := 1) rfl)
  have k_q2 : T15 q2 = zJ (K 1) 24 := k_q2
  obtain ⟨h_q5, k_q5⟩ := hN _ (List.mem_of_getElem? (i := 2) rfl)
  have k_q5 : T15 q5 = zJ (K 1) 8 := k_q5
  obtain ⟨h_q6, k_q6⟩ := hN _ (List.mem_of_getElem? (i := 3) rfl)
  have k_q6 : T15 q6 = zJ (K 1) 8 := k_q6
  obtain ⟨h_th, k_th⟩ := hN _ (List.mem_of_getElem? (i := 4) rfl)
  have k_th : T15 th = zO 18 [.ref q1, .ref q2, .ref q3, .ref q4, .ref q5, .ref q6, .int (nI 0), .ref q7, .ref q8, .ref q9, .ref q10, .ref q11, .ref q12, .ref q13] := k_th
  have hGG := hGG.tr hG
  refine lv_iconst (v := nI 1) hx hb dX17_init_110 (by decide +kernel) ?_
  refine lv_istore_n (lv' := [(1, .int (nI 1)), (0, .ref th)]) hx hb dX17_init_111 rfl hl (by decide) rfl (fun ls hl => ?_)
  refine lv_iconst (v := nI 0) hx hb dX17_init_112 (by decide +kernel) ?_
  refine lv_istore_n (lv' := [(2, .int (nI 0)), (1, .int (nI 1)), (0, .ref th)]) hx hb dX17_init_113 rfl hl (by decide) rfl (fun ls hl => ?_)
  have L114_ : ∀ (n9 i114 : Nat), i114 ≤ 80 → 80 + 1 ≤ i114 + n9 → ∀   (H : Heap) (locs : List Loc) (ls : Array Slot), zP D vwCl A X [] L14 T15 H → va_S A s.heap H locs → lv_has ls 3 [(2, .int (nI i114)), (0, .ref th), (1, .int (nI (zpt i114)))] → W p l e ROOM_X17_init s m [.ref th].toArray below meth c H locs 13 37555 (MQ below (va_Qv (fun (u : zU) => u = ([], L, T)) (zB D vwCl (zT K) A X) A) [.ref th].toArray s 13 37555 A) (F0 m 114 ls []) := by
    intro n9
    induction n9 with
    | zero => intro i114 u114 w114; exact absurd w114 (by omega)
    | succ n9 ih114 =>
      intro i114 u114 w114  H locs ls hZ hS hl 
      refine lv_iload_n hx hb dX17_init_114 rfl (lv_at hl 0 rfl) ?_
      refine lv_bipush (v := nI 80) hx hb dX17_init_115 (by decide +kernel) ?_
      show W p l e ROOM_X17_init s m [.ref th].toArray below meth c H locs 13 37555 (MQ below (va_Qv (fun (u : zU) => u = ([], L, T)) (zB D vwCl (zT K) A X) A) [.ref th].toArray s 13 37555 A) (F0 m 117 ls [.int (nI 80), .int (nI i114)])
      refine lv_icmp_ge (tgt := 206) hx hb dX17_init_117 (by decide) (fun c117 => ?_) (fun c117 => ?_)
      · have e117 : 80 ≤ i114 := (nI_leI (a := 80) (b := i114) (by omega) (by omega)).mp c117
        have hZ : zP D vwCl A X [] L T H := zP.forget hZ hGG hND
        exact z_vret hx hb hr hlocks hK hZ hS rfl (Nat.le_of_ble_eq_true rfl) (Nat.le_of_ble_eq_true rfl) dX17_init_206
      · have e117 : ¬ 80 ≤ i114 := fun q => c117 ((nI_leI (a := 80) (b := i114) (by omega) (by omega)).mpr q)
        have zq := zpt_ok i114 (by omega)
        have zq := zpt_ok i114 (by omega)
        refine lv_iload_n hx hb dX17_init_120 rfl (lv_at hl 2 rfl) ?_
        refine z_goI (va_runS (As := [.int (nI (zpt i114))]) (rest := []) ⟨hx, hb, hml, hown, hts⟩ ((c_X17_prime E l D K X [] L14 T15 (by omega) ⟨zq.2.1, zq.2.2.1⟩ zq.2.2.2.1 zq.2.2.2.2) H.size) (va_cwS 1 hts (zg_S zw_182 zw_184 zw_165 zw_183) rfl rfl rfl (by decide +kernel) ⟨Nat.le_of_ble_eq_true rfl, Nat.le_of_ble_eq_true rfl⟩) (z_preS hK hZ hS hA hE) rfl rfl hl.1 rfl (lv_room (Nat.le_of_ble_eq_true rfl)) dX17_init_121 ⟨Nat.le_of_ble_eq_true rfl, Nat.le_of_ble_eq_true rfl⟩) hZ hS hA (fun x16 Y1 L1 T1 H locs hp hZ hS => ?_)
        obtain ⟨hres, hp⟩ := hp
        cases hp
        obtain rfl : x16 = nI (zpt (i114 + 1)) := hres
        refine lv_istore_n (lv' := [(1, .int (nI (zpt (i114 + 1)))), (2, .int (nI i114)), (0, .ref th)]) hx hb dX17_init_124 rfl hl (by decide) rfl (fun ls hl => ?_)
        refine lv_aload_n hx hb dX17_init_125 rfl (lv_at hl 2 rfl) ?_
        refine z_getP (own := RX17) (C := RX17) (TT := TX17) (N := 14) (ci := 18) (Ts := WR) hx hb hts zin_wsX170 hown hK hZ h_th k_th rfl 0 (by decide) (hts _ zw_167) (fun _ h9 => h9) rfl dX17_init_126 ?_
        refine lv_iload_n hx hb dX17_init_129 rfl (lv_at hl 1 rfl) ?_
        refine lv_aload_n hx hb dX17_init_130 rfl (lv_at hl 2 rfl) ?_
        refine lv_iload_n hx hb dX17_init_131 rfl (lv_at hl 0 rfl) ?_
        refine lv_iconst (v := nI 3) hx hb dX17_init_132 (by decide +kernel) ?_
        have rv17 : ∃ cell : Cell, H[th]? = some cell ∧ cell.vm.isStatics = false ∧ s.vm.findClass RX17 = some cell.cls := z_recvP hK hZ h_th k_th rfl
        refine z_goL (va_runV (As := [.int (nI (zpt (i114 + 1))), .int (nI 3)]) (rest := [.int (nI i114), .ref q1]) ⟨hx, hb, hml, hown, hts⟩ ((c_X17_root E l D K X [] L14 T15 h_th k_th rfl h_q5 k_q5 ⟨by omega, by omega⟩ rfl h_q6 k_q6 ⟨by omega, by omega⟩ (by omega)) H.size) (cwV 2 hts (zg_V zw_185 zw_187 zw_188 zw_165 zw_186) rfl rfl rfl (by decide +kernel) ⟨Nat.le_of_ble_eq_true rfl, Nat.le_of_ble_eq_true rfl⟩) (z_preV hK hZ hS hA hE rv17) rfl rfl hl.1 rfl (lv_room (Nat.le_of_ble_eq_true rfl)) dX17_init_133 ⟨Nat.le_of_ble_eq_true rfl, Nat.le_of_ble_eq_true rfl⟩) hZ hS hA (fun x18 Y1 L1 T1 H locs hp hZ hS => ?_)
        cases hp
        refine z_last hx hb hK hZ hS 1 h_q1 k_q1 rfl (vp_in_nI (by omega) (by omega)) dX17_init_136 (fun H locs hZ hS => ?_)
        refine lv_iload_n hx hb dX17_init_137 rfl (lv_at hl 1 rfl) ?_
        refine lv_bipush (v := nI 8) hx hb dX17_init_138 (by decide +kernel) ?_
        show W p l e ROOM_X17_init s m [.ref th].toArray below meth c H locs 13 37555 (MQ below (va_Qv (fun (u : zU) => u = ([], L, T)) (zB D vwCl (zT K) A X) A) [.ref th].toArray s 13 37555 A) (F0 m 140 ls [.int (nI 8), .int (nI i114)])
        refine lv_icmp_ge (tgt := 176) hx hb dX17_init_140 (by decide) (fun c140 => ?_) (fun c140 => ?_)
        · have e140 : 8 ≤ i114 := (nI_leI (a := 8) (b := i114) (by omega) (by omega)).mp c140
          refine lv_iload_n hx hb dX17_init_176 rfl (lv_at hl 1 rfl) ?_
          refine lv_bipush (v := nI 8) hx hb dX17_init_177 (by decide +kernel) ?_
          refine lv_icmp_lt (tgt := 200) hx hb dX17_init_179 (by decide) (fun c179 => ?_) (fun c179 => ?_)
          · have e179 : i114 < 8 := (nI_ltI (a := i114) (b := 8) (by omega) (by omega)).mp c179
            refine lv_iinc (v := nI (i114 + 1)) (lv' := [(2, .int (nI (i114 + 1))), (1, .int (nI (zpt (i114 + 1)))), (0, .ref th)]) hx hb dX17_init_200 hl (k := 1) rfl (nI_add i114 1) (by decide) rfl (fun ls hl => ?_)
            refine lv_goto (tgt := 114) hx hb dX17_init_203 (by decide) ?_
            exact ih114 (i114 + 1) (by omega) (by omega)   _ _ _ hZ hS (lv_sub hl [0, 2, 1] rfl) 
          · have e179 : ¬ i114 < 8 := fun q => c179 ((nI_ltI (a := i114) (b := 8) (by omega) (by omega)).mpr q)
            refine lv_iload_n hx hb dX17_init_182 rfl (lv_at hl 1 rfl) ?_
            refine lv_bipush (v := nI 16) hx hb dX17_init_183 (by decide +kernel) ?_
            refine lv_icmp_ge (tgt := 200) hx hb dX17_init_185 (by decide) (fun c185 => ?_) (fun c185 => ?_)
            · have e185 : 16 ≤ i114 := (nI_leI (a := 16) (b := i114) (by omega) (by omega)).mp c185
              refine lv_iinc (v := nI (i114 + 1)) (lv' := [(2, .int (nI (i114 + 1))), (1, .int (nI (zpt (i114 + 1)))), (0, .ref th)]) hx hb dX17_init_200 hl (k := 1) rfl (nI_add i114 1) (by decide) rfl (fun ls hl => ?_)
              refine lv_goto (tgt := 114) hx hb dX17_init_203 (by decide) ?_
              exact ih114 (i114 + 1) (by omega) (by omega)   _ _ _ hZ hS (lv_sub hl [0, 2, 1] rfl) 
            · have e185 : ¬ 16 ≤ i114 := fun q => c185 ((nI_leI (a := 16) (b := i114) (by omega) (by omega)).mpr q)
              refine lv_aload_n hx hb dX17_init_188 rfl (lv_at hl 2 rfl) ?_
              refine z_getP (own := RX17) (C := RX17) (TT := TX17) (N := 14) (ci := 18) (Ts := WR) hx hb hts zin_wsX170 hown hK hZ h_th k_th rfl 1 (by decide) (hts _ zw_168) (fun _ h9 => h9) rfl dX17_init_189 ?_
              refine lv_iload_n hx hb dX17_init_192 rfl (lv_at hl 1 rfl) ?_
              refine lv_aload_n hx hb dX17_init_193 rfl (lv_at hl 2 rfl) ?_
              refine lv_iload_n hx hb dX17_init_194 rfl (lv_at hl 0 rfl) ?_
              refine lv_iconst (v := nI 2) hx hb dX17_init_195 (by decide +kernel) ?_
              have rv19 : ∃ cell : Cell, H[th]? = some cell ∧ cell.vm.isStatics = false ∧ s.vm.findClass RX17 = some cell.cls := z_recvP hK hZ h_th k_th rfl
              refine z_goL (va_runV (As := [.int (nI (zpt (i114 + 1))), .int (nI 2)]) (rest := [.int (nI i114), .ref q2]) ⟨hx, hb, hml, hown, hts⟩ ((c_X17_root E l D K X [] L14 T15 h_th k_th rfl h_q5 k_q5 ⟨by omega, by omega⟩ rfl h_q6 k_q6 ⟨by omega, by omega⟩ (by omega)) H.size) (cwV 2 hts (zg_V zw_185 zw_187 zw_188 zw_165 zw_186) rfl rfl rfl (by decide +kernel) ⟨Nat.le_of_ble_eq_true rfl, Nat.le_of_ble_eq_true rfl⟩) (z_preV hK hZ hS hA hE rv19) rfl rfl hl.1 rfl (lv_room (Nat.le_of_ble_eq_true rfl)) dX17_init_196 ⟨Nat.le_of_ble_eq_true rfl, Nat.le_of_ble_eq_true rfl⟩) hZ hS hA (fun x20 Y1 L1 T1 H locs hp hZ hS => ?_)
              cases hp
              refine z_last hx hb hK hZ hS 1 h_q2 k_q2 rfl (vp_in_nI (by omega) (by omega)) dX17_init_199 (fun H locs hZ hS => ?_)
              refine lv_iinc (v := nI (i114 + 1)) (lv' := [(2, .int (nI (i114 + 1))), (1, .int (nI (zpt (i114 + 1)))), (0, .ref th)]) hx hb dX17_init_200 hl (k := 1) rfl (nI_add i114 1) (by decide) rfl (fun ls hl => ?_)
              show W p l e ROOM_X17_init s m [.ref th].toArray below meth c H locs 13 37555 (MQ below (va_Qv (fun (u : zU) => u = ([], L, T)) (zB D vwCl (zT K) A X) A) [.ref th].toArray s 13 37555 A) (F0 m 203 ls [])
              refine lv_goto (tgt := 114) hx hb dX17_init_203 (by decide) ?_
              exact ih114 (i114 + 1) (by omega) (by omega)   _ _ _ hZ hS (lv_sub hl [0, 2, 1] rfl) 
        · have e140 : ¬ 8 ≤ i114 := fun q => c140 ((nI_leI (a := 8) (b := i114) (by omega) (by omega)).mpr q)
          refine lv_aload_n hx hb dX17_init_143 rfl (lv_at hl 2 rfl) ?_
          refine z_getP (own := RX17) (C := RX17) (TT := TX17) (N := 14) (ci := 18) (Ts := WR) hx hb hts zin_wsX170 hown hK hZ h_th k_th rfl 1 (by decide) (hts _ zw_168) (fun _ h9 => h9) rfl dX17_init_144 ?_
          refine lv_bipush (v := nI 16) hx hb dX17_init_147 (by decide +kernel) ?_
          refine lv_iload_n hx hb dX17_init_149 rfl (lv_at hl 1 rfl) ?_
          refine lv_iadd hx hb dX17_init_150 ?_
          refine lv_topi (fun x21 ex21 => ?_)
          obtain rfl : x21 = nI (16 + i114) := ex21.trans (nI_add 16 i114)
          refine lv_aload_n hx hb dX17_init_151 rfl (lv_at hl 2 rfl) ?_
          refine lv_iload_n hx hb dX17_init_152 rfl (lv_at hl 0 rfl) ?_
          refine lv_iconst (v := nI 2) hx hb dX17_init_153 (by decide +kernel) ?_
          have rv22 : ∃ cell : Cell, H[th]? = some cell ∧ cell.vm.isStatics = false ∧ s.vm.findClass RX17 = some cell.cls := z_recvP hK hZ h_th k_th rfl
          refine z_goL (va_runV (As := [.int (nI (zpt (i114 + 1))), .int (nI 2)]) (rest := [.int (nI (16 + i114)), .ref q2]) ⟨hx, hb, hml, hown, hts⟩ ((c_X17_root E l D K X [] L14 T15 h_th k_th rfl h_q5 k_q5 ⟨by omega, by omega⟩ rfl h_q6 k_q6 ⟨by omega, by omega⟩ (by omega)) H.size) (cwV 2 hts (zg_V zw_185 zw_187 zw_188 zw_165 zw_186) rfl rfl rfl (by decide +kernel) ⟨Nat.le_of_ble_eq_true rfl, Nat.le_of_ble_eq_true rfl⟩) (z_preV hK hZ hS hA hE rv22) rfl rfl hl.1 rfl (lv_room (Nat.le_of_ble_eq_true rfl)) dX17_init_154 ⟨Nat.le_of_ble_eq_true rfl, Nat.le_of_ble_eq_true rfl⟩) hZ hS hA (fun x23 Y1 L1 T1 H locs hp hZ hS => ?_)
          cases hp
          refine z_last hx hb hK hZ hS 1 h_q2 k_q2 rfl (vp_in_nI (by omega) (by omega)) dX17_init_157 (fun H locs hZ hS => ?_)
          refine lv_aload_n hx hb dX17_init_158 rfl (lv_at hl 2 rfl) ?_
          refine z_getP (own := RX17) (C := RX17) (TT := TX17) (N := 14) (ci := 18) (Ts := WR) hx hb hts zin_wsX170 hown hK hZ h_th k_th rfl 1 (by decide) (hts _ zw_168) (fun _ h9 => h9) rfl dX17_init_159 ?_
          refine lv_iload_n hx hb dX17_init_162 rfl (lv_at hl 1 rfl) ?_
          refine lv_aload_n hx hb dX17_init_163 rfl (lv_at hl 2 rfl) ?_
          refine z_getP (own := RX17) (C := RX17) (TT := TX17) (N := 14) (ci := 18) (Ts := WR) hx hb hts zin_wsX170 hown hK hZ h_th k_th rfl 1 (by decide) (hts _ zw_168) (fun _ h9 => h9) rfl dX17_init_164 ?_
          refine lv_bipush (v := nI 16) hx hb dX17_init_167 (by decide +kernel) ?_
          refine lv_iload_n hx hb dX17_init_169 rfl (lv_at hl 1 rfl) ?_
          refine lv_iadd hx hb dX17_init_170 ?_
          refine lv_topi (fun x24 ex24 => ?_)
          obtain rfl : x24 = nI (16 + i114) := ex24.trans (nI_add 16 i114)
          refine z_lald hx hb hK hZ 1 h_q2 k_q2 rfl (vp_in_nI (by omega) (by omega)) dX17_init_171 (fun x25 => ?_)
          refine lv_bipush (v := nI 32) hx hb dX17_init_172 (by decide +kernel) ?_
          refine lv_lushr hx hb dX17_init_174 rfl ?_
          refine lv_topl (fun x26 _ => ?_)
          refine z_last hx hb hK hZ hS 1 h_q2 k_q2 rfl (vp_in_nI (by omega) (by omega)) dX17_init_175 (fun H locs hZ hS => ?_)
          refine lv_iload_n hx hb dX17_init_176 rfl (lv_at hl 1 rfl) ?_
          refine lv_bipush (v := nI 8) hx hb dX17_init_177 (by decide +kernel) ?_
          show W p l e ROOM_X17_init s m [.ref th].toArray below meth c H locs 13 37555 (MQ below (va_Qv (fun (u : zU) => u = ([], L, T)) (zB D vwCl (zT K) A X) A) [.ref th].toArray s 13 37555 A) (F0 m 179 ls [.int (nI 8), .int (nI i114)])
          refine lv_icmp_lt (tgt := 200) hx hb dX17_init_179 (by decide) (fun c179 => ?_) (fun c179 => ?_)
          · have e179 : i114 < 8 := (nI_ltI (a := i114) (b := 8) (by omega) (by omega)).mp c179
            refine lv_iinc (v := nI (i114 + 1)) (lv' := [(2, .int (nI (i114 + 1))), (1, .int (nI (zpt (i114 + 1)))), (0, .ref th)]) hx hb dX17_init_200 hl (k := 1) rfl (nI_add i114 1) (by decide) rfl (fun ls hl => ?_)
            refine lv_goto (tgt := 114) hx hb dX17_init_203 (by decide) ?_
            exact ih114 (i114 + 1) (by omega) (by omega)   _ _ _ hZ hS (lv_sub hl [0, 2, 1] rfl) 
          · have e179 : ¬ i114 < 8 := fun q => c179 ((nI_ltI (a := i114) (b := 8) (by omega) (by omega)).mpr q)
            refine lv_iload_n hx hb dX17_init_182 rfl (lv_at hl 1 rfl) ?_
            refine lv_bipush (v := nI 16) hx hb dX17_init_183 (by decide +kernel) ?_
            refine lv_icmp_ge (tgt := 200) hx hb dX17_init_185 (by decide) (fun c185 => ?_) (fun c185 => ?_)
            · have e185 : 16 ≤ i114 := (nI_leI (a := 16) (b := i114) (by omega) (by omega)).mp c185
              refine lv_iinc (v := nI (i114 + 1)) (lv' := [(2, .int (nI (i114 + 1))), (1, .int (nI (zpt (i114 + 1)))), (0, .ref th)]) hx hb dX17_init_200 hl (k := 1) rfl (nI_add i114 1) (by decide) rfl (fun ls hl => ?_)
              refine lv_goto (tgt := 114) hx hb dX17_init_203 (by decide) ?_
              exact ih114 (i114 + 1) (by omega) (by omega)   _ _ _ hZ hS (lv_sub hl [0, 2, 1] rfl) 
            · have e185 : ¬ 16 ≤ i114 := fun q => c185 ((nI_leI (a := 16) (b := i114) (by omega) (by omega)).mpr q)
              refine lv_aload_n hx hb dX17_init_188 rfl (lv_at hl 2 rfl) ?_
              refine z_getP (own := RX17) (C := RX17) (TT := TX17) (N := 14) (ci := 18) (Ts := WR) hx hb hts zin_wsX170 hown hK hZ h_th k_th rfl 1 (by decide) (hts _ zw_168) (fun _ h9 => h9) rfl dX17_init_189 ?_
              refine lv_iload_n hx hb dX17_init_192 rfl (lv_at hl 1 rfl) ?_
              refine lv_aload_n hx hb dX17_init_193 rfl (lv_at hl 2 rfl) ?_
              refine lv_iload_n hx hb dX17_init_194 rfl (lv_at hl 0 rfl) ?_
              refine lv_iconst (v := nI 2) hx hb dX17_init_195 (by decide +kernel) ?_
              have rv27 : ∃ cell : Cell, H[th]? = some cell ∧ cell.vm.isStatics = false ∧ s.vm.findClass RX17 = some cell.cls := z_recvP hK hZ h_th k_th rfl
              refine z_goL (va_runV (As := [.int (nI (zpt (i114 + 1))), .int (nI 2)]) (rest := [.int (nI i114), .ref q2]) ⟨hx, hb, hml, hown, hts⟩ ((c_X17_root E l D K X [] L14 T15 h_th k_th rfl h_q5 k_q5 ⟨by omega, by omega⟩ rfl h_q6 k_q6 ⟨by omega, by omega⟩ (by omega)) H.size) (cwV 2 hts (zg_V zw_185 zw_187 zw_188 zw_165 zw_186) rfl rfl rfl (by decide +kernel) ⟨Nat.le_of_ble_eq_true rfl, Nat.le_of_ble_eq_true rfl⟩) (z_preV hK hZ hS hA hE rv27) rfl rfl hl.1 rfl (lv_room (Nat.le_of_ble_eq_true rfl)) dX17_init_196 ⟨Nat.le_of_ble_eq_true rfl, Nat.le_of_ble_eq_true rfl⟩) hZ hS hA (fun x28 Y1 L1 T1 H locs hp hZ hS => ?_)
              cases hp
              refine z_last hx hb hK hZ hS 1 h_q2 k_q2 rfl (vp_in_nI (by omega) (by omega)) dX17_init_199 (fun H locs hZ hS => ?_)
              refine lv_iinc (v := nI (i114 + 1)) (lv' := [(2, .int (nI (i114 + 1))), (1, .int (nI (zpt (i114 + 1)))), (0, .ref th)]) hx hb dX17_init_200 hl (k := 1) rfl (nI_add i114 1) (by decide) rfl (fun ls hl => ?_)
              show W p l e ROOM_X17_init s m [.ref th].toArray below meth c H locs 13 37555 (MQ below (va_Qv (fun (u : zU) => u = ([], L, T)) (zB D vwCl (zT K) A X) A) [.ref th].toArray s 13 37555 A) (F0 m 203 ls [])
              refine lv_goto (tgt := 114) hx hb dX17_init_203 (by decide) ?_
              exact ih114 (i114 + 1) (by omega) (by omega)   _ _ _ hZ hS (lv_sub hl [0, 2, 1] rfl) 
  exact L114_ (80 + 1) 0 (by omega) (by omega)   _ _ _ hZ hS (lv_sub hl [0, 2, 1] rfl) 
end ZMO

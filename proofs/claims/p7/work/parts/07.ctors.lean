section ZCT
abbrev ROOM_X10_init : Room := { frames := 1, cells := 4, slots := 160, locals := 20 }
set_option maxHeartbeats 4000000 in
set_option maxRecDepth 100000 in
/-- Sha2() -/
theorem c_X10_init (E : zEn) (l : Launch) (D : va_G) (K : Nat → ClassId) (X : va_W) (L : List Nat) (T : Nat → va_E → Prop) {th : Nat}    : zV E l D vwCl (zT K) yX10_init (zws yX10_init cX10_init 1 none) ROOM_X10_init 4 160 [.ref th] X [(th, .inr (11, [.null, .null, .null, .null]))] L T (fun (u : zU) => u = ([], L, T)) := by
  refine z_ofW (E := E) (Qc := fun A => va_Qv (fun (u : zU) => u = ([], L, T)) (zB D vwCl (zT K) A X) A) (cc := cX10_init) (maxL := 1) (ret := none) (by decide +kernel) rfl (Nat.le_of_ble_eq_true rfl) ?_
  intro p e s m below meth c A ls hx hb hml hr hts hown hlocks hin hA hK hZ hS hE hl
  have hown : s.vm.findClass RX10 = some m.cls := hown
  have hts : ∀ w ∈ WR, w.before [.ref th].toArray s = true := fun w h => hts w (List.mem_cons_of_mem _ h)
  have hl : lv_has ls 1 [(0, .ref th)] := hl
  obtain ⟨H, hH⟩ : ∃ H, H = s.heap := ⟨_, rfl⟩
  have hZ : zP D vwCl A X [(th, .inr (11, [.null, .null, .null, .null]))] L T H := by rw [hH]; exact hZ
  obtain ⟨locs, hlc⟩ : ∃ q : List Loc, q = [] := ⟨_, rfl⟩
  have hS : va_S A s.heap H locs := by rw [hH, hlc]; exact hS
  suffices hW : W p l e ROOM_X10_init s m [.ref th].toArray below meth c H locs 0 0 (MQ below (va_Qv (fun (u : zU) => u = ([], L, T)) (zB D vwCl (zT K) A X) A) [.ref th].toArray s 4 160 A) (F0 m 0 ls []) by rw [hH, hlc] at hW; exact hW
  clear hH hlc
  refine lv_aload_n hx hb dX10_init_0 rfl (lv_at hl 0 rfl) ?_
  refine W.objInit hx hb hown (hts _ zw_796) (hts _ zw_4) (hts _ zw_5) rfl (by rw [hml]; exact hl.1) rfl dX10_init_1 (Nat.le_of_ble_eq_true rfl) (Nat.le_of_ble_eq_true rfl) ?_
  refine lv_aload_n hx hb dX10_init_4 rfl (lv_at hl 0 rfl) ?_
  refine lv_bipush (v := nI 64) hx hb dX10_init_5 (by decide +kernel) ?_
  refine z_newI hx hb (hts _ zw_98) hK hZ hS hA 0 rfl (n := nI 64) (N := 64) (nI_pos (Nat.le_of_ble_eq_true rfl)) (nI_clamp (Nat.le_of_ble_eq_true rfl)) (Nat.le_of_ble_eq_true rfl) (Nat.le_of_ble_eq_true rfl) (Nat.le_of_ble_eq_true rfl) dX10_init_7 (fun q1 H hZ hS => ?_)
  have hZ : zP D vwCl A X [(th, .inr (11, [.null, .null, .null, .null])), (q1, .inl (K 0, 64, .inl (fun _ => 0)))] L T H := hZ
  refine z_putF (own := RX10) (C := RX10) (TT := TX10) (N := 4) (ci := 11) (Ts := WR) (v := .ref q1) (ty := (.array .int)) hx hb hts zin_wsX100 tyX10 tyX10_ok nmX10 hown hK hZ hS 0 rfl rfl 0 (by decide) (hts _ zw_797) (fun _ h9 => h9) rfl hin rfl (by decide +kernel) rfl rfl (Nat.le_of_ble_eq_true rfl) dX10_init_9 (fun H locs hZ hS => ?_)
  have hZ : zP D vwCl A X [(th, .inr (11, [.ref q1, .null, .null, .null])), (q1, .inl (K 0, 64, .inl (fun _ => 0)))] L T H := hZ
  refine lv_aload_n hx hb dX10_init_12 rfl (lv_at hl 0 rfl) ?_
  refine lv_bipush (v := nI 8) hx hb dX10_init_13 (by decide +kernel) ?_
  refine z_newI hx hb (hts _ zw_98) hK hZ hS hA 0 rfl (n := nI 8) (N := 8) (nI_pos (Nat.le_of_ble_eq_true rfl)) (nI_clamp (Nat.le_of_ble_eq_true rfl)) (Nat.le_of_ble_eq_true rfl) (Nat.le_of_ble_eq_true rfl) (Nat.le_of_ble_eq_true rfl) dX10_init_15 (fun q2 H hZ hS => ?_)
  have hZ : zP D vwCl A X [(th, .inr (11, [.ref q1, .null, .null, .null])), (q1, .inl (K 0, 64, .inl (fun _ => 0))), (q2, .inl (K 0, 8, .inl (fun _ => 0)))] L T H := hZ
  refine z_putF (own := RX10) (C := RX10) (TT := TX10) (N := 4) (ci := 11) (Ts := WR) (v := .ref q2) (ty := (.array .int)) hx hb hts zin_wsX100 tyX10 tyX10_ok nmX10 hown hK hZ hS 0 rfl rfl 1 (by decide) (hts _ zw_798) (fun _ h9 => h9) rfl hin rfl (by decide +kernel) rfl rfl (Nat.le_of_ble_eq_true rfl) dX10_init_17 (fun H locs hZ hS => ?_)
  have hZ : zP D vwCl A X [(th, .inr (11, [.ref q1, .ref q2, .null, .null])), (q1, .inl (K 0, 64, .inl (fun _ => 0))), (q2, .inl (K 0, 8, .inl (fun _ => 0)))] L T H := hZ
  refine lv_aload_n hx hb dX10_init_20 rfl (lv_at hl 0 rfl) ?_
  refine lv_bipush (v := nI 80) hx hb dX10_init_21 (by decide +kernel) ?_
  refine z_newJ hx hb (hts _ zw_6) hK hZ hS hA 1 rfl (n := nI 80) (N := 80) (nI_pos (Nat.le_of_ble_eq_true rfl)) (nI_clamp (Nat.le_of_ble_eq_true rfl)) (Nat.le_of_ble_eq_true rfl) (Nat.le_of_ble_eq_true rfl) (Nat.le_of_ble_eq_true rfl) dX10_init_23 (fun q3 H hZ hS => ?_)
  have hZ : zP D vwCl A X [(th, .inr (11, [.ref q1, .ref q2, .null, .null])), (q1, .inl (K 0, 64, .inl (fun _ => 0))), (q2, .inl (K 0, 8, .inl (fun _ => 0))), (q3, .inl (K 1, 80, .inr (.inl (fun _ => 0))))] L T H := hZ
  refine z_putF (own := RX10) (C := RX10) (TT := TX10) (N := 4) (ci := 11) (Ts := WR) (v := .ref q3) (ty := (.array .long)) hx hb hts zin_wsX100 tyX10 tyX10_ok nmX10 hown hK hZ hS 0 rfl rfl 2 (by decide) (hts _ zw_799) (fun _ h9 => h9) rfl hin rfl (by decide +kernel) rfl rfl (Nat.le_of_ble_eq_true rfl) dX10_init_25 (fun H locs hZ hS => ?_)
  have hZ : zP D vwCl A X [(th, .inr (11, [.ref q1, .ref q2, .ref q3, .null])), (q1, .inl (K 0, 64, .inl (fun _ => 0))), (q2, .inl (K 0, 8, .inl (fun _ => 0))), (q3, .inl (K 1, 80, .inr (.inl (fun _ => 0))))] L T H := hZ
  refine lv_aload_n hx hb dX10_init_28 rfl (lv_at hl 0 rfl) ?_
  refine lv_bipush (v := nI 8) hx hb dX10_init_29 (by decide +kernel) ?_
  refine z_newJ hx hb (hts _ zw_6) hK hZ hS hA 1 rfl (n := nI 8) (N := 8) (nI_pos (Nat.le_of_ble_eq_true rfl)) (nI_clamp (Nat.le_of_ble_eq_true rfl)) (Nat.le_of_ble_eq_true rfl) (Nat.le_of_ble_eq_true rfl) (Nat.le_of_ble_eq_true rfl) dX10_init_31 (fun q4 H hZ hS => ?_)
  have hZ : zP D vwCl A X [(th, .inr (11, [.ref q1, .ref q2, .ref q3, .null])), (q1, .inl (K 0, 64, .inl (fun _ => 0))), (q2, .inl (K 0, 8, .inl (fun _ => 0))), (q3, .inl (K 1, 80, .inr (.inl (fun _ => 0)))), (q4, .inl (K 1, 8, .inr (.inl (fun _ => 0))))] L T H := hZ
  refine z_putF (own := RX10) (C := RX10) (TT := TX10) (N := 4) (ci := 11) (Ts := WR) (v := .ref q4) (ty := (.array .long)) hx hb hts zin_wsX100 tyX10 tyX10_ok nmX10 hown hK hZ hS 0 rfl rfl 3 (by decide) (hts _ zw_800) (fun _ h9 => h9) rfl hin rfl (by decide +kernel) rfl rfl (Nat.le_of_ble_eq_true rfl) dX10_init_33 (fun H locs hZ hS => ?_)
  have hZ : zP D vwCl A X [(th, .inr (11, [.ref q1, .ref q2, .ref q3, .ref q4])), (q1, .inl (K 0, 64, .inl (fun _ => 0))), (q2, .inl (K 0, 8, .inl (fun _ => 0))), (q3, .inl (K 1, 80, .inr (.inl (fun _ => 0)))), (q4, .inl (K 1, 8, .inr (.inl (fun _ => 0))))] L T H := hZ
  have hZ : zP D vwCl A X [] L T H := zP.pick [] [] hZ (by decide) rfl
  exact z_vret hx hb hr hlocks hK hZ hS rfl (Nat.le_of_ble_eq_true rfl) (Nat.le_of_ble_eq_true rfl) dX10_init_36
abbrev ROOM_X0_init : Room := { frames := 1, cells := 4, slots := 1092, locals := 20 }
set_option maxHeartbeats 4000000 in
set_option maxRecDepth 100000 in
/-- Aes() -/
theorem c_X0_init (E : zEn) (l : Launch) (D : va_G) (K : Nat → ClassId) (X : va_W) (L : List Nat) (T : Nat → va_E → Prop) {th : Nat}   (hSA : zSA E) : zV E l D vwCl (zT K) yX0_init (zws yX0_init cX0_init 5 none) ROOM_X0_init 4 1092 [.ref th] X [(th, .inr (2, [.null, .null, .null, .null, .int (nI 0)]))] L T (fun (u : zU) => u = ([], L, T)) := by
  refine z_ofW (E := E) (Qc := fun A => va_Qv (fun (u : zU) => u = ([], L, T)) (zB D vwCl (zT K) A X) A) (cc := cX0_init) (maxL := 5) (ret := none) (by decide +kernel) rfl (Nat.le_of_ble_eq_true rfl) ?_
  intro p e s m below meth c A ls hx hb hml hr hts hown hlocks hin hA hK hZ hS hE hl
  have hown : s.vm.findClass RX0 = some m.cls := hown
  have hts : ∀ w ∈ WR, w.before [.ref th].toArray s = true := fun w h => hts w (List.mem_cons_of_mem _ h)
  have hl : lv_has ls 5 [(0, .ref th)] := hl
  obtain ⟨H, hH⟩ : ∃ H, H = s.heap := ⟨_, rfl⟩
  have hZ : zP D vwCl A X [(th, .inr (2, [.null, .null, .null, .null, .int (nI 0)]))] L T H := by rw [hH]; exact hZ
  obtain ⟨locs, hlc⟩ : ∃ q : List Loc, q = [] := ⟨_, rfl⟩
  have hS : va_S A s.heap H locs := by rw [hH, hlc]; exact hS
  suffices hW : W p l e ROOM_X0_init s m [.ref th].toArray below meth c H locs 0 0 (MQ below (va_Qv (fun (u : zU) => u = ([], L, T)) (zB D vwCl (zT K) A X) A) [.ref th].toArray s 4 1092 A) (F0 m 0 ls []) by rw [hH, hlc] at hW; exact hW
  clear hH hlc
  have hGG : zG L T L T := zG.rf
  have hND := hZ.nodup
  refine lv_aload_n hx hb dX0_init_0 rfl (lv_at hl 0 rfl) ?_
  refine W.objInit hx hb hown (hts _ zw_480) (hts _ zw_4) (hts _ zw_5) rfl (by rw [hml]; exact hl.1) rfl dX0_init_1 (Nat.le_of_ble_eq_true rfl) (Nat.le_of_ble_eq_true rfl) ?_
  refine lv_aload_n hx hb dX0_init_4 rfl (lv_at hl 0 rfl) ?_
  refine lv_sipush (v := nI 1024) hx hb dX0_init_5 (by decide +kernel) ?_
  refine z_newI hx hb (hts _ zw_98) hK hZ hS hA 0 rfl (n := nI 1024) (N := 1024) (nI_pos (Nat.le_of_ble_eq_true rfl)) (nI_clamp (Nat.le_of_ble_eq_true rfl)) (Nat.le_of_ble_eq_true rfl) (Nat.le_of_ble_eq_true rfl) (Nat.le_of_ble_eq_true rfl) dX0_init_8 (fun q1 H hZ hS => ?_)
  have hZ : zP D vwCl A X [(th, .inr (2, [.null, .null, .null, .null, .int (nI 0)])), (q1, .inl (K 0, 1024, .inl (fun _ => 0)))] L T H := hZ
  obtain ⟨L2, T3, hZ, hG, hN⟩ := zP.pooled [(q1, .inl (K 0, 1024, .inl (fun _ => 0)), zI (K 0) 1024)] [(th, .inr (2, [.null, .null, .null, .null, .int (nI 0)]))] hZ (List.forall_mem_cons.mpr ⟨⟨_, rfl⟩, (fun _ h => absurd h List.not_mem_nil)⟩)
  obtain ⟨h_q1, k_q1⟩ := hN _ (List.mem_of_getElem? (i := 0) rfl)
  have k_q1 : T3 q1 = zI (K 0) 1024 := k_q1
  have hGG := hGG.tr hG
  refine z_putF (own := RX0) (C := RX0) (TT := TX0) (N := 5) (ci := 2) (Ts := WR) (v := .ref q1) (ty := (.array .int)) hx hb hts zin_wsX00 tyX0 tyX0_ok nmX0 hown hK hZ hS 0 rfl rfl 0 (by decide) (hts _ zw_481) (fun _ h9 => h9) rfl hin rfl (by decide +kernel) rfl rfl (Nat.le_of_ble_eq_true rfl) dX0_init_10 (fun H locs hZ hS => ?_)
  have hZ : zP D vwCl A X [(th, .inr (2, [.ref q1, .null, .null, .null, .int (nI 0)]))] L2 T3 H := hZ
  refine lv_aload_n hx hb dX0_init_13 rfl (lv_at hl 0 rfl) ?_
  refine lv_bipush (v := nI 60) hx hb dX0_init_14 (by decide +kernel) ?_
  refine z_newI hx hb (hts _ zw_98) hK hZ hS hA 0 rfl (n := nI 60) (N := 60) (nI_pos (Nat.le_of_ble_eq_true rfl)) (nI_clamp (Nat.le_of_ble_eq_true rfl)) (Nat.le_of_ble_eq_true rfl) (Nat.le_of_ble_eq_true rfl) (Nat.le_of_ble_eq_true rfl) dX0_init_16 (fun q4 H hZ hS => ?_)
  have hZ : zP D vwCl A X [(th, .inr (2, [.ref q1, .null, .null, .null, .int (nI 0)])), (q4, .inl (K 0, 60, .inl (fun _ => 0)))] L2 T3 H := hZ
  have hZ : zP D vwCl A X [(th, .inr (2, [.ref q1, .null, .null, .null, .int (nI 0)]))] L2 T3 H := zP.pick [0] [(th, .inr (2, [.ref q1, .null, .null, .null, .int (nI 0)]))] hZ (by decide) rfl
  refine z_putF (own := RX0) (C := RX0) (TT := TX0) (N := 5) (ci := 2) (Ts := WR) (v := .ref q4) (ty := (.array .int)) hx hb hts zin_wsX00 tyX0 tyX0_ok nmX0 hown hK hZ hS 0 rfl rfl 1 (by decide) (hts _ zw_482) (fun _ h9 => h9) rfl hin rfl (by decide +kernel) rfl rfl (Nat.le_of_ble_eq_true rfl) dX0_init_18 (fun H locs hZ hS => ?_)
  have hZ : zP D vwCl A X [(th, .inr (2, [.ref q1, .ref q4, .null, .null, .int (nI 0)]))] L2 T3 H := hZ
  refine lv_aload_n hx hb dX0_init_21 rfl (lv_at hl 0 rfl) ?_
  refine lv_iconst (v := nI 4) hx hb dX0_init_22 (by decide +kernel) ?_
  refine z_newI hx hb (hts _ zw_98) hK hZ hS hA 0 rfl (n := nI 4) (N := 4) (nI_pos (Nat.le_of_ble_eq_true rfl)) (nI_clamp (Nat.le_of_ble_eq_true rfl)) (Nat.le_of_ble_eq_true rfl) (Nat.le_of_ble_eq_true rfl) (Nat.le_of_ble_eq_true rfl) dX0_init_23 (fun q5 H hZ hS => ?_)
  have hZ : zP D vwCl A X [(th, .inr (2, [.ref q1, .ref q4, .null, .null, .int (nI 0)])), (q5, .inl (K 0, 4, .inl (fun _ => 0)))] L2 T3 H := hZ
  have hZ : zP D vwCl A X [(th, .inr (2, [.ref q1, .ref q4, .null, .null, .int (nI 0)]))] L2 T3 H := zP.pick [0] [(th, .inr (2, [.ref q1, .ref q4, .null, .null, .int (nI 0)]))] hZ (by decide) rfl
  refine z_putF (own := RX0) (C := RX0) (TT := TX0) (N := 5) (ci := 2) (Ts := WR) (v := .ref q5) (ty := (.array .int)) hx hb hts zin_wsX00 tyX0 tyX0_ok nmX0 hown hK hZ hS 0 rfl rfl 2 (by decide) (hts _ zw_483) (fun _ h9 => h9) rfl hin rfl (by decide +kernel) rfl rfl (Nat.le_of_ble_eq_true rfl) dX0_init_25 (fun H locs hZ hS => ?_)
  have hZ : zP D vwCl A X [(th, .inr (2, [.ref q1, .ref q4, .ref q5, .null, .int (nI 0)]))] L2 T3 H := hZ
  refine lv_aload_n hx hb dX0_init_28 rfl (lv_at hl 0 rfl) ?_
  refine lv_iconst (v := nI 4) hx hb dX0_init_29 (by decide +kernel) ?_
  refine z_newI hx hb (hts _ zw_98) hK hZ hS hA 0 rfl (n := nI 4) (N := 4) (nI_pos (Nat.le_of_ble_eq_true rfl)) (nI_clamp (Nat.le_of_ble_eq_true rfl)) (Nat.le_of_ble_eq_true rfl) (Nat.le_of_ble_eq_true rfl) (Nat.le_of_ble_eq_true rfl) dX0_init_30 (fun q6 H hZ hS => ?_)
  have hZ : zP D vwCl A X [(th, .inr (2, [.ref q1, .ref q4, .ref q5, .null, .int (nI 0)])), (q6, .inl (K 0, 4, .inl (fun _ => 0)))] L2 T3 H := hZ
  have hZ : zP D vwCl A X [(th, .inr (2, [.ref q1, .ref q4, .ref q5, .null, .int (nI 0)]))] L2 T3 H := zP.pick [0] [(th, .inr (2, [.ref q1, .ref q4, .ref q5, .null, .int (nI 0)]))] hZ (by decide) rfl
  refine z_putF (own := RX0) (C := RX0) (TT := TX0) (N := 5) (ci := 2) (Ts := WR) (v := .ref q6) (ty := (.array .int)) hx hb hts zin_wsX00 tyX0 tyX0_ok nmX0 hown hK hZ hS 0 rfl rfl 3 (by decide) (hts _ zw_484) (fun _ h9 => h9) rfl hin rfl (by decide +kernel) rfl rfl (Nat.le_of_ble_eq_true rfl) dX0_init_32 (fun H locs hZ hS => ?_)
  have hZ : zP D vwCl A X [(th, .inr (2, [.ref q1, .ref q4, .ref q5, .ref q6, .int (nI 0)]))] L2 T3 H := hZ
  refine lv_iconst (v := nI 0) hx hb dX0_init_35 (by decide +kernel) ?_
  refine lv_istore_n (lv' := [(1, .int (nI 0)), (0, .ref th)]) hx hb dX0_init_36 rfl hl (by decide) rfl (fun ls hl => ?_)
  have L37_ : ∀ (n9 i37 : Nat), i37 ≤ 256 → 256 + 1 ≤ i37 + n9 → ∀   (H : Heap) (locs : List Loc) (ls : Array Slot), zP D vwCl A X [(th, .inr (2, [.ref q1, .ref q4, .ref q5, .ref q6, .int (nI 0)]))] L2 T3 H → va_S A s.heap H locs → lv_has ls 5 [(1, .int (nI i37)), (0, .ref th)] → W p l e ROOM_X0_init s m [.ref th].toArray below meth c H locs 4 1092 (MQ below (va_Qv (fun (u : zU) => u = ([], L, T)) (zB D vwCl (zT K) A X) A) [.ref th].toArray s 4 1092 A) (F0 m 37 ls []) := by
    intro n9
    induction n9 with
    | zero => intro i37 u37 w37; exact absurd w37 (by omega)
    | succ n9 ih37 =>
      intro i37 u37 w37  H locs ls hZ hS hl 
      refine lv_iload_n hx hb dX0_init_37 rfl (lv_at hl 0 rfl) ?_
      refine lv_sipush (v := nI 256) hx hb dX0_init_38 (by decide +kernel) ?_
      show W p l e ROOM_X0_init s m [.ref th].toArray below meth c H locs 4 1092 (MQ below (va_Qv (fun (u : zU) => u = ([], L, T)) (zB D vwCl (zT K) A X) A) [.ref th].toArray s 4 1092 A) (F0 m 41 ls [.int (nI 256), .int (nI i37)])
      refine lv_icmp_ge (tgt := 167) hx hb dX0_init_41 (by decide) (fun c41 => ?_) (fun c41 => ?_)
      · have e41 : 256 ≤ i37 := (nI_leI (a := 256) (b := i37) (by omega) (by omega)).mp c41
        have hZ : zP D vwCl A X [] L2 T3 H := zP.pick [] [] hZ (by decide) rfl
        have hZ : zP D vwCl A X [] L T H := zP.forget hZ hGG hND
        exact z_vret hx hb hr hlocks hK hZ hS rfl (Nat.le_of_ble_eq_true rfl) (Nat.le_of_ble_eq_true rfl) dX0_init_167
      · have e41 : ¬ 256 ≤ i37 := fun q => c41 ((nI_leI (a := 256) (b := i37) (by omega) (by omega)).mpr q)
        obtain ⟨t7, f_t7, z_t7, a_t7⟩ := zSA_BOX hSA
        refine z_gets (C := "ShellPair$Aes") (n := "BOX") (d := "[I") (v := .ref t7) hx hb hE z_t7 hS hown (hts _ zw_485) dX0_init_44 ?_
        refine lv_iload_n hx hb dX0_init_47 rfl (lv_at hl 0 rfl) ?_
        refine va_ti (N := 256) hx hb (hE.2.1 _ a_t7) hS (vp_in_nI (by omega) (by omega)) rfl dX0_init_48 ?_
        refine lv_topi (fun x8 ex8 => ?_)
        refine lv_istore_n (lv' := [(2, .int x8), (1, .int (nI i37)), (0, .ref th)]) hx hb dX0_init_49 rfl hl (by decide) rfl (fun ls hl => ?_)
        refine lv_iload_n hx hb dX0_init_50 rfl (lv_at hl 0 rfl) ?_
        refine lv_iconst (v := nI 1) hx hb dX0_init_51 (by decide +kernel) ?_
        refine lv_ishl hx hb dX0_init_52 ?_
        refine lv_topi (fun x9 ex9 => ?_)
        refine lv_iload_n hx hb dX0_init_53 rfl (lv_at hl 0 rfl) ?_
        refine lv_sipush (v := nI 128) hx hb dX0_init_54 (by decide +kernel) ?_
        refine lv_iand hx hb dX0_init_57 ?_
        refine lv_topi (fun x10 ex10 => ?_)
        refine lv_if_ne (tgt := 65) hx hb dX0_init_58 (by decide) (fun c58 => ?_) (fun c58 => ?_)
        · have i58 : x10.toInt ≠ 0 := (by have h := zq_ne_t c58; have e : (0 : Int32).toInt = 0 := (by decide +kernel); omega)
          refine lv_sipush (v := nI 283) hx hb dX0_init_65 (by decide +kernel) ?_
          refine lv_ixor hx hb dX0_init_68 ?_
          refine lv_topi (fun x11 ex11 => ?_)
          refine lv_istore_n (lv' := [(3, .int x11), (2, .int x8), (1, .int (nI i37)), (0, .ref th)]) hx hb dX0_init_69 rfl hl (by decide) rfl (fun ls hl => ?_)
          refine lv_iload_n hx hb dX0_init_70 rfl (lv_at hl 0 rfl) ?_
          refine lv_bipush (v := nI 24) hx hb dX0_init_71 (by decide +kernel) ?_
          refine lv_ishl hx hb dX0_init_73 ?_
          refine lv_topi (fun x12 ex12 => ?_)
          refine lv_iload_n hx hb dX0_init_74 rfl (lv_at hl 1 rfl) ?_
          refine lv_bipush (v := nI 16) hx hb dX0_init_75 (by decide +kernel) ?_
          refine lv_ishl hx hb dX0_init_77 ?_
          refine lv_topi (fun x13 ex13 => ?_)
          refine lv_ior hx hb dX0_init_78 ?_
          refine lv_topi (fun x14 ex14 => ?_)
          refine lv_iload_n hx hb dX0_init_79 rfl (lv_at hl 1 rfl) ?_
          refine lv_bipush (v := nI 8) hx hb dX0_init_80 (by decide +kernel) ?_
          refine lv_ishl hx hb dX0_init_82 ?_
          refine lv_topi (fun x15 ex15 => ?_)
          refine lv_ior hx hb dX0_init_83 ?_
          refine lv_topi (fun x16 ex16 => ?_)
          refine lv_iload_n hx hb dX0_init_84 rfl (lv_at hl 0 rfl) ?_
          refine lv_iload_n hx hb dX0_init_85 rfl (lv_at hl 1 rfl) ?_
          refine lv_ixor hx hb dX0_init_86 ?_
          refine lv_topi (fun x17 ex17 => ?_)
          refine lv_ior hx hb dX0_init_87 ?_
          refine lv_topi (fun x18 ex18 => ?_)
          refine lv_istore (lv' := [(4, .int x18), (3, .int x11), (2, .int x8), (1, .int (nI i37)), (0, .ref th)]) hx hb dX0_init_88 hl (by decide) rfl (fun ls hl => ?_)
          refine lv_aload_n hx hb dX0_init_90 rfl (lv_at hl 4 rfl) ?_
          refine z_getY (own := RX0) (C := RX0) (TT := TX0) (N := 5) (ci := 2) (Ts := WR) hx hb hts zin_wsX00 hown hK hZ 0 rfl rfl 0 (by decide) (hts _ zw_481) (fun _ h9 => h9) rfl dX0_init_91 ?_
          refine lv_iload_n hx hb dX0_init_94 rfl (lv_at hl 3 rfl) ?_
          refine lv_iload hx hb dX0_init_95 (lv_at hl 0 rfl) ?_
          refine z_iast hx hb hK hZ hS 0 h_q1 k_q1 rfl (vp_in_nI (by omega) (by omega)) dX0_init_97 (fun H locs hZ hS => ?_)
          refine lv_aload_n hx hb dX0_init_98 rfl (lv_at hl 4 rfl) ?_
          refine z_getY (own := RX0) (C := RX0) (TT := TX0) (N := 5) (ci := 2) (Ts := WR) hx hb hts zin_wsX00 hown hK hZ 0 rfl rfl 0 (by decide) (hts _ zw_481) (fun _ h9 => h9) rfl dX0_init_99 ?_
          refine lv_sipush (v := nI 256) hx hb dX0_init_102 (by decide +kernel) ?_
          refine lv_iload_n hx hb dX0_init_105 rfl (lv_at hl 3 rfl) ?_
          refine lv_iadd hx hb dX0_init_106 ?_
          refine lv_topi (fun x19 ex19 => ?_)
          obtain rfl : x19 = nI (256 + i37) := ex19.trans (nI_add 256 i37)
          show W p l e ROOM_X0_init s m [.ref th].toArray below meth c H locs 4 1092 (MQ below (va_Qv (fun (u : zU) => u = ([], L, T)) (zB D vwCl (zT K) A X) A) [.ref th].toArray s 4 1092 A) (F0 m 107 ls [.int (nI (256 + i37)), .ref q1])
          refine lv_iload hx hb dX0_init_107 (lv_at hl 0 rfl) ?_
          refine lv_bipush (v := nI 8) hx hb dX0_init_109 (by decide +kernel) ?_
          refine lv_iushr hx hb dX0_init_111 rfl ?_
          refine lv_topi (fun x20 ex20 => ?_)
          refine lv_iload hx hb dX0_init_112 (lv_at hl 0 rfl) ?_
          refine lv_bipush (v := nI 24) hx hb dX0_init_114 (by decide +kernel) ?_
          refine lv_ishl hx hb dX0_init_116 ?_
          refine lv_topi (fun x21 ex21 => ?_)
          refine lv_ior hx hb dX0_init_117 ?_
          refine lv_topi (fun x22 ex22 => ?_)
          refine z_iast hx hb hK hZ hS 0 h_q1 k_q1 rfl (vp_in_nI (by omega) (by omega)) dX0_init_118 (fun H locs hZ hS => ?_)
          refine lv_aload_n hx hb dX0_init_119 rfl (lv_at hl 4 rfl) ?_
          refine z_getY (own := RX0) (C := RX0) (TT := TX0) (N := 5) (ci := 2) (Ts := WR) hx hb hts zin_wsX00 hown hK hZ 0 rfl rfl 0 (by decide) (hts _ zw_481) (fun _ h9 => h9) rfl dX0_init_120 ?_
          refine lv_sipush (v := nI 512) hx hb dX0_init_123 (by decide +kernel) ?_
          refine lv_iload_n hx hb dX0_init_126 rfl (lv_at hl 3 rfl) ?_
          refine lv_iadd hx hb dX0_init_127 ?_
          refine lv_topi (fun x23 ex23 => ?_)
          obtain rfl : x23 = nI (512 + i37) := ex23.trans (nI_add 512 i37)
          refine lv_iload hx hb dX0_init_128 (lv_at hl 0 rfl) ?_
          refine lv_bipush (v := nI 16) hx hb dX0_init_130 (by decide +kernel) ?_
          refine lv_iushr hx hb dX0_init_132 rfl ?_
          refine lv_topi (fun x24 ex24 => ?_)
          refine lv_iload hx hb dX0_init_133 (lv_at hl 0 rfl) ?_
          refine lv_bipush (v := nI 16) hx hb dX0_init_135 (by decide +kernel) ?_
          refine lv_ishl hx hb dX0_init_137 ?_
          refine lv_topi (fun x25 ex25 => ?_)
          refine lv_ior hx hb dX0_init_138 ?_
          refine lv_topi (fun x26 ex26 => ?_)
          refine z_iast hx hb hK hZ hS 0 h_q1 k_q1 rfl (vp_in_nI (by omega) (by omega)) dX0_init_139 (fun H locs hZ hS => ?_)
          refine lv_aload_n hx hb dX0_init_140 rfl (lv_at hl 4 rfl) ?_
          refine z_getY (own := RX0) (C := RX0) (TT := TX0) (N := 5) (ci := 2) (Ts := WR) hx hb hts zin_wsX00 hown hK hZ 0 rfl rfl 0 (by decide) (hts _ zw_481) (fun _ h9 => h9) rfl dX0_init_141 ?_
          refine lv_sipush (v := nI 768) hx hb dX0_init_144 (by decide +kernel) ?_
          refine lv_iload_n hx hb dX0_init_147 rfl (lv_at hl 3 rfl) ?_
          refine lv_iadd hx hb dX0_init_148 ?_
          refine lv_topi (fun x27 ex27 => ?_)
          obtain rfl : x27 = nI (768 + i37) := ex27.trans (nI_add 768 i37)
          refine lv_iload hx hb dX0_init_149 (lv_at hl 0 rfl) ?_
          refine lv_bipush (v := nI 24) hx hb dX0_init_151 (by decide +kernel) ?_
          refine lv_iushr hx hb dX0_init_153 rfl ?_
          refine lv_topi (fun x28 ex28 => ?_)
          refine lv_iload hx hb dX0_init_154 (lv_at hl 0 rfl) ?_
          refine lv_bipush (v := nI 8) hx hb dX0_init_156 (by decide +kernel) ?_
          refine lv_ishl hx hb dX0_init_158 ?_
          refine lv_topi (fun x29 ex29 => ?_)
          refine lv_ior hx hb dX0_init_159 ?_
          refine lv_topi (fun x30 ex30 => ?_)
          refine z_iast hx hb hK hZ hS 0 h_q1 k_q1 rfl (vp_in_nI (by omega) (by omega)) dX0_init_160 (fun H locs hZ hS => ?_)
          refine lv_iinc (v := nI (i37 + 1)) (lv' := [(1, .int (nI (i37 + 1))), (4, .int x18), (3, .int x11), (2, .int x8), (0, .ref th)]) hx hb dX0_init_161 hl (k := 3) rfl (nI_add i37 1) (by decide) rfl (fun ls hl => ?_)
          show W p l e ROOM_X0_init s m [.ref th].toArray below meth c H locs 4 1092 (MQ below (va_Qv (fun (u : zU) => u = ([], L, T)) (zB D vwCl (zT K) A X) A) [.ref th].toArray s 4 1092 A) (F0 m 164 ls [])
          refine lv_goto (tgt := 37) hx hb dX0_init_164 (by decide) ?_
          exact ih37 (i37 + 1) (by omega) (by omega)   _ _ _ hZ hS (lv_sub hl [0, 4] rfl) 
        · have i58 : x10.toInt = 0 := (by have h := zq_ne_f c58; have e : (0 : Int32).toInt = 0 := (by decide +kernel); omega)
          refine lv_iconst (v := nI 0) hx hb dX0_init_61 (by decide +kernel) ?_
          show W p l e ROOM_X0_init s m [.ref th].toArray below meth c H locs 4 1092 (MQ below (va_Qv (fun (u : zU) => u = ([], L, T)) (zB D vwCl (zT K) A X) A) [.ref th].toArray s 4 1092 A) (F0 m 62 ls [.int (nI 0), .int x9])
          refine lv_goto (tgt := 68) hx hb dX0_init_62 (by decide) ?_
          refine lv_ixor hx hb dX0_init_68 ?_
          refine lv_topi (fun x31 ex31 => ?_)
          refine lv_istore_n (lv' := [(3, .int x31), (2, .int x8), (1, .int (nI i37)), (0, .ref th)]) hx hb dX0_init_69 rfl hl (by decide) rfl (fun ls hl => ?_)
          refine lv_iload_n hx hb dX0_init_70 rfl (lv_at hl 0 rfl) ?_
          refine lv_bipush (v := nI 24) hx hb dX0_init_71 (by decide +kernel) ?_
          refine lv_ishl hx hb dX0_init_73 ?_
          refine lv_topi (fun x32 ex32 => ?_)
          refine lv_iload_n hx hb dX0_init_74 rfl (lv_at hl 1 rfl) ?_
          refine lv_bipush (v := nI 16) hx hb dX0_init_75 (by decide +kernel) ?_
          refine lv_ishl hx hb dX0_init_77 ?_
          refine lv_topi (fun x33 ex33 => ?_)
          refine lv_ior hx hb dX0_init_78 ?_
          refine lv_topi (fun x34 ex34 => ?_)
          refine lv_iload_n hx hb dX0_init_79 rfl (lv_at hl 1 rfl) ?_
          refine lv_bipush (v := nI 8) hx hb dX0_init_80 (by decide +kernel) ?_
          refine lv_ishl hx hb dX0_init_82 ?_
          refine lv_topi (fun x35 ex35 => ?_)
          refine lv_ior hx hb dX0_init_83 ?_
          refine lv_topi (fun x36 ex36 => ?_)
          refine lv_iload_n hx hb dX0_init_84 rfl (lv_at hl 0 rfl) ?_
          refine lv_iload_n hx hb dX0_init_85 rfl (lv_at hl 1 rfl) ?_
          refine lv_ixor hx hb dX0_init_86 ?_
          refine lv_topi (fun x37 ex37 => ?_)
          refine lv_ior hx hb dX0_init_87 ?_
          refine lv_topi (fun x38 ex38 => ?_)
          refine lv_istore (lv' := [(4, .int x38), (3, .int x31), (2, .int x8), (1, .int (nI i37)), (0, .ref th)]) hx hb dX0_init_88 hl (by decide) rfl (fun ls hl => ?_)
          refine lv_aload_n hx hb dX0_init_90 rfl (lv_at hl 4 rfl) ?_
          refine z_getY (own := RX0) (C := RX0) (TT := TX0) (N := 5) (ci := 2) (Ts := WR) hx hb hts zin_wsX00 hown hK hZ 0 rfl rfl 0 (by decide) (hts _ zw_481) (fun _ h9 => h9) rfl dX0_init_91 ?_
          refine lv_iload_n hx hb dX0_init_94 rfl (lv_at hl 3 rfl) ?_
          refine lv_iload hx hb dX0_init_95 (lv_at hl 0 rfl) ?_
          refine z_iast hx hb hK hZ hS 0 h_q1 k_q1 rfl (vp_in_nI (by omega) (by omega)) dX0_init_97 (fun H locs hZ hS => ?_)
          refine lv_aload_n hx hb dX0_init_98 rfl (lv_at hl 4 rfl) ?_
          refine z_getY (own := RX0) (C := RX0) (TT := TX0) (N := 5) (ci := 2) (Ts := WR) hx hb hts zin_wsX00 hown hK hZ 0 rfl rfl 0 (by decide) (hts _ zw_481) (fun _ h9 => h9) rfl dX0_init_99 ?_
          refine lv_sipush (v := nI 256) hx hb dX0_init_102 (by decide +kernel) ?_
          refine lv_iload_n hx hb dX0_init_105 rfl (lv_at hl 3 rfl) ?_
          refine lv_iadd hx hb dX0_init_106 ?_
          refine lv_topi (fun x39 ex39 => ?_)
          obtain rfl : x39 = nI (256 + i37) := ex39.trans (nI_add 256 i37)
          refine lv_iload hx hb dX0_init_107 (lv_at hl 0 rfl) ?_
          refine lv_bipush (v := nI 8) hx hb dX0_init_109 (by decide +kernel) ?_
          refine lv_iushr hx hb dX0_init_111 rfl ?_
          refine lv_topi (fun x40 ex40 => ?_)
          refine lv_iload hx hb dX0_init_112 (lv_at hl 0 rfl) ?_
          refine lv_bipush (v := nI 24) hx hb dX0_init_114 (by decide +kernel) ?_
          refine lv_ishl hx hb dX0_init_116 ?_
          refine lv_topi (fun x41 ex41 => ?_)
          refine lv_ior hx hb dX0_init_117 ?_
          refine lv_topi (fun x42 ex42 => ?_)
          refine z_iast hx hb hK hZ hS 0 h_q1 k_q1 rfl (vp_in_nI (by omega) (by omega)) dX0_init_118 (fun H locs hZ hS => ?_)
          refine lv_aload_n hx hb dX0_init_119 rfl (lv_at hl 4 rfl) ?_
          refine z_getY (own := RX0) (C := RX0) (TT := TX0) (N := 5) (ci := 2) (Ts := WR) hx hb hts zin_wsX00 hown hK hZ 0 rfl rfl 0 (by decide) (hts _ zw_481) (fun _ h9 => h9) rfl dX0_init_120 ?_
          refine lv_sipush (v := nI 512) hx hb dX0_init_123 (by decide +kernel) ?_
          refine lv_iload_n hx hb dX0_init_126 rfl (lv_at hl 3 rfl) ?_
          show W p l e ROOM_X0_init s m [.ref th].toArray below meth c H locs 4 1092 (MQ below (va_Qv (fun (u : zU) => u = ([], L, T)) (zB D vwCl (zT K) A X) A) [.ref th].toArray s 4 1092 A) (F0 m 127 ls [.int (nI i37), .int (nI 512), .ref q1])
          refine lv_iadd hx hb dX0_init_127 ?_
          refine lv_topi (fun x43 ex43 => ?_)
          obtain rfl : x43 = nI (512 + i37) := ex43.trans (nI_add 512 i37)
          refine lv_iload hx hb dX0_init_128 (lv_at hl 0 rfl) ?_
          refine lv_bipush (v := nI 16) hx hb dX0_init_130 (by decide +kernel) ?_
          refine lv_iushr hx hb dX0_init_132 rfl ?_
          refine lv_topi (fun x44 ex44 => ?_)
          refine lv_iload hx hb dX0_init_133 (lv_at hl 0 rfl) ?_
          refine lv_bipush (v := nI 16) hx hb dX0_init_135 (by decide +kernel) ?_
          refine lv_ishl hx hb dX0_init_137 ?_
          refine lv_topi (fun x45 ex45 => ?_)
          refine lv_ior hx hb dX0_init_138 ?_
          refine lv_topi (fun x46 ex46 => ?_)
          refine z_iast hx hb hK hZ hS 0 h_q1 k_q1 rfl (vp_in_nI (by omega) (by omega)) dX0_init_139 (fun H locs hZ hS => ?_)
          refine lv_aload_n hx hb dX0_init_140 rfl (lv_at hl 4 rfl) ?_
          refine z_getY (own := RX0) (C := RX0) (TT := TX0) (N := 5) (ci := 2) (Ts := WR) hx hb hts zin_wsX00 hown hK hZ 0 rfl rfl 0 (by decide) (hts _ zw_481) (fun _ h9 => h9) rfl dX0_init_141 ?_
          refine lv_sipush (v := nI 768) hx hb dX0_init_144 (by decide +kernel) ?_
          refine lv_iload_n hx hb dX0_init_147 rfl (lv_at hl 3 rfl) ?_
          refine lv_iadd hx hb dX0_init_148 ?_
          refine lv_topi (fun x47 ex47 => ?_)
          obtain rfl : x47 = nI (768 + i37) := ex47.trans (nI_add 768 i37)
          refine lv_iload hx hb dX0_init_149 (lv_at hl 0 rfl) ?_
          refine lv_bipush (v := nI 24) hx hb dX0_init_151 (by decide +kernel) ?_
          refine lv_iushr hx hb dX0_init_153 rfl ?_
          refine lv_topi (fun x48 ex48 => ?_)
          refine lv_iload hx hb dX0_init_154 (lv_at hl 0 rfl) ?_
          refine lv_bipush (v := nI 8) hx hb dX0_init_156 (by decide +kernel) ?_
          refine lv_ishl hx hb dX0_init_158 ?_
          refine lv_topi (fun x49 ex49 => ?_)
          refine lv_ior hx hb dX0_init_159 ?_
          refine lv_topi (fun x50 ex50 => ?_)
          refine z_iast hx hb hK hZ hS 0 h_q1 k_q1 rfl (vp_in_nI (by omega) (by omega)) dX0_init_160 (fun H locs hZ hS => ?_)
          refine lv_iinc (v := nI (i37 + 1)) (lv' := [(1, .int (nI (i37 + 1))), (4, .int x38), (3, .int x31), (2, .int x8), (0, .ref th)]) hx hb dX0_init_161 hl (k := 3) rfl (nI_add i37 1) (by decide) rfl (fun ls hl => ?_)
          show W p l e ROOM_X0_init s m [.ref th].toArray below meth c H locs 4 1092 (MQ below (va_Qv (fun (u : zU) => u = ([], L, T)) (zB D vwCl (zT K) A X) A) [.ref th].toArray s 4 1092 A) (F0 m 164 ls [])
          refine lv_goto (tgt := 37) hx hb dX0_init_164 (by decide) ?_
          exact ih37 (i37 + 1) (by omega) (by omega)   _ _ _ hZ hS (lv_sub hl [0, 4] rfl) 
  exact L37_ (256 + 1) 0 (by omega) (by omega)   _ _ _ hZ hS (lv_sub hl [0, 1] rfl) 
abbrev ROOM_X2_init : Room := { frames := 1, cells := 2, slots := 72, locals := 20 }
set_option maxHeartbeats 4000000 in
set_option maxRecDepth 100000 in
/-- Chance() -/
theorem c_X2_init (E : zEn) (l : Launch) (D : va_G) (K : Nat → ClassId) (X : va_W) (L : List Nat) (T : Nat → va_E → Prop) {th : Nat} {sh : Nat}    : zV E l D vwCl (zT K) yX2_init (zws yX2_init cX2_init 2 none) ROOM_X2_init 2 72 [.ref th, .ref sh] X [(th, .inr (4, [.null, .null, .null, .long 0, .int (nI 0)]))] L T (fun (u : zU) => u = ([], L, T)) := by
  refine z_ofW (E := E) (Qc := fun A => va_Qv (fun (u : zU) => u = ([], L, T)) (zB D vwCl (zT K) A X) A) (cc := cX2_init) (maxL := 2) (ret := none) (by decide +kernel) rfl (Nat.le_of_ble_eq_true rfl) ?_
  intro p e s m below meth c A ls hx hb hml hr hts hown hlocks hin hA hK hZ hS hE hl
  have hown : s.vm.findClass RX2 = some m.cls := hown
  have hts : ∀ w ∈ WR, w.before [.ref th, .ref sh].toArray s = true := fun w h => hts w (List.mem_cons_of_mem _ h)
  have hl : lv_has ls 2 [(0, .ref th), (1, .ref sh)] := hl
  obtain ⟨H, hH⟩ : ∃ H, H = s.heap := ⟨_, rfl⟩
  have hZ : zP D vwCl A X [(th, .inr (4, [.null, .null, .null, .long 0, .int (nI 0)]))] L T H := by rw [hH]; exact hZ
  obtain ⟨locs, hlc⟩ : ∃ q : List Loc, q = [] := ⟨_, rfl⟩
  have hS : va_S A s.heap H locs := by rw [hH, hlc]; exact hS
  suffices hW : W p l e ROOM_X2_init s m [.ref th, .ref sh].toArray below meth c H locs 0 0 (MQ below (va_Qv (fun (u : zU) => u = ([], L, T)) (zB D vwCl (zT K) A X) A) [.ref th, .ref sh].toArray s 2 72 A) (F0 m 0 ls []) by rw [hH, hlc] at hW; exact hW
  clear hH hlc
  refine lv_aload_n hx hb dX2_init_0 rfl (lv_at hl 0 rfl) ?_
  refine W.objInit hx hb hown (hts _ zw_536) (hts _ zw_4) (hts _ zw_5) rfl (by rw [hml]; exact hl.1) rfl dX2_init_1 (Nat.le_of_ble_eq_true rfl) (Nat.le_of_ble_eq_true rfl) ?_
  refine lv_aload_n hx hb dX2_init_4 rfl (lv_at hl 0 rfl) ?_
  refine lv_bipush (v := nI 40) hx hb dX2_init_5 (by decide +kernel) ?_
  refine z_newB hx hb (hts _ zw_63) hK hZ hS hA 2 rfl (n := nI 40) (N := 40) (nI_pos (Nat.le_of_ble_eq_true rfl)) (nI_clamp (Nat.le_of_ble_eq_true rfl)) (Nat.le_of_ble_eq_true rfl) (Nat.le_of_ble_eq_true rfl) (Nat.le_of_ble_eq_true rfl) dX2_init_7 (fun q1 H hZ hS => ?_)
  have hZ : zP D vwCl A X [(th, .inr (4, [.null, .null, .null, .long 0, .int (nI 0)])), (q1, .inl (K 2, 40, .inl (fun _ => 0)))] L T H := hZ
  refine z_putF (own := RX2) (C := RX2) (TT := TX2) (N := 5) (ci := 4) (Ts := WR) (v := .ref q1) (ty := (.array .byte)) hx hb hts zin_wsX20 tyX2 tyX2_ok nmX2 hown hK hZ hS 0 rfl rfl 1 (by decide) (hts _ zw_537) (fun _ h9 => h9) rfl hin rfl (by decide +kernel) rfl rfl (Nat.le_of_ble_eq_true rfl) dX2_init_9 (fun H locs hZ hS => ?_)
  have hZ : zP D vwCl A X [(th, .inr (4, [.null, .ref q1, .null, .long 0, .int (nI 0)])), (q1, .inl (K 2, 40, .inl (fun _ => 0)))] L T H := hZ
  refine lv_aload_n hx hb dX2_init_12 rfl (lv_at hl 0 rfl) ?_
  refine lv_bipush (v := nI 32) hx hb dX2_init_13 (by decide +kernel) ?_
  refine z_newB hx hb (hts _ zw_63) hK hZ hS hA 2 rfl (n := nI 32) (N := 32) (nI_pos (Nat.le_of_ble_eq_true rfl)) (nI_clamp (Nat.le_of_ble_eq_true rfl)) (Nat.le_of_ble_eq_true rfl) (Nat.le_of_ble_eq_true rfl) (Nat.le_of_ble_eq_true rfl) dX2_init_15 (fun q2 H hZ hS => ?_)
  have hZ : zP D vwCl A X [(th, .inr (4, [.null, .ref q1, .null, .long 0, .int (nI 0)])), (q1, .inl (K 2, 40, .inl (fun _ => 0))), (q2, .inl (K 2, 32, .inl (fun _ => 0)))] L T H := hZ
  refine z_putF (own := RX2) (C := RX2) (TT := TX2) (N := 5) (ci := 4) (Ts := WR) (v := .ref q2) (ty := (.array .byte)) hx hb hts zin_wsX20 tyX2 tyX2_ok nmX2 hown hK hZ hS 0 rfl rfl 2 (by decide) (hts _ zw_538) (fun _ h9 => h9) rfl hin rfl (by decide +kernel) rfl rfl (Nat.le_of_ble_eq_true rfl) dX2_init_17 (fun H locs hZ hS => ?_)
  have hZ : zP D vwCl A X [(th, .inr (4, [.null, .ref q1, .ref q2, .long 0, .int (nI 0)])), (q1, .inl (K 2, 40, .inl (fun _ => 0))), (q2, .inl (K 2, 32, .inl (fun _ => 0)))] L T H := hZ
  refine lv_aload_n hx hb dX2_init_20 rfl (lv_at hl 0 rfl) ?_
  refine lv_bipush (v := nI 32) hx hb dX2_init_21 (by decide +kernel) ?_
  refine z_put (own := RX2) (C := RX2) (TT := TX2) (N := 5) (ci := 4) (Ts := WR) (v := .int (nI 32)) (ty := .int) hx hb hts zin_wsX20 tyX2 tyX2_ok nmX2 hown hK hZ hS 0 rfl rfl 4 (by decide) (hts _ zw_539) (fun _ h9 => h9) rfl (by decide +kernel) rfl rfl (Nat.le_of_ble_eq_true rfl) dX2_init_23 (fun H locs hZ hS => ?_)
  have hZ : zP D vwCl A X [(th, .inr (4, [.null, .ref q1, .ref q2, .long 0, .int (nI 32)])), (q1, .inl (K 2, 40, .inl (fun _ => 0))), (q2, .inl (K 2, 32, .inl (fun _ => 0)))] L T H := hZ
  refine lv_aload_n hx hb dX2_init_26 rfl (lv_at hl 0 rfl) ?_
  refine lv_aload_n hx hb dX2_init_27 rfl (lv_at hl 1 rfl) ?_
  refine z_putF (own := RX2) (C := RX2) (TT := TX2) (N := 5) (ci := 4) (Ts := WR) (v := .ref sh) (ty := (.object "ShellPair$Sha2")) hx hb hts zin_wsX20 tyX2 tyX2_ok nmX2 hown hK hZ hS 0 rfl rfl 0 (by decide) (hts _ zw_540) (fun _ h9 => h9) rfl hin rfl (by decide +kernel) rfl rfl (Nat.le_of_ble_eq_true rfl) dX2_init_28 (fun H locs hZ hS => ?_)
  have hZ : zP D vwCl A X [(th, .inr (4, [.ref sh, .ref q1, .ref q2, .long 0, .int (nI 32)])), (q1, .inl (K 2, 40, .inl (fun _ => 0))), (q2, .inl (K 2, 32, .inl (fun _ => 0)))] L T H := hZ
  have hZ : zP D vwCl A X [] L T H := zP.pick [] [] hZ (by decide) rfl
  exact z_vret hx hb hr hlocks hK hZ hS rfl (Nat.le_of_ble_eq_true rfl) (Nat.le_of_ble_eq_true rfl) dX2_init_31
abbrev ROOM_X8_init : Room := { frames := 2, cells := 12, slots := 1421, locals := 44 }
set_option maxHeartbeats 4000000 in
set_option maxRecDepth 100000 in
/-- Flow() -/
theorem c_X8_init (E : zEn) (l : Launch) (D : va_G) (K : Nat → ClassId) (X : va_W) (L : List Nat) (T : Nat → va_E → Prop) {th : Nat} {sh : Nat}   (hSA : zSA E) : zV E l D vwCl (zT K) yX8_init (zws yX8_init cX8_init 2 none) ROOM_X8_init 12 1421 [.ref th, .ref sh] X [(th, .inr (9, [.null, .null, .null, .int (nI 0), .int (nI 0), .null, .null, .int (nI 0), .int (nI 0), .int (nI 0), .long 0, .null, .null, .null, .null]))] L T (fun (u : zU) => ∃ (fa : Nat) (fb : Nat) (fc : Nat) (fd : Nat) (fe : Nat) (fi : Nat) (fo : Nat) (fh : Nat), u = ([(th, .inr (9, [.ref fa, .ref fb, .ref fc, .int (nI 0), .int (nI 0), .ref fd, .ref fe, .int (nI 0), .int (nI 0), .int (nI 0), .long 0, .ref sh, .ref fi, .ref fo, .ref fh]))], L, T)) := by
  refine z_ofW (E := E) (Qc := fun A => va_Qv (fun (u : zU) => ∃ (fa : Nat) (fb : Nat) (fc : Nat) (fd : Nat) (fe : Nat) (fi : Nat) (fo : Nat) (fh : Nat), u = ([(th, .inr (9, [.ref fa, .ref fb, .ref fc, .int (nI 0), .int (nI 0), .ref fd, .ref fe, .int (nI 0), .int (nI 0), .int (nI 0), .long 0, .ref sh, .ref fi, .ref fo, .ref fh]))], L, T)) (zB D vwCl (zT K) A X) A) (cc := cX8_init) (maxL := 2) (ret := none) (by decide +kernel) rfl (Nat.le_of_ble_eq_true rfl) ?_
  intro p e s m below meth c A ls hx hb hml hr hts hown hlocks hin hA hK hZ hS hE hl
  have hown : s.vm.findClass RX8 = some m.cls := hown
  have hts : ∀ w ∈ WR, w.before [.ref th, .ref sh].toArray s = true := fun w h => hts w (List.mem_cons_of_mem _ h)
  have hl : lv_has ls 2 [(0, .ref th), (1, .ref sh)] := hl
  obtain ⟨H, hH⟩ : ∃ H, H = s.heap := ⟨_, rfl⟩
  have hZ : zP D vwCl A X [(th, .inr (9, [.null, .null, .null, .int (nI 0), .int (nI 0), .null, .null, .int (nI 0), .int (nI 0), .int (nI 0), .long 0, .null, .null, .null, .null]))] L T H := by rw [hH]; exact hZ
  obtain ⟨locs, hlc⟩ : ∃ q : List Loc, q = [] := ⟨_, rfl⟩
  have hS : va_S A s.heap H locs := by rw [hH, hlc]; exact hS
  suffices hW : W p l e ROOM_X8_init s m [.ref th, .ref sh].toArray below meth c H locs 0 0 (MQ below (va_Qv (fun (u : zU) => ∃ (fa : Nat) (fb : Nat) (fc : Nat) (fd : Nat) (fe : Nat) (fi : Nat) (fo : Nat) (fh : Nat), u = ([(th, .inr (9, [.ref fa, .ref fb, .ref fc, .int (nI 0), .int (nI 0), .ref fd, .ref fe, .int (nI 0), .int (nI 0), .int (nI 0), .long 0, .ref sh, .ref fi, .ref fo, .ref fh]))], L, T)) (zB D vwCl (zT K) A X) A) [.ref th, .ref sh].toArray s 12 1421 A) (F0 m 0 ls []) by rw [hH, hlc] at hW; exact hW
  clear hH hlc
  refine lv_aload_n hx hb dX8_init_0 rfl (lv_at hl 0 rfl) ?_
  refine W.objInit hx hb hown (hts _ zw_730) (hts _ zw_4) (hts _ zw_5) rfl (by rw [hml]; exact hl.1) rfl dX8_init_1 (Nat.le_of_ble_eq_true rfl) (Nat.le_of_ble_eq_true rfl) ?_
  refine lv_aload_n hx hb dX8_init_4 rfl (lv_at hl 0 rfl) ?_
  refine lv_bipush (v := nI 32) hx hb dX8_init_5 (by decide +kernel) ?_
  refine z_newB hx hb (hts _ zw_63) hK hZ hS hA 2 rfl (n := nI 32) (N := 32) (nI_pos (Nat.le_of_ble_eq_true rfl)) (nI_clamp (Nat.le_of_ble_eq_true rfl)) (Nat.le_of_ble_eq_true rfl) (Nat.le_of_ble_eq_true rfl) (Nat.le_of_ble_eq_true rfl) dX8_init_7 (fun q1 H hZ hS => ?_)
  have hZ : zP D vwCl A X [(th, .inr (9, [.null, .null, .null, .int (nI 0), .int (nI 0), .null, .null, .int (nI 0), .int (nI 0), .int (nI 0), .long 0, .null, .null, .null, .null])), (q1, .inl (K 2, 32, .inl (fun _ => 0)))] L T H := hZ
  have hZ : zP D vwCl A X [(th, .inr (9, [.null, .null, .null, .int (nI 0), .int (nI 0), .null, .null, .int (nI 0), .int (nI 0), .int (nI 0), .long 0, .null, .null, .null, .null]))] L T H := zP.pick [0] [(th, .inr (9, [.null, .null, .null, .int (nI 0), .int (nI 0), .null, .null, .int (nI 0), .int (nI 0), .int (nI 0), .long 0, .null, .null, .null, .null]))] hZ (by decide) rfl
  refine z_putF (own := RX8) (C := RX8) (TT := TX8) (N := 15) (ci := 9) (Ts := WR) (v := .ref q1) (ty := (.array .byte)) hx hb hts zin_wsX80 tyX8 tyX8_ok nmX8 hown hK hZ hS 0 rfl rfl 0 (by decide) (hts _ zw_731) (fun _ h9 => h9) rfl hin rfl (by decide +kernel) rfl rfl (Nat.le_of_ble_eq_true rfl) dX8_init_9 (fun H locs hZ hS => ?_)
  have hZ : zP D vwCl A X [(th, .inr (9, [.ref q1, .null, .null, .int (nI 0), .int (nI 0), .null, .null, .int (nI 0), .int (nI 0), .int (nI 0), .long 0, .null, .null, .null, .null]))] L T H := hZ
  refine lv_aload_n hx hb dX8_init_12 rfl (lv_at hl 0 rfl) ?_
  refine lv_bipush (v := nI 32) hx hb dX8_init_13 (by decide +kernel) ?_
  refine z_newB hx hb (hts _ zw_63) hK hZ hS hA 2 rfl (n := nI 32) (N := 32) (nI_pos (Nat.le_of_ble_eq_true rfl)) (nI_clamp (Nat.le_of_ble_eq_true rfl)) (Nat.le_of_ble_eq_true rfl) (Nat.le_of_ble_eq_true rfl) (Nat.le_of_ble_eq_true rfl) dX8_init_15 (fun q2 H hZ hS => ?_)
  have hZ : zP D vwCl A X [(th, .inr (9, [.ref q1, .null, .null, .int (nI 0), .int (nI 0), .null, .null, .int (nI 0), .int (nI 0), .int (nI 0), .long 0, .null, .null, .null, .null])), (q2, .inl (K 2, 32, .inl (fun _ => 0)))] L T H := hZ
  have hZ : zP D vwCl A X [(th, .inr (9, [.ref q1, .null, .null, .int (nI 0), .int (nI 0), .null, .null, .int (nI 0), .int (nI 0), .int (nI 0), .long 0, .null, .null, .null, .null]))] L T H := zP.pick [0] [(th, .inr (9, [.ref q1, .null, .null, .int (nI 0), .int (nI 0), .null, .null, .int (nI 0), .int (nI 0), .int (nI 0), .long 0, .null, .null, .null, .null]))] hZ (by decide) rfl
  refine z_putF (own := RX8) (C := RX8) (TT := TX8) (N := 15) (ci := 9) (Ts := WR) (v := .ref q2) (ty := (.array .byte)) hx hb hts zin_wsX80 tyX8 tyX8_ok nmX8 hown hK hZ hS 0 rfl rfl 1 (by decide) (hts _ zw_732) (fun _ h9 => h9) rfl hin rfl (by decide +kernel) rfl rfl (Nat.le_of_ble_eq_true rfl) dX8_init_17 (fun H locs hZ hS => ?_)
  have hZ : zP D vwCl A X [(th, .inr (9, [.ref q1, .ref q2, .null, .int (nI 0), .int (nI 0), .null, .null, .int (nI 0), .int (nI 0), .int (nI 0), .long 0, .null, .null, .null, .null]))] L T H := hZ
  refine lv_aload_n hx hb dX8_init_20 rfl (lv_at hl 0 rfl) ?_
  refine lv_bipush (v := nI 32) hx hb dX8_init_21 (by decide +kernel) ?_
  refine z_newB hx hb (hts _ zw_63) hK hZ hS hA 2 rfl (n := nI 32) (N := 32) (nI_pos (Nat.le_of_ble_eq_true rfl)) (nI_clamp (Nat.le_of_ble_eq_true rfl)) (Nat.le_of_ble_eq_true rfl) (Nat.le_of_ble_eq_true rfl) (Nat.le_of_ble_eq_true rfl) dX8_init_23 (fun q3 H hZ hS => ?_)
  have hZ : zP D vwCl A X [(th, .inr (9, [.ref q1, .ref q2, .null, .int (nI 0), .int (nI 0), .null, .null, .int (nI 0), .int (nI 0), .int (nI 0), .long 0, .null, .null, .null, .null])), (q3, .inl (K 2, 32, .inl (fun _ => 0)))] L T H := hZ
  have hZ : zP D vwCl A X [(th, .inr (9, [.ref q1, .ref q2, .null, .int (nI 0), .int (nI 0), .null, .null, .int (nI 0), .int (nI 0), .int (nI 0), .long 0, .null, .null, .null, .null]))] L T H := zP.pick [0] [(th, .inr (9, [.ref q1, .ref q2, .null, .int (nI 0), .int (nI 0), .null, .null, .int (nI 0), .int (nI 0), .int (nI 0), .long 0, .null, .null, .null, .null]))] hZ (by decide) rfl
  refine z_putF (own := RX8) (C := RX8) (TT := TX8) (N := 15) (ci := 9) (Ts := WR) (v := .ref q3) (ty := (.array .byte)) hx hb hts zin_wsX80 tyX8 tyX8_ok nmX8 hown hK hZ hS 0 rfl rfl 2 (by decide) (hts _ zw_733) (fun _ h9 => h9) rfl hin rfl (by decide +kernel) rfl rfl (Nat.le_of_ble_eq_true rfl) dX8_init_25 (fun H locs hZ hS => ?_)
  have hZ : zP D vwCl A X [(th, .inr (9, [.ref q1, .ref q2, .ref q3, .int (nI 0), .int (nI 0), .null, .null, .int (nI 0), .int (nI 0), .int (nI 0), .long 0, .null, .null, .null, .null]))] L T H := hZ
  refine lv_aload_n hx hb dX8_init_28 rfl (lv_at hl 0 rfl) ?_
  refine z_new (own := RX8) (C := RX0) (TT := TX0) (N := 5) (ci := 2) (Ts := WR) (fs := [.null, .null, .null, .null, .int (nI 0)]) hx hb hts zin_wsX00 tyX0 tyX0_ok hown (hts _ zw_734) (hts _ zw_735) (hts _ zw_479) hK hZ hS hA rfl (by decide +kernel) (Nat.le_of_ble_eq_true rfl) (Nat.le_of_ble_eq_true rfl) dX8_init_29 (fun q4 H hZ hS => ?_)
  have hZ : zP D vwCl A X [(th, .inr (9, [.ref q1, .ref q2, .ref q3, .int (nI 0), .int (nI 0), .null, .null, .int (nI 0), .int (nI 0), .int (nI 0), .long 0, .null, .null, .null, .null])), (q4, .inr (2, [.null, .null, .null, .null, .int (nI 0)]))] L T H := hZ
  refine lv_dup hx hb dX8_init_32 rfl ?_
  have hZc := zP.into (Y1 := [(th, .inr (9, [.ref q1, .ref q2, .ref q3, .int (nI 0), .int (nI 0), .null, .null, .int (nI 0), .int (nI 0), .int (nI 0), .long 0, .null, .null, .null, .null]))]) (Y2 := [(q4, .inr (2, [.null, .null, .null, .null, .int (nI 0)]))]) hZ
  refine z_goV (va_runI (As := []) (rest := [.ref q4, .ref th]) ⟨hx, hb, hml, hown, hts⟩ ((c_X0_init E l D K (X ++ [(th, .inr (9, [.ref q1, .ref q2, .ref q3, .int (nI 0), .int (nI 0), .null, .null, .int (nI 0), .int (nI 0), .int (nI 0), .long 0, .null, .null, .null, .null]))]) L T hSA) H.size) (cwI 0 hts (zg_I zw_477) rfl rfl rfl (hts _ zw_479) (hts _ zw_736) (hts _ zw_478) rfl (by decide +kernel) ⟨Nat.le_of_ble_eq_true rfl, Nat.le_of_ble_eq_true rfl⟩) (z_preS hK hZc hS hA hE) rfl rfl hl.1 rfl (lv_room (Nat.le_of_ble_eq_true rfl)) dX8_init_33 ⟨Nat.le_of_ble_eq_true rfl, Nat.le_of_ble_eq_true rfl⟩) hZc hS hA (fun  Y1 L1 T1 H locs hp hZ hS => ?_)
  cases hp
  have hZ : zP D vwCl A X [(th, .inr (9, [.ref q1, .ref q2, .ref q3, .int (nI 0), .int (nI 0), .null, .null, .int (nI 0), .int (nI 0), .int (nI 0), .long 0, .null, .null, .null, .null]))] L T H := zP.back hZ
  refine z_putF (own := RX8) (C := RX8) (TT := TX8) (N := 15) (ci := 9) (Ts := WR) (v := .ref q4) (ty := (.object "ShellPair$Aes")) hx hb hts zin_wsX80 tyX8 tyX8_ok nmX8 hown hK hZ hS 0 rfl rfl 5 (by decide) (hts _ zw_737) (fun _ h9 => h9) rfl hin rfl (by decide +kernel) rfl rfl (Nat.le_of_ble_eq_true rfl) dX8_init_36 (fun H locs hZ hS => ?_)
  have hZ : zP D vwCl A X [(th, .inr (9, [.ref q1, .ref q2, .ref q3, .int (nI 0), .int (nI 0), .ref q4, .null, .int (nI 0), .int (nI 0), .int (nI 0), .long 0, .null, .null, .null, .null]))] L T H := hZ
  refine lv_aload_n hx hb dX8_init_39 rfl (lv_at hl 0 rfl) ?_
  refine lv_bipush (v := nI 32) hx hb dX8_init_40 (by decide +kernel) ?_
  refine z_newB hx hb (hts _ zw_63) hK hZ hS hA 2 rfl (n := nI 32) (N := 32) (nI_pos (Nat.le_of_ble_eq_true rfl)) (nI_clamp (Nat.le_of_ble_eq_true rfl)) (Nat.le_of_ble_eq_true rfl) (Nat.le_of_ble_eq_true rfl) (Nat.le_of_ble_eq_true rfl) dX8_init_42 (fun q5 H hZ hS => ?_)
  have hZ : zP D vwCl A X [(th, .inr (9, [.ref q1, .ref q2, .ref q3, .int (nI 0), .int (nI 0), .ref q4, .null, .int (nI 0), .int (nI 0), .int (nI 0), .long 0, .null, .null, .null, .null])), (q5, .inl (K 2, 32, .inl (fun _ => 0)))] L T H := hZ
  have hZ : zP D vwCl A X [(th, .inr (9, [.ref q1, .ref q2, .ref q3, .int (nI 0), .int (nI 0), .ref q4, .null, .int (nI 0), .int (nI 0), .int (nI 0), .long 0, .null, .null, .null, .null]))] L T H := zP.pick [0] [(th, .inr (9, [.ref q1, .ref q2, .ref q3, .int (nI 0), .int (nI 0), .ref q4, .null, .int (nI 0), .int (nI 0), .int (nI 0), .long 0, .null, .null, .null, .null]))] hZ (by decide) rfl
  refine z_putF (own := RX8) (C := RX8) (TT := TX8) (N := 15) (ci := 9) (Ts := WR) (v := .ref q5) (ty := (.array .byte)) hx hb hts zin_wsX80 tyX8 tyX8_ok nmX8 hown hK hZ hS 0 rfl rfl 6 (by decide) (hts _ zw_738) (fun _ h9 => h9) rfl hin rfl (by decide +kernel) rfl rfl (Nat.le_of_ble_eq_true rfl) dX8_init_44 (fun H locs hZ hS => ?_)
  have hZ : zP D vwCl A X [(th, .inr (9, [.ref q1, .ref q2, .ref q3, .int (nI 0), .int (nI 0), .ref q4, .ref q5, .int (nI 0), .int (nI 0), .int (nI 0), .long 0, .null, .null, .null, .null]))] L T H := hZ
  refine lv_aload_n hx hb dX8_init_47 rfl (lv_at hl 0 rfl) ?_
  refine lv_bipush (v := nI 68) hx hb dX8_init_48 (by decide +kernel) ?_
  refine z_newB hx hb (hts _ zw_63) hK hZ hS hA 2 rfl (n := nI 68) (N := 68) (nI_pos (Nat.le_of_ble_eq_true rfl)) (nI_clamp (Nat.le_of_ble_eq_true rfl)) (Nat.le_of_ble_eq_true rfl) (Nat.le_of_ble_eq_true rfl) (Nat.le_of_ble_eq_true rfl) dX8_init_50 (fun q6 H hZ hS => ?_)
  have hZ : zP D vwCl A X [(th, .inr (9, [.ref q1, .ref q2, .ref q3, .int (nI 0), .int (nI 0), .ref q4, .ref q5, .int (nI 0), .int (nI 0), .int (nI 0), .long 0, .null, .null, .null, .null])), (q6, .inl (K 2, 68, .inl (fun _ => 0)))] L T H := hZ
  have hZ : zP D vwCl A X [(th, .inr (9, [.ref q1, .ref q2, .ref q3, .int (nI 0), .int (nI 0), .ref q4, .ref q5, .int (nI 0), .int (nI 0), .int (nI 0), .long 0, .null, .null, .null, .null]))] L T H := zP.pick [0] [(th, .inr (9, [.ref q1, .ref q2, .ref q3, .int (nI 0), .int (nI 0), .ref q4, .ref q5, .int (nI 0), .int (nI 0), .int (nI 0), .long 0, .null, .null, .null, .null]))] hZ (by decide) rfl
  refine z_putF (own := RX8) (C := RX8) (TT := TX8) (N := 15) (ci := 9) (Ts := WR) (v := .ref q6) (ty := (.array .byte)) hx hb hts zin_wsX80 tyX8 tyX8_ok nmX8 hown hK hZ hS 0 rfl rfl 12 (by decide) (hts _ zw_739) (fun _ h9 => h9) rfl hin rfl (by decide +kernel) rfl rfl (Nat.le_of_ble_eq_true rfl) dX8_init_52 (fun H locs hZ hS => ?_)
  have hZ : zP D vwCl A X [(th, .inr (9, [.ref q1, .ref q2, .ref q3, .int (nI 0), .int (nI 0), .ref q4, .ref q5, .int (nI 0), .int (nI 0), .int (nI 0), .long 0, .null, .ref q6, .null, .null]))] L T H := hZ
  refine lv_aload_n hx hb dX8_init_55 rfl (lv_at hl 0 rfl) ?_
  refine lv_bipush (v := nI 64) hx hb dX8_init_56 (by decide +kernel) ?_
  refine z_newB hx hb (hts _ zw_63) hK hZ hS hA 2 rfl (n := nI 64) (N := 64) (nI_pos (Nat.le_of_ble_eq_true rfl)) (nI_clamp (Nat.le_of_ble_eq_true rfl)) (Nat.le_of_ble_eq_true rfl) (Nat.le_of_ble_eq_true rfl) (Nat.le_of_ble_eq_true rfl) dX8_init_58 (fun q7 H hZ hS => ?_)
  have hZ : zP D vwCl A X [(th, .inr (9, [.ref q1, .ref q2, .ref q3, .int (nI 0), .int (nI 0), .ref q4, .ref q5, .int (nI 0), .int (nI 0), .int (nI 0), .long 0, .null, .ref q6, .null, .null])), (q7, .inl (K 2, 64, .inl (fun _ => 0)))] L T H := hZ
  have hZ : zP D vwCl A X [(th, .inr (9, [.ref q1, .ref q2, .ref q3, .int (nI 0), .int (nI 0), .ref q4, .ref q5, .int (nI 0), .int (nI 0), .int (nI 0), .long 0, .null, .ref q6, .null, .null]))] L T H := zP.pick [0] [(th, .inr (9, [.ref q1, .ref q2, .ref q3, .int (nI 0), .int (nI 0), .ref q4, .ref q5, .int (nI 0), .int (nI 0), .int (nI 0), .long 0, .null, .ref q6, .null, .null]))] hZ (by decide) rfl
  refine z_putF (own := RX8) (C := RX8) (TT := TX8) (N := 15) (ci := 9) (Ts := WR) (v := .ref q7) (ty := (.array .byte)) hx hb hts zin_wsX80 tyX8 tyX8_ok nmX8 hown hK hZ hS 0 rfl rfl 13 (by decide) (hts _ zw_740) (fun _ h9 => h9) rfl hin rfl (by decide +kernel) rfl rfl (Nat.le_of_ble_eq_true rfl) dX8_init_60 (fun H locs hZ hS => ?_)
  have hZ : zP D vwCl A X [(th, .inr (9, [.ref q1, .ref q2, .ref q3, .int (nI 0), .int (nI 0), .ref q4, .ref q5, .int (nI 0), .int (nI 0), .int (nI 0), .long 0, .null, .ref q6, .ref q7, .null]))] L T H := hZ
  refine lv_aload_n hx hb dX8_init_63 rfl (lv_at hl 0 rfl) ?_
  refine lv_bipush (v := nI 32) hx hb dX8_init_64 (by decide +kernel) ?_
  refine z_newB hx hb (hts _ zw_63) hK hZ hS hA 2 rfl (n := nI 32) (N := 32) (nI_pos (Nat.le_of_ble_eq_true rfl)) (nI_clamp (Nat.le_of_ble_eq_true rfl)) (Nat.le_of_ble_eq_true rfl) (Nat.le_of_ble_eq_true rfl) (Nat.le_of_ble_eq_true rfl) dX8_init_66 (fun q8 H hZ hS => ?_)
  have hZ : zP D vwCl A X [(th, .inr (9, [.ref q1, .ref q2, .ref q3, .int (nI 0), .int (nI 0), .ref q4, .ref q5, .int (nI 0), .int (nI 0), .int (nI 0), .long 0, .null, .ref q6, .ref q7, .null])), (q8, .inl (K 2, 32, .inl (fun _ => 0)))] L T H := hZ
  have hZ : zP D vwCl A X [(th, .inr (9, [.ref q1, .ref q2, .ref q3, .int (nI 0), .int (nI 0), .ref q4, .ref q5, .int (nI 0), .int (nI 0), .int (nI 0), .long 0, .null, .ref q6, .ref q7, .null]))] L T H := zP.pick [0] [(th, .inr (9, [.ref q1, .ref q2, .ref q3, .int (nI 0), .int (nI 0), .ref q4, .ref q5, .int (nI 0), .int (nI 0), .int (nI 0), .long 0, .null, .ref q6, .ref q7, .null]))] hZ (by decide) rfl
  refine z_putF (own := RX8) (C := RX8) (TT := TX8) (N := 15) (ci := 9) (Ts := WR) (v := .ref q8) (ty := (.array .byte)) hx hb hts zin_wsX80 tyX8 tyX8_ok nmX8 hown hK hZ hS 0 rfl rfl 14 (by decide) (hts _ zw_741) (fun _ h9 => h9) rfl hin rfl (by decide +kernel) rfl rfl (Nat.le_of_ble_eq_true rfl) dX8_init_68 (fun H locs hZ hS => ?_)
  have hZ : zP D vwCl A X [(th, .inr (9, [.ref q1, .ref q2, .ref q3, .int (nI 0), .int (nI 0), .ref q4, .ref q5, .int (nI 0), .int (nI 0), .int (nI 0), .long 0, .null, .ref q6, .ref q7, .ref q8]))] L T H := hZ
  refine lv_aload_n hx hb dX8_init_71 rfl (lv_at hl 0 rfl) ?_
  refine lv_aload_n hx hb dX8_init_72 rfl (lv_at hl 1 rfl) ?_
  refine z_putF (own := RX8) (C := RX8) (TT := TX8) (N := 15) (ci := 9) (Ts := WR) (v := .ref sh) (ty := (.object "ShellPair$Sha2")) hx hb hts zin_wsX80 tyX8 tyX8_ok nmX8 hown hK hZ hS 0 rfl rfl 11 (by decide) (hts _ zw_742) (fun _ h9 => h9) rfl hin rfl (by decide +kernel) rfl rfl (Nat.le_of_ble_eq_true rfl) dX8_init_73 (fun H locs hZ hS => ?_)
  have hZ : zP D vwCl A X [(th, .inr (9, [.ref q1, .ref q2, .ref q3, .int (nI 0), .int (nI 0), .ref q4, .ref q5, .int (nI 0), .int (nI 0), .int (nI 0), .long 0, .ref sh, .ref q6, .ref q7, .ref q8]))] L T H := hZ
  exact z_vret hx hb hr hlocks hK hZ hS ⟨q1, q2, q3, q4, q5, q6, q7, q8, rfl⟩ (Nat.le_of_ble_eq_true rfl) (Nat.le_of_ble_eq_true rfl) dX8_init_76
abbrev ROOM_X3_init : Room := { frames := 3, cells := 8, slots := 200, locals := 61 }
set_option maxHeartbeats 4000000 in
set_option maxRecDepth 100000 in
/-- Channel() -/
theorem c_X3_init (E : zEn) (l : Launch) (D : va_G) (K : Nat → ClassId) (X : va_W) (L : List Nat) (T : Nat → va_E → Prop) {th : Nat}    : zV E l D vwCl (zT K) yX3_init (zws yX3_init cX3_init 1 none) ROOM_X3_init 8 200 [.ref th] X [(th, .inr (5, [.null, .null, .null, .null, .int (nI 0), .int (nI 0), .int (nI 0), .long 0, .int (nI 0), .int (nI 0), .int (nI 0), .int (nI 0), .int (nI 0), .int (nI 0), .int (nI 0), .int (nI 0), .int (nI 0), .int (nI 0)]))] L T (fun (u : zU) => ∃ (ca : Nat) (cb : Nat) (cc_ : Nat) (cd : Nat), u = ([(th, .inr (5, [.ref ca, .ref cb, .ref cc_, .ref cd, .int (-1), .int (nI 0), .int (nI 0), .long 0, .int (nI 0), .int (nI 0), .int (nI 0), .int (nI 0), .int (nI 0), .int (nI 0), .int (nI 0), .int (nI 0), .int (nI 0), .int (nI 0)]))], L, T)) := by
  refine z_ofW (E := E) (Qc := fun A => va_Qv (fun (u : zU) => ∃ (ca : Nat) (cb : Nat) (cc_ : Nat) (cd : Nat), u = ([(th, .inr (5, [.ref ca, .ref cb, .ref cc_, .ref cd, .int (-1), .int (nI 0), .int (nI 0), .long 0, .int (nI 0), .int (nI 0), .int (nI 0), .int (nI 0), .int (nI 0), .int (nI 0), .int (nI 0), .int (nI 0), .int (nI 0), .int (nI 0)]))], L, T)) (zB D vwCl (zT K) A X) A) (cc := cX3_init) (maxL := 1) (ret := none) (by decide +kernel) rfl (Nat.le_of_ble_eq_true rfl) ?_
  intro p e s m below meth c A ls hx hb hml hr hts hown hlocks hin hA hK hZ hS hE hl
  have hown : s.vm.findClass RX3 = some m.cls := hown
  have hts : ∀ w ∈ WR, w.before [.ref th].toArray s = true := fun w h => hts w (List.mem_cons_of_mem _ h)
  have hl : lv_has ls 1 [(0, .ref th)] := hl
  obtain ⟨H, hH⟩ : ∃ H, H = s.heap := ⟨_, rfl⟩
  have hZ : zP D vwCl A X [(th, .inr (5, [.null, .null, .null, .null, .int (nI 0), .int (nI 0), .int (nI 0), .long 0, .int (nI 0), .int (nI 0), .int (nI 0), .int (nI 0), .int (nI 0), .int (nI 0), .int (nI 0), .int (nI 0), .int (nI 0), .int (nI 0)]))] L T H := by rw [hH]; exact hZ
  obtain ⟨locs, hlc⟩ : ∃ q : List Loc, q = [] := ⟨_, rfl⟩
  have hS : va_S A s.heap H locs := by rw [hH, hlc]; exact hS
  suffices hW : W p l e ROOM_X3_init s m [.ref th].toArray below meth c H locs 0 0 (MQ below (va_Qv (fun (u : zU) => ∃ (ca : Nat) (cb : Nat) (cc_ : Nat) (cd : Nat), u = ([(th, .inr (5, [.ref ca, .ref cb, .ref cc_, .ref cd, .int (-1), .int (nI 0), .int (nI 0), .long 0, .int (nI 0), .int (nI 0), .int (nI 0), .int (nI 0), .int (nI 0), .int (nI 0), .int (nI 0), .int (nI 0), .int (nI 0), .int (nI 0)]))], L, T)) (zB D vwCl (zT K) A X) A) [.ref th].toArray s 8 200 A) (F0 m 0 ls []) by rw [hH, hlc] at hW; exact hW
  clear hH hlc
  refine lv_aload_n hx hb dX3_init_0 rfl (lv_at hl 0 rfl) ?_
  refine W.objInit hx hb hown (hts _ zw_544) (hts _ zw_4) (hts _ zw_5) rfl (by rw [hml]; exact hl.1) rfl dX3_init_1 (Nat.le_of_ble_eq_true rfl) (Nat.le_of_ble_eq_true rfl) ?_
  refine lv_aload_n hx hb dX3_init_4 rfl (lv_at hl 0 rfl) ?_
  refine z_new (own := RX3) (C := RX1) (TT := TX1) (N := 6) (ci := 3) (Ts := WR) (fs := [.null, .int (nI 0), .int (nI 0), .int (nI 0), .int (nI 0), .int (nI 0)]) hx hb hts zin_wsX10 tyX1 tyX1_ok hown (hts _ zw_545) (hts _ zw_546) (hts _ zw_488) hK hZ hS hA rfl (by decide +kernel) (Nat.le_of_ble_eq_true rfl) (Nat.le_of_ble_eq_true rfl) dX3_init_5 (fun q1 H hZ hS => ?_)
  have hZ : zP D vwCl A X [(th, .inr (5, [.null, .null, .null, .null, .int (nI 0), .int (nI 0), .int (nI 0), .long 0, .int (nI 0), .int (nI 0), .int (nI 0), .int (nI 0), .int (nI 0), .int (nI 0), .int (nI 0), .int (nI 0), .int (nI 0), .int (nI 0)])), (q1, .inr (3, [.null, .int (nI 0), .int (nI 0), .int (nI 0), .int (nI 0), .int (nI 0)]))] L T H := hZ
  refine lv_dup hx hb dX3_init_8 rfl ?_
  refine lv_bipush (v := nI 64) hx hb dX3_init_9 (by decide +kernel) ?_
  have hZc := zP.into (Y1 := [(th, .inr (5, [.null, .null, .null, .null, .int (nI 0), .int (nI 0), .int (nI 0), .long 0, .int (nI 0), .int (nI 0), .int (nI 0), .int (nI 0), .int (nI 0), .int (nI 0), .int (nI 0), .int (nI 0), .int (nI 0), .int (nI 0)]))]) (Y2 := [(q1, .inr (3, [.null, .int (nI 0), .int (nI 0), .int (nI 0), .int (nI 0), .int (nI 0)]))]) hZ
  refine z_goV (va_runI (As := [.int (nI 64)]) (rest := [.ref q1, .ref th]) ⟨hx, hb, hml, hown, hts⟩ ((c_X1_init_r64 E l D K (X ++ [(th, .inr (5, [.null, .null, .null, .null, .int (nI 0), .int (nI 0), .int (nI 0), .long 0, .int (nI 0), .int (nI 0), .int (nI 0), .int (nI 0), .int (nI 0), .int (nI 0), .int (nI 0), .int (nI 0), .int (nI 0), .int (nI 0)]))]) L T ) H.size) (cwI 1 hts (zg_I zw_486) rfl rfl rfl (hts _ zw_488) (hts _ zw_547) (hts _ zw_487) rfl (by decide +kernel) ⟨Nat.le_of_ble_eq_true rfl, Nat.le_of_ble_eq_true rfl⟩) (z_preS hK hZc hS hA hE) rfl rfl hl.1 rfl (lv_room (Nat.le_of_ble_eq_true rfl)) dX3_init_11 ⟨Nat.le_of_ble_eq_true rfl, Nat.le_of_ble_eq_true rfl⟩) hZc hS hA (fun  Y1 L1 T1 H locs hp hZ hS => ?_)
  obtain ⟨d_2, hp⟩ := hp
  cases hp
  have hZ : zP D vwCl A X [(th, .inr (5, [.null, .null, .null, .null, .int (nI 0), .int (nI 0), .int (nI 0), .long 0, .int (nI 0), .int (nI 0), .int (nI 0), .int (nI 0), .int (nI 0), .int (nI 0), .int (nI 0), .int (nI 0), .int (nI 0), .int (nI 0)])), (q1, .inr (3, [.ref d_2, .int (nI 0), .int (nI 0), .int (nI 0), .int (nI 0), .int (nI 0)])), (d_2, .inl (K 2, 64, .inl (fun _ => 0)))] L T H := zP.back hZ
  have hZ : zP D vwCl A X [(th, .inr (5, [.null, .null, .null, .null, .int (nI 0), .int (nI 0), .int (nI 0), .long 0, .int (nI 0), .int (nI 0), .int (nI 0), .int (nI 0), .int (nI 0), .int (nI 0), .int (nI 0), .int (nI 0), .int (nI 0), .int (nI 0)]))] L T H := zP.pick [0] [(th, .inr (5, [.null, .null, .null, .null, .int (nI 0), .int (nI 0), .int (nI 0), .long 0, .int (nI 0), .int (nI 0), .int (nI 0), .int (nI 0), .int (nI 0), .int (nI 0), .int (nI 0), .int (nI 0), .int (nI 0), .int (nI 0)]))] hZ (by decide) rfl
  refine z_putF (own := RX3) (C := RX3) (TT := TX3) (N := 18) (ci := 5) (Ts := WR) (v := .ref q1) (ty := (.object "ShellPair$Bytes")) hx hb hts zin_wsX30 tyX3 tyX3_ok nmX3 hown hK hZ hS 0 rfl rfl 0 (by decide) (hts _ zw_548) (fun _ h9 => h9) rfl hin rfl (by decide +kernel) rfl rfl (Nat.le_of_ble_eq_true rfl) dX3_init_14 (fun H locs hZ hS => ?_)
  have hZ : zP D vwCl A X [(th, .inr (5, [.ref q1, .null, .null, .null, .int (nI 0), .int (nI 0), .int (nI 0), .long 0, .int (nI 0), .int (nI 0), .int (nI 0), .int (nI 0), .int (nI 0), .int (nI 0), .int (nI 0), .int (nI 0), .int (nI 0), .int (nI 0)]))] L T H := hZ
  refine lv_aload_n hx hb dX3_init_17 rfl (lv_at hl 0 rfl) ?_
  refine z_new (own := RX3) (C := RX1) (TT := TX1) (N := 6) (ci := 3) (Ts := WR) (fs := [.null, .int (nI 0), .int (nI 0), .int (nI 0), .int (nI 0), .int (nI 0)]) hx hb hts zin_wsX10 tyX1 tyX1_ok hown (hts _ zw_545) (hts _ zw_546) (hts _ zw_488) hK hZ hS hA rfl (by decide +kernel) (Nat.le_of_ble_eq_true rfl) (Nat.le_of_ble_eq_true rfl) dX3_init_18 (fun q3 H hZ hS => ?_)
  have hZ : zP D vwCl A X [(th, .inr (5, [.ref q1, .null, .null, .null, .int (nI 0), .int (nI 0), .int (nI 0), .long 0, .int (nI 0), .int (nI 0), .int (nI 0), .int (nI 0), .int (nI 0), .int (nI 0), .int (nI 0), .int (nI 0), .int (nI 0), .int (nI 0)])), (q3, .inr (3, [.null, .int (nI 0), .int (nI 0), .int (nI 0), .int (nI 0), .int (nI 0)]))] L T H := hZ
  refine lv_dup hx hb dX3_init_21 rfl ?_
  refine lv_bipush (v := nI 16) hx hb dX3_init_22 (by decide +kernel) ?_
  have hZc := zP.into (Y1 := [(th, .inr (5, [.ref q1, .null, .null, .null, .int (nI 0), .int (nI 0), .int (nI 0), .long 0, .int (nI 0), .int (nI 0), .int (nI 0), .int (nI 0), .int (nI 0), .int (nI 0), .int (nI 0), .int (nI 0), .int (nI 0), .int (nI 0)]))]) (Y2 := [(q3, .inr (3, [.null, .int (nI 0), .int (nI 0), .int (nI 0), .int (nI 0), .int (nI 0)]))]) hZ
  refine z_goV (va_runI (As := [.int (nI 16)]) (rest := [.ref q3, .ref th]) ⟨hx, hb, hml, hown, hts⟩ ((c_X1_init_r16 E l D K (X ++ [(th, .inr (5, [.ref q1, .null, .null, .null, .int (nI 0), .int (nI 0), .int (nI 0), .long 0, .int (nI 0), .int (nI 0), .int (nI 0), .int (nI 0), .int (nI 0), .int (nI 0), .int (nI 0), .int (nI 0), .int (nI 0), .int (nI 0)]))]) L T ) H.size) (cwI 1 hts (zg_I zw_486) rfl rfl rfl (hts _ zw_488) (hts _ zw_547) (hts _ zw_487) rfl (by decide +kernel) ⟨Nat.le_of_ble_eq_true rfl, Nat.le_of_ble_eq_true rfl⟩) (z_preS hK hZc hS hA hE) rfl rfl hl.1 rfl (lv_room (Nat.le_of_ble_eq_true rfl)) dX3_init_24 ⟨Nat.le_of_ble_eq_true rfl, Nat.le_of_ble_eq_true rfl⟩) hZc hS hA (fun  Y1 L1 T1 H locs hp hZ hS => ?_)
  obtain ⟨d_4, hp⟩ := hp
  cases hp
  have hZ : zP D vwCl A X [(th, .inr (5, [.ref q1, .null, .null, .null, .int (nI 0), .int (nI 0), .int (nI 0), .long 0, .int (nI 0), .int (nI 0), .int (nI 0), .int (nI 0), .int (nI 0), .int (nI 0), .int (nI 0), .int (nI 0), .int (nI 0), .int (nI 0)])), (q3, .inr (3, [.ref d_4, .int (nI 0), .int (nI 0), .int (nI 0), .int (nI 0), .int (nI 0)])), (d_4, .inl (K 2, 16, .inl (fun _ => 0)))] L T H := zP.back hZ
  have hZ : zP D vwCl A X [(th, .inr (5, [.ref q1, .null, .null, .null, .int (nI 0), .int (nI 0), .int (nI 0), .long 0, .int (nI 0), .int (nI 0), .int (nI 0), .int (nI 0), .int (nI 0), .int (nI 0), .int (nI 0), .int (nI 0), .int (nI 0), .int (nI 0)]))] L T H := zP.pick [0] [(th, .inr (5, [.ref q1, .null, .null, .null, .int (nI 0), .int (nI 0), .int (nI 0), .long 0, .int (nI 0), .int (nI 0), .int (nI 0), .int (nI 0), .int (nI 0), .int (nI 0), .int (nI 0), .int (nI 0), .int (nI 0), .int (nI 0)]))] hZ (by decide) rfl
  refine z_putF (own := RX3) (C := RX3) (TT := TX3) (N := 18) (ci := 5) (Ts := WR) (v := .ref q3) (ty := (.object "ShellPair$Bytes")) hx hb hts zin_wsX30 tyX3 tyX3_ok nmX3 hown hK hZ hS 0 rfl rfl 1 (by decide) (hts _ zw_549) (fun _ h9 => h9) rfl hin rfl (by decide +kernel) rfl rfl (Nat.le_of_ble_eq_true rfl) dX3_init_27 (fun H locs hZ hS => ?_)
  have hZ : zP D vwCl A X [(th, .inr (5, [.ref q1, .ref q3, .null, .null, .int (nI 0), .int (nI 0), .int (nI 0), .long 0, .int (nI 0), .int (nI 0), .int (nI 0), .int (nI 0), .int (nI 0), .int (nI 0), .int (nI 0), .int (nI 0), .int (nI 0), .int (nI 0)]))] L T H := hZ
  refine lv_aload_n hx hb dX3_init_30 rfl (lv_at hl 0 rfl) ?_
  refine z_new (own := RX3) (C := RX1) (TT := TX1) (N := 6) (ci := 3) (Ts := WR) (fs := [.null, .int (nI 0), .int (nI 0), .int (nI 0), .int (nI 0), .int (nI 0)]) hx hb hts zin_wsX10 tyX1 tyX1_ok hown (hts _ zw_545) (hts _ zw_546) (hts _ zw_488) hK hZ hS hA rfl (by decide +kernel) (Nat.le_of_ble_eq_true rfl) (Nat.le_of_ble_eq_true rfl) dX3_init_31 (fun q5 H hZ hS => ?_)
  have hZ : zP D vwCl A X [(th, .inr (5, [.ref q1, .ref q3, .null, .null, .int (nI 0), .int (nI 0), .int (nI 0), .long 0, .int (nI 0), .int (nI 0), .int (nI 0), .int (nI 0), .int (nI 0), .int (nI 0), .int (nI 0), .int (nI 0), .int (nI 0), .int (nI 0)])), (q5, .inr (3, [.null, .int (nI 0), .int (nI 0), .int (nI 0), .int (nI 0), .int (nI 0)]))] L T H := hZ
  refine lv_dup hx hb dX3_init_34 rfl ?_
  refine lv_bipush (v := nI 64) hx hb dX3_init_35 (by decide +kernel) ?_
  have hZc := zP.into (Y1 := [(th, .inr (5, [.ref q1, .ref q3, .null, .null, .int (nI 0), .int (nI 0), .int (nI 0), .long 0, .int (nI 0), .int (nI 0), .int (nI 0), .int (nI 0), .int (nI 0), .int (nI 0), .int (nI 0), .int (nI 0), .int (nI 0), .int (nI 0)]))]) (Y2 := [(q5, .inr (3, [.null, .int (nI 0), .int (nI 0), .int (nI 0), .int (nI 0), .int (nI 0)]))]) hZ
  refine z_goV (va_runI (As := [.int (nI 64)]) (rest := [.ref q5, .ref th]) ⟨hx, hb, hml, hown, hts⟩ ((c_X1_init_r64 E l D K (X ++ [(th, .inr (5, [.ref q1, .ref q3, .null, .null, .int (nI 0), .int (nI 0), .int (nI 0), .long 0, .int (nI 0), .int (nI 0), .int (nI 0), .int (nI 0), .int (nI 0), .int (nI 0), .int (nI 0), .int (nI 0), .int (nI 0), .int (nI 0)]))]) L T ) H.size) (cwI 1 hts (zg_I zw_486) rfl rfl rfl (hts _ zw_488) (hts _ zw_547) (hts _ zw_487) rfl (by decide +kernel) ⟨Nat.le_of_ble_eq_true rfl, Nat.le_of_ble_eq_true rfl⟩) (z_preS hK hZc hS hA hE) rfl rfl hl.1 rfl (lv_room (Nat.le_of_ble_eq_true rfl)) dX3_init_37 ⟨Nat.le_of_ble_eq_true rfl, Nat.le_of_ble_eq_true rfl⟩) hZc hS hA (fun  Y1 L1 T1 H locs hp hZ hS => ?_)
  obtain ⟨d_6, hp⟩ := hp
  cases hp
  have hZ : zP D vwCl A X [(th, .inr (5, [.ref q1, .ref q3, .null, .null, .int (nI 0), .int (nI 0), .int (nI 0), .long 0, .int (nI 0), .int (nI 0), .int (nI 0), .int (nI 0), .int (nI 0), .int (nI 0), .int (nI 0), .int (nI 0), .int (nI 0), .int (nI 0)])), (q5, .inr (3, [.ref d_6, .int (nI 0), .int (nI 0), .int (nI 0), .int (nI 0), .int (nI 0)])), (d_6, .inl (K 2, 64, .inl (fun _ => 0)))] L T H := zP.back hZ
  have hZ : zP D vwCl A X [(th, .inr (5, [.ref q1, .ref q3, .null, .null, .int (nI 0), .int (nI 0), .int (nI 0), .long 0, .int (nI 0), .int (nI 0), .int (nI 0), .int (nI 0), .int (nI 0), .int (nI 0), .int (nI 0), .int (nI 0), .int (nI 0), .int (nI 0)]))] L T H := zP.pick [0] [(th, .inr (5, [.ref q1, .ref q3, .null, .null, .int (nI 0), .int (nI 0), .int (nI 0), .long 0, .int (nI 0), .int (nI 0), .int (nI 0), .int (nI 0), .int (nI 0), .int (nI 0), .int (nI 0), .int (nI 0), .int (nI 0), .int (nI 0)]))] hZ (by decide) rfl
  refine z_putF (own := RX3) (C := RX3) (TT := TX3) (N := 18) (ci := 5) (Ts := WR) (v := .ref q5) (ty := (.object "ShellPair$Bytes")) hx hb hts zin_wsX30 tyX3 tyX3_ok nmX3 hown hK hZ hS 0 rfl rfl 2 (by decide) (hts _ zw_550) (fun _ h9 => h9) rfl hin rfl (by decide +kernel) rfl rfl (Nat.le_of_ble_eq_true rfl) dX3_init_40 (fun H locs hZ hS => ?_)
  have hZ : zP D vwCl A X [(th, .inr (5, [.ref q1, .ref q3, .ref q5, .null, .int (nI 0), .int (nI 0), .int (nI 0), .long 0, .int (nI 0), .int (nI 0), .int (nI 0), .int (nI 0), .int (nI 0), .int (nI 0), .int (nI 0), .int (nI 0), .int (nI 0), .int (nI 0)]))] L T H := hZ
  refine lv_aload_n hx hb dX3_init_43 rfl (lv_at hl 0 rfl) ?_
  refine z_new (own := RX3) (C := RX1) (TT := TX1) (N := 6) (ci := 3) (Ts := WR) (fs := [.null, .int (nI 0), .int (nI 0), .int (nI 0), .int (nI 0), .int (nI 0)]) hx hb hts zin_wsX10 tyX1 tyX1_ok hown (hts _ zw_545) (hts _ zw_546) (hts _ zw_488) hK hZ hS hA rfl (by decide +kernel) (Nat.le_of_ble_eq_true rfl) (Nat.le_of_ble_eq_true rfl) dX3_init_44 (fun q7 H hZ hS => ?_)
  have hZ : zP D vwCl A X [(th, .inr (5, [.ref q1, .ref q3, .ref q5, .null, .int (nI 0), .int (nI 0), .int (nI 0), .long 0, .int (nI 0), .int (nI 0), .int (nI 0), .int (nI 0), .int (nI 0), .int (nI 0), .int (nI 0), .int (nI 0), .int (nI 0), .int (nI 0)])), (q7, .inr (3, [.null, .int (nI 0), .int (nI 0), .int (nI 0), .int (nI 0), .int (nI 0)]))] L T H := hZ
  refine lv_dup hx hb dX3_init_47 rfl ?_
  refine lv_bipush (v := nI 32) hx hb dX3_init_48 (by decide +kernel) ?_
  have hZc := zP.into (Y1 := [(th, .inr (5, [.ref q1, .ref q3, .ref q5, .null, .int (nI 0), .int (nI 0), .int (nI 0), .long 0, .int (nI 0), .int (nI 0), .int (nI 0), .int (nI 0), .int (nI 0), .int (nI 0), .int (nI 0), .int (nI 0), .int (nI 0), .int (nI 0)]))]) (Y2 := [(q7, .inr (3, [.null, .int (nI 0), .int (nI 0), .int (nI 0), .int (nI 0), .int (nI 0)]))]) hZ
  refine z_goV (va_runI (As := [.int (nI 32)]) (rest := [.ref q7, .ref th]) ⟨hx, hb, hml, hown, hts⟩ ((c_X1_init_r32 E l D K (X ++ [(th, .inr (5, [.ref q1, .ref q3, .ref q5, .null, .int (nI 0), .int (nI 0), .int (nI 0), .long 0, .int (nI 0), .int (nI 0), .int (nI 0), .int (nI 0), .int (nI 0), .int (nI 0), .int (nI 0), .int (nI 0), .int (nI 0), .int (nI 0)]))]) L T ) H.size) (cwI 1 hts (zg_I zw_486) rfl rfl rfl (hts _ zw_488) (hts _ zw_547) (hts _ zw_487) rfl (by decide +kernel) ⟨Nat.le_of_ble_eq_true rfl, Nat.le_of_ble_eq_true rfl⟩) (z_preS hK hZc hS hA hE) rfl rfl hl.1 rfl (lv_room (Nat.le_of_ble_eq_true rfl)) dX3_init_50 ⟨Nat.le_of_ble_eq_true rfl, Nat.le_of_ble_eq_true rfl⟩) hZc hS hA (fun  Y1 L1 T1 H locs hp hZ hS => ?_)
  obtain ⟨d_8, hp⟩ := hp
  cases hp
  have hZ : zP D vwCl A X [(th, .inr (5, [.ref q1, .ref q3, .ref q5, .null, .int (nI 0), .int (nI 0), .int (nI 0), .long 0, .int (nI 0), .int (nI 0), .int (nI 0), .int (nI 0), .int (nI 0), .int (nI 0), .int (nI 0), .int (nI 0), .int (nI 0), .int (nI 0)])), (q7, .inr (3, [.ref d_8, .int (nI 0), .int (nI 0), .int (nI 0), .int (nI 0), .int (nI 0)])), (d_8, .inl (K 2, 32, .inl (fun _ => 0)))] L T H := zP.back hZ
  have hZ : zP D vwCl A X [(th, .inr (5, [.ref q1, .ref q3, .ref q5, .null, .int (nI 0), .int (nI 0), .int (nI 0), .long 0, .int (nI 0), .int (nI 0), .int (nI 0), .int (nI 0), .int (nI 0), .int (nI 0), .int (nI 0), .int (nI 0), .int (nI 0), .int (nI 0)]))] L T H := zP.pick [0] [(th, .inr (5, [.ref q1, .ref q3, .ref q5, .null, .int (nI 0), .int (nI 0), .int (nI 0), .long 0, .int (nI 0), .int (nI 0), .int (nI 0), .int (nI 0), .int (nI 0), .int (nI 0), .int (nI 0), .int (nI 0), .int (nI 0), .int (nI 0)]))] hZ (by decide) rfl
  refine z_putF (own := RX3) (C := RX3) (TT := TX3) (N := 18) (ci := 5) (Ts := WR) (v := .ref q7) (ty := (.object "ShellPair$Bytes")) hx hb hts zin_wsX30 tyX3 tyX3_ok nmX3 hown hK hZ hS 0 rfl rfl 3 (by decide) (hts _ zw_551) (fun _ h9 => h9) rfl hin rfl (by decide +kernel) rfl rfl (Nat.le_of_ble_eq_true rfl) dX3_init_53 (fun H locs hZ hS => ?_)
  have hZ : zP D vwCl A X [(th, .inr (5, [.ref q1, .ref q3, .ref q5, .ref q7, .int (nI 0), .int (nI 0), .int (nI 0), .long 0, .int (nI 0), .int (nI 0), .int (nI 0), .int (nI 0), .int (nI 0), .int (nI 0), .int (nI 0), .int (nI 0), .int (nI 0), .int (nI 0)]))] L T H := hZ
  refine lv_aload_n hx hb dX3_init_56 rfl (lv_at hl 0 rfl) ?_
  refine lv_iconst (v := (-1)) hx hb dX3_init_57 (by decide +kernel) ?_
  refine z_put (own := RX3) (C := RX3) (TT := TX3) (N := 18) (ci := 5) (Ts := WR) (v := .int (-1)) (ty := .int) hx hb hts zin_wsX30 tyX3 tyX3_ok nmX3 hown hK hZ hS 0 rfl rfl 4 (by decide) (hts _ zw_552) (fun _ h9 => h9) rfl (by decide +kernel) rfl rfl (Nat.le_of_ble_eq_true rfl) dX3_init_58 (fun H locs hZ hS => ?_)
  have hZ : zP D vwCl A X [(th, .inr (5, [.ref q1, .ref q3, .ref q5, .ref q7, .int (-1), .int (nI 0), .int (nI 0), .long 0, .int (nI 0), .int (nI 0), .int (nI 0), .int (nI 0), .int (nI 0), .int (nI 0), .int (nI 0), .int (nI 0), .int (nI 0), .int (nI 0)]))] L T H := hZ
  exact z_vret hx hb hr hlocks hK hZ hS ⟨q1, q3, q5, q7, rfl⟩ (Nat.le_of_ble_eq_true rfl) (Nat.le_of_ble_eq_true rfl) dX3_init_61
abbrev ROOM_X11_init : Room := { frames := 3, cells := 260, slots := 1990, locals := 61 }
set_option maxHeartbeats 4000000 in
set_option maxRecDepth 100000 in
/-- Store() -/
theorem c_X11_init (E : zEn) (l : Launch) (D : va_G) (K : Nat → ClassId) (X : va_W) (L : List Nat) (T : Nat → va_E → Prop) {th : Nat}    : zV E l D vwCl (zT K) yX11_init (zws yX11_init cX11_init 2 none) ROOM_X11_init 260 1990 [.ref th] X [(th, .inr (12, [.null, .null, .int (nI 0), .null]))] L T (fun (u : zU) => ∃ (sn : Nat) (sc : Nat) (so : Nat), u = ([(th, .inr (12, [.ref sn, .ref sc, .int (nI 0), .ref so]))], L, T)) := by
  refine z_ofW (E := E) (Qc := fun A => va_Qv (fun (u : zU) => ∃ (sn : Nat) (sc : Nat) (so : Nat), u = ([(th, .inr (12, [.ref sn, .ref sc, .int (nI 0), .ref so]))], L, T)) (zB D vwCl (zT K) A X) A) (cc := cX11_init) (maxL := 2) (ret := none) (by decide +kernel) rfl (Nat.le_of_ble_eq_true rfl) ?_
  intro p e s m below meth c A ls hx hb hml hr hts hown hlocks hin hA hK hZ hS hE hl
  have hown : s.vm.findClass RX11 = some m.cls := hown
  have hts : ∀ w ∈ WR, w.before [.ref th].toArray s = true := fun w h => hts w (List.mem_cons_of_mem _ h)
  have hl : lv_has ls 2 [(0, .ref th)] := hl
  obtain ⟨H, hH⟩ : ∃ H, H = s.heap := ⟨_, rfl⟩
  have hZ : zP D vwCl A X [(th, .inr (12, [.null, .null, .int (nI 0), .null]))] L T H := by rw [hH]; exact hZ
  obtain ⟨locs, hlc⟩ : ∃ q : List Loc, q = [] := ⟨_, rfl⟩
  have hS : va_S A s.heap H locs := by rw [hH, hlc]; exact hS
  suffices hW : W p l e ROOM_X11_init s m [.ref th].toArray below meth c H locs 0 0 (MQ below (va_Qv (fun (u : zU) => ∃ (sn : Nat) (sc : Nat) (so : Nat), u = ([(th, .inr (12, [.ref sn, .ref sc, .int (nI 0), .ref so]))], L, T)) (zB D vwCl (zT K) A X) A) [.ref th].toArray s 260 1990 A) (F0 m 0 ls []) by rw [hH, hlc] at hW; exact hW
  clear hH hlc
  refine lv_aload_n hx hb dX11_init_0 rfl (lv_at hl 0 rfl) ?_
  refine W.objInit hx hb hown (hts _ zw_801) (hts _ zw_4) (hts _ zw_5) rfl (by rw [hml]; exact hl.1) rfl dX11_init_1 (Nat.le_of_ble_eq_true rfl) (Nat.le_of_ble_eq_true rfl) ?_
  refine lv_aload_n hx hb dX11_init_4 rfl (lv_at hl 0 rfl) ?_
  refine lv_bipush (v := nI 64) hx hb dX11_init_5 (by decide +kernel) ?_
  refine z_newQ (C := "ShellPair$Bytes") hx hb hown (hts _ zw_802) (zao hE (List.mem_of_getElem? (i := 0) rfl)) hK hZ hS hA 4 rfl (n := nI 64) (N := 64) (nI_pos (Nat.le_of_ble_eq_true rfl)) (nI_clamp (Nat.le_of_ble_eq_true rfl)) (Nat.le_of_ble_eq_true rfl) (Nat.le_of_ble_eq_true rfl) (Nat.le_of_ble_eq_true rfl) dX11_init_7 (fun q1 H hZ hS => ?_)
  have hZ : zP D vwCl A X [(th, .inr (12, [.null, .null, .int (nI 0), .null])), (q1, .inl (K 4, 64, .inr (.inr (.inr (.inr (fun _ => none))))))] L T H := hZ
  refine z_putF (own := RX11) (C := RX11) (TT := TX11) (N := 4) (ci := 12) (Ts := WR) (v := .ref q1) (ty := (.array (.object "ShellPair$Bytes"))) hx hb hts zin_wsX110 tyX11 tyX11_ok nmX11 hown hK hZ hS 0 rfl rfl 0 (by decide) (hts _ zw_803) (fun _ h9 => h9) rfl hin rfl (by decide +kernel) rfl rfl (Nat.le_of_ble_eq_true rfl) dX11_init_10 (fun H locs hZ hS => ?_)
  have hZ : zP D vwCl A X [(th, .inr (12, [.ref q1, .null, .int (nI 0), .null])), (q1, .inl (K 4, 64, .inr (.inr (.inr (.inr (fun _ => none))))))] L T H := hZ
  refine lv_aload_n hx hb dX11_init_13 rfl (lv_at hl 0 rfl) ?_
  refine lv_bipush (v := nI 64) hx hb dX11_init_14 (by decide +kernel) ?_
  refine z_newQ (C := "ShellPair$Bytes") hx hb hown (hts _ zw_802) (zao hE (List.mem_of_getElem? (i := 0) rfl)) hK hZ hS hA 4 rfl (n := nI 64) (N := 64) (nI_pos (Nat.le_of_ble_eq_true rfl)) (nI_clamp (Nat.le_of_ble_eq_true rfl)) (Nat.le_of_ble_eq_true rfl) (Nat.le_of_ble_eq_true rfl) (Nat.le_of_ble_eq_true rfl) dX11_init_16 (fun q2 H hZ hS => ?_)
  have hZ : zP D vwCl A X [(th, .inr (12, [.ref q1, .null, .int (nI 0), .null])), (q1, .inl (K 4, 64, .inr (.inr (.inr (.inr (fun _ => none)))))), (q2, .inl (K 4, 64, .inr (.inr (.inr (.inr (fun _ => none))))))] L T H := hZ
  refine z_putF (own := RX11) (C := RX11) (TT := TX11) (N := 4) (ci := 12) (Ts := WR) (v := .ref q2) (ty := (.array (.object "ShellPair$Bytes"))) hx hb hts zin_wsX110 tyX11 tyX11_ok nmX11 hown hK hZ hS 0 rfl rfl 1 (by decide) (hts _ zw_804) (fun _ h9 => h9) rfl hin rfl (by decide +kernel) rfl rfl (Nat.le_of_ble_eq_true rfl) dX11_init_19 (fun H locs hZ hS => ?_)
  have hZ : zP D vwCl A X [(th, .inr (12, [.ref q1, .ref q2, .int (nI 0), .null])), (q1, .inl (K 4, 64, .inr (.inr (.inr (.inr (fun _ => none)))))), (q2, .inl (K 4, 64, .inr (.inr (.inr (.inr (fun _ => none))))))] L T H := hZ
  refine lv_aload_n hx hb dX11_init_22 rfl (lv_at hl 0 rfl) ?_
  refine z_new (own := RX11) (C := RX1) (TT := TX1) (N := 6) (ci := 3) (Ts := WR) (fs := [.null, .int (nI 0), .int (nI 0), .int (nI 0), .int (nI 0), .int (nI 0)]) hx hb hts zin_wsX10 tyX1 tyX1_ok hown (hts _ zw_802) (hts _ zw_546) (hts _ zw_488) hK hZ hS hA rfl (by decide +kernel) (Nat.le_of_ble_eq_true rfl) (Nat.le_of_ble_eq_true rfl) dX11_init_23 (fun q3 H hZ hS => ?_)
  have hZ : zP D vwCl A X [(th, .inr (12, [.ref q1, .ref q2, .int (nI 0), .null])), (q1, .inl (K 4, 64, .inr (.inr (.inr (.inr (fun _ => none)))))), (q2, .inl (K 4, 64, .inr (.inr (.inr (.inr (fun _ => none)))))), (q3, .inr (3, [.null, .int (nI 0), .int (nI 0), .int (nI 0), .int (nI 0), .int (nI 0)]))] L T H := hZ
  refine lv_dup hx hb dX11_init_26 rfl ?_
  refine lv_bipush (v := nI 64) hx hb dX11_init_27 (by decide +kernel) ?_
  have hZc := zP.into (Y1 := [(th, .inr (12, [.ref q1, .ref q2, .int (nI 0), .null])), (q1, .inl (K 4, 64, .inr (.inr (.inr (.inr (fun _ => none)))))), (q2, .inl (K 4, 64, .inr (.inr (.inr (.inr (fun _ => none))))))]) (Y2 := [(q3, .inr (3, [.null, .int (nI 0), .int (nI 0), .int (nI 0), .int (nI 0), .int (nI 0)]))]) hZ
  refine z_goV (va_runI (As := [.int (nI 64)]) (rest := [.ref q3, .ref th]) ⟨hx, hb, hml, hown, hts⟩ ((c_X1_init_r64 E l D K (X ++ [(th, .inr (12, [.ref q1, .ref q2, .int (nI 0), .null])), (q1, .inl (K 4, 64, .inr (.inr (.inr (.inr (fun _ => none)))))), (q2, .inl (K 4, 64, .inr (.inr (.inr (.inr (fun _ => none))))))]) L T ) H.size) (cwI 1 hts (zg_I zw_486) rfl rfl rfl (hts _ zw_488) (hts _ zw_805) (hts _ zw_487) rfl (by decide +kernel) ⟨Nat.le_of_ble_eq_true rfl, Nat.le_of_ble_eq_true rfl⟩) (z_preS hK hZc hS hA hE) rfl rfl hl.1 rfl (lv_room (Nat.le_of_ble_eq_true rfl)) dX11_init_29 ⟨Nat.le_of_ble_eq_true rfl, Nat.le_of_ble_eq_true rfl⟩) hZc hS hA (fun  Y1 L1 T1 H locs hp hZ hS => ?_)
  obtain ⟨d_4, hp⟩ := hp
  cases hp
  have hZ : zP D vwCl A X [(th, .inr (12, [.ref q1, .ref q2, .int (nI 0), .null])), (q1, .inl (K 4, 64, .inr (.inr (.inr (.inr (fun _ => none)))))), (q2, .inl (K 4, 64, .inr (.inr (.inr (.inr (fun _ => none)))))), (q3, .inr (3, [.ref d_4, .int (nI 0), .int (nI 0), .int (nI 0), .int (nI 0), .int (nI 0)])), (d_4, .inl (K 2, 64, .inl (fun _ => 0)))] L T H := zP.back hZ
  have hZ : zP D vwCl A X [(th, .inr (12, [.ref q1, .ref q2, .int (nI 0), .null])), (q1, .inl (K 4, 64, .inr (.inr (.inr (.inr (fun _ => none)))))), (q2, .inl (K 4, 64, .inr (.inr (.inr (.inr (fun _ => none))))))] L T H := zP.pick [0, 1, 2] [(th, .inr (12, [.ref q1, .ref q2, .int (nI 0), .null])), (q1, .inl (K 4, 64, .inr (.inr (.inr (.inr (fun _ => none)))))), (q2, .inl (K 4, 64, .inr (.inr (.inr (.inr (fun _ => none))))))] hZ (by decide) rfl
  refine z_putF (own := RX11) (C := RX11) (TT := TX11) (N := 4) (ci := 12) (Ts := WR) (v := .ref q3) (ty := (.object "ShellPair$Bytes")) hx hb hts zin_wsX110 tyX11 tyX11_ok nmX11 hown hK hZ hS 0 rfl rfl 3 (by decide) (hts _ zw_806) (fun _ h9 => h9) rfl hin rfl (by decide +kernel) rfl rfl (Nat.le_of_ble_eq_true rfl) dX11_init_32 (fun H locs hZ hS => ?_)
  have hZ : zP D vwCl A X [(th, .inr (12, [.ref q1, .ref q2, .int (nI 0), .ref q3])), (q1, .inl (K 4, 64, .inr (.inr (.inr (.inr (fun _ => none)))))), (q2, .inl (K 4, 64, .inr (.inr (.inr (.inr (fun _ => none))))))] L T H := hZ
  refine lv_iconst (v := nI 0) hx hb dX11_init_35 (by decide +kernel) ?_
  refine lv_istore_n (lv' := [(1, .int (nI 0)), (0, .ref th)]) hx hb dX11_init_36 rfl hl (by decide) rfl (fun ls hl => ?_)
  have L37_ : ∀ (n9 i37 : Nat), i37 ≤ 64 → 64 + 1 ≤ i37 + n9 → ∀  (gN : Nat → Option Nat) (gC : Nat → Option Nat) (H : Heap) (locs : List Loc) (ls : Array Slot), zP D vwCl A X [(th, .inr (12, [.ref q1, .ref q2, .int (nI 0), .ref q3])), (q1, .inl (K 4, 64, .inr (.inr (.inr (.inr gN))))), (q2, .inl (K 4, 64, .inr (.inr (.inr (.inr gC)))))] L T H → va_S A s.heap H locs → lv_has ls 2 [(1, .int (nI i37)), (0, .ref th)] → W p l e ROOM_X11_init s m [.ref th].toArray below meth c H locs (4 + 4 * i37) (198 + 28 * i37) (MQ below (va_Qv (fun (u : zU) => ∃ (sn : Nat) (sc : Nat) (so : Nat), u = ([(th, .inr (12, [.ref sn, .ref sc, .int (nI 0), .ref so]))], L, T)) (zB D vwCl (zT K) A X) A) [.ref th].toArray s 260 1990 A) (F0 m 37 ls []) := by
    intro n9
    induction n9 with
    | zero => intro i37 u37 w37; exact absurd w37 (by omega)
    | succ n9 ih37 =>
      intro i37 u37 w37 gN gC H locs ls hZ hS hl 
      refine lv_iload_n hx hb dX11_init_37 rfl (lv_at hl 0 rfl) ?_
      refine lv_bipush (v := nI 64) hx hb dX11_init_38 (by decide +kernel) ?_
      show W p l e ROOM_X11_init s m [.ref th].toArray below meth c H locs (4 + 4 * i37) (198 + 28 * i37) (MQ below (va_Qv (fun (u : zU) => ∃ (sn : Nat) (sc : Nat) (so : Nat), u = ([(th, .inr (12, [.ref sn, .ref sc, .int (nI 0), .ref so]))], L, T)) (zB D vwCl (zT K) A X) A) [.ref th].toArray s 260 1990 A) (F0 m 40 ls [.int (nI 64), .int (nI i37)])
      refine lv_icmp_ge (tgt := 79) hx hb dX11_init_40 (by decide) (fun c40 => ?_) (fun c40 => ?_)
      · have e40 : 64 ≤ i37 := (nI_leI (a := 64) (b := i37) (by omega) (by omega)).mp c40
        have hZ : zP D vwCl A X [(th, .inr (12, [.ref q1, .ref q2, .int (nI 0), .ref q3]))] L T H := zP.pick [0] [(th, .inr (12, [.ref q1, .ref q2, .int (nI 0), .ref q3]))] hZ (by decide) rfl
        exact z_vret hx hb hr hlocks hK hZ hS ⟨q1, q2, q3, rfl⟩ (Nat.le_trans (m := 260) (by omega) (Nat.le_of_ble_eq_true rfl)) (Nat.le_trans (m := 1990) (by omega) (Nat.le_of_ble_eq_true rfl)) dX11_init_79
      · have e40 : ¬ 64 ≤ i37 := fun q => c40 ((nI_leI (a := 64) (b := i37) (by omega) (by omega)).mpr q)
        refine lv_aload_n hx hb dX11_init_43 rfl (lv_at hl 1 rfl) ?_
        refine z_getY (own := RX11) (C := RX11) (TT := TX11) (N := 4) (ci := 12) (Ts := WR) hx hb hts zin_wsX110 hown hK hZ 0 rfl rfl 0 (by decide) (hts _ zw_803) (fun _ h9 => h9) rfl dX11_init_44 ?_
        refine lv_iload_n hx hb dX11_init_47 rfl (lv_at hl 0 rfl) ?_
        refine z_new (own := RX11) (C := RX1) (TT := TX1) (N := 6) (ci := 3) (Ts := WR) (fs := [.null, .int (nI 0), .int (nI 0), .int (nI 0), .int (nI 0), .int (nI 0)]) hx hb hts zin_wsX10 tyX1 tyX1_ok hown (hts _ zw_802) (hts _ zw_546) (hts _ zw_488) hK hZ hS hA rfl (by decide +kernel) (Nat.le_trans (m := 260) (by omega) (Nat.le_of_ble_eq_true rfl)) (Nat.le_trans (m := 1990) (by omega) (Nat.le_of_ble_eq_true rfl)) dX11_init_48 (fun q5 H hZ hS => ?_)
        have hZ : zP D vwCl A X [(th, .inr (12, [.ref q1, .ref q2, .int (nI 0), .ref q3])), (q1, .inl (K 4, 64, .inr (.inr (.inr (.inr gN))))), (q2, .inl (K 4, 64, .inr (.inr (.inr (.inr gC))))), (q5, .inr (3, [.null, .int (nI 0), .int (nI 0), .int (nI 0), .int (nI 0), .int (nI 0)]))] L T H := hZ
        refine lv_dup hx hb dX11_init_51 rfl ?_
        refine lv_bipush (v := nI 8) hx hb dX11_init_52 (by decide +kernel) ?_
        have hZc := zP.into (Y1 := [(th, .inr (12, [.ref q1, .ref q2, .int (nI 0), .ref q3])), (q1, .inl (K 4, 64, .inr (.inr (.inr (.inr gN))))), (q2, .inl (K 4, 64, .inr (.inr (.inr (.inr gC)))))]) (Y2 := [(q5, .inr (3, [.null, .int (nI 0), .int (nI 0), .int (nI 0), .int (nI 0), .int (nI 0)]))]) hZ
        refine z_goV (va_runI (As := [.int (nI 8)]) (rest := [.ref q5, .int (nI i37), .ref q1]) ⟨hx, hb, hml, hown, hts⟩ ((c_X1_init_r8 E l D K (X ++ [(th, .inr (12, [.ref q1, .ref q2, .int (nI 0), .ref q3])), (q1, .inl (K 4, 64, .inr (.inr (.inr (.inr gN))))), (q2, .inl (K 4, 64, .inr (.inr (.inr (.inr gC)))))]) L T ) H.size) (cwI 1 hts (zg_I zw_486) rfl rfl rfl (hts _ zw_488) (hts _ zw_805) (hts _ zw_487) rfl (by decide +kernel) ⟨Nat.le_of_ble_eq_true rfl, Nat.le_of_ble_eq_true rfl⟩) (z_preS hK hZc hS hA hE) rfl rfl hl.1 rfl (lv_room (Nat.le_of_ble_eq_true rfl)) dX11_init_54 ⟨(Nat.le_trans (m := 260) (by omega) (Nat.le_of_ble_eq_true rfl)), (Nat.le_trans (m := 1990) (by omega) (Nat.le_of_ble_eq_true rfl))⟩) hZc hS hA (fun  Y1 L1 T1 H locs hp hZ hS => ?_)
        obtain ⟨d_6, hp⟩ := hp
        cases hp
        have hZ : zP D vwCl A X [(th, .inr (12, [.ref q1, .ref q2, .int (nI 0), .ref q3])), (q1, .inl (K 4, 64, .inr (.inr (.inr (.inr gN))))), (q2, .inl (K 4, 64, .inr (.inr (.inr (.inr gC))))), (q5, .inr (3, [.ref d_6, .int (nI 0), .int (nI 0), .int (nI 0), .int (nI 0), .int (nI 0)])), (d_6, .inl (K 2, 8, .inl (fun _ => 0)))] L T H := zP.back hZ
        refine z_astqY hx hb hK hZ hS 4 1 3 3 rfl rfl rfl rfl (vp_in_nI (by omega) (by omega)) dX11_init_57 (fun H locs hZ hS => ?_)
        have hZ : zP D vwCl A X [(th, .inr (12, [.ref q1, .ref q2, .int (nI 0), .ref q3])), (q1, .inl (K 4, 64, .inr (.inr (.inr (.inr (va_up gN (nI i37).toNatClampNeg (some q5))))))), (q2, .inl (K 4, 64, .inr (.inr (.inr (.inr gC))))), (q5, .inr (3, [.ref d_6, .int (nI 0), .int (nI 0), .int (nI 0), .int (nI 0), .int (nI 0)])), (d_6, .inl (K 2, 8, .inl (fun _ => 0)))] L T H := hZ
        have hZ : zP D vwCl A X [(th, .inr (12, [.ref q1, .ref q2, .int (nI 0), .ref q3])), (q1, .inl (K 4, 64, .inr (.inr (.inr (.inr (va_up gN (nI i37).toNatClampNeg (some q5))))))), (q2, .inl (K 4, 64, .inr (.inr (.inr (.inr gC)))))] L T H := zP.pick [0, 1, 2] [(th, .inr (12, [.ref q1, .ref q2, .int (nI 0), .ref q3])), (q1, .inl (K 4, 64, .inr (.inr (.inr (.inr (va_up gN (nI i37).toNatClampNeg (some q5))))))), (q2, .inl (K 4, 64, .inr (.inr (.inr (.inr gC)))))] hZ (by decide) rfl
        refine lv_aload_n hx hb dX11_init_58 rfl (lv_at hl 1 rfl) ?_
        refine z_getY (own := RX11) (C := RX11) (TT := TX11) (N := 4) (ci := 12) (Ts := WR) hx hb hts zin_wsX110 hown hK hZ 0 rfl rfl 1 (by decide) (hts _ zw_804) (fun _ h9 => h9) rfl dX11_init_59 ?_
        refine lv_iload_n hx hb dX11_init_62 rfl (lv_at hl 0 rfl) ?_
        refine z_new (own := RX11) (C := RX1) (TT := TX1) (N := 6) (ci := 3) (Ts := WR) (fs := [.null, .int (nI 0), .int (nI 0), .int (nI 0), .int (nI 0), .int (nI 0)]) hx hb hts zin_wsX10 tyX1 tyX1_ok hown (hts _ zw_802) (hts _ zw_546) (hts _ zw_488) hK hZ hS hA rfl (by decide +kernel) (Nat.le_trans (m := 260) (by omega) (Nat.le_of_ble_eq_true rfl)) (Nat.le_trans (m := 1990) (by omega) (Nat.le_of_ble_eq_true rfl)) dX11_init_63 (fun q7 H hZ hS => ?_)
        have hZ : zP D vwCl A X [(th, .inr (12, [.ref q1, .ref q2, .int (nI 0), .ref q3])), (q1, .inl (K 4, 64, .inr (.inr (.inr (.inr (va_up gN (nI i37).toNatClampNeg (some q5))))))), (q2, .inl (K 4, 64, .inr (.inr (.inr (.inr gC))))), (q7, .inr (3, [.null, .int (nI 0), .int (nI 0), .int (nI 0), .int (nI 0), .int (nI 0)]))] L T H := hZ
        refine lv_dup hx hb dX11_init_66 rfl ?_
        refine lv_bipush (v := nI 8) hx hb dX11_init_67 (by decide +kernel) ?_
        have hZc := zP.into (Y1 := [(th, .inr (12, [.ref q1, .ref q2, .int (nI 0), .ref q3])), (q1, .inl (K 4, 64, .inr (.inr (.inr (.inr (va_up gN (nI i37).toNatClampNeg (some q5))))))), (q2, .inl (K 4, 64, .inr (.inr (.inr (.inr gC)))))]) (Y2 := [(q7, .inr (3, [.null, .int (nI 0), .int (nI 0), .int (nI 0), .int (nI 0), .int (nI 0)]))]) hZ
        refine z_goV (va_runI (As := [.int (nI 8)]) (rest := [.ref q7, .int (nI i37), .ref q2]) ⟨hx, hb, hml, hown, hts⟩ ((c_X1_init_r8 E l D K (X ++ [(th, .inr (12, [.ref q1, .ref q2, .int (nI 0), .ref q3])), (q1, .inl (K 4, 64, .inr (.inr (.inr (.inr (va_up gN (nI i37).toNatClampNeg (some q5))))))), (q2, .inl (K 4, 64, .inr (.inr (.inr (.inr gC)))))]) L T ) H.size) (cwI 1 hts (zg_I zw_486) rfl rfl rfl (hts _ zw_488) (hts _ zw_805) (hts _ zw_487) rfl (by decide +kernel) ⟨Nat.le_of_ble_eq_true rfl, Nat.le_of_ble_eq_true rfl⟩) (z_preS hK hZc hS hA hE) rfl rfl hl.1 rfl (lv_room (Nat.le_of_ble_eq_true rfl)) dX11_init_69 ⟨(Nat.le_trans (m := 260) (by omega) (Nat.le_of_ble_eq_true rfl)), (Nat.le_trans (m := 1990) (by omega) (Nat.le_of_ble_eq_true rfl))⟩) hZc hS hA (fun  Y1 L1 T1 H locs hp hZ hS => ?_)
        obtain ⟨d_8, hp⟩ := hp
        cases hp
        have hZ : zP D vwCl A X [(th, .inr (12, [.ref q1, .ref q2, .int (nI 0), .ref q3])), (q1, .inl (K 4, 64, .inr (.inr (.inr (.inr (va_up gN (nI i37).toNatClampNeg (some q5))))))), (q2, .inl (K 4, 64, .inr (.inr (.inr (.inr gC))))), (q7, .inr (3, [.ref d_8, .int (nI 0), .int (nI 0), .int (nI 0), .int (nI 0), .int (nI 0)])), (d_8, .inl (K 2, 8, .inl (fun _ => 0)))] L T H := zP.back hZ
        refine z_astqY hx hb hK hZ hS 4 2 3 3 rfl rfl rfl rfl (vp_in_nI (by omega) (by omega)) dX11_init_72 (fun H locs hZ hS => ?_)
        have hZ : zP D vwCl A X [(th, .inr (12, [.ref q1, .ref q2, .int (nI 0), .ref q3])), (q1, .inl (K 4, 64, .inr (.inr (.inr (.inr (va_up gN (nI i37).toNatClampNeg (some q5))))))), (q2, .inl (K 4, 64, .inr (.inr (.inr (.inr (va_up gC (nI i37).toNatClampNeg (some q7))))))), (q7, .inr (3, [.ref d_8, .int (nI 0), .int (nI 0), .int (nI 0), .int (nI 0), .int (nI 0)])), (d_8, .inl (K 2, 8, .inl (fun _ => 0)))] L T H := hZ
        have hZ : zP D vwCl A X [(th, .inr (12, [.ref q1, .ref q2, .int (nI 0), .ref q3])), (q1, .inl (K 4, 64, .inr (.inr (.inr (.inr (va_up gN (nI i37).toNatClampNeg (some q5))))))), (q2, .inl (K 4, 64, .inr (.inr (.inr (.inr (va_up gC (nI i37).toNatClampNeg (some q7)))))))] L T H := zP.pick [0, 1, 2] [(th, .inr (12, [.ref q1, .ref q2, .int (nI 0), .ref q3])), (q1, .inl (K 4, 64, .inr (.inr (.inr (.inr (va_up gN (nI i37).toNatClampNeg (some q5))))))), (q2, .inl (K 4, 64, .inr (.inr (.inr (.inr (va_up gC (nI i37).toNatClampNeg (some q7)))))))] hZ (by decide) rfl
        refine lv_iinc (v := nI (i37 + 1)) (lv' := [(1, .int (nI (i37 + 1))), (0, .ref th)]) hx hb dX11_init_73 hl (k := 0) rfl (nI_add i37 1) (by decide) rfl (fun ls hl => ?_)
        show W p l e ROOM_X11_init s m [.ref th].toArray below meth c H locs (4 + 4 * i37 + 1 + 1 + 1 + 1) (198 + 28 * i37 + 6 + 8 + 6 + 8) (MQ below (va_Qv (fun (u : zU) => ∃ (sn : Nat) (sc : Nat) (so : Nat), u = ([(th, .inr (12, [.ref sn, .ref sc, .int (nI 0), .ref so]))], L, T)) (zB D vwCl (zT K) A X) A) [.ref th].toArray s 260 1990 A) (F0 m 76 ls [])
        refine lv_goto (tgt := 37) hx hb dX11_init_76 (by decide) ?_
        refine W.widen (k := 4 + 4 * (i37 + 1)) (n := 198 + 28 * (i37 + 1)) (by omega) (by omega) ?_
        exact ih37 (i37 + 1) (by omega) (by omega)  (va_up gN (nI i37).toNatClampNeg (some q5)) (va_up gC (nI i37).toNatClampNeg (some q7)) _ _ _ hZ hS (lv_sub hl [0, 1] rfl) 
  refine W.widen (k := 4 + 4 * 0) (n := 198 + 28 * 0) (by first | omega | exact Nat.le_of_ble_eq_true rfl) (by first | omega | exact Nat.le_of_ble_eq_true rfl) ?_
  exact L37_ (64 + 1) 0 (by omega) (by omega)  (fun _ => none) (fun _ => none) _ _ _ hZ hS (lv_sub hl [0, 1] rfl) 
end ZCT

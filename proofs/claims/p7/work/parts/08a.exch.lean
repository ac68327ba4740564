section ZEXC
abbrev ROOM_X7_cipherNames : Room := { frames := 1, cells := 0, slots := 0, locals := 0 }
set_option maxHeartbeats 4000000 in
set_option maxRecDepth 100000 in
/-- cipherNames -/
theorem c_X7_cipherNames (E : zEn) (l : Launch) (D : va_G) (K : Nat → ClassId) (X Y : va_W) (L : List Nat) (T : Nat → va_E → Prop) {dg : Int32}   (hSt : zSt E) : zVq E l D vwCl (zT K) yX7_cipherNames (zws yX7_cipherNames cX7_cipherNames 1 (some (.object "java/lang/String"))) ROOM_X7_cipherNames 0 0 [.int dg] X Y L T (fun (r : Option Nat) (u : zU) => (∃ (q9 v9 n9 : Nat), r = some q9 ∧ (q9, v9, n9) ∈ E.2.2.2 ∧ n9 ≤ 21) ∧ u = (Y, L, T)) := by
  refine z_ofW (E := E) (Qc := fun A => va_Qq (fun (r : Option Nat) (u : zU) => (∃ (q9 v9 n9 : Nat), r = some q9 ∧ (q9, v9, n9) ∈ E.2.2.2 ∧ n9 ≤ 21) ∧ u = (Y, L, T)) (zB D vwCl (zT K) A X) A) (cc := cX7_cipherNames) (maxL := 1) (ret := (some (.object "java/lang/String"))) (by decide +kernel) rfl (Nat.le_of_ble_eq_true rfl) ?_
  intro p e s m below meth c A ls hx hb hml hr hts hown hlocks hin hA hK hZ hS hE hl
  have hown : s.vm.findClass RX7 = some m.cls := hown
  have hts : ∀ w ∈ WR, w.before [.int dg].toArray s = true := fun w h => hts w (List.mem_cons_of_mem _ h)
  have hl : lv_has ls 1 [(0, .int dg)] := hl
  obtain ⟨H, hH⟩ : ∃ H, H = s.heap := ⟨_, rfl⟩
  have hZ : zP D vwCl A X Y L T H := by rw [hH]; exact hZ
  obtain ⟨locs, hlc⟩ : ∃ q : List Loc, q = [] := ⟨_, rfl⟩
  have hS : va_S A s.heap H locs := by rw [hH, hlc]; exact hS
  suffices hW : W p l e ROOM_X7_cipherNames s m [.int dg].toArray below meth c H locs 0 0 (MQ below (va_Qq (fun (r : Option Nat) (u : zU) => (∃ (q9 v9 n9 : Nat), r = some q9 ∧ (q9, v9, n9) ∈ E.2.2.2 ∧ n9 ≤ 21) ∧ u = (Y, L, T)) (zB D vwCl (zT K) A X) A) [.int dg].toArray s 0 0 A) (F0 m 0 ls []) by rw [hH, hlc] at hW; exact hW
  clear hH hlc
  refine lv_iload_n hx hb dX7_cipherNames_0 rfl (lv_at hl 0 rfl) ?_
  by_cases sw1 : dg = nI 1
  · refine lv_lookup (off := 35) (tgt := 36) hx hb dX7_cipherNames_1 (by decide +kernel) (by (try rw [sw1]) <;> decide +kernel) (by decide) ?_
    have is1 : dg.toInt = 1 := (by (try rw [sw1]) <;> decide +kernel)
    obtain ⟨q1, v_q1, r_q1, h_q1⟩ := hSt RX7 115 10 "aes128-ctr" (zstr_RX7_115)
    refine z_ldcS hx hb hown hE r_q1 dX7_cipherNames_36 ?_
    exact z_aret (r := (some q1)) hx hb hr (Or.inl ⟨_, rfl⟩) hlocks hK hZ hS ⟨⟨_, _, _, rfl, h_q1, by decide⟩, rfl⟩ (Nat.le_of_ble_eq_true rfl) (Nat.le_of_ble_eq_true rfl) dX7_cipherNames_38
  by_cases sw2 : dg = nI 2
  · refine lv_lookup (off := 38) (tgt := 39) hx hb dX7_cipherNames_1 (by decide +kernel) (by (try rw [sw2]) <;> decide +kernel) (by decide) ?_
    have is2 : dg.toInt = 2 := (by (try rw [sw2]) <;> decide +kernel)
    obtain ⟨q2, v_q2, r_q2, h_q2⟩ := hSt RX7 117 10 "aes256-ctr" (zstr_RX7_117)
    refine z_ldcS hx hb hown hE r_q2 dX7_cipherNames_39 ?_
    exact z_aret (r := (some q2)) hx hb hr (Or.inl ⟨_, rfl⟩) hlocks hK hZ hS ⟨⟨_, _, _, rfl, h_q2, by decide⟩, rfl⟩ (Nat.le_of_ble_eq_true rfl) (Nat.le_of_ble_eq_true rfl) dX7_cipherNames_41
  by_cases sw12 : dg = nI 12
  · refine lv_lookup (off := 41) (tgt := 42) hx hb dX7_cipherNames_1 (by decide +kernel) (by (try rw [sw12]) <;> decide +kernel) (by decide) ?_
    have is12 : dg.toInt = 12 := (by (try rw [sw12]) <;> decide +kernel)
    obtain ⟨q3, v_q3, r_q3, h_q3⟩ := hSt RX7 119 21 "aes128-ctr,aes256-ctr" (zstr_RX7_119)
    refine z_ldcS hx hb hown hE r_q3 dX7_cipherNames_42 ?_
    exact z_aret (r := (some q3)) hx hb hr (Or.inl ⟨_, rfl⟩) hlocks hK hZ hS ⟨⟨_, _, _, rfl, h_q3, by decide⟩, rfl⟩ (Nat.le_of_ble_eq_true rfl) (Nat.le_of_ble_eq_true rfl) dX7_cipherNames_44
  have is1 : dg.toInt ≠ 1 := fun q => sw1 (Int32.toInt_inj.mp (q.trans (by decide +kernel)))
  have is2 : dg.toInt ≠ 2 := fun q => sw2 (Int32.toInt_inj.mp (q.trans (by decide +kernel)))
  have is12 : dg.toInt ≠ 12 := fun q => sw12 (Int32.toInt_inj.mp (q.trans (by decide +kernel)))
  refine lv_lookup (off := 44) (tgt := 45) hx hb dX7_cipherNames_1 (by decide +kernel) (zlk3 is1 is2 is12) (by decide) ?_
  obtain ⟨q4, v_q4, r_q4, h_q4⟩ := hSt RX7 121 21 "aes256-ctr,aes128-ctr" (zstr_RX7_121)
  refine z_ldcS hx hb hown hE r_q4 dX7_cipherNames_45 ?_
  exact z_aret (r := (some q4)) hx hb hr (Or.inl ⟨_, rfl⟩) hlocks hK hZ hS ⟨⟨_, _, _, rfl, h_q4, by decide⟩, rfl⟩ (Nat.le_of_ble_eq_true rfl) (Nat.le_of_ble_eq_true rfl) dX7_cipherNames_47
abbrev ROOM_X7_macNames : Room := { frames := 1, cells := 0, slots := 0, locals := 0 }
set_option maxHeartbeats 4000000 in
set_option maxRecDepth 100000 in
/-- macNames -/
theorem c_X7_macNames (E : zEn) (l : Launch) (D : va_G) (K : Nat → ClassId) (X Y : va_W) (L : List Nat) (T : Nat → va_E → Prop) {dg : Int32}   (hSt : zSt E) : zVq E l D vwCl (zT K) yX7_macNames (zws yX7_macNames cX7_macNames 1 (some (.object "java/lang/String"))) ROOM_X7_macNames 0 0 [.int dg] X Y L T (fun (r : Option Nat) (u : zU) => (∃ (q9 v9 n9 : Nat), r = some q9 ∧ (q9, v9, n9) ∈ E.2.2.2 ∧ n9 ≤ 43) ∧ u = (Y, L, T)) := by
  refine z_ofW (E := E) (Qc := fun A => va_Qq (fun (r : Option Nat) (u : zU) => (∃ (q9 v9 n9 : Nat), r = some q9 ∧ (q9, v9, n9) ∈ E.2.2.2 ∧ n9 ≤ 43) ∧ u = (Y, L, T)) (zB D vwCl (zT K) A X) A) (cc := cX7_macNames) (maxL := 1) (ret := (some (.object "java/lang/String"))) (by decide +kernel) rfl (Nat.le_of_ble_eq_true rfl) ?_
  intro p e s m below meth c A ls hx hb hml hr hts hown hlocks hin hA hK hZ hS hE hl
  have hown : s.vm.findClass RX7 = some m.cls := hown
  have hts : ∀ w ∈ WR, w.before [.int dg].toArray s = true := fun w h => hts w (List.mem_cons_of_mem _ h)
  have hl : lv_has ls 1 [(0, .int dg)] := hl
  obtain ⟨H, hH⟩ : ∃ H, H = s.heap := ⟨_, rfl⟩
  have hZ : zP D vwCl A X Y L T H := by rw [hH]; exact hZ
  obtain ⟨locs, hlc⟩ : ∃ q : List Loc, q = [] := ⟨_, rfl⟩
  have hS : va_S A s.heap H locs := by rw [hH, hlc]; exact hS
  suffices hW : W p l e ROOM_X7_macNames s m [.int dg].toArray below meth c H locs 0 0 (MQ below (va_Qq (fun (r : Option Nat) (u : zU) => (∃ (q9 v9 n9 : Nat), r = some q9 ∧ (q9, v9, n9) ∈ E.2.2.2 ∧ n9 ≤ 43) ∧ u = (Y, L, T)) (zB D vwCl (zT K) A X) A) [.int dg].toArray s 0 0 A) (F0 m 0 ls []) by rw [hH, hlc] at hW; exact hW
  clear hH hlc
  refine lv_iload_n hx hb dX7_macNames_0 rfl (lv_at hl 0 rfl) ?_
  by_cases sw1 : dg = nI 1
  · refine lv_lookup (off := 35) (tgt := 36) hx hb dX7_macNames_1 (by decide +kernel) (by (try rw [sw1]) <;> decide +kernel) (by decide) ?_
    have is1 : dg.toInt = 1 := (by (try rw [sw1]) <;> decide +kernel)
    obtain ⟨q1, v_q1, r_q1, h_q1⟩ := hSt RX7 123 13 "hmac-sha2-256" (zstr_RX7_123)
    refine z_ldcS hx hb hown hE r_q1 dX7_macNames_36 ?_
    exact z_aret (r := (some q1)) hx hb hr (Or.inl ⟨_, rfl⟩) hlocks hK hZ hS ⟨⟨_, _, _, rfl, h_q1, by decide⟩, rfl⟩ (Nat.le_of_ble_eq_true rfl) (Nat.le_of_ble_eq_true rfl) dX7_macNames_38
  by_cases sw2 : dg = nI 2
  · refine lv_lookup (off := 38) (tgt := 39) hx hb dX7_macNames_1 (by decide +kernel) (by (try rw [sw2]) <;> decide +kernel) (by decide) ?_
    have is2 : dg.toInt = 2 := (by (try rw [sw2]) <;> decide +kernel)
    obtain ⟨q2, v_q2, r_q2, h_q2⟩ := hSt RX7 125 29 "hmac-sha2-256-etm@openssh.com" (zstr_RX7_125)
    refine z_ldcS hx hb hown hE r_q2 dX7_macNames_39 ?_
    exact z_aret (r := (some q2)) hx hb hr (Or.inl ⟨_, rfl⟩) hlocks hK hZ hS ⟨⟨_, _, _, rfl, h_q2, by decide⟩, rfl⟩ (Nat.le_of_ble_eq_true rfl) (Nat.le_of_ble_eq_true rfl) dX7_macNames_41
  by_cases sw12 : dg = nI 12
  · refine lv_lookup (off := 41) (tgt := 42) hx hb dX7_macNames_1 (by decide +kernel) (by (try rw [sw12]) <;> decide +kernel) (by decide) ?_
    have is12 : dg.toInt = 12 := (by (try rw [sw12]) <;> decide +kernel)
    obtain ⟨q3, v_q3, r_q3, h_q3⟩ := hSt RX7 127 43 "hmac-sha2-256,hmac-sha2-256-etm@openssh.com" (zstr_RX7_127)
    refine z_ldcS hx hb hown hE r_q3 dX7_macNames_42 ?_
    exact z_aret (r := (some q3)) hx hb hr (Or.inl ⟨_, rfl⟩) hlocks hK hZ hS ⟨⟨_, _, _, rfl, h_q3, by decide⟩, rfl⟩ (Nat.le_of_ble_eq_true rfl) (Nat.le_of_ble_eq_true rfl) dX7_macNames_44
  have is1 : dg.toInt ≠ 1 := fun q => sw1 (Int32.toInt_inj.mp (q.trans (by decide +kernel)))
  have is2 : dg.toInt ≠ 2 := fun q => sw2 (Int32.toInt_inj.mp (q.trans (by decide +kernel)))
  have is12 : dg.toInt ≠ 12 := fun q => sw12 (Int32.toInt_inj.mp (q.trans (by decide +kernel)))
  refine lv_lookup (off := 44) (tgt := 45) hx hb dX7_macNames_1 (by decide +kernel) (zlk3 is1 is2 is12) (by decide) ?_
  obtain ⟨q4, v_q4, r_q4, h_q4⟩ := hSt RX7 129 43 "hmac-sha2-256-etm@openssh.com,hmac-sha2-256" (zstr_RX7_129)
  refine z_ldcS hx hb hown hE r_q4 dX7_macNames_45 ?_
  exact z_aret (r := (some q4)) hx hb hr (Or.inl ⟨_, rfl⟩) hlocks hK hZ hS ⟨⟨_, _, _, rfl, h_q4, by decide⟩, rfl⟩ (Nat.le_of_ble_eq_true rfl) (Nat.le_of_ble_eq_true rfl) dX7_macNames_47
end ZEXC

section ZMO
abbrev ROOM_X19_init : Room := { frames := 1, cells := 1, slots := 64, locals := 20 }
set_option maxHeartbeats 4000000 in
set_option maxRecDepth 100000 in
/-- Row() -/
theorem c_X19_init (E : zEn) (l : Launch) (D : va_G) (K : Nat → ClassId) (X : va_W) (L : List Nat) (T : Nat → va_E → Prop) {th : Nat}    : zV E l D vwCl (zT K) yX19_init (zws yX19_init cX19_init 1 none) ROOM_X19_init 1 64 [.ref th] X [(th, .inr (19, [.null, .int (nI 0), .int (nI 0)]))] L T (fun (u : zU) => ∃ (d : Nat), u = ([(th, .inr (19, [.ref d, .int (nI 0), .int (nI 0)]))], L, T)) := by
  refine z_ofW (E := E) (Qc := fun A => va_Qv (fun (u : zU) => ∃ (d : Nat), u = ([(th, .inr (19, [.ref d, .int (nI 0), .int (nI 0)]))], L, T)) (zB D vwCl (zT K) A X) A) (cc := cX19_init) (maxL := 1) (ret := none) (by decide +kernel) rfl (Nat.le_of_ble_eq_true rfl) ?_
  intro p e s m below meth c A ls hx hb hml hr hts hown hlocks hin hA hK hZ hS hE hl
  have hown : s.vm.findClass RX19 = some m.cls := hown
  have hts : ∀ w ∈ WR, w.before [.ref th].toArray s = true := fun w h => hts w (List.mem_cons_of_mem _ h)
  have hl : lv_has ls 1 [(0, .ref th)] := hl
  obtain ⟨H, hH⟩ : ∃ H, H = s.heap := ⟨_, rfl⟩
  have hZ : zP D vwCl A X [(th, .inr (19, [.null, .int (nI 0), .int (nI 0)]))] L T H := by rw [hH]; exact hZ
  obtain ⟨locs, hlc⟩ : ∃ q : List Loc, q = [] := ⟨_, rfl⟩
  have hS : va_S A s.heap H locs := by rw [hH, hlc]; exact hS
  suffices hW : W p l e ROOM_X19_init s m [.ref th].toArray below meth c H locs 0 0 (MQ below (va_Qv (fun (u : zU) => ∃ (d : Nat), u = ([(th, .inr (19, [.ref d, .int (nI 0), .int (nI 0)]))], L, T)) (zB D vwCl (zT K) A X) A) [.ref th].toArray s 1 64 A) (F0 m 0 ls []) by rw [hH, hlc] at hW; exact hW
  clear hH hlc
  refine lv_aload_n hx hb dX19_init_0 rfl (lv_at hl 0 rfl) ?_
  refine W.objInit hx hb hown (hts _ zw_235) (hts _ zw_4) (hts _ zw_5) rfl (by rw [hml]; exact hl.1) rfl dX19_init_1 (Nat.le_of_ble_eq_true rfl) (Nat.le_of_ble_eq_true rfl) ?_
  refine lv_aload_n hx hb dX19_init_4 rfl (lv_at hl 0 rfl) ?_
  refine lv_bipush (v := nI 64) hx hb dX19_init_5 (by decide +kernel) ?_
  refine z_newB hx hb (hts _ zw_63) hK hZ hS hA 2 rfl (n := nI 64) (N := 64) (nI_pos (Nat.le_of_ble_eq_true rfl)) (nI_clamp (Nat.le_of_ble_eq_true rfl)) (Nat.le_of_ble_eq_true rfl) (Nat.le_of_ble_eq_true rfl) (Nat.le_of_ble_eq_true rfl) dX19_init_7 (fun q1 H hZ hS => ?_)
  have hZ : zP D vwCl A X [(th, .inr (19, [.null, .int (nI 0), .int (nI 0)])), (q1, .inl (K 2, 64, .inl (fun _ => 0)))] L T H := hZ
  refine z_put (own := RX19) (C := RX19) (TT := TX19) (N := 3) (ci := 19) (Ts := WR) (v := .ref q1) (ty := (.array .byte)) hx hb hts zin_wsX190 tyX19 tyX19_ok nmX19 hown hK hZ hS 0 rfl rfl 0 (by decide) (hts _ zw_236) (fun _ h9 => h9) rfl (by decide +kernel) rfl rfl (Nat.le_of_ble_eq_true rfl) dX19_init_9 (fun H locs hZ hS => ?_)
  have hZ : zP D vwCl A X [(th, .inr (19, [.ref q1, .int (nI 0), .int (nI 0)])), (q1, .inl (K 2, 64, .inl (fun _ => 0)))] L T H := hZ
  have hZ : zP D vwCl A X [(th, .inr (19, [.ref q1, .int (nI 0), .int (nI 0)]))] L T H := zP.pick [0] [(th, .inr (19, [.ref q1, .int (nI 0), .int (nI 0)]))] hZ (by decide) rfl
  exact z_vret hx hb hr hlocks hK hZ hS ⟨q1, rfl⟩ (Nat.le_of_ble_eq_true rfl) (Nat.le_of_ble_eq_true rfl) dX19_init_12
abbrev ROOM_X19_init_ : Room := { frames := 1, cells := 1, slots := 262144, locals := 20 }
set_option maxHeartbeats 4000000 in
set_option maxRecDepth 100000 in
/-- Row(int) -/
theorem c_X19_init_ (E : zEn) (l : Launch) (D : va_G) (K : Nat → ClassId) (X : va_W) (L : List Nat) (T : Nat → va_E → Prop) {th : Nat}    : zV E l D vwCl (zT K) yX19_init_ (zws yX19_init_ cX19_init_ 2 none) ROOM_X19_init_ 1 262144 [.ref th, .int (nI 262144)] X [(th, .inr (19, [.null, .int (nI 0), .int (nI 0)]))] L T (fun (u : zU) => ∃ (d : Nat), u = ([(th, .inr (19, [.ref d, .int (nI 0), .int (nI 0)]))], L, T)) := by
  refine z_ofW (E := E) (Qc := fun A => va_Qv (fun (u : zU) => ∃ (d : Nat), u = ([(th, .inr (19, [.ref d, .int (nI 0), .int (nI 0)]))], L, T)) (zB D vwCl (zT K) A X) A) (cc := cX19_init_) (maxL := 2) (ret := none) (by decide +kernel) rfl (Nat.le_of_ble_eq_true rfl) ?_
  intro p e s m below meth c A ls hx hb hml hr hts hown hlocks hin hA hK hZ hS hE hl
  have hown : s.vm.findClass RX19 = some m.cls := hown
  have hts : ∀ w ∈ WR, w.before [.ref th, .int (nI 262144)].toArray s = true := fun w h => hts w (List.mem_cons_of_mem _ h)
  have hl : lv_has ls 2 [(0, .ref th), (1, .int (nI 262144))] := hl
  obtain ⟨H, hH⟩ : ∃ H, H = s.heap := ⟨_, rfl⟩
  have hZ : zP D vwCl A X [(th, .inr (19, [.null, .int (nI 0), .int (nI 0)]))] L T H := by rw [hH]; exact hZ
  obtain ⟨locs, hlc⟩ : ∃ q : List Loc, q = [] := ⟨_, rfl⟩
  have hS : va_S A s.heap H locs := by rw [hH, hlc]; exact hS
  suffices hW : W p l e ROOM_X19_init_ s m [.ref th, .int (nI 262144)].toArray below meth c H locs 0 0 (MQ below (va_Qv (fun (u : zU) => ∃ (d : Nat), u = ([(th, .inr (19, [.ref d, .int (nI 0), .int (nI 0)]))], L, T)) (zB D vwCl (zT K) A X) A) [.ref th, .int (nI 262144)].toArray s 1 262144 A) (F0 m 0 ls []) by rw [hH, hlc] at hW; exact hW
  clear hH hlc
  refine lv_aload_n hx hb dX19_init__0 rfl (lv_at hl 0 rfl) ?_
  refine W.objInit hx hb hown (hts _ zw_235) (hts _ zw_4) (hts _ zw_5) rfl (by rw [hml]; exact hl.1) rfl dX19_init__1 (Nat.le_of_ble_eq_true rfl) (Nat.le_of_ble_eq_true rfl) ?_
  refine lv_aload_n hx hb dX19_init__4 rfl (lv_at hl 0 rfl) ?_
  refine lv_iload_n hx hb dX19_init__5 rfl (lv_at hl 1 rfl) ?_
  refine z_newB hx hb (hts _ zw_63) hK hZ hS hA 2 rfl (n := nI 262144) (N := 262144) (nI_pos (Nat.le_of_ble_eq_true rfl)) (nI_clamp (Nat.le_of_ble_eq_true rfl)) (Nat.le_of_ble_eq_true rfl) (Nat.le_of_ble_eq_true rfl) (Nat.le_of_ble_eq_true rfl) dX19_init__6 (fun q1 H hZ hS => ?_)
  have hZ : zP D vwCl A X [(th, .inr (19, [.null, .int (nI 0), .int (nI 0)])), (q1, .inl (K 2, 262144, .inl (fun _ => 0)))] L T H := hZ
  refine z_put (own := RX19) (C := RX19) (TT := TX19) (N := 3) (ci := 19) (Ts := WR) (v := .ref q1) (ty := (.array .byte)) hx hb hts zin_wsX190 tyX19 tyX19_ok nmX19 hown hK hZ hS 0 rfl rfl 0 (by decide) (hts _ zw_236) (fun _ h9 => h9) rfl (by decide +kernel) rfl rfl (Nat.le_of_ble_eq_true rfl) dX19_init__8 (fun H locs hZ hS => ?_)
  have hZ : zP D vwCl A X [(th, .inr (19, [.ref q1, .int (nI 0), .int (nI 0)])), (q1, .inl (K 2, 262144, .inl (fun _ => 0)))] L T H := hZ
  have hZ : zP D vwCl A X [(th, .inr (19, [.ref q1, .int (nI 0), .int (nI 0)]))] L T H := zP.pick [0] [(th, .inr (19, [.ref q1, .int (nI 0), .int (nI 0)]))] hZ (by decide) rfl
  exact z_vret hx hb hr hlocks hK hZ hS ⟨q1, rfl⟩ (Nat.le_of_ble_eq_true rfl) (Nat.le_of_ble_eq_true rfl) dX19_init__11
abbrev ROOM_X16_init : Room := { frames := 1, cells := 0, slots := 0, locals := 20 }
set_option maxHeartbeats 4000000 in
set_option maxRecDepth 100000 in
/-- Fields() -/
theorem c_X16_init (E : zEn) (l : Launch) (D : va_G) (K : Nat → ClassId) (X : va_W) (L : List Nat) (T : Nat → va_E → Prop) {th : Nat}    : zV E l D vwCl (zT K) yX16_init (zws yX16_init cX16_init 1 none) ROOM_X16_init 0 0 [.ref th] X [(th, .inr (17, [.null, .int (nI 0), .int (nI 0), .int (nI 0), .int (nI 0), .int (nI 0)]))] L T (fun (u : zU) => u = ([], L, T)) := by
  refine z_ofW (E := E) (Qc := fun A => va_Qv (fun (u : zU) => u = ([], L, T)) (zB D vwCl (zT K) A X) A) (cc := cX16_init) (maxL := 1) (ret := none) (by decide +kernel) rfl (Nat.le_of_ble_eq_true rfl) ?_
  intro p e s m below meth c A ls hx hb hml hr hts hown hlocks hin hA hK hZ hS hE hl
  have hown : s.vm.findClass RX16 = some m.cls := hown
  have hts : ∀ w ∈ WR, w.before [.ref th].toArray s = true := fun w h => hts w (List.mem_cons_of_mem _ h)
  have hl : lv_has ls 1 [(0, .ref th)] := hl
  obtain ⟨H, hH⟩ : ∃ H, H = s.heap := ⟨_, rfl⟩
  have hZ : zP D vwCl A X [(th, .inr (17, [.null, .int (nI 0), .int (nI 0), .int (nI 0), .int (nI 0), .int (nI 0)]))] L T H := by rw [hH]; exact hZ
  obtain ⟨locs, hlc⟩ : ∃ q : List Loc, q = [] := ⟨_, rfl⟩
  have hS : va_S A s.heap H locs := by rw [hH, hlc]; exact hS
  suffices hW : W p l e ROOM_X16_init s m [.ref th].toArray below meth c H locs 0 0 (MQ below (va_Qv (fun (u : zU) => u = ([], L, T)) (zB D vwCl (zT K) A X) A) [.ref th].toArray s 0 0 A) (F0 m 0 ls []) by rw [hH, hlc] at hW; exact hW
  clear hH hlc
  refine lv_aload_n hx hb dX16_init_0 rfl (lv_at hl 0 rfl) ?_
  refine W.objInit hx hb hown (hts _ zw_234) (hts _ zw_4) (hts _ zw_5) rfl (by rw [hml]; exact hl.1) rfl dX16_init_1 (Nat.le_of_ble_eq_true rfl) (Nat.le_of_ble_eq_true rfl) ?_
  have hZ : zP D vwCl A X [] L T H := zP.pick [] [] hZ (by decide) rfl
  exact z_vret hx hb hr hlocks hK hZ hS rfl (Nat.le_of_ble_eq_true rfl) (Nat.le_of_ble_eq_true rfl) dX16_init_4
abbrev ROOM_X13_init : Room := { frames := 1, cells := 6, slots := 324, locals := 20 }
set_option maxHeartbeats 4000000 in
set_option maxRecDepth 100000 in
/-- Cipher() -/
theorem c_X13_init (E : zEn) (l : Launch) (D : va_G) (K : Nat → ClassId) (X : va_W) (L : List Nat) (T : Nat → va_E → Prop) {th : Nat} {sb : Nat}    : zV E l D vwCl (zT K) yX13_init (zws yX13_init cX13_init 2 none) ROOM_X13_init 6 324 [.ref th, .ref sb] X [(th, .inr (14, [.null, .null, .null, .null, .null, .int (nI 0), .null, .int (nI 0), .int (nI 0), .null]))] L T (fun (u : zU) => u.1 = [] ∧ zG L T u.2.1 u.2.2 ∧ (th ∈ u.2.1 ∧ u.2.2 th = zOp 14 zCi)) := by
  refine z_ofW (E := E) (Qc := fun A => va_Qv (fun (u : zU) => u.1 = [] ∧ zG L T u.2.1 u.2.2 ∧ (th ∈ u.2.1 ∧ u.2.2 th = zOp 14 zCi)) (zB D vwCl (zT K) A X) A) (cc := cX13_init) (maxL := 2) (ret := none) (by decide +kernel) rfl (Nat.le_of_ble_eq_true rfl) ?_
  intro p e s m below meth c A ls hx hb hml hr hts hown hlocks hin hA hK hZ hS hE hl
  have hown : s.vm.findClass RX13 = some m.cls := hown
  have hts : ∀ w ∈ WR, w.before [.ref th, .ref sb].toArray s = true := fun w h => hts w (List.mem_cons_of_mem _ h)
  have hl : lv_has ls 2 [(0, .ref th), (1, .ref sb)] := hl
  obtain ⟨H, hH⟩ : ∃ H, H = s.heap := ⟨_, rfl⟩
  have hZ : zP D vwCl A X [(th, .inr (14, [.null, .null, .null, .null, .null, .int (nI 0), .null, .int (nI 0), .int (nI 0), .null]))] L T H := by rw [hH]; exact hZ
  obtain ⟨locs, hlc⟩ : ∃ q : List Loc, q = [] := ⟨_, rfl⟩
  have hS : va_S A s.heap H locs := by rw [hH, hlc]; exact hS
  suffices hW : W p l e ROOM_X13_init s m [.ref th, .ref sb].toArray below meth c H locs 0 0 (MQ below (va_Qv (fun (u : zU) => u.1 = [] ∧ zG L T u.2.1 u.2.2 ∧ (th ∈ u.2.1 ∧ u.2.2 th = zOp 14 zCi)) (zB D vwCl (zT K) A X) A) [.ref th, .ref sb].toArray s 6 324 A) (F0 m 0 ls []) by rw [hH, hlc] at hW; exact hW
  clear hH hlc
  have hGG : zG L T L T := zG.rf
  refine lv_aload_n hx hb dX13_init_0 rfl (lv_at hl 0 rfl) ?_
  refine W.objInit hx hb hown (hts _ zw_155) (hts _ zw_4) (hts _ zw_5) rfl (by rw [hml]; exact hl.1) rfl dX13_init_1 (Nat.le_of_ble_eq_true rfl) (Nat.le_of_ble_eq_true rfl) ?_
  refine lv_aload_n hx hb dX13_init_4 rfl (lv_at hl 0 rfl) ?_
  refine lv_sipush (v := nI 240) hx hb dX13_init_5 (by decide +kernel) ?_
  refine z_newI hx hb (hts _ zw_98) hK hZ hS hA 0 rfl (n := nI 240) (N := 240) (nI_pos (Nat.le_of_ble_eq_true rfl)) (nI_clamp (Nat.le_of_ble_eq_true rfl)) (Nat.le_of_ble_eq_true rfl) (Nat.le_of_ble_eq_true rfl) (Nat.le_of_ble_eq_true rfl) dX13_init_8 (fun q1 H hZ hS => ?_)
  have hZ : zP D vwCl A X [(th, .inr (14, [.null, .null, .null, .null, .null, .int (nI 0), .null, .int (nI 0), .int (nI 0), .null])), (q1, .inl (K 0, 240, .inl (fun _ => 0)))] L T H := hZ
  refine z_putF (own := RX13) (C := RX13) (TT := TX13) (N := 10) (ci := 14) (Ts := WR) (v := .ref q1) (ty := (.array .int)) hx hb hts zin_wsX130 tyX13 tyX13_ok nmX13 hown hK hZ hS 0 rfl rfl 1 (by decide) (hts _ zw_156) (fun _ h9 => h9) rfl hin rfl (by decide +kernel) rfl rfl (Nat.le_of_ble_eq_true rfl) dX13_init_10 (fun H locs hZ hS => ?_)
  have hZ : zP D vwCl A X [(th, .inr (14, [.null, .ref q1, .null, .null, .null, .int (nI 0), .null, .int (nI 0), .int (nI 0), .null])), (q1, .inl (K 0, 240, .inl (fun _ => 0)))] L T H := hZ
  refine lv_aload_n hx hb dX13_init_13 rfl (lv_at hl 0 rfl) ?_
  refine lv_bipush (v := nI 16) hx hb dX13_init_14 (by decide +kernel) ?_
  refine z_newI hx hb (hts _ zw_98) hK hZ hS hA 0 rfl (n := nI 16) (N := 16) (nI_pos (Nat.le_of_ble_eq_true rfl)) (nI_clamp (Nat.le_of_ble_eq_true rfl)) (Nat.le_of_ble_eq_true rfl) (Nat.le_of_ble_eq_true rfl) (Nat.le_of_ble_eq_true rfl) dX13_init_16 (fun q2 H hZ hS => ?_)
  have hZ : zP D vwCl A X [(th, .inr (14, [.null, .ref q1, .null, .null, .null, .int (nI 0), .null, .int (nI 0), .int (nI 0), .null])), (q1, .inl (K 0, 240, .inl (fun _ => 0))), (q2, .inl (K 0, 16, .inl (fun _ => 0)))] L T H := hZ
  refine z_putF (own := RX13) (C := RX13) (TT := TX13) (N := 10) (ci := 14) (Ts := WR) (v := .ref q2) (ty := (.array .int)) hx hb hts zin_wsX130 tyX13 tyX13_ok nmX13 hown hK hZ hS 0 rfl rfl 2 (by decide) (hts _ zw_157) (fun _ h9 => h9) rfl hin rfl (by decide +kernel) rfl rfl (Nat.le_of_ble_eq_true rfl) dX13_init_18 (fun H locs hZ hS => ?_)
  have hZ : zP D vwCl A X [(th, .inr (14, [.null, .ref q1, .ref q2, .null, .null, .int (nI 0), .null, .int (nI 0), .int (nI 0), .null])), (q1, .inl (K 0, 240, .inl (fun _ => 0))), (q2, .inl (K 0, 16, .inl (fun _ => 0)))] L T H := hZ
  refine lv_aload_n hx hb dX13_init_21 rfl (lv_at hl 0 rfl) ?_
  refine lv_bipush (v := nI 16) hx hb dX13_init_22 (by decide +kernel) ?_
  refine z_newI hx hb (hts _ zw_98) hK hZ hS hA 0 rfl (n := nI 16) (N := 16) (nI_pos (Nat.le_of_ble_eq_true rfl)) (nI_clamp (Nat.le_of_ble_eq_true rfl)) (Nat.le_of_ble_eq_true rfl) (Nat.le_of_ble_eq_true rfl) (Nat.le_of_ble_eq_true rfl) dX13_init_24 (fun q3 H hZ hS => ?_)
  have hZ : zP D vwCl A X [(th, .inr (14, [.null, .ref q1, .ref q2, .null, .null, .int (nI 0), .null, .int (nI 0), .int (nI 0), .null])), (q1, .inl (K 0, 240, .inl (fun _ => 0))), (q2, .inl (K 0, 16, .inl (fun _ => 0))), (q3, .inl (K 0, 16, .inl (fun _ => 0)))] L T H := hZ
  refine z_putF (own := RX13) (C := RX13) (TT := TX13) (N := 10) (ci := 14) (Ts := WR) (v := .ref q3) (ty := (.array .int)) hx hb hts zin_wsX130 tyX13 tyX13_ok nmX13 hown hK hZ hS 0 rfl rfl 3 (by decide) (hts _ zw_158) (fun _ h9 => h9) rfl hin rfl (by decide +kernel) rfl rfl (Nat.le_of_ble_eq_true rfl) dX13_init_26 (fun H locs hZ hS => ?_)
  have hZ : zP D vwCl A X [(th, .inr (14, [.null, .ref q1, .ref q2, .ref q3, .null, .int (nI 0), .null, .int (nI 0), .int (nI 0), .null])), (q1, .inl (K 0, 240, .inl (fun _ => 0))), (q2, .inl (K 0, 16, .inl (fun _ => 0))), (q3, .inl (K 0, 16, .inl (fun _ => 0)))] L T H := hZ
  refine lv_aload_n hx hb dX13_init_29 rfl (lv_at hl 0 rfl) ?_
  refine lv_iconst (v := nI 4) hx hb dX13_init_30 (by decide +kernel) ?_
  refine z_newI hx hb (hts _ zw_98) hK hZ hS hA 0 rfl (n := nI 4) (N := 4) (nI_pos (Nat.le_of_ble_eq_true rfl)) (nI_clamp (Nat.le_of_ble_eq_true rfl)) (Nat.le_of_ble_eq_true rfl) (Nat.le_of_ble_eq_true rfl) (Nat.le_of_ble_eq_true rfl) dX13_init_31 (fun q4 H hZ hS => ?_)
  have hZ : zP D vwCl A X [(th, .inr (14, [.null, .ref q1, .ref q2, .ref q3, .null, .int (nI 0), .null, .int (nI 0), .int (nI 0), .null])), (q1, .inl (K 0, 240, .inl (fun _ => 0))), (q2, .inl (K 0, 16, .inl (fun _ => 0))), (q3, .inl (K 0, 16, .inl (fun _ => 0))), (q4, .inl (K 0, 4, .inl (fun _ => 0)))] L T H := hZ
  refine z_putF (own := RX13) (C := RX13) (TT := TX13) (N := 10) (ci := 14) (Ts := WR) (v := .ref q4) (ty := (.array .int)) hx hb hts zin_wsX130 tyX13 tyX13_ok nmX13 hown hK hZ hS 0 rfl rfl 4 (by decide) (hts _ zw_159) (fun _ h9 => h9) rfl hin rfl (by decide +kernel) rfl rfl (Nat.le_of_ble_eq_true rfl) dX13_init_33 (fun H locs hZ hS => ?_)
  have hZ : zP D vwCl A X [(th, .inr (14, [.null, .ref q1, .ref q2, .ref q3, .ref q4, .int (nI 0), .null, .int (nI 0), .int (nI 0), .null])), (q1, .inl (K 0, 240, .inl (fun _ => 0))), (q2, .inl (K 0, 16, .inl (fun _ => 0))), (q3, .inl (K 0, 16, .inl (fun _ => 0))), (q4, .inl (K 0, 4, .inl (fun _ => 0)))] L T H := hZ
  refine lv_aload_n hx hb dX13_init_36 rfl (lv_at hl 0 rfl) ?_
  refine lv_bipush (v := nI 16) hx hb dX13_init_37 (by decide +kernel) ?_
  refine z_newI hx hb (hts _ zw_98) hK hZ hS hA 0 rfl (n := nI 16) (N := 16) (nI_pos (Nat.le_of_ble_eq_true rfl)) (nI_clamp (Nat.le_of_ble_eq_true rfl)) (Nat.le_of_ble_eq_true rfl) (Nat.le_of_ble_eq_true rfl) (Nat.le_of_ble_eq_true rfl) dX13_init_39 (fun q5 H hZ hS => ?_)
  have hZ : zP D vwCl A X [(th, .inr (14, [.null, .ref q1, .ref q2, .ref q3, .ref q4, .int (nI 0), .null, .int (nI 0), .int (nI 0), .null])), (q1, .inl (K 0, 240, .inl (fun _ => 0))), (q2, .inl (K 0, 16, .inl (fun _ => 0))), (q3, .inl (K 0, 16, .inl (fun _ => 0))), (q4, .inl (K 0, 4, .inl (fun _ => 0))), (q5, .inl (K 0, 16, .inl (fun _ => 0)))] L T H := hZ
  refine z_putF (own := RX13) (C := RX13) (TT := TX13) (N := 10) (ci := 14) (Ts := WR) (v := .ref q5) (ty := (.array .int)) hx hb hts zin_wsX130 tyX13 tyX13_ok nmX13 hown hK hZ hS 0 rfl rfl 6 (by decide) (hts _ zw_160) (fun _ h9 => h9) rfl hin rfl (by decide +kernel) rfl rfl (Nat.le_of_ble_eq_true rfl) dX13_init_41 (fun H locs hZ hS => ?_)
  have hZ : zP D vwCl A X [(th, .inr (14, [.null, .ref q1, .ref q2, .ref q3, .ref q4, .int (nI 0), .ref q5, .int (nI 0), .int (nI 0), .null])), (q1, .inl (K 0, 240, .inl (fun _ => 0))), (q2, .inl (K 0, 16, .inl (fun _ => 0))), (q3, .inl (K 0, 16, .inl (fun _ => 0))), (q4, .inl (K 0, 4, .inl (fun _ => 0))), (q5, .inl (K 0, 16, .inl (fun _ => 0)))] L T H := hZ
  refine lv_aload_n hx hb dX13_init_44 rfl (lv_at hl 0 rfl) ?_
  refine lv_bipush (v := nI 32) hx hb dX13_init_45 (by decide +kernel) ?_
  refine z_newB hx hb (hts _ zw_63) hK hZ hS hA 2 rfl (n := nI 32) (N := 32) (nI_pos (Nat.le_of_ble_eq_true rfl)) (nI_clamp (Nat.le_of_ble_eq_true rfl)) (Nat.le_of_ble_eq_true rfl) (Nat.le_of_ble_eq_true rfl) (Nat.le_of_ble_eq_true rfl) dX13_init_47 (fun q6 H hZ hS => ?_)
  have hZ : zP D vwCl A X [(th, .inr (14, [.null, .ref q1, .ref q2, .ref q3, .ref q4, .int (nI 0), .ref q5, .int (nI 0), .int (nI 0), .null])), (q1, .inl (K 0, 240, .inl (fun _ => 0))), (q2, .inl (K 0, 16, .inl (fun _ => 0))), (q3, .inl (K 0, 16, .inl (fun _ => 0))), (q4, .inl (K 0, 4, .inl (fun _ => 0))), (q5, .inl (K 0, 16, .inl (fun _ => 0))), (q6, .inl (K 2, 32, .inl (fun _ => 0)))] L T H := hZ
  refine z_putF (own := RX13) (C := RX13) (TT := TX13) (N := 10) (ci := 14) (Ts := WR) (v := .ref q6) (ty := (.array .byte)) hx hb hts zin_wsX130 tyX13 tyX13_ok nmX13 hown hK hZ hS 0 rfl rfl 9 (by decide) (hts _ zw_161) (fun _ h9 => h9) rfl hin rfl (by decide +kernel) rfl rfl (Nat.le_of_ble_eq_true rfl) dX13_init_49 (fun H locs hZ hS => ?_)
  have hZ : zP D vwCl A X [(th, .inr (14, [.null, .ref q1, .ref q2, .ref q3, .ref q4, .int (nI 0), .ref q5, .int (nI 0), .int (nI 0), .ref q6])), (q1, .inl (K 0, 240, .inl (fun _ => 0))), (q2, .inl (K 0, 16, .inl (fun _ => 0))), (q3, .inl (K 0, 16, .inl (fun _ => 0))), (q4, .inl (K 0, 4, .inl (fun _ => 0))), (q5, .inl (K 0, 16, .inl (fun _ => 0))), (q6, .inl (K 2, 32, .inl (fun _ => 0)))] L T H := hZ
  refine lv_aload_n hx hb dX13_init_52 rfl (lv_at hl 0 rfl) ?_
  refine lv_aload_n hx hb dX13_init_53 rfl (lv_at hl 1 rfl) ?_
  refine z_putF (own := RX13) (C := RX13) (TT := TX13) (N := 10) (ci := 14) (Ts := WR) (v := .ref sb) (ty := (.array .int)) hx hb hts zin_wsX130 tyX13 tyX13_ok nmX13 hown hK hZ hS 0 rfl rfl 0 (by decide) (hts _ zw_162) (fun _ h9 => h9) rfl hin rfl (by decide +kernel) rfl rfl (Nat.le_of_ble_eq_true rfl) dX13_init_54 (fun H locs hZ hS => ?_)
  have hZ : zP D vwCl A X [(th, .inr (14, [.ref sb, .ref q1, .ref q2, .ref q3, .ref q4, .int (nI 0), .ref q5, .int (nI 0), .int (nI 0), .ref q6])), (q1, .inl (K 0, 240, .inl (fun _ => 0))), (q2, .inl (K 0, 16, .inl (fun _ => 0))), (q3, .inl (K 0, 16, .inl (fun _ => 0))), (q4, .inl (K 0, 4, .inl (fun _ => 0))), (q5, .inl (K 0, 16, .inl (fun _ => 0))), (q6, .inl (K 2, 32, .inl (fun _ => 0)))] L T H := hZ
  have hZ : zP D vwCl A X [(th, .inr (14, [.ref sb, .ref q1, .ref q2, .ref q3, .ref q4, .int (nI 0), .ref q5, .int (nI 0), .int (nI 0), .ref q6]))] L T H := zP.pick [0] [(th, .inr (14, [.ref sb, .ref q1, .ref q2, .ref q3, .ref q4, .int (nI 0), .ref q5, .int (nI 0), .int (nI 0), .ref q6]))] hZ (by decide) rfl
  obtain ⟨L7, T8, hZ, hG, hN⟩ := zP.pooled [(th, .inr (14, [.ref sb, .ref q1, .ref q2, .ref q3, .ref q4, .int (nI 0), .ref q5, .int (nI 0), .int (nI 0), .ref q6]), zOp 14 zCi)] [] hZ (List.forall_mem_cons.mpr ⟨⟨_, rfl, ⟨rfl, rfl⟩⟩, (fun _ h => absurd h List.not_mem_nil)⟩)
  obtain ⟨h_th, k_th⟩ := hN _ (List.mem_of_getElem? (i := 0) rfl)
  have k_th : T8 th = zOp 14 zCi := k_th
  have hGG := hGG.tr hG
  exact z_vret hx hb hr hlocks hK hZ hS ⟨rfl, hGG, ⟨h_th, k_th⟩⟩ (Nat.le_of_ble_eq_true rfl) (Nat.le_of_ble_eq_true rfl) dX13_init_57
abbrev ROOM_X13_box : Room := { frames := 2, cells := 1, slots := 256, locals := 24 }
set_option maxHeartbeats 4000000 in
set_option maxRecDepth 100000 in
/-- box -/
theorem c_X13_box (E : zEn) (l : Launch) (D : va_G) (K : Nat → ClassId) (X : va_W) (L : List Nat) (T : Nat → va_E → Prop)     : zVq E l D vwCl (zT K) yX13_box (zws yX13_box cX13_box 5 (some (.array .int))) ROOM_X13_box 1 256 [] X [] L T (fun (r : Option Nat) (u : zU) => ∃ (bx : Nat), r = some bx ∧ u = ([], L, T)) := by
  refine z_ofW (E := E) (Qc := fun A => va_Qq (fun (r : Option Nat) (u : zU) => ∃ (bx : Nat), r = some bx ∧ u = ([], L, T)) (zB D vwCl (zT K) A X) A) (cc := cX13_box) (maxL := 5) (ret := (some (.array .int))) (by decide +kernel) rfl (Nat.le_of_ble_eq_true rfl) ?_
  intro p e s m below meth c A ls hx hb hml hr hts hown hlocks hin hA hK hZ hS hE hl
  have hown : s.vm.findClass RX13 = some m.cls := hown
  have hts : ∀ w ∈ WR, w.before [].toArray s = true := fun w h => hts w (List.mem_cons_of_mem _ h)
  have hl : lv_has ls 5 [] := hl
  obtain ⟨H, hH⟩ : ∃ H, H = s.heap := ⟨_, rfl⟩
  have hZ : zP D vwCl A X [] L T H := by rw [hH]; exact hZ
  obtain ⟨locs, hlc⟩ : ∃ q : List Loc, q = [] := ⟨_, rfl⟩
  have hS : va_S A s.heap H locs := by rw [hH, hlc]; exact hS
  suffices hW : W p l e ROOM_X13_box s m [].toArray below meth c H locs 0 0 (MQ below (va_Qq (fun (r : Option Nat) (u : zU) => ∃ (bx : Nat), r = some bx ∧ u = ([], L, T)) (zB D vwCl (zT K) A X) A) [].toArray s 1 256 A) (F0 m 0 ls []) by rw [hH, hlc] at hW; exact hW
  clear hH hlc
  refine lv_sipush (v := nI 256) hx hb dX13_box_0 (by decide +kernel) ?_
  refine z_newI hx hb (hts _ zw_98) hK hZ hS hA 0 rfl (n := nI 256) (N := 256) (nI_pos (Nat.le_of_ble_eq_true rfl)) (nI_clamp (Nat.le_of_ble_eq_true rfl)) (Nat.le_of_ble_eq_true rfl) (Nat.le_of_ble_eq_true rfl) (Nat.le_of_ble_eq_true rfl) dX13_box_3 (fun q1 H hZ hS => ?_)
  have hZ : zP D vwCl A X [(q1, .inl (K 0, 256, .inl (fun _ => 0)))] L T H := hZ
  refine lv_astore_n (lv' := [(0, .ref q1)]) hx hb dX13_box_5 rfl hl (by decide) rfl (fun ls hl => ?_)
  refine lv_iconst (v := nI 0) hx hb dX13_box_6 (by decide +kernel) ?_
  refine lv_istore_n (lv' := [(1, .int (nI 0)), (0, .ref q1)]) hx hb dX13_box_7 rfl hl (by decide) rfl (fun ls hl => ?_)
  have L8_ : ∀ (n9 i8 : Nat), i8 ≤ 256 → 256 + 1 ≤ i8 + n9 → ∀  (gi8 : Nat → Int32) (H : Heap) (locs : List Loc) (ls : Array Slot), zP D vwCl A X [(q1, .inl (K 0, 256, .inl gi8))] L T H → va_S A s.heap H locs → lv_has ls 5 [(1, .int (nI i8)), (0, .ref q1)] → W p l e ROOM_X13_box s m [].toArray below meth c H locs 1 256 (MQ below (va_Qq (fun (r : Option Nat) (u : zU) => ∃ (bx : Nat), r = some bx ∧ u = ([], L, T)) (zB D vwCl (zT K) A X) A) [].toArray s 1 256 A) (F0 m 8 ls []) := by
    intro n9
    induction n9 with
    | zero => intro i8 u8 w8; exact absurd w8 (by omega)
    | succ n9 ih8 =>
      intro i8 u8 w8 gi8 H locs ls hZ hS hl 
      refine lv_iload_n hx hb dX13_box_8 rfl (lv_at hl 0 rfl) ?_
      refine lv_sipush (v := nI 256) hx hb dX13_box_9 (by decide +kernel) ?_
      refine lv_icmp_ge (tgt := 85) hx hb dX13_box_12 (by decide) (fun c12 => ?_) (fun c12 => ?_)
      · have e12 : 256 ≤ i8 := (nI_leI (a := 256) (b := i8) (by omega) (by omega)).mp c12
        refine lv_aload_n hx hb dX13_box_85 rfl (lv_at hl 1 rfl) ?_
        have hZ : zP D vwCl A X [] L T H := zP.pick [] [] hZ (by decide) rfl
        exact z_aret (r := (some q1)) hx hb hr (Or.inr ⟨_, rfl⟩) hlocks hK hZ hS ⟨q1, (by first | rfl | decide +kernel | exact congrArg nI (by omega)), rfl⟩ (Nat.le_of_ble_eq_true rfl) (Nat.le_of_ble_eq_true rfl) dX13_box_86
      · have e12 : ¬ 256 ≤ i8 := fun q => c12 ((nI_leI (a := 256) (b := i8) (by omega) (by omega)).mpr q)
        refine lv_iconst (v := nI 1) hx hb dX13_box_15 (by decide +kernel) ?_
        refine lv_istore_n (lv' := [(2, .int (nI 1)), (1, .int (nI i8)), (0, .ref q1)]) hx hb dX13_box_16 rfl hl (by decide) rfl (fun ls hl => ?_)
        refine lv_iconst (v := nI 0) hx hb dX13_box_17 (by decide +kernel) ?_
        refine lv_istore_n (lv' := [(3, .int (nI 0)), (2, .int (nI 1)), (1, .int (nI i8)), (0, .ref q1)]) hx hb dX13_box_18 rfl hl (by decide) rfl (fun ls hl => ?_)
        have L19_ : ∀ (n9 i19 : Nat), i19 ≤ 254 → 254 + 1 ≤ i19 + n9 → ∀ (v2_19 : Int32)  (H : Heap) (locs : List Loc) (ls : Array Slot), zP D vwCl A X [(q1, .inl (K 0, 256, .inl gi8))] L T H → va_S A s.heap H locs → lv_has ls 5 [(3, .int (nI i19)), (0, .ref q1), (1, .int (nI i8)), (2, .int v2_19)] → W p l e ROOM_X13_box s m [].toArray below meth c H locs 1 256 (MQ below (va_Qq (fun (r : Option Nat) (u : zU) => ∃ (bx : Nat), r = some bx ∧ u = ([], L, T)) (zB D vwCl (zT K) A X) A) [].toArray s 1 256 A) (F0 m 19 ls []) := by
          intro n9
          induction n9 with
          | zero => intro i19 u19 w19; exact absurd w19 (by omega)
          | succ n9 ih19 =>
            intro i19 u19 w19 v2_19 H locs ls hZ hS hl 
            refine lv_iload_n hx hb dX13_box_19 rfl (lv_at hl 0 rfl) ?_
            refine lv_sipush (v := nI 254) hx hb dX13_box_20 (by decide +kernel) ?_
            show W p l e ROOM_X13_box s m [].toArray below meth c H locs 1 256 (MQ below (va_Qq (fun (r : Option Nat) (u : zU) => ∃ (bx : Nat), r = some bx ∧ u = ([], L, T)) (zB D vwCl (zT K) A X) A) [].toArray s 1 256 A) (F0 m 23 ls [.int (nI 254), .int (nI i19)])
            refine lv_icmp_ge (tgt := 38) hx hb dX13_box_23 (by decide) (fun c23 => ?_) (fun c23 => ?_)
            · have e23 : 254 ≤ i19 := (nI_leI (a := 254) (b := i19) (by omega) (by omega)).mp c23
              refine lv_bipush (v := nI 99) hx hb dX13_box_38 (by decide +kernel) ?_
              refine lv_istore_n (lv' := [(3, .int (nI 99)), (0, .ref q1), (1, .int (nI i8)), (2, .int v2_19)]) hx hb dX13_box_40 rfl hl (by decide) rfl (fun ls hl => ?_)
              refine lv_iconst (v := nI 0) hx hb dX13_box_41 (by decide +kernel) ?_
              refine lv_istore (lv' := [(4, .int (nI 0)), (3, .int (nI 99)), (0, .ref q1), (1, .int (nI i8)), (2, .int v2_19)]) hx hb dX13_box_42 hl (by decide) rfl (fun ls hl => ?_)
              have L44_ : ∀ (n9 i44 : Nat), i44 ≤ 5 → 5 + 1 ≤ i44 + n9 → ∀ (v3_44 : Int32)  (H : Heap) (locs : List Loc) (ls : Array Slot), zP D vwCl A X [(q1, .inl (K 0, 256, .inl gi8))] L T H → va_S A s.heap H locs → lv_has ls 5 [(4, .int (nI i44)), (0, .ref q1), (1, .int (nI i8)), (2, .int v2_19), (3, .int v3_44)] → W p l e ROOM_X13_box s m [].toArray below meth c H locs 1 256 (MQ below (va_Qq (fun (r : Option Nat) (u : zU) => ∃ (bx : Nat), r = some bx ∧ u = ([], L, T)) (zB D vwCl (zT K) A X) A) [].toArray s 1 256 A) (F0 m 44 ls []) := by
                intro n9
                induction n9 with
                | zero => intro i44 u44 w44; exact absurd w44 (by omega)
                | succ n9 ih44 =>
                  intro i44 u44 w44 v3_44 H locs ls hZ hS hl 
                  refine lv_iload hx hb dX13_box_44 (lv_at hl 0 rfl) ?_
                  refine lv_iconst (v := nI 5) hx hb dX13_box_46 (by decide +kernel) ?_
                  refine lv_icmp_ge (tgt := 75) hx hb dX13_box_47 (by decide) (fun c47 => ?_) (fun c47 => ?_)
                  · have e47 : 5 ≤ i44 := (nI_leI (a := 5) (b := i44) (by omega) (by omega)).mp c47
                    refine lv_aload_n hx hb dX13_box_75 rfl (lv_at hl 1 rfl) ?_
                    refine lv_iload_n hx hb dX13_box_76 rfl (lv_at hl 2 rfl) ?_
                    refine lv_iload_n hx hb dX13_box_77 rfl (lv_at hl 4 rfl) ?_
                    refine z_iastG hx hb hK hZ hS 0 0 rfl rfl (vp_in_nI (by omega) (by omega)) dX13_box_78 (fun g2 H locs hZ hS => ?_)
                    have hZ : zP D vwCl A X [(q1, .inl (K 0, 256, .inl g2))] L T H := hZ
                    refine lv_iinc (v := nI (i8 + 1)) (lv' := [(1, .int (nI (i8 + 1))), (4, .int (nI i44)), (0, .ref q1), (2, .int v2_19), (3, .int v3_44)]) hx hb dX13_box_79 hl (k := 2) rfl (nI_add i8 1) (by decide) rfl (fun ls hl => ?_)
                    show W p l e ROOM_X13_box s m [].toArray below meth c H locs 1 256 (MQ below (va_Qq (fun (r : Option Nat) (u : zU) => ∃ (bx : Nat), r = some bx ∧ u = ([], L, T)) (zB D vwCl (zT K) A X) A) [].toArray s 1 256 A) (F0 m 82 ls [])
                    refine lv_goto (tgt := 8) hx hb dX13_box_82 (by decide) ?_
                    exact ih8 (i8 + 1) (by omega) (by omega)  g2 _ _ _ hZ hS (lv_sub hl [0, 2] rfl) 
                  · have e47 : ¬ 5 ≤ i44 := fun q => c47 ((nI_leI (a := 5) (b := i44) (by omega) (by omega)).mpr q)
                    refine lv_iload_n hx hb dX13_box_50 rfl (lv_at hl 4 rfl) ?_
                    refine lv_iload_n hx hb dX13_box_51 rfl (lv_at hl 3 rfl) ?_
                    refine lv_iload hx hb dX13_box_52 (lv_at hl 0 rfl) ?_
                    refine lv_ishl hx hb dX13_box_54 ?_
                    refine lv_topi (fun x3 ex3 => ?_)
                    refine lv_iload_n hx hb dX13_box_55 rfl (lv_at hl 3 rfl) ?_
                    refine lv_bipush (v := nI 8) hx hb dX13_box_56 (by decide +kernel) ?_
                    refine lv_iload hx hb dX13_box_58 (lv_at hl 0 rfl) ?_
                    refine lv_isub hx hb dX13_box_60 ?_
                    refine lv_topi (fun x4 ex4 => ?_)
                    obtain rfl : x4 = nI (8 - i44) := ex4.trans (pk_sub (by omega))
                    refine lv_ishr hx hb dX13_box_61 ?_
                    refine lv_topi (fun x5 ex5 => ?_)
                    refine lv_ior hx hb dX13_box_62 ?_
                    refine lv_topi (fun x6 ex6 => ?_)
                    refine lv_sipush (v := nI 255) hx hb dX13_box_63 (by decide +kernel) ?_
                    refine lv_iand hx hb dX13_box_66 ?_
                    refine lv_topi (fun x7 ex7 => ?_)
                    obtain ⟨jx7, bx7, rfl⟩ : ∃ j : Nat, j < 256 ∧ x7 = nI j := by obtain ⟨j, h1, h2⟩ := pk_andE x6 (m := nI 255) 8 (by decide +kernel); exact ⟨j, h1, ex7.trans h2⟩
                    refine lv_ixor hx hb dX13_box_67 ?_
                    refine lv_topi (fun x8 ex8 => ?_)
                    refine lv_istore_n (lv' := [(3, .int x8), (4, .int (nI i44)), (0, .ref q1), (1, .int (nI i8)), (2, .int v2_19)]) hx hb dX13_box_68 rfl hl (by decide) rfl (fun ls hl => ?_)
                    refine lv_iinc (v := nI (i44 + 1)) (lv' := [(4, .int (nI (i44 + 1))), (3, .int x8), (0, .ref q1), (1, .int (nI i8)), (2, .int v2_19)]) hx hb dX13_box_69 hl (k := 1) rfl (nI_add i44 1) (by decide) rfl (fun ls hl => ?_)
                    show W p l e ROOM_X13_box s m [].toArray below meth c H locs 1 256 (MQ below (va_Qq (fun (r : Option Nat) (u : zU) => ∃ (bx : Nat), r = some bx ∧ u = ([], L, T)) (zB D vwCl (zT K) A X) A) [].toArray s 1 256 A) (F0 m 72 ls [])
                    refine lv_goto (tgt := 44) hx hb dX13_box_72 (by decide) ?_
                    exact ih44 (i44 + 1) (by omega) (by omega) x8  _ _ _ hZ hS (lv_sub hl [0, 2, 3, 4, 1] rfl) 
              exact L44_ (5 + 1) 0 (by omega) (by omega) (nI 99)  _ _ _ hZ hS (lv_sub hl [0, 2, 3, 4, 1] rfl) 
            · have e23 : ¬ 254 ≤ i19 := fun q => c23 ((nI_leI (a := 254) (b := i19) (by omega) (by omega)).mpr q)
              refine lv_iload_n hx hb dX13_box_26 rfl (lv_at hl 3 rfl) ?_
              refine lv_iload_n hx hb dX13_box_27 rfl (lv_at hl 2 rfl) ?_
              refine z_goI (va_runS (As := [.int v2_19, .int (nI i8)]) (rest := []) ⟨hx, hb, hml, hown, hts⟩ ((c_X13_times E l D K X [(q1, .inl (K 0, 256, .inl gi8))] L T ) H.size) (va_cwS 2 hts (zg_S zw_152 zw_148 zw_149 zw_147) rfl rfl rfl (by decide +kernel) ⟨Nat.le_of_ble_eq_true rfl, Nat.le_of_ble_eq_true rfl⟩) (z_preS hK hZ hS hA hE) rfl rfl hl.1 rfl (lv_room (Nat.le_of_ble_eq_true rfl)) dX13_box_28 ⟨Nat.le_of_ble_eq_true rfl, Nat.le_of_ble_eq_true rfl⟩) hZ hS hA (fun x9 Y1 L1 T1 H locs hp hZ hS => ?_)
              cases hp
              refine lv_istore_n (lv' := [(2, .int x9), (3, .int (nI i19)), (0, .ref q1), (1, .int (nI i8))]) hx hb dX13_box_31 rfl hl (by decide) rfl (fun ls hl => ?_)
              refine lv_iinc (v := nI (i19 + 1)) (lv' := [(3, .int (nI (i19 + 1))), (2, .int x9), (0, .ref q1), (1, .int (nI i8))]) hx hb dX13_box_32 hl (k := 1) rfl (nI_add i19 1) (by decide) rfl (fun ls hl => ?_)
              refine lv_goto (tgt := 19) hx hb dX13_box_35 (by decide) ?_
              exact ih19 (i19 + 1) (by omega) (by omega) x9  _ _ _ hZ hS (lv_sub hl [0, 2, 3, 1] rfl) 
        exact L19_ (254 + 1) 0 (by omega) (by omega) (nI 1)  _ _ _ hZ hS (lv_sub hl [0, 3, 2, 1] rfl) 
  exact L8_ (256 + 1) 0 (by omega) (by omega)  (fun _ => 0) _ _ _ hZ hS (lv_sub hl [0, 1] rfl) 
end ZMO

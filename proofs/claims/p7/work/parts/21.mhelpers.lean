section ZME
abbrev ROOM_X21_fail : Room := { frames := 1, cells := 0, slots := 0, locals := 0 }
set_option maxHeartbeats 4000000 in
set_option maxRecDepth 100000 in
/-- fail -/
theorem c_X21_fail (E : zEn) (l : Launch) (D : va_G) (K : Nat → ClassId) (X : va_W) (L : List Nat) (T : Nat → va_E → Prop) {mm : Nat} {cx : Int32} {tp mf3 mf4 mf5 en wi mf11 mf12 mf13 mf14 mf15 po mf19 mf20 mf23 mf24 mf25 mf26 mf27 mf28 mf29 mf30 mf31 mf32 mf33 mf37 mf39 mf40 mf42 : Nat} {tw : Int32}   : zVi E l D vwCl (zT K) yX21_fail (zws yX21_fail cX21_fail 2 (some .int)) ROOM_X21_fail 0 0 [.ref mm, .int cx] X [(mm, .inr (21, [.int tw, .ref tp, .int (nI 0), .ref mf3, .ref mf4, .ref mf5, .ref en, .ref wi, .null, .null, .null, .ref mf11, .ref mf12, .ref mf13, .ref mf14, .ref mf15, .int (nI 0), .ref po, .int (nI 0), .ref mf19, .ref mf20, .int (nI 0), .null, .ref mf23, .ref mf24, .ref mf25, .ref mf26, .ref mf27, .ref mf28, .ref mf29, .ref mf30, .ref mf31, .ref mf32, .ref mf33, .int (nI 0), .int (nI 0), .int (nI 0), .ref mf37, .null, .ref mf39, .ref mf40, .null, .ref mf42]))] L T (fun (r : Int32) (u : zU) => r = nI 0 ∧ u = ([(mm, .inr (21, [.int cx, .ref tp, .int (nI 0), .ref mf3, .ref mf4, .ref mf5, .ref en, .ref wi, .null, .null, .null, .ref mf11, .ref mf12, .ref mf13, .ref mf14, .ref mf15, .int (nI 0), .ref po, .int (nI 0), .ref mf19, .ref mf20, .int (nI 0), .null, .ref mf23, .ref mf24, .ref mf25, .ref mf26, .ref mf27, .ref mf28, .ref mf29, .ref mf30, .ref mf31, .ref mf32, .ref mf33, .int (nI 0), .int (nI 0), .int (nI 0), .ref mf37, .null, .ref mf39, .ref mf40, .null, .ref mf42]))], L, T)) := by
  refine z_ofW (E := E) (Qc := fun A => va_Qi (fun (r : Int32) (u : zU) => r = nI 0 ∧ u = ([(mm, .inr (21, [.int cx, .ref tp, .int (nI 0), .ref mf3, .ref mf4, .ref mf5, .ref en, .ref wi, .null, .null, .null, .ref mf11, .ref mf12, .ref mf13, .ref mf14, .ref mf15, .int (nI 0), .ref po, .int (nI 0), .ref mf19, .ref mf20, .int (nI 0), .null, .ref mf23, .ref mf24, .ref mf25, .ref mf26, .ref mf27, .ref mf28, .ref mf29, .ref mf30, .ref mf31, .ref mf32, .ref mf33, .int (nI 0), .int (nI 0), .int (nI 0), .ref mf37, .null, .ref mf39, .ref mf40, .null, .ref mf42]))], L, T)) (zB D vwCl (zT K) A X) A) (cc := cX21_fail) (maxL := 2) (ret := (some .int)) (by decide +kernel) rfl (Nat.le_of_ble_eq_true rfl) ?_
  intro p e s m below meth c A ls hx hb hml hr hts hown hlocks hin hA hK hZ hS hE hl
  have hown : s.vm.findClass RX21 = some m.cls := hown
  have hts : ∀ w ∈ WR, w.before [.ref mm, .int cx].toArray s = true := fun w h => hts w (List.mem_cons_of_mem _ h)
  have hl : lv_has ls 2 [(0, .ref mm), (1, .int cx)] := hl
  obtain ⟨H, hH⟩ : ∃ H, H = s.heap := ⟨_, rfl⟩
  have hZ : zP D vwCl A X [(mm, .inr (21, [.int tw, .ref tp, .int (nI 0), .ref mf3, .ref mf4, .ref mf5, .ref en, .ref wi, .null, .null, .null, .ref mf11, .ref mf12, .ref mf13, .ref mf14, .ref mf15, .int (nI 0), .ref po, .int (nI 0), .ref mf19, .ref mf20, .int (nI 0), .null, .ref mf23, .ref mf24, .ref mf25, .ref mf26, .ref mf27, .ref mf28, .ref mf29, .ref mf30, .ref mf31, .ref mf32, .ref mf33, .int (nI 0), .int (nI 0), .int (nI 0), .ref mf37, .null, .ref mf39, .ref mf40, .null, .ref mf42]))] L T H := by rw [hH]; exact hZ
  obtain ⟨locs, hlc⟩ : ∃ q : List Loc, q = [] := ⟨_, rfl⟩
  have hS : va_S A s.heap H locs := by rw [hH, hlc]; exact hS
  suffices hW : W p l e ROOM_X21_fail s m [.ref mm, .int cx].toArray below meth c H locs 0 0 (MQ below (va_Qi (fun (r : Int32) (u : zU) => r = nI 0 ∧ u = ([(mm, .inr (21, [.int cx, .ref tp, .int (nI 0), .ref mf3, .ref mf4, .ref mf5, .ref en, .ref wi, .null, .null, .null, .ref mf11, .ref mf12, .ref mf13, .ref mf14, .ref mf15, .int (nI 0), .ref po, .int (nI 0), .ref mf19, .ref mf20, .int (nI 0), .null, .ref mf23, .ref mf24, .ref mf25, .ref mf26, .ref mf27, .ref mf28, .ref mf29, .ref mf30, .ref mf31, .ref mf32, .ref mf33, .int (nI 0), .int (nI 0), .int (nI 0), .ref mf37, .null, .ref mf39, .ref mf40, .null, .ref mf42]))], L, T)) (zB D vwCl (zT K) A X) A) [.ref mm, .int cx].toArray s 0 0 A) (F0 m 0 ls []) by rw [hH, hlc] at hW; exact hW
  clear hH hlc
  refine lv_aload_n hx hb dX21_fail_0 rfl (lv_at hl 0 rfl) ?_
  refine lv_iload_n hx hb dX21_fail_1 rfl (lv_at hl 1 rfl) ?_
  refine z_put (own := RX21) (C := RX21) (TT := TX21) (N := 43) (ci := 21) (Ts := WR) (v := .int cx) (ty := .int) hx hb hts zin_wsX210 tyX21 tyX21_ok nmX21 hown hK hZ hS 0 rfl rfl 0 (by decide) (hts _ zw_324) (fun _ h9 => h9) rfl (by decide +kernel) rfl rfl (Nat.le_of_ble_eq_true rfl) dX21_fail_2 (fun H locs hZ hS => ?_)
  have hZ : zP D vwCl A X [(mm, .inr (21, [.int cx, .ref tp, .int (nI 0), .ref mf3, .ref mf4, .ref mf5, .ref en, .ref wi, .null, .null, .null, .ref mf11, .ref mf12, .ref mf13, .ref mf14, .ref mf15, .int (nI 0), .ref po, .int (nI 0), .ref mf19, .ref mf20, .int (nI 0), .null, .ref mf23, .ref mf24, .ref mf25, .ref mf26, .ref mf27, .ref mf28, .ref mf29, .ref mf30, .ref mf31, .ref mf32, .ref mf33, .int (nI 0), .int (nI 0), .int (nI 0), .ref mf37, .null, .ref mf39, .ref mf40, .null, .ref mf42]))] L T H := hZ
  refine lv_iconst (v := nI 0) hx hb dX21_fail_5 (by decide +kernel) ?_
  exact z_iret hx hb hr rfl hlocks hK hZ hS ⟨(by first | rfl | decide +kernel | exact congrArg nI (by omega)), rfl⟩ (Nat.le_of_ble_eq_true rfl) (Nat.le_of_ble_eq_true rfl) dX21_fail_6
abbrev ROOM_X21_thrown : Room := { frames := 1, cells := 0, slots := 0, locals := 0 }
set_option maxHeartbeats 4000000 in
set_option maxRecDepth 100000 in
/-- thrown -/
theorem c_X21_thrown (E : zEn) (l : Launch) (D : va_G) (K : Nat → ClassId) (X : va_W) (L : List Nat) (T : Nat → va_E → Prop) {mm : Nat} {tp mf3 mf4 mf5 en wi mf11 mf12 mf13 mf14 mf15 po mf19 mf20 mf23 mf24 mf25 mf26 mf27 mf28 mf29 mf30 mf31 mf32 mf33 mf37 mf39 mf40 mf42 : Nat} {tw tq pq : Int32}   : zVi E l D vwCl (zT K) yX21_thrown (zws yX21_thrown cX21_thrown 1 (some .int)) ROOM_X21_thrown 0 0 [.ref mm] X [(mm, .inr (21, [.int tw, .ref tp, .int tq, .ref mf3, .ref mf4, .ref mf5, .ref en, .ref wi, .null, .null, .null, .ref mf11, .ref mf12, .ref mf13, .ref mf14, .ref mf15, .int (nI 0), .ref po, .int pq, .ref mf19, .ref mf20, .int (nI 0), .null, .ref mf23, .ref mf24, .ref mf25, .ref mf26, .ref mf27, .ref mf28, .ref mf29, .ref mf30, .ref mf31, .ref mf32, .ref mf33, .int (nI 0), .int (nI 0), .int (nI 0), .ref mf37, .null, .ref mf39, .ref mf40, .null, .ref mf42]))] L T (fun (r : Int32) (u : zU) => r = tw ∧ u = ([(mm, .inr (21, [.int tw, .ref tp, .int tq, .ref mf3, .ref mf4, .ref mf5, .ref en, .ref wi, .null, .null, .null, .ref mf11, .ref mf12, .ref mf13, .ref mf14, .ref mf15, .int (nI 0), .ref po, .int pq, .ref mf19, .ref mf20, .int (nI 0), .null, .ref mf23, .ref mf24, .ref mf25, .ref mf26, .ref mf27, .ref mf28, .ref mf29, .ref mf30, .ref mf31, .ref mf32, .ref mf33, .int (nI 0), .int (nI 0), .int (nI 0), .ref mf37, .null, .ref mf39, .ref mf40, .null, .ref mf42]))], L, T)) := by
  refine z_ofW (E := E) (Qc := fun A => va_Qi (fun (r : Int32) (u : zU) => r = tw ∧ u = ([(mm, .inr (21, [.int tw, .ref tp, .int tq, .ref mf3, .ref mf4, .ref mf5, .ref en, .ref wi, .null, .null, .null, .ref mf11, .ref mf12, .ref mf13, .ref mf14, .ref mf15, .int (nI 0), .ref po, .int pq, .ref mf19, .ref mf20, .int (nI 0), .null, .ref mf23, .ref mf24, .ref mf25, .ref mf26, .ref mf27, .ref mf28, .ref mf29, .ref mf30, .ref mf31, .ref mf32, .ref mf33, .int (nI 0), .int (nI 0), .int (nI 0), .ref mf37, .null, .ref mf39, .ref mf40, .null, .ref mf42]))], L, T)) (zB D vwCl (zT K) A X) A) (cc := cX21_thrown) (maxL := 1) (ret := (some .int)) (by decide +kernel) rfl (Nat.le_of_ble_eq_true rfl) ?_
  intro p e s m below meth c A ls hx hb hml hr hts hown hlocks hin hA hK hZ hS hE hl
  have hown : s.vm.findClass RX21 = some m.cls := hown
  have hts : ∀ w ∈ WR, w.before [.ref mm].toArray s = true := fun w h => hts w (List.mem_cons_of_mem _ h)
  have hl : lv_has ls 1 [(0, .ref mm)] := hl
  obtain ⟨H, hH⟩ : ∃ H, H = s.heap := ⟨_, rfl⟩
  have hZ : zP D vwCl A X [(mm, .inr (21, [.int tw, .ref tp, .int tq, .ref mf3, .ref mf4, .ref mf5, .ref en, .ref wi, .null, .null, .null, .ref mf11, .ref mf12, .ref mf13, .ref mf14, .ref mf15, .int (nI 0), .ref po, .int pq, .ref mf19, .ref mf20, .int (nI 0), .null, .ref mf23, .ref mf24, .ref mf25, .ref mf26, .ref mf27, .ref mf28, .ref mf29, .ref mf30, .ref mf31, .ref mf32, .ref mf33, .int (nI 0), .int (nI 0), .int (nI 0), .ref mf37, .null, .ref mf39, .ref mf40, .null, .ref mf42]))] L T H := by rw [hH]; exact hZ
  obtain ⟨locs, hlc⟩ : ∃ q : List Loc, q = [] := ⟨_, rfl⟩
  have hS : va_S A s.heap H locs := by rw [hH, hlc]; exact hS
  suffices hW : W p l e ROOM_X21_thrown s m [.ref mm].toArray below meth c H locs 0 0 (MQ below (va_Qi (fun (r : Int32) (u : zU) => r = tw ∧ u = ([(mm, .inr (21, [.int tw, .ref tp, .int tq, .ref mf3, .ref mf4, .ref mf5, .ref en, .ref wi, .null, .null, .null, .ref mf11, .ref mf12, .ref mf13, .ref mf14, .ref mf15, .int (nI 0), .ref po, .int pq, .ref mf19, .ref mf20, .int (nI 0), .null, .ref mf23, .ref mf24, .ref mf25, .ref mf26, .ref mf27, .ref mf28, .ref mf29, .ref mf30, .ref mf31, .ref mf32, .ref mf33, .int (nI 0), .int (nI 0), .int (nI 0), .ref mf37, .null, .ref mf39, .ref mf40, .null, .ref mf42]))], L, T)) (zB D vwCl (zT K) A X) A) [.ref mm].toArray s 0 0 A) (F0 m 0 ls []) by rw [hH, hlc] at hW; exact hW
  clear hH hlc
  refine lv_aload_n hx hb dX21_thrown_0 rfl (lv_at hl 0 rfl) ?_
  refine z_getY (own := RX21) (C := RX21) (TT := TX21) (N := 43) (ci := 21) (Ts := WR) hx hb hts zin_wsX210 hown hK hZ 0 rfl rfl 0 (by decide) (hts _ zw_324) (fun _ h9 => h9) rfl dX21_thrown_1 ?_
  exact z_iret hx hb hr rfl hlocks hK hZ hS ⟨(by first | rfl | decide +kernel | exact congrArg nI (by omega)), rfl⟩ (Nat.le_of_ble_eq_true rfl) (Nat.le_of_ble_eq_true rfl) dX21_thrown_4
abbrev ROOM_X21_none : Room := { frames := 1, cells := 0, slots := 0, locals := 0 }
set_option maxHeartbeats 4000000 in
set_option maxRecDepth 100000 in
/-- none -/
theorem c_X21_none (E : zEn) (l : Launch) (D : va_G) (K : Nat → ClassId) (X Y : va_W) (L : List Nat) (T : Nat → va_E → Prop) {ee : Int32}    : zVi E l D vwCl (zT K) yX21_none (zws yX21_none cX21_none 1 (some .boolean)) ROOM_X21_none 0 0 [.int ee] X Y L T (fun (r : Int32) (u : zU) => ((r = nI 1 ∧ ¬ (ee.toInt = 0 ∨ ee.toInt = 1)) ∨ (r = nI 0 ∧ (ee.toInt = 0 ∨ ee.toInt = 1))) ∧ u = (Y, L, T)) := by
  refine z_ofW (E := E) (Qc := fun A => va_Qi (fun (r : Int32) (u : zU) => ((r = nI 1 ∧ ¬ (ee.toInt = 0 ∨ ee.toInt = 1)) ∨ (r = nI 0 ∧ (ee.toInt = 0 ∨ ee.toInt = 1))) ∧ u = (Y, L, T)) (zB D vwCl (zT K) A X) A) (cc := cX21_none) (maxL := 1) (ret := (some .boolean)) (by decide +kernel) rfl (Nat.le_of_ble_eq_true rfl) ?_
  intro p e s m below meth c A ls hx hb hml hr hts hown hlocks hin hA hK hZ hS hE hl
  have hown : s.vm.findClass RX21 = some m.cls := hown
  have hts : ∀ w ∈ WR, w.before [.int ee].toArray s = true := fun w h => hts w (List.mem_cons_of_mem _ h)
  have hl : lv_has ls 1 [(0, .int ee)] := hl
  obtain ⟨H, hH⟩ : ∃ H, H = s.heap := ⟨_, rfl⟩
  have hZ : zP D vwCl A X Y L T H := by rw [hH]; exact hZ
  obtain ⟨locs, hlc⟩ : ∃ q : List Loc, q = [] := ⟨_, rfl⟩
  have hS : va_S A s.heap H locs := by rw [hH, hlc]; exact hS
  suffices hW : W p l e ROOM_X21_none s m [.int ee].toArray below meth c H locs 0 0 (MQ below (va_Qi (fun (r : Int32) (u : zU) => ((r = nI 1 ∧ ¬ (ee.toInt = 0 ∨ ee.toInt = 1)) ∨ (r = nI 0 ∧ (ee.toInt = 0 ∨ ee.toInt = 1))) ∧ u = (Y, L, T)) (zB D vwCl (zT K) A X) A) [.int ee].toArray s 0 0 A) (F0 m 0 ls []) by rw [hH, hlc] at hW; exact hW
  clear hH hlc
  refine lv_iload_n hx hb dX21_none_0 rfl (lv_at hl 0 rfl) ?_
  refine lv_if_lt (tgt := 9) hx hb dX21_none_1 (by decide) (fun c1 => ?_) (fun c1 => ?_)
  · have i1 : ee.toInt < 0 := (by have h := zq_lt_t c1; have e : (0 : Int32).toInt = 0 := (by decide +kernel); omega)
    refine lv_iconst (v := nI 1) hx hb dX21_none_9 (by decide +kernel) ?_
    refine lv_goto (tgt := 14) hx hb dX21_none_10 (by decide) ?_
    exact z_iret hx hb hr (by decide +kernel) hlocks hK hZ hS ⟨(Or.inl ⟨rfl, by omega⟩), rfl⟩ (Nat.le_of_ble_eq_true rfl) (Nat.le_of_ble_eq_true rfl) dX21_none_14
  · have i1 : ee.toInt ≥ 0 := (by have h := zq_lt_f c1; have e : (0 : Int32).toInt = 0 := (by decide +kernel); omega)
    refine lv_iload_n hx hb dX21_none_4 rfl (lv_at hl 0 rfl) ?_
    refine lv_iconst (v := nI 1) hx hb dX21_none_5 (by decide +kernel) ?_
    refine lv_icmp_le (tgt := 13) hx hb dX21_none_6 (by decide) (fun c6 => ?_) (fun c6 => ?_)
    · have i6 : ee.toInt ≤ 1 := (by have h := zq_le_t c6; have e : (nI 1 : Int32).toInt = 1 := (by decide +kernel); omega)
      refine lv_iconst (v := nI 0) hx hb dX21_none_13 (by decide +kernel) ?_
      exact z_iret hx hb hr (by decide +kernel) hlocks hK hZ hS ⟨(Or.inr (⟨rfl, by omega⟩)), rfl⟩ (Nat.le_of_ble_eq_true rfl) (Nat.le_of_ble_eq_true rfl) dX21_none_14
    · have i6 : ee.toInt > 1 := (by have h := zq_le_f c6; have e : (nI 1 : Int32).toInt = 1 := (by decide +kernel); omega)
      refine lv_iconst (v := nI 1) hx hb dX21_none_9 (by decide +kernel) ?_
      refine lv_goto (tgt := 14) hx hb dX21_none_10 (by decide) ?_
      exact z_iret hx hb hr (by decide +kernel) hlocks hK hZ hS ⟨(Or.inl ⟨rfl, by omega⟩), rfl⟩ (Nat.le_of_ble_eq_true rfl) (Nat.le_of_ble_eq_true rfl) dX21_none_14
abbrev ROOM_X21_used : Room := { frames := 1, cells := 0, slots := 0, locals := 0 }
set_option maxHeartbeats 4000000 in
set_option maxRecDepth 100000 in
/-- used -/
theorem c_X21_used (E : zEn) (l : Launch) (D : va_G) (K : Nat → ClassId) (X Y : va_W) (L : List Nat) (T : Nat → va_E → Prop) {ss : Nat}  (h_ss : ss ∈ L) (k_ss : T ss = zOp 20 zSd)  : zVi E l D vwCl (zT K) yX21_used (zws yX21_used cX21_used 1 (some .boolean)) ROOM_X21_used 0 0 [.ref ss] X Y L T (fun (r : Int32) (u : zU) => r = nI 0 ∧ u = (Y, L, T)) := by
  refine z_ofW (E := E) (Qc := fun A => va_Qi (fun (r : Int32) (u : zU) => r = nI 0 ∧ u = (Y, L, T)) (zB D vwCl (zT K) A X) A) (cc := cX21_used) (maxL := 1) (ret := (some .boolean)) (by decide +kernel) rfl (Nat.le_of_ble_eq_true rfl) ?_
  intro p e s m below meth c A ls hx hb hml hr hts hown hlocks hin hA hK hZ hS hE hl
  have hown : s.vm.findClass RX21 = some m.cls := hown
  have hts : ∀ w ∈ WR, w.before [.ref ss].toArray s = true := fun w h => hts w (List.mem_cons_of_mem _ h)
  have hl : lv_has ls 1 [(0, .ref ss)] := hl
  obtain ⟨H, hH⟩ : ∃ H, H = s.heap := ⟨_, rfl⟩
  have hZ : zP D vwCl A X Y L T H := by rw [hH]; exact hZ
  obtain ⟨locs, hlc⟩ : ∃ q : List Loc, q = [] := ⟨_, rfl⟩
  have hS : va_S A s.heap H locs := by rw [hH, hlc]; exact hS
  suffices hW : W p l e ROOM_X21_used s m [.ref ss].toArray below meth c H locs 0 0 (MQ below (va_Qi (fun (r : Int32) (u : zU) => r = nI 0 ∧ u = (Y, L, T)) (zB D vwCl (zT K) A X) A) [.ref ss].toArray s 0 0 A) (F0 m 0 ls []) by rw [hH, hlc] at hW; exact hW
  clear hH hlc
  refine lv_aload_n hx hb dX21_used_0 rfl (lv_at hl 0 rfl) ?_
  refine z_getPp (own := RX21) (C := RX20) (TT := TX20) (N := 27) (ci := 20) (Ts := WR) (v := .int (-1)) hx hb hts zin_wsX200 hown hK hZ h_ss k_ss rfl 2 (by decide) (hts _ zw_408) (fun _ h9 => h9) (fun _ h => h.1) dX21_used_1 ?_
  refine lv_if_eq (tgt := 15) hx hb dX21_used_4 (by decide) (fun c4 => absurd c4 (by decide +kernel)) (fun c4 => ?_)
  clear c4
  refine lv_aload_n hx hb dX21_used_7 rfl (lv_at hl 0 rfl) ?_
  refine z_getPp (own := RX21) (C := RX20) (TT := TX20) (N := 27) (ci := 20) (Ts := WR) (v := .int (-1)) hx hb hts zin_wsX200 hown hK hZ h_ss k_ss rfl 2 (by decide) (hts _ zw_408) (fun _ h9 => h9) (fun _ h => h.1) dX21_used_8 ?_
  refine lv_iconst (v := nI 1) hx hb dX21_used_11 (by decide +kernel) ?_
  refine lv_icmp_ne (tgt := 19) hx hb dX21_used_12 (by decide) (fun c12 => ?_) (fun c12 => absurd c12 (by decide +kernel))
  clear c12
  refine lv_iconst (v := nI 0) hx hb dX21_used_19 (by decide +kernel) ?_
  exact z_iret hx hb hr (by decide +kernel) hlocks hK hZ hS ⟨(by first | rfl | decide +kernel | exact congrArg nI (by omega)), rfl⟩ (Nat.le_of_ble_eq_true rfl) (Nat.le_of_ble_eq_true rfl) dX21_used_20
abbrev ROOM_X19_size : Room := { frames := 1, cells := 0, slots := 0, locals := 0 }
set_option maxHeartbeats 4000000 in
set_option maxRecDepth 100000 in
/-- size -/
theorem c_X19_size (E : zEn) (l : Launch) (D : va_G) (K : Nat → ClassId) (X Y : va_W) (L : List Nat) (T : Nat → va_E → Prop) {r : Nat}  (h_r : r ∈ L) (k_r : T r = zOp 19 zRw)  : zVi E l D vwCl (zT K) yX19_size (zws yX19_size cX19_size 1 (some .int)) ROOM_X19_size 0 0 [.ref r] X Y L T (fun (r : Int32) (u : zU) => r = nI 0 ∧ u = (Y, L, T)) := by
  refine z_ofW (E := E) (Qc := fun A => va_Qi (fun (r : Int32) (u : zU) => r = nI 0 ∧ u = (Y, L, T)) (zB D vwCl (zT K) A X) A) (cc := cX19_size) (maxL := 1) (ret := (some .int)) (by decide +kernel) rfl (Nat.le_of_ble_eq_true rfl) ?_
  intro p e s m below meth c A ls hx hb hml hr hts hown hlocks hin hA hK hZ hS hE hl
  have hown : s.vm.findClass RX19 = some m.cls := hown
  have hts : ∀ w ∈ WR, w.before [.ref r].toArray s = true := fun w h => hts w (List.mem_cons_of_mem _ h)
  have hl : lv_has ls 1 [(0, .ref r)] := hl
  obtain ⟨H, hH⟩ : ∃ H, H = s.heap := ⟨_, rfl⟩
  have hZ : zP D vwCl A X Y L T H := by rw [hH]; exact hZ
  obtain ⟨locs, hlc⟩ : ∃ q : List Loc, q = [] := ⟨_, rfl⟩
  have hS : va_S A s.heap H locs := by rw [hH, hlc]; exact hS
  suffices hW : W p l e ROOM_X19_size s m [.ref r].toArray below meth c H locs 0 0 (MQ below (va_Qi (fun (r : Int32) (u : zU) => r = nI 0 ∧ u = (Y, L, T)) (zB D vwCl (zT K) A X) A) [.ref r].toArray s 0 0 A) (F0 m 0 ls []) by rw [hH, hlc] at hW; exact hW
  clear hH hlc
  refine lv_aload_n hx hb dX19_size_0 rfl (lv_at hl 0 rfl) ?_
  refine z_getPp (own := RX19) (C := RX19) (TT := TX19) (N := 3) (ci := 19) (Ts := WR) (v := .int (nI 0)) hx hb hts zin_wsX190 hown hK hZ h_r k_r rfl 1 (by decide) (hts _ zw_241) (fun _ h9 => h9) (fun _ h => h.1) dX19_size_1 ?_
  refine lv_aload_n hx hb dX19_size_4 rfl (lv_at hl 0 rfl) ?_
  refine z_getPp (own := RX19) (C := RX19) (TT := TX19) (N := 3) (ci := 19) (Ts := WR) (v := .int (nI 0)) hx hb hts zin_wsX190 hown hK hZ h_r k_r rfl 2 (by decide) (hts _ zw_242) (fun _ h9 => h9) (fun _ h => h.2) dX19_size_5 ?_
  refine lv_isub hx hb dX19_size_8 ?_
  refine lv_topi (fun x1 ex1 => ?_)
  obtain rfl : x1 = nI 0 := ex1.trans (by decide +kernel)
  exact z_iret hx hb hr rfl hlocks hK hZ hS ⟨(by first | rfl | decide +kernel | exact congrArg nI (by omega)), rfl⟩ (Nat.le_of_ble_eq_true rfl) (Nat.le_of_ble_eq_true rfl) dX19_size_9
abbrev ROOM_X19_add__z : Room := { frames := 1, cells := 0, slots := 0, locals := 0 }
set_option maxHeartbeats 4000000 in
set_option maxRecDepth 100000 in
/-- add of nothing -/
theorem c_X19_add__z (E : zEn) (l : Launch) (D : va_G) (K : Nat → ClassId) (X Y : va_W) (L : List Nat) (T : Nat → va_E → Prop) {r : Nat} {b : Nat}  (h_r : r ∈ L) (k_r : T r = zOp 19 zRw)  : zV E l D vwCl (zT K) yX19_add_ (zws yX19_add_ cX19_add_ 5 none) ROOM_X19_add__z 0 0 [.ref r, .ref b, .int (nI 0), .int (nI 0)] X Y L T (zSame Y L T) := by
  refine z_ofW (E := E) (Qc := fun A => va_Qv (zSame Y L T) (zB D vwCl (zT K) A X) A) (cc := cX19_add_) (maxL := 5) (ret := none) (by decide +kernel) rfl (Nat.le_of_ble_eq_true rfl) ?_
  intro p e s m below meth c A ls hx hb hml hr hts hown hlocks hin hA hK hZ hS hE hl
  have hown : s.vm.findClass RX19 = some m.cls := hown
  have hts : ∀ w ∈ WR, w.before [.ref r, .ref b, .int (nI 0), .int (nI 0)].toArray s = true := fun w h => hts w (List.mem_cons_of_mem _ h)
  have hl : lv_has ls 5 [(0, .ref r), (1, .ref b), (2, .int (nI 0)), (3, .int (nI 0))] := hl
  obtain ⟨H, hH⟩ : ∃ H, H = s.heap := ⟨_, rfl⟩
  have hZ : zP D vwCl A X Y L T H := by rw [hH]; exact hZ
  obtain ⟨locs, hlc⟩ : ∃ q : List Loc, q = [] := ⟨_, rfl⟩
  have hS : va_S A s.heap H locs := by rw [hH, hlc]; exact hS
  suffices hW : W p l e ROOM_X19_add__z s m [.ref r, .ref b, .int (nI 0), .int (nI 0)].toArray below meth c H locs 0 0 (MQ below (va_Qv (zSame Y L T) (zB D vwCl (zT K) A X) A) [.ref r, .ref b, .int (nI 0), .int (nI 0)].toArray s 0 0 A) (F0 m 0 ls []) by rw [hH, hlc] at hW; exact hW
  clear hH hlc
  refine lv_iconst (v := nI 0) hx hb dX19_add__0 (by decide +kernel) ?_
  refine lv_istore (lv' := [(4, .int (nI 0)), (0, .ref r), (1, .ref b), (2, .int (nI 0)), (3, .int (nI 0))]) hx hb dX19_add__1 hl (by decide) rfl (fun ls hl => ?_)
  refine lv_iload hx hb dX19_add__3 (lv_at hl 0 rfl) ?_
  refine lv_iload_n hx hb dX19_add__5 rfl (lv_at hl 4 rfl) ?_
  refine lv_icmp_ge (tgt := 25) hx hb dX19_add__6 (by decide) (fun c6 => ?_) (fun c6 => absurd c6 (by decide +kernel))
  clear c6
  exact z_vret hx hb hr hlocks hK hZ hS rfl (Nat.le_of_ble_eq_true rfl) (Nat.le_of_ble_eq_true rfl) dX19_add__25
abbrev ROOM_X21_bytesStored : Room := { frames := 1, cells := 0, slots := 0, locals := 0 }
set_option maxHeartbeats 4000000 in
set_option maxRecDepth 100000 in
/-- bytesStored -/
theorem c_X21_bytesStored (E : zEn) (l : Launch) (D : va_G) (K : Nat → ClassId) (X : va_W) (L : List Nat) (T : Nat → va_E → Prop) {mm : Nat} {tp mf3 mf4 mf5 en wi mf11 mf12 mf13 mf14 mf15 po mf19 mf20 mf23 mf24 mf25 mf26 mf27 mf28 mf29 mf30 mf31 mf32 mf33 mf37 mf39 mf40 mf42 : Nat}   : zVi E l D vwCl (zT K) yX21_bytesStored (zws yX21_bytesStored cX21_bytesStored 3 (some .int)) ROOM_X21_bytesStored 0 0 [.ref mm] X [(mm, .inr (21, [.int (nI 0), .ref tp, .int (nI 0), .ref mf3, .ref mf4, .ref mf5, .ref en, .ref wi, .null, .null, .null, .ref mf11, .ref mf12, .ref mf13, .ref mf14, .ref mf15, .int (nI 0), .ref po, .int (nI 0), .ref mf19, .ref mf20, .int (nI 0), .null, .ref mf23, .ref mf24, .ref mf25, .ref mf26, .ref mf27, .ref mf28, .ref mf29, .ref mf30, .ref mf31, .ref mf32, .ref mf33, .int (nI 0), .int (nI 0), .int (nI 0), .ref mf37, .null, .ref mf39, .ref mf40, .null, .ref mf42]))] L T (fun (r : Int32) (u : zU) => r = nI 0 ∧ u = ([(mm, .inr (21, [.int (nI 0), .ref tp, .int (nI 0), .ref mf3, .ref mf4, .ref mf5, .ref en, .ref wi, .null, .null, .null, .ref mf11, .ref mf12, .ref mf13, .ref mf14, .ref mf15, .int (nI 0), .ref po, .int (nI 0), .ref mf19, .ref mf20, .int (nI 0), .null, .ref mf23, .ref mf24, .ref mf25, .ref mf26, .ref mf27, .ref mf28, .ref mf29, .ref mf30, .ref mf31, .ref mf32, .ref mf33, .int (nI 0), .int (nI 0), .int (nI 0), .ref mf37, .null, .ref mf39, .ref mf40, .null, .ref mf42]))], L, T)) := by
  refine z_ofW (E := E) (Qc := fun A => va_Qi (fun (r : Int32) (u : zU) => r = nI 0 ∧ u = ([(mm, .inr (21, [.int (nI 0), .ref tp, .int (nI 0), .ref mf3, .ref mf4, .ref mf5, .ref en, .ref wi, .null, .null, .null, .ref mf11, .ref mf12, .ref mf13, .ref mf14, .ref mf15, .int (nI 0), .ref po, .int (nI 0), .ref mf19, .ref mf20, .int (nI 0), .null, .ref mf23, .ref mf24, .ref mf25, .ref mf26, .ref mf27, .ref mf28, .ref mf29, .ref mf30, .ref mf31, .ref mf32, .ref mf33, .int (nI 0), .int (nI 0), .int (nI 0), .ref mf37, .null, .ref mf39, .ref mf40, .null, .ref mf42]))], L, T)) (zB D vwCl (zT K) A X) A) (cc := cX21_bytesStored) (maxL := 3) (ret := (some .int)) (by decide +kernel) rfl (Nat.le_of_ble_eq_true rfl) ?_
  intro p e s m below meth c A ls hx hb hml hr hts hown hlocks hin hA hK hZ hS hE hl
  have hown : s.vm.findClass RX21 = some m.cls := hown
  have hts : ∀ w ∈ WR, w.before [.ref mm].toArray s = true := fun w h => hts w (List.mem_cons_of_mem _ h)
  have hl : lv_has ls 3 [(0, .ref mm)] := hl
  obtain ⟨H, hH⟩ : ∃ H, H = s.heap := ⟨_, rfl⟩
  have hZ : zP D vwCl A X [(mm, .inr (21, [.int (nI 0), .ref tp, .int (nI 0), .ref mf3, .ref mf4, .ref mf5, .ref en, .ref wi, .null, .null, .null, .ref mf11, .ref mf12, .ref mf13, .ref mf14, .ref mf15, .int (nI 0), .ref po, .int (nI 0), .ref mf19, .ref mf20, .int (nI 0), .null, .ref mf23, .ref mf24, .ref mf25, .ref mf26, .ref mf27, .ref mf28, .ref mf29, .ref mf30, .ref mf31, .ref mf32, .ref mf33, .int (nI 0), .int (nI 0), .int (nI 0), .ref mf37, .null, .ref mf39, .ref mf40, .null, .ref mf42]))] L T H := by rw [hH]; exact hZ
  obtain ⟨locs, hlc⟩ : ∃ q : List Loc, q = [] := ⟨_, rfl⟩
  have hS : va_S A s.heap H locs := by rw [hH, hlc]; exact hS
  suffices hW : W p l e ROOM_X21_bytesStored s m [.ref mm].toArray below meth c H locs 0 0 (MQ below (va_Qi (fun (r : Int32) (u : zU) => r = nI 0 ∧ u = ([(mm, .inr (21, [.int (nI 0), .ref tp, .int (nI 0), .ref mf3, .ref mf4, .ref mf5, .ref en, .ref wi, .null, .null, .null, .ref mf11, .ref mf12, .ref mf13, .ref mf14, .ref mf15, .int (nI 0), .ref po, .int (nI 0), .ref mf19, .ref mf20, .int (nI 0), .null, .ref mf23, .ref mf24, .ref mf25, .ref mf26, .ref mf27, .ref mf28, .ref mf29, .ref mf30, .ref mf31, .ref mf32, .ref mf33, .int (nI 0), .int (nI 0), .int (nI 0), .ref mf37, .null, .ref mf39, .ref mf40, .null, .ref mf42]))], L, T)) (zB D vwCl (zT K) A X) A) [.ref mm].toArray s 0 0 A) (F0 m 0 ls []) by rw [hH, hlc] at hW; exact hW
  clear hH hlc
  refine lv_iconst (v := nI 0) hx hb dX21_bytesStored_0 (by decide +kernel) ?_
  refine lv_istore_n (lv' := [(1, .int (nI 0)), (0, .ref mm)]) hx hb dX21_bytesStored_1 rfl hl (by decide) rfl (fun ls hl => ?_)
  refine lv_iconst (v := nI 0) hx hb dX21_bytesStored_2 (by decide +kernel) ?_
  refine lv_istore_n (lv' := [(2, .int (nI 0)), (1, .int (nI 0)), (0, .ref mm)]) hx hb dX21_bytesStored_3 rfl hl (by decide) rfl (fun ls hl => ?_)
  refine lv_iload_n hx hb dX21_bytesStored_4 rfl (lv_at hl 0 rfl) ?_
  refine lv_aload_n hx hb dX21_bytesStored_5 rfl (lv_at hl 2 rfl) ?_
  refine z_getY (own := RX21) (C := RX21) (TT := TX21) (N := 43) (ci := 21) (Ts := WR) hx hb hts zin_wsX210 hown hK hZ 0 rfl rfl 21 (by decide) (hts _ zw_455) (fun _ h9 => h9) rfl dX21_bytesStored_6 ?_
  refine lv_icmp_ge (tgt := 28) hx hb dX21_bytesStored_9 (by decide) (fun c9 => ?_) (fun c9 => absurd c9 (by decide +kernel))
  clear c9
  refine lv_iload_n hx hb dX21_bytesStored_28 rfl (lv_at hl 1 rfl) ?_
  exact z_iret hx hb hr rfl hlocks hK hZ hS ⟨(by first | rfl | decide +kernel | exact congrArg nI (by omega)), rfl⟩ (Nat.le_of_ble_eq_true rfl) (Nat.le_of_ble_eq_true rfl) dX21_bytesStored_29
abbrev ROOM_X21_live : Room := { frames := 2, cells := 0, slots := 0, locals := 20 }
set_option maxHeartbeats 4000000 in
set_option maxRecDepth 100000 in
/-- live -/
theorem c_X21_live (E : zEn) (l : Launch) (D : va_G) (K : Nat → ClassId) (X : va_W) (L : List Nat) (T : Nat → va_E → Prop) {mm : Nat} {k : Int32} {e0 : Nat} {tp mf3 mf4 mf5 en wi mf11 mf12 mf13 mf14 mf15 po mf19 mf20 mf23 mf24 mf25 mf26 mf27 mf28 mf29 mf30 mf31 mf32 mf33 mf37 mf39 mf40 mf42 : Nat} {e1 s0 o0 d0 : Nat} {g0 : Nat → Option Nat} (h_e0 : e0 ∈ L) (k_e0 : T e0 = zOp 16 (zEn9 (nI 0) s0 o0 d0)) (hg0 : zAll 16 g0 L T (zOp 20 zSd)) : zVq E l D vwCl (zT K) yX21_live (zws yX21_live cX21_live 3 (some (.object "ShellPairModel$Side"))) ROOM_X21_live 0 0 [.ref mm, .int k] X [(mm, .inr (21, [.int (nI 0), .ref tp, .int (nI 0), .ref mf3, .ref mf4, .ref mf5, .ref en, .ref wi, .null, .null, .null, .ref mf11, .ref mf12, .ref mf13, .ref mf14, .ref mf15, .int (nI 0), .ref po, .int (nI 0), .ref mf19, .ref mf20, .int (nI 0), .null, .ref mf23, .ref mf24, .ref mf25, .ref mf26, .ref mf27, .ref mf28, .ref mf29, .ref mf30, .ref mf31, .ref mf32, .ref mf33, .int (nI 0), .int (nI 0), .int (nI 0), .ref mf37, .null, .ref mf39, .ref mf40, .null, .ref mf42])), (en, .inl (K 6, 2, .inr (.inr (.inr (.inr (va_up (va_up (fun _ => none) (nI 0).toNatClampNeg (some e0)) (nI 1).toNatClampNeg (some e1))))))), (d0, .inl (K 8, 16, .inr (.inr (.inr (.inr g0)))))] L T (fun (r : Option Nat) (u : zU) => r = none ∧ u = ([(mm, .inr (21, [.int (nI 0), .ref tp, .int (nI 0), .ref mf3, .ref mf4, .ref mf5, .ref en, .ref wi, .null, .null, .null, .ref mf11, .ref mf12, .ref mf13, .ref mf14, .ref mf15, .int (nI 0), .ref po, .int (nI 0), .ref mf19, .ref mf20, .int (nI 0), .null, .ref mf23, .ref mf24, .ref mf25, .ref mf26, .ref mf27, .ref mf28, .ref mf29, .ref mf30, .ref mf31, .ref mf32, .ref mf33, .int (nI 0), .int (nI 0), .int (nI 0), .ref mf37, .null, .ref mf39, .ref mf40, .null, .ref mf42])), (en, .inl (K 6, 2, .inr (.inr (.inr (.inr (va_up (va_up (fun _ => none) (nI 0).toNatClampNeg (some e0)) (nI 1).toNatClampNeg (some e1))))))), (d0, .inl (K 8, 16, .inr (.inr (.inr (.inr g0)))))], L, T)) := by
  refine z_ofW (E := E) (Qc := fun A => va_Qq (fun (r : Option Nat) (u : zU) => r = none ∧ u = ([(mm, .inr (21, [.int (nI 0), .ref tp, .int (nI 0), .ref mf3, .ref mf4, .ref mf5, .ref en, .ref wi, .null, .null, .null, .ref mf11, .ref mf12, .ref mf13, .ref mf14, .ref mf15, .int (nI 0), .ref po, .int (nI 0), .ref mf19, .ref mf20, .int (nI 0), .null, .ref mf23, .ref mf24, .ref mf25, .ref mf26, .ref mf27, .ref mf28, .ref mf29, .ref mf30, .ref mf31, .ref mf32, .ref mf33, .int (nI 0), .int (nI 0), .int (nI 0), .ref mf37, .null, .ref mf39, .ref mf40, .null, .ref mf42])), (en, .inl (K 6, 2, .inr (.inr (.inr (.inr (va_up (va_up (fun _ => none) (nI 0).toNatClampNeg (some e0)) (nI 1).toNatClampNeg (some e1))))))), (d0, .inl (K 8, 16, .inr (.inr (.inr (.inr g0)))))], L, T)) (zB D vwCl (zT K) A X) A) (cc := cX21_live) (maxL := 3) (ret := (some (.object "ShellPairModel$Side"))) (by decide +kernel) rfl (Nat.le_of_ble_eq_true rfl) ?_
  intro p e s m below meth c A ls hx hb hml hr hts hown hlocks hin hA hK hZ hS hE hl
  have hown : s.vm.findClass RX21 = some m.cls := hown
  have hts : ∀ w ∈ WR, w.before [.ref mm, .int k].toArray s = true := fun w h => hts w (List.mem_cons_of_mem _ h)
  have hl : lv_has ls 3 [(0, .ref mm), (1, .int k)] := hl
  obtain ⟨H, hH⟩ : ∃ H, H = s.heap := ⟨_, rfl⟩
  have hZ : zP D vwCl A X [(mm, .inr (21, [.int (nI 0), .ref tp, .int (nI 0), .ref mf3, .ref mf4, .ref mf5, .ref en, .ref wi, .null, .null, .null, .ref mf11, .ref mf12, .ref mf13, .ref mf14, .ref mf15, .int (nI 0), .ref po, .int (nI 0), .ref mf19, .ref mf20, .int (nI 0), .null, .ref mf23, .ref mf24, .ref mf25, .ref mf26, .ref mf27, .ref mf28, .ref mf29, .ref mf30, .ref mf31, .ref mf32, .ref mf33, .int (nI 0), .int (nI 0), .int (nI 0), .ref mf37, .null, .ref mf39, .ref mf40, .null, .ref mf42])), (en, .inl (K 6, 2, .inr (.inr (.inr (.inr (va_up (va_up (fun _ => none) (nI 0).toNatClampNeg (some e0)) (nI 1).toNatClampNeg (some e1))))))), (d0, .inl (K 8, 16, .inr (.inr (.inr (.inr g0)))))] L T H := by rw [hH]; exact hZ
  obtain ⟨locs, hlc⟩ : ∃ q : List Loc, q = [] := ⟨_, rfl⟩
  have hS : va_S A s.heap H locs := by rw [hH, hlc]; exact hS
  suffices hW : W p l e ROOM_X21_live s m [.ref mm, .int k].toArray below meth c H locs 0 0 (MQ below (va_Qq (fun (r : Option Nat) (u : zU) => r = none ∧ u = ([(mm, .inr (21, [.int (nI 0), .ref tp, .int (nI 0), .ref mf3, .ref mf4, .ref mf5, .ref en, .ref wi, .null, .null, .null, .ref mf11, .ref mf12, .ref mf13, .ref mf14, .ref mf15, .int (nI 0), .ref po, .int (nI 0), .ref mf19, .ref mf20, .int (nI 0), .null, .ref mf23, .ref mf24, .ref mf25, .ref mf26, .ref mf27, .ref mf28, .ref mf29, .ref mf30, .ref mf31, .ref mf32, .ref mf33, .int (nI 0), .int (nI 0), .int (nI 0), .ref mf37, .null, .ref mf39, .ref mf40, .null, .ref mf42])), (en, .inl (K 6, 2, .inr (.inr (.inr (.inr (va_up (va_up (fun _ => none) (nI 0).toNatClampNeg (some e0)) (nI 1).toNatClampNeg (some e1))))))), (d0, .inl (K 8, 16, .inr (.inr (.inr (.inr g0)))))], L, T)) (zB D vwCl (zT K) A X) A) [.ref mm, .int k].toArray s 0 0 A) (F0 m 0 ls []) by rw [hH, hlc] at hW; exact hW
  clear hH hlc
  refine lv_iload_n hx hb dX21_live_0 rfl (lv_at hl 1 rfl) ?_
  refine lv_if_lt (tgt := 10) hx hb dX21_live_1 (by decide) (fun c1 => ?_) (fun c1 => ?_)
  · have i1 : k.toInt < 0 := (by have h := zq_lt_t c1; have e : (0 : Int32).toInt = 0 := (by decide +kernel); omega)
    refine lv_null hx hb dX21_live_10 ?_
    refine lv_goto (tgt := 25) hx hb dX21_live_11 (by decide) ?_
    refine lv_astore_nN (lv' := [(2, .null), (0, .ref mm), (1, .int k)]) hx hb dX21_live_25 rfl hl (by decide) rfl (fun ls hl => ?_)
    refine lv_aload_nN hx hb dX21_live_26 rfl (lv_at hl 0 rfl) ?_
    refine lv_ifnullN (tgt := 37) hx hb dX21_live_27 (by decide) ?_
    refine lv_null hx hb dX21_live_37 ?_
    refine lv_goto (tgt := 42) hx hb dX21_live_38 (by decide) ?_
    exact z_aret (r := none) hx hb hr (Or.inl ⟨_, rfl⟩) hlocks hK hZ hS ⟨(by first | rfl | decide +kernel | exact congrArg nI (by omega)), rfl⟩ (Nat.le_of_ble_eq_true rfl) (Nat.le_of_ble_eq_true rfl) dX21_live_42
  · have i1 : k.toInt ≥ 0 := (by have h := zq_lt_f c1; have e : (0 : Int32).toInt = 0 := (by decide +kernel); omega)
    refine lv_iload_n hx hb dX21_live_4 rfl (lv_at hl 1 rfl) ?_
    refine lv_bipush (v := nI 15) hx hb dX21_live_5 (by decide +kernel) ?_
    refine lv_icmp_le (tgt := 14) hx hb dX21_live_7 (by decide) (fun c7 => ?_) (fun c7 => ?_)
    · have i7 : k.toInt ≤ 15 := (by have h := zq_le_t c7; have e : (nI 15 : Int32).toInt = 15 := (by decide +kernel); omega)
      refine lv_aload_n hx hb dX21_live_14 rfl (lv_at hl 0 rfl) ?_
      refine z_getY (own := RX21) (C := RX21) (TT := TX21) (N := 43) (ci := 21) (Ts := WR) hx hb hts zin_wsX210 hown hK hZ 0 rfl rfl 6 (by decide) (hts _ zw_275) (fun _ h9 => h9) rfl dX21_live_15 ?_
      refine lv_iconst (v := nI 0) hx hb dX21_live_18 (by decide +kernel) ?_
      refine z_aldqY hx hb hK hZ 6 1 rfl rfl (vp_in_nI (by omega) (by omega)) (v := .ref e0) (by rw [nI_clamp (by decide)]; rfl) dX21_live_19 ?_
      refine z_getPp (own := RX21) (C := RX15) (TT := TX15) (N := 47) (ci := 16) (Ts := WR) (v := .ref d0) hx hb hts zin_wsX150 hown hK hZ h_e0 k_e0 rfl 46 (by decide) (hts _ zw_388) (fun _ h9 => h9) (fun _ h => h.2.2.2.2.2.2.2.2.2.2) dX21_live_20 ?_
      refine lv_iload_n hx hb dX21_live_23 rfl (lv_at hl 1 rfl) ?_
      obtain ⟨q1, e_q1, h_q1, k_q1⟩ := hg0 (k).toNatClampNeg (zq_clamp (by omega) (by omega))
      refine z_aldqY hx hb hK hZ 8 2 rfl rfl (zq_in (by omega) (by omega)) (v := .ref q1) (by rw [e_q1]; rfl) dX21_live_24 ?_
      refine lv_astore_n (lv' := [(2, .ref q1), (0, .ref mm), (1, .int k)]) hx hb dX21_live_25 rfl hl (by decide) rfl (fun ls hl => ?_)
      refine lv_aload_n hx hb dX21_live_26 rfl (lv_at hl 0 rfl) ?_
      show W p l e ROOM_X21_live s m [.ref mm, .int k].toArray below meth c H locs 0 0 (MQ below (va_Qq (fun (r : Option Nat) (u : zU) => r = none ∧ u = ([(mm, .inr (21, [.int (nI 0), .ref tp, .int (nI 0), .ref mf3, .ref mf4, .ref mf5, .ref en, .ref wi, .null, .null, .null, .ref mf11, .ref mf12, .ref mf13, .ref mf14, .ref mf15, .int (nI 0), .ref po, .int (nI 0), .ref mf19, .ref mf20, .int (nI 0), .null, .ref mf23, .ref mf24, .ref mf25, .ref mf26, .ref mf27, .ref mf28, .ref mf29, .ref mf30, .ref mf31, .ref mf32, .ref mf33, .int (nI 0), .int (nI 0), .int (nI 0), .ref mf37, .null, .ref mf39, .ref mf40, .null, .ref mf42])), (en, .inl (K 6, 2, .inr (.inr (.inr (.inr (va_up (va_up (fun _ => none) (nI 0).toNatClampNeg (some e0)) (nI 1).toNatClampNeg (some e1))))))), (d0, .inl (K 8, 16, .inr (.inr (.inr (.inr g0)))))], L, T)) (zB D vwCl (zT K) A X) A) [.ref mm, .int k].toArray s 0 0 A) (F0 m 27 ls [.ref q1])
      refine lv_ifnull hx hb dX21_live_27 ?_
      refine lv_aload_n hx hb dX21_live_30 rfl (lv_at hl 0 rfl) ?_
      refine z_goI (va_runS (As := [.ref q1]) (rest := []) ⟨hx, hb, hml, hown, hts⟩ ((c_X21_used E l D K X [(mm, .inr (21, [.int (nI 0), .ref tp, .int (nI 0), .ref mf3, .ref mf4, .ref mf5, .ref en, .ref wi, .null, .null, .null, .ref mf11, .ref mf12, .ref mf13, .ref mf14, .ref mf15, .int (nI 0), .ref po, .int (nI 0), .ref mf19, .ref mf20, .int (nI 0), .null, .ref mf23, .ref mf24, .ref mf25, .ref mf26, .ref mf27, .ref mf28, .ref mf29, .ref mf30, .ref mf31, .ref mf32, .ref mf33, .int (nI 0), .int (nI 0), .int (nI 0), .ref mf37, .null, .ref mf39, .ref mf40, .null, .ref mf42])), (en, .inl (K 6, 2, .inr (.inr (.inr (.inr (va_up (va_up (fun _ => none) (nI 0).toNatClampNeg (some e0)) (nI 1).toNatClampNeg (some e1))))))), (d0, .inl (K 8, 16, .inr (.inr (.inr (.inr g0)))))] L T h_q1 k_q1) H.size) (va_cwS 1 hts (zg_S zw_389 zw_391 zw_258 zw_390) rfl rfl rfl (by decide +kernel) ⟨Nat.le_of_ble_eq_true rfl, Nat.le_of_ble_eq_true rfl⟩) (z_preS hK hZ hS hA hE) rfl rfl hl.1 rfl (lv_room (Nat.le_of_ble_eq_true rfl)) dX21_live_31 ⟨Nat.le_of_ble_eq_true rfl, Nat.le_of_ble_eq_true rfl⟩) hZ hS hA (fun x2 Y1 L1 T1 H locs hp hZ hS => ?_)
      obtain ⟨hres, hp⟩ := hp
      cases hp
      obtain rfl : x2 = nI 0 := hres
      refine lv_if_ne (tgt := 41) hx hb dX21_live_34 (by decide) (fun c34 => absurd c34 (by decide +kernel)) (fun c34 => ?_)
      clear c34
      refine lv_null hx hb dX21_live_37 ?_
      refine lv_goto (tgt := 42) hx hb dX21_live_38 (by decide) ?_
      exact z_aret (r := none) hx hb hr (Or.inl ⟨_, rfl⟩) hlocks hK hZ hS ⟨(by first | rfl | decide +kernel | exact congrArg nI (by omega)), rfl⟩ (Nat.le_of_ble_eq_true rfl) (Nat.le_of_ble_eq_true rfl) dX21_live_42
    · have i7 : k.toInt > 15 := (by have h := zq_le_f c7; have e : (nI 15 : Int32).toInt = 15 := (by decide +kernel); omega)
      refine lv_null hx hb dX21_live_10 ?_
      refine lv_goto (tgt := 25) hx hb dX21_live_11 (by decide) ?_
      refine lv_astore_nN (lv' := [(2, .null), (0, .ref mm), (1, .int k)]) hx hb dX21_live_25 rfl hl (by decide) rfl (fun ls hl => ?_)
      refine lv_aload_nN hx hb dX21_live_26 rfl (lv_at hl 0 rfl) ?_
      refine lv_ifnullN (tgt := 37) hx hb dX21_live_27 (by decide) ?_
      refine lv_null hx hb dX21_live_37 ?_
      refine lv_goto (tgt := 42) hx hb dX21_live_38 (by decide) ?_
      exact z_aret (r := none) hx hb hr (Or.inl ⟨_, rfl⟩) hlocks hK hZ hS ⟨(by first | rfl | decide +kernel | exact congrArg nI (by omega)), rfl⟩ (Nat.le_of_ble_eq_true rfl) (Nat.le_of_ble_eq_true rfl) dX21_live_42
abbrev ROOM_X21_farSide : Room := { frames := 1, cells := 0, slots := 0, locals := 0 }
set_option maxHeartbeats 4000000 in
set_option maxRecDepth 100000 in
/-- farSide -/
theorem c_X21_farSide (E : zEn) (l : Launch) (D : va_G) (K : Nat → ClassId) (X : va_W) (L : List Nat) (T : Nat → va_E → Prop) {mm : Nat} {pp : Int32} {e1 : Nat} {tp mf3 mf4 mf5 en wi mf11 mf12 mf13 mf14 mf15 po mf19 mf20 mf23 mf24 mf25 mf26 mf27 mf28 mf29 mf30 mf31 mf32 mf33 mf37 mf39 mf40 mf42 : Nat} {e0 s1 o1 d1 : Nat} {g1 : Nat → Option Nat} (h_e1 : e1 ∈ L) (k_e1 : T e1 = zOp 16 (zEn9 (nI 1) s1 o1 d1)) (hg1 : zAll 16 g1 L T (zOp 20 zSd)) : zVq E l D vwCl (zT K) yX21_farSide (zws yX21_farSide cX21_farSide 4 (some (.object "ShellPairModel$Side"))) ROOM_X21_farSide 0 0 [.ref mm, .int pp] X [(mm, .inr (21, [.int (nI 0), .ref tp, .int (nI 0), .ref mf3, .ref mf4, .ref mf5, .ref en, .ref wi, .null, .null, .null, .ref mf11, .ref mf12, .ref mf13, .ref mf14, .ref mf15, .int (nI 0), .ref po, .int (nI 0), .ref mf19, .ref mf20, .int (nI 0), .null, .ref mf23, .ref mf24, .ref mf25, .ref mf26, .ref mf27, .ref mf28, .ref mf29, .ref mf30, .ref mf31, .ref mf32, .ref mf33, .int (nI 0), .int (nI 0), .int (nI 0), .ref mf37, .null, .ref mf39, .ref mf40, .null, .ref mf42])), (en, .inl (K 6, 2, .inr (.inr (.inr (.inr (va_up (va_up (fun _ => none) (nI 0).toNatClampNeg (some e0)) (nI 1).toNatClampNeg (some e1))))))), (d1, .inl (K 8, 16, .inr (.inr (.inr (.inr g1)))))] L T (fun (r : Option Nat) (u : zU) => r = none ∧ u = ([(mm, .inr (21, [.int (nI 0), .ref tp, .int (nI 0), .ref mf3, .ref mf4, .ref mf5, .ref en, .ref wi, .null, .null, .null, .ref mf11, .ref mf12, .ref mf13, .ref mf14, .ref mf15, .int (nI 0), .ref po, .int (nI 0), .ref mf19, .ref mf20, .int (nI 0), .null, .ref mf23, .ref mf24, .ref mf25, .ref mf26, .ref mf27, .ref mf28, .ref mf29, .ref mf30, .ref mf31, .ref mf32, .ref mf33, .int (nI 0), .int (nI 0), .int (nI 0), .ref mf37, .null, .ref mf39, .ref mf40, .null, .ref mf42])), (en, .inl (K 6, 2, .inr (.inr (.inr (.inr (va_up (va_up (fun _ => none) (nI 0).toNatClampNeg (some e0)) (nI 1).toNatClampNeg (some e1))))))), (d1, .inl (K 8, 16, .inr (.inr (.inr (.inr g1)))))], L, T)) := by
  refine z_ofW (E := E) (Qc := fun A => va_Qq (fun (r : Option Nat) (u : zU) => r = none ∧ u = ([(mm, .inr (21, [.int (nI 0), .ref tp, .int (nI 0), .ref mf3, .ref mf4, .ref mf5, .ref en, .ref wi, .null, .null, .null, .ref mf11, .ref mf12, .ref mf13, .ref mf14, .ref mf15, .int (nI 0), .ref po, .int (nI 0), .ref mf19, .ref mf20, .int (nI 0), .null, .ref mf23, .ref mf24, .ref mf25, .ref mf26, .ref mf27, .ref mf28, .ref mf29, .ref mf30, .ref mf31, .ref mf32, .ref mf33, .int (nI 0), .int (nI 0), .int (nI 0), .ref mf37, .null, .ref mf39, .ref mf40, .null, .ref mf42])), (en, .inl (K 6, 2, .inr (.inr (.inr (.inr (va_up (va_up (fun _ => none) (nI 0).toNatClampNeg (some e0)) (nI 1).toNatClampNeg (some e1))))))), (d1, .inl (K 8, 16, .inr (.inr (.inr (.inr g1)))))], L, T)) (zB D vwCl (zT K) A X) A) (cc := cX21_farSide) (maxL := 4) (ret := (some (.object "ShellPairModel$Side"))) (by decide +kernel) rfl (Nat.le_of_ble_eq_true rfl) ?_
  intro p e s m below meth c A ls hx hb hml hr hts hown hlocks hin hA hK hZ hS hE hl
  have hown : s.vm.findClass RX21 = some m.cls := hown
  have hts : ∀ w ∈ WR, w.before [.ref mm, .int pp].toArray s = true := fun w h => hts w (List.mem_cons_of_mem _ h)
  have hl : lv_has ls 4 [(0, .ref mm), (1, .int pp)] := hl
  obtain ⟨H, hH⟩ : ∃ H, H = s.heap := ⟨_, rfl⟩
  have hZ : zP D vwCl A X [(mm, .inr (21, [.int (nI 0), .ref tp, .int (nI 0), .ref mf3, .ref mf4, .ref mf5, .ref en, .ref wi, .null, .null, .null, .ref mf11, .ref mf12, .ref mf13, .ref mf14, .ref mf15, .int (nI 0), .ref po, .int (nI 0), .ref mf19, .ref mf20, .int (nI 0), .null, .ref mf23, .ref mf24, .ref mf25, .ref mf26, .ref mf27, .ref mf28, .ref mf29, .ref mf30, .ref mf31, .ref mf32, .ref mf33, .int (nI 0), .int (nI 0), .int (nI 0), .ref mf37, .null, .ref mf39, .ref mf40, .null, .ref mf42])), (en, .inl (K 6, 2, .inr (.inr (.inr (.inr (va_up (va_up (fun _ => none) (nI 0).toNatClampNeg (some e0)) (nI 1).toNatClampNeg (some e1))))))), (d1, .inl (K 8, 16, .inr (.inr (.inr (.inr g1)))))] L T H := by rw [hH]; exact hZ
  obtain ⟨locs, hlc⟩ : ∃ q : List Loc, q = [] := ⟨_, rfl⟩
  have hS : va_S A s.heap H locs := by rw [hH, hlc]; exact hS
  suffices hW : W p l e ROOM_X21_farSide s m [.ref mm, .int pp].toArray below meth c H locs 0 0 (MQ below (va_Qq (fun (r : Option Nat) (u : zU) => r = none ∧ u = ([(mm, .inr (21, [.int (nI 0), .ref tp, .int (nI 0), .ref mf3, .ref mf4, .ref mf5, .ref en, .ref wi, .null, .null, .null, .ref mf11, .ref mf12, .ref mf13, .ref mf14, .ref mf15, .int (nI 0), .ref po, .int (nI 0), .ref mf19, .ref mf20, .int (nI 0), .null, .ref mf23, .ref mf24, .ref mf25, .ref mf26, .ref mf27, .ref mf28, .ref mf29, .ref mf30, .ref mf31, .ref mf32, .ref mf33, .int (nI 0), .int (nI 0), .int (nI 0), .ref mf37, .null, .ref mf39, .ref mf40, .null, .ref mf42])), (en, .inl (K 6, 2, .inr (.inr (.inr (.inr (va_up (va_up (fun _ => none) (nI 0).toNatClampNeg (some e0)) (nI 1).toNatClampNeg (some e1))))))), (d1, .inl (K 8, 16, .inr (.inr (.inr (.inr g1)))))], L, T)) (zB D vwCl (zT K) A X) A) [.ref mm, .int pp].toArray s 0 0 A) (F0 m 0 ls []) by rw [hH, hlc] at hW; exact hW
  clear hH hlc
  refine lv_iconst (v := nI 0) hx hb dX21_farSide_0 (by decide +kernel) ?_
  refine lv_istore_n (lv' := [(2, .int (nI 0)), (0, .ref mm), (1, .int pp)]) hx hb dX21_farSide_1 rfl hl (by decide) rfl (fun ls hl => ?_)
  refine lv_iload_n hx hb dX21_farSide_2 rfl (lv_at hl 0 rfl) ?_
  refine lv_bipush (v := nI 16) hx hb dX21_farSide_3 (by decide +kernel) ?_
  refine lv_icmp_ge (tgt := 51) hx hb dX21_farSide_5 (by decide) (fun c5 => absurd c5 (by decide +kernel)) (fun c5 => ?_)
  clear c5
  refine lv_aload_n hx hb dX21_farSide_8 rfl (lv_at hl 1 rfl) ?_
  refine z_getY (own := RX21) (C := RX21) (TT := TX21) (N := 43) (ci := 21) (Ts := WR) hx hb hts zin_wsX210 hown hK hZ 0 rfl rfl 6 (by decide) (hts _ zw_275) (fun _ h9 => h9) rfl dX21_farSide_9 ?_
  refine lv_iconst (v := nI 1) hx hb dX21_farSide_12 (by decide +kernel) ?_
  refine z_aldqY hx hb hK hZ 6 1 rfl rfl (vp_in_nI (by omega) (by omega)) (v := .ref e1) (by rw [nI_clamp (by decide)]; rfl) dX21_farSide_13 ?_
  refine z_getPp (own := RX21) (C := RX15) (TT := TX15) (N := 47) (ci := 16) (Ts := WR) (v := .ref d1) hx hb hts zin_wsX150 hown hK hZ h_e1 k_e1 rfl 46 (by decide) (hts _ zw_388) (fun _ h9 => h9) (fun _ h => h.2.2.2.2.2.2.2.2.2.2) dX21_farSide_14 ?_
  refine lv_iload_n hx hb dX21_farSide_17 rfl (lv_at hl 0 rfl) ?_
  obtain ⟨q1, e_q1, h_q1, k_q1⟩ := hg1 0 (by omega)
  refine z_aldqY hx hb hK hZ 8 2 rfl rfl (vp_in_nI (by omega) (by omega)) (v := .ref q1) (by rw [nI_clamp (by omega), e_q1]; rfl) dX21_farSide_18 ?_
  refine lv_astore_n (lv' := [(3, .ref q1), (2, .int (nI 0)), (0, .ref mm), (1, .int pp)]) hx hb dX21_farSide_19 rfl hl (by decide) rfl (fun ls hl => ?_)
  refine lv_aload_n hx hb dX21_farSide_20 rfl (lv_at hl 0 rfl) ?_
  refine z_getPp (own := RX21) (C := RX20) (TT := TX20) (N := 27) (ci := 20) (Ts := WR) (v := .int (-1)) hx hb hts zin_wsX200 hown hK hZ h_q1 k_q1 rfl 2 (by decide) (hts _ zw_408) (fun _ h9 => h9) (fun _ h => h.1) dX21_farSide_21 ?_
  refine lv_iconst (v := nI 1) hx hb dX21_farSide_24 (by decide +kernel) ?_
  show W p l e ROOM_X21_farSide s m [.ref mm, .int pp].toArray below meth c H locs 0 0 (MQ below (va_Qq (fun (r : Option Nat) (u : zU) => r = none ∧ u = ([(mm, .inr (21, [.int (nI 0), .ref tp, .int (nI 0), .ref mf3, .ref mf4, .ref mf5, .ref en, .ref wi, .null, .null, .null, .ref mf11, .ref mf12, .ref mf13, .ref mf14, .ref mf15, .int (nI 0), .ref po, .int (nI 0), .ref mf19, .ref mf20, .int (nI 0), .null, .ref mf23, .ref mf24, .ref mf25, .ref mf26, .ref mf27, .ref mf28, .ref mf29, .ref mf30, .ref mf31, .ref mf32, .ref mf33, .int (nI 0), .int (nI 0), .int (nI 0), .ref mf37, .null, .ref mf39, .ref mf40, .null, .ref mf42])), (en, .inl (K 6, 2, .inr (.inr (.inr (.inr (va_up (va_up (fun _ => none) (nI 0).toNatClampNeg (some e0)) (nI 1).toNatClampNeg (some e1))))))), (d1, .inl (K 8, 16, .inr (.inr (.inr (.inr g1)))))], L, T)) (zB D vwCl (zT K) A X) A) [.ref mm, .int pp].toArray s 0 0 A) (F0 m 25 ls [.int (nI 1), .int (-1)])
  refine lv_icmp_ne (tgt := 45) hx hb dX21_farSide_25 (by decide) (fun c25 => ?_) (fun c25 => absurd c25 (by decide +kernel))
  clear c25
  refine lv_iinc (v := nI 1) (lv' := [(2, .int (nI 1)), (3, .ref q1), (0, .ref mm), (1, .int pp)]) hx hb dX21_farSide_45 hl (k := 1) rfl (by decide +kernel) (by decide) rfl (fun ls hl => ?_)
  refine lv_goto (tgt := 2) hx hb dX21_farSide_48 (by decide) ?_
  refine lv_iload_n hx hb dX21_farSide_2 rfl (lv_at hl 0 rfl) ?_
  refine lv_bipush (v := nI 16) hx hb dX21_farSide_3 (by decide +kernel) ?_
  refine lv_icmp_ge (tgt := 51) hx hb dX21_farSide_5 (by decide) (fun c5 => absurd c5 (by decide +kernel)) (fun c5 => ?_)
  clear c5
  refine lv_aload_n hx hb dX21_farSide_8 rfl (lv_at hl 2 rfl) ?_
  refine z_getY (own := RX21) (C := RX21) (TT := TX21) (N := 43) (ci := 21) (Ts := WR) hx hb hts zin_wsX210 hown hK hZ 0 rfl rfl 6 (by decide) (hts _ zw_275) (fun _ h9 => h9) rfl dX21_farSide_9 ?_
  refine lv_iconst (v := nI 1) hx hb dX21_farSide_12 (by decide +kernel) ?_
  refine z_aldqY hx hb hK hZ 6 1 rfl rfl (vp_in_nI (by omega) (by omega)) (v := .ref e1) (by rw [nI_clamp (by decide)]; rfl) dX21_farSide_13 ?_
  refine z_getPp (own := RX21) (C := RX15) (TT := TX15) (N := 47) (ci := 16) (Ts := WR) (v := .ref d1) hx hb hts zin_wsX150 hown hK hZ h_e1 k_e1 rfl 46 (by decide) (hts _ zw_388) (fun _ h9 => h9) (fun _ h => h.2.2.2.2.2.2.2.2.2.2) dX21_farSide_14 ?_
  refine lv_iload_n hx hb dX21_farSide_17 rfl (lv_at hl 0 rfl) ?_
  obtain ⟨q2, e_q2, h_q2, k_q2⟩ := hg1 1 (by omega)
  refine z_aldqY hx hb hK hZ 8 2 rfl rfl (vp_in_nI (by omega) (by omega)) (v := .ref q2) (by rw [nI_clamp (by omega), e_q2]; rfl) dX21_farSide_18 ?_
  refine lv_astore_n (lv' := [(3, .ref q2), (2, .int (nI 1)), (0, .ref mm), (1, .int pp)]) hx hb dX21_farSide_19 rfl hl (by decide) rfl (fun ls hl => ?_)
  refine lv_aload_n hx hb dX21_farSide_20 rfl (lv_at hl 0 rfl) ?_
  refine z_getPp (own := RX21) (C := RX20) (TT := TX20) (N := 27) (ci := 20) (Ts := WR) (v := .int (-1)) hx hb hts zin_wsX200 hown hK hZ h_q2 k_q2 rfl 2 (by decide) (hts _ zw_408) (fun _ h9 => h9) (fun _ h => h.1) dX21_farSide_21 ?_
  refine lv_iconst (v := nI 1) hx hb dX21_farSide_24 (by decide +kernel) ?_
  show W p l e ROOM_X21_farSide s m [.ref mm, .int pp].toArray below meth c H locs 0 0 (MQ below (va_Qq (fun (r : Option Nat) (u : zU) => r = none ∧ u = ([(mm, .inr (21, [.int (nI 0), .ref tp, .int (nI 0), .ref mf3, .ref mf4, .ref mf5, .ref en, .ref wi, .null, .null, .null, .ref mf11, .ref mf12, .ref mf13, .ref mf14, .ref mf15, .int (nI 0), .ref po, .int (nI 0), .ref mf19, .ref mf20, .int (nI 0), .null, .ref mf23, .ref mf24, .ref mf25, .ref mf26, .ref mf27, .ref mf28, .ref mf29, .ref mf30, .ref mf31, .ref mf32, .ref mf33, .int (nI 0), .int (nI 0), .int (nI 0), .ref mf37, .null, .ref mf39, .ref mf40, .null, .ref mf42])), (en, .inl (K 6, 2, .inr (.inr (.inr (.inr (va_up (va_up (fun _ => none) (nI 0).toNatClampNeg (some e0)) (nI 1).toNatClampNeg (some e1))))))), (d1, .inl (K 8, 16, .inr (.inr (.inr (.inr g1)))))], L, T)) (zB D vwCl (zT K) A X) A) [.ref mm, .int pp].toArray s 0 0 A) (F0 m 25 ls [.int (nI 1), .int (-1)])
  refine lv_icmp_ne (tgt := 45) hx hb dX21_farSide_25 (by decide) (fun c25 => ?_) (fun c25 => absurd c25 (by decide +kernel))
  clear c25
  refine lv_iinc (v := nI 2) (lv' := [(2, .int (nI 2)), (3, .ref q2), (0, .ref mm), (1, .int pp)]) hx hb dX21_farSide_45 hl (k := 1) rfl (by decide +kernel) (by decide) rfl (fun ls hl => ?_)
  refine lv_goto (tgt := 2) hx hb dX21_farSide_48 (by decide) ?_
  refine lv_iload_n hx hb dX21_farSide_2 rfl (lv_at hl 0 rfl) ?_
  refine lv_bipush (v := nI 16) hx hb dX21_farSide_3 (by decide +kernel) ?_
  refine lv_icmp_ge (tgt := 51) hx hb dX21_farSide_5 (by decide) (fun c5 => absurd c5 (by decide +kernel)) (fun c5 => ?_)
  clear c5
  refine lv_aload_n hx hb dX21_farSide_8 rfl (lv_at hl 2 rfl) ?_
  refine z_getY (own := RX21) (C := RX21) (TT := TX21) (N := 43) (ci := 21) (Ts := WR) hx hb hts zin_wsX210 hown hK hZ 0 rfl rfl 6 (by decide) (hts _ zw_275) (fun _ h9 => h9) rfl dX21_farSide_9 ?_
  refine lv_iconst (v := nI 1) hx hb dX21_farSide_12 (by decide +kernel) ?_
  refine z_aldqY hx hb hK hZ 6 1 rfl rfl (vp_in_nI (by omega) (by omega)) (v := .ref e1) (by rw [nI_clamp (by decide)]; rfl) dX21_farSide_13 ?_
  refine z_getPp (own := RX21) (C := RX15) (TT := TX15) (N := 47) (ci := 16) (Ts := WR) (v := .ref d1) hx hb hts zin_wsX150 hown hK hZ h_e1 k_e1 rfl 46 (by decide) (hts _ zw_388) (fun _ h9 => h9) (fun _ h => h.2.2.2.2.2.2.2.2.2.2) dX21_farSide_14 ?_
  refine lv_iload_n hx hb dX21_farSide_17 rfl (lv_at hl 0 rfl) ?_
  obtain ⟨q3, e_q3, h_q3, k_q3⟩ := hg1 2 (by omega)
  refine z_aldqY hx hb hK hZ 8 2 rfl rfl (vp_in_nI (by omega) (by omega)) (v := .ref q3) (by rw [nI_clamp (by omega), e_q3]; rfl) dX21_farSide_18 ?_
  refine lv_astore_n (lv' := [(3, .ref q3), (2, .int (nI 2)), (0, .ref mm), (1, .int pp)]) hx hb dX21_farSide_19 rfl hl (by decide) rfl (fun ls hl => ?_)
  refine lv_aload_n hx hb dX21_farSide_20 rfl (lv_at hl 0 rfl) ?_
  refine z_getPp (own := RX21) (C := RX20) (TT := TX20) (N := 27) (ci := 20) (Ts := WR) (v := .int (-1)) hx hb hts zin_wsX200 hown hK hZ h_q3 k_q3 rfl 2 (by decide) (hts _ zw_408) (fun _ h9 => h9) (fun _ h => h.1) dX21_farSide_21 ?_
  refine lv_iconst (v := nI 1) hx hb dX21_farSide_24 (by decide +kernel) ?_
  show W p l e ROOM_X21_farSide s m [.ref mm, .int pp].toArray below meth c H locs 0 0 (MQ below (va_Qq (fun (r : Option Nat) (u : zU) => r = none ∧ u = ([(mm, .inr (21, [.int (nI 0), .ref tp, .int (nI 0), .ref mf3, .ref mf4, .ref mf5, .ref en, .ref wi, .null, .null, .null, .ref mf11, .ref mf12, .ref mf13, .ref mf14, .ref mf15, .int (nI 0), .ref po, .int (nI 0), .ref mf19, .ref mf20, .int (nI 0), .null, .ref mf23, .ref mf24, .ref mf25, .ref mf26, .ref mf27, .ref mf28, .ref mf29, .ref mf30, .ref mf31, .ref mf32, .ref mf33, .int (nI 0), .int (nI 0), .int (nI 0), .ref mf37, .null, .ref mf39, .ref mf40, .null, .ref mf42])), (en, .inl (K 6, 2, .inr (.inr (.inr (.inr (va_up (va_up (fun _ => none) (nI 0).toNatClampNeg (some e0)) (nI 1).toNatClampNeg (some e1))))))), (d1, .inl (K 8, 16, .inr (.inr (.inr (.inr g1)))))], L, T)) (zB D vwCl (zT K) A X) A) [.ref mm, .int pp].toArray s 0 0 A) (F0 m 25 ls [.int (nI 1), .int (-1)])
  refine lv_icmp_ne (tgt := 45) hx hb dX21_farSide_25 (by decide) (fun c25 => ?_) (fun c25 => absurd c25 (by decide +kernel))
  clear c25
  refine lv_iinc (v := nI 3) (lv' := [(2, .int (nI 3)), (3, .ref q3), (0, .ref mm), (1, .int pp)]) hx hb dX21_farSide_45 hl (k := 1) rfl (by decide +kernel) (by decide) rfl (fun ls hl => ?_)
  refine lv_goto (tgt := 2) hx hb dX21_farSide_48 (by decide) ?_
  refine lv_iload_n hx hb dX21_farSide_2 rfl (lv_at hl 0 rfl) ?_
  refine lv_bipush (v := nI 16) hx hb dX21_farSide_3 (by decide +kernel) ?_
  refine lv_icmp_ge (tgt := 51) hx hb dX21_farSide_5 (by decide) (fun c5 => absurd c5 (by decide +kernel)) (fun c5 => ?_)
  clear c5
  refine lv_aload_n hx hb dX21_farSide_8 rfl (lv_at hl 2 rfl) ?_
  refine z_getY (own := RX21) (C := RX21) (TT := TX21) (N := 43) (ci := 21) (Ts := WR) hx hb hts zin_wsX210 hown hK hZ 0 rfl rfl 6 (by decide) (hts _ zw_275) (fun _ h9 => h9) rfl dX21_farSide_9 ?_
  refine lv_iconst (v := nI 1) hx hb dX21_farSide_12 (by decide +kernel) ?_
  refine z_aldqY hx hb hK hZ 6 1 rfl rfl (vp_in_nI (by omega) (by omega)) (v := .ref e1) (by rw [nI_clamp (by decide)]; rfl) dX21_farSide_13 ?_
  refine z_getPp (own := RX21) (C := RX15) (TT := TX15) (N := 47) (ci := 16) (Ts := WR) (v := .ref d1) hx hb hts zin_wsX150 hown hK hZ h_e1 k_e1 rfl 46 (by decide) (hts _ zw_388) (fun _ h9 => h9) (fun _ h => h.2.2.2.2.2.2.2.2.2.2) dX21_farSide_14 ?_
  refine lv_iload_n hx hb dX21_farSide_17 rfl (lv_at hl 0 rfl) ?_
  obtain ⟨q4, e_q4, h_q4, k_q4⟩ := hg1 3 (by omega)
  refine z_aldqY hx hb hK hZ 8 2 rfl rfl (vp_in_nI (by omega) (by omega)) (v := .ref q4) (by rw [nI_clamp (by omega), e_q4]; rfl) dX21_farSide_18 ?_
  refine lv_astore_n (lv' := [(3, .ref q4), (2, .int (nI 3)), (0, .ref mm), (1, .int pp)]) hx hb dX21_farSide_19 rfl hl (by decide) rfl (fun ls hl => ?_)
  refine lv_aload_n hx hb dX21_farSide_20 rfl (lv_at hl 0 rfl) ?_
  refine z_getPp (own := RX21) (C := RX20) (TT := TX20) (N := 27) (ci := 20) (Ts := WR) (v := .int (-1)) hx hb hts zin_wsX200 hown hK hZ h_q4 k_q4 rfl 2 (by decide) (hts _ zw_408) (fun _ h9 => h9) (fun _ h => h.1) dX21_farSide_21 ?_
  refine lv_iconst (v := nI 1) hx hb dX21_farSide_24 (by decide +kernel) ?_
  show W p l e ROOM_X21_farSide s m [.ref mm, .int pp].toArray below meth c H locs 0 0 (MQ below (va_Qq (fun (r : Option Nat) (u : zU) => r = none ∧ u = ([(mm, .inr (21, [.int (nI 0), .ref tp, .int (nI 0), .ref mf3, .ref mf4, .ref mf5, .ref en, .ref wi, .null, .null, .null, .ref mf11, .ref mf12, .ref mf13, .ref mf14, .ref mf15, .int (nI 0), .ref po, .int (nI 0), .ref mf19, .ref mf20, .int (nI 0), .null, .ref mf23, .ref mf24, .ref mf25, .ref mf26, .ref mf27, .ref mf28, .ref mf29, .ref mf30, .ref mf31, .ref mf32, .ref mf33, .int (nI 0), .int (nI 0), .int (nI 0), .ref mf37, .null, .ref mf39, .ref mf40, .null, .ref mf42])), (en, .inl (K 6, 2, .inr (.inr (.inr (.inr (va_up (va_up (fun _ => none) (nI 0).toNatClampNeg (some e0)) (nI 1).toNatClampNeg (some e1))))))), (d1, .inl (K 8, 16, .inr (.inr (.inr (.inr g1)))))], L, T)) (zB D vwCl (zT K) A X) A) [.ref mm, .int pp].toArray s 0 0 A) (F0 m 25 ls [.int (nI 1), .int (-1)])
  refine lv_icmp_ne (tgt := 45) hx hb dX21_farSide_25 (by decide) (fun c25 => ?_) (fun c25 => absurd c25 (by decide +kernel))
  clear c25
  refine lv_iinc (v := nI 4) (lv' := [(2, .int (nI 4)), (3, .ref q4), (0, .ref mm), (1, .int pp)]) hx hb dX21_farSide_45 hl (k := 1) rfl (by decide +kernel) (by decide) rfl (fun ls hl => ?_)
  refine lv_goto (tgt := 2) hx hb dX21_farSide_48 (by decide) ?_
  refine lv_iload_n hx hb dX21_farSide_2 rfl (lv_at hl 0 rfl) ?_
  refine lv_bipush (v := nI 16) hx hb dX21_farSide_3 (by decide +kernel) ?_
  refine lv_icmp_ge (tgt := 51) hx hb dX21_farSide_5 (by decide) (fun c5 => absurd c5 (by decide +kernel)) (fun c5 => ?_)
  clear c5
  refine lv_aload_n hx hb dX21_farSide_8 rfl (lv_at hl 2 rfl) ?_
  refine z_getY (own := RX21) (C := RX21) (TT := TX21) (N := 43) (ci := 21) (Ts := WR) hx hb hts zin_wsX210 hown hK hZ 0 rfl rfl 6 (by decide) (hts _ zw_275) (fun _ h9 => h9) rfl dX21_farSide_9 ?_
  refine lv_iconst (v := nI 1) hx hb dX21_farSide_12 (by decide +kernel) ?_
  refine z_aldqY hx hb hK hZ 6 1 rfl rfl (vp_in_nI (by omega) (by omega)) (v := .ref e1) (by rw [nI_clamp (by decide)]; rfl) dX21_farSide_13 ?_
  refine z_getPp (own := RX21) (C := RX15) (TT := TX15) (N := 47) (ci := 16) (Ts := WR) (v := .ref d1) hx hb hts zin_wsX150 hown hK hZ h_e1 k_e1 rfl 46 (by decide) (hts _ zw_388) (fun _ h9 => h9) (fun _ h => h.2.2.2.2.2.2.2.2.2.2) dX21_farSide_14 ?_
  refine lv_iload_n hx hb dX21_farSide_17 rfl (lv_at hl 0 rfl) ?_
  obtain ⟨q5, e_q5, h_q5, k_q5⟩ := hg1 4 (by omega)
  refine z_aldqY hx hb hK hZ 8 2 rfl rfl (vp_in_nI (by omega) (by omega)) (v := .ref q5) (by rw [nI_clamp (by omega), e_q5]; rfl) dX21_farSide_18 ?_
  refine lv_astore_n (lv' := [(3, .ref q5), (2, .int (nI 4)), (0, .ref mm), (1, .int pp)]) hx hb dX21_farSide_19 rfl hl (by decide) rfl (fun ls hl => ?_)
  refine lv_aload_n hx hb dX21_farSide_20 rfl (lv_at hl 0 rfl) ?_
  refine z_getPp (own := RX21) (C := RX20) (TT := TX20) (N := 27) (ci := 20) (Ts := WR) (v := .int (-1)) hx hb hts zin_wsX200 hown hK hZ h_q5 k_q5 rfl 2 (by decide) (hts _ zw_408) (fun _ h9 => h9) (fun _ h => h.1) dX21_farSide_21 ?_
  refine lv_iconst (v := nI 1) hx hb dX21_farSide_24 (by decide +kernel) ?_
  show W p l e ROOM_X21_farSide s m [.ref mm, .int pp].toArray below meth c H locs 0 0 (MQ below (va_Qq (fun (r : Option Nat) (u : zU) => r = none ∧ u = ([(mm, .inr (21, [.int (nI 0), .ref tp, .int (nI 0), .ref mf3, .ref mf4, .ref mf5, .ref en, .ref wi, .null, .null, .null, .ref mf11, .ref mf12, .ref mf13, .ref mf14, .ref mf15, .int (nI 0), .ref po, .int (nI 0), .ref mf19, .ref mf20, .int (nI 0), .null, .ref mf23, .ref mf24, .ref mf25, .ref mf26, .ref mf27, .ref mf28, .ref mf29, .ref mf30, .ref mf31, .ref mf32, .ref mf33, .int (nI 0), .int (nI 0), .int (nI 0), .ref mf37, .null, .ref mf39, .ref mf40, .null, .ref mf42])), (en, .inl (K 6, 2, .inr (.inr (.inr (.inr (va_up (va_up (fun _ => none) (nI 0).toNatClampNeg (some e0)) (nI 1).toNatClampNeg (some e1))))))), (d1, .inl (K 8, 16, .inr (.inr (.inr (.inr g1)))))], L, T)) (zB D vwCl (zT K) A X) A) [.ref mm, .int pp].toArray s 0 0 A) (F0 m 25 ls [.int (nI 1), .int (-1)])
  refine lv_icmp_ne (tgt := 45) hx hb dX21_farSide_25 (by decide) (fun c25 => ?_) (fun c25 => absurd c25 (by decide +kernel))
  clear c25
  refine lv_iinc (v := nI 5) (lv' := [(2, .int (nI 5)), (3, .ref q5), (0, .ref mm), (1, .int pp)]) hx hb dX21_farSide_45 hl (k := 1) rfl (by decide +kernel) (by decide) rfl (fun ls hl => ?_)
  refine lv_goto (tgt := 2) hx hb dX21_farSide_48 (by decide) ?_
  refine lv_iload_n hx hb dX21_farSide_2 rfl (lv_at hl 0 rfl) ?_
  refine lv_bipush (v := nI 16) hx hb dX21_farSide_3 (by decide +kernel) ?_
  refine lv_icmp_ge (tgt := 51) hx hb dX21_farSide_5 (by decide) (fun c5 => absurd c5 (by decide +kernel)) (fun c5 => ?_)
  clear c5
  refine lv_aload_n hx hb dX21_farSide_8 rfl (lv_at hl 2 rfl) ?_
  refine z_getY (own := RX21) (C := RX21) (TT := TX21) (N := 43) (ci := 21) (Ts := WR) hx hb hts zin_wsX210 hown hK hZ 0 rfl rfl 6 (by decide) (hts _ zw_275) (fun _ h9 => h9) rfl dX21_farSide_9 ?_
  refine lv_iconst (v := nI 1) hx hb dX21_farSide_12 (by decide +kernel) ?_
  refine z_aldqY hx hb hK hZ 6 1 rfl rfl (vp_in_nI (by omega) (by omega)) (v := .ref e1) (by rw [nI_clamp (by decide)]; rfl) dX21_farSide_13 ?_
  refine z_getPp (own := RX21) (C := RX15) (TT := TX15) (N := 47) (ci := 16) (Ts := WR) (v := .ref d1) hx hb hts zin_wsX150 hown hK hZ h_e1 k_e1 rfl 46 (by decide) (hts _ zw_388) (fun _ h9 => h9) (fun _ h => h.2.2.2.2.2.2.2.2.2.2) dX21_farSide_14 ?_
  refine lv_iload_n hx hb dX21_farSide_17 rfl (lv_at hl 0 rfl) ?_
  obtain ⟨q6, e_q6, h_q6, k_q6⟩ := hg1 5 (by omega)
  refine z_aldqY hx hb hK hZ 8 2 rfl rfl (vp_in_nI (by omega) (by omega)) (v := .ref q6) (by rw [nI_clamp (by omega), e_q6]; rfl) dX21_farSide_18 ?_
  refine lv_astore_n (lv' := [(3, .ref q6), (2, .int (nI 5)), (0, .ref mm), (1, .int pp)]) hx hb dX21_farSide_19 rfl hl (by decide) rfl (fun ls hl => ?_)
  refine lv_aload_n hx hb dX21_farSide_20 rfl (lv_at hl 0 rfl) ?_
  refine z_getPp (own := RX21) (C := RX20) (TT := TX20) (N := 27) (ci := 20) (Ts := WR) (v := .int (-1)) hx hb hts zin_wsX200 hown hK hZ h_q6 k_q6 rfl 2 (by decide) (hts _ zw_408) (fun _ h9 => h9) (fun _ h => h.1) dX21_farSide_21 ?_
  refine lv_iconst (v := nI 1) hx hb dX21_farSide_24 (by decide +kernel) ?_
  show W p l e ROOM_X21_farSide s m [.ref mm, .int pp].toArray below meth c H locs 0 0 (MQ below (va_Qq (fun (r : Option Nat) (u : zU) => r = none ∧ u = ([(mm, .inr (21, [.int (nI 0), .ref tp, .int (nI 0), .ref mf3, .ref mf4, .ref mf5, .ref en, .ref wi, .null, .null, .null, .ref mf11, .ref mf12, .ref mf13, .ref mf14, .ref mf15, .int (nI 0), .ref po, .int (nI 0), .ref mf19, .ref mf20, .int (nI 0), .null, .ref mf23, .ref mf24, .ref mf25, .ref mf26, .ref mf27, .ref mf28, .ref mf29, .ref mf30, .ref mf31, .ref mf32, .ref mf33, .int (nI 0), .int (nI 0), .int (nI 0), .ref mf37, .null, .ref mf39, .ref mf40, .null, .ref mf42])), (en, .inl (K 6, 2, .inr (.inr (.inr (.inr (va_up (va_up (fun _ => none) (nI 0).toNatClampNeg (some e0)) (nI 1).toNatClampNeg (some e1))))))), (d1, .inl (K 8, 16, .inr (.inr (.inr (.inr g1)))))], L, T)) (zB D vwCl (zT K) A X) A) [.ref mm, .int pp].toArray s 0 0 A) (F0 m 25 ls [.int (nI 1), .int (-1)])
  refine lv_icmp_ne (tgt := 45) hx hb dX21_farSide_25 (by decide) (fun c25 => ?_) (fun c25 => absurd c25 (by decide +kernel))
  clear c25
  refine lv_iinc (v := nI 6) (lv' := [(2, .int (nI 6)), (3, .ref q6), (0, .ref mm), (1, .int pp)]) hx hb dX21_farSide_45 hl (k := 1) rfl (by decide +kernel) (by decide) rfl (fun ls hl => ?_)
  refine lv_goto (tgt := 2) hx hb dX21_farSide_48 (by decide) ?_
  refine lv_iload_n hx hb dX21_farSide_2 rfl (lv_at hl 0 rfl) ?_
  refine lv_bipush (v := nI 16) hx hb dX21_farSide_3 (by decide +kernel) ?_
  refine lv_icmp_ge (tgt := 51) hx hb dX21_farSide_5 (by decide) (fun c5 => absurd c5 (by decide +kernel)) (fun c5 => ?_)
  clear c5
  refine lv_aload_n hx hb dX21_farSide_8 rfl (lv_at hl 2 rfl) ?_
  refine z_getY (own := RX21) (C := RX21) (TT := TX21) (N := 43) (ci := 21) (Ts := WR) hx hb hts zin_wsX210 hown hK hZ 0 rfl rfl 6 (by decide) (hts _ zw_275) (fun _ h9 => h9) rfl dX21_farSide_9 ?_
  refine lv_iconst (v := nI 1) hx hb dX21_farSide_12 (by decide +kernel) ?_
  refine z_aldqY hx hb hK hZ 6 1 rfl rfl (vp_in_nI (by omega) (by omega)) (v := .ref e1) (by rw [nI_clamp (by decide)]; rfl) dX21_farSide_13 ?_
  refine z_getPp (own := RX21) (C := RX15) (TT := TX15) (N := 47) (ci := 16) (Ts := WR) (v := .ref d1) hx hb hts zin_wsX150 hown hK hZ h_e1 k_e1 rfl 46 (by decide) (hts _ zw_388) (fun _ h9 => h9) (fun _ h => h.2.2.2.2.2.2.2.2.2.2) dX21_farSide_14 ?_
  refine lv_iload_n hx hb dX21_farSide_17 rfl (lv_at hl 0 rfl) ?_
  obtain ⟨q7, e_q7, h_q7, k_q7⟩ := hg1 6 (by omega)
  refine z_aldqY hx hb hK hZ 8 2 rfl rfl (vp_in_nI (by omega) (by omega)) (v := .ref q7) (by rw [nI_clamp (by omega), e_q7]; rfl) dX21_farSide_18 ?_
  refine lv_astore_n (lv' := [(3, .ref q7), (2, .int (nI 6)), (0, .ref mm), (1, .int pp)]) hx hb dX21_farSide_19 rfl hl (by decide) rfl (fun ls hl => ?_)
  refine lv_aload_n hx hb dX21_farSide_20 rfl (lv_at hl 0 rfl) ?_
  refine z_getPp (own := RX21) (C := RX20) (TT := TX20) (N := 27) (ci := 20) (Ts := WR) (v := .int (-1)) hx hb hts zin_wsX200 hown hK hZ h_q7 k_q7 rfl 2 (by decide) (hts _ zw_408) (fun _ h9 => h9) (fun _ h => h.1) dX21_farSide_21 ?_
  refine lv_iconst (v := nI 1) hx hb dX21_farSide_24 (by decide +kernel) ?_
  show W p l e ROOM_X21_farSide s m [.ref mm, .int pp].toArray below meth c H locs 0 0 (MQ below (va_Qq (fun (r : Option Nat) (u : zU) => r = none ∧ u = ([(mm, .inr (21, [.int (nI 0), .ref tp, .int (nI 0), .ref mf3, .ref mf4, .ref mf5, .ref en, .ref wi, .null, .null, .null, .ref mf11, .ref mf12, .ref mf13, .ref mf14, .ref mf15, .int (nI 0), .ref po, .int (nI 0), .ref mf19, .ref mf20, .int (nI 0), .null, .ref mf23, .ref mf24, .ref mf25, .ref mf26, .ref mf27, .ref mf28, .ref mf29, .ref mf30, .ref mf31, .ref mf32, .ref mf33, .int (nI 0), .int (nI 0), .int (nI 0), .ref mf37, .null, .ref mf39, .ref mf40, .null, .ref mf42])), (en, .inl (K 6, 2, .inr (.inr (.inr (.inr (va_up (va_up (fun _ => none) (nI 0).toNatClampNeg (some e0)) (nI 1).toNatClampNeg (some e1))))))), (d1, .inl (K 8, 16, .inr (.inr (.inr (.inr g1)))))], L, T)) (zB D vwCl (zT K) A X) A) [.ref mm, .int pp].toArray s 0 0 A) (F0 m 25 ls [.int (nI 1), .int (-1)])
  refine lv_icmp_ne (tgt := 45) hx hb dX21_farSide_25 (by decide) (fun c25 => ?_) (fun c25 => absurd c25 (by decide +kernel))
  clear c25
  refine lv_iinc (v := nI 7) (lv' := [(2, .int (nI 7)), (3, .ref q7), (0, .ref mm), (1, .int pp)]) hx hb dX21_farSide_45 hl (k := 1) rfl (by decide +kernel) (by decide) rfl (fun ls hl => ?_)
  refine lv_goto (tgt := 2) hx hb dX21_farSide_48 (by decide) ?_
  refine lv_iload_n hx hb dX21_farSide_2 rfl (lv_at hl 0 rfl) ?_
  refine lv_bipush (v := nI 16) hx hb dX21_farSide_3 (by decide +kernel) ?_
  refine lv_icmp_ge (tgt := 51) hx hb dX21_farSide_5 (by decide) (fun c5 => absurd c5 (by decide +kernel)) (fun c5 => ?_)
  clear c5
  refine lv_aload_n hx hb dX21_farSide_8 rfl (lv_at hl 2 rfl) ?_
  refine z_getY (own := RX21) (C := RX21) (TT := TX21) (N := 43) (ci := 21) (Ts := WR) hx hb hts zin_wsX210 hown hK hZ 0 rfl rfl 6 (by decide) (hts _ zw_275) (fun _ h9 => h9) rfl dX21_farSide_9 ?_
  refine lv_iconst (v := nI 1) hx hb dX21_farSide_12 (by decide +kernel) ?_
  refine z_aldqY hx hb hK hZ 6 1 rfl rfl (vp_in_nI (by omega) (by omega)) (v := .ref e1) (by rw [nI_clamp (by decide)]; rfl) dX21_farSide_13 ?_
  refine z_getPp (own := RX21) (C := RX15) (TT := TX15) (N := 47) (ci := 16) (Ts := WR) (v := .ref d1) hx hb hts zin_wsX150 hown hK hZ h_e1 k_e1 rfl 46 (by decide) (hts _ zw_388) (fun _ h9 => h9) (fun _ h => h.2.2.2.2.2.2.2.2.2.2) dX21_farSide_14 ?_
  refine lv_iload_n hx hb dX21_farSide_17 rfl (lv_at hl 0 rfl) ?_
  obtain ⟨q8, e_q8, h_q8, k_q8⟩ := hg1 7 (by omega)
  refine z_aldqY hx hb hK hZ 8 2 rfl rfl (vp_in_nI (by omega) (by omega)) (v := .ref q8) (by rw [nI_clamp (by omega), e_q8]; rfl) dX21_farSide_18 ?_
  refine lv_astore_n (lv' := [(3, .ref q8), (2, .int (nI 7)), (0, .ref mm), (1, .int pp)]) hx hb dX21_farSide_19 rfl hl (by decide) rfl (fun ls hl => ?_)
  refine lv_aload_n hx hb dX21_farSide_20 rfl (lv_at hl 0 rfl) ?_
  refine z_getPp (own := RX21) (C := RX20) (TT := TX20) (N := 27) (ci := 20) (Ts := WR) (v := .int (-1)) hx hb hts zin_wsX200 hown hK hZ h_q8 k_q8 rfl 2 (by decide) (hts _ zw_408) (fun _ h9 => h9) (fun _ h => h.1) dX21_farSide_21 ?_
  refine lv_iconst (v := nI 1) hx hb dX21_farSide_24 (by decide +kernel) ?_
  show W p l e ROOM_X21_farSide s m [.ref mm, .int pp].toArray below meth c H locs 0 0 (MQ below (va_Qq (fun (r : Option Nat) (u : zU) => r = none ∧ u = ([(mm, .inr (21, [.int (nI 0), .ref tp, .int (nI 0), .ref mf3, .ref mf4, .ref mf5, .ref en, .ref wi, .null, .null, .null, .ref mf11, .ref mf12, .ref mf13, .ref mf14, .ref mf15, .int (nI 0), .ref po, .int (nI 0), .ref mf19, .ref mf20, .int (nI 0), .null, .ref mf23, .ref mf24, .ref mf25, .ref mf26, .ref mf27, .ref mf28, .ref mf29, .ref mf30, .ref mf31, .ref mf32, .ref mf33, .int (nI 0), .int (nI 0), .int (nI 0), .ref mf37, .null, .ref mf39, .ref mf40, .null, .ref mf42])), (en, .inl (K 6, 2, .inr (.inr (.inr (.inr (va_up (va_up (fun _ => none) (nI 0).toNatClampNeg (some e0)) (nI 1).toNatClampNeg (some e1))))))), (d1, .inl (K 8, 16, .inr (.inr (.inr (.inr g1)))))], L, T)) (zB D vwCl (zT K) A X) A) [.ref mm, .int pp].toArray s 0 0 A) (F0 m 25 ls [.int (nI 1), .int (-1)])
  refine lv_icmp_ne (tgt := 45) hx hb dX21_farSide_25 (by decide) (fun c25 => ?_) (fun c25 => absurd c25 (by decide +kernel))
  clear c25
  refine lv_iinc (v := nI 8) (lv' := [(2, .int (nI 8)), (3, .ref q8), (0, .ref mm), (1, .int pp)]) hx hb dX21_farSide_45 hl (k := 1) rfl (by decide +kernel) (by decide) rfl (fun ls hl => ?_)
  refine lv_goto (tgt := 2) hx hb dX21_farSide_48 (by decide) ?_
  refine lv_iload_n hx hb dX21_farSide_2 rfl (lv_at hl 0 rfl) ?_
  refine lv_bipush (v := nI 16) hx hb dX21_farSide_3 (by decide +kernel) ?_
  refine lv_icmp_ge (tgt := 51) hx hb dX21_farSide_5 (by decide) (fun c5 => absurd c5 (by decide +kernel)) (fun c5 => ?_)
  clear c5
  refine lv_aload_n hx hb dX21_farSide_8 rfl (lv_at hl 2 rfl) ?_
  refine z_getY (own := RX21) (C := RX21) (TT := TX21) (N := 43) (ci := 21) (Ts := WR) hx hb hts zin_wsX210 hown hK hZ 0 rfl rfl 6 (by decide) (hts _ zw_275) (fun _ h9 => h9) rfl dX21_farSide_9 ?_
  refine lv_iconst (v := nI 1) hx hb dX21_farSide_12 (by decide +kernel) ?_
  refine z_aldqY hx hb hK hZ 6 1 rfl rfl (vp_in_nI (by omega) (by omega)) (v := .ref e1) (by rw [nI_clamp (by decide)]; rfl) dX21_farSide_13 ?_
  refine z_getPp (own := RX21) (C := RX15) (TT := TX15) (N := 47) (ci := 16) (Ts := WR) (v := .ref d1) hx hb hts zin_wsX150 hown hK hZ h_e1 k_e1 rfl 46 (by decide) (hts _ zw_388) (fun _ h9 => h9) (fun _ h => h.2.2.2.2.2.2.2.2.2.2) dX21_farSide_14 ?_
  refine lv_iload_n hx hb dX21_farSide_17 rfl (lv_at hl 0 rfl) ?_
  obtain ⟨q9, e_q9, h_q9, k_q9⟩ := hg1 8 (by omega)
  refine z_aldqY hx hb hK hZ 8 2 rfl rfl (vp_in_nI (by omega) (by omega)) (v := .ref q9) (by rw [nI_clamp (by omega), e_q9]; rfl) dX21_farSide_18 ?_
  refine lv_astore_n (lv' := [(3, .ref q9), (2, .int (nI 8)), (0, .ref mm), (1, .int pp)]) hx hb dX21_farSide_19 rfl hl (by decide) rfl (fun ls hl => ?_)
  refine lv_aload_n hx hb dX21_farSide_20 rfl (lv_at hl 0 rfl) ?_
  refine z_getPp (own := RX21) (C := RX20) (TT := TX20) (N := 27) (ci := 20) (Ts := WR) (v := .int (-1)) hx hb hts zin_wsX200 hown hK hZ h_q9 k_q9 rfl 2 (by decide) (hts _ zw_408) (fun _ h9 => h9) (fun _ h => h.1) dX21_farSide_21 ?_
  refine lv_iconst (v := nI 1) hx hb dX21_farSide_24 (by decide +kernel) ?_
  show W p l e ROOM_X21_farSide s m [.ref mm, .int pp].toArray below meth c H locs 0 0 (MQ below (va_Qq (fun (r : Option Nat) (u : zU) => r = none ∧ u = ([(mm, .inr (21, [.int (nI 0), .ref tp, .int (nI 0), .ref mf3, .ref mf4, .ref mf5, .ref en, .ref wi, .null, .null, .null, .ref mf11, .ref mf12, .ref mf13, .ref mf14, .ref mf15, .int (nI 0), .ref po, .int (nI 0), .ref mf19, .ref mf20, .int (nI 0), .null, .ref mf23, .ref mf24, .ref mf25, .ref mf26, .ref mf27, .ref mf28, .ref mf29, .ref mf30, .ref mf31, .ref mf32, .ref mf33, .int (nI 0), .int (nI 0), .int (nI 0), .ref mf37, .null, .ref mf39, .ref mf40, .null, .ref mf42])), (en, .inl (K 6, 2, .inr (.inr (.inr (.inr (va_up (va_up (fun _ => none) (nI 0).toNatClampNeg (some e0)) (nI 1).toNatClampNeg (some e1))))))), (d1, .inl (K 8, 16, .inr (.inr (.inr (.inr g1)))))], L, T)) (zB D vwCl (zT K) A X) A) [.ref mm, .int pp].toArray s 0 0 A) (F0 m 25 ls [.int (nI 1), .int (-1)])
  refine lv_icmp_ne (tgt := 45) hx hb dX21_farSide_25 (by decide) (fun c25 => ?_) (fun c25 => absurd c25 (by decide +kernel))
  clear c25
  refine lv_iinc (v := nI 9) (lv' := [(2, .int (nI 9)), (3, .ref q9), (0, .ref mm), (1, .int pp)]) hx hb dX21_farSide_45 hl (k := 1) rfl (by decide +kernel) (by decide) rfl (fun ls hl => ?_)
  refine lv_goto (tgt := 2) hx hb dX21_farSide_48 (by decide) ?_
  refine lv_iload_n hx hb dX21_farSide_2 rfl (lv_at hl 0 rfl) ?_
  refine lv_bipush (v := nI 16) hx hb dX21_farSide_3 (by decide +kernel) ?_
  refine lv_icmp_ge (tgt := 51) hx hb dX21_farSide_5 (by decide) (fun c5 => absurd c5 (by decide +kernel)) (fun c5 => ?_)
  clear c5
  refine lv_aload_n hx hb dX21_farSide_8 rfl (lv_at hl 2 rfl) ?_
  refine z_getY (own := RX21) (C := RX21) (TT := TX21) (N := 43) (ci := 21) (Ts := WR) hx hb hts zin_wsX210 hown hK hZ 0 rfl rfl 6 (by decide) (hts _ zw_275) (fun _ h9 => h9) rfl dX21_farSide_9 ?_
  refine lv_iconst (v := nI 1) hx hb dX21_farSide_12 (by decide +kernel) ?_
  refine z_aldqY hx hb hK hZ 6 1 rfl rfl (vp_in_nI (by omega) (by omega)) (v := .ref e1) (by rw [nI_clamp (by decide)]; rfl) dX21_farSide_13 ?_
  refine z_getPp (own := RX21) (C := RX15) (TT := TX15) (N := 47) (ci := 16) (Ts := WR) (v := .ref d1) hx hb hts zin_wsX150 hown hK hZ h_e1 k_e1 rfl 46 (by decide) (hts _ zw_388) (fun _ h9 => h9) (fun _ h => h.2.2.2.2.2.2.2.2.2.2) dX21_farSide_14 ?_
  refine lv_iload_n hx hb dX21_farSide_17 rfl (lv_at hl 0 rfl) ?_
  obtain ⟨q10, e_q10, h_q10, k_q10⟩ := hg1 9 (by omega)
  refine z_aldqY hx hb hK hZ 8 2 rfl rfl (vp_in_nI (by omega) (by omega)) (v := .ref q10) (by rw [nI_clamp (by omega), e_q10]; rfl) dX21_farSide_18 ?_
  refine lv_astore_n (lv' := [(3, .ref q10), (2, .int (nI 9)), (0, .ref mm), (1, .int pp)]) hx hb dX21_farSide_19 rfl hl (by decide) rfl (fun ls hl => ?_)
  refine lv_aload_n hx hb dX21_farSide_20 rfl (lv_at hl 0 rfl) ?_
  refine z_getPp (own := RX21) (C := RX20) (TT := TX20) (N := 27) (ci := 20) (Ts := WR) (v := .int (-1)) hx hb hts zin_wsX200 hown hK hZ h_q10 k_q10 rfl 2 (by decide) (hts _ zw_408) (fun _ h9 => h9) (fun _ h => h.1) dX21_farSide_21 ?_
  refine lv_iconst (v := nI 1) hx hb dX21_farSide_24 (by decide +kernel) ?_
  show W p l e ROOM_X21_farSide s m [.ref mm, .int pp].toArray below meth c H locs 0 0 (MQ below (va_Qq (fun (r : Option Nat) (u : zU) => r = none ∧ u = ([(mm, .inr (21, [.int (nI 0), .ref tp, .int (nI 0), .ref mf3, .ref mf4, .ref mf5, .ref en, .ref wi, .null, .null, .null, .ref mf11, .ref mf12, .ref mf13, .ref mf14, .ref mf15, .int (nI 0), .ref po, .int (nI 0), .ref mf19, .ref mf20, .int (nI 0), .null, .ref mf23, .ref mf24, .ref mf25, .ref mf26, .ref mf27, .ref mf28, .ref mf29, .ref mf30, .ref mf31, .ref mf32, .ref mf33, .int (nI 0), .int (nI 0), .int (nI 0), .ref mf37, .null, .ref mf39, .ref mf40, .null, .ref mf42])), (en, .inl (K 6, 2, .inr (.inr (.inr (.inr (va_up (va_up (fun _ => none) (nI 0).toNatClampNeg (some e0)) (nI 1).toNatClampNeg (some e1))))))), (d1, .inl (K 8, 16, .inr (.inr (.inr (.inr g1)))))], L, T)) (zB D vwCl (zT K) A X) A) [.ref mm, .int pp].toArray s 0 0 A) (F0 m 25 ls [.int (nI 1), .int (-1)])
  refine lv_icmp_ne (tgt := 45) hx hb dX21_farSide_25 (by decide) (fun c25 => ?_) (fun c25 => absurd c25 (by decide +kernel))
  clear c25
  refine lv_iinc (v := nI 10) (lv' := [(2, .int (nI 10)), (3, .ref q10), (0, .ref mm), (1, .int pp)]) hx hb dX21_farSide_45 hl (k := 1) rfl (by decide +kernel) (by decide) rfl (fun ls hl => ?_)
  refine lv_goto (tgt := 2) hx hb dX21_farSide_48 (by decide) ?_
  refine lv_iload_n hx hb dX21_farSide_2 rfl (lv_at hl 0 rfl) ?_
  refine lv_bipush (v := nI 16) hx hb dX21_farSide_3 (by decide +kernel) ?_
  refine lv_icmp_ge (tgt := 51) hx hb dX21_farSide_5 (by decide) (fun c5 => absurd c5 (by decide +kernel)) (fun c5 => ?_)
  clear c5
  refine lv_aload_n hx hb dX21_farSide_8 rfl (lv_at hl 2 rfl) ?_
  refine z_getY (own := RX21) (C := RX21) (TT := TX21) (N := 43) (ci := 21) (Ts := WR) hx hb hts zin_wsX210 hown hK hZ 0 rfl rfl 6 (by decide) (hts _ zw_275) (fun _ h9 => h9) rfl dX21_farSide_9 ?_
  refine lv_iconst (v := nI 1) hx hb dX21_farSide_12 (by decide +kernel) ?_
  refine z_aldqY hx hb hK hZ 6 1 rfl rfl (vp_in_nI (by omega) (by omega)) (v := .ref e1) (by rw [nI_clamp (by decide)]; rfl) dX21_farSide_13 ?_
  refine z_getPp (own := RX21) (C := RX15) (TT := TX15) (N := 47) (ci := 16) (Ts := WR) (v := .ref d1) hx hb hts zin_wsX150 hown hK hZ h_e1 k_e1 rfl 46 (by decide) (hts _ zw_388) (fun _ h9 => h9) (fun _ h => h.2.2.2.2.2.2.2.2.2.2) dX21_farSide_14 ?_
  refine lv_iload_n hx hb dX21_farSide_17 rfl (lv_at hl 0 rfl) ?_
  obtain ⟨q11, e_q11, h_q11, k_q11⟩ := hg1 10 (by omega)
  refine z_aldqY hx hb hK hZ 8 2 rfl rfl (vp_in_nI (by omega) (by omega)) (v := .ref q11) (by rw [nI_clamp (by omega), e_q11]; rfl) dX21_farSide_18 ?_
  refine lv_astore_n (lv' := [(3, .ref q11), (2, .int (nI 10)), (0, .ref mm), (1, .int pp)]) hx hb dX21_farSide_19 rfl hl (by decide) rfl (fun ls hl => ?_)
  refine lv_aload_n hx hb dX21_farSide_20 rfl (lv_at hl 0 rfl) ?_
  refine z_getPp (own := RX21) (C := RX20) (TT := TX20) (N := 27) (ci := 20) (Ts := WR) (v := .int (-1)) hx hb hts zin_wsX200 hown hK hZ h_q11 k_q11 rfl 2 (by decide) (hts _ zw_408) (fun _ h9 => h9) (fun _ h => h.1) dX21_farSide_21 ?_
  refine lv_iconst (v := nI 1) hx hb dX21_farSide_24 (by decide +kernel) ?_
  show W p l e ROOM_X21_farSide s m [.ref mm, .int pp].toArray below meth c H locs 0 0 (MQ below (va_Qq (fun (r : Option Nat) (u : zU) => r = none ∧ u = ([(mm, .inr (21, [.int (nI 0), .ref tp, .int (nI 0), .ref mf3, .ref mf4, .ref mf5, .ref en, .ref wi, .null, .null, .null, .ref mf11, .ref mf12, .ref mf13, .ref mf14, .ref mf15, .int (nI 0), .ref po, .int (nI 0), .ref mf19, .ref mf20, .int (nI 0), .null, .ref mf23, .ref mf24, .ref mf25, .ref mf26, .ref mf27, .ref mf28, .ref mf29, .ref mf30, .ref mf31, .ref mf32, .ref mf33, .int (nI 0), .int (nI 0), .int (nI 0), .ref mf37, .null, .ref mf39, .ref mf40, .null, .ref mf42])), (en, .inl (K 6, 2, .inr (.inr (.inr (.inr (va_up (va_up (fun _ => none) (nI 0).toNatClampNeg (some e0)) (nI 1).toNatClampNeg (some e1))))))), (d1, .inl (K 8, 16, .inr (.inr (.inr (.inr g1)))))], L, T)) (zB D vwCl (zT K) A X) A) [.ref mm, .int pp].toArray s 0 0 A) (F0 m 25 ls [.int (nI 1), .int (-1)])
  refine lv_icmp_ne (tgt := 45) hx hb dX21_farSide_25 (by decide) (fun c25 => ?_) (fun c25 => absurd c25 (by decide +kernel))
  clear c25
  refine lv_iinc (v := nI 11) (lv' := [(2, .int (nI 11)), (3, .ref q11), (0, .ref mm), (1, .int pp)]) hx hb dX21_farSide_45 hl (k := 1) rfl (by decide +kernel) (by decide) rfl (fun ls hl => ?_)
  refine lv_goto (tgt := 2) hx hb dX21_farSide_48 (by decide) ?_
  refine lv_iload_n hx hb dX21_farSide_2 rfl (lv_at hl 0 rfl) ?_
  refine lv_bipush (v := nI 16) hx hb dX21_farSide_3 (by decide +kernel) ?_
  refine lv_icmp_ge (tgt := 51) hx hb dX21_farSide_5 (by decide) (fun c5 => absurd c5 (by decide +kernel)) (fun c5 => ?_)
  clear c5
  refine lv_aload_n hx hb dX21_farSide_8 rfl (lv_at hl 2 rfl) ?_
  refine z_getY (own := RX21) (C := RX21) (TT := TX21) (N := 43) (ci := 21) (Ts := WR) hx hb hts zin_wsX210 hown hK hZ 0 rfl rfl 6 (by decide) (hts _ zw_275) (fun _ h9 => h9) rfl dX21_farSide_9 ?_
  refine lv_iconst (v := nI 1) hx hb dX21_farSide_12 (by decide +kernel) ?_
  refine z_aldqY hx hb hK hZ 6 1 rfl rfl (vp_in_nI (by omega) (by omega)) (v := .ref e1) (by rw [nI_clamp (by decide)]; rfl) dX21_farSide_13 ?_
  refine z_getPp (own := RX21) (C := RX15) (TT := TX15) (N := 47) (ci := 16) (Ts := WR) (v := .ref d1) hx hb hts zin_wsX150 hown hK hZ h_e1 k_e1 rfl 46 (by decide) (hts _ zw_388) (fun _ h9 => h9) (fun _ h => h.2.2.2.2.2.2.2.2.2.2) dX21_farSide_14 ?_
  refine lv_iload_n hx hb dX21_farSide_17 rfl (lv_at hl 0 rfl) ?_
  obtain ⟨q12, e_q12, h_q12, k_q12⟩ := hg1 11 (by omega)
  refine z_aldqY hx hb hK hZ 8 2 rfl rfl (vp_in_nI (by omega) (by omega)) (v := .ref q12) (by rw [nI_clamp (by omega), e_q12]; rfl) dX21_farSide_18 ?_
  refine lv_astore_n (lv' := [(3, .ref q12), (2, .int (nI 11)), (0, .ref mm), (1, .int pp)]) hx hb dX21_farSide_19 rfl hl (by decide) rfl (fun ls hl => ?_)
  refine lv_aload_n hx hb dX21_farSide_20 rfl (lv_at hl 0 rfl) ?_
  refine z_getPp (own := RX21) (C := RX20) (TT := TX20) (N := 27) (ci := 20) (Ts := WR) (v := .int (-1)) hx hb hts zin_wsX200 hown hK hZ h_q12 k_q12 rfl 2 (by decide) (hts _ zw_408) (fun _ h9 => h9) (fun _ h => h.1) dX21_farSide_21 ?_
  refine lv_iconst (v := nI 1) hx hb dX21_farSide_24 (by decide +kernel) ?_
  show W p l e ROOM_X21_farSide s m [.ref mm, .int pp].toArray below meth c H locs 0 0 (MQ below (va_Qq (fun (r : Option Nat) (u : zU) => r = none ∧ u = ([(mm, .inr (21, [.int (nI 0), .ref tp, .int (nI 0), .ref mf3, .ref mf4, .ref mf5, .ref en, .ref wi, .null, .null, .null, .ref mf11, .ref mf12, .ref mf13, .ref mf14, .ref mf15, .int (nI 0), .ref po, .int (nI 0), .ref mf19, .ref mf20, .int (nI 0), .null, .ref mf23, .ref mf24, .ref mf25, .ref mf26, .ref mf27, .ref mf28, .ref mf29, .ref mf30, .ref mf31, .ref mf32, .ref mf33, .int (nI 0), .int (nI 0), .int (nI 0), .ref mf37, .null, .ref mf39, .ref mf40, .null, .ref mf42])), (en, .inl (K 6, 2, .inr (.inr (.inr (.inr (va_up (va_up (fun _ => none) (nI 0).toNatClampNeg (some e0)) (nI 1).toNatClampNeg (some e1))))))), (d1, .inl (K 8, 16, .inr (.inr (.inr (.inr g1)))))], L, T)) (zB D vwCl (zT K) A X) A) [.ref mm, .int pp].toArray s 0 0 A) (F0 m 25 ls [.int (nI 1), .int (-1)])
  refine lv_icmp_ne (tgt := 45) hx hb dX21_farSide_25 (by decide) (fun c25 => ?_) (fun c25 => absurd c25 (by decide +kernel))
  clear c25
  refine lv_iinc (v := nI 12) (lv' := [(2, .int (nI 12)), (3, .ref q12), (0, .ref mm), (1, .int pp)]) hx hb dX21_farSide_45 hl (k := 1) rfl (by decide +kernel) (by decide) rfl (fun ls hl => ?_)
  refine lv_goto (tgt := 2) hx hb dX21_farSide_48 (by decide) ?_
  refine lv_iload_n hx hb dX21_farSide_2 rfl (lv_at hl 0 rfl) ?_
  refine lv_bipush (v := nI 16) hx hb dX21_farSide_3 (by decide +kernel) ?_
  refine lv_icmp_ge (tgt := 51) hx hb dX21_farSide_5 (by decide) (fun c5 => absurd c5 (by decide +kernel)) (fun c5 => ?_)
  clear c5
  refine lv_aload_n hx hb dX21_farSide_8 rfl (lv_at hl 2 rfl) ?_
  refine z_getY (own := RX21) (C := RX21) (TT := TX21) (N := 43) (ci := 21) (Ts := WR) hx hb hts zin_wsX210 hown hK hZ 0 rfl rfl 6 (by decide) (hts _ zw_275) (fun _ h9 => h9) rfl dX21_farSide_9 ?_
  refine lv_iconst (v := nI 1) hx hb dX21_farSide_12 (by decide +kernel) ?_
  refine z_aldqY hx hb hK hZ 6 1 rfl rfl (vp_in_nI (by omega) (by omega)) (v := .ref e1) (by rw [nI_clamp (by decide)]; rfl) dX21_farSide_13 ?_
  refine z_getPp (own := RX21) (C := RX15) (TT := TX15) (N := 47) (ci := 16) (Ts := WR) (v := .ref d1) hx hb hts zin_wsX150 hown hK hZ h_e1 k_e1 rfl 46 (by decide) (hts _ zw_388) (fun _ h9 => h9) (fun _ h => h.2.2.2.2.2.2.2.2.2.2) dX21_farSide_14 ?_
  refine lv_iload_n hx hb dX21_farSide_17 rfl (lv_at hl 0 rfl) ?_
  obtain ⟨q13, e_q13, h_q13, k_q13⟩ := hg1 12 (by omega)
  refine z_aldqY hx hb hK hZ 8 2 rfl rfl (vp_in_nI (by omega) (by omega)) (v := .ref q13) (by rw [nI_clamp (by omega), e_q13]; rfl) dX21_farSide_18 ?_
  refine lv_astore_n (lv' := [(3, .ref q13), (2, .int (nI 12)), (0, .ref mm), (1, .int pp)]) hx hb dX21_farSide_19 rfl hl (by decide) rfl (fun ls hl => ?_)
  refine lv_aload_n hx hb dX21_farSide_20 rfl (lv_at hl 0 rfl) ?_
  refine z_getPp (own := RX21) (C := RX20) (TT := TX20) (N := 27) (ci := 20) (Ts := WR) (v := .int (-1)) hx hb hts zin_wsX200 hown hK hZ h_q13 k_q13 rfl 2 (by decide) (hts _ zw_408) (fun _ h9 => h9) (fun _ h => h.1) dX21_farSide_21 ?_
  refine lv_iconst (v := nI 1) hx hb dX21_farSide_24 (by decide +kernel) ?_
  show W p l e ROOM_X21_farSide s m [.ref mm, .int pp].toArray below meth c H locs 0 0 (MQ below (va_Qq (fun (r : Option Nat) (u : zU) => r = none ∧ u = ([(mm, .inr (21, [.int (nI 0), .ref tp, .int (nI 0), .ref mf3, .ref mf4, .ref mf5, .ref en, .ref wi, .null, .null, .null, .ref mf11, .ref mf12, .ref mf13, .ref mf14, .ref mf15, .int (nI 0), .ref po, .int (nI 0), .ref mf19, .ref mf20, .int (nI 0), .null, .ref mf23, .ref mf24, .ref mf25, .ref mf26, .ref mf27, .ref mf28, .ref mf29, .ref mf30, .ref mf31, .ref mf32, .ref mf33, .int (nI 0), .int (nI 0), .int (nI 0), .ref mf37, .null, .ref mf39, .ref mf40, .null, .ref mf42])), (en, .inl (K 6, 2, .inr (.inr (.inr (.inr (va_up (va_up (fun _ => none) (nI 0).toNatClampNeg (some e0)) (nI 1).toNatClampNeg (some e1))))))), (d1, .inl (K 8, 16, .inr (.inr (.inr (.inr g1)))))], L, T)) (zB D vwCl (zT K) A X) A) [.ref mm, .int pp].toArray s 0 0 A) (F0 m 25 ls [.int (nI 1), .int (-1)])
  refine lv_icmp_ne (tgt := 45) hx hb dX21_farSide_25 (by decide) (fun c25 => ?_) (fun c25 => absurd c25 (by decide +kernel))
  clear c25
  refine lv_iinc (v := nI 13) (lv' := [(2, .int (nI 13)), (3, .ref q13), (0, .ref mm), (1, .int pp)]) hx hb dX21_farSide_45 hl (k := 1) rfl (by decide +kernel) (by decide) rfl (fun ls hl => ?_)
  refine lv_goto (tgt := 2) hx hb dX21_farSide_48 (by decide) ?_
  refine lv_iload_n hx hb dX21_farSide_2 rfl (lv_at hl 0 rfl) ?_
  refine lv_bipush (v := nI 16) hx hb dX21_farSide_3 (by decide +kernel) ?_
  refine lv_icmp_ge (tgt := 51) hx hb dX21_farSide_5 (by decide) (fun c5 => absurd c5 (by decide +kernel)) (fun c5 => ?_)
  clear c5
  refine lv_aload_n hx hb dX21_farSide_8 rfl (lv_at hl 2 rfl) ?_
  refine z_getY (own := RX21) (C := RX21) (TT := TX21) (N := 43) (ci := 21) (Ts := WR) hx hb hts zin_wsX210 hown hK hZ 0 rfl rfl 6 (by decide) (hts _ zw_275) (fun _ h9 => h9) rfl dX21_farSide_9 ?_
  refine lv_iconst (v := nI 1) hx hb dX21_farSide_12 (by decide +kernel) ?_
  refine z_aldqY hx hb hK hZ 6 1 rfl rfl (vp_in_nI (by omega) (by omega)) (v := .ref e1) (by rw [nI_clamp (by decide)]; rfl) dX21_farSide_13 ?_
  refine z_getPp (own := RX21) (C := RX15) (TT := TX15) (N := 47) (ci := 16) (Ts := WR) (v := .ref d1) hx hb hts zin_wsX150 hown hK hZ h_e1 k_e1 rfl 46 (by decide) (hts _ zw_388) (fun _ h9 => h9) (fun _ h => h.2.2.2.2.2.2.2.2.2.2) dX21_farSide_14 ?_
  refine lv_iload_n hx hb dX21_farSide_17 rfl (lv_at hl 0 rfl) ?_
  obtain ⟨q14, e_q14, h_q14, k_q14⟩ := hg1 13 (by omega)
  refine z_aldqY hx hb hK hZ 8 2 rfl rfl (vp_in_nI (by omega) (by omega)) (v := .ref q14) (by rw [nI_clamp (by omega), e_q14]; rfl) dX21_farSide_18 ?_
  refine lv_astore_n (lv' := [(3, .ref q14), (2, .int (nI 13)), (0, .ref mm), (1, .int pp)]) hx hb dX21_farSide_19 rfl hl (by decide) rfl (fun ls hl => ?_)
  refine lv_aload_n hx hb dX21_farSide_20 rfl (lv_at hl 0 rfl) ?_
  refine z_getPp (own := RX21) (C := RX20) (TT := TX20) (N := 27) (ci := 20) (Ts := WR) (v := .int (-1)) hx hb hts zin_wsX200 hown hK hZ h_q14 k_q14 rfl 2 (by decide) (hts _ zw_408) (fun _ h9 => h9) (fun _ h => h.1) dX21_farSide_21 ?_
  refine lv_iconst (v := nI 1) hx hb dX21_farSide_24 (by decide +kernel) ?_
  show W p l e ROOM_X21_farSide s m [.ref mm, .int pp].toArray below meth c H locs 0 0 (MQ below (va_Qq (fun (r : Option Nat) (u : zU) => r = none ∧ u = ([(mm, .inr (21, [.int (nI 0), .ref tp, .int (nI 0), .ref mf3, .ref mf4, .ref mf5, .ref en, .ref wi, .null, .null, .null, .ref mf11, .ref mf12, .ref mf13, .ref mf14, .ref mf15, .int (nI 0), .ref po, .int (nI 0), .ref mf19, .ref mf20, .int (nI 0), .null, .ref mf23, .ref mf24, .ref mf25, .ref mf26, .ref mf27, .ref mf28, .ref mf29, .ref mf30, .ref mf31, .ref mf32, .ref mf33, .int (nI 0), .int (nI 0), .int (nI 0), .ref mf37, .null, .ref mf39, .ref mf40, .null, .ref mf42])), (en, .inl (K 6, 2, .inr (.inr (.inr (.inr (va_up (va_up (fun _ => none) (nI 0).toNatClampNeg (some e0)) (nI 1).toNatClampNeg (some e1))))))), (d1, .inl (K 8, 16, .inr (.inr (.inr (.inr g1)))))], L, T)) (zB D vwCl (zT K) A X) A) [.ref mm, .int pp].toArray s 0 0 A) (F0 m 25 ls [.int (nI 1), .int (-1)])
  refine lv_icmp_ne (tgt := 45) hx hb dX21_farSide_25 (by decide) (fun c25 => ?_) (fun c25 => absurd c25 (by decide +kernel))
  clear c25
  refine lv_iinc (v := nI 14) (lv' := [(2, .int (nI 14)), (3, .ref q14), (0, .ref mm), (1, .int pp)]) hx hb dX21_farSide_45 hl (k := 1) rfl (by decide +kernel) (by decide) rfl (fun ls hl => ?_)
  refine lv_goto (tgt := 2) hx hb dX21_farSide_48 (by decide) ?_
  refine lv_iload_n hx hb dX21_farSide_2 rfl (lv_at hl 0 rfl) ?_
  refine lv_bipush (v := nI 16) hx hb dX21_farSide_3 (by decide +kernel) ?_
  refine lv_icmp_ge (tgt := 51) hx hb dX21_farSide_5 (by decide) (fun c5 => absurd c5 (by decide +kernel)) (fun c5 => ?_)
  clear c5
  refine lv_aload_n hx hb dX21_farSide_8 rfl (lv_at hl 2 rfl) ?_
  refine z_getY (own := RX21) (C := RX21) (TT := TX21) (N := 43) (ci := 21) (Ts := WR) hx hb hts zin_wsX210 hown hK hZ 0 rfl rfl 6 (by decide) (hts _ zw_275) (fun _ h9 => h9) rfl dX21_farSide_9 ?_
  refine lv_iconst (v := nI 1) hx hb dX21_farSide_12 (by decide +kernel) ?_
  refine z_aldqY hx hb hK hZ 6 1 rfl rfl (vp_in_nI (by omega) (by omega)) (v := .ref e1) (by rw [nI_clamp (by decide)]; rfl) dX21_farSide_13 ?_
  refine z_getPp (own := RX21) (C := RX15) (TT := TX15) (N := 47) (ci := 16) (Ts := WR) (v := .ref d1) hx hb hts zin_wsX150 hown hK hZ h_e1 k_e1 rfl 46 (by decide) (hts _ zw_388) (fun _ h9 => h9) (fun _ h => h.2.2.2.2.2.2.2.2.2.2) dX21_farSide_14 ?_
  refine lv_iload_n hx hb dX21_farSide_17 rfl (lv_at hl 0 rfl) ?_
  obtain ⟨q15, e_q15, h_q15, k_q15⟩ := hg1 14 (by omega)
  refine z_aldqY hx hb hK hZ 8 2 rfl rfl (vp_in_nI (by omega) (by omega)) (v := .ref q15) (by rw [nI_clamp (by omega), e_q15]; rfl) dX21_farSide_18 ?_
  refine lv_astore_n (lv' := [(3, .ref q15), (2, .int (nI 14)), (0, .ref mm), (1, .int pp)]) hx hb dX21_farSide_19 rfl hl (by decide) rfl (fun ls hl => ?_)
  refine lv_aload_n hx hb dX21_farSide_20 rfl (lv_at hl 0 rfl) ?_
  refine z_getPp (own := RX21) (C := RX20) (TT := TX20) (N := 27) (ci := 20) (Ts := WR) (v := .int (-1)) hx hb hts zin_wsX200 hown hK hZ h_q15 k_q15 rfl 2 (by decide) (hts _ zw_408) (fun _ h9 => h9) (fun _ h => h.1) dX21_farSide_21 ?_
  refine lv_iconst (v := nI 1) hx hb dX21_farSide_24 (by decide +kernel) ?_
  show W p l e ROOM_X21_farSide s m [.ref mm, .int pp].toArray below meth c H locs 0 0 (MQ below (va_Qq (fun (r : Option Nat) (u : zU) => r = none ∧ u = ([(mm, .inr (21, [.int (nI 0), .ref tp, .int (nI 0), .ref mf3, .ref mf4, .ref mf5, .ref en, .ref wi, .null, .null, .null, .ref mf11, .ref mf12, .ref mf13, .ref mf14, .ref mf15, .int (nI 0), .ref po, .int (nI 0), .ref mf19, .ref mf20, .int (nI 0), .null, .ref mf23, .ref mf24, .ref mf25, .ref mf26, .ref mf27, .ref mf28, .ref mf29, .ref mf30, .ref mf31, .ref mf32, .ref mf33, .int (nI 0), .int (nI 0), .int (nI 0), .ref mf37, .null, .ref mf39, .ref mf40, .null, .ref mf42])), (en, .inl (K 6, 2, .inr (.inr (.inr (.inr (va_up (va_up (fun _ => none) (nI 0).toNatClampNeg (some e0)) (nI 1).toNatClampNeg (some e1))))))), (d1, .inl (K 8, 16, .inr (.inr (.inr (.inr g1)))))], L, T)) (zB D vwCl (zT K) A X) A) [.ref mm, .int pp].toArray s 0 0 A) (F0 m 25 ls [.int (nI 1), .int (-1)])
  refine lv_icmp_ne (tgt := 45) hx hb dX21_farSide_25 (by decide) (fun c25 => ?_) (fun c25 => absurd c25 (by decide +kernel))
  clear c25
  refine lv_iinc (v := nI 15) (lv' := [(2, .int (nI 15)), (3, .ref q15), (0, .ref mm), (1, .int pp)]) hx hb dX21_farSide_45 hl (k := 1) rfl (by decide +kernel) (by decide) rfl (fun ls hl => ?_)
  refine lv_goto (tgt := 2) hx hb dX21_farSide_48 (by decide) ?_
  refine lv_iload_n hx hb dX21_farSide_2 rfl (lv_at hl 0 rfl) ?_
  refine lv_bipush (v := nI 16) hx hb dX21_farSide_3 (by decide +kernel) ?_
  refine lv_icmp_ge (tgt := 51) hx hb dX21_farSide_5 (by decide) (fun c5 => absurd c5 (by decide +kernel)) (fun c5 => ?_)
  clear c5
  refine lv_aload_n hx hb dX21_farSide_8 rfl (lv_at hl 2 rfl) ?_
  refine z_getY (own := RX21) (C := RX21) (TT := TX21) (N := 43) (ci := 21) (Ts := WR) hx hb hts zin_wsX210 hown hK hZ 0 rfl rfl 6 (by decide) (hts _ zw_275) (fun _ h9 => h9) rfl dX21_farSide_9 ?_
  refine lv_iconst (v := nI 1) hx hb dX21_farSide_12 (by decide +kernel) ?_
  refine z_aldqY hx hb hK hZ 6 1 rfl rfl (vp_in_nI (by omega) (by omega)) (v := .ref e1) (by rw [nI_clamp (by decide)]; rfl) dX21_farSide_13 ?_
  refine z_getPp (own := RX21) (C := RX15) (TT := TX15) (N := 47) (ci := 16) (Ts := WR) (v := .ref d1) hx hb hts zin_wsX150 hown hK hZ h_e1 k_e1 rfl 46 (by decide) (hts _ zw_388) (fun _ h9 => h9) (fun _ h => h.2.2.2.2.2.2.2.2.2.2) dX21_farSide_14 ?_
  refine lv_iload_n hx hb dX21_farSide_17 rfl (lv_at hl 0 rfl) ?_
  obtain ⟨q16, e_q16, h_q16, k_q16⟩ := hg1 15 (by omega)
  refine z_aldqY hx hb hK hZ 8 2 rfl rfl (vp_in_nI (by omega) (by omega)) (v := .ref q16) (by rw [nI_clamp (by omega), e_q16]; rfl) dX21_farSide_18 ?_
  refine lv_astore_n (lv' := [(3, .ref q16), (2, .int (nI 15)), (0, .ref mm), (1, .int pp)]) hx hb dX21_farSide_19 rfl hl (by decide) rfl (fun ls hl => ?_)
  refine lv_aload_n hx hb dX21_farSide_20 rfl (lv_at hl 0 rfl) ?_
  refine z_getPp (own := RX21) (C := RX20) (TT := TX20) (N := 27) (ci := 20) (Ts := WR) (v := .int (-1)) hx hb hts zin_wsX200 hown hK hZ h_q16 k_q16 rfl 2 (by decide) (hts _ zw_408) (fun _ h9 => h9) (fun _ h => h.1) dX21_farSide_21 ?_
  refine lv_iconst (v := nI 1) hx hb dX21_farSide_24 (by decide +kernel) ?_
  show W p l e ROOM_X21_farSide s m [.ref mm, .int pp].toArray below meth c H locs 0 0 (MQ below (va_Qq (fun (r : Option Nat) (u : zU) => r = none ∧ u = ([(mm, .inr (21, [.int (nI 0), .ref tp, .int (nI 0), .ref mf3, .ref mf4, .ref mf5, .ref en, .ref wi, .null, .null, .null, .ref mf11, .ref mf12, .ref mf13, .ref mf14, .ref mf15, .int (nI 0), .ref po, .int (nI 0), .ref mf19, .ref mf20, .int (nI 0), .null, .ref mf23, .ref mf24, .ref mf25, .ref mf26, .ref mf27, .ref mf28, .ref mf29, .ref mf30, .ref mf31, .ref mf32, .ref mf33, .int (nI 0), .int (nI 0), .int (nI 0), .ref mf37, .null, .ref mf39, .ref mf40, .null, .ref mf42])), (en, .inl (K 6, 2, .inr (.inr (.inr (.inr (va_up (va_up (fun _ => none) (nI 0).toNatClampNeg (some e0)) (nI 1).toNatClampNeg (some e1))))))), (d1, .inl (K 8, 16, .inr (.inr (.inr (.inr g1)))))], L, T)) (zB D vwCl (zT K) A X) A) [.ref mm, .int pp].toArray s 0 0 A) (F0 m 25 ls [.int (nI 1), .int (-1)])
  refine lv_icmp_ne (tgt := 45) hx hb dX21_farSide_25 (by decide) (fun c25 => ?_) (fun c25 => absurd c25 (by decide +kernel))
  clear c25
  refine lv_iinc (v := nI 16) (lv' := [(2, .int (nI 16)), (3, .ref q16), (0, .ref mm), (1, .int pp)]) hx hb dX21_farSide_45 hl (k := 1) rfl (by decide +kernel) (by decide) rfl (fun ls hl => ?_)
  refine lv_goto (tgt := 2) hx hb dX21_farSide_48 (by decide) ?_
  refine lv_iload_n hx hb dX21_farSide_2 rfl (lv_at hl 0 rfl) ?_
  refine lv_bipush (v := nI 16) hx hb dX21_farSide_3 (by decide +kernel) ?_
  refine lv_icmp_ge (tgt := 51) hx hb dX21_farSide_5 (by decide) (fun c5 => ?_) (fun c5 => absurd c5 (by decide +kernel))
  clear c5
  refine lv_null hx hb dX21_farSide_51 ?_
  exact z_aret (r := none) hx hb hr (Or.inl ⟨_, rfl⟩) hlocks hK hZ hS ⟨(by first | rfl | decide +kernel | exact congrArg nI (by omega)), rfl⟩ (Nat.le_of_ble_eq_true rfl) (Nat.le_of_ble_eq_true rfl) dX21_farSide_52
abbrev ROOM_X21_sessionOf_e0 : Room := { frames := 1, cells := 0, slots := 0, locals := 0 }
set_option maxHeartbeats 4000000 in
set_option maxRecDepth 100000 in
/-- sessionOf -/
theorem c_X21_sessionOf_e0 (E : zEn) (l : Launch) (D : va_G) (K : Nat → ClassId) (X : va_W) (L : List Nat) (T : Nat → va_E → Prop) {mm : Nat} {e0 : Nat} {tp mf3 mf4 mf5 en wi mf11 mf12 mf13 mf14 mf15 po mf19 mf20 mf23 mf24 mf25 mf26 mf27 mf28 mf29 mf30 mf31 mf32 mf33 mf37 mf39 mf40 mf42 : Nat} {s0 o0 d0 : Nat} (h_e0 : e0 ∈ L) (k_e0 : T e0 = zOp 16 (zEn9 (nI 0) s0 o0 d0))  : zVq E l D vwCl (zT K) yX21_sessionOf (zws yX21_sessionOf cX21_sessionOf 2 (some (.array .byte))) ROOM_X21_sessionOf_e0 0 0 [.ref mm, .ref e0] X [(mm, .inr (21, [.int (nI 0), .ref tp, .int (nI 0), .ref mf3, .ref mf4, .ref mf5, .ref en, .ref wi, .null, .null, .null, .ref mf11, .ref mf12, .ref mf13, .ref mf14, .ref mf15, .int (nI 0), .ref po, .int (nI 0), .ref mf19, .ref mf20, .int (nI 0), .null, .ref mf23, .ref mf24, .ref mf25, .ref mf26, .ref mf27, .ref mf28, .ref mf29, .ref mf30, .ref mf31, .ref mf32, .ref mf33, .int (nI 0), .int (nI 0), .int (nI 0), .ref mf37, .null, .ref mf39, .ref mf40, .null, .ref mf42]))] L T (fun (r : Option Nat) (u : zU) => r = none ∧ u = ([(mm, .inr (21, [.int (nI 0), .ref tp, .int (nI 0), .ref mf3, .ref mf4, .ref mf5, .ref en, .ref wi, .null, .null, .null, .ref mf11, .ref mf12, .ref mf13, .ref mf14, .ref mf15, .int (nI 0), .ref po, .int (nI 0), .ref mf19, .ref mf20, .int (nI 0), .null, .ref mf23, .ref mf24, .ref mf25, .ref mf26, .ref mf27, .ref mf28, .ref mf29, .ref mf30, .ref mf31, .ref mf32, .ref mf33, .int (nI 0), .int (nI 0), .int (nI 0), .ref mf37, .null, .ref mf39, .ref mf40, .null, .ref mf42]))], L, T)) := by
  refine z_ofW (E := E) (Qc := fun A => va_Qq (fun (r : Option Nat) (u : zU) => r = none ∧ u = ([(mm, .inr (21, [.int (nI 0), .ref tp, .int (nI 0), .ref mf3, .ref mf4, .ref mf5, .ref en, .ref wi, .null, .null, .null, .ref mf11, .ref mf12, .ref mf13, .ref mf14, .ref mf15, .int (nI 0), .ref po, .int (nI 0), .ref mf19, .ref mf20, .int (nI 0), .null, .ref mf23, .ref mf24, .ref mf25, .ref mf26, .ref mf27, .ref mf28, .ref mf29, .ref mf30, .ref mf31, .ref mf32, .ref mf33, .int (nI 0), .int (nI 0), .int (nI 0), .ref mf37, .null, .ref mf39, .ref mf40, .null, .ref mf42]))], L, T)) (zB D vwCl (zT K) A X) A) (cc := cX21_sessionOf) (maxL := 2) (ret := (some (.array .byte))) (by decide +kernel) rfl (Nat.le_of_ble_eq_true rfl) ?_
  intro p e s m below meth c A ls hx hb hml hr hts hown hlocks hin hA hK hZ hS hE hl
  have hown : s.vm.findClass RX21 = some m.cls := hown
  have hts : ∀ w ∈ WR, w.before [.ref mm, .ref e0].toArray s = true := fun w h => hts w (List.mem_cons_of_mem _ h)
  have hl : lv_has ls 2 [(0, .ref mm), (1, .ref e0)] := hl
  obtain ⟨H, hH⟩ : ∃ H, H = s.heap := ⟨_, rfl⟩
  have hZ : zP D vwCl A X [(mm, .inr (21, [.int (nI 0), .ref tp, .int (nI 0), .ref mf3, .ref mf4, .ref mf5, .ref en, .ref wi, .null, .null, .null, .ref mf11, .ref mf12, .ref mf13, .ref mf14, .ref mf15, .int (nI 0), .ref po, .int (nI 0), .ref mf19, .ref mf20, .int (nI 0), .null, .ref mf23, .ref mf24, .ref mf25, .ref mf26, .ref mf27, .ref mf28, .ref mf29, .ref mf30, .ref mf31, .ref mf32, .ref mf33, .int (nI 0), .int (nI 0), .int (nI 0), .ref mf37, .null, .ref mf39, .ref mf40, .null, .ref mf42]))] L T H := by rw [hH]; exact hZ
  obtain ⟨locs, hlc⟩ : ∃ q : List Loc, q = [] := ⟨_, rfl⟩
  have hS : va_S A s.heap H locs := by rw [hH, hlc]; exact hS
  suffices hW : W p l e ROOM_X21_sessionOf_e0 s m [.ref mm, .ref e0].toArray below meth c H locs 0 0 (MQ below (va_Qq (fun (r : Option Nat) (u : zU) => r = none ∧ u = ([(mm, .inr (21, [.int (nI 0), .ref tp, .int (nI 0), .ref mf3, .ref mf4, .ref mf5, .ref en, .ref wi, .null, .null, .null, .ref mf11, .ref mf12, .ref mf13, .ref mf14, .ref mf15, .int (nI 0), .ref po, .int (nI 0), .ref mf19, .ref mf20, .int (nI 0), .null, .ref mf23, .ref mf24, .ref mf25, .ref mf26, .ref mf27, .ref mf28, .ref mf29, .ref mf30, .ref mf31, .ref mf32, .ref mf33, .int (nI 0), .int (nI 0), .int (nI 0), .ref mf37, .null, .ref mf39, .ref mf40, .null, .ref mf42]))], L, T)) (zB D vwCl (zT K) A X) A) [.ref mm, .ref e0].toArray s 0 0 A) (F0 m 0 ls []) by rw [hH, hlc] at hW; exact hW
  clear hH hlc
  refine lv_aload_n hx hb dX21_sessionOf_0 rfl (lv_at hl 1 rfl) ?_
  refine z_getPp (own := RX21) (C := RX15) (TT := TX15) (N := 47) (ci := 16) (Ts := WR) (v := .int (nI 0)) hx hb hts zin_wsX150 hown hK hZ h_e0 k_e0 rfl 0 (by decide) (hts _ zw_474) (fun _ h9 => h9) (fun _ h => h.1) dX21_sessionOf_1 ?_
  refine lv_if_ne (tgt := 14) hx hb dX21_sessionOf_4 (by decide) (fun c4 => absurd c4 (by decide +kernel)) (fun c4 => ?_)
  clear c4
  refine lv_aload_n hx hb dX21_sessionOf_7 rfl (lv_at hl 0 rfl) ?_
  refine z_getY (own := RX21) (C := RX21) (TT := TX21) (N := 43) (ci := 21) (Ts := WR) hx hb hts zin_wsX210 hown hK hZ 0 rfl rfl 38 (by decide) (hts _ zw_364) (fun _ h9 => h9) rfl dX21_sessionOf_8 ?_
  refine lv_goto (tgt := 18) hx hb dX21_sessionOf_11 (by decide) ?_
  exact z_aret (r := none) hx hb hr (Or.inr ⟨_, rfl⟩) hlocks hK hZ hS ⟨(by first | rfl | decide +kernel | exact congrArg nI (by omega)), rfl⟩ (Nat.le_of_ble_eq_true rfl) (Nat.le_of_ble_eq_true rfl) dX21_sessionOf_18
abbrev ROOM_X21_sessionOf_e1 : Room := { frames := 1, cells := 0, slots := 0, locals := 0 }
set_option maxHeartbeats 4000000 in
set_option maxRecDepth 100000 in
/-- sessionOf -/
theorem c_X21_sessionOf_e1 (E : zEn) (l : Launch) (D : va_G) (K : Nat → ClassId) (X : va_W) (L : List Nat) (T : Nat → va_E → Prop) {mm : Nat} {e1 : Nat} {tp mf3 mf4 mf5 en wi mf11 mf12 mf13 mf14 mf15 po mf19 mf20 mf23 mf24 mf25 mf26 mf27 mf28 mf29 mf30 mf31 mf32 mf33 mf37 mf39 mf40 mf42 : Nat} {s1 o1 d1 : Nat} (h_e1 : e1 ∈ L) (k_e1 : T e1 = zOp 16 (zEn9 (nI 1) s1 o1 d1))  : zVq E l D vwCl (zT K) yX21_sessionOf (zws yX21_sessionOf cX21_sessionOf 2 (some (.array .byte))) ROOM_X21_sessionOf_e1 0 0 [.ref mm, .ref e1] X [(mm, .inr (21, [.int (nI 0), .ref tp, .int (nI 0), .ref mf3, .ref mf4, .ref mf5, .ref en, .ref wi, .null, .null, .null, .ref mf11, .ref mf12, .ref mf13, .ref mf14, .ref mf15, .int (nI 0), .ref po, .int (nI 0), .ref mf19, .ref mf20, .int (nI 0), .null, .ref mf23, .ref mf24, .ref mf25, .ref mf26, .ref mf27, .ref mf28, .ref mf29, .ref mf30, .ref mf31, .ref mf32, .ref mf33, .int (nI 0), .int (nI 0), .int (nI 0), .ref mf37, .null, .ref mf39, .ref mf40, .null, .ref mf42]))] L T (fun (r : Option Nat) (u : zU) => r = none ∧ u = ([(mm, .inr (21, [.int (nI 0), .ref tp, .int (nI 0), .ref mf3, .ref mf4, .ref mf5, .ref en, .ref wi, .null, .null, .null, .ref mf11, .ref mf12, .ref mf13, .ref mf14, .ref mf15, .int (nI 0), .ref po, .int (nI 0), .ref mf19, .ref mf20, .int (nI 0), .null, .ref mf23, .ref mf24, .ref mf25, .ref mf26, .ref mf27, .ref mf28, .ref mf29, .ref mf30, .ref mf31, .ref mf32, .ref mf33, .int (nI 0), .int (nI 0), .int (nI 0), .ref mf37, .null, .ref mf39, .ref mf40, .null, .ref mf42]))], L, T)) := by
  refine z_ofW (E := E) (Qc := fun A => va_Qq (fun (r : Option Nat) (u : zU) => r = none ∧ u = ([(mm, .inr (21, [.int (nI 0), .ref tp, .int (nI 0), .ref mf3, .ref mf4, .ref mf5, .ref en, .ref wi, .null, .null, .null, .ref mf11, .ref mf12, .ref mf13, .ref mf14, .ref mf15, .int (nI 0), .ref po, .int (nI 0), .ref mf19, .ref mf20, .int (nI 0), .null, .ref mf23, .ref mf24, .ref mf25, .ref mf26, .ref mf27, .ref mf28, .ref mf29, .ref mf30, .ref mf31, .ref mf32, .ref mf33, .int (nI 0), .int (nI 0), .int (nI 0), .ref mf37, .null, .ref mf39, .ref mf40, .null, .ref mf42]))], L, T)) (zB D vwCl (zT K) A X) A) (cc := cX21_sessionOf) (maxL := 2) (ret := (some (.array .byte))) (by decide +kernel) rfl (Nat.le_of_ble_eq_true rfl) ?_
  intro p e s m below meth c A ls hx hb hml hr hts hown hlocks hin hA hK hZ hS hE hl
  have hown : s.vm.findClass RX21 = some m.cls := hown
  have hts : ∀ w ∈ WR, w.before [.ref mm, .ref e1].toArray s = true := fun w h => hts w (List.mem_cons_of_mem _ h)
  have hl : lv_has ls 2 [(0, .ref mm), (1, .ref e1)] := hl
  obtain ⟨H, hH⟩ : ∃ H, H = s.heap := ⟨_, rfl⟩
  have hZ : zP D vwCl A X [(mm, .inr (21, [.int (nI 0), .ref tp, .int (nI 0), .ref mf3, .ref mf4, .ref mf5, .ref en, .ref wi, .null, .null, .null, .ref mf11, .ref mf12, .ref mf13, .ref mf14, .ref mf15, .int (nI 0), .ref po, .int (nI 0), .ref mf19, .ref mf20, .int (nI 0), .null, .ref mf23, .ref mf24, .ref mf25, .ref mf26, .ref mf27, .ref mf28, .ref mf29, .ref mf30, .ref mf31, .ref mf32, .ref mf33, .int (nI 0), .int (nI 0), .int (nI 0), .ref mf37, .null, .ref mf39, .ref mf40, .null, .ref mf42]))] L T H := by rw [hH]; exact hZ
  obtain ⟨locs, hlc⟩ : ∃ q : List Loc, q = [] := ⟨_, rfl⟩
  have hS : va_S A s.heap H locs := by rw [hH, hlc]; exact hS
  suffices hW : W p l e ROOM_X21_sessionOf_e1 s m [.ref mm, .ref e1].toArray below meth c H locs 0 0 (MQ below (va_Qq (fun (r : Option Nat) (u : zU) => r = none ∧ u = ([(mm, .inr (21, [.int (nI 0), .ref tp, .int (nI 0), .ref mf3, .ref mf4, .ref mf5, .ref en, .ref wi, .null, .null, .null, .ref mf11, .ref mf12, .ref mf13, .ref mf14, .ref mf15, .int (nI 0), .ref po, .int (nI 0), .ref mf19, .ref mf20, .int (nI 0), .null, .ref mf23, .ref mf24, .ref mf25, .ref mf26, .ref mf27, .ref mf28, .ref mf29, .ref mf30, .ref mf31, .ref mf32, .ref mf33, .int (nI 0), .int (nI 0), .int (nI 0), .ref mf37, .null, .ref mf39, .ref mf40, .null, .ref mf42]))], L, T)) (zB D vwCl (zT K) A X) A) [.ref mm, .ref e1].toArray s 0 0 A) (F0 m 0 ls []) by rw [hH, hlc] at hW; exact hW
  clear hH hlc
  refine lv_aload_n hx hb dX21_sessionOf_0 rfl (lv_at hl 1 rfl) ?_
  refine z_getPp (own := RX21) (C := RX15) (TT := TX15) (N := 47) (ci := 16) (Ts := WR) (v := .int (nI 1)) hx hb hts zin_wsX150 hown hK hZ h_e1 k_e1 rfl 0 (by decide) (hts _ zw_474) (fun _ h9 => h9) (fun _ h => h.1) dX21_sessionOf_1 ?_
  refine lv_if_ne (tgt := 14) hx hb dX21_sessionOf_4 (by decide) (fun c4 => ?_) (fun c4 => absurd c4 (by decide +kernel))
  clear c4
  refine lv_aload_n hx hb dX21_sessionOf_14 rfl (lv_at hl 0 rfl) ?_
  refine z_getY (own := RX21) (C := RX21) (TT := TX21) (N := 43) (ci := 21) (Ts := WR) hx hb hts zin_wsX210 hown hK hZ 0 rfl rfl 22 (by decide) (hts _ zw_363) (fun _ h9 => h9) rfl dX21_sessionOf_15 ?_
  exact z_aret (r := none) hx hb hr (Or.inr ⟨_, rfl⟩) hlocks hK hZ hS ⟨(by first | rfl | decide +kernel | exact congrArg nI (by omega)), rfl⟩ (Nat.le_of_ble_eq_true rfl) (Nat.le_of_ble_eq_true rfl) dX21_sessionOf_18
end ZME

section ZME
abbrev ROOM_L_feed : Room := { frames := 4, cells := 1, slots := 6, locals := 69 }
set_option maxHeartbeats 4000000 in
set_option maxRecDepth 100000 in
/-- the law's feed -/
theorem c_L_feed (E : zEn) (l : Launch) (hfl : l.stackTraces = false) (D : va_G) (K : Nat → ClassId) (X : va_W) (L : List Nat) (T : Nat → va_E → Prop) {x : Nat} {a0 : Int32} {a1 : Int32} {a2 : Int32} {a3 : Int32} {a4 : Int32} {out : Nat} {td : Nat} {tp wi cl sv : Nat}  (h_td : td ∈ L) (k_td : T td = zI (K 2) 256) (hSt : zSt E) : zXi E l D vwCl (zT K) yL_feed (zwsH yL_feed cL_feed 8 (some .int) [(0, 16, 19, 13)]) ROOM_L_feed 1 6 [.ref x, .int a0, .int a1, .int a2, .int a3, .int a4, .ref out] X [(x, .inr (13, [.ref tp, .ref wi, .ref cl, .ref sv])), (tp, .inr (3, [.ref td, .int (nI 0), .int (nI 0), .int (nI 0), .int (nI 0), .int (nI 0)])), (out, .inl (K 1, 1, .inr (.inl (fun _ => 0))))] L T (fun (r : Int32) (u : zU) => ∃ (go : Nat → Int64), (r = nI 0 ∧ go 0 = 20) ∧ u = ([(x, .inr (13, [.ref tp, .ref wi, .ref cl, .ref sv])), (tp, .inr (3, [.ref td, .int (nI 0), .int (nI 20), .int (nI 0), .int (nI 0), .int (nI 0)])), (out, .inl (K 1, 1, .inr (.inl go)))], L, T)) (fun (_ : String) (_ : zU) => False) := by
  refine z_ofWH (E := E) (Qc := fun A => va_Qi (fun (r : Int32) (u : zU) => ∃ (go : Nat → Int64), (r = nI 0 ∧ go 0 = 20) ∧ u = ([(x, .inr (13, [.ref tp, .ref wi, .ref cl, .ref sv])), (tp, .inr (3, [.ref td, .int (nI 0), .int (nI 20), .int (nI 0), .int (nI 0), .int (nI 0)])), (out, .inl (K 1, 1, .inr (.inl go)))], L, T)) (zB D vwCl (zT K) A X) A) (XC := fun A => zXC D vwCl (zT K) A X (fun (_ : String) (_ : zU) => False)) (cc := cL_feed) (maxL := 8) (ret := (some .int)) (hh := [(0, 16, 19, 13)]) (by decide +kernel) rfl (Nat.le_of_ble_eq_true rfl) ?_
  intro p e s m below meth c A ls hx hb hml hr hts hown hlocks htab hA hK hZ hS hE hl
  have hown : s.vm.findClass RL = some m.cls := hown
  have hts : ∀ w ∈ WR, w.before [.ref x, .int a0, .int a1, .int a2, .int a3, .int a4, .ref out].toArray s = true := fun w h => hts w (List.mem_cons_of_mem _ h)
  have hl : lv_has ls 8 [(0, .ref x), (1, .int a0), (2, .int a1), (3, .int a2), (4, .int a3), (5, .int a4), (6, .ref out)] := hl
  obtain ⟨H, hH⟩ : ∃ H, H = s.heap := ⟨_, rfl⟩
  have hZ : zP D vwCl A X [(x, .inr (13, [.ref tp, .ref wi, .ref cl, .ref sv])), (tp, .inr (3, [.ref td, .int (nI 0), .int (nI 0), .int (nI 0), .int (nI 0), .int (nI 0)])), (out, .inl (K 1, 1, .inr (.inl (fun _ => 0))))] L T H := by rw [hH]; exact hZ
  obtain ⟨locs, hlc⟩ : ∃ q : List Loc, q = [] := ⟨_, rfl⟩
  have hS : va_S A s.heap H locs := by rw [hH, hlc]; exact hS
  suffices hW : W p l e ROOM_L_feed s m [.ref x, .int a0, .int a1, .int a2, .int a3, .int a4, .ref out].toArray below meth c H locs 0 0 (vx_MQ below (va_Qi (fun (r : Int32) (u : zU) => ∃ (go : Nat → Int64), (r = nI 0 ∧ go 0 = 20) ∧ u = ([(x, .inr (13, [.ref tp, .ref wi, .ref cl, .ref sv])), (tp, .inr (3, [.ref td, .int (nI 0), .int (nI 20), .int (nI 0), .int (nI 0), .int (nI 0)])), (out, .inl (K 1, 1, .inr (.inl go)))], L, T)) (zB D vwCl (zT K) A X) A) (zXC D vwCl (zT K) A X (fun (_ : String) (_ : zU) => False)) [.ref x, .int a0, .int a1, .int a2, .int a3, .int a4, .ref out].toArray s 1 6 A) (F0 m 0 ls []) by rw [hH, hlc] at hW; exact hW
  clear hH hlc
  refine lv_aload hx hb dL_feed_0 (lv_at hl 6 rfl) ?_
  refine lv_iconst (v := nI 0) hx hb dL_feed_2 (by decide +kernel) ?_
  refine lv_aload_n hx hb dL_feed_3 rfl (lv_at hl 0 rfl) ?_
  refine lv_iload_n hx hb dL_feed_4 rfl (lv_at hl 1 rfl) ?_
  refine lv_iload_n hx hb dL_feed_5 rfl (lv_at hl 2 rfl) ?_
  refine lv_iload_n hx hb dL_feed_6 rfl (lv_at hl 3 rfl) ?_
  refine lv_iload hx hb dL_feed_7 (lv_at hl 4 rfl) ?_
  refine lv_iload hx hb dL_feed_9 (lv_at hl 5 rfl) ?_
  have rv1 : ∃ cell : Cell, H[x]? = some cell ∧ cell.vm.isStatics = false ∧ s.vm.findClass RX12 = some cell.cls := z_recvY hK hZ 0 rfl rfl
  have hZc := zP.into (Y1 := [(out, .inl (K 1, 1, .inr (.inl (fun _ => 0))))]) (Y2 := [(x, .inr (13, [.ref tp, .ref wi, .ref cl, .ref sv])), (tp, .inr (3, [.ref td, .int (nI 0), .int (nI 0), .int (nI 0), .int (nI 0), .int (nI 0)]))]) (zP.pick [2, 0, 1] [(out, .inl (K 1, 1, .inr (.inl (fun _ => 0)))), (x, .inr (13, [.ref tp, .ref wi, .ref cl, .ref sv])), (tp, .inr (3, [.ref td, .int (nI 0), .int (nI 0), .int (nI 0), .int (nI 0), .int (nI 0)]))] hZ (by decide) rfl)
  refine z_goXI (vx_runV (As := [.int a0, .int a1, .int a2, .int a3, .int a4]) (rest := [.int (nI 0), .ref out]) ⟨hx, hb, hml, hown, hts⟩ ((c_X12_feed E l hfl D K (X ++ [(out, .inl (K 1, 1, .inr (.inl (fun _ => 0))))]) L T h_td k_td hSt) H.size) (cwV 5 hts (zg_V zw_1014 zw_833 zw_1015 zw_813 zw_832) rfl rfl rfl (by decide +kernel) ⟨Nat.le_of_ble_eq_true rfl, Nat.le_of_ble_eq_true rfl⟩) (z_preV hK hZc hS hA hE rv1) rfl rfl hl.1 rfl (lv_room (Nat.le_of_ble_eq_true rfl)) dL_feed_11 ⟨Nat.le_of_ble_eq_true rfl, Nat.le_of_ble_eq_true rfl⟩) hZc hS hA (fun E9 ce9 q9 Y1 L1 T1 H locs hp hZ hS hc9 hv9 hcl9 => ?_) (fun x2 Y1 L1 T1 H locs hp hZ hS => ?_)
  · obtain ⟨hu, hp⟩ := hp
    cases hu
    have hZ : zP D vwCl A X [(out, .inl (K 1, 1, .inr (.inl (fun _ => 0)))), (x, .inr (13, [.ref tp, .ref wi, .ref cl, .ref sv])), (tp, .inr (3, [.ref td, .int (nI 0), .int (nI 0), .int (nI 0), .int (nI 0), .int (nI 0)]))] L T H := zP.back hZ
    rcases hp with ⟨rfl, hk9⟩
    · exact hk9.elim
  obtain ⟨hres, hp⟩ := hp
  cases hp
  have hZ : zP D vwCl A X [(out, .inl (K 1, 1, .inr (.inl (fun _ => 0)))), (x, .inr (13, [.ref tp, .ref wi, .ref cl, .ref sv])), (tp, .inr (3, [.ref td, .int (nI 0), .int (nI 20), .int (nI 0), .int (nI 0), .int (nI 0)]))] L T H := zP.back hZ
  obtain rfl : x2 = nI 20 := hres
  refine lv_i2l hx hb dL_feed_14 rfl ?_
  refine lv_topl (fun x3 ex3 => ?_)
  obtain rfl : x3 = 20 := ex3.trans (by decide +kernel)
  refine z_lastY hx hb hK hZ hS 1 0 rfl rfl (vp_in_nI (by omega) (by omega)) dL_feed_15 (fun H locs hZ hS => ?_)
  have hZ : zP D vwCl A X [(out, .inl (K 1, 1, .inr (.inl (vp_updL (fun _ => 0) (nI 0).toNatClampNeg (20))))), (x, .inr (13, [.ref tp, .ref wi, .ref cl, .ref sv])), (tp, .inr (3, [.ref td, .int (nI 0), .int (nI 20), .int (nI 0), .int (nI 0), .int (nI 0)]))] L T H := hZ
  refine lv_goto (tgt := 23) hx hb dL_feed_16 (by decide) ?_
  refine lv_iconst (v := nI 0) hx hb dL_feed_23 (by decide +kernel) ?_
  have hZ : zP D vwCl A X [(x, .inr (13, [.ref tp, .ref wi, .ref cl, .ref sv])), (tp, .inr (3, [.ref td, .int (nI 0), .int (nI 20), .int (nI 0), .int (nI 0), .int (nI 0)])), (out, .inl (K 1, 1, .inr (.inl (vp_updL (fun _ => 0) (nI 0).toNatClampNeg (20)))))] L T H := zP.pick [1, 2, 0] [(x, .inr (13, [.ref tp, .ref wi, .ref cl, .ref sv])), (tp, .inr (3, [.ref td, .int (nI 0), .int (nI 20), .int (nI 0), .int (nI 0), .int (nI 0)])), (out, .inl (K 1, 1, .inr (.inl (vp_updL (fun _ => 0) (nI 0).toNatClampNeg (20)))))] hZ (by decide) rfl
  refine vx_ret ?_
  exact z_iret hx hb hr rfl hlocks hK hZ hS ⟨(vp_updL (fun _ => 0) (nI 0).toNatClampNeg (20)), ⟨rfl, (zgo0 _)⟩, rfl⟩ (Nat.le_of_ble_eq_true rfl) (Nat.le_of_ble_eq_true rfl) dL_feed_24
abbrev ROOM_L_end : Room := { frames := 7, cells := 1, slots := 6, locals := 121 }
set_option maxHeartbeats 4000000 in
set_option maxRecDepth 100000 in
/-- the law's end -/
theorem c_L_end (E : zEn) (l : Launch) (hfl : l.stackTraces = false) (D : va_G) (K : Nat → ClassId) (X : va_W) (L : List Nat) (T : Nat → va_E → Prop) {x : Nat} {n : Int32} {out : Nat} {tp wi cl sv : Nat} {td : Nat}  (hSt : zSt E) : zXi E l D vwCl (zT K) yL_end (zwsH yL_end cL_end 4 (some .int) [(0, 9, 12, 19)]) ROOM_L_end 1 6 [.ref x, .int n, .ref out] X [(x, .inr (13, [.ref tp, .ref wi, .ref cl, .ref sv])), (tp, .inr (3, [.ref td, .int (nI 0), .int (nI 0), .int (nI 0), .int (nI 0), .int (nI 0)])), (out, .inl (K 1, 1, .inr (.inl (fun _ => 0))))] L T (fun (r : Int32) (u : zU) => ∃ (go : Nat → Int64), (r = zka_end n ∧ go 0 = 0) ∧ u = ([(x, .inr (13, [.ref tp, .ref wi, .ref cl, .ref sv])), (tp, .inr (3, [.ref td, .int (nI 0), .int (nI 0), .int (nI 0), .int (nI 0), .int (nI 0)])), (out, .inl (K 1, 1, .inr (.inl go)))], L, T)) (fun (_ : String) (_ : zU) => False) := by
  refine z_ofWH (E := E) (Qc := fun A => va_Qi (fun (r : Int32) (u : zU) => ∃ (go : Nat → Int64), (r = zka_end n ∧ go 0 = 0) ∧ u = ([(x, .inr (13, [.ref tp, .ref wi, .ref cl, .ref sv])), (tp, .inr (3, [.ref td, .int (nI 0), .int (nI 0), .int (nI 0), .int (nI 0), .int (nI 0)])), (out, .inl (K 1, 1, .inr (.inl go)))], L, T)) (zB D vwCl (zT K) A X) A) (XC := fun A => zXC D vwCl (zT K) A X (fun (_ : String) (_ : zU) => False)) (cc := cL_end) (maxL := 4) (ret := (some .int)) (hh := [(0, 9, 12, 19)]) (by decide +kernel) rfl (Nat.le_of_ble_eq_true rfl) ?_
  intro p e s m below meth c A ls hx hb hml hr hts hown hlocks htab hA hK hZ hS hE hl
  have hown : s.vm.findClass RL = some m.cls := hown
  have hts : ∀ w ∈ WR, w.before [.ref x, .int n, .ref out].toArray s = true := fun w h => hts w (List.mem_cons_of_mem _ h)
  have hl : lv_has ls 4 [(0, .ref x), (1, .int n), (2, .ref out)] := hl
  obtain ⟨H, hH⟩ : ∃ H, H = s.heap := ⟨_, rfl⟩
  have hZ : zP D vwCl A X [(x, .inr (13, [.ref tp, .ref wi, .ref cl, .ref sv])), (tp, .inr (3, [.ref td, .int (nI 0), .int (nI 0), .int (nI 0), .int (nI 0), .int (nI 0)])), (out, .inl (K 1, 1, .inr (.inl (fun _ => 0))))] L T H := by rw [hH]; exact hZ
  obtain ⟨locs, hlc⟩ : ∃ q : List Loc, q = [] := ⟨_, rfl⟩
  have hS : va_S A s.heap H locs := by rw [hH, hlc]; exact hS
  suffices hW : W p l e ROOM_L_end s m [.ref x, .int n, .ref out].toArray below meth c H locs 0 0 (vx_MQ below (va_Qi (fun (r : Int32) (u : zU) => ∃ (go : Nat → Int64), (r = zka_end n ∧ go 0 = 0) ∧ u = ([(x, .inr (13, [.ref tp, .ref wi, .ref cl, .ref sv])), (tp, .inr (3, [.ref td, .int (nI 0), .int (nI 0), .int (nI 0), .int (nI 0), .int (nI 0)])), (out, .inl (K 1, 1, .inr (.inl go)))], L, T)) (zB D vwCl (zT K) A X) A) (zXC D vwCl (zT K) A X (fun (_ : String) (_ : zU) => False)) [.ref x, .int n, .ref out].toArray s 1 6 A) (F0 m 0 ls []) by rw [hH, hlc] at hW; exact hW
  clear hH hlc
  refine lv_aload_n hx hb dL_end_0 rfl (lv_at hl 2 rfl) ?_
  refine lv_iconst (v := nI 0) hx hb dL_end_1 (by decide +kernel) ?_
  refine lv_aload_n hx hb dL_end_2 rfl (lv_at hl 0 rfl) ?_
  refine lv_iload_n hx hb dL_end_3 rfl (lv_at hl 1 rfl) ?_
  have rv1 : ∃ cell : Cell, H[x]? = some cell ∧ cell.vm.isStatics = false ∧ s.vm.findClass RX12 = some cell.cls := z_recvY hK hZ 0 rfl rfl
  have hZc := zP.into (Y1 := [(out, .inl (K 1, 1, .inr (.inl (fun _ => 0))))]) (Y2 := [(x, .inr (13, [.ref tp, .ref wi, .ref cl, .ref sv])), (tp, .inr (3, [.ref td, .int (nI 0), .int (nI 0), .int (nI 0), .int (nI 0), .int (nI 0)]))]) (zP.pick [2, 0, 1] [(out, .inl (K 1, 1, .inr (.inl (fun _ => 0)))), (x, .inr (13, [.ref tp, .ref wi, .ref cl, .ref sv])), (tp, .inr (3, [.ref td, .int (nI 0), .int (nI 0), .int (nI 0), .int (nI 0), .int (nI 0)]))] hZ (by decide) rfl)
  refine z_goXI (vx_runV (As := [.int n]) (rest := [.int (nI 0), .ref out]) ⟨hx, hb, hml, hown, hts⟩ ((c_X12_end E l hfl D K (X ++ [(out, .inl (K 1, 1, .inr (.inl (fun _ => 0))))]) L T hSt) H.size) (cwV 1 hts (zg_V zw_1018 zw_841 zw_1019 zw_813 zw_840) rfl rfl rfl (by decide +kernel) ⟨Nat.le_of_ble_eq_true rfl, Nat.le_of_ble_eq_true rfl⟩) (z_preV hK hZc hS hA hE rv1) rfl rfl hl.1 rfl (lv_room (Nat.le_of_ble_eq_true rfl)) dL_end_4 ⟨Nat.le_of_ble_eq_true rfl, Nat.le_of_ble_eq_true rfl⟩) hZc hS hA (fun E9 ce9 q9 Y1 L1 T1 H locs hp hZ hS hc9 hv9 hcl9 => ?_) (fun x2 Y1 L1 T1 H locs hp hZ hS => ?_)
  · obtain ⟨hu, hp⟩ := hp
    cases hu
    have hZ : zP D vwCl A X [(out, .inl (K 1, 1, .inr (.inl (fun _ => 0)))), (x, .inr (13, [.ref tp, .ref wi, .ref cl, .ref sv])), (tp, .inr (3, [.ref td, .int (nI 0), .int (nI 0), .int (nI 0), .int (nI 0), .int (nI 0)]))] L T H := zP.back hZ
    rcases hp with ⟨rfl, hk9⟩
    · refine vx_catch (name := "java/lang/IllegalArgumentException") hown [] { startPc := 0, endPc := 9, handlerPc := 12, catchType := 19 } [] (by rw [htab]; rfl) (fun _ h => absurd h List.not_mem_nil) (by decide) (by decide) (hts _ zw_1097) (va_Nw.use rfl (zcst hE (List.mem_of_getElem? (i := 1) rfl))) hc9 hv9 hcl9 ?_
      refine lv_astore_n (lv' := [(3, .ref q9), (0, .ref x), (1, .int n), (2, .ref out)]) hx hb dL_end_12 rfl hl (by decide) rfl (fun ls hl => ?_)
      refine lv_iconst (v := nI 1) hx hb dL_end_13 (by decide +kernel) ?_
      have hZ : zP D vwCl A X [(x, .inr (13, [.ref tp, .ref wi, .ref cl, .ref sv])), (tp, .inr (3, [.ref td, .int (nI 0), .int (nI 0), .int (nI 0), .int (nI 0), .int (nI 0)])), (out, .inl (K 1, 1, .inr (.inl (fun _ => 0))))] L T H := zP.pick [1, 2, 0] [(x, .inr (13, [.ref tp, .ref wi, .ref cl, .ref sv])), (tp, .inr (3, [.ref td, .int (nI 0), .int (nI 0), .int (nI 0), .int (nI 0), .int (nI 0)])), (out, .inl (K 1, 1, .inr (.inl (fun _ => 0))))] hZ (by decide) rfl
      refine vx_ret ?_
      exact z_iret hx hb hr rfl hlocks hK hZ hS ⟨(fun _ => 0), ⟨hk9.symm, rfl⟩, rfl⟩ (Nat.le_of_ble_eq_true rfl) (Nat.le_of_ble_eq_true rfl) dL_end_14
  obtain ⟨⟨hk9, hres⟩, hp⟩ := hp
  cases hp
  have hZ : zP D vwCl A X [(out, .inl (K 1, 1, .inr (.inl (fun _ => 0)))), (x, .inr (13, [.ref tp, .ref wi, .ref cl, .ref sv])), (tp, .inr (3, [.ref td, .int (nI 0), .int (nI 0), .int (nI 0), .int (nI 0), .int (nI 0)]))] L T H := zP.back hZ
  obtain rfl : x2 = nI 0 := hres
  refine lv_i2l hx hb dL_end_7 rfl ?_
  refine lv_topl (fun x3 ex3 => ?_)
  obtain rfl : x3 = 0 := ex3.trans (by decide +kernel)
  refine z_lastY hx hb hK hZ hS 1 0 rfl rfl (vp_in_nI (by omega) (by omega)) dL_end_8 (fun H locs hZ hS => ?_)
  have hZ : zP D vwCl A X [(out, .inl (K 1, 1, .inr (.inl (vp_updL (fun _ => 0) (nI 0).toNatClampNeg (0))))), (x, .inr (13, [.ref tp, .ref wi, .ref cl, .ref sv])), (tp, .inr (3, [.ref td, .int (nI 0), .int (nI 0), .int (nI 0), .int (nI 0), .int (nI 0)]))] L T H := hZ
  refine lv_goto (tgt := 15) hx hb dL_end_9 (by decide) ?_
  refine lv_iconst (v := nI 0) hx hb dL_end_15 (by decide +kernel) ?_
  have hZ : zP D vwCl A X [(x, .inr (13, [.ref tp, .ref wi, .ref cl, .ref sv])), (tp, .inr (3, [.ref td, .int (nI 0), .int (nI 0), .int (nI 0), .int (nI 0), .int (nI 0)])), (out, .inl (K 1, 1, .inr (.inl (vp_updL (fun _ => 0) (nI 0).toNatClampNeg (0)))))] L T H := zP.pick [1, 2, 0] [(x, .inr (13, [.ref tp, .ref wi, .ref cl, .ref sv])), (tp, .inr (3, [.ref td, .int (nI 0), .int (nI 0), .int (nI 0), .int (nI 0), .int (nI 0)])), (out, .inl (K 1, 1, .inr (.inl (vp_updL (fun _ => 0) (nI 0).toNatClampNeg (0)))))] hZ (by decide) rfl
  refine vx_ret ?_
  exact z_iret hx hb hr rfl hlocks hK hZ hS ⟨(vp_updL (fun _ => 0) (nI 0).toNatClampNeg (0)), ⟨hk9.symm, (zgo0 _)⟩, rfl⟩ (Nat.le_of_ble_eq_true rfl) (Nat.le_of_ble_eq_true rfl) dL_end_16
abbrev ROOM_L_secret : Room := { frames := 7, cells := 1, slots := 6, locals := 121 }
set_option maxHeartbeats 4000000 in
set_option maxRecDepth 100000 in
/-- the law's secret -/
theorem c_L_secret (E : zEn) (l : Launch) (hfl : l.stackTraces = false) (D : va_G) (K : Nat → ClassId) (X : va_W) (L : List Nat) (T : Nat → va_E → Prop) {x : Nat} {w : Int32} {tp wi cl sv : Nat} {td : Nat}  (hSt : zSt E) : zXi E l D vwCl (zT K) yL_secret (zwsH yL_secret cL_secret 3 (some .int) [(0, 5, 8, 25), (0, 5, 11, 19)]) ROOM_L_secret 1 6 [.ref x, .int w] X [(x, .inr (13, [.ref tp, .ref wi, .ref cl, .ref sv])), (tp, .inr (3, [.ref td, .int (nI 0), .int (nI 0), .int (nI 0), .int (nI 0), .int (nI 0)]))] L T (fun (r : Int32) (u : zU) => (r = zka_secret w) ∧ u = ([(x, .inr (13, [.ref tp, .ref wi, .ref cl, .ref sv])), (tp, .inr (3, [.ref td, .int (nI 0), .int (nI 0), .int (nI 0), .int (nI 0), .int (nI 0)]))], L, T)) (fun (_ : String) (_ : zU) => False) := by
  refine z_ofWH (E := E) (Qc := fun A => va_Qi (fun (r : Int32) (u : zU) => (r = zka_secret w) ∧ u = ([(x, .inr (13, [.ref tp, .ref wi, .ref cl, .ref sv])), (tp, .inr (3, [.ref td, .int (nI 0), .int (nI 0), .int (nI 0), .int (nI 0), .int (nI 0)]))], L, T)) (zB D vwCl (zT K) A X) A) (XC := fun A => zXC D vwCl (zT K) A X (fun (_ : String) (_ : zU) => False)) (cc := cL_secret) (maxL := 3) (ret := (some .int)) (hh := [(0, 5, 8, 25), (0, 5, 11, 19)]) (by decide +kernel) rfl (Nat.le_of_ble_eq_true rfl) ?_
  intro p e s m below meth c A ls hx hb hml hr hts hown hlocks htab hA hK hZ hS hE hl
  have hown : s.vm.findClass RL = some m.cls := hown
  have hts : ∀ w9 ∈ WR, w9.before [.ref x, .int w].toArray s = true := fun w9 h => hts w9 (List.mem_cons_of_mem _ h)
  have hl : lv_has ls 3 [(0, .ref x), (1, .int w)] := hl
  obtain ⟨H, hH⟩ : ∃ H, H = s.heap := ⟨_, rfl⟩
  have hZ : zP D vwCl A X [(x, .inr (13, [.ref tp, .ref wi, .ref cl, .ref sv])), (tp, .inr (3, [.ref td, .int (nI 0), .int (nI 0), .int (nI 0), .int (nI 0), .int (nI 0)]))] L T H := by rw [hH]; exact hZ
  obtain ⟨locs, hlc⟩ : ∃ q : List Loc, q = [] := ⟨_, rfl⟩
  have hS : va_S A s.heap H locs := by rw [hH, hlc]; exact hS
  suffices hW : W p l e ROOM_L_secret s m [.ref x, .int w].toArray below meth c H locs 0 0 (vx_MQ below (va_Qi (fun (r : Int32) (u : zU) => (r = zka_secret w) ∧ u = ([(x, .inr (13, [.ref tp, .ref wi, .ref cl, .ref sv])), (tp, .inr (3, [.ref td, .int (nI 0), .int (nI 0), .int (nI 0), .int (nI 0), .int (nI 0)]))], L, T)) (zB D vwCl (zT K) A X) A) (zXC D vwCl (zT K) A X (fun (_ : String) (_ : zU) => False)) [.ref x, .int w].toArray s 1 6 A) (F0 m 0 ls []) by rw [hH, hlc] at hW; exact hW
  clear hH hlc
  refine lv_aload_n hx hb dL_secret_0 rfl (lv_at hl 0 rfl) ?_
  refine lv_iload_n hx hb dL_secret_1 rfl (lv_at hl 1 rfl) ?_
  have rv1 : ∃ cell : Cell, H[x]? = some cell ∧ cell.vm.isStatics = false ∧ s.vm.findClass RX12 = some cell.cls := z_recvY hK hZ 0 rfl rfl
  have hZc := zP.into (Y1 := []) (Y2 := [(x, .inr (13, [.ref tp, .ref wi, .ref cl, .ref sv])), (tp, .inr (3, [.ref td, .int (nI 0), .int (nI 0), .int (nI 0), .int (nI 0), .int (nI 0)]))]) hZ
  refine z_goX (vx_runV (As := [.int w]) (rest := []) ⟨hx, hb, hml, hown, hts⟩ ((c_X12_secret E l hfl D K (X ++ []) L T hSt) H.size) (cwV 1 hts (zg_V zw_1022 zw_848 zw_1023 zw_813 zw_847) rfl rfl rfl (by decide +kernel) ⟨Nat.le_of_ble_eq_true rfl, Nat.le_of_ble_eq_true rfl⟩) (z_preV hK hZc hS hA hE rv1) rfl rfl hl.1 rfl (lv_room (Nat.le_of_ble_eq_true rfl)) dL_secret_2 ⟨Nat.le_of_ble_eq_true rfl, Nat.le_of_ble_eq_true rfl⟩) hZc hS hA (fun E9 ce9 q9 Y1 L1 T1 H locs hp hZ hS hc9 hv9 hcl9 => ?_) (fun  Y1 L1 T1 H locs hp hZ hS => ?_)
  · obtain ⟨hu, hp⟩ := hp
    cases hu
    have hZ : zP D vwCl A X [(x, .inr (13, [.ref tp, .ref wi, .ref cl, .ref sv])), (tp, .inr (3, [.ref td, .int (nI 0), .int (nI 0), .int (nI 0), .int (nI 0), .int (nI 0)]))] L T H := zP.back hZ
    rcases hp with ⟨rfl, hk9⟩ | ⟨rfl, hk9⟩
    · refine vx_catch (name := "java/util/NoSuchElementException") hown [] { startPc := 0, endPc := 5, handlerPc := 8, catchType := 25 } [{ startPc := 0, endPc := 5, handlerPc := 11, catchType := 19 }] (by rw [htab]; rfl) (fun _ h => absurd h List.not_mem_nil) (by decide) (by decide) (hts _ zw_1098) (va_Nw.use rfl (zcst hE (List.mem_of_getElem? (i := 2) rfl))) hc9 hv9 hcl9 ?_
      refine lv_astore_n (lv' := [(2, .ref q9), (0, .ref x), (1, .int w)]) hx hb dL_secret_8 rfl hl (by decide) rfl (fun ls hl => ?_)
      refine lv_iconst (v := nI 1) hx hb dL_secret_9 (by decide +kernel) ?_
      refine vx_ret ?_
      exact z_iret hx hb hr rfl hlocks hK hZ hS ⟨hk9.symm, rfl⟩ (Nat.le_of_ble_eq_true rfl) (Nat.le_of_ble_eq_true rfl) dL_secret_10
    · refine vx_catch (name := "java/lang/IllegalArgumentException") hown [{ startPc := 0, endPc := 5, handlerPc := 8, catchType := 25 }] { startPc := 0, endPc := 5, handlerPc := 11, catchType := 19 } [] (by rw [htab]; rfl) (List.forall_mem_cons.mpr ⟨Or.inr ⟨(by decide), "java/util/NoSuchElementException", hts _ zw_1098, znc hE (x := ("java/lang/IllegalArgumentException", "java/util/NoSuchElementException")) (List.mem_of_getElem? (i := 0) rfl)⟩, (fun _ h => absurd h List.not_mem_nil)⟩) (by decide) (by decide) (hts _ zw_1097) (va_Nw.use rfl (zcst hE (List.mem_of_getElem? (i := 1) rfl))) hc9 hv9 hcl9 ?_
      refine lv_astore_n (lv' := [(2, .ref q9), (0, .ref x), (1, .int w)]) hx hb dL_secret_11 rfl hl (by decide) rfl (fun ls hl => ?_)
      refine lv_iconst (v := nI 2) hx hb dL_secret_12 (by decide +kernel) ?_
      refine vx_ret ?_
      exact z_iret hx hb hr rfl hlocks hK hZ hS ⟨hk9.symm, rfl⟩ (Nat.le_of_ble_eq_true rfl) (Nat.le_of_ble_eq_true rfl) dL_secret_13
  obtain ⟨hnever, hp⟩ := hp
  cases hp
  exact hnever.elim
abbrev ROOM_L_user : Room := { frames := 7, cells := 1, slots := 6, locals := 122 }
set_option maxHeartbeats 4000000 in
set_option maxRecDepth 100000 in
/-- the law's user -/
theorem c_L_user (E : zEn) (l : Launch) (hfl : l.stackTraces = false) (D : va_G) (K : Nat → ClassId) (X : va_W) (L : List Nat) (T : Nat → va_E → Prop) {x : Nat} {n : Int32} {sv0 : Int32} {out : Nat} {tp wi cl sv : Nat} {td : Nat}  (hSt : zSt E) : zXi E l D vwCl (zT K) yL_user (zwsH yL_user cL_user 5 (some .int) [(0, 10, 13, 19), (0, 10, 17, 13)]) ROOM_L_user 1 6 [.ref x, .int n, .int sv0, .ref out] X [(x, .inr (13, [.ref tp, .ref wi, .ref cl, .ref sv])), (tp, .inr (3, [.ref td, .int (nI 0), .int (nI 0), .int (nI 0), .int (nI 0), .int (nI 0)])), (out, .inl (K 1, 1, .inr (.inl (fun _ => 0))))] L T (fun (r : Int32) (u : zU) => ∃ (go : Nat → Int64), (r = nI 1 ∧ go 0 = 0) ∧ u = ([(x, .inr (13, [.ref tp, .ref wi, .ref cl, .ref sv])), (tp, .inr (3, [.ref td, .int (nI 0), .int (nI 0), .int (nI 0), .int (nI 0), .int (nI 0)])), (out, .inl (K 1, 1, .inr (.inl go)))], L, T)) (fun (_ : String) (_ : zU) => False) := by
  refine z_ofWH (E := E) (Qc := fun A => va_Qi (fun (r : Int32) (u : zU) => ∃ (go : Nat → Int64), (r = nI 1 ∧ go 0 = 0) ∧ u = ([(x, .inr (13, [.ref tp, .ref wi, .ref cl, .ref sv])), (tp, .inr (3, [.ref td, .int (nI 0), .int (nI 0), .int (nI 0), .int (nI 0), .int (nI 0)])), (out, .inl (K 1, 1, .inr (.inl go)))], L, T)) (zB D vwCl (zT K) A X) A) (XC := fun A => zXC D vwCl (zT K) A X (fun (_ : String) (_ : zU) => False)) (cc := cL_user) (maxL := 5) (ret := (some .int)) (hh := [(0, 10, 13, 19), (0, 10, 17, 13)]) (by decide +kernel) rfl (Nat.le_of_ble_eq_true rfl) ?_
  intro p e s m below meth c A ls hx hb hml hr hts hown hlocks htab hA hK hZ hS hE hl
  have hown : s.vm.findClass RL = some m.cls := hown
  have hts : ∀ w ∈ WR, w.before [.ref x, .int n, .int sv0, .ref out].toArray s = true := fun w h => hts w (List.mem_cons_of_mem _ h)
  have hl : lv_has ls 5 [(0, .ref x), (1, .int n), (2, .int sv0), (3, .ref out)] := hl
  obtain ⟨H, hH⟩ : ∃ H, H = s.heap := ⟨_, rfl⟩
  have hZ : zP D vwCl A X [(x, .inr (13, [.ref tp, .ref wi, .ref cl, .ref sv])), (tp, .inr (3, [.ref td, .int (nI 0), .int (nI 0), .int (nI 0), .int (nI 0), .int (nI 0)])), (out, .inl (K 1, 1, .inr (.inl (fun _ => 0))))] L T H := by rw [hH]; exact hZ
  obtain ⟨locs, hlc⟩ : ∃ q : List Loc, q = [] := ⟨_, rfl⟩
  have hS : va_S A s.heap H locs := by rw [hH, hlc]; exact hS
  suffices hW : W p l e ROOM_L_user s m [.ref x, .int n, .int sv0, .ref out].toArray below meth c H locs 0 0 (vx_MQ below (va_Qi (fun (r : Int32) (u : zU) => ∃ (go : Nat → Int64), (r = nI 1 ∧ go 0 = 0) ∧ u = ([(x, .inr (13, [.ref tp, .ref wi, .ref cl, .ref sv])), (tp, .inr (3, [.ref td, .int (nI 0), .int (nI 0), .int (nI 0), .int (nI 0), .int (nI 0)])), (out, .inl (K 1, 1, .inr (.inl go)))], L, T)) (zB D vwCl (zT K) A X) A) (zXC D vwCl (zT K) A X (fun (_ : String) (_ : zU) => False)) [.ref x, .int n, .int sv0, .ref out].toArray s 1 6 A) (F0 m 0 ls []) by rw [hH, hlc] at hW; exact hW
  clear hH hlc
  refine lv_aload_n hx hb dL_user_0 rfl (lv_at hl 3 rfl) ?_
  refine lv_iconst (v := nI 0) hx hb dL_user_1 (by decide +kernel) ?_
  refine lv_aload_n hx hb dL_user_2 rfl (lv_at hl 0 rfl) ?_
  refine lv_iload_n hx hb dL_user_3 rfl (lv_at hl 1 rfl) ?_
  refine lv_iload_n hx hb dL_user_4 rfl (lv_at hl 2 rfl) ?_
  have rv1 : ∃ cell : Cell, H[x]? = some cell ∧ cell.vm.isStatics = false ∧ s.vm.findClass RX12 = some cell.cls := z_recvY hK hZ 0 rfl rfl
  have hZc := zP.into (Y1 := [(out, .inl (K 1, 1, .inr (.inl (fun _ => 0))))]) (Y2 := [(x, .inr (13, [.ref tp, .ref wi, .ref cl, .ref sv])), (tp, .inr (3, [.ref td, .int (nI 0), .int (nI 0), .int (nI 0), .int (nI 0), .int (nI 0)]))]) (zP.pick [2, 0, 1] [(out, .inl (K 1, 1, .inr (.inl (fun _ => 0)))), (x, .inr (13, [.ref tp, .ref wi, .ref cl, .ref sv])), (tp, .inr (3, [.ref td, .int (nI 0), .int (nI 0), .int (nI 0), .int (nI 0), .int (nI 0)]))] hZ (by decide) rfl)
  refine z_goXI (vx_runV (As := [.int n, .int sv0]) (rest := [.int (nI 0), .ref out]) ⟨hx, hb, hml, hown, hts⟩ ((c_X12_user E l hfl D K (X ++ [(out, .inl (K 1, 1, .inr (.inl (fun _ => 0))))]) L T hSt) H.size) (cwV 2 hts (zg_V zw_1026 zw_861 zw_1027 zw_813 zw_860) rfl rfl rfl (by decide +kernel) ⟨Nat.le_of_ble_eq_true rfl, Nat.le_of_ble_eq_true rfl⟩) (z_preV hK hZc hS hA hE rv1) rfl rfl hl.1 rfl (lv_room (Nat.le_of_ble_eq_true rfl)) dL_user_5 ⟨Nat.le_of_ble_eq_true rfl, Nat.le_of_ble_eq_true rfl⟩) hZc hS hA (fun E9 ce9 q9 Y1 L1 T1 H locs hp hZ hS hc9 hv9 hcl9 => ?_) (fun x2 Y1 L1 T1 H locs hp hZ hS => ?_)
  · obtain ⟨hu, hp⟩ := hp
    cases hu
    have hZ : zP D vwCl A X [(out, .inl (K 1, 1, .inr (.inl (fun _ => 0)))), (x, .inr (13, [.ref tp, .ref wi, .ref cl, .ref sv])), (tp, .inr (3, [.ref td, .int (nI 0), .int (nI 0), .int (nI 0), .int (nI 0), .int (nI 0)]))] L T H := zP.back hZ
    rcases hp with rfl
    · refine vx_catch (name := "java/lang/IllegalArgumentException") hown [] { startPc := 0, endPc := 10, handlerPc := 13, catchType := 19 } [{ startPc := 0, endPc := 10, handlerPc := 17, catchType := 13 }] (by rw [htab]; rfl) (fun _ h => absurd h List.not_mem_nil) (by decide) (by decide) (hts _ zw_1097) (va_Nw.use rfl (zcst hE (List.mem_of_getElem? (i := 1) rfl))) hc9 hv9 hcl9 ?_
      refine lv_astore (lv' := [(4, .ref q9), (0, .ref x), (1, .int n), (2, .int sv0), (3, .ref out)]) hx hb dL_user_13 hl (by decide) rfl (fun ls hl => ?_)
      refine lv_iconst (v := nI 1) hx hb dL_user_15 (by decide +kernel) ?_
      have hZ : zP D vwCl A X [(x, .inr (13, [.ref tp, .ref wi, .ref cl, .ref sv])), (tp, .inr (3, [.ref td, .int (nI 0), .int (nI 0), .int (nI 0), .int (nI 0), .int (nI 0)])), (out, .inl (K 1, 1, .inr (.inl (fun _ => 0))))] L T H := zP.pick [1, 2, 0] [(x, .inr (13, [.ref tp, .ref wi, .ref cl, .ref sv])), (tp, .inr (3, [.ref td, .int (nI 0), .int (nI 0), .int (nI 0), .int (nI 0), .int (nI 0)])), (out, .inl (K 1, 1, .inr (.inl (fun _ => 0))))] hZ (by decide) rfl
      refine vx_ret ?_
      exact z_iret hx hb hr rfl hlocks hK hZ hS ⟨(fun _ => 0), ⟨rfl, rfl⟩, rfl⟩ (Nat.le_of_ble_eq_true rfl) (Nat.le_of_ble_eq_true rfl) dL_user_16
  obtain ⟨hnever, hp⟩ := hp
  cases hp
  exact hnever.elim
abbrev ROOM_L_allow : Room := { frames := 7, cells := 1, slots := 6, locals := 121 }
set_option maxHeartbeats 4000000 in
set_option maxRecDepth 100000 in
/-- the law's allow -/
theorem c_L_allow (E : zEn) (l : Launch) (hfl : l.stackTraces = false) (D : va_G) (K : Nat → ClassId) (X : va_W) (L : List Nat) (T : Nat → va_E → Prop) {x : Nat} {k : Int32} {sv : Nat} {tp wi cl : Nat} {exS owS iwS stS chS so hk po : Nat} (h_sv : sv ∈ L) (k_sv : T sv = zOp 10 (zSv exS owS iwS stS chS so hk po)) (hSt : zSt E) : zXi E l D vwCl (zT K) yL_allow (zwsH yL_allow cL_allow 3 (some .int) [(0, 5, 8, 25), (0, 5, 11, 19)]) ROOM_L_allow 1 6 [.ref x, .int k] X [(x, .inr (13, [.ref tp, .ref wi, .ref cl, .ref sv]))] L T (fun (r : Int32) (u : zU) => (r = nI 1) ∧ u = ([(x, .inr (13, [.ref tp, .ref wi, .ref cl, .ref sv]))], L, T)) (fun (_ : String) (_ : zU) => False) := by
  refine z_ofWH (E := E) (Qc := fun A => va_Qi (fun (r : Int32) (u : zU) => (r = nI 1) ∧ u = ([(x, .inr (13, [.ref tp, .ref wi, .ref cl, .ref sv]))], L, T)) (zB D vwCl (zT K) A X) A) (XC := fun A => zXC D vwCl (zT K) A X (fun (_ : String) (_ : zU) => False)) (cc := cL_allow) (maxL := 3) (ret := (some .int)) (hh := [(0, 5, 8, 25), (0, 5, 11, 19)]) (by decide +kernel) rfl (Nat.le_of_ble_eq_true rfl) ?_
  intro p e s m below meth c A ls hx hb hml hr hts hown hlocks htab hA hK hZ hS hE hl
  have hown : s.vm.findClass RL = some m.cls := hown
  have hts : ∀ w ∈ WR, w.before [.ref x, .int k].toArray s = true := fun w h => hts w (List.mem_cons_of_mem _ h)
  have hl : lv_has ls 3 [(0, .ref x), (1, .int k)] := hl
  obtain ⟨H, hH⟩ : ∃ H, H = s.heap := ⟨_, rfl⟩
  have hZ : zP D vwCl A X [(x, .inr (13, [.ref tp, .ref wi, .ref cl, .ref sv]))] L T H := by rw [hH]; exact hZ
  obtain ⟨locs, hlc⟩ : ∃ q : List Loc, q = [] := ⟨_, rfl⟩
  have hS : va_S A s.heap H locs := by rw [hH, hlc]; exact hS
  suffices hW : W p l e ROOM_L_allow s m [.ref x, .int k].toArray below meth c H locs 0 0 (vx_MQ below (va_Qi (fun (r : Int32) (u : zU) => (r = nI 1) ∧ u = ([(x, .inr (13, [.ref tp, .ref wi, .ref cl, .ref sv]))], L, T)) (zB D vwCl (zT K) A X) A) (zXC D vwCl (zT K) A X (fun (_ : String) (_ : zU) => False)) [.ref x, .int k].toArray s 1 6 A) (F0 m 0 ls []) by rw [hH, hlc] at hW; exact hW
  clear hH hlc
  refine lv_aload_n hx hb dL_allow_0 rfl (lv_at hl 0 rfl) ?_
  refine lv_iload_n hx hb dL_allow_1 rfl (lv_at hl 1 rfl) ?_
  have rv1 : ∃ cell : Cell, H[x]? = some cell ∧ cell.vm.isStatics = false ∧ s.vm.findClass RX12 = some cell.cls := z_recvY hK hZ 0 rfl rfl
  have hZc := zP.into (Y1 := []) (Y2 := [(x, .inr (13, [.ref tp, .ref wi, .ref cl, .ref sv]))]) hZ
  refine z_goX (vx_runV (As := [.int k]) (rest := []) ⟨hx, hb, hml, hown, hts⟩ ((c_X12_allow E l hfl D K (X ++ []) L T h_sv k_sv hSt) H.size) (cwV 1 hts (zg_V zw_1030 zw_868 zw_1031 zw_813 zw_867) rfl rfl rfl (by decide +kernel) ⟨Nat.le_of_ble_eq_true rfl, Nat.le_of_ble_eq_true rfl⟩) (z_preV hK hZc hS hA hE rv1) rfl rfl hl.1 rfl (lv_room (Nat.le_of_ble_eq_true rfl)) dL_allow_2 ⟨Nat.le_of_ble_eq_true rfl, Nat.le_of_ble_eq_true rfl⟩) hZc hS hA (fun E9 ce9 q9 Y1 L1 T1 H locs hp hZ hS hc9 hv9 hcl9 => ?_) (fun  Y1 L1 T1 H locs hp hZ hS => ?_)
  · obtain ⟨hu, hp⟩ := hp
    cases hu
    have hZ : zP D vwCl A X [(x, .inr (13, [.ref tp, .ref wi, .ref cl, .ref sv]))] L T H := zP.back hZ
    rcases hp with rfl
    · refine vx_catch (name := "java/util/NoSuchElementException") hown [] { startPc := 0, endPc := 5, handlerPc := 8, catchType := 25 } [{ startPc := 0, endPc := 5, handlerPc := 11, catchType := 19 }] (by rw [htab]; rfl) (fun _ h => absurd h List.not_mem_nil) (by decide) (by decide) (hts _ zw_1098) (va_Nw.use rfl (zcst hE (List.mem_of_getElem? (i := 2) rfl))) hc9 hv9 hcl9 ?_
      refine lv_astore_n (lv' := [(2, .ref q9), (0, .ref x), (1, .int k)]) hx hb dL_allow_8 rfl hl (by decide) rfl (fun ls hl => ?_)
      refine lv_iconst (v := nI 1) hx hb dL_allow_9 (by decide +kernel) ?_
      refine vx_ret ?_
      exact z_iret hx hb hr rfl hlocks hK hZ hS ⟨rfl, rfl⟩ (Nat.le_of_ble_eq_true rfl) (Nat.le_of_ble_eq_true rfl) dL_allow_10
  obtain ⟨hnever, hp⟩ := hp
  cases hp
  exact hnever.elim
abbrev ROOM_L_set : Room := { frames := 9, cells := 1, slots := 6, locals := 177 }
set_option maxHeartbeats 4000000 in
set_option maxRecDepth 100000 in
/-- the law's set -/
theorem c_L_set (E : zEn) (l : Launch) (hfl : l.stackTraces = false) (D : va_G) (K : Nat → ClassId) (X : va_W) (L : List Nat) (T : Nat → va_E → Prop) {x : Nat} {ee : Int32} {w : Int32} {v : Int32} {out : Nat} {cl : Nat} {sv : Nat} {exC : Nat} {exS : Nat} {ldC : Nat} {ldS : Nat} {tp wi : Nat} {owC iwC stC chC : Nat} {owS iwS stS chS so hk po : Nat} {liC seC liS seS zC zS : Nat} (h_cl : cl ∈ L) (k_cl : T cl = zOp 6 (zCl exC owC iwC stC chC)) (h_sv : sv ∈ L) (k_sv : T sv = zOp 10 (zSv exS owS iwS stS chS so hk po)) (h_exC : exC ∈ L) (k_exC : T exC = zOp 8 (zEx liC seC)) (h_exS : exS ∈ L) (k_exS : T exS = zOp 8 (zEx liS seS)) (h_ldC : ldC ∈ L) (k_ldC : T ldC = zI (K 2) 256) (h_ldS : ldS ∈ L) (k_ldS : T ldS = zI (K 2) 256) (hSt : zSt E) (hSA : zSA E) : zXi E l D vwCl (zT K) yL_set (zwsH yL_set cL_set 6 (some .int) [(0, 12, 15, 25), (0, 12, 19, 19)]) ROOM_L_set 1 6 [.ref x, .int ee, .int w, .int v, .ref out] X [(x, .inr (13, [.ref tp, .ref wi, .ref cl, .ref sv])), (liC, .inr (3, [.ref ldC, .int (nI 0), .int (nI zC), .int (nI 0), .int (nI 0), .int (nI 0)])), (stC, .inl (K 0, 5, .inl (upd (upd (upd (upd (upd (fun _ => 0) 0 (nI 12)) 1 (nI 21)) 2 (nI 4096)) 3 (nI 1024)) 4 (nI 1073741824)))), (liS, .inr (3, [.ref ldS, .int (nI 0), .int (nI zS), .int (nI 0), .int (nI 0), .int (nI 0)])), (stS, .inl (K 0, 5, .inl (upd (upd (upd (upd (upd (fun _ => 0) 0 (nI 12)) 1 (nI 21)) 2 (nI 4096)) 3 (nI 1024)) 4 (nI 1073741824)))), (out, .inl (K 1, 1, .inr (.inl (fun _ => 0))))] L T (fun (r : Int32) (u : zU) => ∃ (zC9 : Nat) (zS9 : Nat) (gC9 : Nat → Int32) (gS9 : Nat → Int32) (go : Nat → Int64), (r = zka_set ee w v ∧ go 0 = zli (zra_set ee w v)) ∧ u = ([(x, .inr (13, [.ref tp, .ref wi, .ref cl, .ref sv])), (liC, .inr (3, [.ref ldC, .int (nI 0), .int (nI zC9), .int (nI 0), .int (nI 0), .int (nI 0)])), (stC, .inl (K 0, 5, .inl gC9)), (liS, .inr (3, [.ref ldS, .int (nI 0), .int (nI zS9), .int (nI 0), .int (nI 0), .int (nI 0)])), (stS, .inl (K 0, 5, .inl gS9)), (out, .inl (K 1, 1, .inr (.inl go)))], L, T)) (fun (_ : String) (_ : zU) => False) := by
  refine z_ofWH (E := E) (Qc := fun A => va_Qi (fun (r : Int32) (u : zU) => ∃ (zC9 : Nat) (zS9 : Nat) (gC9 : Nat → Int32) (gS9 : Nat → Int32) (go : Nat → Int64), (r = zka_set ee w v ∧ go 0 = zli (zra_set ee w v)) ∧ u = ([(x, .inr (13, [.ref tp, .ref wi, .ref cl, .ref sv])), (liC, .inr (3, [.ref ldC, .int (nI 0), .int (nI zC9), .int (nI 0), .int (nI 0), .int (nI 0)])), (stC, .inl (K 0, 5, .inl gC9)), (liS, .inr (3, [.ref ldS, .int (nI 0), .int (nI zS9), .int (nI 0), .int (nI 0), .int (nI 0)])), (stS, .inl (K 0, 5, .inl gS9)), (out, .inl (K 1, 1, .inr (.inl go)))], L, T)) (zB D vwCl (zT K) A X) A) (XC := fun A => zXC D vwCl (zT K) A X (fun (_ : String) (_ : zU) => False)) (cc := cL_set) (maxL := 6) (ret := (some .int)) (hh := [(0, 12, 15, 25), (0, 12, 19, 19)]) (by decide +kernel) rfl (Nat.le_of_ble_eq_true rfl) ?_
  intro p e s m below meth c A ls hx hb hml hr hts hown hlocks htab hA hK hZ hS hE hl
  have hown : s.vm.findClass RL = some m.cls := hown
  have hts : ∀ w9 ∈ WR, w9.before [.ref x, .int ee, .int w, .int v, .ref out].toArray s = true := fun w9 h => hts w9 (List.mem_cons_of_mem _ h)
  have hl : lv_has ls 6 [(0, .ref x), (1, .int ee), (2, .int w), (3, .int v), (4, .ref out)] := hl
  obtain ⟨H, hH⟩ : ∃ H, H = s.heap := ⟨_, rfl⟩
  have hZ : zP D vwCl A X [(x, .inr (13, [.ref tp, .ref wi, .ref cl, .ref sv])), (liC, .inr (3, [.ref ldC, .int (nI 0), .int (nI zC), .int (nI 0), .int (nI 0), .int (nI 0)])), (stC, .inl (K 0, 5, .inl (upd (upd (upd (upd (upd (fun _ => 0) 0 (nI 12)) 1 (nI 21)) 2 (nI 4096)) 3 (nI 1024)) 4 (nI 1073741824)))), (liS, .inr (3, [.ref ldS, .int (nI 0), .int (nI zS), .int (nI 0), .int (nI 0), .int (nI 0)])), (stS, .inl (K 0, 5, .inl (upd (upd (upd (upd (upd (fun _ => 0) 0 (nI 12)) 1 (nI 21)) 2 (nI 4096)) 3 (nI 1024)) 4 (nI 1073741824)))), (out, .inl (K 1, 1, .inr (.inl (fun _ => 0))))] L T H := by rw [hH]; exact hZ
  obtain ⟨locs, hlc⟩ : ∃ q : List Loc, q = [] := ⟨_, rfl⟩
  have hS : va_S A s.heap H locs := by rw [hH, hlc]; exact hS
  suffices hW : W p l e ROOM_L_set s m [.ref x, .int ee, .int w, .int v, .ref out].toArray below meth c H locs 0 0 (vx_MQ below (va_Qi (fun (r : Int32) (u : zU) => ∃ (zC9 : Nat) (zS9 : Nat) (gC9 : Nat → Int32) (gS9 : Nat → Int32) (go : Nat → Int64), (r = zka_set ee w v ∧ go 0 = zli (zra_set ee w v)) ∧ u = ([(x, .inr (13, [.ref tp, .ref wi, .ref cl, .ref sv])), (liC, .inr (3, [.ref ldC, .int (nI 0), .int (nI zC9), .int (nI 0), .int (nI 0), .int (nI 0)])), (stC, .inl (K 0, 5, .inl gC9)), (liS, .inr (3, [.ref ldS, .int (nI 0), .int (nI zS9), .int (nI 0), .int (nI 0), .int (nI 0)])), (stS, .inl (K 0, 5, .inl gS9)), (out, .inl (K 1, 1, .inr (.inl go)))], L, T)) (zB D vwCl (zT K) A X) A) (zXC D vwCl (zT K) A X (fun (_ : String) (_ : zU) => False)) [.ref x, .int ee, .int w, .int v, .ref out].toArray s 1 6 A) (F0 m 0 ls []) by rw [hH, hlc] at hW; exact hW
  clear hH hlc
  refine lv_aload hx hb dL_set_0 (lv_at hl 4 rfl) ?_
  refine lv_iconst (v := nI 0) hx hb dL_set_2 (by decide +kernel) ?_
  refine lv_aload_n hx hb dL_set_3 rfl (lv_at hl 0 rfl) ?_
  refine lv_iload_n hx hb dL_set_4 rfl (lv_at hl 1 rfl) ?_
  refine lv_iload_n hx hb dL_set_5 rfl (lv_at hl 2 rfl) ?_
  refine lv_iload_n hx hb dL_set_6 rfl (lv_at hl 3 rfl) ?_
  have rv1 : ∃ cell : Cell, H[x]? = some cell ∧ cell.vm.isStatics = false ∧ s.vm.findClass RX12 = some cell.cls := z_recvY hK hZ 0 rfl rfl
  have hZc := zP.into (Y1 := [(out, .inl (K 1, 1, .inr (.inl (fun _ => 0))))]) (Y2 := [(x, .inr (13, [.ref tp, .ref wi, .ref cl, .ref sv])), (liC, .inr (3, [.ref ldC, .int (nI 0), .int (nI zC), .int (nI 0), .int (nI 0), .int (nI 0)])), (stC, .inl (K 0, 5, .inl (upd (upd (upd (upd (upd (fun _ => 0) 0 (nI 12)) 1 (nI 21)) 2 (nI 4096)) 3 (nI 1024)) 4 (nI 1073741824)))), (liS, .inr (3, [.ref ldS, .int (nI 0), .int (nI zS), .int (nI 0), .int (nI 0), .int (nI 0)])), (stS, .inl (K 0, 5, .inl (upd (upd (upd (upd (upd (fun _ => 0) 0 (nI 12)) 1 (nI 21)) 2 (nI 4096)) 3 (nI 1024)) 4 (nI 1073741824))))]) (zP.pick [5, 0, 1, 2, 3, 4] [(out, .inl (K 1, 1, .inr (.inl (fun _ => 0)))), (x, .inr (13, [.ref tp, .ref wi, .ref cl, .ref sv])), (liC, .inr (3, [.ref ldC, .int (nI 0), .int (nI zC), .int (nI 0), .int (nI 0), .int (nI 0)])), (stC, .inl (K 0, 5, .inl (upd (upd (upd (upd (upd (fun _ => 0) 0 (nI 12)) 1 (nI 21)) 2 (nI 4096)) 3 (nI 1024)) 4 (nI 1073741824)))), (liS, .inr (3, [.ref ldS, .int (nI 0), .int (nI zS), .int (nI 0), .int (nI 0), .int (nI 0)])), (stS, .inl (K 0, 5, .inl (upd (upd (upd (upd (upd (fun _ => 0) 0 (nI 12)) 1 (nI 21)) 2 (nI 4096)) 3 (nI 1024)) 4 (nI 1073741824))))] hZ (by decide) rfl)
  refine z_goXI (vx_runV (As := [.int ee, .int w, .int v]) (rest := [.int (nI 0), .ref out]) ⟨hx, hb, hml, hown, hts⟩ ((c_X12_set E l hfl D K (X ++ [(out, .inl (K 1, 1, .inr (.inl (fun _ => 0))))]) L T h_cl k_cl h_sv k_sv h_exC k_exC h_exS k_exS h_ldC k_ldC h_ldS k_ldS hSt hSA) H.size) (cwV 3 hts (zg_V zw_1034 zw_871 zw_1035 zw_813 zw_870) rfl rfl rfl (by decide +kernel) ⟨Nat.le_of_ble_eq_true rfl, Nat.le_of_ble_eq_true rfl⟩) (z_preV hK hZc hS hA hE rv1) rfl rfl hl.1 rfl (lv_room (Nat.le_of_ble_eq_true rfl)) dL_set_7 ⟨Nat.le_of_ble_eq_true rfl, Nat.le_of_ble_eq_true rfl⟩) hZc hS hA (fun E9 ce9 q9 Y1 L1 T1 H locs hp hZ hS hc9 hv9 hcl9 => ?_) (fun x2 Y1 L1 T1 H locs hp hZ hS => ?_)
  · obtain ⟨hu, hp⟩ := hp
    cases hu
    have hZ : zP D vwCl A X [(out, .inl (K 1, 1, .inr (.inl (fun _ => 0)))), (x, .inr (13, [.ref tp, .ref wi, .ref cl, .ref sv])), (liC, .inr (3, [.ref ldC, .int (nI 0), .int (nI zC), .int (nI 0), .int (nI 0), .int (nI 0)])), (stC, .inl (K 0, 5, .inl (upd (upd (upd (upd (upd (fun _ => 0) 0 (nI 12)) 1 (nI 21)) 2 (nI 4096)) 3 (nI 1024)) 4 (nI 1073741824)))), (liS, .inr (3, [.ref ldS, .int (nI 0), .int (nI zS), .int (nI 0), .int (nI 0), .int (nI 0)])), (stS, .inl (K 0, 5, .inl (upd (upd (upd (upd (upd (fun _ => 0) 0 (nI 12)) 1 (nI 21)) 2 (nI 4096)) 3 (nI 1024)) 4 (nI 1073741824))))] L T H := zP.back hZ
    rcases hp with ⟨rfl, hk9⟩ | ⟨rfl, hk9⟩
    · refine vx_catch (name := "java/util/NoSuchElementException") hown [] { startPc := 0, endPc := 12, handlerPc := 15, catchType := 25 } [{ startPc := 0, endPc := 12, handlerPc := 19, catchType := 19 }] (by rw [htab]; rfl) (fun _ h => absurd h List.not_mem_nil) (by decide) (by decide) (hts _ zw_1098) (va_Nw.use rfl (zcst hE (List.mem_of_getElem? (i := 2) rfl))) hc9 hv9 hcl9 ?_
      refine lv_astore (lv' := [(5, .ref q9), (0, .ref x), (1, .int ee), (2, .int w), (3, .int v), (4, .ref out)]) hx hb dL_set_15 hl (by decide) rfl (fun ls hl => ?_)
      refine lv_iconst (v := nI 1) hx hb dL_set_17 (by decide +kernel) ?_
      have hZ : zP D vwCl A X [(x, .inr (13, [.ref tp, .ref wi, .ref cl, .ref sv])), (liC, .inr (3, [.ref ldC, .int (nI 0), .int (nI zC), .int (nI 0), .int (nI 0), .int (nI 0)])), (stC, .inl (K 0, 5, .inl (upd (upd (upd (upd (upd (fun _ => 0) 0 (nI 12)) 1 (nI 21)) 2 (nI 4096)) 3 (nI 1024)) 4 (nI 1073741824)))), (liS, .inr (3, [.ref ldS, .int (nI 0), .int (nI zS), .int (nI 0), .int (nI 0), .int (nI 0)])), (stS, .inl (K 0, 5, .inl (upd (upd (upd (upd (upd (fun _ => 0) 0 (nI 12)) 1 (nI 21)) 2 (nI 4096)) 3 (nI 1024)) 4 (nI 1073741824)))), (out, .inl (K 1, 1, .inr (.inl (fun _ => 0))))] L T H := zP.pick [1, 2, 3, 4, 5, 0] [(x, .inr (13, [.ref tp, .ref wi, .ref cl, .ref sv])), (liC, .inr (3, [.ref ldC, .int (nI 0), .int (nI zC), .int (nI 0), .int (nI 0), .int (nI 0)])), (stC, .inl (K 0, 5, .inl (upd (upd (upd (upd (upd (fun _ => 0) 0 (nI 12)) 1 (nI 21)) 2 (nI 4096)) 3 (nI 1024)) 4 (nI 1073741824)))), (liS, .inr (3, [.ref ldS, .int (nI 0), .int (nI zS), .int (nI 0), .int (nI 0), .int (nI 0)])), (stS, .inl (K 0, 5, .inl (upd (upd (upd (upd (upd (fun _ => 0) 0 (nI 12)) 1 (nI 21)) 2 (nI 4096)) 3 (nI 1024)) 4 (nI 1073741824)))), (out, .inl (K 1, 1, .inr (.inl (fun _ => 0))))] hZ (by decide) rfl
      refine vx_ret ?_
      exact z_iret hx hb hr rfl hlocks hK hZ hS ⟨zC, zS, (upd (upd (upd (upd (upd (fun _ => 0) 0 (nI 12)) 1 (nI 21)) 2 (nI 4096)) 3 (nI 1024)) 4 (nI 1073741824)), (upd (upd (upd (upd (upd (fun _ => 0) 0 (nI 12)) 1 (nI 21)) 2 (nI 4096)) 3 (nI 1024)) 4 (nI 1073741824)), (fun _ => 0), ⟨hk9.symm, (by unfold zra_set; rw [if_neg (by rw [hk9]; decide +kernel)]; decide +kernel)⟩, rfl⟩ (Nat.le_of_ble_eq_true rfl) (Nat.le_of_ble_eq_true rfl) dL_set_18
    · refine vx_catch (name := "java/lang/IllegalArgumentException") hown [{ startPc := 0, endPc := 12, handlerPc := 15, catchType := 25 }] { startPc := 0, endPc := 12, handlerPc := 19, catchType := 19 } [] (by rw [htab]; rfl) (List.forall_mem_cons.mpr ⟨Or.inr ⟨(by decide), "java/util/NoSuchElementException", hts _ zw_1098, znc hE (x := ("java/lang/IllegalArgumentException", "java/util/NoSuchElementException")) (List.mem_of_getElem? (i := 0) rfl)⟩, (fun _ h => absurd h List.not_mem_nil)⟩) (by decide) (by decide) (hts _ zw_1097) (va_Nw.use rfl (zcst hE (List.mem_of_getElem? (i := 1) rfl))) hc9 hv9 hcl9 ?_
      refine lv_astore (lv' := [(5, .ref q9), (0, .ref x), (1, .int ee), (2, .int w), (3, .int v), (4, .ref out)]) hx hb dL_set_19 hl (by decide) rfl (fun ls hl => ?_)
      refine lv_iconst (v := nI 2) hx hb dL_set_21 (by decide +kernel) ?_
      have hZ : zP D vwCl A X [(x, .inr (13, [.ref tp, .ref wi, .ref cl, .ref sv])), (liC, .inr (3, [.ref ldC, .int (nI 0), .int (nI zC), .int (nI 0), .int (nI 0), .int (nI 0)])), (stC, .inl (K 0, 5, .inl (upd (upd (upd (upd (upd (fun _ => 0) 0 (nI 12)) 1 (nI 21)) 2 (nI 4096)) 3 (nI 1024)) 4 (nI 1073741824)))), (liS, .inr (3, [.ref ldS, .int (nI 0), .int (nI zS), .int (nI 0), .int (nI 0), .int (nI 0)])), (stS, .inl (K 0, 5, .inl (upd (upd (upd (upd (upd (fun _ => 0) 0 (nI 12)) 1 (nI 21)) 2 (nI 4096)) 3 (nI 1024)) 4 (nI 1073741824)))), (out, .inl (K 1, 1, .inr (.inl (fun _ => 0))))] L T H := zP.pick [1, 2, 3, 4, 5, 0] [(x, .inr (13, [.ref tp, .ref wi, .ref cl, .ref sv])), (liC, .inr (3, [.ref ldC, .int (nI 0), .int (nI zC), .int (nI 0), .int (nI 0), .int (nI 0)])), (stC, .inl (K 0, 5, .inl (upd (upd (upd (upd (upd (fun _ => 0) 0 (nI 12)) 1 (nI 21)) 2 (nI 4096)) 3 (nI 1024)) 4 (nI 1073741824)))), (liS, .inr (3, [.ref ldS, .int (nI 0), .int (nI zS), .int (nI 0), .int (nI 0), .int (nI 0)])), (stS, .inl (K 0, 5, .inl (upd (upd (upd (upd (upd (fun _ => 0) 0 (nI 12)) 1 (nI 21)) 2 (nI 4096)) 3 (nI 1024)) 4 (nI 1073741824)))), (out, .inl (K 1, 1, .inr (.inl (fun _ => 0))))] hZ (by decide) rfl
      refine vx_ret ?_
      exact z_iret hx hb hr rfl hlocks hK hZ hS ⟨zC, zS, (upd (upd (upd (upd (upd (fun _ => 0) 0 (nI 12)) 1 (nI 21)) 2 (nI 4096)) 3 (nI 1024)) 4 (nI 1073741824)), (upd (upd (upd (upd (upd (fun _ => 0) 0 (nI 12)) 1 (nI 21)) 2 (nI 4096)) 3 (nI 1024)) 4 (nI 1073741824)), (fun _ => 0), ⟨hk9.symm, (by unfold zra_set; rw [if_neg (by rw [hk9]; decide +kernel)]; decide +kernel)⟩, rfl⟩ (Nat.le_of_ble_eq_true rfl) (Nat.le_of_ble_eq_true rfl) dL_set_22
  obtain ⟨zC_3, zS_4, gC_5, gS_6, ⟨hk9, hres⟩, hp⟩ := hp
  cases hp
  have hZ : zP D vwCl A X [(out, .inl (K 1, 1, .inr (.inl (fun _ => 0)))), (x, .inr (13, [.ref tp, .ref wi, .ref cl, .ref sv])), (liC, .inr (3, [.ref ldC, .int (nI 0), .int (nI zC_3), .int (nI 0), .int (nI 0), .int (nI 0)])), (stC, .inl (K 0, 5, .inl gC_5)), (liS, .inr (3, [.ref ldS, .int (nI 0), .int (nI zS_4), .int (nI 0), .int (nI 0), .int (nI 0)])), (stS, .inl (K 0, 5, .inl gS_6))] L T H := zP.back hZ
  obtain rfl : x2 = zGS w.toNatClampNeg := hres
  refine lv_i2l hx hb dL_set_10 rfl ?_
  refine lv_topl (fun x7 ex7 => ?_)
  obtain rfl : x7 = zli (zGS w.toNatClampNeg) := ex7
  refine z_lastY hx hb hK hZ hS 1 0 rfl rfl (vp_in_nI (by omega) (by omega)) dL_set_11 (fun H locs hZ hS => ?_)
  have hZ : zP D vwCl A X [(out, .inl (K 1, 1, .inr (.inl (vp_updL (fun _ => 0) (nI 0).toNatClampNeg (zli (zGS w.toNatClampNeg)))))), (x, .inr (13, [.ref tp, .ref wi, .ref cl, .ref sv])), (liC, .inr (3, [.ref ldC, .int (nI 0), .int (nI zC_3), .int (nI 0), .int (nI 0), .int (nI 0)])), (stC, .inl (K 0, 5, .inl gC_5)), (liS, .inr (3, [.ref ldS, .int (nI 0), .int (nI zS_4), .int (nI 0), .int (nI 0), .int (nI 0)])), (stS, .inl (K 0, 5, .inl gS_6))] L T H := hZ
  refine lv_goto (tgt := 23) hx hb dL_set_12 (by decide) ?_
  refine lv_iconst (v := nI 0) hx hb dL_set_23 (by decide +kernel) ?_
  have hZ : zP D vwCl A X [(x, .inr (13, [.ref tp, .ref wi, .ref cl, .ref sv])), (liC, .inr (3, [.ref ldC, .int (nI 0), .int (nI zC_3), .int (nI 0), .int (nI 0), .int (nI 0)])), (stC, .inl (K 0, 5, .inl gC_5)), (liS, .inr (3, [.ref ldS, .int (nI 0), .int (nI zS_4), .int (nI 0), .int (nI 0), .int (nI 0)])), (stS, .inl (K 0, 5, .inl gS_6)), (out, .inl (K 1, 1, .inr (.inl (vp_updL (fun _ => 0) (nI 0).toNatClampNeg (zli (zGS w.toNatClampNeg))))))] L T H := zP.pick [1, 2, 3, 4, 5, 0] [(x, .inr (13, [.ref tp, .ref wi, .ref cl, .ref sv])), (liC, .inr (3, [.ref ldC, .int (nI 0), .int (nI zC_3), .int (nI 0), .int (nI 0), .int (nI 0)])), (stC, .inl (K 0, 5, .inl gC_5)), (liS, .inr (3, [.ref ldS, .int (nI 0), .int (nI zS_4), .int (nI 0), .int (nI 0), .int (nI 0)])), (stS, .inl (K 0, 5, .inl gS_6)), (out, .inl (K 1, 1, .inr (.inl (vp_updL (fun _ => 0) (nI 0).toNatClampNeg (zli (zGS w.toNatClampNeg))))))] hZ (by decide) rfl
  refine vx_ret ?_
  exact z_iret hx hb hr rfl hlocks hK hZ hS ⟨zC_3, zS_4, gC_5, gS_6, (vp_updL (fun _ => 0) (nI 0).toNatClampNeg (zli (zGS w.toNatClampNeg))), ⟨hk9.symm, (by rw [zgo0]; unfold zra_set; rw [if_pos hk9])⟩, rfl⟩ (Nat.le_of_ble_eq_true rfl) (Nat.le_of_ble_eq_true rfl) dL_set_24
abbrev ROOM_L_port : Room := { frames := 7, cells := 1, slots := 6, locals := 122 }
set_option maxHeartbeats 4000000 in
set_option maxRecDepth 100000 in
/-- the law's port -/
theorem c_L_port (E : zEn) (l : Launch) (hfl : l.stackTraces = false) (D : va_G) (K : Nat → ClassId) (X : va_W) (L : List Nat) (T : Nat → va_E → Prop) {x : Nat} {pp : Int32} {op : Int32} {sv : Nat} {tp wi cl : Nat} {exS owS iwS stS chS so hk po : Nat} (h_sv : sv ∈ L) (k_sv : T sv = zOp 10 (zSv exS owS iwS stS chS so hk po)) (hSt : zSt E) : zXi E l D vwCl (zT K) yL_port (zwsH yL_port cL_port 4 (some .int) [(0, 6, 9, 25)]) ROOM_L_port 1 6 [.ref x, .int pp, .int op] X [(x, .inr (13, [.ref tp, .ref wi, .ref cl, .ref sv])), (po, .inl (K 0, 2048, .inl (fun _ => 0)))] L T (fun (r : Int32) (u : zU) => ∃ (gp9 : Nat → Int32), (r = zka_port pp) ∧ u = ([(x, .inr (13, [.ref tp, .ref wi, .ref cl, .ref sv])), (po, .inl (K 0, 2048, .inl gp9))], L, T)) (fun (_ : String) (_ : zU) => False) := by
  refine z_ofWH (E := E) (Qc := fun A => va_Qi (fun (r : Int32) (u : zU) => ∃ (gp9 : Nat → Int32), (r = zka_port pp) ∧ u = ([(x, .inr (13, [.ref tp, .ref wi, .ref cl, .ref sv])), (po, .inl (K 0, 2048, .inl gp9))], L, T)) (zB D vwCl (zT K) A X) A) (XC := fun A => zXC D vwCl (zT K) A X (fun (_ : String) (_ : zU) => False)) (cc := cL_port) (maxL := 4) (ret := (some .int)) (hh := [(0, 6, 9, 25)]) (by decide +kernel) rfl (Nat.le_of_ble_eq_true rfl) ?_
  intro p e s m below meth c A ls hx hb hml hr hts hown hlocks htab hA hK hZ hS hE hl
  have hown : s.vm.findClass RL = some m.cls := hown
  have hts : ∀ w ∈ WR, w.before [.ref x, .int pp, .int op].toArray s = true := fun w h => hts w (List.mem_cons_of_mem _ h)
  have hl : lv_has ls 4 [(0, .ref x), (1, .int pp), (2, .int op)] := hl
  obtain ⟨H, hH⟩ : ∃ H, H = s.heap := ⟨_, rfl⟩
  have hZ : zP D vwCl A X [(x, .inr (13, [.ref tp, .ref wi, .ref cl, .ref sv])), (po, .inl (K 0, 2048, .inl (fun _ => 0)))] L T H := by rw [hH]; exact hZ
  obtain ⟨locs, hlc⟩ : ∃ q : List Loc, q = [] := ⟨_, rfl⟩
  have hS : va_S A s.heap H locs := by rw [hH, hlc]; exact hS
  suffices hW : W p l e ROOM_L_port s m [.ref x, .int pp, .int op].toArray below meth c H locs 0 0 (vx_MQ below (va_Qi (fun (r : Int32) (u : zU) => ∃ (gp9 : Nat → Int32), (r = zka_port pp) ∧ u = ([(x, .inr (13, [.ref tp, .ref wi, .ref cl, .ref sv])), (po, .inl (K 0, 2048, .inl gp9))], L, T)) (zB D vwCl (zT K) A X) A) (zXC D vwCl (zT K) A X (fun (_ : String) (_ : zU) => False)) [.ref x, .int pp, .int op].toArray s 1 6 A) (F0 m 0 ls []) by rw [hH, hlc] at hW; exact hW
  clear hH hlc
  refine lv_aload_n hx hb dL_port_0 rfl (lv_at hl 0 rfl) ?_
  refine lv_iload_n hx hb dL_port_1 rfl (lv_at hl 1 rfl) ?_
  refine lv_iload_n hx hb dL_port_2 rfl (lv_at hl 2 rfl) ?_
  have rv1 : ∃ cell : Cell, H[x]? = some cell ∧ cell.vm.isStatics = false ∧ s.vm.findClass RX12 = some cell.cls := z_recvY hK hZ 0 rfl rfl
  have hZc := zP.into (Y1 := []) (Y2 := [(x, .inr (13, [.ref tp, .ref wi, .ref cl, .ref sv])), (po, .inl (K 0, 2048, .inl (fun _ => 0)))]) hZ
  refine z_goX (vx_runV (As := [.int pp, .int op]) (rest := []) ⟨hx, hb, hml, hown, hts⟩ ((c_X12_port E l hfl D K (X ++ []) L T h_sv k_sv hSt) H.size) (cwV 2 hts (zg_V zw_1038 zw_883 zw_1039 zw_813 zw_882) rfl rfl rfl (by decide +kernel) ⟨Nat.le_of_ble_eq_true rfl, Nat.le_of_ble_eq_true rfl⟩) (z_preV hK hZc hS hA hE rv1) rfl rfl hl.1 rfl (lv_room (Nat.le_of_ble_eq_true rfl)) dL_port_3 ⟨Nat.le_of_ble_eq_true rfl, Nat.le_of_ble_eq_true rfl⟩) hZc hS hA (fun E9 ce9 q9 Y1 L1 T1 H locs hp hZ hS hc9 hv9 hcl9 => ?_) (fun  Y1 L1 T1 H locs hp hZ hS => ?_)
  · obtain ⟨hu, hp⟩ := hp
    cases hu
    have hZ : zP D vwCl A X [(x, .inr (13, [.ref tp, .ref wi, .ref cl, .ref sv])), (po, .inl (K 0, 2048, .inl (fun _ => 0)))] L T H := zP.back hZ
    rcases hp with ⟨rfl, hk9⟩
    · refine vx_catch (name := "java/util/NoSuchElementException") hown [] { startPc := 0, endPc := 6, handlerPc := 9, catchType := 25 } [] (by rw [htab]; rfl) (fun _ h => absurd h List.not_mem_nil) (by decide) (by decide) (hts _ zw_1098) (va_Nw.use rfl (zcst hE (List.mem_of_getElem? (i := 2) rfl))) hc9 hv9 hcl9 ?_
      refine lv_astore_n (lv' := [(3, .ref q9), (0, .ref x), (1, .int pp), (2, .int op)]) hx hb dL_port_9 rfl hl (by decide) rfl (fun ls hl => ?_)
      refine lv_iconst (v := nI 1) hx hb dL_port_10 (by decide +kernel) ?_
      refine vx_ret ?_
      exact z_iret hx hb hr rfl hlocks hK hZ hS ⟨(fun _ => 0), hk9.symm, rfl⟩ (Nat.le_of_ble_eq_true rfl) (Nat.le_of_ble_eq_true rfl) dL_port_11
  obtain ⟨gp_2, hk9, hp⟩ := hp
  cases hp
  have hZ : zP D vwCl A X [(x, .inr (13, [.ref tp, .ref wi, .ref cl, .ref sv])), (po, .inl (K 0, 2048, .inl gp_2))] L T H := zP.back hZ
  refine lv_goto (tgt := 12) hx hb dL_port_6 (by decide) ?_
  refine lv_iconst (v := nI 0) hx hb dL_port_12 (by decide +kernel) ?_
  refine vx_ret ?_
  exact z_iret hx hb hr rfl hlocks hK hZ hS ⟨gp_2, hk9.symm, rfl⟩ (Nat.le_of_ble_eq_true rfl) (Nat.le_of_ble_eq_true rfl) dL_port_13
abbrev ROOM_L_start : Room := { frames := 7, cells := 1, slots := 6, locals := 120 }
set_option maxHeartbeats 4000000 in
set_option maxRecDepth 100000 in
/-- the law's start -/
theorem c_L_start (E : zEn) (l : Launch) (hfl : l.stackTraces = false) (D : va_G) (K : Nat → ClassId) (X : va_W) (L : List Nat) (T : Nat → va_E → Prop) {x : Nat} {sv : Nat} {hk : Nat} {tp wi cl : Nat} {exS owS iwS stS chS so po : Nat} (h_sv : sv ∈ L) (k_sv : T sv = zOp 10 (zSv exS owS iwS stS chS so hk po)) (h_hk : hk ∈ L) (k_hk : T hk = zOp 3 zB0) (hSt : zSt E) : zXi E l D vwCl (zT K) yL_start (zwsH yL_start cL_start 2 (some .int) [(0, 4, 7, 13)]) ROOM_L_start 1 6 [.ref x] X [(x, .inr (13, [.ref tp, .ref wi, .ref cl, .ref sv]))] L T (fun (r : Int32) (u : zU) => (r = nI 1) ∧ u = ([(x, .inr (13, [.ref tp, .ref wi, .ref cl, .ref sv]))], L, T)) (fun (_ : String) (_ : zU) => False) := by
  refine z_ofWH (E := E) (Qc := fun A => va_Qi (fun (r : Int32) (u : zU) => (r = nI 1) ∧ u = ([(x, .inr (13, [.ref tp, .ref wi, .ref cl, .ref sv]))], L, T)) (zB D vwCl (zT K) A X) A) (XC := fun A => zXC D vwCl (zT K) A X (fun (_ : String) (_ : zU) => False)) (cc := cL_start) (maxL := 2) (ret := (some .int)) (hh := [(0, 4, 7, 13)]) (by decide +kernel) rfl (Nat.le_of_ble_eq_true rfl) ?_
  intro p e s m below meth c A ls hx hb hml hr hts hown hlocks htab hA hK hZ hS hE hl
  have hown : s.vm.findClass RL = some m.cls := hown
  have hts : ∀ w ∈ WR, w.before [.ref x].toArray s = true := fun w h => hts w (List.mem_cons_of_mem _ h)
  have hl : lv_has ls 2 [(0, .ref x)] := hl
  obtain ⟨H, hH⟩ : ∃ H, H = s.heap := ⟨_, rfl⟩
  have hZ : zP D vwCl A X [(x, .inr (13, [.ref tp, .ref wi, .ref cl, .ref sv]))] L T H := by rw [hH]; exact hZ
  obtain ⟨locs, hlc⟩ : ∃ q : List Loc, q = [] := ⟨_, rfl⟩
  have hS : va_S A s.heap H locs := by rw [hH, hlc]; exact hS
  suffices hW : W p l e ROOM_L_start s m [.ref x].toArray below meth c H locs 0 0 (vx_MQ below (va_Qi (fun (r : Int32) (u : zU) => (r = nI 1) ∧ u = ([(x, .inr (13, [.ref tp, .ref wi, .ref cl, .ref sv]))], L, T)) (zB D vwCl (zT K) A X) A) (zXC D vwCl (zT K) A X (fun (_ : String) (_ : zU) => False)) [.ref x].toArray s 1 6 A) (F0 m 0 ls []) by rw [hH, hlc] at hW; exact hW
  clear hH hlc
  refine lv_aload_n hx hb dL_start_0 rfl (lv_at hl 0 rfl) ?_
  have rv1 : ∃ cell : Cell, H[x]? = some cell ∧ cell.vm.isStatics = false ∧ s.vm.findClass RX12 = some cell.cls := z_recvY hK hZ 0 rfl rfl
  have hZc := zP.into (Y1 := []) (Y2 := [(x, .inr (13, [.ref tp, .ref wi, .ref cl, .ref sv]))]) hZ
  refine z_goX (vx_runV (As := []) (rest := []) ⟨hx, hb, hml, hown, hts⟩ ((c_X12_start E l hfl D K (X ++ []) L T h_sv k_sv h_hk k_hk hSt) H.size) (cwV 0 hts (zg_V zw_1042 zw_888 zw_1043 zw_813 zw_887) rfl rfl rfl (by decide +kernel) ⟨Nat.le_of_ble_eq_true rfl, Nat.le_of_ble_eq_true rfl⟩) (z_preV hK hZc hS hA hE rv1) rfl rfl hl.1 rfl (lv_room (Nat.le_of_ble_eq_true rfl)) dL_start_1 ⟨Nat.le_of_ble_eq_true rfl, Nat.le_of_ble_eq_true rfl⟩) hZc hS hA (fun E9 ce9 q9 Y1 L1 T1 H locs hp hZ hS hc9 hv9 hcl9 => ?_) (fun  Y1 L1 T1 H locs hp hZ hS => ?_)
  · obtain ⟨hu, hp⟩ := hp
    cases hu
    have hZ : zP D vwCl A X [(x, .inr (13, [.ref tp, .ref wi, .ref cl, .ref sv]))] L T H := zP.back hZ
    rcases hp with rfl
    · refine vx_catch (name := "java/lang/IllegalStateException") hown [] { startPc := 0, endPc := 4, handlerPc := 7, catchType := 13 } [] (by rw [htab]; rfl) (fun _ h => absurd h List.not_mem_nil) (by decide) (by decide) (hts _ zw_1096) (va_Nw.use rfl (zcst hE (List.mem_of_getElem? (i := 0) rfl))) hc9 hv9 hcl9 ?_
      refine lv_astore_n (lv' := [(1, .ref q9), (0, .ref x)]) hx hb dL_start_7 rfl hl (by decide) rfl (fun ls hl => ?_)
      refine lv_iconst (v := nI 1) hx hb dL_start_8 (by decide +kernel) ?_
      refine vx_ret ?_
      exact z_iret hx hb hr rfl hlocks hK hZ hS ⟨rfl, rfl⟩ (Nat.le_of_ble_eq_true rfl) (Nat.le_of_ble_eq_true rfl) dL_start_9
  obtain ⟨hnever, hp⟩ := hp
  cases hp
  exact hnever.elim
abbrev ROOM_L_move : Room := { frames := 7, cells := 1, slots := 6, locals := 128 }
set_option maxHeartbeats 4000000 in
set_option maxRecDepth 100000 in
/-- the law's move -/
theorem c_L_move (E : zEn) (l : Launch) (hfl : l.stackTraces = false) (D : va_G) (K : Nat → ClassId) (X : va_W) (L : List Nat) (T : Nat → va_E → Prop) {x : Nat} {ee : Int32} {n : Int32} {out : Nat} {tp wi cl sv : Nat} {w0 w1 b0 b1 : Nat}  (hSt : zSt E) : zXi E l D vwCl (zT K) yL_move (zwsH yL_move cL_move 5 (some .int) [(0, 10, 13, 25), (0, 10, 17, 19)]) ROOM_L_move 1 6 [.ref x, .int ee, .int n, .ref out] X [(x, .inr (13, [.ref tp, .ref wi, .ref cl, .ref sv])), (wi, .inl (K 4, 2, .inr (.inr (.inr (.inr (va_up (va_up (fun _ => none) (nI 0).toNatClampNeg (some w0)) (nI 1).toNatClampNeg (some w1))))))), (w0, .inr (3, [.ref b0, .int (nI 0), .int (nI 0), .int (nI 0), .int (nI 0), .int (nI 0)])), (w1, .inr (3, [.ref b1, .int (nI 0), .int (nI 0), .int (nI 0), .int (nI 0), .int (nI 0)])), (out, .inl (K 1, 1, .inr (.inl (fun _ => 0))))] L T (fun (r : Int32) (u : zU) => ∃ (go : Nat → Int64), (r = zka_move ee n ∧ go 0 = 0) ∧ u = ([(x, .inr (13, [.ref tp, .ref wi, .ref cl, .ref sv])), (wi, .inl (K 4, 2, .inr (.inr (.inr (.inr (va_up (va_up (fun _ => none) (nI 0).toNatClampNeg (some w0)) (nI 1).toNatClampNeg (some w1))))))), (w0, .inr (3, [.ref b0, .int (nI 0), .int (nI 0), .int (nI 0), .int (nI 0), .int (nI 0)])), (w1, .inr (3, [.ref b1, .int (nI 0), .int (nI 0), .int (nI 0), .int (nI 0), .int (nI 0)])), (out, .inl (K 1, 1, .inr (.inl go)))], L, T)) (fun (_ : String) (_ : zU) => False) := by
  refine z_ofWH (E := E) (Qc := fun A => va_Qi (fun (r : Int32) (u : zU) => ∃ (go : Nat → Int64), (r = zka_move ee n ∧ go 0 = 0) ∧ u = ([(x, .inr (13, [.ref tp, .ref wi, .ref cl, .ref sv])), (wi, .inl (K 4, 2, .inr (.inr (.inr (.inr (va_up (va_up (fun _ => none) (nI 0).toNatClampNeg (some w0)) (nI 1).toNatClampNeg (some w1))))))), (w0, .inr (3, [.ref b0, .int (nI 0), .int (nI 0), .int (nI 0), .int (nI 0), .int (nI 0)])), (w1, .inr (3, [.ref b1, .int (nI 0), .int (nI 0), .int (nI 0), .int (nI 0), .int (nI 0)])), (out, .inl (K 1, 1, .inr (.inl go)))], L, T)) (zB D vwCl (zT K) A X) A) (XC := fun A => zXC D vwCl (zT K) A X (fun (_ : String) (_ : zU) => False)) (cc := cL_move) (maxL := 5) (ret := (some .int)) (hh := [(0, 10, 13, 25), (0, 10, 17, 19)]) (by decide +kernel) rfl (Nat.le_of_ble_eq_true rfl) ?_
  intro p e s m below meth c A ls hx hb hml hr hts hown hlocks htab hA hK hZ hS hE hl
  have hown : s.vm.findClass RL = some m.cls := hown
  have hts : ∀ w ∈ WR, w.before [.ref x, .int ee, .int n, .ref out].toArray s = true := fun w h => hts w (List.mem_cons_of_mem _ h)
  have hl : lv_has ls 5 [(0, .ref x), (1, .int ee), (2, .int n), (3, .ref out)] := hl
  obtain ⟨H, hH⟩ : ∃ H, H = s.heap := ⟨_, rfl⟩
  have hZ : zP D vwCl A X [(x, .inr (13, [.ref tp, .ref wi, .ref cl, .ref sv])), (wi, .inl (K 4, 2, .inr (.inr (.inr (.inr (va_up (va_up (fun _ => none) (nI 0).toNatClampNeg (some w0)) (nI 1).toNatClampNeg (some w1))))))), (w0, .inr (3, [.ref b0, .int (nI 0), .int (nI 0), .int (nI 0), .int (nI 0), .int (nI 0)])), (w1, .inr (3, [.ref b1, .int (nI 0), .int (nI 0), .int (nI 0), .int (nI 0), .int (nI 0)])), (out, .inl (K 1, 1, .inr (.inl (fun _ => 0))))] L T H := by rw [hH]; exact hZ
  obtain ⟨locs, hlc⟩ : ∃ q : List Loc, q = [] := ⟨_, rfl⟩
  have hS : va_S A s.heap H locs := by rw [hH, hlc]; exact hS
  suffices hW : W p l e ROOM_L_move s m [.ref x, .int ee, .int n, .ref out].toArray below meth c H locs 0 0 (vx_MQ below (va_Qi (fun (r : Int32) (u : zU) => ∃ (go : Nat → Int64), (r = zka_move ee n ∧ go 0 = 0) ∧ u = ([(x, .inr (13, [.ref tp, .ref wi, .ref cl, .ref sv])), (wi, .inl (K 4, 2, .inr (.inr (.inr (.inr (va_up (va_up (fun _ => none) (nI 0).toNatClampNeg (some w0)) (nI 1).toNatClampNeg (some w1))))))), (w0, .inr (3, [.ref b0, .int (nI 0), .int (nI 0), .int (nI 0), .int (nI 0), .int (nI 0)])), (w1, .inr (3, [.ref b1, .int (nI 0), .int (nI 0), .int (nI 0), .int (nI 0), .int (nI 0)])), (out, .inl (K 1, 1, .inr (.inl go)))], L, T)) (zB D vwCl (zT K) A X) A) (zXC D vwCl (zT K) A X (fun (_ : String) (_ : zU) => False)) [.ref x, .int ee, .int n, .ref out].toArray s 1 6 A) (F0 m 0 ls []) by rw [hH, hlc] at hW; exact hW
  clear hH hlc
  refine lv_aload_n hx hb dL_move_0 rfl (lv_at hl 3 rfl) ?_
  refine lv_iconst (v := nI 0) hx hb dL_move_1 (by decide +kernel) ?_
  refine lv_aload_n hx hb dL_move_2 rfl (lv_at hl 0 rfl) ?_
  refine lv_iload_n hx hb dL_move_3 rfl (lv_at hl 1 rfl) ?_
  refine lv_iload_n hx hb dL_move_4 rfl (lv_at hl 2 rfl) ?_
  have rv1 : ∃ cell : Cell, H[x]? = some cell ∧ cell.vm.isStatics = false ∧ s.vm.findClass RX12 = some cell.cls := z_recvY hK hZ 0 rfl rfl
  have hZc := zP.into (Y1 := [(out, .inl (K 1, 1, .inr (.inl (fun _ => 0))))]) (Y2 := [(x, .inr (13, [.ref tp, .ref wi, .ref cl, .ref sv])), (wi, .inl (K 4, 2, .inr (.inr (.inr (.inr (va_up (va_up (fun _ => none) (nI 0).toNatClampNeg (some w0)) (nI 1).toNatClampNeg (some w1))))))), (w0, .inr (3, [.ref b0, .int (nI 0), .int (nI 0), .int (nI 0), .int (nI 0), .int (nI 0)])), (w1, .inr (3, [.ref b1, .int (nI 0), .int (nI 0), .int (nI 0), .int (nI 0), .int (nI 0)]))]) (zP.pick [4, 0, 1, 2, 3] [(out, .inl (K 1, 1, .inr (.inl (fun _ => 0)))), (x, .inr (13, [.ref tp, .ref wi, .ref cl, .ref sv])), (wi, .inl (K 4, 2, .inr (.inr (.inr (.inr (va_up (va_up (fun _ => none) (nI 0).toNatClampNeg (some w0)) (nI 1).toNatClampNeg (some w1))))))), (w0, .inr (3, [.ref b0, .int (nI 0), .int (nI 0), .int (nI 0), .int (nI 0), .int (nI 0)])), (w1, .inr (3, [.ref b1, .int (nI 0), .int (nI 0), .int (nI 0), .int (nI 0), .int (nI 0)]))] hZ (by decide) rfl)
  refine z_goXI (vx_runV (As := [.int ee, .int n]) (rest := [.int (nI 0), .ref out]) ⟨hx, hb, hml, hown, hts⟩ ((c_X12_move E l hfl D K (X ++ [(out, .inl (K 1, 1, .inr (.inl (fun _ => 0))))]) L T hSt) H.size) (cwV 2 hts (zg_V zw_1046 zw_894 zw_1047 zw_813 zw_893) rfl rfl rfl (by decide +kernel) ⟨Nat.le_of_ble_eq_true rfl, Nat.le_of_ble_eq_true rfl⟩) (z_preV hK hZc hS hA hE rv1) rfl rfl hl.1 rfl (lv_room (Nat.le_of_ble_eq_true rfl)) dL_move_5 ⟨Nat.le_of_ble_eq_true rfl, Nat.le_of_ble_eq_true rfl⟩) hZc hS hA (fun E9 ce9 q9 Y1 L1 T1 H locs hp hZ hS hc9 hv9 hcl9 => ?_) (fun x2 Y1 L1 T1 H locs hp hZ hS => ?_)
  · obtain ⟨hu, hp⟩ := hp
    cases hu
    have hZ : zP D vwCl A X [(out, .inl (K 1, 1, .inr (.inl (fun _ => 0)))), (x, .inr (13, [.ref tp, .ref wi, .ref cl, .ref sv])), (wi, .inl (K 4, 2, .inr (.inr (.inr (.inr (va_up (va_up (fun _ => none) (nI 0).toNatClampNeg (some w0)) (nI 1).toNatClampNeg (some w1))))))), (w0, .inr (3, [.ref b0, .int (nI 0), .int (nI 0), .int (nI 0), .int (nI 0), .int (nI 0)])), (w1, .inr (3, [.ref b1, .int (nI 0), .int (nI 0), .int (nI 0), .int (nI 0), .int (nI 0)]))] L T H := zP.back hZ
    rcases hp with ⟨rfl, hk9⟩ | ⟨rfl, hk9⟩
    · refine vx_catch (name := "java/util/NoSuchElementException") hown [] { startPc := 0, endPc := 10, handlerPc := 13, catchType := 25 } [{ startPc := 0, endPc := 10, handlerPc := 17, catchType := 19 }] (by rw [htab]; rfl) (fun _ h => absurd h List.not_mem_nil) (by decide) (by decide) (hts _ zw_1098) (va_Nw.use rfl (zcst hE (List.mem_of_getElem? (i := 2) rfl))) hc9 hv9 hcl9 ?_
      refine lv_astore (lv' := [(4, .ref q9), (0, .ref x), (1, .int ee), (2, .int n), (3, .ref out)]) hx hb dL_move_13 hl (by decide) rfl (fun ls hl => ?_)
      refine lv_iconst (v := nI 1) hx hb dL_move_15 (by decide +kernel) ?_
      have hZ : zP D vwCl A X [(x, .inr (13, [.ref tp, .ref wi, .ref cl, .ref sv])), (wi, .inl (K 4, 2, .inr (.inr (.inr (.inr (va_up (va_up (fun _ => none) (nI 0).toNatClampNeg (some w0)) (nI 1).toNatClampNeg (some w1))))))), (w0, .inr (3, [.ref b0, .int (nI 0), .int (nI 0), .int (nI 0), .int (nI 0), .int (nI 0)])), (w1, .inr (3, [.ref b1, .int (nI 0), .int (nI 0), .int (nI 0), .int (nI 0), .int (nI 0)])), (out, .inl (K 1, 1, .inr (.inl (fun _ => 0))))] L T H := zP.pick [1, 2, 3, 4, 0] [(x, .inr (13, [.ref tp, .ref wi, .ref cl, .ref sv])), (wi, .inl (K 4, 2, .inr (.inr (.inr (.inr (va_up (va_up (fun _ => none) (nI 0).toNatClampNeg (some w0)) (nI 1).toNatClampNeg (some w1))))))), (w0, .inr (3, [.ref b0, .int (nI 0), .int (nI 0), .int (nI 0), .int (nI 0), .int (nI 0)])), (w1, .inr (3, [.ref b1, .int (nI 0), .int (nI 0), .int (nI 0), .int (nI 0), .int (nI 0)])), (out, .inl (K 1, 1, .inr (.inl (fun _ => 0))))] hZ (by decide) rfl
      refine vx_ret ?_
      exact z_iret hx hb hr rfl hlocks hK hZ hS ⟨(fun _ => 0), ⟨hk9.symm, rfl⟩, rfl⟩ (Nat.le_of_ble_eq_true rfl) (Nat.le_of_ble_eq_true rfl) dL_move_16
    · refine vx_catch (name := "java/lang/IllegalArgumentException") hown [{ startPc := 0, endPc := 10, handlerPc := 13, catchType := 25 }] { startPc := 0, endPc := 10, handlerPc := 17, catchType := 19 } [] (by rw [htab]; rfl) (List.forall_mem_cons.mpr ⟨Or.inr ⟨(by decide), "java/util/NoSuchElementException", hts _ zw_1098, znc hE (x := ("java/lang/IllegalArgumentException", "java/util/NoSuchElementException")) (List.mem_of_getElem? (i := 0) rfl)⟩, (fun _ h => absurd h List.not_mem_nil)⟩) (by decide) (by decide) (hts _ zw_1097) (va_Nw.use rfl (zcst hE (List.mem_of_getElem? (i := 1) rfl))) hc9 hv9 hcl9 ?_
      refine lv_astore (lv' := [(4, .ref q9), (0, .ref x), (1, .int ee), (2, .int n), (3, .ref out)]) hx hb dL_move_17 hl (by decide) rfl (fun ls hl => ?_)
      refine lv_iconst (v := nI 2) hx hb dL_move_19 (by decide +kernel) ?_
      have hZ : zP D vwCl A X [(x, .inr (13, [.ref tp, .ref wi, .ref cl, .ref sv])), (wi, .inl (K 4, 2, .inr (.inr (.inr (.inr (va_up (va_up (fun _ => none) (nI 0).toNatClampNeg (some w0)) (nI 1).toNatClampNeg (some w1))))))), (w0, .inr (3, [.ref b0, .int (nI 0), .int (nI 0), .int (nI 0), .int (nI 0), .int (nI 0)])), (w1, .inr (3, [.ref b1, .int (nI 0), .int (nI 0), .int (nI 0), .int (nI 0), .int (nI 0)])), (out, .inl (K 1, 1, .inr (.inl (fun _ => 0))))] L T H := zP.pick [1, 2, 3, 4, 0] [(x, .inr (13, [.ref tp, .ref wi, .ref cl, .ref sv])), (wi, .inl (K 4, 2, .inr (.inr (.inr (.inr (va_up (va_up (fun _ => none) (nI 0).toNatClampNeg (some w0)) (nI 1).toNatClampNeg (some w1))))))), (w0, .inr (3, [.ref b0, .int (nI 0), .int (nI 0), .int (nI 0), .int (nI 0), .int (nI 0)])), (w1, .inr (3, [.ref b1, .int (nI 0), .int (nI 0), .int (nI 0), .int (nI 0), .int (nI 0)])), (out, .inl (K 1, 1, .inr (.inl (fun _ => 0))))] hZ (by decide) rfl
      refine vx_ret ?_
      exact z_iret hx hb hr rfl hlocks hK hZ hS ⟨(fun _ => 0), ⟨hk9.symm, rfl⟩, rfl⟩ (Nat.le_of_ble_eq_true rfl) (Nat.le_of_ble_eq_true rfl) dL_move_20
  obtain ⟨⟨hk9, hres⟩, hp⟩ := hp
  cases hp
  have hZ : zP D vwCl A X [(out, .inl (K 1, 1, .inr (.inl (fun _ => 0)))), (x, .inr (13, [.ref tp, .ref wi, .ref cl, .ref sv])), (wi, .inl (K 4, 2, .inr (.inr (.inr (.inr (va_up (va_up (fun _ => none) (nI 0).toNatClampNeg (some w0)) (nI 1).toNatClampNeg (some w1))))))), (w0, .inr (3, [.ref b0, .int (nI 0), .int (nI 0), .int (nI 0), .int (nI 0), .int (nI 0)])), (w1, .inr (3, [.ref b1, .int (nI 0), .int (nI 0), .int (nI 0), .int (nI 0), .int (nI 0)]))] L T H := zP.back hZ
  obtain rfl : x2 = nI 0 := hres
  refine lv_i2l hx hb dL_move_8 rfl ?_
  refine lv_topl (fun x3 ex3 => ?_)
  obtain rfl : x3 = 0 := ex3.trans (by decide +kernel)
  refine z_lastY hx hb hK hZ hS 1 0 rfl rfl (vp_in_nI (by omega) (by omega)) dL_move_9 (fun H locs hZ hS => ?_)
  have hZ : zP D vwCl A X [(out, .inl (K 1, 1, .inr (.inl (vp_updL (fun _ => 0) (nI 0).toNatClampNeg (0))))), (x, .inr (13, [.ref tp, .ref wi, .ref cl, .ref sv])), (wi, .inl (K 4, 2, .inr (.inr (.inr (.inr (va_up (va_up (fun _ => none) (nI 0).toNatClampNeg (some w0)) (nI 1).toNatClampNeg (some w1))))))), (w0, .inr (3, [.ref b0, .int (nI 0), .int (nI 0), .int (nI 0), .int (nI 0), .int (nI 0)])), (w1, .inr (3, [.ref b1, .int (nI 0), .int (nI 0), .int (nI 0), .int (nI 0), .int (nI 0)]))] L T H := hZ
  refine lv_goto (tgt := 21) hx hb dL_move_10 (by decide) ?_
  refine lv_iconst (v := nI 0) hx hb dL_move_21 (by decide +kernel) ?_
  have hZ : zP D vwCl A X [(x, .inr (13, [.ref tp, .ref wi, .ref cl, .ref sv])), (wi, .inl (K 4, 2, .inr (.inr (.inr (.inr (va_up (va_up (fun _ => none) (nI 0).toNatClampNeg (some w0)) (nI 1).toNatClampNeg (some w1))))))), (w0, .inr (3, [.ref b0, .int (nI 0), .int (nI 0), .int (nI 0), .int (nI 0), .int (nI 0)])), (w1, .inr (3, [.ref b1, .int (nI 0), .int (nI 0), .int (nI 0), .int (nI 0), .int (nI 0)])), (out, .inl (K 1, 1, .inr (.inl (vp_updL (fun _ => 0) (nI 0).toNatClampNeg (0)))))] L T H := zP.pick [1, 2, 3, 4, 0] [(x, .inr (13, [.ref tp, .ref wi, .ref cl, .ref sv])), (wi, .inl (K 4, 2, .inr (.inr (.inr (.inr (va_up (va_up (fun _ => none) (nI 0).toNatClampNeg (some w0)) (nI 1).toNatClampNeg (some w1))))))), (w0, .inr (3, [.ref b0, .int (nI 0), .int (nI 0), .int (nI 0), .int (nI 0), .int (nI 0)])), (w1, .inr (3, [.ref b1, .int (nI 0), .int (nI 0), .int (nI 0), .int (nI 0), .int (nI 0)])), (out, .inl (K 1, 1, .inr (.inl (vp_updL (fun _ => 0) (nI 0).toNatClampNeg (0)))))] hZ (by decide) rfl
  refine vx_ret ?_
  exact z_iret hx hb hr rfl hlocks hK hZ hS ⟨(vp_updL (fun _ => 0) (nI 0).toNatClampNeg (0)), ⟨hk9.symm, (zgo0 _)⟩, rfl⟩ (Nat.le_of_ble_eq_true rfl) (Nat.le_of_ble_eq_true rfl) dL_move_22
abbrev ROOM_L_flip : Room := { frames := 7, cells := 1, slots := 6, locals := 124 }
set_option maxHeartbeats 4000000 in
set_option maxRecDepth 100000 in
/-- the law's flip -/
theorem c_L_flip (E : zEn) (l : Launch) (hfl : l.stackTraces = false) (D : va_G) (K : Nat → ClassId) (X : va_W) (L : List Nat) (T : Nat → va_E → Prop) {x : Nat} {ee : Int32} {at_ : Int32} {wi_ : Int32} {out : Nat} {tp wi cl sv : Nat} {w0 w1 b0 b1 : Nat}  (hSt : zSt E) : zXi E l D vwCl (zT K) yL_flip (zwsH yL_flip cL_flip 6 (some .int) [(0, 12, 15, 25), (0, 12, 19, 52)]) ROOM_L_flip 1 6 [.ref x, .int ee, .int at_, .int wi_, .ref out] X [(x, .inr (13, [.ref tp, .ref wi, .ref cl, .ref sv])), (wi, .inl (K 4, 2, .inr (.inr (.inr (.inr (va_up (va_up (fun _ => none) (nI 0).toNatClampNeg (some w0)) (nI 1).toNatClampNeg (some w1))))))), (w0, .inr (3, [.ref b0, .int (nI 0), .int (nI 0), .int (nI 0), .int (nI 0), .int (nI 0)])), (w1, .inr (3, [.ref b1, .int (nI 0), .int (nI 0), .int (nI 0), .int (nI 0), .int (nI 0)])), (out, .inl (K 1, 1, .inr (.inl (fun _ => 0))))] L T (fun (r : Int32) (u : zU) => ∃ (go : Nat → Int64), (r = zka_e2 ee ∧ go 0 = 0) ∧ u = ([(x, .inr (13, [.ref tp, .ref wi, .ref cl, .ref sv])), (wi, .inl (K 4, 2, .inr (.inr (.inr (.inr (va_up (va_up (fun _ => none) (nI 0).toNatClampNeg (some w0)) (nI 1).toNatClampNeg (some w1))))))), (w0, .inr (3, [.ref b0, .int (nI 0), .int (nI 0), .int (nI 0), .int (nI 0), .int (nI 0)])), (w1, .inr (3, [.ref b1, .int (nI 0), .int (nI 0), .int (nI 0), .int (nI 0), .int (nI 0)])), (out, .inl (K 1, 1, .inr (.inl go)))], L, T)) (fun (_ : String) (_ : zU) => False) := by
  refine z_ofWH (E := E) (Qc := fun A => va_Qi (fun (r : Int32) (u : zU) => ∃ (go : Nat → Int64), (r = zka_e2 ee ∧ go 0 = 0) ∧ u = ([(x, .inr (13, [.ref tp, .ref wi, .ref cl, .ref sv])), (wi, .inl (K 4, 2, .inr (.inr (.inr (.inr (va_up (va_up (fun _ => none) (nI 0).toNatClampNeg (some w0)) (nI 1).toNatClampNeg (some w1))))))), (w0, .inr (3, [.ref b0, .int (nI 0), .int (nI 0), .int (nI 0), .int (nI 0), .int (nI 0)])), (w1, .inr (3, [.ref b1, .int (nI 0), .int (nI 0), .int (nI 0), .int (nI 0), .int (nI 0)])), (out, .inl (K 1, 1, .inr (.inl go)))], L, T)) (zB D vwCl (zT K) A X) A) (XC := fun A => zXC D vwCl (zT K) A X (fun (_ : String) (_ : zU) => False)) (cc := cL_flip) (maxL := 6) (ret := (some .int)) (hh := [(0, 12, 15, 25), (0, 12, 19, 52)]) (by decide +kernel) rfl (Nat.le_of_ble_eq_true rfl) ?_
  intro p e s m below meth c A ls hx hb hml hr hts hown hlocks htab hA hK hZ hS hE hl
  have hown : s.vm.findClass RL = some m.cls := hown
  have hts : ∀ w ∈ WR, w.before [.ref x, .int ee, .int at_, .int wi_, .ref out].toArray s = true := fun w h => hts w (List.mem_cons_of_mem _ h)
  have hl : lv_has ls 6 [(0, .ref x), (1, .int ee), (2, .int at_), (3, .int wi_), (4, .ref out)] := hl
  obtain ⟨H, hH⟩ : ∃ H, H = s.heap := ⟨_, rfl⟩
  have hZ : zP D vwCl A X [(x, .inr (13, [.ref tp, .ref wi, .ref cl, .ref sv])), (wi, .inl (K 4, 2, .inr (.inr (.inr (.inr (va_up (va_up (fun _ => none) (nI 0).toNatClampNeg (some w0)) (nI 1).toNatClampNeg (some w1))))))), (w0, .inr (3, [.ref b0, .int (nI 0), .int (nI 0), .int (nI 0), .int (nI 0), .int (nI 0)])), (w1, .inr (3, [.ref b1, .int (nI 0), .int (nI 0), .int (nI 0), .int (nI 0), .int (nI 0)])), (out, .inl (K 1, 1, .inr (.inl (fun _ => 0))))] L T H := by rw [hH]; exact hZ
  obtain ⟨locs, hlc⟩ : ∃ q : List Loc, q = [] := ⟨_, rfl⟩
  have hS : va_S A s.heap H locs := by rw [hH, hlc]; exact hS
  suffices hW : W p l e ROOM_L_flip s m [.ref x, .int ee, .int at_, .int wi_, .ref out].toArray below meth c H locs 0 0 (vx_MQ below (va_Qi (fun (r : Int32) (u : zU) => ∃ (go : Nat → Int64), (r = zka_e2 ee ∧ go 0 = 0) ∧ u = ([(x, .inr (13, [.ref tp, .ref wi, .ref cl, .ref sv])), (wi, .inl (K 4, 2, .inr (.inr (.inr (.inr (va_up (va_up (fun _ => none) (nI 0).toNatClampNeg (some w0)) (nI 1).toNatClampNeg (some w1))))))), (w0, .inr (3, [.ref b0, .int (nI 0), .int (nI 0), .int (nI 0), .int (nI 0), .int (nI 0)])), (w1, .inr (3, [.ref b1, .int (nI 0), .int (nI 0), .int (nI 0), .int (nI 0), .int (nI 0)])), (out, .inl (K 1, 1, .inr (.inl go)))], L, T)) (zB D vwCl (zT K) A X) A) (zXC D vwCl (zT K) A X (fun (_ : String) (_ : zU) => False)) [.ref x, .int ee, .int at_, .int wi_, .ref out].toArray s 1 6 A) (F0 m 0 ls []) by rw [hH, hlc] at hW; exact hW
  clear hH hlc
  refine lv_aload hx hb dL_flip_0 (lv_at hl 4 rfl) ?_
  refine lv_iconst (v := nI 0) hx hb dL_flip_2 (by decide +kernel) ?_
  refine lv_aload_n hx hb dL_flip_3 rfl (lv_at hl 0 rfl) ?_
  refine lv_iload_n hx hb dL_flip_4 rfl (lv_at hl 1 rfl) ?_
  refine lv_iload_n hx hb dL_flip_5 rfl (lv_at hl 2 rfl) ?_
  refine lv_iload_n hx hb dL_flip_6 rfl (lv_at hl 3 rfl) ?_
  have rv1 : ∃ cell : Cell, H[x]? = some cell ∧ cell.vm.isStatics = false ∧ s.vm.findClass RX12 = some cell.cls := z_recvY hK hZ 0 rfl rfl
  have hZc := zP.into (Y1 := [(out, .inl (K 1, 1, .inr (.inl (fun _ => 0))))]) (Y2 := [(x, .inr (13, [.ref tp, .ref wi, .ref cl, .ref sv])), (wi, .inl (K 4, 2, .inr (.inr (.inr (.inr (va_up (va_up (fun _ => none) (nI 0).toNatClampNeg (some w0)) (nI 1).toNatClampNeg (some w1))))))), (w0, .inr (3, [.ref b0, .int (nI 0), .int (nI 0), .int (nI 0), .int (nI 0), .int (nI 0)])), (w1, .inr (3, [.ref b1, .int (nI 0), .int (nI 0), .int (nI 0), .int (nI 0), .int (nI 0)]))]) (zP.pick [4, 0, 1, 2, 3] [(out, .inl (K 1, 1, .inr (.inl (fun _ => 0)))), (x, .inr (13, [.ref tp, .ref wi, .ref cl, .ref sv])), (wi, .inl (K 4, 2, .inr (.inr (.inr (.inr (va_up (va_up (fun _ => none) (nI 0).toNatClampNeg (some w0)) (nI 1).toNatClampNeg (some w1))))))), (w0, .inr (3, [.ref b0, .int (nI 0), .int (nI 0), .int (nI 0), .int (nI 0), .int (nI 0)])), (w1, .inr (3, [.ref b1, .int (nI 0), .int (nI 0), .int (nI 0), .int (nI 0), .int (nI 0)]))] hZ (by decide) rfl)
  refine z_goXI (vx_runV (As := [.int ee, .int at_, .int wi_]) (rest := [.int (nI 0), .ref out]) ⟨hx, hb, hml, hown, hts⟩ ((c_X12_flip E l hfl D K (X ++ [(out, .inl (K 1, 1, .inr (.inl (fun _ => 0))))]) L T hSt) H.size) (cwV 3 hts (zg_V zw_1050 zw_902 zw_1051 zw_813 zw_901) rfl rfl rfl (by decide +kernel) ⟨Nat.le_of_ble_eq_true rfl, Nat.le_of_ble_eq_true rfl⟩) (z_preV hK hZc hS hA hE rv1) rfl rfl hl.1 rfl (lv_room (Nat.le_of_ble_eq_true rfl)) dL_flip_7 ⟨Nat.le_of_ble_eq_true rfl, Nat.le_of_ble_eq_true rfl⟩) hZc hS hA (fun E9 ce9 q9 Y1 L1 T1 H locs hp hZ hS hc9 hv9 hcl9 => ?_) (fun x2 Y1 L1 T1 H locs hp hZ hS => ?_)
  · obtain ⟨hu, hp⟩ := hp
    cases hu
    have hZ : zP D vwCl A X [(out, .inl (K 1, 1, .inr (.inl (fun _ => 0)))), (x, .inr (13, [.ref tp, .ref wi, .ref cl, .ref sv])), (wi, .inl (K 4, 2, .inr (.inr (.inr (.inr (va_up (va_up (fun _ => none) (nI 0).toNatClampNeg (some w0)) (nI 1).toNatClampNeg (some w1))))))), (w0, .inr (3, [.ref b0, .int (nI 0), .int (nI 0), .int (nI 0), .int (nI 0), .int (nI 0)])), (w1, .inr (3, [.ref b1, .int (nI 0), .int (nI 0), .int (nI 0), .int (nI 0), .int (nI 0)]))] L T H := zP.back hZ
    rcases hp with ⟨rfl, hk9⟩ | ⟨rfl, hk9⟩
    · refine vx_catch (name := "java/util/NoSuchElementException") hown [] { startPc := 0, endPc := 12, handlerPc := 15, catchType := 25 } [{ startPc := 0, endPc := 12, handlerPc := 19, catchType := 52 }] (by rw [htab]; rfl) (fun _ h => absurd h List.not_mem_nil) (by decide) (by decide) (hts _ zw_1098) (va_Nw.use rfl (zcst hE (List.mem_of_getElem? (i := 2) rfl))) hc9 hv9 hcl9 ?_
      refine lv_astore (lv' := [(5, .ref q9), (0, .ref x), (1, .int ee), (2, .int at_), (3, .int wi_), (4, .ref out)]) hx hb dL_flip_15 hl (by decide) rfl (fun ls hl => ?_)
      refine lv_iconst (v := nI 1) hx hb dL_flip_17 (by decide +kernel) ?_
      have hZ : zP D vwCl A X [(x, .inr (13, [.ref tp, .ref wi, .ref cl, .ref sv])), (wi, .inl (K 4, 2, .inr (.inr (.inr (.inr (va_up (va_up (fun _ => none) (nI 0).toNatClampNeg (some w0)) (nI 1).toNatClampNeg (some w1))))))), (w0, .inr (3, [.ref b0, .int (nI 0), .int (nI 0), .int (nI 0), .int (nI 0), .int (nI 0)])), (w1, .inr (3, [.ref b1, .int (nI 0), .int (nI 0), .int (nI 0), .int (nI 0), .int (nI 0)])), (out, .inl (K 1, 1, .inr (.inl (fun _ => 0))))] L T H := zP.pick [1, 2, 3, 4, 0] [(x, .inr (13, [.ref tp, .ref wi, .ref cl, .ref sv])), (wi, .inl (K 4, 2, .inr (.inr (.inr (.inr (va_up (va_up (fun _ => none) (nI 0).toNatClampNeg (some w0)) (nI 1).toNatClampNeg (some w1))))))), (w0, .inr (3, [.ref b0, .int (nI 0), .int (nI 0), .int (nI 0), .int (nI 0), .int (nI 0)])), (w1, .inr (3, [.ref b1, .int (nI 0), .int (nI 0), .int (nI 0), .int (nI 0), .int (nI 0)])), (out, .inl (K 1, 1, .inr (.inl (fun _ => 0))))] hZ (by decide) rfl
      refine vx_ret ?_
      exact z_iret hx hb hr rfl hlocks hK hZ hS ⟨(fun _ => 0), ⟨hk9.symm, rfl⟩, rfl⟩ (Nat.le_of_ble_eq_true rfl) (Nat.le_of_ble_eq_true rfl) dL_flip_18
    · refine vx_catch (name := "java/lang/IndexOutOfBoundsException") hown [{ startPc := 0, endPc := 12, handlerPc := 15, catchType := 25 }] { startPc := 0, endPc := 12, handlerPc := 19, catchType := 52 } [] (by rw [htab]; rfl) (List.forall_mem_cons.mpr ⟨Or.inr ⟨(by decide), "java/util/NoSuchElementException", hts _ zw_1098, znc hE (x := ("java/lang/IndexOutOfBoundsException", "java/util/NoSuchElementException")) (List.mem_of_getElem? (i := 3) rfl)⟩, (fun _ h => absurd h List.not_mem_nil)⟩) (by decide) (by decide) (hts _ zw_1099) (va_Nw.use rfl (zcst hE (List.mem_of_getElem? (i := 3) rfl))) hc9 hv9 hcl9 ?_
      refine lv_astore (lv' := [(5, .ref q9), (0, .ref x), (1, .int ee), (2, .int at_), (3, .int wi_), (4, .ref out)]) hx hb dL_flip_19 hl (by decide) rfl (fun ls hl => ?_)
      refine lv_iconst (v := nI 2) hx hb dL_flip_21 (by decide +kernel) ?_
      have hZ : zP D vwCl A X [(x, .inr (13, [.ref tp, .ref wi, .ref cl, .ref sv])), (wi, .inl (K 4, 2, .inr (.inr (.inr (.inr (va_up (va_up (fun _ => none) (nI 0).toNatClampNeg (some w0)) (nI 1).toNatClampNeg (some w1))))))), (w0, .inr (3, [.ref b0, .int (nI 0), .int (nI 0), .int (nI 0), .int (nI 0), .int (nI 0)])), (w1, .inr (3, [.ref b1, .int (nI 0), .int (nI 0), .int (nI 0), .int (nI 0), .int (nI 0)])), (out, .inl (K 1, 1, .inr (.inl (fun _ => 0))))] L T H := zP.pick [1, 2, 3, 4, 0] [(x, .inr (13, [.ref tp, .ref wi, .ref cl, .ref sv])), (wi, .inl (K 4, 2, .inr (.inr (.inr (.inr (va_up (va_up (fun _ => none) (nI 0).toNatClampNeg (some w0)) (nI 1).toNatClampNeg (some w1))))))), (w0, .inr (3, [.ref b0, .int (nI 0), .int (nI 0), .int (nI 0), .int (nI 0), .int (nI 0)])), (w1, .inr (3, [.ref b1, .int (nI 0), .int (nI 0), .int (nI 0), .int (nI 0), .int (nI 0)])), (out, .inl (K 1, 1, .inr (.inl (fun _ => 0))))] hZ (by decide) rfl
      refine vx_ret ?_
      exact z_iret hx hb hr rfl hlocks hK hZ hS ⟨(fun _ => 0), ⟨hk9.symm, rfl⟩, rfl⟩ (Nat.le_of_ble_eq_true rfl) (Nat.le_of_ble_eq_true rfl) dL_flip_22
  obtain ⟨hnever, hp⟩ := hp
  cases hp
  exact hnever.elim
abbrev ROOM_L_seen : Room := { frames := 7, cells := 1, slots := 6, locals := 122 }
set_option maxHeartbeats 4000000 in
set_option maxRecDepth 100000 in
/-- the law's seen -/
theorem c_L_seen (E : zEn) (l : Launch) (hfl : l.stackTraces = false) (D : va_G) (K : Nat → ClassId) (X : va_W) (L : List Nat) (T : Nat → va_E → Prop) {x : Nat} {ee : Int32} {at_ : Int32} {out : Nat} {tp wi cl sv : Nat} {w0 w1 b0 b1 : Nat}  (hSt : zSt E) : zXi E l D vwCl (zT K) yL_seen (zwsH yL_seen cL_seen 5 (some .int) [(0, 10, 13, 25), (0, 10, 17, 52)]) ROOM_L_seen 1 6 [.ref x, .int ee, .int at_, .ref out] X [(x, .inr (13, [.ref tp, .ref wi, .ref cl, .ref sv])), (wi, .inl (K 4, 2, .inr (.inr (.inr (.inr (va_up (va_up (fun _ => none) (nI 0).toNatClampNeg (some w0)) (nI 1).toNatClampNeg (some w1))))))), (w0, .inr (3, [.ref b0, .int (nI 0), .int (nI 0), .int (nI 0), .int (nI 0), .int (nI 0)])), (w1, .inr (3, [.ref b1, .int (nI 0), .int (nI 0), .int (nI 0), .int (nI 0), .int (nI 0)])), (out, .inl (K 1, 1, .inr (.inl (fun _ => 0))))] L T (fun (r : Int32) (u : zU) => ∃ (go : Nat → Int64), (r = zka_e2 ee ∧ go 0 = 0) ∧ u = ([(x, .inr (13, [.ref tp, .ref wi, .ref cl, .ref sv])), (wi, .inl (K 4, 2, .inr (.inr (.inr (.inr (va_up (va_up (fun _ => none) (nI 0).toNatClampNeg (some w0)) (nI 1).toNatClampNeg (some w1))))))), (w0, .inr (3, [.ref b0, .int (nI 0), .int (nI 0), .int (nI 0), .int (nI 0), .int (nI 0)])), (w1, .inr (3, [.ref b1, .int (nI 0), .int (nI 0), .int (nI 0), .int (nI 0), .int (nI 0)])), (out, .inl (K 1, 1, .inr (.inl go)))], L, T)) (fun (_ : String) (_ : zU) => False) := by
  refine z_ofWH (E := E) (Qc := fun A => va_Qi (fun (r : Int32) (u : zU) => ∃ (go : Nat → Int64), (r = zka_e2 ee ∧ go 0 = 0) ∧ u = ([(x, .inr (13, [.ref tp, .ref wi, .ref cl, .ref sv])), (wi, .inl (K 4, 2, .inr (.inr (.inr (.inr (va_up (va_up (fun _ => none) (nI 0).toNatClampNeg (some w0)) (nI 1).toNatClampNeg (some w1))))))), (w0, .inr (3, [.ref b0, .int (nI 0), .int (nI 0), .int (nI 0), .int (nI 0), .int (nI 0)])), (w1, .inr (3, [.ref b1, .int (nI 0), .int (nI 0), .int (nI 0), .int (nI 0), .int (nI 0)])), (out, .inl (K 1, 1, .inr (.inl go)))], L, T)) (zB D vwCl (zT K) A X) A) (XC := fun A => zXC D vwCl (zT K) A X (fun (_ : String) (_ : zU) => False)) (cc := cL_seen) (maxL := 5) (ret := (some .int)) (hh := [(0, 10, 13, 25), (0, 10, 17, 52)]) (by decide +kernel) rfl (Nat.le_of_ble_eq_true rfl) ?_
  intro p e s m below meth c A ls hx hb hml hr hts hown hlocks htab hA hK hZ hS hE hl
  have hown : s.vm.findClass RL = some m.cls := hown
  have hts : ∀ w ∈ WR, w.before [.ref x, .int ee, .int at_, .ref out].toArray s = true := fun w h => hts w (List.mem_cons_of_mem _ h)
  have hl : lv_has ls 5 [(0, .ref x), (1, .int ee), (2, .int at_), (3, .ref out)] := hl
  obtain ⟨H, hH⟩ : ∃ H, H = s.heap := ⟨_, rfl⟩
  have hZ : zP D vwCl A X [(x, .inr (13, [.ref tp, .ref wi, .ref cl, .ref sv])), (wi, .inl (K 4, 2, .inr (.inr (.inr (.inr (va_up (va_up (fun _ => none) (nI 0).toNatClampNeg (some w0)) (nI 1).toNatClampNeg (some w1))))))), (w0, .inr (3, [.ref b0, .int (nI 0), .int (nI 0), .int (nI 0), .int (nI 0), .int (nI 0)])), (w1, .inr (3, [.ref b1, .int (nI 0), .int (nI 0), .int (nI 0), .int (nI 0), .int (nI 0)])), (out, .inl (K 1, 1, .inr (.inl (fun _ => 0))))] L T H := by rw [hH]; exact hZ
  obtain ⟨locs, hlc⟩ : ∃ q : List Loc, q = [] := ⟨_, rfl⟩
  have hS : va_S A s.heap H locs := by rw [hH, hlc]; exact hS
  suffices hW : W p l e ROOM_L_seen s m [.ref x, .int ee, .int at_, .ref out].toArray below meth c H locs 0 0 (vx_MQ below (va_Qi (fun (r : Int32) (u : zU) => ∃ (go : Nat → Int64), (r = zka_e2 ee ∧ go 0 = 0) ∧ u = ([(x, .inr (13, [.ref tp, .ref wi, .ref cl, .ref sv])), (wi, .inl (K 4, 2, .inr (.inr (.inr (.inr (va_up (va_up (fun _ => none) (nI 0).toNatClampNeg (some w0)) (nI 1).toNatClampNeg (some w1))))))), (w0, .inr (3, [.ref b0, .int (nI 0), .int (nI 0), .int (nI 0), .int (nI 0), .int (nI 0)])), (w1, .inr (3, [.ref b1, .int (nI 0), .int (nI 0), .int (nI 0), .int (nI 0), .int (nI 0)])), (out, .inl (K 1, 1, .inr (.inl go)))], L, T)) (zB D vwCl (zT K) A X) A) (zXC D vwCl (zT K) A X (fun (_ : String) (_ : zU) => False)) [.ref x, .int ee, .int at_, .ref out].toArray s 1 6 A) (F0 m 0 ls []) by rw [hH, hlc] at hW; exact hW
  clear hH hlc
  refine lv_aload_n hx hb dL_seen_0 rfl (lv_at hl 3 rfl) ?_
  refine lv_iconst (v := nI 0) hx hb dL_seen_1 (by decide +kernel) ?_
  refine lv_aload_n hx hb dL_seen_2 rfl (lv_at hl 0 rfl) ?_
  refine lv_iload_n hx hb dL_seen_3 rfl (lv_at hl 1 rfl) ?_
  refine lv_iload_n hx hb dL_seen_4 rfl (lv_at hl 2 rfl) ?_
  have rv1 : ∃ cell : Cell, H[x]? = some cell ∧ cell.vm.isStatics = false ∧ s.vm.findClass RX12 = some cell.cls := z_recvY hK hZ 0 rfl rfl
  have hZc := zP.into (Y1 := [(out, .inl (K 1, 1, .inr (.inl (fun _ => 0))))]) (Y2 := [(x, .inr (13, [.ref tp, .ref wi, .ref cl, .ref sv])), (wi, .inl (K 4, 2, .inr (.inr (.inr (.inr (va_up (va_up (fun _ => none) (nI 0).toNatClampNeg (some w0)) (nI 1).toNatClampNeg (some w1))))))), (w0, .inr (3, [.ref b0, .int (nI 0), .int (nI 0), .int (nI 0), .int (nI 0), .int (nI 0)])), (w1, .inr (3, [.ref b1, .int (nI 0), .int (nI 0), .int (nI 0), .int (nI 0), .int (nI 0)]))]) (zP.pick [4, 0, 1, 2, 3] [(out, .inl (K 1, 1, .inr (.inl (fun _ => 0)))), (x, .inr (13, [.ref tp, .ref wi, .ref cl, .ref sv])), (wi, .inl (K 4, 2, .inr (.inr (.inr (.inr (va_up (va_up (fun _ => none) (nI 0).toNatClampNeg (some w0)) (nI 1).toNatClampNeg (some w1))))))), (w0, .inr (3, [.ref b0, .int (nI 0), .int (nI 0), .int (nI 0), .int (nI 0), .int (nI 0)])), (w1, .inr (3, [.ref b1, .int (nI 0), .int (nI 0), .int (nI 0), .int (nI 0), .int (nI 0)]))] hZ (by decide) rfl)
  refine z_goXI (vx_runV (As := [.int ee, .int at_]) (rest := [.int (nI 0), .ref out]) ⟨hx, hb, hml, hown, hts⟩ ((c_X12_seen E l hfl D K (X ++ [(out, .inl (K 1, 1, .inr (.inl (fun _ => 0))))]) L T hSt) H.size) (cwV 2 hts (zg_V zw_1054 zw_909 zw_1055 zw_813 zw_908) rfl rfl rfl (by decide +kernel) ⟨Nat.le_of_ble_eq_true rfl, Nat.le_of_ble_eq_true rfl⟩) (z_preV hK hZc hS hA hE rv1) rfl rfl hl.1 rfl (lv_room (Nat.le_of_ble_eq_true rfl)) dL_seen_5 ⟨Nat.le_of_ble_eq_true rfl, Nat.le_of_ble_eq_true rfl⟩) hZc hS hA (fun E9 ce9 q9 Y1 L1 T1 H locs hp hZ hS hc9 hv9 hcl9 => ?_) (fun x2 Y1 L1 T1 H locs hp hZ hS => ?_)
  · obtain ⟨hu, hp⟩ := hp
    cases hu
    have hZ : zP D vwCl A X [(out, .inl (K 1, 1, .inr (.inl (fun _ => 0)))), (x, .inr (13, [.ref tp, .ref wi, .ref cl, .ref sv])), (wi, .inl (K 4, 2, .inr (.inr (.inr (.inr (va_up (va_up (fun _ => none) (nI 0).toNatClampNeg (some w0)) (nI 1).toNatClampNeg (some w1))))))), (w0, .inr (3, [.ref b0, .int (nI 0), .int (nI 0), .int (nI 0), .int (nI 0), .int (nI 0)])), (w1, .inr (3, [.ref b1, .int (nI 0), .int (nI 0), .int (nI 0), .int (nI 0), .int (nI 0)]))] L T H := zP.back hZ
    rcases hp with ⟨rfl, hk9⟩ | ⟨rfl, hk9⟩
    · refine vx_catch (name := "java/util/NoSuchElementException") hown [] { startPc := 0, endPc := 10, handlerPc := 13, catchType := 25 } [{ startPc := 0, endPc := 10, handlerPc := 17, catchType := 52 }] (by rw [htab]; rfl) (fun _ h => absurd h List.not_mem_nil) (by decide) (by decide) (hts _ zw_1098) (va_Nw.use rfl (zcst hE (List.mem_of_getElem? (i := 2) rfl))) hc9 hv9 hcl9 ?_
      refine lv_astore (lv' := [(4, .ref q9), (0, .ref x), (1, .int ee), (2, .int at_), (3, .ref out)]) hx hb dL_seen_13 hl (by decide) rfl (fun ls hl => ?_)
      refine lv_iconst (v := nI 1) hx hb dL_seen_15 (by decide +kernel) ?_
      have hZ : zP D vwCl A X [(x, .inr (13, [.ref tp, .ref wi, .ref cl, .ref sv])), (wi, .inl (K 4, 2, .inr (.inr (.inr (.inr (va_up (va_up (fun _ => none) (nI 0).toNatClampNeg (some w0)) (nI 1).toNatClampNeg (some w1))))))), (w0, .inr (3, [.ref b0, .int (nI 0), .int (nI 0), .int (nI 0), .int (nI 0), .int (nI 0)])), (w1, .inr (3, [.ref b1, .int (nI 0), .int (nI 0), .int (nI 0), .int (nI 0), .int (nI 0)])), (out, .inl (K 1, 1, .inr (.inl (fun _ => 0))))] L T H := zP.pick [1, 2, 3, 4, 0] [(x, .inr (13, [.ref tp, .ref wi, .ref cl, .ref sv])), (wi, .inl (K 4, 2, .inr (.inr (.inr (.inr (va_up (va_up (fun _ => none) (nI 0).toNatClampNeg (some w0)) (nI 1).toNatClampNeg (some w1))))))), (w0, .inr (3, [.ref b0, .int (nI 0), .int (nI 0), .int (nI 0), .int (nI 0), .int (nI 0)])), (w1, .inr (3, [.ref b1, .int (nI 0), .int (nI 0), .int (nI 0), .int (nI 0), .int (nI 0)])), (out, .inl (K 1, 1, .inr (.inl (fun _ => 0))))] hZ (by decide) rfl
      refine vx_ret ?_
      exact z_iret hx hb hr rfl hlocks hK hZ hS ⟨(fun _ => 0), ⟨hk9.symm, rfl⟩, rfl⟩ (Nat.le_of_ble_eq_true rfl) (Nat.le_of_ble_eq_true rfl) dL_seen_16
    · refine vx_catch (name := "java/lang/IndexOutOfBoundsException") hown [{ startPc := 0, endPc := 10, handlerPc := 13, catchType := 25 }] { startPc := 0, endPc := 10, handlerPc := 17, catchType := 52 } [] (by rw [htab]; rfl) (List.forall_mem_cons.mpr ⟨Or.inr ⟨(by decide), "java/util/NoSuchElementException", hts _ zw_1098, znc hE (x := ("java/lang/IndexOutOfBoundsException", "java/util/NoSuchElementException")) (List.mem_of_getElem? (i := 3) rfl)⟩, (fun _ h => absurd h List.not_mem_nil)⟩) (by decide) (by decide) (hts _ zw_1099) (va_Nw.use rfl (zcst hE (List.mem_of_getElem? (i := 3) rfl))) hc9 hv9 hcl9 ?_
      refine lv_astore (lv' := [(4, .ref q9), (0, .ref x), (1, .int ee), (2, .int at_), (3, .ref out)]) hx hb dL_seen_17 hl (by decide) rfl (fun ls hl => ?_)
      refine lv_iconst (v := nI 2) hx hb dL_seen_19 (by decide +kernel) ?_
      have hZ : zP D vwCl A X [(x, .inr (13, [.ref tp, .ref wi, .ref cl, .ref sv])), (wi, .inl (K 4, 2, .inr (.inr (.inr (.inr (va_up (va_up (fun _ => none) (nI 0).toNatClampNeg (some w0)) (nI 1).toNatClampNeg (some w1))))))), (w0, .inr (3, [.ref b0, .int (nI 0), .int (nI 0), .int (nI 0), .int (nI 0), .int (nI 0)])), (w1, .inr (3, [.ref b1, .int (nI 0), .int (nI 0), .int (nI 0), .int (nI 0), .int (nI 0)])), (out, .inl (K 1, 1, .inr (.inl (fun _ => 0))))] L T H := zP.pick [1, 2, 3, 4, 0] [(x, .inr (13, [.ref tp, .ref wi, .ref cl, .ref sv])), (wi, .inl (K 4, 2, .inr (.inr (.inr (.inr (va_up (va_up (fun _ => none) (nI 0).toNatClampNeg (some w0)) (nI 1).toNatClampNeg (some w1))))))), (w0, .inr (3, [.ref b0, .int (nI 0), .int (nI 0), .int (nI 0), .int (nI 0), .int (nI 0)])), (w1, .inr (3, [.ref b1, .int (nI 0), .int (nI 0), .int (nI 0), .int (nI 0), .int (nI 0)])), (out, .inl (K 1, 1, .inr (.inl (fun _ => 0))))] hZ (by decide) rfl
      refine vx_ret ?_
      exact z_iret hx hb hr rfl hlocks hK hZ hS ⟨(fun _ => 0), ⟨hk9.symm, rfl⟩, rfl⟩ (Nat.le_of_ble_eq_true rfl) (Nat.le_of_ble_eq_true rfl) dL_seen_20
  obtain ⟨hnever, hp⟩ := hp
  cases hp
  exact hnever.elim
abbrev ROOM_L_inject : Room := { frames := 7, cells := 1, slots := 6, locals := 121 }
set_option maxHeartbeats 4000000 in
set_option maxRecDepth 100000 in
/-- the law's inject -/
theorem c_L_inject (E : zEn) (l : Launch) (hfl : l.stackTraces = false) (D : va_G) (K : Nat → ClassId) (X : va_W) (L : List Nat) (T : Nat → va_E → Prop) {x : Nat} {ee : Int32} {out : Nat} {td : Nat} {b0 : Nat} {b1 : Nat} {tp wi cl sv : Nat} {w0 w1 : Nat}  (h_td : td ∈ L) (k_td : T td = zI (K 2) 256) (h_b0 : b0 ∈ L) (k_b0 : T b0 = zI (K 2) 1024) (h_b1 : b1 ∈ L) (k_b1 : T b1 = zI (K 2) 1024) (hSt : zSt E) : zXi E l D vwCl (zT K) yL_inject (zwsH yL_inject cL_inject 4 (some .int) [(0, 9, 12, 25), (0, 9, 15, 13)]) ROOM_L_inject 1 6 [.ref x, .int ee, .ref out] X [(x, .inr (13, [.ref tp, .ref wi, .ref cl, .ref sv])), (tp, .inr (3, [.ref td, .int (nI 0), .int (nI 0), .int (nI 0), .int (nI 0), .int (nI 0)])), (wi, .inl (K 4, 2, .inr (.inr (.inr (.inr (va_up (va_up (fun _ => none) (nI 0).toNatClampNeg (some w0)) (nI 1).toNatClampNeg (some w1))))))), (w0, .inr (3, [.ref b0, .int (nI 0), .int (nI 0), .int (nI 0), .int (nI 0), .int (nI 0)])), (w1, .inr (3, [.ref b1, .int (nI 0), .int (nI 0), .int (nI 0), .int (nI 0), .int (nI 0)])), (out, .inl (K 1, 1, .inr (.inl (fun _ => 0))))] L T (fun (r : Int32) (u : zU) => ∃ (go : Nat → Int64), (r = zka_e0 ee ∧ go 0 = 0) ∧ u = ([(x, .inr (13, [.ref tp, .ref wi, .ref cl, .ref sv])), (tp, .inr (3, [.ref td, .int (nI 0), .int (nI 0), .int (nI 0), .int (nI 0), .int (nI 0)])), (wi, .inl (K 4, 2, .inr (.inr (.inr (.inr (va_up (va_up (fun _ => none) (nI 0).toNatClampNeg (some w0)) (nI 1).toNatClampNeg (some w1))))))), (w0, .inr (3, [.ref b0, .int (nI 0), .int (nI 0), .int (nI 0), .int (nI 0), .int (nI 0)])), (w1, .inr (3, [.ref b1, .int (nI 0), .int (nI 0), .int (nI 0), .int (nI 0), .int (nI 0)])), (out, .inl (K 1, 1, .inr (.inl go)))], L, T)) (fun (_ : String) (_ : zU) => False) := by
  refine z_ofWH (E := E) (Qc := fun A => va_Qi (fun (r : Int32) (u : zU) => ∃ (go : Nat → Int64), (r = zka_e0 ee ∧ go 0 = 0) ∧ u = ([(x, .inr (13, [.ref tp, .ref wi, .ref cl, .ref sv])), (tp, .inr (3, [.ref td, .int (nI 0), .int (nI 0), .int (nI 0), .int (nI 0), .int (nI 0)])), (wi, .inl (K 4, 2, .inr (.inr (.inr (.inr (va_up (va_up (fun _ => none) (nI 0).toNatClampNeg (some w0)) (nI 1).toNatClampNeg (some w1))))))), (w0, .inr (3, [.ref b0, .int (nI 0), .int (nI 0), .int (nI 0), .int (nI 0), .int (nI 0)])), (w1, .inr (3, [.ref b1, .int (nI 0), .int (nI 0), .int (nI 0), .int (nI 0), .int (nI 0)])), (out, .inl (K 1, 1, .inr (.inl go)))], L, T)) (zB D vwCl (zT K) A X) A) (XC := fun A => zXC D vwCl (zT K) A X (fun (_ : String) (_ : zU) => False)) (cc := cL_inject) (maxL := 4) (ret := (some .int)) (hh := [(0, 9, 12, 25), (0, 9, 15, 13)]) (by decide +kernel) rfl (Nat.le_of_ble_eq_true rfl) ?_
  intro p e s m below meth c A ls hx hb hml hr hts hown hlocks htab hA hK hZ hS hE hl
  have hown : s.vm.findClass RL = some m.cls := hown
  have hts : ∀ w ∈ WR, w.before [.ref x, .int ee, .ref out].toArray s = true := fun w h => hts w (List.mem_cons_of_mem _ h)
  have hl : lv_has ls 4 [(0, .ref x), (1, .int ee), (2, .ref out)] := hl
  obtain ⟨H, hH⟩ : ∃ H, H = s.heap := ⟨_, rfl⟩
  have hZ : zP D vwCl A X [(x, .inr (13, [.ref tp, .ref wi, .ref cl, .ref sv])), (tp, .inr (3, [.ref td, .int (nI 0), .int (nI 0), .int (nI 0), .int (nI 0), .int (nI 0)])), (wi, .inl (K 4, 2, .inr (.inr (.inr (.inr (va_up (va_up (fun _ => none) (nI 0).toNatClampNeg (some w0)) (nI 1).toNatClampNeg (some w1))))))), (w0, .inr (3, [.ref b0, .int (nI 0), .int (nI 0), .int (nI 0), .int (nI 0), .int (nI 0)])), (w1, .inr (3, [.ref b1, .int (nI 0), .int (nI 0), .int (nI 0), .int (nI 0), .int (nI 0)])), (out, .inl (K 1, 1, .inr (.inl (fun _ => 0))))] L T H := by rw [hH]; exact hZ
  obtain ⟨locs, hlc⟩ : ∃ q : List Loc, q = [] := ⟨_, rfl⟩
  have hS : va_S A s.heap H locs := by rw [hH, hlc]; exact hS
  suffices hW : W p l e ROOM_L_inject s m [.ref x, .int ee, .ref out].toArray below meth c H locs 0 0 (vx_MQ below (va_Qi (fun (r : Int32) (u : zU) => ∃ (go : Nat → Int64), (r = zka_e0 ee ∧ go 0 = 0) ∧ u = ([(x, .inr (13, [.ref tp, .ref wi, .ref cl, .ref sv])), (tp, .inr (3, [.ref td, .int (nI 0), .int (nI 0), .int (nI 0), .int (nI 0), .int (nI 0)])), (wi, .inl (K 4, 2, .inr (.inr (.inr (.inr (va_up (va_up (fun _ => none) (nI 0).toNatClampNeg (some w0)) (nI 1).toNatClampNeg (some w1))))))), (w0, .inr (3, [.ref b0, .int (nI 0), .int (nI 0), .int (nI 0), .int (nI 0), .int (nI 0)])), (w1, .inr (3, [.ref b1, .int (nI 0), .int (nI 0), .int (nI 0), .int (nI 0), .int (nI 0)])), (out, .inl (K 1, 1, .inr (.inl go)))], L, T)) (zB D vwCl (zT K) A X) A) (zXC D vwCl (zT K) A X (fun (_ : String) (_ : zU) => False)) [.ref x, .int ee, .ref out].toArray s 1 6 A) (F0 m 0 ls []) by rw [hH, hlc] at hW; exact hW
  clear hH hlc
  refine lv_aload_n hx hb dL_inject_0 rfl (lv_at hl 2 rfl) ?_
  refine lv_iconst (v := nI 0) hx hb dL_inject_1 (by decide +kernel) ?_
  refine lv_aload_n hx hb dL_inject_2 rfl (lv_at hl 0 rfl) ?_
  refine lv_iload_n hx hb dL_inject_3 rfl (lv_at hl 1 rfl) ?_
  have rv1 : ∃ cell : Cell, H[x]? = some cell ∧ cell.vm.isStatics = false ∧ s.vm.findClass RX12 = some cell.cls := z_recvY hK hZ 0 rfl rfl
  have hZc := zP.into (Y1 := [(out, .inl (K 1, 1, .inr (.inl (fun _ => 0))))]) (Y2 := [(x, .inr (13, [.ref tp, .ref wi, .ref cl, .ref sv])), (tp, .inr (3, [.ref td, .int (nI 0), .int (nI 0), .int (nI 0), .int (nI 0), .int (nI 0)])), (wi, .inl (K 4, 2, .inr (.inr (.inr (.inr (va_up (va_up (fun _ => none) (nI 0).toNatClampNeg (some w0)) (nI 1).toNatClampNeg (some w1))))))), (w0, .inr (3, [.ref b0, .int (nI 0), .int (nI 0), .int (nI 0), .int (nI 0), .int (nI 0)])), (w1, .inr (3, [.ref b1, .int (nI 0), .int (nI 0), .int (nI 0), .int (nI 0), .int (nI 0)]))]) (zP.pick [5, 0, 1, 2, 3, 4] [(out, .inl (K 1, 1, .inr (.inl (fun _ => 0)))), (x, .inr (13, [.ref tp, .ref wi, .ref cl, .ref sv])), (tp, .inr (3, [.ref td, .int (nI 0), .int (nI 0), .int (nI 0), .int (nI 0), .int (nI 0)])), (wi, .inl (K 4, 2, .inr (.inr (.inr (.inr (va_up (va_up (fun _ => none) (nI 0).toNatClampNeg (some w0)) (nI 1).toNatClampNeg (some w1))))))), (w0, .inr (3, [.ref b0, .int (nI 0), .int (nI 0), .int (nI 0), .int (nI 0), .int (nI 0)])), (w1, .inr (3, [.ref b1, .int (nI 0), .int (nI 0), .int (nI 0), .int (nI 0), .int (nI 0)]))] hZ (by decide) rfl)
  refine z_goXI (vx_runV (As := [.int ee]) (rest := [.int (nI 0), .ref out]) ⟨hx, hb, hml, hown, hts⟩ ((c_X12_inject E l hfl D K (X ++ [(out, .inl (K 1, 1, .inr (.inl (fun _ => 0))))]) L T h_td k_td h_b0 k_b0 h_b1 k_b1 hSt) H.size) (cwV 1 hts (zg_V zw_1058 zw_911 zw_1059 zw_813 zw_910) rfl rfl rfl (by decide +kernel) ⟨Nat.le_of_ble_eq_true rfl, Nat.le_of_ble_eq_true rfl⟩) (z_preV hK hZc hS hA hE rv1) rfl rfl hl.1 rfl (lv_room (Nat.le_of_ble_eq_true rfl)) dL_inject_4 ⟨Nat.le_of_ble_eq_true rfl, Nat.le_of_ble_eq_true rfl⟩) hZc hS hA (fun E9 ce9 q9 Y1 L1 T1 H locs hp hZ hS hc9 hv9 hcl9 => ?_) (fun x2 Y1 L1 T1 H locs hp hZ hS => ?_)
  · obtain ⟨hu, hp⟩ := hp
    cases hu
    have hZ : zP D vwCl A X [(out, .inl (K 1, 1, .inr (.inl (fun _ => 0)))), (x, .inr (13, [.ref tp, .ref wi, .ref cl, .ref sv])), (tp, .inr (3, [.ref td, .int (nI 0), .int (nI 0), .int (nI 0), .int (nI 0), .int (nI 0)])), (wi, .inl (K 4, 2, .inr (.inr (.inr (.inr (va_up (va_up (fun _ => none) (nI 0).toNatClampNeg (some w0)) (nI 1).toNatClampNeg (some w1))))))), (w0, .inr (3, [.ref b0, .int (nI 0), .int (nI 0), .int (nI 0), .int (nI 0), .int (nI 0)])), (w1, .inr (3, [.ref b1, .int (nI 0), .int (nI 0), .int (nI 0), .int (nI 0), .int (nI 0)]))] L T H := zP.back hZ
    rcases hp with ⟨rfl, hk9⟩
    · refine vx_catch (name := "java/util/NoSuchElementException") hown [] { startPc := 0, endPc := 9, handlerPc := 12, catchType := 25 } [{ startPc := 0, endPc := 9, handlerPc := 15, catchType := 13 }] (by rw [htab]; rfl) (fun _ h => absurd h List.not_mem_nil) (by decide) (by decide) (hts _ zw_1098) (va_Nw.use rfl (zcst hE (List.mem_of_getElem? (i := 2) rfl))) hc9 hv9 hcl9 ?_
      refine lv_astore_n (lv' := [(3, .ref q9), (0, .ref x), (1, .int ee), (2, .ref out)]) hx hb dL_inject_12 rfl hl (by decide) rfl (fun ls hl => ?_)
      refine lv_iconst (v := nI 1) hx hb dL_inject_13 (by decide +kernel) ?_
      have hZ : zP D vwCl A X [(x, .inr (13, [.ref tp, .ref wi, .ref cl, .ref sv])), (tp, .inr (3, [.ref td, .int (nI 0), .int (nI 0), .int (nI 0), .int (nI 0), .int (nI 0)])), (wi, .inl (K 4, 2, .inr (.inr (.inr (.inr (va_up (va_up (fun _ => none) (nI 0).toNatClampNeg (some w0)) (nI 1).toNatClampNeg (some w1))))))), (w0, .inr (3, [.ref b0, .int (nI 0), .int (nI 0), .int (nI 0), .int (nI 0), .int (nI 0)])), (w1, .inr (3, [.ref b1, .int (nI 0), .int (nI 0), .int (nI 0), .int (nI 0), .int (nI 0)])), (out, .inl (K 1, 1, .inr (.inl (fun _ => 0))))] L T H := zP.pick [1, 2, 3, 4, 5, 0] [(x, .inr (13, [.ref tp, .ref wi, .ref cl, .ref sv])), (tp, .inr (3, [.ref td, .int (nI 0), .int (nI 0), .int (nI 0), .int (nI 0), .int (nI 0)])), (wi, .inl (K 4, 2, .inr (.inr (.inr (.inr (va_up (va_up (fun _ => none) (nI 0).toNatClampNeg (some w0)) (nI 1).toNatClampNeg (some w1))))))), (w0, .inr (3, [.ref b0, .int (nI 0), .int (nI 0), .int (nI 0), .int (nI 0), .int (nI 0)])), (w1, .inr (3, [.ref b1, .int (nI 0), .int (nI 0), .int (nI 0), .int (nI 0), .int (nI 0)])), (out, .inl (K 1, 1, .inr (.inl (fun _ => 0))))] hZ (by decide) rfl
      refine vx_ret ?_
      exact z_iret hx hb hr rfl hlocks hK hZ hS ⟨(fun _ => 0), ⟨hk9.symm, rfl⟩, rfl⟩ (Nat.le_of_ble_eq_true rfl) (Nat.le_of_ble_eq_true rfl) dL_inject_14
  obtain ⟨⟨hk9, hres⟩, hp⟩ := hp
  cases hp
  have hZ : zP D vwCl A X [(out, .inl (K 1, 1, .inr (.inl (fun _ => 0)))), (x, .inr (13, [.ref tp, .ref wi, .ref cl, .ref sv])), (tp, .inr (3, [.ref td, .int (nI 0), .int (nI 0), .int (nI 0), .int (nI 0), .int (nI 0)])), (wi, .inl (K 4, 2, .inr (.inr (.inr (.inr (va_up (va_up (fun _ => none) (nI 0).toNatClampNeg (some w0)) (nI 1).toNatClampNeg (some w1))))))), (w0, .inr (3, [.ref b0, .int (nI 0), .int (nI 0), .int (nI 0), .int (nI 0), .int (nI 0)])), (w1, .inr (3, [.ref b1, .int (nI 0), .int (nI 0), .int (nI 0), .int (nI 0), .int (nI 0)]))] L T H := zP.back hZ
  obtain rfl : x2 = nI 0 := hres
  refine lv_i2l hx hb dL_inject_7 rfl ?_
  refine lv_topl (fun x3 ex3 => ?_)
  obtain rfl : x3 = 0 := ex3.trans (by decide +kernel)
  refine z_lastY hx hb hK hZ hS 1 0 rfl rfl (vp_in_nI (by omega) (by omega)) dL_inject_8 (fun H locs hZ hS => ?_)
  have hZ : zP D vwCl A X [(out, .inl (K 1, 1, .inr (.inl (vp_updL (fun _ => 0) (nI 0).toNatClampNeg (0))))), (x, .inr (13, [.ref tp, .ref wi, .ref cl, .ref sv])), (tp, .inr (3, [.ref td, .int (nI 0), .int (nI 0), .int (nI 0), .int (nI 0), .int (nI 0)])), (wi, .inl (K 4, 2, .inr (.inr (.inr (.inr (va_up (va_up (fun _ => none) (nI 0).toNatClampNeg (some w0)) (nI 1).toNatClampNeg (some w1))))))), (w0, .inr (3, [.ref b0, .int (nI 0), .int (nI 0), .int (nI 0), .int (nI 0), .int (nI 0)])), (w1, .inr (3, [.ref b1, .int (nI 0), .int (nI 0), .int (nI 0), .int (nI 0), .int (nI 0)]))] L T H := hZ
  refine lv_goto (tgt := 18) hx hb dL_inject_9 (by decide) ?_
  refine lv_iconst (v := nI 0) hx hb dL_inject_18 (by decide +kernel) ?_
  have hZ : zP D vwCl A X [(x, .inr (13, [.ref tp, .ref wi, .ref cl, .ref sv])), (tp, .inr (3, [.ref td, .int (nI 0), .int (nI 0), .int (nI 0), .int (nI 0), .int (nI 0)])), (wi, .inl (K 4, 2, .inr (.inr (.inr (.inr (va_up (va_up (fun _ => none) (nI 0).toNatClampNeg (some w0)) (nI 1).toNatClampNeg (some w1))))))), (w0, .inr (3, [.ref b0, .int (nI 0), .int (nI 0), .int (nI 0), .int (nI 0), .int (nI 0)])), (w1, .inr (3, [.ref b1, .int (nI 0), .int (nI 0), .int (nI 0), .int (nI 0), .int (nI 0)])), (out, .inl (K 1, 1, .inr (.inl (vp_updL (fun _ => 0) (nI 0).toNatClampNeg (0)))))] L T H := zP.pick [1, 2, 3, 4, 5, 0] [(x, .inr (13, [.ref tp, .ref wi, .ref cl, .ref sv])), (tp, .inr (3, [.ref td, .int (nI 0), .int (nI 0), .int (nI 0), .int (nI 0), .int (nI 0)])), (wi, .inl (K 4, 2, .inr (.inr (.inr (.inr (va_up (va_up (fun _ => none) (nI 0).toNatClampNeg (some w0)) (nI 1).toNatClampNeg (some w1))))))), (w0, .inr (3, [.ref b0, .int (nI 0), .int (nI 0), .int (nI 0), .int (nI 0), .int (nI 0)])), (w1, .inr (3, [.ref b1, .int (nI 0), .int (nI 0), .int (nI 0), .int (nI 0), .int (nI 0)])), (out, .inl (K 1, 1, .inr (.inl (vp_updL (fun _ => 0) (nI 0).toNatClampNeg (0)))))] hZ (by decide) rfl
  refine vx_ret ?_
  exact z_iret hx hb hr rfl hlocks hK hZ hS ⟨(vp_updL (fun _ => 0) (nI 0).toNatClampNeg (0)), ⟨hk9.symm, (zgo0 _)⟩, rfl⟩ (Nat.le_of_ble_eq_true rfl) (Nat.le_of_ble_eq_true rfl) dL_inject_19
abbrev ROOM_L_open : Room := { frames := 7, cells := 1, slots := 6, locals := 122 }
set_option maxHeartbeats 4000000 in
set_option maxRecDepth 100000 in
/-- the law's open -/
theorem c_L_open (E : zEn) (l : Launch) (hfl : l.stackTraces = false) (D : va_G) (K : Nat → ClassId) (X : va_W) (L : List Nat) (T : Nat → va_E → Prop) {x : Nat} {k : Int32} {out : Nat} {cl : Nat} {tp wi sv : Nat} {td : Nat} {exC owC iwC stC chC : Nat} (h_cl : cl ∈ L) (k_cl : T cl = zOp 6 (zCl exC owC iwC stC chC)) (hSt : zSt E) : zXi E l D vwCl (zT K) yL_open (zwsH yL_open cL_open 4 (some .int) [(0, 9, 12, 19), (0, 9, 15, 13)]) ROOM_L_open 1 6 [.ref x, .int k, .ref out] X [(x, .inr (13, [.ref tp, .ref wi, .ref cl, .ref sv])), (tp, .inr (3, [.ref td, .int (nI 0), .int (nI 0), .int (nI 0), .int (nI 0), .int (nI 0)])), (out, .inl (K 1, 1, .inr (.inl (fun _ => 0))))] L T (fun (r : Int32) (u : zU) => ∃ (go : Nat → Int64), (r = zka_open k ∧ go 0 = 0) ∧ u = ([(x, .inr (13, [.ref tp, .ref wi, .ref cl, .ref sv])), (tp, .inr (3, [.ref td, .int (nI 0), .int (nI 0), .int (nI 0), .int (nI 0), .int (nI 0)])), (out, .inl (K 1, 1, .inr (.inl go)))], L, T)) (fun (_ : String) (_ : zU) => False) := by
  refine z_ofWH (E := E) (Qc := fun A => va_Qi (fun (r : Int32) (u : zU) => ∃ (go : Nat → Int64), (r = zka_open k ∧ go 0 = 0) ∧ u = ([(x, .inr (13, [.ref tp, .ref wi, .ref cl, .ref sv])), (tp, .inr (3, [.ref td, .int (nI 0), .int (nI 0), .int (nI 0), .int (nI 0), .int (nI 0)])), (out, .inl (K 1, 1, .inr (.inl go)))], L, T)) (zB D vwCl (zT K) A X) A) (XC := fun A => zXC D vwCl (zT K) A X (fun (_ : String) (_ : zU) => False)) (cc := cL_open) (maxL := 4) (ret := (some .int)) (hh := [(0, 9, 12, 19), (0, 9, 15, 13)]) (by decide +kernel) rfl (Nat.le_of_ble_eq_true rfl) ?_
  intro p e s m below meth c A ls hx hb hml hr hts hown hlocks htab hA hK hZ hS hE hl
  have hown : s.vm.findClass RL = some m.cls := hown
  have hts : ∀ w ∈ WR, w.before [.ref x, .int k, .ref out].toArray s = true := fun w h => hts w (List.mem_cons_of_mem _ h)
  have hl : lv_has ls 4 [(0, .ref x), (1, .int k), (2, .ref out)] := hl
  obtain ⟨H, hH⟩ : ∃ H, H = s.heap := ⟨_, rfl⟩
  have hZ : zP D vwCl A X [(x, .inr (13, [.ref tp, .ref wi, .ref cl, .ref sv])), (tp, .inr (3, [.ref td, .int (nI 0), .int (nI 0), .int (nI 0), .int (nI 0), .int (nI 0)])), (out, .inl (K 1, 1, .inr (.inl (fun _ => 0))))] L T H := by rw [hH]; exact hZ
  obtain ⟨locs, hlc⟩ : ∃ q : List Loc, q = [] := ⟨_, rfl⟩
  have hS : va_S A s.heap H locs := by rw [hH, hlc]; exact hS
  suffices hW : W p l e ROOM_L_open s m [.ref x, .int k, .ref out].toArray below meth c H locs 0 0 (vx_MQ below (va_Qi (fun (r : Int32) (u : zU) => ∃ (go : Nat → Int64), (r = zka_open k ∧ go 0 = 0) ∧ u = ([(x, .inr (13, [.ref tp, .ref wi, .ref cl, .ref sv])), (tp, .inr (3, [.ref td, .int (nI 0), .int (nI 0), .int (nI 0), .int (nI 0), .int (nI 0)])), (out, .inl (K 1, 1, .inr (.inl go)))], L, T)) (zB D vwCl (zT K) A X) A) (zXC D vwCl (zT K) A X (fun (_ : String) (_ : zU) => False)) [.ref x, .int k, .ref out].toArray s 1 6 A) (F0 m 0 ls []) by rw [hH, hlc] at hW; exact hW
  clear hH hlc
  refine lv_aload_n hx hb dL_open_0 rfl (lv_at hl 2 rfl) ?_
  refine lv_iconst (v := nI 0) hx hb dL_open_1 (by decide +kernel) ?_
  refine lv_aload_n hx hb dL_open_2 rfl (lv_at hl 0 rfl) ?_
  refine lv_iload_n hx hb dL_open_3 rfl (lv_at hl 1 rfl) ?_
  have rv1 : ∃ cell : Cell, H[x]? = some cell ∧ cell.vm.isStatics = false ∧ s.vm.findClass RX12 = some cell.cls := z_recvY hK hZ 0 rfl rfl
  have hZc := zP.into (Y1 := [(out, .inl (K 1, 1, .inr (.inl (fun _ => 0))))]) (Y2 := [(x, .inr (13, [.ref tp, .ref wi, .ref cl, .ref sv])), (tp, .inr (3, [.ref td, .int (nI 0), .int (nI 0), .int (nI 0), .int (nI 0), .int (nI 0)]))]) (zP.pick [2, 0, 1] [(out, .inl (K 1, 1, .inr (.inl (fun _ => 0)))), (x, .inr (13, [.ref tp, .ref wi, .ref cl, .ref sv])), (tp, .inr (3, [.ref td, .int (nI 0), .int (nI 0), .int (nI 0), .int (nI 0), .int (nI 0)]))] hZ (by decide) rfl)
  refine z_goXI (vx_runV (As := [.int k]) (rest := [.int (nI 0), .ref out]) ⟨hx, hb, hml, hown, hts⟩ ((c_X12_open E l hfl D K (X ++ [(out, .inl (K 1, 1, .inr (.inl (fun _ => 0))))]) L T h_cl k_cl hSt) H.size) (cwV 1 hts (zg_V zw_1062 zw_916 zw_1063 zw_813 zw_915) rfl rfl rfl (by decide +kernel) ⟨Nat.le_of_ble_eq_true rfl, Nat.le_of_ble_eq_true rfl⟩) (z_preV hK hZc hS hA hE rv1) rfl rfl hl.1 rfl (lv_room (Nat.le_of_ble_eq_true rfl)) dL_open_4 ⟨Nat.le_of_ble_eq_true rfl, Nat.le_of_ble_eq_true rfl⟩) hZc hS hA (fun E9 ce9 q9 Y1 L1 T1 H locs hp hZ hS hc9 hv9 hcl9 => ?_) (fun x2 Y1 L1 T1 H locs hp hZ hS => ?_)
  · obtain ⟨hu, hp⟩ := hp
    cases hu
    have hZ : zP D vwCl A X [(out, .inl (K 1, 1, .inr (.inl (fun _ => 0)))), (x, .inr (13, [.ref tp, .ref wi, .ref cl, .ref sv])), (tp, .inr (3, [.ref td, .int (nI 0), .int (nI 0), .int (nI 0), .int (nI 0), .int (nI 0)]))] L T H := zP.back hZ
    rcases hp with ⟨rfl, hk9⟩ | ⟨rfl, hk9⟩
    · refine vx_catch (name := "java/lang/IllegalArgumentException") hown [] { startPc := 0, endPc := 9, handlerPc := 12, catchType := 19 } [{ startPc := 0, endPc := 9, handlerPc := 15, catchType := 13 }] (by rw [htab]; rfl) (fun _ h => absurd h List.not_mem_nil) (by decide) (by decide) (hts _ zw_1097) (va_Nw.use rfl (zcst hE (List.mem_of_getElem? (i := 1) rfl))) hc9 hv9 hcl9 ?_
      refine lv_astore_n (lv' := [(3, .ref q9), (0, .ref x), (1, .int k), (2, .ref out)]) hx hb dL_open_12 rfl hl (by decide) rfl (fun ls hl => ?_)
      refine lv_iconst (v := nI 1) hx hb dL_open_13 (by decide +kernel) ?_
      have hZ : zP D vwCl A X [(x, .inr (13, [.ref tp, .ref wi, .ref cl, .ref sv])), (tp, .inr (3, [.ref td, .int (nI 0), .int (nI 0), .int (nI 0), .int (nI 0), .int (nI 0)])), (out, .inl (K 1, 1, .inr (.inl (fun _ => 0))))] L T H := zP.pick [1, 2, 0] [(x, .inr (13, [.ref tp, .ref wi, .ref cl, .ref sv])), (tp, .inr (3, [.ref td, .int (nI 0), .int (nI 0), .int (nI 0), .int (nI 0), .int (nI 0)])), (out, .inl (K 1, 1, .inr (.inl (fun _ => 0))))] hZ (by decide) rfl
      refine vx_ret ?_
      exact z_iret hx hb hr rfl hlocks hK hZ hS ⟨(fun _ => 0), ⟨hk9.symm, rfl⟩, rfl⟩ (Nat.le_of_ble_eq_true rfl) (Nat.le_of_ble_eq_true rfl) dL_open_14
    · refine vx_catch (name := "java/lang/IllegalStateException") hown [{ startPc := 0, endPc := 9, handlerPc := 12, catchType := 19 }] { startPc := 0, endPc := 9, handlerPc := 15, catchType := 13 } [] (by rw [htab]; rfl) (List.forall_mem_cons.mpr ⟨Or.inr ⟨(by decide), "java/lang/IllegalArgumentException", hts _ zw_1097, znc hE (x := ("java/lang/IllegalStateException", "java/lang/IllegalArgumentException")) (List.mem_of_getElem? (i := 1) rfl)⟩, (fun _ h => absurd h List.not_mem_nil)⟩) (by decide) (by decide) (hts _ zw_1096) (va_Nw.use rfl (zcst hE (List.mem_of_getElem? (i := 0) rfl))) hc9 hv9 hcl9 ?_
      refine lv_astore_n (lv' := [(3, .ref q9), (0, .ref x), (1, .int k), (2, .ref out)]) hx hb dL_open_15 rfl hl (by decide) rfl (fun ls hl => ?_)
      refine lv_iconst (v := nI 2) hx hb dL_open_16 (by decide +kernel) ?_
      have hZ : zP D vwCl A X [(x, .inr (13, [.ref tp, .ref wi, .ref cl, .ref sv])), (tp, .inr (3, [.ref td, .int (nI 0), .int (nI 0), .int (nI 0), .int (nI 0), .int (nI 0)])), (out, .inl (K 1, 1, .inr (.inl (fun _ => 0))))] L T H := zP.pick [1, 2, 0] [(x, .inr (13, [.ref tp, .ref wi, .ref cl, .ref sv])), (tp, .inr (3, [.ref td, .int (nI 0), .int (nI 0), .int (nI 0), .int (nI 0), .int (nI 0)])), (out, .inl (K 1, 1, .inr (.inl (fun _ => 0))))] hZ (by decide) rfl
      refine vx_ret ?_
      exact z_iret hx hb hr rfl hlocks hK hZ hS ⟨(fun _ => 0), ⟨hk9.symm, rfl⟩, rfl⟩ (Nat.le_of_ble_eq_true rfl) (Nat.le_of_ble_eq_true rfl) dL_open_17
  obtain ⟨hnever, hp⟩ := hp
  cases hp
  exact hnever.elim
abbrev ROOM_L_exec : Room := { frames := 7, cells := 1, slots := 6, locals := 122 }
set_option maxHeartbeats 4000000 in
set_option maxRecDepth 100000 in
/-- the law's exec -/
theorem c_L_exec (E : zEn) (l : Launch) (hfl : l.stackTraces = false) (D : va_G) (K : Nat → ClassId) (X : va_W) (L : List Nat) (T : Nat → va_E → Prop) {x : Nat} {k : Int32} {cl : Nat} {tp wi sv : Nat} {exC owC iwC stC chC : Nat} {ghC : Nat → Option Nat} (h_cl : cl ∈ L) (k_cl : T cl = zOp 6 (zCl exC owC iwC stC chC)) (hSt : zSt E) (hgC : zAll 16 ghC L T (zOp 5 zCh)) : zXi E l D vwCl (zT K) yL_exec (zwsH yL_exec cL_exec 3 (some .int) [(0, 5, 8, 25), (0, 5, 11, 19), (0, 5, 14, 13)]) ROOM_L_exec 1 6 [.ref x, .int k] X [(x, .inr (13, [.ref tp, .ref wi, .ref cl, .ref sv])), (chC, .inl (K 5, 16, .inr (.inr (.inr (.inr ghC)))))] L T (fun (r : Int32) (u : zU) => (r = nI 1) ∧ u = ([(x, .inr (13, [.ref tp, .ref wi, .ref cl, .ref sv])), (chC, .inl (K 5, 16, .inr (.inr (.inr (.inr ghC)))))], L, T)) (fun (_ : String) (_ : zU) => False) := by
  refine z_ofWH (E := E) (Qc := fun A => va_Qi (fun (r : Int32) (u : zU) => (r = nI 1) ∧ u = ([(x, .inr (13, [.ref tp, .ref wi, .ref cl, .ref sv])), (chC, .inl (K 5, 16, .inr (.inr (.inr (.inr ghC)))))], L, T)) (zB D vwCl (zT K) A X) A) (XC := fun A => zXC D vwCl (zT K) A X (fun (_ : String) (_ : zU) => False)) (cc := cL_exec) (maxL := 3) (ret := (some .int)) (hh := [(0, 5, 8, 25), (0, 5, 11, 19), (0, 5, 14, 13)]) (by decide +kernel) rfl (Nat.le_of_ble_eq_true rfl) ?_
  intro p e s m below meth c A ls hx hb hml hr hts hown hlocks htab hA hK hZ hS hE hl
  have hown : s.vm.findClass RL = some m.cls := hown
  have hts : ∀ w ∈ WR, w.before [.ref x, .int k].toArray s = true := fun w h => hts w (List.mem_cons_of_mem _ h)
  have hl : lv_has ls 3 [(0, .ref x), (1, .int k)] := hl
  obtain ⟨H, hH⟩ : ∃ H, H = s.heap := ⟨_, rfl⟩
  have hZ : zP D vwCl A X [(x, .inr (13, [.ref tp, .ref wi, .ref cl, .ref sv])), (chC, .inl (K 5, 16, .inr (.inr (.inr (.inr ghC)))))] L T H := by rw [hH]; exact hZ
  obtain ⟨locs, hlc⟩ : ∃ q : List Loc, q = [] := ⟨_, rfl⟩
  have hS : va_S A s.heap H locs := by rw [hH, hlc]; exact hS
  suffices hW : W p l e ROOM_L_exec s m [.ref x, .int k].toArray below meth c H locs 0 0 (vx_MQ below (va_Qi (fun (r : Int32) (u : zU) => (r = nI 1) ∧ u = ([(x, .inr (13, [.ref tp, .ref wi, .ref cl, .ref sv])), (chC, .inl (K 5, 16, .inr (.inr (.inr (.inr ghC)))))], L, T)) (zB D vwCl (zT K) A X) A) (zXC D vwCl (zT K) A X (fun (_ : String) (_ : zU) => False)) [.ref x, .int k].toArray s 1 6 A) (F0 m 0 ls []) by rw [hH, hlc] at hW; exact hW
  clear hH hlc
  refine lv_aload_n hx hb dL_exec_0 rfl (lv_at hl 0 rfl) ?_
  refine lv_iload_n hx hb dL_exec_1 rfl (lv_at hl 1 rfl) ?_
  have rv1 : ∃ cell : Cell, H[x]? = some cell ∧ cell.vm.isStatics = false ∧ s.vm.findClass RX12 = some cell.cls := z_recvY hK hZ 0 rfl rfl
  have hZc := zP.into (Y1 := []) (Y2 := [(x, .inr (13, [.ref tp, .ref wi, .ref cl, .ref sv])), (chC, .inl (K 5, 16, .inr (.inr (.inr (.inr ghC)))))]) hZ
  refine z_goX (vx_runV (As := [.int k]) (rest := []) ⟨hx, hb, hml, hown, hts⟩ ((c_X12_exec E l hfl D K (X ++ []) L T h_cl k_cl hSt hgC) H.size) (cwV 1 hts (zg_V zw_1066 zw_926 zw_1067 zw_813 zw_925) rfl rfl rfl (by decide +kernel) ⟨Nat.le_of_ble_eq_true rfl, Nat.le_of_ble_eq_true rfl⟩) (z_preV hK hZc hS hA hE rv1) rfl rfl hl.1 rfl (lv_room (Nat.le_of_ble_eq_true rfl)) dL_exec_2 ⟨Nat.le_of_ble_eq_true rfl, Nat.le_of_ble_eq_true rfl⟩) hZc hS hA (fun E9 ce9 q9 Y1 L1 T1 H locs hp hZ hS hc9 hv9 hcl9 => ?_) (fun  Y1 L1 T1 H locs hp hZ hS => ?_)
  · obtain ⟨hu, hp⟩ := hp
    cases hu
    have hZ : zP D vwCl A X [(x, .inr (13, [.ref tp, .ref wi, .ref cl, .ref sv])), (chC, .inl (K 5, 16, .inr (.inr (.inr (.inr ghC)))))] L T H := zP.back hZ
    rcases hp with rfl
    · refine vx_catch (name := "java/util/NoSuchElementException") hown [] { startPc := 0, endPc := 5, handlerPc := 8, catchType := 25 } [{ startPc := 0, endPc := 5, handlerPc := 11, catchType := 19 }, { startPc := 0, endPc := 5, handlerPc := 14, catchType := 13 }] (by rw [htab]; rfl) (fun _ h => absurd h List.not_mem_nil) (by decide) (by decide) (hts _ zw_1098) (va_Nw.use rfl (zcst hE (List.mem_of_getElem? (i := 2) rfl))) hc9 hv9 hcl9 ?_
      refine lv_astore_n (lv' := [(2, .ref q9), (0, .ref x), (1, .int k)]) hx hb dL_exec_8 rfl hl (by decide) rfl (fun ls hl => ?_)
      refine lv_iconst (v := nI 1) hx hb dL_exec_9 (by decide +kernel) ?_
      refine vx_ret ?_
      exact z_iret hx hb hr rfl hlocks hK hZ hS ⟨rfl, rfl⟩ (Nat.le_of_ble_eq_true rfl) (Nat.le_of_ble_eq_true rfl) dL_exec_10
  obtain ⟨hnever, hp⟩ := hp
  cases hp
  exact hnever.elim
abbrev ROOM_L_write : Room := { frames := 7, cells := 1, slots := 6, locals := 123 }
set_option maxHeartbeats 4000000 in
set_option maxRecDepth 100000 in
/-- the law's write -/
theorem c_L_write (E : zEn) (l : Launch) (hfl : l.stackTraces = false) (D : va_G) (K : Nat → ClassId) (X : va_W) (L : List Nat) (T : Nat → va_E → Prop) {x : Nat} {k : Int32} {far : Int32} {out : Nat} {cl : Nat} {sv : Nat} {tp wi : Nat} {exC owC iwC stC chC : Nat} {ghC : Nat → Option Nat} {exS owS iwS stS chS so hk po : Nat} {ghS : Nat → Option Nat} (h_cl : cl ∈ L) (k_cl : T cl = zOp 6 (zCl exC owC iwC stC chC)) (h_sv : sv ∈ L) (k_sv : T sv = zOp 10 (zSv exS owS iwS stS chS so hk po)) (hSt : zSt E) (hgC : zAll 16 ghC L T (zOp 5 zCh)) (hgS : zAll 16 ghS L T (zOp 5 zCh)) : zXi E l D vwCl (zT K) yL_write (zwsH yL_write cL_write 5 (some .int) [(0, 10, 13, 25), (0, 10, 17, 13)]) ROOM_L_write 1 6 [.ref x, .int k, .int far, .ref out] X [(x, .inr (13, [.ref tp, .ref wi, .ref cl, .ref sv])), (chC, .inl (K 5, 16, .inr (.inr (.inr (.inr ghC))))), (chS, .inl (K 5, 16, .inr (.inr (.inr (.inr ghS))))), (out, .inl (K 1, 1, .inr (.inl (fun _ => 0))))] L T (fun (r : Int32) (u : zU) => ∃ (go : Nat → Int64), (r = nI 1 ∧ go 0 = 0) ∧ u = ([(x, .inr (13, [.ref tp, .ref wi, .ref cl, .ref sv])), (chC, .inl (K 5, 16, .inr (.inr (.inr (.inr ghC))))), (chS, .inl (K 5, 16, .inr (.inr (.inr (.inr ghS))))), (out, .inl (K 1, 1, .inr (.inl go)))], L, T)) (fun (_ : String) (_ : zU) => False) := by
  refine z_ofWH (E := E) (Qc := fun A => va_Qi (fun (r : Int32) (u : zU) => ∃ (go : Nat → Int64), (r = nI 1 ∧ go 0 = 0) ∧ u = ([(x, .inr (13, [.ref tp, .ref wi, .ref cl, .ref sv])), (chC, .inl (K 5, 16, .inr (.inr (.inr (.inr ghC))))), (chS, .inl (K 5, 16, .inr (.inr (.inr (.inr ghS))))), (out, .inl (K 1, 1, .inr (.inl go)))], L, T)) (zB D vwCl (zT K) A X) A) (XC := fun A => zXC D vwCl (zT K) A X (fun (_ : String) (_ : zU) => False)) (cc := cL_write) (maxL := 5) (ret := (some .int)) (hh := [(0, 10, 13, 25), (0, 10, 17, 13)]) (by decide +kernel) rfl (Nat.le_of_ble_eq_true rfl) ?_
  intro p e s m below meth c A ls hx hb hml hr hts hown hlocks htab hA hK hZ hS hE hl
  have hown : s.vm.findClass RL = some m.cls := hown
  have hts : ∀ w ∈ WR, w.before [.ref x, .int k, .int far, .ref out].toArray s = true := fun w h => hts w (List.mem_cons_of_mem _ h)
  have hl : lv_has ls 5 [(0, .ref x), (1, .int k), (2, .int far), (3, .ref out)] := hl
  obtain ⟨H, hH⟩ : ∃ H, H = s.heap := ⟨_, rfl⟩
  have hZ : zP D vwCl A X [(x, .inr (13, [.ref tp, .ref wi, .ref cl, .ref sv])), (chC, .inl (K 5, 16, .inr (.inr (.inr (.inr ghC))))), (chS, .inl (K 5, 16, .inr (.inr (.inr (.inr ghS))))), (out, .inl (K 1, 1, .inr (.inl (fun _ => 0))))] L T H := by rw [hH]; exact hZ
  obtain ⟨locs, hlc⟩ : ∃ q : List Loc, q = [] := ⟨_, rfl⟩
  have hS : va_S A s.heap H locs := by rw [hH, hlc]; exact hS
  suffices hW : W p l e ROOM_L_write s m [.ref x, .int k, .int far, .ref out].toArray below meth c H locs 0 0 (vx_MQ below (va_Qi (fun (r : Int32) (u : zU) => ∃ (go : Nat → Int64), (r = nI 1 ∧ go 0 = 0) ∧ u = ([(x, .inr (13, [.ref tp, .ref wi, .ref cl, .ref sv])), (chC, .inl (K 5, 16, .inr (.inr (.inr (.inr ghC))))), (chS, .inl (K 5, 16, .inr (.inr (.inr (.inr ghS))))), (out, .inl (K 1, 1, .inr (.inl go)))], L, T)) (zB D vwCl (zT K) A X) A) (zXC D vwCl (zT K) A X (fun (_ : String) (_ : zU) => False)) [.ref x, .int k, .int far, .ref out].toArray s 1 6 A) (F0 m 0 ls []) by rw [hH, hlc] at hW; exact hW
  clear hH hlc
  refine lv_aload_n hx hb dL_write_0 rfl (lv_at hl 3 rfl) ?_
  refine lv_iconst (v := nI 0) hx hb dL_write_1 (by decide +kernel) ?_
  refine lv_aload_n hx hb dL_write_2 rfl (lv_at hl 0 rfl) ?_
  refine lv_iload_n hx hb dL_write_3 rfl (lv_at hl 1 rfl) ?_
  refine lv_iload_n hx hb dL_write_4 rfl (lv_at hl 2 rfl) ?_
  have rv1 : ∃ cell : Cell, H[x]? = some cell ∧ cell.vm.isStatics = false ∧ s.vm.findClass RX12 = some cell.cls := z_recvY hK hZ 0 rfl rfl
  have hZc := zP.into (Y1 := [(out, .inl (K 1, 1, .inr (.inl (fun _ => 0))))]) (Y2 := [(x, .inr (13, [.ref tp, .ref wi, .ref cl, .ref sv])), (chC, .inl (K 5, 16, .inr (.inr (.inr (.inr ghC))))), (chS, .inl (K 5, 16, .inr (.inr (.inr (.inr ghS)))))]) (zP.pick [3, 0, 1, 2] [(out, .inl (K 1, 1, .inr (.inl (fun _ => 0)))), (x, .inr (13, [.ref tp, .ref wi, .ref cl, .ref sv])), (chC, .inl (K 5, 16, .inr (.inr (.inr (.inr ghC))))), (chS, .inl (K 5, 16, .inr (.inr (.inr (.inr ghS)))))] hZ (by decide) rfl)
  refine z_goXI (vx_runV (As := [.int k, .int far]) (rest := [.int (nI 0), .ref out]) ⟨hx, hb, hml, hown, hts⟩ ((c_X12_write E l hfl D K (X ++ [(out, .inl (K 1, 1, .inr (.inl (fun _ => 0))))]) L T h_cl k_cl h_sv k_sv hSt hgC hgS) H.size) (cwV 2 hts (zg_V zw_1070 zw_933 zw_1071 zw_813 zw_932) rfl rfl rfl (by decide +kernel) ⟨Nat.le_of_ble_eq_true rfl, Nat.le_of_ble_eq_true rfl⟩) (z_preV hK hZc hS hA hE rv1) rfl rfl hl.1 rfl (lv_room (Nat.le_of_ble_eq_true rfl)) dL_write_5 ⟨Nat.le_of_ble_eq_true rfl, Nat.le_of_ble_eq_true rfl⟩) hZc hS hA (fun E9 ce9 q9 Y1 L1 T1 H locs hp hZ hS hc9 hv9 hcl9 => ?_) (fun x2 Y1 L1 T1 H locs hp hZ hS => ?_)
  · obtain ⟨hu, hp⟩ := hp
    cases hu
    have hZ : zP D vwCl A X [(out, .inl (K 1, 1, .inr (.inl (fun _ => 0)))), (x, .inr (13, [.ref tp, .ref wi, .ref cl, .ref sv])), (chC, .inl (K 5, 16, .inr (.inr (.inr (.inr ghC))))), (chS, .inl (K 5, 16, .inr (.inr (.inr (.inr ghS)))))] L T H := zP.back hZ
    rcases hp with rfl
    · refine vx_catch (name := "java/util/NoSuchElementException") hown [] { startPc := 0, endPc := 10, handlerPc := 13, catchType := 25 } [{ startPc := 0, endPc := 10, handlerPc := 17, catchType := 13 }] (by rw [htab]; rfl) (fun _ h => absurd h List.not_mem_nil) (by decide) (by decide) (hts _ zw_1098) (va_Nw.use rfl (zcst hE (List.mem_of_getElem? (i := 2) rfl))) hc9 hv9 hcl9 ?_
      refine lv_astore (lv' := [(4, .ref q9), (0, .ref x), (1, .int k), (2, .int far), (3, .ref out)]) hx hb dL_write_13 hl (by decide) rfl (fun ls hl => ?_)
      refine lv_iconst (v := nI 1) hx hb dL_write_15 (by decide +kernel) ?_
      have hZ : zP D vwCl A X [(x, .inr (13, [.ref tp, .ref wi, .ref cl, .ref sv])), (chC, .inl (K 5, 16, .inr (.inr (.inr (.inr ghC))))), (chS, .inl (K 5, 16, .inr (.inr (.inr (.inr ghS))))), (out, .inl (K 1, 1, .inr (.inl (fun _ => 0))))] L T H := zP.pick [1, 2, 3, 0] [(x, .inr (13, [.ref tp, .ref wi, .ref cl, .ref sv])), (chC, .inl (K 5, 16, .inr (.inr (.inr (.inr ghC))))), (chS, .inl (K 5, 16, .inr (.inr (.inr (.inr ghS))))), (out, .inl (K 1, 1, .inr (.inl (fun _ => 0))))] hZ (by decide) rfl
      refine vx_ret ?_
      exact z_iret hx hb hr rfl hlocks hK hZ hS ⟨(fun _ => 0), ⟨rfl, rfl⟩, rfl⟩ (Nat.le_of_ble_eq_true rfl) (Nat.le_of_ble_eq_true rfl) dL_write_16
  obtain ⟨hnever, hp⟩ := hp
  cases hp
  exact hnever.elim
abbrev ROOM_L_read : Room := { frames := 7, cells := 1, slots := 6, locals := 129 }
set_option maxHeartbeats 4000000 in
set_option maxRecDepth 100000 in
/-- the law's read -/
theorem c_L_read (E : zEn) (l : Launch) (hfl : l.stackTraces = false) (D : va_G) (K : Nat → ClassId) (X : va_W) (L : List Nat) (T : Nat → va_E → Prop) {x : Nat} {k : Int32} {kd : Int32} {n : Int32} {out : Nat} {cl : Nat} {sv : Nat} {tp wi : Nat} {exC owC iwC stC chC : Nat} {ghC : Nat → Option Nat} {exS owS iwS stS chS so hk po : Nat} {ghS : Nat → Option Nat} (h_cl : cl ∈ L) (k_cl : T cl = zOp 6 (zCl exC owC iwC stC chC)) (h_sv : sv ∈ L) (k_sv : T sv = zOp 10 (zSv exS owS iwS stS chS so hk po)) (hSt : zSt E) (hgC : zAll 16 ghC L T (zOp 5 zCh)) (hgS : zAll 16 ghS L T (zOp 5 zCh)) : zXi E l D vwCl (zT K) yL_read (zwsH yL_read cL_read 6 (some .int) [(0, 11, 14, 25), (0, 11, 18, 19)]) ROOM_L_read 1 6 [.ref x, .int k, .int kd, .int n, .ref out] X [(x, .inr (13, [.ref tp, .ref wi, .ref cl, .ref sv])), (chC, .inl (K 5, 16, .inr (.inr (.inr (.inr ghC))))), (chS, .inl (K 5, 16, .inr (.inr (.inr (.inr ghS))))), (out, .inl (K 1, 1, .inr (.inl (fun _ => 0))))] L T (fun (r : Int32) (u : zU) => ∃ (go : Nat → Int64), (r = nI 1 ∧ go 0 = 0) ∧ u = ([(x, .inr (13, [.ref tp, .ref wi, .ref cl, .ref sv])), (chC, .inl (K 5, 16, .inr (.inr (.inr (.inr ghC))))), (chS, .inl (K 5, 16, .inr (.inr (.inr (.inr ghS))))), (out, .inl (K 1, 1, .inr (.inl go)))], L, T)) (fun (_ : String) (_ : zU) => False) := by
  refine z_ofWH (E := E) (Qc := fun A => va_Qi (fun (r : Int32) (u : zU) => ∃ (go : Nat → Int64), (r = nI 1 ∧ go 0 = 0) ∧ u = ([(x, .inr (13, [.ref tp, .ref wi, .ref cl, .ref sv])), (chC, .inl (K 5, 16, .inr (.inr (.inr (.inr ghC))))), (chS, .inl (K 5, 16, .inr (.inr (.inr (.inr ghS))))), (out, .inl (K 1, 1, .inr (.inl go)))], L, T)) (zB D vwCl (zT K) A X) A) (XC := fun A => zXC D vwCl (zT K) A X (fun (_ : String) (_ : zU) => False)) (cc := cL_read) (maxL := 6) (ret := (some .int)) (hh := [(0, 11, 14, 25), (0, 11, 18, 19)]) (by decide +kernel) rfl (Nat.le_of_ble_eq_true rfl) ?_
  intro p e s m below meth c A ls hx hb hml hr hts hown hlocks htab hA hK hZ hS hE hl
  have hown : s.vm.findClass RL = some m.cls := hown
  have hts : ∀ w ∈ WR, w.before [.ref x, .int k, .int kd, .int n, .ref out].toArray s = true := fun w h => hts w (List.mem_cons_of_mem _ h)
  have hl : lv_has ls 6 [(0, .ref x), (1, .int k), (2, .int kd), (3, .int n), (4, .ref out)] := hl
  obtain ⟨H, hH⟩ : ∃ H, H = s.heap := ⟨_, rfl⟩
  have hZ : zP D vwCl A X [(x, .inr (13, [.ref tp, .ref wi, .ref cl, .ref sv])), (chC, .inl (K 5, 16, .inr (.inr (.inr (.inr ghC))))), (chS, .inl (K 5, 16, .inr (.inr (.inr (.inr ghS))))), (out, .inl (K 1, 1, .inr (.inl (fun _ => 0))))] L T H := by rw [hH]; exact hZ
  obtain ⟨locs, hlc⟩ : ∃ q : List Loc, q = [] := ⟨_, rfl⟩
  have hS : va_S A s.heap H locs := by rw [hH, hlc]; exact hS
  suffices hW : W p l e ROOM_L_read s m [.ref x, .int k, .int kd, .int n, .ref out].toArray below meth c H locs 0 0 (vx_MQ below (va_Qi (fun (r : Int32) (u : zU) => ∃ (go : Nat → Int64), (r = nI 1 ∧ go 0 = 0) ∧ u = ([(x, .inr (13, [.ref tp, .ref wi, .ref cl, .ref sv])), (chC, .inl (K 5, 16, .inr (.inr (.inr (.inr ghC))))), (chS, .inl (K 5, 16, .inr (.inr (.inr (.inr ghS))))), (out, .inl (K 1, 1, .inr (.inl go)))], L, T)) (zB D vwCl (zT K) A X) A) (zXC D vwCl (zT K) A X (fun (_ : String) (_ : zU) => False)) [.ref x, .int k, .int kd, .int n, .ref out].toArray s 1 6 A) (F0 m 0 ls []) by rw [hH, hlc] at hW; exact hW
  clear hH hlc
  refine lv_aload hx hb dL_read_0 (lv_at hl 4 rfl) ?_
  refine lv_iconst (v := nI 0) hx hb dL_read_2 (by decide +kernel) ?_
  refine lv_aload_n hx hb dL_read_3 rfl (lv_at hl 0 rfl) ?_
  refine lv_iload_n hx hb dL_read_4 rfl (lv_at hl 1 rfl) ?_
  refine lv_iload_n hx hb dL_read_5 rfl (lv_at hl 2 rfl) ?_
  refine lv_iload_n hx hb dL_read_6 rfl (lv_at hl 3 rfl) ?_
  have rv1 : ∃ cell : Cell, H[x]? = some cell ∧ cell.vm.isStatics = false ∧ s.vm.findClass RX12 = some cell.cls := z_recvY hK hZ 0 rfl rfl
  have hZc := zP.into (Y1 := [(out, .inl (K 1, 1, .inr (.inl (fun _ => 0))))]) (Y2 := [(x, .inr (13, [.ref tp, .ref wi, .ref cl, .ref sv])), (chC, .inl (K 5, 16, .inr (.inr (.inr (.inr ghC))))), (chS, .inl (K 5, 16, .inr (.inr (.inr (.inr ghS)))))]) (zP.pick [3, 0, 1, 2] [(out, .inl (K 1, 1, .inr (.inl (fun _ => 0)))), (x, .inr (13, [.ref tp, .ref wi, .ref cl, .ref sv])), (chC, .inl (K 5, 16, .inr (.inr (.inr (.inr ghC))))), (chS, .inl (K 5, 16, .inr (.inr (.inr (.inr ghS)))))] hZ (by decide) rfl)
  refine z_goXL (vx_runV (As := [.int k, .int kd, .int n]) (rest := [.int (nI 0), .ref out]) ⟨hx, hb, hml, hown, hts⟩ ((c_X12_read E l hfl D K (X ++ [(out, .inl (K 1, 1, .inr (.inl (fun _ => 0))))]) L T h_cl k_cl h_sv k_sv hSt hgC hgS) H.size) (cwV 3 hts (zg_V zw_1074 zw_940 zw_1075 zw_813 zw_939) rfl rfl rfl (by decide +kernel) ⟨Nat.le_of_ble_eq_true rfl, Nat.le_of_ble_eq_true rfl⟩) (z_preV hK hZc hS hA hE rv1) rfl rfl hl.1 rfl (lv_room (Nat.le_of_ble_eq_true rfl)) dL_read_7 ⟨Nat.le_of_ble_eq_true rfl, Nat.le_of_ble_eq_true rfl⟩) hZc hS hA (fun E9 ce9 q9 Y1 L1 T1 H locs hp hZ hS hc9 hv9 hcl9 => ?_) (fun x2 Y1 L1 T1 H locs hp hZ hS => ?_)
  · obtain ⟨hu, hp⟩ := hp
    cases hu
    have hZ : zP D vwCl A X [(out, .inl (K 1, 1, .inr (.inl (fun _ => 0)))), (x, .inr (13, [.ref tp, .ref wi, .ref cl, .ref sv])), (chC, .inl (K 5, 16, .inr (.inr (.inr (.inr ghC))))), (chS, .inl (K 5, 16, .inr (.inr (.inr (.inr ghS)))))] L T H := zP.back hZ
    rcases hp with rfl
    · refine vx_catch (name := "java/util/NoSuchElementException") hown [] { startPc := 0, endPc := 11, handlerPc := 14, catchType := 25 } [{ startPc := 0, endPc := 11, handlerPc := 18, catchType := 19 }] (by rw [htab]; rfl) (fun _ h => absurd h List.not_mem_nil) (by decide) (by decide) (hts _ zw_1098) (va_Nw.use rfl (zcst hE (List.mem_of_getElem? (i := 2) rfl))) hc9 hv9 hcl9 ?_
      refine lv_astore (lv' := [(5, .ref q9), (0, .ref x), (1, .int k), (2, .int kd), (3, .int n), (4, .ref out)]) hx hb dL_read_14 hl (by decide) rfl (fun ls hl => ?_)
      refine lv_iconst (v := nI 1) hx hb dL_read_16 (by decide +kernel) ?_
      have hZ : zP D vwCl A X [(x, .inr (13, [.ref tp, .ref wi, .ref cl, .ref sv])), (chC, .inl (K 5, 16, .inr (.inr (.inr (.inr ghC))))), (chS, .inl (K 5, 16, .inr (.inr (.inr (.inr ghS))))), (out, .inl (K 1, 1, .inr (.inl (fun _ => 0))))] L T H := zP.pick [1, 2, 3, 0] [(x, .inr (13, [.ref tp, .ref wi, .ref cl, .ref sv])), (chC, .inl (K 5, 16, .inr (.inr (.inr (.inr ghC))))), (chS, .inl (K 5, 16, .inr (.inr (.inr (.inr ghS))))), (out, .inl (K 1, 1, .inr (.inl (fun _ => 0))))] hZ (by decide) rfl
      refine vx_ret ?_
      exact z_iret hx hb hr rfl hlocks hK hZ hS ⟨(fun _ => 0), ⟨rfl, rfl⟩, rfl⟩ (Nat.le_of_ble_eq_true rfl) (Nat.le_of_ble_eq_true rfl) dL_read_17
  obtain ⟨hnever, hp⟩ := hp
  cases hp
  exact hnever.elim
abbrev ROOM_L_finish : Room := { frames := 7, cells := 1, slots := 6, locals := 123 }
set_option maxHeartbeats 4000000 in
set_option maxRecDepth 100000 in
/-- the law's finish -/
theorem c_L_finish (E : zEn) (l : Launch) (hfl : l.stackTraces = false) (D : va_G) (K : Nat → ClassId) (X : va_W) (L : List Nat) (T : Nat → va_E → Prop) {x : Nat} {k : Int32} {how : Int32} {cl : Nat} {sv : Nat} {tp wi : Nat} {exC owC iwC stC chC : Nat} {ghC : Nat → Option Nat} {exS owS iwS stS chS so hk po : Nat} {ghS : Nat → Option Nat} (h_cl : cl ∈ L) (k_cl : T cl = zOp 6 (zCl exC owC iwC stC chC)) (h_sv : sv ∈ L) (k_sv : T sv = zOp 10 (zSv exS owS iwS stS chS so hk po)) (hSt : zSt E) (hgC : zAll 16 ghC L T (zOp 5 zCh)) (hgS : zAll 16 ghS L T (zOp 5 zCh)) : zXi E l D vwCl (zT K) yL_finish (zwsH yL_finish cL_finish 4 (some .int) [(0, 6, 9, 25), (0, 6, 12, 13)]) ROOM_L_finish 1 6 [.ref x, .int k, .int how] X [(x, .inr (13, [.ref tp, .ref wi, .ref cl, .ref sv])), (chC, .inl (K 5, 16, .inr (.inr (.inr (.inr ghC))))), (chS, .inl (K 5, 16, .inr (.inr (.inr (.inr ghS)))))] L T (fun (r : Int32) (u : zU) => (r = nI 1) ∧ u = ([(x, .inr (13, [.ref tp, .ref wi, .ref cl, .ref sv])), (chC, .inl (K 5, 16, .inr (.inr (.inr (.inr ghC))))), (chS, .inl (K 5, 16, .inr (.inr (.inr (.inr ghS)))))], L, T)) (fun (_ : String) (_ : zU) => False) := by
  refine z_ofWH (E := E) (Qc := fun A => va_Qi (fun (r : Int32) (u : zU) => (r = nI 1) ∧ u = ([(x, .inr (13, [.ref tp, .ref wi, .ref cl, .ref sv])), (chC, .inl (K 5, 16, .inr (.inr (.inr (.inr ghC))))), (chS, .inl (K 5, 16, .inr (.inr (.inr (.inr ghS)))))], L, T)) (zB D vwCl (zT K) A X) A) (XC := fun A => zXC D vwCl (zT K) A X (fun (_ : String) (_ : zU) => False)) (cc := cL_finish) (maxL := 4) (ret := (some .int)) (hh := [(0, 6, 9, 25), (0, 6, 12, 13)]) (by decide +kernel) rfl (Nat.le_of_ble_eq_true rfl) ?_
  intro p e s m below meth c A ls hx hb hml hr hts hown hlocks htab hA hK hZ hS hE hl
  have hown : s.vm.findClass RL = some m.cls := hown
  have hts : ∀ w ∈ WR, w.before [.ref x, .int k, .int how].toArray s = true := fun w h => hts w (List.mem_cons_of_mem _ h)
  have hl : lv_has ls 4 [(0, .ref x), (1, .int k), (2, .int how)] := hl
  obtain ⟨H, hH⟩ : ∃ H, H = s.heap := ⟨_, rfl⟩
  have hZ : zP D vwCl A X [(x, .inr (13, [.ref tp, .ref wi, .ref cl, .ref sv])), (chC, .inl (K 5, 16, .inr (.inr (.inr (.inr ghC))))), (chS, .inl (K 5, 16, .inr (.inr (.inr (.inr ghS)))))] L T H := by rw [hH]; exact hZ
  obtain ⟨locs, hlc⟩ : ∃ q : List Loc, q = [] := ⟨_, rfl⟩
  have hS : va_S A s.heap H locs := by rw [hH, hlc]; exact hS
  suffices hW : W p l e ROOM_L_finish s m [.ref x, .int k, .int how].toArray below meth c H locs 0 0 (vx_MQ below (va_Qi (fun (r : Int32) (u : zU) => (r = nI 1) ∧ u = ([(x, .inr (13, [.ref tp, .ref wi, .ref cl, .ref sv])), (chC, .inl (K 5, 16, .inr (.inr (.inr (.inr ghC))))), (chS, .inl (K 5, 16, .inr (.inr (.inr (.inr ghS)))))], L, T)) (zB D vwCl (zT K) A X) A) (zXC D vwCl (zT K) A X (fun (_ : String) (_ : zU) => False)) [.ref x, .int k, .int how].toArray s 1 6 A) (F0 m 0 ls []) by rw [hH, hlc] at hW; exact hW
  clear hH hlc
  refine lv_aload_n hx hb dL_finish_0 rfl (lv_at hl 0 rfl) ?_
  refine lv_iload_n hx hb dL_finish_1 rfl (lv_at hl 1 rfl) ?_
  refine lv_iload_n hx hb dL_finish_2 rfl (lv_at hl 2 rfl) ?_
  have rv1 : ∃ cell : Cell, H[x]? = some cell ∧ cell.vm.isStatics = false ∧ s.vm.findClass RX12 = some cell.cls := z_recvY hK hZ 0 rfl rfl
  have hZc := zP.into (Y1 := []) (Y2 := [(x, .inr (13, [.ref tp, .ref wi, .ref cl, .ref sv])), (chC, .inl (K 5, 16, .inr (.inr (.inr (.inr ghC))))), (chS, .inl (K 5, 16, .inr (.inr (.inr (.inr ghS)))))]) hZ
  refine z_goX (vx_runV (As := [.int k, .int how]) (rest := []) ⟨hx, hb, hml, hown, hts⟩ ((c_X12_finish E l hfl D K (X ++ []) L T h_cl k_cl h_sv k_sv hSt hgC hgS) H.size) (cwV 2 hts (zg_V zw_1078 zw_947 zw_1079 zw_813 zw_946) rfl rfl rfl (by decide +kernel) ⟨Nat.le_of_ble_eq_true rfl, Nat.le_of_ble_eq_true rfl⟩) (z_preV hK hZc hS hA hE rv1) rfl rfl hl.1 rfl (lv_room (Nat.le_of_ble_eq_true rfl)) dL_finish_3 ⟨Nat.le_of_ble_eq_true rfl, Nat.le_of_ble_eq_true rfl⟩) hZc hS hA (fun E9 ce9 q9 Y1 L1 T1 H locs hp hZ hS hc9 hv9 hcl9 => ?_) (fun  Y1 L1 T1 H locs hp hZ hS => ?_)
  · obtain ⟨hu, hp⟩ := hp
    cases hu
    have hZ : zP D vwCl A X [(x, .inr (13, [.ref tp, .ref wi, .ref cl, .ref sv])), (chC, .inl (K 5, 16, .inr (.inr (.inr (.inr ghC))))), (chS, .inl (K 5, 16, .inr (.inr (.inr (.inr ghS)))))] L T H := zP.back hZ
    rcases hp with rfl
    · refine vx_catch (name := "java/util/NoSuchElementException") hown [] { startPc := 0, endPc := 6, handlerPc := 9, catchType := 25 } [{ startPc := 0, endPc := 6, handlerPc := 12, catchType := 13 }] (by rw [htab]; rfl) (fun _ h => absurd h List.not_mem_nil) (by decide) (by decide) (hts _ zw_1098) (va_Nw.use rfl (zcst hE (List.mem_of_getElem? (i := 2) rfl))) hc9 hv9 hcl9 ?_
      refine lv_astore_n (lv' := [(3, .ref q9), (0, .ref x), (1, .int k), (2, .int how)]) hx hb dL_finish_9 rfl hl (by decide) rfl (fun ls hl => ?_)
      refine lv_iconst (v := nI 1) hx hb dL_finish_10 (by decide +kernel) ?_
      refine vx_ret ?_
      exact z_iret hx hb hr rfl hlocks hK hZ hS ⟨rfl, rfl⟩ (Nat.le_of_ble_eq_true rfl) (Nat.le_of_ble_eq_true rfl) dL_finish_11
  obtain ⟨hnever, hp⟩ := hp
  cases hp
  exact hnever.elim
abbrev ROOM_L_rekey : Room := { frames := 7, cells := 1, slots := 6, locals := 122 }
set_option maxHeartbeats 4000000 in
set_option maxRecDepth 100000 in
/-- the law's rekey -/
theorem c_L_rekey (E : zEn) (l : Launch) (hfl : l.stackTraces = false) (D : va_G) (K : Nat → ClassId) (X : va_W) (L : List Nat) (T : Nat → va_E → Prop) {x : Nat} {ee : Int32} {cl : Nat} {sv : Nat} {exC : Nat} {exS : Nat} {tp wi : Nat} {owC iwC stC chC : Nat} {owS iwS stS chS so hk po : Nat} {liC seC liS seS : Nat} (h_cl : cl ∈ L) (k_cl : T cl = zOp 6 (zCl exC owC iwC stC chC)) (h_sv : sv ∈ L) (k_sv : T sv = zOp 10 (zSv exS owS iwS stS chS so hk po)) (h_exC : exC ∈ L) (k_exC : T exC = zOp 8 (zEx liC seC)) (h_exS : exS ∈ L) (k_exS : T exS = zOp 8 (zEx liS seS)) (hSt : zSt E) : zXi E l D vwCl (zT K) yL_rekey (zwsH yL_rekey cL_rekey 3 (some .int) [(0, 5, 8, 25), (0, 5, 11, 13)]) ROOM_L_rekey 1 6 [.ref x, .int ee] X [(x, .inr (13, [.ref tp, .ref wi, .ref cl, .ref sv]))] L T (fun (r : Int32) (u : zU) => (r = zka_e2 ee) ∧ u = ([(x, .inr (13, [.ref tp, .ref wi, .ref cl, .ref sv]))], L, T)) (fun (_ : String) (_ : zU) => False) := by
  refine z_ofWH (E := E) (Qc := fun A => va_Qi (fun (r : Int32) (u : zU) => (r = zka_e2 ee) ∧ u = ([(x, .inr (13, [.ref tp, .ref wi, .ref cl, .ref sv]))], L, T)) (zB D vwCl (zT K) A X) A) (XC := fun A => zXC D vwCl (zT K) A X (fun (_ : String) (_ : zU) => False)) (cc := cL_rekey) (maxL := 3) (ret := (some .int)) (hh := [(0, 5, 8, 25), (0, 5, 11, 13)]) (by decide +kernel) rfl (Nat.le_of_ble_eq_true rfl) ?_
  intro p e s m below meth c A ls hx hb hml hr hts hown hlocks htab hA hK hZ hS hE hl
  have hown : s.vm.findClass RL = some m.cls := hown
  have hts : ∀ w ∈ WR, w.before [.ref x, .int ee].toArray s = true := fun w h => hts w (List.mem_cons_of_mem _ h)
  have hl : lv_has ls 3 [(0, .ref x), (1, .int ee)] := hl
  obtain ⟨H, hH⟩ : ∃ H, H = s.heap := ⟨_, rfl⟩
  have hZ : zP D vwCl A X [(x, .inr (13, [.ref tp, .ref wi, .ref cl, .ref sv]))] L T H := by rw [hH]; exact hZ
  obtain ⟨locs, hlc⟩ : ∃ q : List Loc, q = [] := ⟨_, rfl⟩
  have hS : va_S A s.heap H locs := by rw [hH, hlc]; exact hS
  suffices hW : W p l e ROOM_L_rekey s m [.ref x, .int ee].toArray below meth c H locs 0 0 (vx_MQ below (va_Qi (fun (r : Int32) (u : zU) => (r = zka_e2 ee) ∧ u = ([(x, .inr (13, [.ref tp, .ref wi, .ref cl, .ref sv]))], L, T)) (zB D vwCl (zT K) A X) A) (zXC D vwCl (zT K) A X (fun (_ : String) (_ : zU) => False)) [.ref x, .int ee].toArray s 1 6 A) (F0 m 0 ls []) by rw [hH, hlc] at hW; exact hW
  clear hH hlc
  refine lv_aload_n hx hb dL_rekey_0 rfl (lv_at hl 0 rfl) ?_
  refine lv_iload_n hx hb dL_rekey_1 rfl (lv_at hl 1 rfl) ?_
  have rv1 : ∃ cell : Cell, H[x]? = some cell ∧ cell.vm.isStatics = false ∧ s.vm.findClass RX12 = some cell.cls := z_recvY hK hZ 0 rfl rfl
  have hZc := zP.into (Y1 := []) (Y2 := [(x, .inr (13, [.ref tp, .ref wi, .ref cl, .ref sv]))]) hZ
  refine z_goX (vx_runV (As := [.int ee]) (rest := []) ⟨hx, hb, hml, hown, hts⟩ ((c_X12_rekey E l hfl D K (X ++ []) L T h_cl k_cl h_sv k_sv h_exC k_exC h_exS k_exS hSt) H.size) (cwV 1 hts (zg_V zw_1082 zw_950 zw_1083 zw_813 zw_949) rfl rfl rfl (by decide +kernel) ⟨Nat.le_of_ble_eq_true rfl, Nat.le_of_ble_eq_true rfl⟩) (z_preV hK hZc hS hA hE rv1) rfl rfl hl.1 rfl (lv_room (Nat.le_of_ble_eq_true rfl)) dL_rekey_2 ⟨Nat.le_of_ble_eq_true rfl, Nat.le_of_ble_eq_true rfl⟩) hZc hS hA (fun E9 ce9 q9 Y1 L1 T1 H locs hp hZ hS hc9 hv9 hcl9 => ?_) (fun  Y1 L1 T1 H locs hp hZ hS => ?_)
  · obtain ⟨hu, hp⟩ := hp
    cases hu
    have hZ : zP D vwCl A X [(x, .inr (13, [.ref tp, .ref wi, .ref cl, .ref sv]))] L T H := zP.back hZ
    rcases hp with ⟨rfl, hk9⟩ | ⟨rfl, hk9⟩
    · refine vx_catch (name := "java/util/NoSuchElementException") hown [] { startPc := 0, endPc := 5, handlerPc := 8, catchType := 25 } [{ startPc := 0, endPc := 5, handlerPc := 11, catchType := 13 }] (by rw [htab]; rfl) (fun _ h => absurd h List.not_mem_nil) (by decide) (by decide) (hts _ zw_1098) (va_Nw.use rfl (zcst hE (List.mem_of_getElem? (i := 2) rfl))) hc9 hv9 hcl9 ?_
      refine lv_astore_n (lv' := [(2, .ref q9), (0, .ref x), (1, .int ee)]) hx hb dL_rekey_8 rfl hl (by decide) rfl (fun ls hl => ?_)
      refine lv_iconst (v := nI 1) hx hb dL_rekey_9 (by decide +kernel) ?_
      refine vx_ret ?_
      exact z_iret hx hb hr rfl hlocks hK hZ hS ⟨hk9.symm, rfl⟩ (Nat.le_of_ble_eq_true rfl) (Nat.le_of_ble_eq_true rfl) dL_rekey_10
    · refine vx_catch (name := "java/lang/IllegalStateException") hown [{ startPc := 0, endPc := 5, handlerPc := 8, catchType := 25 }] { startPc := 0, endPc := 5, handlerPc := 11, catchType := 13 } [] (by rw [htab]; rfl) (List.forall_mem_cons.mpr ⟨Or.inr ⟨(by decide), "java/util/NoSuchElementException", hts _ zw_1098, znc hE (x := ("java/lang/IllegalStateException", "java/util/NoSuchElementException")) (List.mem_of_getElem? (i := 2) rfl)⟩, (fun _ h => absurd h List.not_mem_nil)⟩) (by decide) (by decide) (hts _ zw_1096) (va_Nw.use rfl (zcst hE (List.mem_of_getElem? (i := 0) rfl))) hc9 hv9 hcl9 ?_
      refine lv_astore_n (lv' := [(2, .ref q9), (0, .ref x), (1, .int ee)]) hx hb dL_rekey_11 rfl hl (by decide) rfl (fun ls hl => ?_)
      refine lv_iconst (v := nI 2) hx hb dL_rekey_12 (by decide +kernel) ?_
      refine vx_ret ?_
      exact z_iret hx hb hr rfl hlocks hK hZ hS ⟨hk9.symm, rfl⟩ (Nat.le_of_ble_eq_true rfl) (Nat.le_of_ble_eq_true rfl) dL_rekey_13
  obtain ⟨hnever, hp⟩ := hp
  cases hp
  exact hnever.elim
abbrev ROOM_L_quit : Room := { frames := 7, cells := 1, slots := 6, locals := 122 }
set_option maxHeartbeats 4000000 in
set_option maxRecDepth 100000 in
/-- the law's quit -/
theorem c_L_quit (E : zEn) (l : Launch) (hfl : l.stackTraces = false) (D : va_G) (K : Nat → ClassId) (X : va_W) (L : List Nat) (T : Nat → va_E → Prop) {x : Nat} {ee : Int32} {cl : Nat} {sv : Nat} {exC : Nat} {exS : Nat} {tp wi : Nat} {owC iwC stC chC : Nat} {owS iwS stS chS so hk po : Nat} {liC seC liS seS : Nat} (h_cl : cl ∈ L) (k_cl : T cl = zOp 6 (zCl exC owC iwC stC chC)) (h_sv : sv ∈ L) (k_sv : T sv = zOp 10 (zSv exS owS iwS stS chS so hk po)) (h_exC : exC ∈ L) (k_exC : T exC = zOp 8 (zEx liC seC)) (h_exS : exS ∈ L) (k_exS : T exS = zOp 8 (zEx liS seS)) (hSt : zSt E) : zXi E l D vwCl (zT K) yL_quit (zwsH yL_quit cL_quit 3 (some .int) [(0, 5, 8, 25), (0, 5, 11, 13)]) ROOM_L_quit 1 6 [.ref x, .int ee] X [(x, .inr (13, [.ref tp, .ref wi, .ref cl, .ref sv]))] L T (fun (r : Int32) (u : zU) => (r = zka_e2 ee) ∧ u = ([(x, .inr (13, [.ref tp, .ref wi, .ref cl, .ref sv]))], L, T)) (fun (_ : String) (_ : zU) => False) := by
  refine z_ofWH (E := E) (Qc := fun A => va_Qi (fun (r : Int32) (u : zU) => (r = zka_e2 ee) ∧ u = ([(x, .inr (13, [.ref tp, .ref wi, .ref cl, .ref sv]))], L, T)) (zB D vwCl (zT K) A X) A) (XC := fun A => zXC D vwCl (zT K) A X (fun (_ : String) (_ : zU) => False)) (cc := cL_quit) (maxL := 3) (ret := (some .int)) (hh := [(0, 5, 8, 25), (0, 5, 11, 13)]) (by decide +kernel) rfl (Nat.le_of_ble_eq_true rfl) ?_
  intro p e s m below meth c A ls hx hb hml hr hts hown hlocks htab hA hK hZ hS hE hl
  have hown : s.vm.findClass RL = some m.cls := hown
  have hts : ∀ w ∈ WR, w.before [.ref x, .int ee].toArray s = true := fun w h => hts w (List.mem_cons_of_mem _ h)
  have hl : lv_has ls 3 [(0, .ref x), (1, .int ee)] := hl
  obtain ⟨H, hH⟩ : ∃ H, H = s.heap := ⟨_, rfl⟩
  have hZ : zP D vwCl A X [(x, .inr (13, [.ref tp, .ref wi, .ref cl, .ref sv]))] L T H := by rw [hH]; exact hZ
  obtain ⟨locs, hlc⟩ : ∃ q : List Loc, q = [] := ⟨_, rfl⟩
  have hS : va_S A s.heap H locs := by rw [hH, hlc]; exact hS
  suffices hW : W p l e ROOM_L_quit s m [.ref x, .int ee].toArray below meth c H locs 0 0 (vx_MQ below (va_Qi (fun (r : Int32) (u : zU) => (r = zka_e2 ee) ∧ u = ([(x, .inr (13, [.ref tp, .ref wi, .ref cl, .ref sv]))], L, T)) (zB D vwCl (zT K) A X) A) (zXC D vwCl (zT K) A X (fun (_ : String) (_ : zU) => False)) [.ref x, .int ee].toArray s 1 6 A) (F0 m 0 ls []) by rw [hH, hlc] at hW; exact hW
  clear hH hlc
  refine lv_aload_n hx hb dL_quit_0 rfl (lv_at hl 0 rfl) ?_
  refine lv_iload_n hx hb dL_quit_1 rfl (lv_at hl 1 rfl) ?_
  have rv1 : ∃ cell : Cell, H[x]? = some cell ∧ cell.vm.isStatics = false ∧ s.vm.findClass RX12 = some cell.cls := z_recvY hK hZ 0 rfl rfl
  have hZc := zP.into (Y1 := []) (Y2 := [(x, .inr (13, [.ref tp, .ref wi, .ref cl, .ref sv]))]) hZ
  refine z_goX (vx_runV (As := [.int ee]) (rest := []) ⟨hx, hb, hml, hown, hts⟩ ((c_X12_quit E l hfl D K (X ++ []) L T h_cl k_cl h_sv k_sv h_exC k_exC h_exS k_exS hSt) H.size) (cwV 1 hts (zg_V zw_1086 zw_956 zw_1087 zw_813 zw_955) rfl rfl rfl (by decide +kernel) ⟨Nat.le_of_ble_eq_true rfl, Nat.le_of_ble_eq_true rfl⟩) (z_preV hK hZc hS hA hE rv1) rfl rfl hl.1 rfl (lv_room (Nat.le_of_ble_eq_true rfl)) dL_quit_2 ⟨Nat.le_of_ble_eq_true rfl, Nat.le_of_ble_eq_true rfl⟩) hZc hS hA (fun E9 ce9 q9 Y1 L1 T1 H locs hp hZ hS hc9 hv9 hcl9 => ?_) (fun  Y1 L1 T1 H locs hp hZ hS => ?_)
  · obtain ⟨hu, hp⟩ := hp
    cases hu
    have hZ : zP D vwCl A X [(x, .inr (13, [.ref tp, .ref wi, .ref cl, .ref sv]))] L T H := zP.back hZ
    rcases hp with ⟨rfl, hk9⟩ | ⟨rfl, hk9⟩
    · refine vx_catch (name := "java/util/NoSuchElementException") hown [] { startPc := 0, endPc := 5, handlerPc := 8, catchType := 25 } [{ startPc := 0, endPc := 5, handlerPc := 11, catchType := 13 }] (by rw [htab]; rfl) (fun _ h => absurd h List.not_mem_nil) (by decide) (by decide) (hts _ zw_1098) (va_Nw.use rfl (zcst hE (List.mem_of_getElem? (i := 2) rfl))) hc9 hv9 hcl9 ?_
      refine lv_astore_n (lv' := [(2, .ref q9), (0, .ref x), (1, .int ee)]) hx hb dL_quit_8 rfl hl (by decide) rfl (fun ls hl => ?_)
      refine lv_iconst (v := nI 1) hx hb dL_quit_9 (by decide +kernel) ?_
      refine vx_ret ?_
      exact z_iret hx hb hr rfl hlocks hK hZ hS ⟨hk9.symm, rfl⟩ (Nat.le_of_ble_eq_true rfl) (Nat.le_of_ble_eq_true rfl) dL_quit_10
    · refine vx_catch (name := "java/lang/IllegalStateException") hown [{ startPc := 0, endPc := 5, handlerPc := 8, catchType := 25 }] { startPc := 0, endPc := 5, handlerPc := 11, catchType := 13 } [] (by rw [htab]; rfl) (List.forall_mem_cons.mpr ⟨Or.inr ⟨(by decide), "java/util/NoSuchElementException", hts _ zw_1098, znc hE (x := ("java/lang/IllegalStateException", "java/util/NoSuchElementException")) (List.mem_of_getElem? (i := 2) rfl)⟩, (fun _ h => absurd h List.not_mem_nil)⟩) (by decide) (by decide) (hts _ zw_1096) (va_Nw.use rfl (zcst hE (List.mem_of_getElem? (i := 0) rfl))) hc9 hv9 hcl9 ?_
      refine lv_astore_n (lv' := [(2, .ref q9), (0, .ref x), (1, .int ee)]) hx hb dL_quit_11 rfl hl (by decide) rfl (fun ls hl => ?_)
      refine lv_iconst (v := nI 2) hx hb dL_quit_12 (by decide +kernel) ?_
      refine vx_ret ?_
      exact z_iret hx hb hr rfl hlocks hK hZ hS ⟨hk9.symm, rfl⟩ (Nat.le_of_ble_eq_true rfl) (Nat.le_of_ble_eq_true rfl) dL_quit_13
  obtain ⟨hnever, hp⟩ := hp
  cases hp
  exact hnever.elim
abbrev ROOM_L_about : Room := { frames := 7, cells := 1, slots := 6, locals := 123 }
set_option maxHeartbeats 4000000 in
set_option maxRecDepth 100000 in
/-- the law's about -/
theorem c_L_about (E : zEn) (l : Launch) (hfl : l.stackTraces = false) (D : va_G) (K : Nat → ClassId) (X : va_W) (L : List Nat) (T : Nat → va_E → Prop) {x : Nat} {ee : Int32} {w : Int32} {out : Nat} {cl : Nat} {sv : Nat} {exC : Nat} {seC : Nat} {owC : Nat} {iwC : Nat} {exS : Nat} {seS : Nat} {owS : Nat} {iwS : Nat} {so : Nat} {tp wi : Nat} {stC chC : Nat} {ghC : Nat → Option Nat} {stS chS hk po : Nat} {ghS : Nat → Option Nat} {liC liS w0 w1 b0 b1 : Nat} (h_cl : cl ∈ L) (k_cl : T cl = zOp 6 (zCl exC owC iwC stC chC)) (h_sv : sv ∈ L) (k_sv : T sv = zOp 10 (zSv exS owS iwS stS chS so hk po)) (h_exC : exC ∈ L) (k_exC : T exC = zOp 8 (zEx liC seC)) (h_seC : seC ∈ L) (k_seC : T seC = zOp 3 zB0) (h_owC : owC ∈ L) (k_owC : T owC = zOp 9 zFl) (h_iwC : iwC ∈ L) (k_iwC : T iwC = zOp 9 zFl) (h_exS : exS ∈ L) (k_exS : T exS = zOp 8 (zEx liS seS)) (h_seS : seS ∈ L) (k_seS : T seS = zOp 3 zB0) (h_owS : owS ∈ L) (k_owS : T owS = zOp 9 zFl) (h_iwS : iwS ∈ L) (k_iwS : T iwS = zOp 9 zFl) (h_so : so ∈ L) (k_so : T so = zOp 12 zSt0) (hSt : zSt E) (hgC : zAll 16 ghC L T (zOp 5 zCh)) (hgS : zAll 16 ghS L T (zOp 5 zCh)) : zXi E l D vwCl (zT K) yL_about (zwsH yL_about cL_about 5 (some .int) [(0, 10, 13, 25), (0, 10, 17, 19)]) ROOM_L_about 1 6 [.ref x, .int ee, .int w, .ref out] X [(x, .inr (13, [.ref tp, .ref wi, .ref cl, .ref sv])), (wi, .inl (K 4, 2, .inr (.inr (.inr (.inr (va_up (va_up (fun _ => none) (nI 0).toNatClampNeg (some w0)) (nI 1).toNatClampNeg (some w1))))))), (w0, .inr (3, [.ref b0, .int (nI 0), .int (nI 0), .int (nI 0), .int (nI 0), .int (nI 0)])), (w1, .inr (3, [.ref b1, .int (nI 0), .int (nI 0), .int (nI 0), .int (nI 0), .int (nI 0)])), (chC, .inl (K 5, 16, .inr (.inr (.inr (.inr ghC))))), (chS, .inl (K 5, 16, .inr (.inr (.inr (.inr ghS))))), (out, .inl (K 1, 1, .inr (.inl (fun _ => 0))))] L T (fun (r : Int32) (u : zU) => ∃ (go : Nat → Int64), (r = zka_about ee w ∧ go 0 = 0) ∧ u = ([(x, .inr (13, [.ref tp, .ref wi, .ref cl, .ref sv])), (wi, .inl (K 4, 2, .inr (.inr (.inr (.inr (va_up (va_up (fun _ => none) (nI 0).toNatClampNeg (some w0)) (nI 1).toNatClampNeg (some w1))))))), (w0, .inr (3, [.ref b0, .int (nI 0), .int (nI 0), .int (nI 0), .int (nI 0), .int (nI 0)])), (w1, .inr (3, [.ref b1, .int (nI 0), .int (nI 0), .int (nI 0), .int (nI 0), .int (nI 0)])), (chC, .inl (K 5, 16, .inr (.inr (.inr (.inr ghC))))), (chS, .inl (K 5, 16, .inr (.inr (.inr (.inr ghS))))), (out, .inl (K 1, 1, .inr (.inl go)))], L, T)) (fun (_ : String) (_ : zU) => False) := by
  refine z_ofWH (E := E) (Qc := fun A => va_Qi (fun (r : Int32) (u : zU) => ∃ (go : Nat → Int64), (r = zka_about ee w ∧ go 0 = 0) ∧ u = ([(x, .inr (13, [.ref tp, .ref wi, .ref cl, .ref sv])), (wi, .inl (K 4, 2, .inr (.inr (.inr (.inr (va_up (va_up (fun _ => none) (nI 0).toNatClampNeg (some w0)) (nI 1).toNatClampNeg (some w1))))))), (w0, .inr (3, [.ref b0, .int (nI 0), .int (nI 0), .int (nI 0), .int (nI 0), .int (nI 0)])), (w1, .inr (3, [.ref b1, .int (nI 0), .int (nI 0), .int (nI 0), .int (nI 0), .int (nI 0)])), (chC, .inl (K 5, 16, .inr (.inr (.inr (.inr ghC))))), (chS, .inl (K 5, 16, .inr (.inr (.inr (.inr ghS))))), (out, .inl (K 1, 1, .inr (.inl go)))], L, T)) (zB D vwCl (zT K) A X) A) (XC := fun A => zXC D vwCl (zT K) A X (fun (_ : String) (_ : zU) => False)) (cc := cL_about) (maxL := 5) (ret := (some .int)) (hh := [(0, 10, 13, 25), (0, 10, 17, 19)]) (by decide +kernel) rfl (Nat.le_of_ble_eq_true rfl) ?_
  intro p e s m below meth c A ls hx hb hml hr hts hown hlocks htab hA hK hZ hS hE hl
  have hown : s.vm.findClass RL = some m.cls := hown
  have hts : ∀ w9 ∈ WR, w9.before [.ref x, .int ee, .int w, .ref out].toArray s = true := fun w9 h => hts w9 (List.mem_cons_of_mem _ h)
  have hl : lv_has ls 5 [(0, .ref x), (1, .int ee), (2, .int w), (3, .ref out)] := hl
  obtain ⟨H, hH⟩ : ∃ H, H = s.heap := ⟨_, rfl⟩
  have hZ : zP D vwCl A X [(x, .inr (13, [.ref tp, .ref wi, .ref cl, .ref sv])), (wi, .inl (K 4, 2, .inr (.inr (.inr (.inr (va_up (va_up (fun _ => none) (nI 0).toNatClampNeg (some w0)) (nI 1).toNatClampNeg (some w1))))))), (w0, .inr (3, [.ref b0, .int (nI 0), .int (nI 0), .int (nI 0), .int (nI 0), .int (nI 0)])), (w1, .inr (3, [.ref b1, .int (nI 0), .int (nI 0), .int (nI 0), .int (nI 0), .int (nI 0)])), (chC, .inl (K 5, 16, .inr (.inr (.inr (.inr ghC))))), (chS, .inl (K 5, 16, .inr (.inr (.inr (.inr ghS))))), (out, .inl (K 1, 1, .inr (.inl (fun _ => 0))))] L T H := by rw [hH]; exact hZ
  obtain ⟨locs, hlc⟩ : ∃ q : List Loc, q = [] := ⟨_, rfl⟩
  have hS : va_S A s.heap H locs := by rw [hH, hlc]; exact hS
  suffices hW : W p l e ROOM_L_about s m [.ref x, .int ee, .int w, .ref out].toArray below meth c H locs 0 0 (vx_MQ below (va_Qi (fun (r : Int32) (u : zU) => ∃ (go : Nat → Int64), (r = zka_about ee w ∧ go 0 = 0) ∧ u = ([(x, .inr (13, [.ref tp, .ref wi, .ref cl, .ref sv])), (wi, .inl (K 4, 2, .inr (.inr (.inr (.inr (va_up (va_up (fun _ => none) (nI 0).toNatClampNeg (some w0)) (nI 1).toNatClampNeg (some w1))))))), (w0, .inr (3, [.ref b0, .int (nI 0), .int (nI 0), .int (nI 0), .int (nI 0), .int (nI 0)])), (w1, .inr (3, [.ref b1, .int (nI 0), .int (nI 0), .int (nI 0), .int (nI 0), .int (nI 0)])), (chC, .inl (K 5, 16, .inr (.inr (.inr (.inr ghC))))), (chS, .inl (K 5, 16, .inr (.inr (.inr (.inr ghS))))), (out, .inl (K 1, 1, .inr (.inl go)))], L, T)) (zB D vwCl (zT K) A X) A) (zXC D vwCl (zT K) A X (fun (_ : String) (_ : zU) => False)) [.ref x, .int ee, .int w, .ref out].toArray s 1 6 A) (F0 m 0 ls []) by rw [hH, hlc] at hW; exact hW
  clear hH hlc
  refine lv_aload_n hx hb dL_about_0 rfl (lv_at hl 3 rfl) ?_
  refine lv_iconst (v := nI 0) hx hb dL_about_1 (by decide +kernel) ?_
  refine lv_aload_n hx hb dL_about_2 rfl (lv_at hl 0 rfl) ?_
  refine lv_iload_n hx hb dL_about_3 rfl (lv_at hl 1 rfl) ?_
  refine lv_iload_n hx hb dL_about_4 rfl (lv_at hl 2 rfl) ?_
  have rv1 : ∃ cell : Cell, H[x]? = some cell ∧ cell.vm.isStatics = false ∧ s.vm.findClass RX12 = some cell.cls := z_recvY hK hZ 0 rfl rfl
  have hZc := zP.into (Y1 := [(out, .inl (K 1, 1, .inr (.inl (fun _ => 0))))]) (Y2 := [(x, .inr (13, [.ref tp, .ref wi, .ref cl, .ref sv])), (wi, .inl (K 4, 2, .inr (.inr (.inr (.inr (va_up (va_up (fun _ => none) (nI 0).toNatClampNeg (some w0)) (nI 1).toNatClampNeg (some w1))))))), (w0, .inr (3, [.ref b0, .int (nI 0), .int (nI 0), .int (nI 0), .int (nI 0), .int (nI 0)])), (w1, .inr (3, [.ref b1, .int (nI 0), .int (nI 0), .int (nI 0), .int (nI 0), .int (nI 0)])), (chC, .inl (K 5, 16, .inr (.inr (.inr (.inr ghC))))), (chS, .inl (K 5, 16, .inr (.inr (.inr (.inr ghS)))))]) (zP.pick [6, 0, 1, 2, 3, 4, 5] [(out, .inl (K 1, 1, .inr (.inl (fun _ => 0)))), (x, .inr (13, [.ref tp, .ref wi, .ref cl, .ref sv])), (wi, .inl (K 4, 2, .inr (.inr (.inr (.inr (va_up (va_up (fun _ => none) (nI 0).toNatClampNeg (some w0)) (nI 1).toNatClampNeg (some w1))))))), (w0, .inr (3, [.ref b0, .int (nI 0), .int (nI 0), .int (nI 0), .int (nI 0), .int (nI 0)])), (w1, .inr (3, [.ref b1, .int (nI 0), .int (nI 0), .int (nI 0), .int (nI 0), .int (nI 0)])), (chC, .inl (K 5, 16, .inr (.inr (.inr (.inr ghC))))), (chS, .inl (K 5, 16, .inr (.inr (.inr (.inr ghS)))))] hZ (by decide) rfl)
  refine z_goXI (vx_runV (As := [.int ee, .int w]) (rest := [.int (nI 0), .ref out]) ⟨hx, hb, hml, hown, hts⟩ ((c_X12_about E l hfl D K (X ++ [(out, .inl (K 1, 1, .inr (.inl (fun _ => 0))))]) L T h_cl k_cl h_sv k_sv h_exC k_exC h_seC k_seC h_owC k_owC h_iwC k_iwC h_exS k_exS h_seS k_seS h_owS k_owS h_iwS k_iwS h_so k_so hSt hgC hgS) H.size) (cwV 2 hts (zg_V zw_1090 zw_959 zw_1091 zw_813 zw_958) rfl rfl rfl (by decide +kernel) ⟨Nat.le_of_ble_eq_true rfl, Nat.le_of_ble_eq_true rfl⟩) (z_preV hK hZc hS hA hE rv1) rfl rfl hl.1 rfl (lv_room (Nat.le_of_ble_eq_true rfl)) dL_about_5 ⟨Nat.le_of_ble_eq_true rfl, Nat.le_of_ble_eq_true rfl⟩) hZc hS hA (fun E9 ce9 q9 Y1 L1 T1 H locs hp hZ hS hc9 hv9 hcl9 => ?_) (fun x2 Y1 L1 T1 H locs hp hZ hS => ?_)
  · obtain ⟨hu, hp⟩ := hp
    cases hu
    have hZ : zP D vwCl A X [(out, .inl (K 1, 1, .inr (.inl (fun _ => 0)))), (x, .inr (13, [.ref tp, .ref wi, .ref cl, .ref sv])), (wi, .inl (K 4, 2, .inr (.inr (.inr (.inr (va_up (va_up (fun _ => none) (nI 0).toNatClampNeg (some w0)) (nI 1).toNatClampNeg (some w1))))))), (w0, .inr (3, [.ref b0, .int (nI 0), .int (nI 0), .int (nI 0), .int (nI 0), .int (nI 0)])), (w1, .inr (3, [.ref b1, .int (nI 0), .int (nI 0), .int (nI 0), .int (nI 0), .int (nI 0)])), (chC, .inl (K 5, 16, .inr (.inr (.inr (.inr ghC))))), (chS, .inl (K 5, 16, .inr (.inr (.inr (.inr ghS)))))] L T H := zP.back hZ
    rcases hp with ⟨rfl, hk9⟩ | ⟨rfl, hk9⟩
    · refine vx_catch (name := "java/util/NoSuchElementException") hown [] { startPc := 0, endPc := 10, handlerPc := 13, catchType := 25 } [{ startPc := 0, endPc := 10, handlerPc := 17, catchType := 19 }] (by rw [htab]; rfl) (fun _ h => absurd h List.not_mem_nil) (by decide) (by decide) (hts _ zw_1098) (va_Nw.use rfl (zcst hE (List.mem_of_getElem? (i := 2) rfl))) hc9 hv9 hcl9 ?_
      refine lv_astore (lv' := [(4, .ref q9), (0, .ref x), (1, .int ee), (2, .int w), (3, .ref out)]) hx hb dL_about_13 hl (by decide) rfl (fun ls hl => ?_)
      refine lv_iconst (v := nI 1) hx hb dL_about_15 (by decide +kernel) ?_
      have hZ : zP D vwCl A X [(x, .inr (13, [.ref tp, .ref wi, .ref cl, .ref sv])), (wi, .inl (K 4, 2, .inr (.inr (.inr (.inr (va_up (va_up (fun _ => none) (nI 0).toNatClampNeg (some w0)) (nI 1).toNatClampNeg (some w1))))))), (w0, .inr (3, [.ref b0, .int (nI 0), .int (nI 0), .int (nI 0), .int (nI 0), .int (nI 0)])), (w1, .inr (3, [.ref b1, .int (nI 0), .int (nI 0), .int (nI 0), .int (nI 0), .int (nI 0)])), (chC, .inl (K 5, 16, .inr (.inr (.inr (.inr ghC))))), (chS, .inl (K 5, 16, .inr (.inr (.inr (.inr ghS))))), (out, .inl (K 1, 1, .inr (.inl (fun _ => 0))))] L T H := zP.pick [1, 2, 3, 4, 5, 6, 0] [(x, .inr (13, [.ref tp, .ref wi, .ref cl, .ref sv])), (wi, .inl (K 4, 2, .inr (.inr (.inr (.inr (va_up (va_up (fun _ => none) (nI 0).toNatClampNeg (some w0)) (nI 1).toNatClampNeg (some w1))))))), (w0, .inr (3, [.ref b0, .int (nI 0), .int (nI 0), .int (nI 0), .int (nI 0), .int (nI 0)])), (w1, .inr (3, [.ref b1, .int (nI 0), .int (nI 0), .int (nI 0), .int (nI 0), .int (nI 0)])), (chC, .inl (K 5, 16, .inr (.inr (.inr (.inr ghC))))), (chS, .inl (K 5, 16, .inr (.inr (.inr (.inr ghS))))), (out, .inl (K 1, 1, .inr (.inl (fun _ => 0))))] hZ (by decide) rfl
      refine vx_ret ?_
      exact z_iret hx hb hr rfl hlocks hK hZ hS ⟨(fun _ => 0), ⟨hk9.symm, rfl⟩, rfl⟩ (Nat.le_of_ble_eq_true rfl) (Nat.le_of_ble_eq_true rfl) dL_about_16
    · refine vx_catch (name := "java/lang/IllegalArgumentException") hown [{ startPc := 0, endPc := 10, handlerPc := 13, catchType := 25 }] { startPc := 0, endPc := 10, handlerPc := 17, catchType := 19 } [] (by rw [htab]; rfl) (List.forall_mem_cons.mpr ⟨Or.inr ⟨(by decide), "java/util/NoSuchElementException", hts _ zw_1098, znc hE (x := ("java/lang/IllegalArgumentException", "java/util/NoSuchElementException")) (List.mem_of_getElem? (i := 0) rfl)⟩, (fun _ h => absurd h List.not_mem_nil)⟩) (by decide) (by decide) (hts _ zw_1097) (va_Nw.use rfl (zcst hE (List.mem_of_getElem? (i := 1) rfl))) hc9 hv9 hcl9 ?_
      refine lv_astore (lv' := [(4, .ref q9), (0, .ref x), (1, .int ee), (2, .int w), (3, .ref out)]) hx hb dL_about_17 hl (by decide) rfl (fun ls hl => ?_)
      refine lv_iconst (v := nI 2) hx hb dL_about_19 (by decide +kernel) ?_
      have hZ : zP D vwCl A X [(x, .inr (13, [.ref tp, .ref wi, .ref cl, .ref sv])), (wi, .inl (K 4, 2, .inr (.inr (.inr (.inr (va_up (va_up (fun _ => none) (nI 0).toNatClampNeg (some w0)) (nI 1).toNatClampNeg (some w1))))))), (w0, .inr (3, [.ref b0, .int (nI 0), .int (nI 0), .int (nI 0), .int (nI 0), .int (nI 0)])), (w1, .inr (3, [.ref b1, .int (nI 0), .int (nI 0), .int (nI 0), .int (nI 0), .int (nI 0)])), (chC, .inl (K 5, 16, .inr (.inr (.inr (.inr ghC))))), (chS, .inl (K 5, 16, .inr (.inr (.inr (.inr ghS))))), (out, .inl (K 1, 1, .inr (.inl (fun _ => 0))))] L T H := zP.pick [1, 2, 3, 4, 5, 6, 0] [(x, .inr (13, [.ref tp, .ref wi, .ref cl, .ref sv])), (wi, .inl (K 4, 2, .inr (.inr (.inr (.inr (va_up (va_up (fun _ => none) (nI 0).toNatClampNeg (some w0)) (nI 1).toNatClampNeg (some w1))))))), (w0, .inr (3, [.ref b0, .int (nI 0), .int (nI 0), .int (nI 0), .int (nI 0), .int (nI 0)])), (w1, .inr (3, [.ref b1, .int (nI 0), .int (nI 0), .int (nI 0), .int (nI 0), .int (nI 0)])), (chC, .inl (K 5, 16, .inr (.inr (.inr (.inr ghC))))), (chS, .inl (K 5, 16, .inr (.inr (.inr (.inr ghS))))), (out, .inl (K 1, 1, .inr (.inl (fun _ => 0))))] hZ (by decide) rfl
      refine vx_ret ?_
      exact z_iret hx hb hr rfl hlocks hK hZ hS ⟨(fun _ => 0), ⟨hk9.symm, rfl⟩, rfl⟩ (Nat.le_of_ble_eq_true rfl) (Nat.le_of_ble_eq_true rfl) dL_about_20
  obtain ⟨⟨hk9, hres⟩, hp⟩ := hp
  cases hp
  have hZ : zP D vwCl A X [(out, .inl (K 1, 1, .inr (.inl (fun _ => 0)))), (x, .inr (13, [.ref tp, .ref wi, .ref cl, .ref sv])), (wi, .inl (K 4, 2, .inr (.inr (.inr (.inr (va_up (va_up (fun _ => none) (nI 0).toNatClampNeg (some w0)) (nI 1).toNatClampNeg (some w1))))))), (w0, .inr (3, [.ref b0, .int (nI 0), .int (nI 0), .int (nI 0), .int (nI 0), .int (nI 0)])), (w1, .inr (3, [.ref b1, .int (nI 0), .int (nI 0), .int (nI 0), .int (nI 0), .int (nI 0)])), (chC, .inl (K 5, 16, .inr (.inr (.inr (.inr ghC))))), (chS, .inl (K 5, 16, .inr (.inr (.inr (.inr ghS)))))] L T H := zP.back hZ
  obtain rfl : x2 = nI 0 := hres
  refine lv_i2l hx hb dL_about_8 rfl ?_
  refine lv_topl (fun x3 ex3 => ?_)
  obtain rfl : x3 = 0 := ex3.trans (by decide +kernel)
  refine z_lastY hx hb hK hZ hS 1 0 rfl rfl (vp_in_nI (by omega) (by omega)) dL_about_9 (fun H locs hZ hS => ?_)
  have hZ : zP D vwCl A X [(out, .inl (K 1, 1, .inr (.inl (vp_updL (fun _ => 0) (nI 0).toNatClampNeg (0))))), (x, .inr (13, [.ref tp, .ref wi, .ref cl, .ref sv])), (wi, .inl (K 4, 2, .inr (.inr (.inr (.inr (va_up (va_up (fun _ => none) (nI 0).toNatClampNeg (some w0)) (nI 1).toNatClampNeg (some w1))))))), (w0, .inr (3, [.ref b0, .int (nI 0), .int (nI 0), .int (nI 0), .int (nI 0), .int (nI 0)])), (w1, .inr (3, [.ref b1, .int (nI 0), .int (nI 0), .int (nI 0), .int (nI 0), .int (nI 0)])), (chC, .inl (K 5, 16, .inr (.inr (.inr (.inr ghC))))), (chS, .inl (K 5, 16, .inr (.inr (.inr (.inr ghS)))))] L T H := hZ
  refine lv_goto (tgt := 21) hx hb dL_about_10 (by decide) ?_
  refine lv_iconst (v := nI 0) hx hb dL_about_21 (by decide +kernel) ?_
  have hZ : zP D vwCl A X [(x, .inr (13, [.ref tp, .ref wi, .ref cl, .ref sv])), (wi, .inl (K 4, 2, .inr (.inr (.inr (.inr (va_up (va_up (fun _ => none) (nI 0).toNatClampNeg (some w0)) (nI 1).toNatClampNeg (some w1))))))), (w0, .inr (3, [.ref b0, .int (nI 0), .int (nI 0), .int (nI 0), .int (nI 0), .int (nI 0)])), (w1, .inr (3, [.ref b1, .int (nI 0), .int (nI 0), .int (nI 0), .int (nI 0), .int (nI 0)])), (chC, .inl (K 5, 16, .inr (.inr (.inr (.inr ghC))))), (chS, .inl (K 5, 16, .inr (.inr (.inr (.inr ghS))))), (out, .inl (K 1, 1, .inr (.inl (vp_updL (fun _ => 0) (nI 0).toNatClampNeg (0)))))] L T H := zP.pick [1, 2, 3, 4, 5, 6, 0] [(x, .inr (13, [.ref tp, .ref wi, .ref cl, .ref sv])), (wi, .inl (K 4, 2, .inr (.inr (.inr (.inr (va_up (va_up (fun _ => none) (nI 0).toNatClampNeg (some w0)) (nI 1).toNatClampNeg (some w1))))))), (w0, .inr (3, [.ref b0, .int (nI 0), .int (nI 0), .int (nI 0), .int (nI 0), .int (nI 0)])), (w1, .inr (3, [.ref b1, .int (nI 0), .int (nI 0), .int (nI 0), .int (nI 0), .int (nI 0)])), (chC, .inl (K 5, 16, .inr (.inr (.inr (.inr ghC))))), (chS, .inl (K 5, 16, .inr (.inr (.inr (.inr ghS))))), (out, .inl (K 1, 1, .inr (.inl (vp_updL (fun _ => 0) (nI 0).toNatClampNeg (0)))))] hZ (by decide) rfl
  refine vx_ret ?_
  exact z_iret hx hb hr rfl hlocks hK hZ hS ⟨(vp_updL (fun _ => 0) (nI 0).toNatClampNeg (0)), ⟨hk9.symm, (zgo0 _)⟩, rfl⟩ (Nat.le_of_ble_eq_true rfl) (Nat.le_of_ble_eq_true rfl) dL_about_22
abbrev ROOM_L_channel : Room := { frames := 7, cells := 1, slots := 6, locals := 123 }
set_option maxHeartbeats 4000000 in
set_option maxRecDepth 100000 in
/-- the law's channel -/
theorem c_L_channel (E : zEn) (l : Launch) (hfl : l.stackTraces = false) (D : va_G) (K : Nat → ClassId) (X : va_W) (L : List Nat) (T : Nat → va_E → Prop) {x : Nat} {k : Int32} {w : Int32} {out : Nat} {cl : Nat} {tp wi sv : Nat} {exC owC iwC stC chC : Nat} {ghC : Nat → Option Nat} (h_cl : cl ∈ L) (k_cl : T cl = zOp 6 (zCl exC owC iwC stC chC)) (hSt : zSt E) (hgC : zAll 16 ghC L T (zOp 5 zCh)) : zXi E l D vwCl (zT K) yL_channel (zwsH yL_channel cL_channel 5 (some .int) [(0, 10, 13, 25), (0, 10, 17, 19)]) ROOM_L_channel 1 6 [.ref x, .int k, .int w, .ref out] X [(x, .inr (13, [.ref tp, .ref wi, .ref cl, .ref sv])), (chC, .inl (K 5, 16, .inr (.inr (.inr (.inr ghC))))), (out, .inl (K 1, 1, .inr (.inl (fun _ => 0))))] L T (fun (r : Int32) (u : zU) => ∃ (go : Nat → Int64), (r = nI 1 ∧ go 0 = 0) ∧ u = ([(x, .inr (13, [.ref tp, .ref wi, .ref cl, .ref sv])), (chC, .inl (K 5, 16, .inr (.inr (.inr (.inr ghC))))), (out, .inl (K 1, 1, .inr (.inl go)))], L, T)) (fun (_ : String) (_ : zU) => False) := by
  refine z_ofWH (E := E) (Qc := fun A => va_Qi (fun (r : Int32) (u : zU) => ∃ (go : Nat → Int64), (r = nI 1 ∧ go 0 = 0) ∧ u = ([(x, .inr (13, [.ref tp, .ref wi, .ref cl, .ref sv])), (chC, .inl (K 5, 16, .inr (.inr (.inr (.inr ghC))))), (out, .inl (K 1, 1, .inr (.inl go)))], L, T)) (zB D vwCl (zT K) A X) A) (XC := fun A => zXC D vwCl (zT K) A X (fun (_ : String) (_ : zU) => False)) (cc := cL_channel) (maxL := 5) (ret := (some .int)) (hh := [(0, 10, 13, 25), (0, 10, 17, 19)]) (by decide +kernel) rfl (Nat.le_of_ble_eq_true rfl) ?_
  intro p e s m below meth c A ls hx hb hml hr hts hown hlocks htab hA hK hZ hS hE hl
  have hown : s.vm.findClass RL = some m.cls := hown
  have hts : ∀ w9 ∈ WR, w9.before [.ref x, .int k, .int w, .ref out].toArray s = true := fun w9 h => hts w9 (List.mem_cons_of_mem _ h)
  have hl : lv_has ls 5 [(0, .ref x), (1, .int k), (2, .int w), (3, .ref out)] := hl
  obtain ⟨H, hH⟩ : ∃ H, H = s.heap := ⟨_, rfl⟩
  have hZ : zP D vwCl A X [(x, .inr (13, [.ref tp, .ref wi, .ref cl, .ref sv])), (chC, .inl (K 5, 16, .inr (.inr (.inr (.inr ghC))))), (out, .inl (K 1, 1, .inr (.inl (fun _ => 0))))] L T H := by rw [hH]; exact hZ
  obtain ⟨locs, hlc⟩ : ∃ q : List Loc, q = [] := ⟨_, rfl⟩
  have hS : va_S A s.heap H locs := by rw [hH, hlc]; exact hS
  suffices hW : W p l e ROOM_L_channel s m [.ref x, .int k, .int w, .ref out].toArray below meth c H locs 0 0 (vx_MQ below (va_Qi (fun (r : Int32) (u : zU) => ∃ (go : Nat → Int64), (r = nI 1 ∧ go 0 = 0) ∧ u = ([(x, .inr (13, [.ref tp, .ref wi, .ref cl, .ref sv])), (chC, .inl (K 5, 16, .inr (.inr (.inr (.inr ghC))))), (out, .inl (K 1, 1, .inr (.inl go)))], L, T)) (zB D vwCl (zT K) A X) A) (zXC D vwCl (zT K) A X (fun (_ : String) (_ : zU) => False)) [.ref x, .int k, .int w, .ref out].toArray s 1 6 A) (F0 m 0 ls []) by rw [hH, hlc] at hW; exact hW
  clear hH hlc
  refine lv_aload_n hx hb dL_channel_0 rfl (lv_at hl 3 rfl) ?_
  refine lv_iconst (v := nI 0) hx hb dL_channel_1 (by decide +kernel) ?_
  refine lv_aload_n hx hb dL_channel_2 rfl (lv_at hl 0 rfl) ?_
  refine lv_iload_n hx hb dL_channel_3 rfl (lv_at hl 1 rfl) ?_
  refine lv_iload_n hx hb dL_channel_4 rfl (lv_at hl 2 rfl) ?_
  have rv1 : ∃ cell : Cell, H[x]? = some cell ∧ cell.vm.isStatics = false ∧ s.vm.findClass RX12 = some cell.cls := z_recvY hK hZ 0 rfl rfl
  have hZc := zP.into (Y1 := [(out, .inl (K 1, 1, .inr (.inl (fun _ => 0))))]) (Y2 := [(x, .inr (13, [.ref tp, .ref wi, .ref cl, .ref sv])), (chC, .inl (K 5, 16, .inr (.inr (.inr (.inr ghC)))))]) (zP.pick [2, 0, 1] [(out, .inl (K 1, 1, .inr (.inl (fun _ => 0)))), (x, .inr (13, [.ref tp, .ref wi, .ref cl, .ref sv])), (chC, .inl (K 5, 16, .inr (.inr (.inr (.inr ghC)))))] hZ (by decide) rfl)
  refine z_goXI (vx_runV (As := [.int k, .int w]) (rest := [.int (nI 0), .ref out]) ⟨hx, hb, hml, hown, hts⟩ ((c_X12_channel E l hfl D K (X ++ [(out, .inl (K 1, 1, .inr (.inl (fun _ => 0))))]) L T h_cl k_cl hSt hgC) H.size) (cwV 2 hts (zg_V zw_1094 zw_967 zw_1095 zw_813 zw_966) rfl rfl rfl (by decide +kernel) ⟨Nat.le_of_ble_eq_true rfl, Nat.le_of_ble_eq_true rfl⟩) (z_preV hK hZc hS hA hE rv1) rfl rfl hl.1 rfl (lv_room (Nat.le_of_ble_eq_true rfl)) dL_channel_5 ⟨Nat.le_of_ble_eq_true rfl, Nat.le_of_ble_eq_true rfl⟩) hZc hS hA (fun E9 ce9 q9 Y1 L1 T1 H locs hp hZ hS hc9 hv9 hcl9 => ?_) (fun x2 Y1 L1 T1 H locs hp hZ hS => ?_)
  · obtain ⟨hu, hp⟩ := hp
    cases hu
    have hZ : zP D vwCl A X [(out, .inl (K 1, 1, .inr (.inl (fun _ => 0)))), (x, .inr (13, [.ref tp, .ref wi, .ref cl, .ref sv])), (chC, .inl (K 5, 16, .inr (.inr (.inr (.inr ghC)))))] L T H := zP.back hZ
    rcases hp with rfl
    · refine vx_catch (name := "java/util/NoSuchElementException") hown [] { startPc := 0, endPc := 10, handlerPc := 13, catchType := 25 } [{ startPc := 0, endPc := 10, handlerPc := 17, catchType := 19 }] (by rw [htab]; rfl) (fun _ h => absurd h List.not_mem_nil) (by decide) (by decide) (hts _ zw_1098) (va_Nw.use rfl (zcst hE (List.mem_of_getElem? (i := 2) rfl))) hc9 hv9 hcl9 ?_
      refine lv_astore (lv' := [(4, .ref q9), (0, .ref x), (1, .int k), (2, .int w), (3, .ref out)]) hx hb dL_channel_13 hl (by decide) rfl (fun ls hl => ?_)
      refine lv_iconst (v := nI 1) hx hb dL_channel_15 (by decide +kernel) ?_
      have hZ : zP D vwCl A X [(x, .inr (13, [.ref tp, .ref wi, .ref cl, .ref sv])), (chC, .inl (K 5, 16, .inr (.inr (.inr (.inr ghC))))), (out, .inl (K 1, 1, .inr (.inl (fun _ => 0))))] L T H := zP.pick [1, 2, 0] [(x, .inr (13, [.ref tp, .ref wi, .ref cl, .ref sv])), (chC, .inl (K 5, 16, .inr (.inr (.inr (.inr ghC))))), (out, .inl (K 1, 1, .inr (.inl (fun _ => 0))))] hZ (by decide) rfl
      refine vx_ret ?_
      exact z_iret hx hb hr rfl hlocks hK hZ hS ⟨(fun _ => 0), ⟨rfl, rfl⟩, rfl⟩ (Nat.le_of_ble_eq_true rfl) (Nat.le_of_ble_eq_true rfl) dL_channel_16
  obtain ⟨hnever, hp⟩ := hp
  cases hp
  exact hnever.elim
end ZME

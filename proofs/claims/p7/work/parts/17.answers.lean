section ZME
/-! What each call answers on a fresh object: 0, or the number of the throw. -/
theorem zi0 : (nI 0).toInt = 0 := by decide +kernel
theorem zi1 : (nI 1).toInt = 1 := by decide +kernel
def zka_end (n : Int32) : Int32 := if n.toInt = 0 then nI 0 else nI 1
def zka_secret (w : Int32) : Int32 := if 0 ≤ w.toInt ∧ w.toInt ≤ 4 then nI 2 else nI 1
def zka_set (ee w v : Int32) : Int32 := if (ee.toInt = 0 ∨ ee.toInt = 1) ∧ 0 ≤ w.toInt ∧ w.toInt ≤ 4 then (if ((w.toInt = 2 ∧ 1 ≤ v.toInt ∧ v.toInt ≤ 16384) ∨ (w.toInt = 3 ∧ 16 ≤ v.toInt ∧ v.toInt ≤ 32768) ∨ (w.toInt = 4 ∧ 256 ≤ v.toInt ∧ v.toInt ≤ 1073741824) ∨ (w.toInt ≠ 2 ∧ w.toInt ≠ 3 ∧ w.toInt ≠ 4 ∧ (v.toInt = 1 ∨ v.toInt = 2 ∨ v.toInt = 12 ∨ v.toInt = 21))) then nI 0 else nI 2) else nI 1
def zka_port (pp : Int32) : Int32 := if 1 ≤ pp.toInt ∧ pp.toInt ≤ 65535 then nI 0 else nI 1
def zka_move (ee n : Int32) : Int32 := if (ee.toInt = 0 ∨ ee.toInt = 1) then (if n.toInt < 1 then nI 2 else nI 0) else nI 1
def zka_e2 (ee : Int32) : Int32 := if (ee.toInt = 0 ∨ ee.toInt = 1) then nI 2 else nI 1
def zka_e0 (ee : Int32) : Int32 := if (ee.toInt = 0 ∨ ee.toInt = 1) then nI 0 else nI 1
def zka_open (k : Int32) : Int32 := if 0 ≤ k.toInt ∧ k.toInt ≤ 65535 then nI 2 else nI 1
def zka_about (ee w : Int32) : Int32 := if (ee.toInt = 0 ∨ ee.toInt = 1) then (if 0 ≤ w.toInt ∧ w.toInt ≤ 12 then nI 0 else nI 2) else nI 1
def zra_count (w : Int32) : Int32 := if 0 ≤ w.toInt ∧ w.toInt ≤ 4 then nI 0 else -1
def zGS : Nat → Int32 := (upd (upd (upd (upd (upd (fun _ => 0) 0 (nI 12)) 1 (nI 21)) 2 (nI 4096)) 3 (nI 1024)) 4 (nI 1073741824))
def zra_set (ee w v : Int32) : Int32 := if zka_set ee w v = nI 0 then zGS w.toNatClampNeg else nI 0
def zli (x : Int32) : Int64 := x.toInt64
theorem zgo0 (v : Int64) : vp_updL (fun _ => 0) (nI 0).toNatClampNeg v 0 = v := rfl
theorem zq_clamp {x : Int32} {n : Nat} (h0 : 0 ≤ x.toInt) (h1 : x.toInt < n) : x.toNatClampNeg < n := by
  show x.toInt.toNat < n
  omega
theorem zq_in {x : Int32} {n : Nat} (h0 : 0 ≤ x.toInt) (h1 : x.toInt < n) : vp_in x n := vp_in_iff.mpr ⟨h0, h1⟩
theorem zq_nat {x : Int32} {n : Nat} (h0 : 0 ≤ x.toInt) (h1 : x.toInt ≤ n) (hn : n < 2147483648) : ∃ k : Nat, x = nI k ∧ x.toInt = k := by
  refine ⟨x.toInt.toNat, Int32.toInt_inj.mp ?_, by omega⟩
  have h : (nI x.toInt.toNat).toInt = x.toInt.toNat := nI_toInt (by omega)
  omega
theorem zlcmp (x : Int64) : lg_cmp x x = nI 0 := by
  have h : ¬ x > x := fun q => by
    rw [gt_iff_lt, Int64.lt_iff_toInt_lt] at q
    omega
  unfold lg_cmp
  rw [if_neg h, if_pos rfl]
  decide +kernel
theorem zminc {x y : Int32} (h : y.toInt ≤ x.toInt) : (if y < x then y else x) = y := by
  by_cases q : y < x
  · rw [if_pos q]
  · rw [if_neg q]
    have := zq_lt_f q
    exact Int32.toInt_inj.mp (by omega)
theorem zne_0 {x : Int32} (h : ¬ x = nI 0) : x.toInt ≠ 0 := fun q => h (Int32.toInt_inj.mp (q.trans zi0.symm))
theorem zne_1 {x : Int32} (h : ¬ x = nI 1) : x.toInt ≠ 1 := fun q => h (Int32.toInt_inj.mp (q.trans zi1.symm))

abbrev ROOM_X1_cut_z : Room := { frames := 1, cells := 0, slots := 0, locals := 0 }
set_option maxHeartbeats 4000000 in
set_option maxRecDepth 100000 in
/-- cut to nothing -/
theorem c_X1_cut_z (E : zEn) (l : Launch) (D : va_G) (K : Nat → ClassId) (X : va_W) (L : List Nat) (T : Nat → va_E → Prop) {b : Nat} {k : Int32} {d f : Nat} {cu bd ts : Int32}  (hk : k.toInt = 0) : zV E l D vwCl (zT K) yX1_cut (zws yX1_cut cX1_cut 2 none) ROOM_X1_cut_z 0 0 [.ref b, .int k] X [(b, .inr (3, [.ref d, .int (nI f), .int (nI 0), .int cu, .int bd, .int ts]))] L T (fun (u : zU) => u = ([(b, .inr (3, [.ref d, .int (nI f), .int (nI 0), .int cu, .int bd, .int ts]))], L, T)) := by
  refine z_ofW (E := E) (Qc := fun A => va_Qv (fun (u : zU) => u = ([(b, .inr (3, [.ref d, .int (nI f), .int (nI 0), .int cu, .int bd, .int ts]))], L, T)) (zB D vwCl (zT K) A X) A) (cc := cX1_cut) (maxL := 2) (ret := none) (by decide +kernel) rfl (Nat.le_of_ble_eq_true rfl) ?_
  intro p e s m below meth c A ls hx hb hml hr hts hown hlocks hin hA hK hZ hS hE hl
  have hown : s.vm.findClass RX1 = some m.cls := hown
  have hts : ∀ w ∈ WR, w.before [.ref b, .int k].toArray s = true := fun w h => hts w (List.mem_cons_of_mem _ h)
  have hl : lv_has ls 2 [(0, .ref b), (1, .int k)] := hl
  obtain ⟨H, hH⟩ : ∃ H, H = s.heap := ⟨_, rfl⟩
  have hZ : zP D vwCl A X [(b, .inr (3, [.ref d, .int (nI f), .int (nI 0), .int cu, .int bd, .int ts]))] L T H := by rw [hH]; exact hZ
  obtain ⟨locs, hlc⟩ : ∃ q : List Loc, q = [] := ⟨_, rfl⟩
  have hS : va_S A s.heap H locs := by rw [hH, hlc]; exact hS
  suffices hW : W p l e ROOM_X1_cut_z s m [.ref b, .int k].toArray below meth c H locs 0 0 (MQ below (va_Qv (fun (u : zU) => u = ([(b, .inr (3, [.ref d, .int (nI f), .int (nI 0), .int cu, .int bd, .int ts]))], L, T)) (zB D vwCl (zT K) A X) A) [.ref b, .int k].toArray s 0 0 A) (F0 m 0 ls []) by rw [hH, hlc] at hW; exact hW
  clear hH hlc
  refine lv_iload_n hx hb dX1_cut_0 rfl (lv_at hl 1 rfl) ?_
  refine lv_if_lt (tgt := 17) hx hb dX1_cut_1 (by decide) (fun c1 => by have h := zq_lt_t c1; have e : (0 : Int32).toInt = 0 := (by decide +kernel); omega) (fun c1 => ?_)
  refine lv_iload_n hx hb dX1_cut_4 rfl (lv_at hl 1 rfl) ?_
  refine lv_aload_n hx hb dX1_cut_5 rfl (lv_at hl 0 rfl) ?_
  refine z_getY (own := RX1) (C := RX1) (TT := TX1) (N := 6) (ci := 3) (Ts := WR) hx hb hts zin_wsX10 hown hK hZ 0 rfl rfl 2 (by decide) (hts _ zw_497) (fun _ h9 => h9) rfl dX1_cut_6 ?_
  refine lv_icmp_ge (tgt := 17) hx hb dX1_cut_9 (by decide) (fun c9 => ?_) (fun c9 => by have h := zq_ge_f c9; have e : (nI 0 : Int32).toInt = 0 := (by decide +kernel); omega)
  exact z_vret hx hb hr hlocks hK hZ hS rfl (Nat.le_of_ble_eq_true rfl) (Nat.le_of_ble_eq_true rfl) dX1_cut_17
abbrev ROOM_X12_endOf_e0 : Room := { frames := 1, cells := 0, slots := 0, locals := 0 }
set_option maxHeartbeats 4000000 in
set_option maxRecDepth 100000 in
/-- endOf -/
theorem c_X12_endOf_e0 (E : zEn) (l : Launch) (D : va_G) (K : Nat → ClassId) (X : va_W) (L : List Nat) (T : Nat → va_E → Prop) {x : Nat} {tp wi cl sv : Nat}   : zVq E l D vwCl (zT K) yX12_endOf (zws yX12_endOf cX12_endOf 2 (some (.object "ShellPair$End"))) ROOM_X12_endOf_e0 0 0 [.ref x, .int (nI 0)] X [(x, .inr (13, [.ref tp, .ref wi, .ref cl, .ref sv]))] L T (fun (r : Option Nat) (u : zU) => r = some cl ∧ u = ([(x, .inr (13, [.ref tp, .ref wi, .ref cl, .ref sv]))], L, T)) := by
  refine z_ofW (E := E) (Qc := fun A => va_Qq (fun (r : Option Nat) (u : zU) => r = some cl ∧ u = ([(x, .inr (13, [.ref tp, .ref wi, .ref cl, .ref sv]))], L, T)) (zB D vwCl (zT K) A X) A) (cc := cX12_endOf) (maxL := 2) (ret := (some (.object "ShellPair$End"))) (by decide +kernel) rfl (Nat.le_of_ble_eq_true rfl) ?_
  intro p e s m below meth c A ls hx hb hml hr hts hown hlocks hin hA hK hZ hS hE hl
  have hown : s.vm.findClass RX12 = some m.cls := hown
  have hts : ∀ w ∈ WR, w.before [.ref x, .int (nI 0)].toArray s = true := fun w h => hts w (List.mem_cons_of_mem _ h)
  have hl : lv_has ls 2 [(0, .ref x), (1, .int (nI 0))] := hl
  obtain ⟨H, hH⟩ : ∃ H, H = s.heap := ⟨_, rfl⟩
  have hZ : zP D vwCl A X [(x, .inr (13, [.ref tp, .ref wi, .ref cl, .ref sv]))] L T H := by rw [hH]; exact hZ
  obtain ⟨locs, hlc⟩ : ∃ q : List Loc, q = [] := ⟨_, rfl⟩
  have hS : va_S A s.heap H locs := by rw [hH, hlc]; exact hS
  suffices hW : W p l e ROOM_X12_endOf_e0 s m [.ref x, .int (nI 0)].toArray below meth c H locs 0 0 (MQ below (va_Qq (fun (r : Option Nat) (u : zU) => r = some cl ∧ u = ([(x, .inr (13, [.ref tp, .ref wi, .ref cl, .ref sv]))], L, T)) (zB D vwCl (zT K) A X) A) [.ref x, .int (nI 0)].toArray s 0 0 A) (F0 m 0 ls []) by rw [hH, hlc] at hW; exact hW
  clear hH hlc
  refine lv_iload_n hx hb dX12_endOf_0 rfl (lv_at hl 1 rfl) ?_
  refine lv_if_ne (tgt := 9) hx hb dX12_endOf_1 (by decide) (fun c1 => absurd c1 (by decide +kernel)) (fun c1 => ?_)
  clear c1
  refine lv_aload_n hx hb dX12_endOf_4 rfl (lv_at hl 0 rfl) ?_
  refine z_getY (own := RX12) (C := RX12) (TT := TX12) (N := 4) (ci := 13) (Ts := WR) hx hb hts zin_wsX120 hown hK hZ 0 rfl rfl 2 (by decide) (hts _ zw_827) (fun _ h9 => h9) rfl dX12_endOf_5 ?_
  exact z_aret (r := (some cl)) hx hb hr (Or.inl ⟨_, rfl⟩) hlocks hK hZ hS ⟨(by first | rfl | decide +kernel | exact congrArg nI (by omega)), rfl⟩ (Nat.le_of_ble_eq_true rfl) (Nat.le_of_ble_eq_true rfl) dX12_endOf_8
abbrev ROOM_X12_endOf_e1 : Room := { frames := 1, cells := 0, slots := 0, locals := 0 }
set_option maxHeartbeats 4000000 in
set_option maxRecDepth 100000 in
/-- endOf -/
theorem c_X12_endOf_e1 (E : zEn) (l : Launch) (D : va_G) (K : Nat → ClassId) (X : va_W) (L : List Nat) (T : Nat → va_E → Prop) {x : Nat} {tp wi cl sv : Nat}   : zVq E l D vwCl (zT K) yX12_endOf (zws yX12_endOf cX12_endOf 2 (some (.object "ShellPair$End"))) ROOM_X12_endOf_e1 0 0 [.ref x, .int (nI 1)] X [(x, .inr (13, [.ref tp, .ref wi, .ref cl, .ref sv]))] L T (fun (r : Option Nat) (u : zU) => r = some sv ∧ u = ([(x, .inr (13, [.ref tp, .ref wi, .ref cl, .ref sv]))], L, T)) := by
  refine z_ofW (E := E) (Qc := fun A => va_Qq (fun (r : Option Nat) (u : zU) => r = some sv ∧ u = ([(x, .inr (13, [.ref tp, .ref wi, .ref cl, .ref sv]))], L, T)) (zB D vwCl (zT K) A X) A) (cc := cX12_endOf) (maxL := 2) (ret := (some (.object "ShellPair$End"))) (by decide +kernel) rfl (Nat.le_of_ble_eq_true rfl) ?_
  intro p e s m below meth c A ls hx hb hml hr hts hown hlocks hin hA hK hZ hS hE hl
  have hown : s.vm.findClass RX12 = some m.cls := hown
  have hts : ∀ w ∈ WR, w.before [.ref x, .int (nI 1)].toArray s = true := fun w h => hts w (List.mem_cons_of_mem _ h)
  have hl : lv_has ls 2 [(0, .ref x), (1, .int (nI 1))] := hl
  obtain ⟨H, hH⟩ : ∃ H, H = s.heap := ⟨_, rfl⟩
  have hZ : zP D vwCl A X [(x, .inr (13, [.ref tp, .ref wi, .ref cl, .ref sv]))] L T H := by rw [hH]; exact hZ
  obtain ⟨locs, hlc⟩ : ∃ q : List Loc, q = [] := ⟨_, rfl⟩
  have hS : va_S A s.heap H locs := by rw [hH, hlc]; exact hS
  suffices hW : W p l e ROOM_X12_endOf_e1 s m [.ref x, .int (nI 1)].toArray below meth c H locs 0 0 (MQ below (va_Qq (fun (r : Option Nat) (u : zU) => r = some sv ∧ u = ([(x, .inr (13, [.ref tp, .ref wi, .ref cl, .ref sv]))], L, T)) (zB D vwCl (zT K) A X) A) [.ref x, .int (nI 1)].toArray s 0 0 A) (F0 m 0 ls []) by rw [hH, hlc] at hW; exact hW
  clear hH hlc
  refine lv_iload_n hx hb dX12_endOf_0 rfl (lv_at hl 1 rfl) ?_
  refine lv_if_ne (tgt := 9) hx hb dX12_endOf_1 (by decide) (fun c1 => ?_) (fun c1 => absurd c1 (by decide +kernel))
  clear c1
  refine lv_iload_n hx hb dX12_endOf_9 rfl (lv_at hl 1 rfl) ?_
  refine lv_iconst (v := nI 1) hx hb dX12_endOf_10 (by decide +kernel) ?_
  refine lv_icmp_ne (tgt := 21) hx hb dX12_endOf_11 (by decide) (fun c11 => absurd c11 (by decide +kernel)) (fun c11 => ?_)
  clear c11
  refine lv_aload_n hx hb dX12_endOf_14 rfl (lv_at hl 0 rfl) ?_
  refine z_getY (own := RX12) (C := RX12) (TT := TX12) (N := 4) (ci := 13) (Ts := WR) hx hb hts zin_wsX120 hown hK hZ 0 rfl rfl 3 (by decide) (hts _ zw_831) (fun _ h9 => h9) rfl dX12_endOf_15 ?_
  refine lv_goto (tgt := 22) hx hb dX12_endOf_18 (by decide) ?_
  exact z_aret (r := (some sv)) hx hb hr (Or.inl ⟨_, rfl⟩) hlocks hK hZ hS ⟨(by first | rfl | decide +kernel | exact congrArg nI (by omega)), rfl⟩ (Nat.le_of_ble_eq_true rfl) (Nat.le_of_ble_eq_true rfl) dX12_endOf_22
abbrev ROOM_X12_endOf_eN : Room := { frames := 1, cells := 0, slots := 0, locals := 0 }
set_option maxHeartbeats 4000000 in
set_option maxRecDepth 100000 in
/-- endOf -/
theorem c_X12_endOf_eN (E : zEn) (l : Launch) (D : va_G) (K : Nat → ClassId) (X : va_W) (L : List Nat) (T : Nat → va_E → Prop) {x : Nat} {ee : Int32} {tp wi cl sv : Nat}  (he0 : ee.toInt ≠ 0) (he1 : ee.toInt ≠ 1) : zVq E l D vwCl (zT K) yX12_endOf (zws yX12_endOf cX12_endOf 2 (some (.object "ShellPair$End"))) ROOM_X12_endOf_eN 0 0 [.ref x, .int ee] X [(x, .inr (13, [.ref tp, .ref wi, .ref cl, .ref sv]))] L T (fun (r : Option Nat) (u : zU) => r = none ∧ u = ([(x, .inr (13, [.ref tp, .ref wi, .ref cl, .ref sv]))], L, T)) := by
  refine z_ofW (E := E) (Qc := fun A => va_Qq (fun (r : Option Nat) (u : zU) => r = none ∧ u = ([(x, .inr (13, [.ref tp, .ref wi, .ref cl, .ref sv]))], L, T)) (zB D vwCl (zT K) A X) A) (cc := cX12_endOf) (maxL := 2) (ret := (some (.object "ShellPair$End"))) (by decide +kernel) rfl (Nat.le_of_ble_eq_true rfl) ?_
  intro p e s m below meth c A ls hx hb hml hr hts hown hlocks hin hA hK hZ hS hE hl
  have hown : s.vm.findClass RX12 = some m.cls := hown
  have hts : ∀ w ∈ WR, w.before [.ref x, .int ee].toArray s = true := fun w h => hts w (List.mem_cons_of_mem _ h)
  have hl : lv_has ls 2 [(0, .ref x), (1, .int ee)] := hl
  obtain ⟨H, hH⟩ : ∃ H, H = s.heap := ⟨_, rfl⟩
  have hZ : zP D vwCl A X [(x, .inr (13, [.ref tp, .ref wi, .ref cl, .ref sv]))] L T H := by rw [hH]; exact hZ
  obtain ⟨locs, hlc⟩ : ∃ q : List Loc, q = [] := ⟨_, rfl⟩
  have hS : va_S A s.heap H locs := by rw [hH, hlc]; exact hS
  suffices hW : W p l e ROOM_X12_endOf_eN s m [.ref x, .int ee].toArray below meth c H locs 0 0 (MQ below (va_Qq (fun (r : Option Nat) (u : zU) => r = none ∧ u = ([(x, .inr (13, [.ref tp, .ref wi, .ref cl, .ref sv]))], L, T)) (zB D vwCl (zT K) A X) A) [.ref x, .int ee].toArray s 0 0 A) (F0 m 0 ls []) by rw [hH, hlc] at hW; exact hW
  clear hH hlc
  refine lv_iload_n hx hb dX12_endOf_0 rfl (lv_at hl 1 rfl) ?_
  refine lv_if_ne (tgt := 9) hx hb dX12_endOf_1 (by decide) (fun c1 => ?_) (fun c1 => by have h := zq_ne_f c1; have e : (0 : Int32).toInt = 0 := (by decide +kernel); omega)
  refine lv_iload_n hx hb dX12_endOf_9 rfl (lv_at hl 1 rfl) ?_
  refine lv_iconst (v := nI 1) hx hb dX12_endOf_10 (by decide +kernel) ?_
  refine lv_icmp_ne (tgt := 21) hx hb dX12_endOf_11 (by decide) (fun c11 => ?_) (fun c11 => by have h := zq_ne_f c11; have e : (nI 1 : Int32).toInt = 1 := (by decide +kernel); omega)
  refine lv_null hx hb dX12_endOf_21 ?_
  exact z_aret (r := none) hx hb hr (Or.inl ⟨_, rfl⟩) hlocks hK hZ hS ⟨(by first | rfl | decide +kernel | exact congrArg nI (by omega)), rfl⟩ (Nat.le_of_ble_eq_true rfl) (Nat.le_of_ble_eq_true rfl) dX12_endOf_22
abbrev ROOM_X12_isSetting : Room := { frames := 1, cells := 0, slots := 0, locals := 0 }
set_option maxHeartbeats 4000000 in
set_option maxRecDepth 100000 in
/-- isSetting -/
theorem c_X12_isSetting (E : zEn) (l : Launch) (D : va_G) (K : Nat → ClassId) (X Y : va_W) (L : List Nat) (T : Nat → va_E → Prop) {w : Int32} {v : Int32}    : zVi E l D vwCl (zT K) yX12_isSetting (zws yX12_isSetting cX12_isSetting 2 (some .boolean)) ROOM_X12_isSetting 0 0 [.int w, .int v] X Y L T (fun (r : Int32) (u : zU) => ((r = nI 1 ∧ ((w.toInt = 2 ∧ 1 ≤ v.toInt ∧ v.toInt ≤ 16384) ∨ (w.toInt = 3 ∧ 16 ≤ v.toInt ∧ v.toInt ≤ 32768) ∨ (w.toInt = 4 ∧ 256 ≤ v.toInt ∧ v.toInt ≤ 1073741824) ∨ (w.toInt ≠ 2 ∧ w.toInt ≠ 3 ∧ w.toInt ≠ 4 ∧ (v.toInt = 1 ∨ v.toInt = 2 ∨ v.toInt = 12 ∨ v.toInt = 21)))) ∨ (r = nI 0 ∧ ¬ ((w.toInt = 2 ∧ 1 ≤ v.toInt ∧ v.toInt ≤ 16384) ∨ (w.toInt = 3 ∧ 16 ≤ v.toInt ∧ v.toInt ≤ 32768) ∨ (w.toInt = 4 ∧ 256 ≤ v.toInt ∧ v.toInt ≤ 1073741824) ∨ (w.toInt ≠ 2 ∧ w.toInt ≠ 3 ∧ w.toInt ≠ 4 ∧ (v.toInt = 1 ∨ v.toInt = 2 ∨ v.toInt = 12 ∨ v.toInt = 21))))) ∧ u = (Y, L, T)) := by
  refine z_ofW (E := E) (Qc := fun A => va_Qi (fun (r : Int32) (u : zU) => ((r = nI 1 ∧ ((w.toInt = 2 ∧ 1 ≤ v.toInt ∧ v.toInt ≤ 16384) ∨ (w.toInt = 3 ∧ 16 ≤ v.toInt ∧ v.toInt ≤ 32768) ∨ (w.toInt = 4 ∧ 256 ≤ v.toInt ∧ v.toInt ≤ 1073741824) ∨ (w.toInt ≠ 2 ∧ w.toInt ≠ 3 ∧ w.toInt ≠ 4 ∧ (v.toInt = 1 ∨ v.toInt = 2 ∨ v.toInt = 12 ∨ v.toInt = 21)))) ∨ (r = nI 0 ∧ ¬ ((w.toInt = 2 ∧ 1 ≤ v.toInt ∧ v.toInt ≤ 16384) ∨ (w.toInt = 3 ∧ 16 ≤ v.toInt ∧ v.toInt ≤ 32768) ∨ (w.toInt = 4 ∧ 256 ≤ v.toInt ∧ v.toInt ≤ 1073741824) ∨ (w.toInt ≠ 2 ∧ w.toInt ≠ 3 ∧ w.toInt ≠ 4 ∧ (v.toInt = 1 ∨ v.toInt = 2 ∨ v.toInt = 12 ∨ v.toInt = 21))))) ∧ u = (Y, L, T)) (zB D vwCl (zT K) A X) A) (cc := cX12_isSetting) (maxL := 2) (ret := (some .boolean)) (by decide +kernel) rfl (Nat.le_of_ble_eq_true rfl) ?_
  intro p e s m below meth c A ls hx hb hml hr hts hown hlocks hin hA hK hZ hS hE hl
  have hown : s.vm.findClass RX12 = some m.cls := hown
  have hts : ∀ w9 ∈ WR, w9.before [.int w, .int v].toArray s = true := fun w9 h => hts w9 (List.mem_cons_of_mem _ h)
  have hl : lv_has ls 2 [(0, .int w), (1, .int v)] := hl
  obtain ⟨H, hH⟩ : ∃ H, H = s.heap := ⟨_, rfl⟩
  have hZ : zP D vwCl A X Y L T H := by rw [hH]; exact hZ
  obtain ⟨locs, hlc⟩ : ∃ q : List Loc, q = [] := ⟨_, rfl⟩
  have hS : va_S A s.heap H locs := by rw [hH, hlc]; exact hS
  suffices hW : W p l e ROOM_X12_isSetting s m [.int w, .int v].toArray below meth c H locs 0 0 (MQ below (va_Qi (fun (r : Int32) (u : zU) => ((r = nI 1 ∧ ((w.toInt = 2 ∧ 1 ≤ v.toInt ∧ v.toInt ≤ 16384) ∨ (w.toInt = 3 ∧ 16 ≤ v.toInt ∧ v.toInt ≤ 32768) ∨ (w.toInt = 4 ∧ 256 ≤ v.toInt ∧ v.toInt ≤ 1073741824) ∨ (w.toInt ≠ 2 ∧ w.toInt ≠ 3 ∧ w.toInt ≠ 4 ∧ (v.toInt = 1 ∨ v.toInt = 2 ∨ v.toInt = 12 ∨ v.toInt = 21)))) ∨ (r = nI 0 ∧ ¬ ((w.toInt = 2 ∧ 1 ≤ v.toInt ∧ v.toInt ≤ 16384) ∨ (w.toInt = 3 ∧ 16 ≤ v.toInt ∧ v.toInt ≤ 32768) ∨ (w.toInt = 4 ∧ 256 ≤ v.toInt ∧ v.toInt ≤ 1073741824) ∨ (w.toInt ≠ 2 ∧ w.toInt ≠ 3 ∧ w.toInt ≠ 4 ∧ (v.toInt = 1 ∨ v.toInt = 2 ∨ v.toInt = 12 ∨ v.toInt = 21))))) ∧ u = (Y, L, T)) (zB D vwCl (zT K) A X) A) [.int w, .int v].toArray s 0 0 A) (F0 m 0 ls []) by rw [hH, hlc] at hW; exact hW
  clear hH hlc
  refine lv_iload_n hx hb dX12_isSetting_0 rfl (lv_at hl 0 rfl) ?_
  refine lv_iconst (v := nI 2) hx hb dX12_isSetting_1 (by decide +kernel) ?_
  refine lv_icmp_ne (tgt := 23) hx hb dX12_isSetting_2 (by decide) (fun c2 => ?_) (fun c2 => ?_)
  · have i2 : w.toInt ≠ 2 := (by have h := zq_ne_t c2; have e : (nI 2 : Int32).toInt = 2 := (by decide +kernel); omega)
    refine lv_iload_n hx hb dX12_isSetting_23 rfl (lv_at hl 0 rfl) ?_
    refine lv_iconst (v := nI 3) hx hb dX12_isSetting_24 (by decide +kernel) ?_
    refine lv_icmp_ne (tgt := 47) hx hb dX12_isSetting_25 (by decide) (fun c25 => ?_) (fun c25 => ?_)
    · have i25 : w.toInt ≠ 3 := (by have h := zq_ne_t c25; have e : (nI 3 : Int32).toInt = 3 := (by decide +kernel); omega)
      refine lv_iload_n hx hb dX12_isSetting_47 rfl (lv_at hl 0 rfl) ?_
      refine lv_iconst (v := nI 4) hx hb dX12_isSetting_48 (by decide +kernel) ?_
      refine lv_icmp_ne (tgt := 72) hx hb dX12_isSetting_49 (by decide) (fun c49 => ?_) (fun c49 => ?_)
      · have i49 : w.toInt ≠ 4 := (by have h := zq_ne_t c49; have e : (nI 4 : Int32).toInt = 4 := (by decide +kernel); omega)
        refine lv_iload_n hx hb dX12_isSetting_72 rfl (lv_at hl 1 rfl) ?_
        refine lv_iconst (v := nI 1) hx hb dX12_isSetting_73 (by decide +kernel) ?_
        refine lv_icmp_eq (tgt := 94) hx hb dX12_isSetting_74 (by decide) (fun c74 => ?_) (fun c74 => ?_)
        · have i74 : v.toInt = 1 := (by have h := zq_eq_t c74; have e : (nI 1 : Int32).toInt = 1 := (by decide +kernel); omega)
          refine lv_iconst (v := nI 1) hx hb dX12_isSetting_94 (by decide +kernel) ?_
          show W p l e ROOM_X12_isSetting s m [.int w, .int v].toArray below meth c H locs 0 0 (MQ below (va_Qi (fun (r : Int32) (u : zU) => ((r = nI 1 ∧ ((w.toInt = 2 ∧ 1 ≤ v.toInt ∧ v.toInt ≤ 16384) ∨ (w.toInt = 3 ∧ 16 ≤ v.toInt ∧ v.toInt ≤ 32768) ∨ (w.toInt = 4 ∧ 256 ≤ v.toInt ∧ v.toInt ≤ 1073741824) ∨ (w.toInt ≠ 2 ∧ w.toInt ≠ 3 ∧ w.toInt ≠ 4 ∧ (v.toInt = 1 ∨ v.toInt = 2 ∨ v.toInt = 12 ∨ v.toInt = 21)))) ∨ (r = nI 0 ∧ ¬ ((w.toInt = 2 ∧ 1 ≤ v.toInt ∧ v.toInt ≤ 16384) ∨ (w.toInt = 3 ∧ 16 ≤ v.toInt ∧ v.toInt ≤ 32768) ∨ (w.toInt = 4 ∧ 256 ≤ v.toInt ∧ v.toInt ≤ 1073741824) ∨ (w.toInt ≠ 2 ∧ w.toInt ≠ 3 ∧ w.toInt ≠ 4 ∧ (v.toInt = 1 ∨ v.toInt = 2 ∨ v.toInt = 12 ∨ v.toInt = 21))))) ∧ u = (Y, L, T)) (zB D vwCl (zT K) A X) A) [.int w, .int v].toArray s 0 0 A) (F0 m 95 ls [.int (nI 1)])
          refine lv_goto (tgt := 99) hx hb dX12_isSetting_95 (by decide) ?_
          exact z_iret hx hb hr (by decide +kernel) hlocks hK hZ hS ⟨(Or.inl ⟨rfl, by omega⟩), rfl⟩ (Nat.le_of_ble_eq_true rfl) (Nat.le_of_ble_eq_true rfl) dX12_isSetting_99
        · have i74 : v.toInt ≠ 1 := (by have h := zq_eq_f c74; have e : (nI 1 : Int32).toInt = 1 := (by decide +kernel); omega)
          refine lv_iload_n hx hb dX12_isSetting_77 rfl (lv_at hl 1 rfl) ?_
          refine lv_iconst (v := nI 2) hx hb dX12_isSetting_78 (by decide +kernel) ?_
          show W p l e ROOM_X12_isSetting s m [.int w, .int v].toArray below meth c H locs 0 0 (MQ below (va_Qi (fun (r : Int32) (u : zU) => ((r = nI 1 ∧ ((w.toInt = 2 ∧ 1 ≤ v.toInt ∧ v.toInt ≤ 16384) ∨ (w.toInt = 3 ∧ 16 ≤ v.toInt ∧ v.toInt ≤ 32768) ∨ (w.toInt = 4 ∧ 256 ≤ v.toInt ∧ v.toInt ≤ 1073741824) ∨ (w.toInt ≠ 2 ∧ w.toInt ≠ 3 ∧ w.toInt ≠ 4 ∧ (v.toInt = 1 ∨ v.toInt = 2 ∨ v.toInt = 12 ∨ v.toInt = 21)))) ∨ (r = nI 0 ∧ ¬ ((w.toInt = 2 ∧ 1 ≤ v.toInt ∧ v.toInt ≤ 16384) ∨ (w.toInt = 3 ∧ 16 ≤ v.toInt ∧ v.toInt ≤ 32768) ∨ (w.toInt = 4 ∧ 256 ≤ v.toInt ∧ v.toInt ≤ 1073741824) ∨ (w.toInt ≠ 2 ∧ w.toInt ≠ 3 ∧ w.toInt ≠ 4 ∧ (v.toInt = 1 ∨ v.toInt = 2 ∨ v.toInt = 12 ∨ v.toInt = 21))))) ∧ u = (Y, L, T)) (zB D vwCl (zT K) A X) A) [.int w, .int v].toArray s 0 0 A) (F0 m 79 ls [.int (nI 2), .int v])
          refine lv_icmp_eq (tgt := 94) hx hb dX12_isSetting_79 (by decide) (fun c79 => ?_) (fun c79 => ?_)
          · have i79 : v.toInt = 2 := (by have h := zq_eq_t c79; have e : (nI 2 : Int32).toInt = 2 := (by decide +kernel); omega)
            refine lv_iconst (v := nI 1) hx hb dX12_isSetting_94 (by decide +kernel) ?_
            refine lv_goto (tgt := 99) hx hb dX12_isSetting_95 (by decide) ?_
            exact z_iret hx hb hr (by decide +kernel) hlocks hK hZ hS ⟨(Or.inl ⟨rfl, by omega⟩), rfl⟩ (Nat.le_of_ble_eq_true rfl) (Nat.le_of_ble_eq_true rfl) dX12_isSetting_99
          · have i79 : v.toInt ≠ 2 := (by have h := zq_eq_f c79; have e : (nI 2 : Int32).toInt = 2 := (by decide +kernel); omega)
            refine lv_iload_n hx hb dX12_isSetting_82 rfl (lv_at hl 1 rfl) ?_
            refine lv_bipush (v := nI 12) hx hb dX12_isSetting_83 (by decide +kernel) ?_
            refine lv_icmp_eq (tgt := 94) hx hb dX12_isSetting_85 (by decide) (fun c85 => ?_) (fun c85 => ?_)
            · have i85 : v.toInt = 12 := (by have h := zq_eq_t c85; have e : (nI 12 : Int32).toInt = 12 := (by decide +kernel); omega)
              refine lv_iconst (v := nI 1) hx hb dX12_isSetting_94 (by decide +kernel) ?_
              refine lv_goto (tgt := 99) hx hb dX12_isSetting_95 (by decide) ?_
              exact z_iret hx hb hr (by decide +kernel) hlocks hK hZ hS ⟨(Or.inl ⟨rfl, by omega⟩), rfl⟩ (Nat.le_of_ble_eq_true rfl) (Nat.le_of_ble_eq_true rfl) dX12_isSetting_99
            · have i85 : v.toInt ≠ 12 := (by have h := zq_eq_f c85; have e : (nI 12 : Int32).toInt = 12 := (by decide +kernel); omega)
              refine lv_iload_n hx hb dX12_isSetting_88 rfl (lv_at hl 1 rfl) ?_
              refine lv_bipush (v := nI 21) hx hb dX12_isSetting_89 (by decide +kernel) ?_
              refine lv_icmp_ne (tgt := 98) hx hb dX12_isSetting_91 (by decide) (fun c91 => ?_) (fun c91 => ?_)
              · have i91 : v.toInt ≠ 21 := (by have h := zq_ne_t c91; have e : (nI 21 : Int32).toInt = 21 := (by decide +kernel); omega)
                refine lv_iconst (v := nI 0) hx hb dX12_isSetting_98 (by decide +kernel) ?_
                exact z_iret hx hb hr (by decide +kernel) hlocks hK hZ hS ⟨(Or.inr (⟨rfl, by omega⟩)), rfl⟩ (Nat.le_of_ble_eq_true rfl) (Nat.le_of_ble_eq_true rfl) dX12_isSetting_99
              · have i91 : v.toInt = 21 := (by have h := zq_ne_f c91; have e : (nI 21 : Int32).toInt = 21 := (by decide +kernel); omega)
                refine lv_iconst (v := nI 1) hx hb dX12_isSetting_94 (by decide +kernel) ?_
                refine lv_goto (tgt := 99) hx hb dX12_isSetting_95 (by decide) ?_
                exact z_iret hx hb hr (by decide +kernel) hlocks hK hZ hS ⟨(Or.inl ⟨rfl, by omega⟩), rfl⟩ (Nat.le_of_ble_eq_true rfl) (Nat.le_of_ble_eq_true rfl) dX12_isSetting_99
      · have i49 : w.toInt = 4 := (by have h := zq_ne_f c49; have e : (nI 4 : Int32).toInt = 4 := (by decide +kernel); omega)
        refine lv_iload_n hx hb dX12_isSetting_52 rfl (lv_at hl 1 rfl) ?_
        refine lv_sipush (v := nI 256) hx hb dX12_isSetting_53 (by decide +kernel) ?_
        refine lv_icmp_lt (tgt := 70) hx hb dX12_isSetting_56 (by decide) (fun c56 => ?_) (fun c56 => ?_)
        · have i56 : v.toInt < 256 := (by have h := zq_lt_t c56; have e : (nI 256 : Int32).toInt = 256 := (by decide +kernel); omega)
          refine lv_iconst (v := nI 0) hx hb dX12_isSetting_70 (by decide +kernel) ?_
          exact z_iret hx hb hr (by decide +kernel) hlocks hK hZ hS ⟨(Or.inr (⟨rfl, by omega⟩)), rfl⟩ (Nat.le_of_ble_eq_true rfl) (Nat.le_of_ble_eq_true rfl) dX12_isSetting_71
        · have i56 : v.toInt ≥ 256 := (by have h := zq_lt_f c56; have e : (nI 256 : Int32).toInt = 256 := (by decide +kernel); omega)
          refine lv_iload_n hx hb dX12_isSetting_59 rfl (lv_at hl 1 rfl) ?_
          refine lv_ldcw (v := nI 1073741824) hx hb hown (hts _ zw_979) dX12_isSetting_60 ?_
          show W p l e ROOM_X12_isSetting s m [.int w, .int v].toArray below meth c H locs 0 0 (MQ below (va_Qi (fun (r : Int32) (u : zU) => ((r = nI 1 ∧ ((w.toInt = 2 ∧ 1 ≤ v.toInt ∧ v.toInt ≤ 16384) ∨ (w.toInt = 3 ∧ 16 ≤ v.toInt ∧ v.toInt ≤ 32768) ∨ (w.toInt = 4 ∧ 256 ≤ v.toInt ∧ v.toInt ≤ 1073741824) ∨ (w.toInt ≠ 2 ∧ w.toInt ≠ 3 ∧ w.toInt ≠ 4 ∧ (v.toInt = 1 ∨ v.toInt = 2 ∨ v.toInt = 12 ∨ v.toInt = 21)))) ∨ (r = nI 0 ∧ ¬ ((w.toInt = 2 ∧ 1 ≤ v.toInt ∧ v.toInt ≤ 16384) ∨ (w.toInt = 3 ∧ 16 ≤ v.toInt ∧ v.toInt ≤ 32768) ∨ (w.toInt = 4 ∧ 256 ≤ v.toInt ∧ v.toInt ≤ 1073741824) ∨ (w.toInt ≠ 2 ∧ w.toInt ≠ 3 ∧ w.toInt ≠ 4 ∧ (v.toInt = 1 ∨ v.toInt = 2 ∨ v.toInt = 12 ∨ v.toInt = 21))))) ∧ u = (Y, L, T)) (zB D vwCl (zT K) A X) A) [.int w, .int v].toArray s 0 0 A) (F0 m 63 ls [.int (nI 1073741824), .int v])
          refine lv_icmp_gt (tgt := 70) hx hb dX12_isSetting_63 (by decide) (fun c63 => ?_) (fun c63 => ?_)
          · have i63 : v.toInt > 1073741824 := (by have h := zq_gt_t c63; have e : (nI 1073741824 : Int32).toInt = 1073741824 := (by decide +kernel); omega)
            refine lv_iconst (v := nI 0) hx hb dX12_isSetting_70 (by decide +kernel) ?_
            exact z_iret hx hb hr (by decide +kernel) hlocks hK hZ hS ⟨(Or.inr (⟨rfl, by omega⟩)), rfl⟩ (Nat.le_of_ble_eq_true rfl) (Nat.le_of_ble_eq_true rfl) dX12_isSetting_71
          · have i63 : v.toInt ≤ 1073741824 := (by have h := zq_gt_f c63; have e : (nI 1073741824 : Int32).toInt = 1073741824 := (by decide +kernel); omega)
            refine lv_iconst (v := nI 1) hx hb dX12_isSetting_66 (by decide +kernel) ?_
            refine lv_goto (tgt := 71) hx hb dX12_isSetting_67 (by decide) ?_
            exact z_iret hx hb hr (by decide +kernel) hlocks hK hZ hS ⟨(Or.inl ⟨rfl, by omega⟩), rfl⟩ (Nat.le_of_ble_eq_true rfl) (Nat.le_of_ble_eq_true rfl) dX12_isSetting_71
    · have i25 : w.toInt = 3 := (by have h := zq_ne_f c25; have e : (nI 3 : Int32).toInt = 3 := (by decide +kernel); omega)
      refine lv_iload_n hx hb dX12_isSetting_28 rfl (lv_at hl 1 rfl) ?_
      refine lv_bipush (v := nI 16) hx hb dX12_isSetting_29 (by decide +kernel) ?_
      refine lv_icmp_lt (tgt := 45) hx hb dX12_isSetting_31 (by decide) (fun c31 => ?_) (fun c31 => ?_)
      · have i31 : v.toInt < 16 := (by have h := zq_lt_t c31; have e : (nI 16 : Int32).toInt = 16 := (by decide +kernel); omega)
        refine lv_iconst (v := nI 0) hx hb dX12_isSetting_45 (by decide +kernel) ?_
        exact z_iret hx hb hr (by decide +kernel) hlocks hK hZ hS ⟨(Or.inr (⟨rfl, by omega⟩)), rfl⟩ (Nat.le_of_ble_eq_true rfl) (Nat.le_of_ble_eq_true rfl) dX12_isSetting_46
      · have i31 : v.toInt ≥ 16 := (by have h := zq_lt_f c31; have e : (nI 16 : Int32).toInt = 16 := (by decide +kernel); omega)
        refine lv_iload_n hx hb dX12_isSetting_34 rfl (lv_at hl 1 rfl) ?_
        refine lv_ldcw (v := nI 32768) hx hb hown (hts _ zw_978) dX12_isSetting_35 ?_
        refine lv_icmp_gt (tgt := 45) hx hb dX12_isSetting_38 (by decide) (fun c38 => ?_) (fun c38 => ?_)
        · have i38 : v.toInt > 32768 := (by have h := zq_gt_t c38; have e : (nI 32768 : Int32).toInt = 32768 := (by decide +kernel); omega)
          refine lv_iconst (v := nI 0) hx hb dX12_isSetting_45 (by decide +kernel) ?_
          exact z_iret hx hb hr (by decide +kernel) hlocks hK hZ hS ⟨(Or.inr (⟨rfl, by omega⟩)), rfl⟩ (Nat.le_of_ble_eq_true rfl) (Nat.le_of_ble_eq_true rfl) dX12_isSetting_46
        · have i38 : v.toInt ≤ 32768 := (by have h := zq_gt_f c38; have e : (nI 32768 : Int32).toInt = 32768 := (by decide +kernel); omega)
          refine lv_iconst (v := nI 1) hx hb dX12_isSetting_41 (by decide +kernel) ?_
          show W p l e ROOM_X12_isSetting s m [.int w, .int v].toArray below meth c H locs 0 0 (MQ below (va_Qi (fun (r : Int32) (u : zU) => ((r = nI 1 ∧ ((w.toInt = 2 ∧ 1 ≤ v.toInt ∧ v.toInt ≤ 16384) ∨ (w.toInt = 3 ∧ 16 ≤ v.toInt ∧ v.toInt ≤ 32768) ∨ (w.toInt = 4 ∧ 256 ≤ v.toInt ∧ v.toInt ≤ 1073741824) ∨ (w.toInt ≠ 2 ∧ w.toInt ≠ 3 ∧ w.toInt ≠ 4 ∧ (v.toInt = 1 ∨ v.toInt = 2 ∨ v.toInt = 12 ∨ v.toInt = 21)))) ∨ (r = nI 0 ∧ ¬ ((w.toInt = 2 ∧ 1 ≤ v.toInt ∧ v.toInt ≤ 16384) ∨ (w.toInt = 3 ∧ 16 ≤ v.toInt ∧ v.toInt ≤ 32768) ∨ (w.toInt = 4 ∧ 256 ≤ v.toInt ∧ v.toInt ≤ 1073741824) ∨ (w.toInt ≠ 2 ∧ w.toInt ≠ 3 ∧ w.toInt ≠ 4 ∧ (v.toInt = 1 ∨ v.toInt = 2 ∨ v.toInt = 12 ∨ v.toInt = 21))))) ∧ u = (Y, L, T)) (zB D vwCl (zT K) A X) A) [.int w, .int v].toArray s 0 0 A) (F0 m 42 ls [.int (nI 1)])
          refine lv_goto (tgt := 46) hx hb dX12_isSetting_42 (by decide) ?_
          exact z_iret hx hb hr (by decide +kernel) hlocks hK hZ hS ⟨(Or.inl ⟨rfl, by omega⟩), rfl⟩ (Nat.le_of_ble_eq_true rfl) (Nat.le_of_ble_eq_true rfl) dX12_isSetting_46
  · have i2 : w.toInt = 2 := (by have h := zq_ne_f c2; have e : (nI 2 : Int32).toInt = 2 := (by decide +kernel); omega)
    refine lv_iload_n hx hb dX12_isSetting_5 rfl (lv_at hl 1 rfl) ?_
    refine lv_iconst (v := nI 1) hx hb dX12_isSetting_6 (by decide +kernel) ?_
    refine lv_icmp_lt (tgt := 21) hx hb dX12_isSetting_7 (by decide) (fun c7 => ?_) (fun c7 => ?_)
    · have i7 : v.toInt < 1 := (by have h := zq_lt_t c7; have e : (nI 1 : Int32).toInt = 1 := (by decide +kernel); omega)
      refine lv_iconst (v := nI 0) hx hb dX12_isSetting_21 (by decide +kernel) ?_
      exact z_iret hx hb hr (by decide +kernel) hlocks hK hZ hS ⟨(Or.inr (⟨rfl, by omega⟩)), rfl⟩ (Nat.le_of_ble_eq_true rfl) (Nat.le_of_ble_eq_true rfl) dX12_isSetting_22
    · have i7 : v.toInt ≥ 1 := (by have h := zq_lt_f c7; have e : (nI 1 : Int32).toInt = 1 := (by decide +kernel); omega)
      refine lv_iload_n hx hb dX12_isSetting_10 rfl (lv_at hl 1 rfl) ?_
      refine lv_sipush (v := nI 16384) hx hb dX12_isSetting_11 (by decide +kernel) ?_
      refine lv_icmp_gt (tgt := 21) hx hb dX12_isSetting_14 (by decide) (fun c14 => ?_) (fun c14 => ?_)
      · have i14 : v.toInt > 16384 := (by have h := zq_gt_t c14; have e : (nI 16384 : Int32).toInt = 16384 := (by decide +kernel); omega)
        refine lv_iconst (v := nI 0) hx hb dX12_isSetting_21 (by decide +kernel) ?_
        exact z_iret hx hb hr (by decide +kernel) hlocks hK hZ hS ⟨(Or.inr (⟨rfl, by omega⟩)), rfl⟩ (Nat.le_of_ble_eq_true rfl) (Nat.le_of_ble_eq_true rfl) dX12_isSetting_22
      · have i14 : v.toInt ≤ 16384 := (by have h := zq_gt_f c14; have e : (nI 16384 : Int32).toInt = 16384 := (by decide +kernel); omega)
        refine lv_iconst (v := nI 1) hx hb dX12_isSetting_17 (by decide +kernel) ?_
        refine lv_goto (tgt := 22) hx hb dX12_isSetting_18 (by decide) ?_
        exact z_iret hx hb hr (by decide +kernel) hlocks hK hZ hS ⟨(Or.inl ⟨rfl, by omega⟩), rfl⟩ (Nat.le_of_ble_eq_true rfl) (Nat.le_of_ble_eq_true rfl) dX12_isSetting_22
abbrev ROOM_X9_isPort : Room := { frames := 1, cells := 0, slots := 0, locals := 0 }
set_option maxHeartbeats 4000000 in
set_option maxRecDepth 100000 in
/-- isPort -/
theorem c_X9_isPort (E : zEn) (l : Launch) (D : va_G) (K : Nat → ClassId) (X Y : va_W) (L : List Nat) (T : Nat → va_E → Prop) {pp : Int32}    : zVi E l D vwCl (zT K) yX9_isPort (zws yX9_isPort cX9_isPort 1 (some .boolean)) ROOM_X9_isPort 0 0 [.int pp] X Y L T (fun (r : Int32) (u : zU) => ((r = nI 1 ∧ 1 ≤ pp.toInt ∧ pp.toInt ≤ 65535) ∨ (r = nI 0 ∧ ¬ (1 ≤ pp.toInt ∧ pp.toInt ≤ 65535))) ∧ u = (Y, L, T)) := by
  refine z_ofW (E := E) (Qc := fun A => va_Qi (fun (r : Int32) (u : zU) => ((r = nI 1 ∧ 1 ≤ pp.toInt ∧ pp.toInt ≤ 65535) ∨ (r = nI 0 ∧ ¬ (1 ≤ pp.toInt ∧ pp.toInt ≤ 65535))) ∧ u = (Y, L, T)) (zB D vwCl (zT K) A X) A) (cc := cX9_isPort) (maxL := 1) (ret := (some .boolean)) (by decide +kernel) rfl (Nat.le_of_ble_eq_true rfl) ?_
  intro p e s m below meth c A ls hx hb hml hr hts hown hlocks hin hA hK hZ hS hE hl
  have hown : s.vm.findClass RX9 = some m.cls := hown
  have hts : ∀ w ∈ WR, w.before [.int pp].toArray s = true := fun w h => hts w (List.mem_cons_of_mem _ h)
  have hl : lv_has ls 1 [(0, .int pp)] := hl
  obtain ⟨H, hH⟩ : ∃ H, H = s.heap := ⟨_, rfl⟩
  have hZ : zP D vwCl A X Y L T H := by rw [hH]; exact hZ
  obtain ⟨locs, hlc⟩ : ∃ q : List Loc, q = [] := ⟨_, rfl⟩
  have hS : va_S A s.heap H locs := by rw [hH, hlc]; exact hS
  suffices hW : W p l e ROOM_X9_isPort s m [.int pp].toArray below meth c H locs 0 0 (MQ below (va_Qi (fun (r : Int32) (u : zU) => ((r = nI 1 ∧ 1 ≤ pp.toInt ∧ pp.toInt ≤ 65535) ∨ (r = nI 0 ∧ ¬ (1 ≤ pp.toInt ∧ pp.toInt ≤ 65535))) ∧ u = (Y, L, T)) (zB D vwCl (zT K) A X) A) [.int pp].toArray s 0 0 A) (F0 m 0 ls []) by rw [hH, hlc] at hW; exact hW
  clear hH hlc
  refine lv_iload_n hx hb dX9_isPort_0 rfl (lv_at hl 0 rfl) ?_
  refine lv_iconst (v := nI 1) hx hb dX9_isPort_1 (by decide +kernel) ?_
  refine lv_icmp_lt (tgt := 15) hx hb dX9_isPort_2 (by decide) (fun c2 => ?_) (fun c2 => ?_)
  · have i2 : pp.toInt < 1 := (by have h := zq_lt_t c2; have e : (nI 1 : Int32).toInt = 1 := (by decide +kernel); omega)
    refine lv_iconst (v := nI 0) hx hb dX9_isPort_15 (by decide +kernel) ?_
    exact z_iret hx hb hr (by decide +kernel) hlocks hK hZ hS ⟨(Or.inr (⟨rfl, by omega⟩)), rfl⟩ (Nat.le_of_ble_eq_true rfl) (Nat.le_of_ble_eq_true rfl) dX9_isPort_16
  · have i2 : pp.toInt ≥ 1 := (by have h := zq_lt_f c2; have e : (nI 1 : Int32).toInt = 1 := (by decide +kernel); omega)
    refine lv_iload_n hx hb dX9_isPort_5 rfl (lv_at hl 0 rfl) ?_
    refine lv_ldc (v := nI 65535) hx hb hown (hts _ zw_773) dX9_isPort_6 ?_
    refine lv_icmp_gt (tgt := 15) hx hb dX9_isPort_8 (by decide) (fun c8 => ?_) (fun c8 => ?_)
    · have i8 : pp.toInt > 65535 := (by have h := zq_gt_t c8; have e : (nI 65535 : Int32).toInt = 65535 := (by decide +kernel); omega)
      refine lv_iconst (v := nI 0) hx hb dX9_isPort_15 (by decide +kernel) ?_
      exact z_iret hx hb hr (by decide +kernel) hlocks hK hZ hS ⟨(Or.inr (⟨rfl, by omega⟩)), rfl⟩ (Nat.le_of_ble_eq_true rfl) (Nat.le_of_ble_eq_true rfl) dX9_isPort_16
    · have i8 : pp.toInt ≤ 65535 := (by have h := zq_gt_f c8; have e : (nI 65535 : Int32).toInt = 65535 := (by decide +kernel); omega)
      refine lv_iconst (v := nI 1) hx hb dX9_isPort_11 (by decide +kernel) ?_
      refine lv_goto (tgt := 16) hx hb dX9_isPort_12 (by decide) ?_
      exact z_iret hx hb hr (by decide +kernel) hlocks hK hZ hS ⟨(Or.inl ⟨rfl, by omega⟩), rfl⟩ (Nat.le_of_ble_eq_true rfl) (Nat.le_of_ble_eq_true rfl) dX9_isPort_16
abbrev ROOM_X3_inUse : Room := { frames := 1, cells := 0, slots := 0, locals := 0 }
set_option maxHeartbeats 4000000 in
set_option maxRecDepth 100000 in
/-- inUse -/
theorem c_X3_inUse (E : zEn) (l : Launch) (D : va_G) (K : Nat → ClassId) (X Y : va_W) (L : List Nat) (T : Nat → va_E → Prop) {cx : Nat}  (h_cx : cx ∈ L) (k_cx : T cx = zOp 5 zCh)  : zVi E l D vwCl (zT K) yX3_inUse (zws yX3_inUse cX3_inUse 1 (some .boolean)) ROOM_X3_inUse 0 0 [.ref cx] X Y L T (fun (r : Int32) (u : zU) => r = nI 0 ∧ u = (Y, L, T)) := by
  refine z_ofW (E := E) (Qc := fun A => va_Qi (fun (r : Int32) (u : zU) => r = nI 0 ∧ u = (Y, L, T)) (zB D vwCl (zT K) A X) A) (cc := cX3_inUse) (maxL := 1) (ret := (some .boolean)) (by decide +kernel) rfl (Nat.le_of_ble_eq_true rfl) ?_
  intro p e s m below meth c A ls hx hb hml hr hts hown hlocks hin hA hK hZ hS hE hl
  have hown : s.vm.findClass RX3 = some m.cls := hown
  have hts : ∀ w ∈ WR, w.before [.ref cx].toArray s = true := fun w h => hts w (List.mem_cons_of_mem _ h)
  have hl : lv_has ls 1 [(0, .ref cx)] := hl
  obtain ⟨H, hH⟩ : ∃ H, H = s.heap := ⟨_, rfl⟩
  have hZ : zP D vwCl A X Y L T H := by rw [hH]; exact hZ
  obtain ⟨locs, hlc⟩ : ∃ q : List Loc, q = [] := ⟨_, rfl⟩
  have hS : va_S A s.heap H locs := by rw [hH, hlc]; exact hS
  suffices hW : W p l e ROOM_X3_inUse s m [.ref cx].toArray below meth c H locs 0 0 (MQ below (va_Qi (fun (r : Int32) (u : zU) => r = nI 0 ∧ u = (Y, L, T)) (zB D vwCl (zT K) A X) A) [.ref cx].toArray s 0 0 A) (F0 m 0 ls []) by rw [hH, hlc] at hW; exact hW
  clear hH hlc
  refine lv_aload_n hx hb dX3_inUse_0 rfl (lv_at hl 0 rfl) ?_
  refine z_getPp (own := RX3) (C := RX3) (TT := TX3) (N := 18) (ci := 5) (Ts := WR) (v := .int (-1)) hx hb hts zin_wsX30 hown hK hZ h_cx k_cx rfl 4 (by decide) (hts _ zw_552) (fun _ h9 => h9) (fun _ h => h) dX3_inUse_1 ?_
  refine lv_if_eq (tgt := 15) hx hb dX3_inUse_4 (by decide) (fun c4 => absurd c4 (by decide +kernel)) (fun c4 => ?_)
  clear c4
  refine lv_aload_n hx hb dX3_inUse_7 rfl (lv_at hl 0 rfl) ?_
  refine z_getPp (own := RX3) (C := RX3) (TT := TX3) (N := 18) (ci := 5) (Ts := WR) (v := .int (-1)) hx hb hts zin_wsX30 hown hK hZ h_cx k_cx rfl 4 (by decide) (hts _ zw_552) (fun _ h9 => h9) (fun _ h => h) dX3_inUse_8 ?_
  refine lv_iconst (v := nI 1) hx hb dX3_inUse_11 (by decide +kernel) ?_
  refine lv_icmp_ne (tgt := 19) hx hb dX3_inUse_12 (by decide) (fun c12 => ?_) (fun c12 => absurd c12 (by decide +kernel))
  clear c12
  refine lv_iconst (v := nI 0) hx hb dX3_inUse_19 (by decide +kernel) ?_
  exact z_iret hx hb hr (by decide +kernel) hlocks hK hZ hS ⟨(by first | rfl | decide +kernel | exact congrArg nI (by omega)), rfl⟩ (Nat.le_of_ble_eq_true rfl) (Nat.le_of_ble_eq_true rfl) dX3_inUse_20
abbrev ROOM_X4_channelEver : Room := { frames := 1, cells := 0, slots := 0, locals := 0 }
set_option maxHeartbeats 4000000 in
set_option maxRecDepth 100000 in
/-- channelEver -/
theorem c_X4_channelEver (E : zEn) (l : Launch) (D : va_G) (K : Nat → ClassId) (X : va_W) (L : List Nat) (T : Nat → va_E → Prop) {cl : Nat} {n : Int32} {exC owC iwC stC chC : Nat} {ghC : Nat → Option Nat} (h_cl : cl ∈ L) (k_cl : T cl = zOp 6 (zCl exC owC iwC stC chC)) (hgC : zAll 16 ghC L T (zOp 5 zCh)) : zVq E l D vwCl (zT K) yX4_channelEver (zws yX4_channelEver cX4_channelEver 2 (some (.object "ShellPair$Channel"))) ROOM_X4_channelEver 0 0 [.ref cl, .int n] X [(chC, .inl (K 5, 16, .inr (.inr (.inr (.inr ghC)))))] L T (fun (r : Option Nat) (u : zU) => r = none ∧ u = ([(chC, .inl (K 5, 16, .inr (.inr (.inr (.inr ghC)))))], L, T)) := by
  refine z_ofW (E := E) (Qc := fun A => va_Qq (fun (r : Option Nat) (u : zU) => r = none ∧ u = ([(chC, .inl (K 5, 16, .inr (.inr (.inr (.inr ghC)))))], L, T)) (zB D vwCl (zT K) A X) A) (cc := cX4_channelEver) (maxL := 2) (ret := (some (.object "ShellPair$Channel"))) (by decide +kernel) rfl (Nat.le_of_ble_eq_true rfl) ?_
  intro p e s m below meth c A ls hx hb hml hr hts hown hlocks hin hA hK hZ hS hE hl
  have hown : s.vm.findClass RX4 = some m.cls := hown
  have hts : ∀ w ∈ WR, w.before [.ref cl, .int n].toArray s = true := fun w h => hts w (List.mem_cons_of_mem _ h)
  have hl : lv_has ls 2 [(0, .ref cl), (1, .int n)] := hl
  obtain ⟨H, hH⟩ : ∃ H, H = s.heap := ⟨_, rfl⟩
  have hZ : zP D vwCl A X [(chC, .inl (K 5, 16, .inr (.inr (.inr (.inr ghC)))))] L T H := by rw [hH]; exact hZ
  obtain ⟨locs, hlc⟩ : ∃ q : List Loc, q = [] := ⟨_, rfl⟩
  have hS : va_S A s.heap H locs := by rw [hH, hlc]; exact hS
  suffices hW : W p l e ROOM_X4_channelEver s m [.ref cl, .int n].toArray below meth c H locs 0 0 (MQ below (va_Qq (fun (r : Option Nat) (u : zU) => r = none ∧ u = ([(chC, .inl (K 5, 16, .inr (.inr (.inr (.inr ghC)))))], L, T)) (zB D vwCl (zT K) A X) A) [.ref cl, .int n].toArray s 0 0 A) (F0 m 0 ls []) by rw [hH, hlc] at hW; exact hW
  clear hH hlc
  refine lv_iload_n hx hb dX4_channelEver_0 rfl (lv_at hl 1 rfl) ?_
  refine lv_if_lt (tgt := 23) hx hb dX4_channelEver_1 (by decide) (fun c1 => ?_) (fun c1 => ?_)
  · have i1 : n.toInt < 0 := (by have h := zq_lt_t c1; have e : (0 : Int32).toInt = 0 := (by decide +kernel); omega)
    refine lv_null hx hb dX4_channelEver_23 ?_
    exact z_aret (r := none) hx hb hr (Or.inl ⟨_, rfl⟩) hlocks hK hZ hS ⟨(by first | rfl | decide +kernel | exact congrArg nI (by omega)), rfl⟩ (Nat.le_of_ble_eq_true rfl) (Nat.le_of_ble_eq_true rfl) dX4_channelEver_24
  · have i1 : n.toInt ≥ 0 := (by have h := zq_lt_f c1; have e : (0 : Int32).toInt = 0 := (by decide +kernel); omega)
    refine lv_iload_n hx hb dX4_channelEver_4 rfl (lv_at hl 1 rfl) ?_
    refine lv_bipush (v := nI 16) hx hb dX4_channelEver_5 (by decide +kernel) ?_
    refine lv_icmp_ge (tgt := 23) hx hb dX4_channelEver_7 (by decide) (fun c7 => ?_) (fun c7 => ?_)
    · have i7 : n.toInt ≥ 16 := (by have h := zq_ge_t c7; have e : (nI 16 : Int32).toInt = 16 := (by decide +kernel); omega)
      refine lv_null hx hb dX4_channelEver_23 ?_
      exact z_aret (r := none) hx hb hr (Or.inl ⟨_, rfl⟩) hlocks hK hZ hS ⟨(by first | rfl | decide +kernel | exact congrArg nI (by omega)), rfl⟩ (Nat.le_of_ble_eq_true rfl) (Nat.le_of_ble_eq_true rfl) dX4_channelEver_24
    · have i7 : n.toInt < 16 := (by have h := zq_ge_f c7; have e : (nI 16 : Int32).toInt = 16 := (by decide +kernel); omega)
      refine lv_aload_n hx hb dX4_channelEver_10 rfl (lv_at hl 0 rfl) ?_
      refine z_getPp (own := RX4) (C := RX4) (TT := TX4) (N := 36) (ci := 6) (Ts := WR) (v := .ref chC) hx hb hts zin_wsX40 hown hK hZ h_cl k_cl rfl 8 (by decide) (hts _ zw_597) (u_same (hts _ zw_1178)) (fun _ h => h.2.2.2.2.1) dX4_channelEver_11 ?_
      refine lv_iload_n hx hb dX4_channelEver_14 rfl (lv_at hl 1 rfl) ?_
      obtain ⟨q1, e_q1, h_q1, k_q1⟩ := hgC (n).toNatClampNeg (zq_clamp (by omega) (by omega))
      refine z_aldqY hx hb hK hZ 5 0 rfl rfl (zq_in (by omega) (by omega)) (v := .ref q1) (by rw [e_q1]; rfl) dX4_channelEver_15 ?_
      refine z_getPp (own := RX4) (C := RX3) (TT := TX3) (N := 18) (ci := 5) (Ts := WR) (v := .int (-1)) hx hb hts zin_wsX30 hown hK hZ h_q1 k_q1 rfl 4 (by decide) (hts _ zw_598) (fun _ h9 => h9) (fun _ h => h) dX4_channelEver_16 ?_
      refine lv_iconst (v := (-1)) hx hb dX4_channelEver_19 (by decide +kernel) ?_
      refine lv_icmp_ne (tgt := 25) hx hb dX4_channelEver_20 (by decide) (fun c20 => absurd c20 (by decide +kernel)) (fun c20 => ?_)
      clear c20
      refine lv_null hx hb dX4_channelEver_23 ?_
      exact z_aret (r := none) hx hb hr (Or.inl ⟨_, rfl⟩) hlocks hK hZ hS ⟨(by first | rfl | decide +kernel | exact congrArg nI (by omega)), rfl⟩ (Nat.le_of_ble_eq_true rfl) (Nat.le_of_ble_eq_true rfl) dX4_channelEver_24
abbrev ROOM_X4_channelInUse : Room := { frames := 2, cells := 0, slots := 0, locals := 21 }
set_option maxHeartbeats 4000000 in
set_option maxRecDepth 100000 in
/-- channelInUse -/
theorem c_X4_channelInUse (E : zEn) (l : Launch) (D : va_G) (K : Nat → ClassId) (X : va_W) (L : List Nat) (T : Nat → va_E → Prop) {cl : Nat} {n : Int32} {exC owC iwC stC chC : Nat} {ghC : Nat → Option Nat} (h_cl : cl ∈ L) (k_cl : T cl = zOp 6 (zCl exC owC iwC stC chC)) (hgC : zAll 16 ghC L T (zOp 5 zCh)) : zVq E l D vwCl (zT K) yX4_channelInUse (zws yX4_channelInUse cX4_channelInUse 3 (some (.object "ShellPair$Channel"))) ROOM_X4_channelInUse 0 0 [.ref cl, .int n] X [(chC, .inl (K 5, 16, .inr (.inr (.inr (.inr ghC)))))] L T (fun (r : Option Nat) (u : zU) => r = none ∧ u = ([(chC, .inl (K 5, 16, .inr (.inr (.inr (.inr ghC)))))], L, T)) := by
  refine z_ofW (E := E) (Qc := fun A => va_Qq (fun (r : Option Nat) (u : zU) => r = none ∧ u = ([(chC, .inl (K 5, 16, .inr (.inr (.inr (.inr ghC)))))], L, T)) (zB D vwCl (zT K) A X) A) (cc := cX4_channelInUse) (maxL := 3) (ret := (some (.object "ShellPair$Channel"))) (by decide +kernel) rfl (Nat.le_of_ble_eq_true rfl) ?_
  intro p e s m below meth c A ls hx hb hml hr hts hown hlocks hin hA hK hZ hS hE hl
  have hown : s.vm.findClass RX4 = some m.cls := hown
  have hts : ∀ w ∈ WR, w.before [.ref cl, .int n].toArray s = true := fun w h => hts w (List.mem_cons_of_mem _ h)
  have hl : lv_has ls 3 [(0, .ref cl), (1, .int n)] := hl
  obtain ⟨H, hH⟩ : ∃ H, H = s.heap := ⟨_, rfl⟩
  have hZ : zP D vwCl A X [(chC, .inl (K 5, 16, .inr (.inr (.inr (.inr ghC)))))] L T H := by rw [hH]; exact hZ
  obtain ⟨locs, hlc⟩ : ∃ q : List Loc, q = [] := ⟨_, rfl⟩
  have hS : va_S A s.heap H locs := by rw [hH, hlc]; exact hS
  suffices hW : W p l e ROOM_X4_channelInUse s m [.ref cl, .int n].toArray below meth c H locs 0 0 (MQ below (va_Qq (fun (r : Option Nat) (u : zU) => r = none ∧ u = ([(chC, .inl (K 5, 16, .inr (.inr (.inr (.inr ghC)))))], L, T)) (zB D vwCl (zT K) A X) A) [.ref cl, .int n].toArray s 0 0 A) (F0 m 0 ls []) by rw [hH, hlc] at hW; exact hW
  clear hH hlc
  refine lv_aload_n hx hb dX4_channelInUse_0 rfl (lv_at hl 0 rfl) ?_
  refine lv_iload_n hx hb dX4_channelInUse_1 rfl (lv_at hl 1 rfl) ?_
  have rv1 : ∃ cell : Cell, H[cl]? = some cell ∧ cell.vm.isStatics = false ∧ s.vm.findClass RX4 = some cell.cls := z_recvPp hK hZ h_cl k_cl rfl
  have hZc := zP.into (Y1 := []) (Y2 := [(chC, .inl (K 5, 16, .inr (.inr (.inr (.inr ghC)))))]) hZ
  refine z_goQ (va_runV (As := [.int n]) (rest := []) ⟨hx, hb, hml, hown, hts⟩ ((c_X4_channelEver E l D K (X ++ []) L T h_cl k_cl hgC) H.size) (cwV 1 hts (zg_V zw_591 zw_593 zw_594 zw_567 zw_592) rfl rfl rfl (by decide +kernel) ⟨Nat.le_of_ble_eq_true rfl, Nat.le_of_ble_eq_true rfl⟩) (z_preV hK hZc hS hA hE rv1) rfl rfl hl.1 rfl (lv_room (Nat.le_of_ble_eq_true rfl)) dX4_channelInUse_2 ⟨Nat.le_of_ble_eq_true rfl, Nat.le_of_ble_eq_true rfl⟩) hZc hS hA (fun x2 Y1 L1 T1 H locs hp hZ hS => ?_)
  obtain ⟨hres, hp⟩ := hp
  cases hp
  have hZ : zP D vwCl A X [(chC, .inl (K 5, 16, .inr (.inr (.inr (.inr ghC)))))] L T H := zP.back hZ
  subst hres
  refine lv_astore_nN (lv' := [(2, .null), (0, .ref cl), (1, .int n)]) hx hb dX4_channelInUse_5 rfl hl (by decide) rfl (fun ls hl => ?_)
  refine lv_aload_nN hx hb dX4_channelInUse_6 rfl (lv_at hl 0 rfl) ?_
  refine lv_ifnullN (tgt := 21) hx hb dX4_channelInUse_7 (by decide) ?_
  refine lv_null hx hb dX4_channelInUse_21 ?_
  exact z_aret (r := none) hx hb hr (Or.inl ⟨_, rfl⟩) hlocks hK hZ hS ⟨(by first | rfl | decide +kernel | exact congrArg nI (by omega)), rfl⟩ (Nat.le_of_ble_eq_true rfl) (Nat.le_of_ble_eq_true rfl) dX4_channelInUse_22
abbrev ROOM_X9_connectionAt : Room := { frames := 1, cells := 0, slots := 0, locals := 0 }
set_option maxHeartbeats 4000000 in
set_option maxRecDepth 100000 in
/-- connectionAt -/
theorem c_X9_connectionAt (E : zEn) (l : Launch) (D : va_G) (K : Nat → ClassId) (X : va_W) (L : List Nat) (T : Nat → va_E → Prop) {sv : Nat} {pp : Int32} {exS owS iwS stS chS so hk po : Nat} {ghS : Nat → Option Nat} (h_sv : sv ∈ L) (k_sv : T sv = zOp 10 (zSv exS owS iwS stS chS so hk po)) (hgS : zAll 16 ghS L T (zOp 5 zCh)) : zVq E l D vwCl (zT K) yX9_connectionAt (zws yX9_connectionAt cX9_connectionAt 3 (some (.object "ShellPair$Channel"))) ROOM_X9_connectionAt 0 0 [.ref sv, .int pp] X [(chS, .inl (K 5, 16, .inr (.inr (.inr (.inr ghS)))))] L T (fun (r : Option Nat) (u : zU) => r = none ∧ u = ([(chS, .inl (K 5, 16, .inr (.inr (.inr (.inr ghS)))))], L, T)) := by
  refine z_ofW (E := E) (Qc := fun A => va_Qq (fun (r : Option Nat) (u : zU) => r = none ∧ u = ([(chS, .inl (K 5, 16, .inr (.inr (.inr (.inr ghS)))))], L, T)) (zB D vwCl (zT K) A X) A) (cc := cX9_connectionAt) (maxL := 3) (ret := (some (.object "ShellPair$Channel"))) (by decide +kernel) rfl (Nat.le_of_ble_eq_true rfl) ?_
  intro p e s m below meth c A ls hx hb hml hr hts hown hlocks hin hA hK hZ hS hE hl
  have hown : s.vm.findClass RX9 = some m.cls := hown
  have hts : ∀ w ∈ WR, w.before [.ref sv, .int pp].toArray s = true := fun w h => hts w (List.mem_cons_of_mem _ h)
  have hl : lv_has ls 3 [(0, .ref sv), (1, .int pp)] := hl
  obtain ⟨H, hH⟩ : ∃ H, H = s.heap := ⟨_, rfl⟩
  have hZ : zP D vwCl A X [(chS, .inl (K 5, 16, .inr (.inr (.inr (.inr ghS)))))] L T H := by rw [hH]; exact hZ
  obtain ⟨locs, hlc⟩ : ∃ q : List Loc, q = [] := ⟨_, rfl⟩
  have hS : va_S A s.heap H locs := by rw [hH, hlc]; exact hS
  suffices hW : W p l e ROOM_X9_connectionAt s m [.ref sv, .int pp].toArray below meth c H locs 0 0 (MQ below (va_Qq (fun (r : Option Nat) (u : zU) => r = none ∧ u = ([(chS, .inl (K 5, 16, .inr (.inr (.inr (.inr ghS)))))], L, T)) (zB D vwCl (zT K) A X) A) [.ref sv, .int pp].toArray s 0 0 A) (F0 m 0 ls []) by rw [hH, hlc] at hW; exact hW
  clear hH hlc
  refine lv_iconst (v := nI 0) hx hb dX9_connectionAt_0 (by decide +kernel) ?_
  refine lv_istore_n (lv' := [(2, .int (nI 0)), (0, .ref sv), (1, .int pp)]) hx hb dX9_connectionAt_1 rfl hl (by decide) rfl (fun ls hl => ?_)
  have L2_ : ∀ (n9 i2 : Nat), i2 ≤ 16 → 16 + 1 ≤ i2 + n9 → ∀   (H : Heap) (locs : List Loc) (ls : Array Slot), zP D vwCl A X [(chS, .inl (K 5, 16, .inr (.inr (.inr (.inr ghS)))))] L T H → va_S A s.heap H locs → lv_has ls 3 [(2, .int (nI i2)), (0, .ref sv), (1, .int pp)] → W p l e ROOM_X9_connectionAt s m [.ref sv, .int pp].toArray below meth c H locs 0 0 (MQ below (va_Qq (fun (r : Option Nat) (u : zU) => r = none ∧ u = ([(chS, .inl (K 5, 16, .inr (.inr (.inr (.inr ghS)))))], L, T)) (zB D vwCl (zT K) A X) A) [.ref sv, .int pp].toArray s 0 0 A) (F0 m 2 ls []) := by
    intro n9
    induction n9 with
    | zero => intro i2 u2 w2; exact absurd w2 (by omega)
    | succ n9 ih2 =>
      intro i2 u2 w2  H locs ls hZ hS hl 
      refine lv_iload_n hx hb dX9_connectionAt_2 rfl (lv_at hl 0 rfl) ?_
      refine lv_bipush (v := nI 16) hx hb dX9_connectionAt_3 (by decide +kernel) ?_
      refine lv_icmp_ge (tgt := 59) hx hb dX9_connectionAt_5 (by decide) (fun c5 => ?_) (fun c5 => ?_)
      · have e5 : 16 ≤ i2 := (nI_leI (a := 16) (b := i2) (by omega) (by omega)).mp c5
        refine lv_null hx hb dX9_connectionAt_59 ?_
        exact z_aret (r := none) hx hb hr (Or.inl ⟨_, rfl⟩) hlocks hK hZ hS ⟨(by first | rfl | decide +kernel | exact congrArg nI (by omega)), rfl⟩ (Nat.le_of_ble_eq_true rfl) (Nat.le_of_ble_eq_true rfl) dX9_connectionAt_60
      · have e5 : ¬ 16 ≤ i2 := fun q => c5 ((nI_leI (a := 16) (b := i2) (by omega) (by omega)).mpr q)
        refine lv_aload_n hx hb dX9_connectionAt_8 rfl (lv_at hl 1 rfl) ?_
        refine z_getPp (own := RX9) (C := RX9) (TT := TX9) (N := 34) (ci := 10) (Ts := WR) (v := .ref chS) hx hb hts zin_wsX90 hown hK hZ h_sv k_sv rfl 8 (by decide) (hts _ zw_784) (u_same (hts _ zw_1179)) (fun _ h => h.2.2.2.2.1) dX9_connectionAt_9 ?_
        refine lv_iload_n hx hb dX9_connectionAt_12 rfl (lv_at hl 0 rfl) ?_
        obtain ⟨q1, e_q1, h_q1, k_q1⟩ := hgS i2 (by omega)
        refine z_aldqY hx hb hK hZ 5 0 rfl rfl (vp_in_nI (by omega) (by omega)) (v := .ref q1) (by rw [nI_clamp (by omega), e_q1]; rfl) dX9_connectionAt_13 ?_
        refine z_getPp (own := RX9) (C := RX3) (TT := TX3) (N := 18) (ci := 5) (Ts := WR) (v := .int (-1)) hx hb hts zin_wsX30 hown hK hZ h_q1 k_q1 rfl 4 (by decide) (hts _ zw_785) (fun _ h9 => h9) (fun _ h => h) dX9_connectionAt_14 ?_
        refine lv_iconst (v := nI 1) hx hb dX9_connectionAt_17 (by decide +kernel) ?_
        refine lv_icmp_ne (tgt := 53) hx hb dX9_connectionAt_18 (by decide) (fun c18 => ?_) (fun c18 => absurd c18 (by decide +kernel))
        clear c18
        refine lv_iinc (v := nI (i2 + 1)) (lv' := [(2, .int (nI (i2 + 1))), (0, .ref sv), (1, .int pp)]) hx hb dX9_connectionAt_53 hl (k := 0) rfl (nI_add i2 1) (by decide) rfl (fun ls hl => ?_)
        show W p l e ROOM_X9_connectionAt s m [.ref sv, .int pp].toArray below meth c H locs 0 0 (MQ below (va_Qq (fun (r : Option Nat) (u : zU) => r = none ∧ u = ([(chS, .inl (K 5, 16, .inr (.inr (.inr (.inr ghS)))))], L, T)) (zB D vwCl (zT K) A X) A) [.ref sv, .int pp].toArray s 0 0 A) (F0 m 56 ls [])
        refine lv_goto (tgt := 2) hx hb dX9_connectionAt_56 (by decide) ?_
        exact ih2 (i2 + 1) (by omega) (by omega)   _ _ _ hZ hS (lv_sub hl [0, 1, 2] rfl) 
  exact L2_ (16 + 1) 0 (by omega) (by omega)   _ _ _ hZ hS (lv_sub hl [0, 1, 2] rfl) 
abbrev ROOM_X9_connections : Room := { frames := 1, cells := 0, slots := 0, locals := 0 }
set_option maxHeartbeats 4000000 in
set_option maxRecDepth 100000 in
/-- connections -/
theorem c_X9_connections (E : zEn) (l : Launch) (D : va_G) (K : Nat → ClassId) (X : va_W) (L : List Nat) (T : Nat → va_E → Prop) {sv : Nat} {exS owS iwS stS chS so hk po : Nat} {ghS : Nat → Option Nat} (h_sv : sv ∈ L) (k_sv : T sv = zOp 10 (zSv exS owS iwS stS chS so hk po)) (hgS : zAll 16 ghS L T (zOp 5 zCh)) : zVi E l D vwCl (zT K) yX9_connections (zws yX9_connections cX9_connections 3 (some .int)) ROOM_X9_connections 0 0 [.ref sv] X [(chS, .inl (K 5, 16, .inr (.inr (.inr (.inr ghS)))))] L T (fun (r : Int32) (u : zU) => r = nI 0 ∧ u = ([(chS, .inl (K 5, 16, .inr (.inr (.inr (.inr ghS)))))], L, T)) := by
  refine z_ofW (E := E) (Qc := fun A => va_Qi (fun (r : Int32) (u : zU) => r = nI 0 ∧ u = ([(chS, .inl (K 5, 16, .inr (.inr (.inr (.inr ghS)))))], L, T)) (zB D vwCl (zT K) A X) A) (cc := cX9_connections) (maxL := 3) (ret := (some .int)) (by decide +kernel) rfl (Nat.le_of_ble_eq_true rfl) ?_
  intro p e s m below meth c A ls hx hb hml hr hts hown hlocks hin hA hK hZ hS hE hl
  have hown : s.vm.findClass RX9 = some m.cls := hown
  have hts : ∀ w ∈ WR, w.before [.ref sv].toArray s = true := fun w h => hts w (List.mem_cons_of_mem _ h)
  have hl : lv_has ls 3 [(0, .ref sv)] := hl
  obtain ⟨H, hH⟩ : ∃ H, H = s.heap := ⟨_, rfl⟩
  have hZ : zP D vwCl A X [(chS, .inl (K 5, 16, .inr (.inr (.inr (.inr ghS)))))] L T H := by rw [hH]; exact hZ
  obtain ⟨locs, hlc⟩ : ∃ q : List Loc, q = [] := ⟨_, rfl⟩
  have hS : va_S A s.heap H locs := by rw [hH, hlc]; exact hS
  suffices hW : W p l e ROOM_X9_connections s m [.ref sv].toArray below meth c H locs 0 0 (MQ below (va_Qi (fun (r : Int32) (u : zU) => r = nI 0 ∧ u = ([(chS, .inl (K 5, 16, .inr (.inr (.inr (.inr ghS)))))], L, T)) (zB D vwCl (zT K) A X) A) [.ref sv].toArray s 0 0 A) (F0 m 0 ls []) by rw [hH, hlc] at hW; exact hW
  clear hH hlc
  refine lv_iconst (v := nI 0) hx hb dX9_connections_0 (by decide +kernel) ?_
  refine lv_istore_n (lv' := [(1, .int (nI 0)), (0, .ref sv)]) hx hb dX9_connections_1 rfl hl (by decide) rfl (fun ls hl => ?_)
  refine lv_iconst (v := nI 0) hx hb dX9_connections_2 (by decide +kernel) ?_
  refine lv_istore_n (lv' := [(2, .int (nI 0)), (1, .int (nI 0)), (0, .ref sv)]) hx hb dX9_connections_3 rfl hl (by decide) rfl (fun ls hl => ?_)
  have L4_ : ∀ (n9 i4 : Nat), i4 ≤ 16 → 16 + 1 ≤ i4 + n9 → ∀   (H : Heap) (locs : List Loc) (ls : Array Slot), zP D vwCl A X [(chS, .inl (K 5, 16, .inr (.inr (.inr (.inr ghS)))))] L T H → va_S A s.heap H locs → lv_has ls 3 [(2, .int (nI i4)), (0, .ref sv), (1, .int (nI 0))] → W p l e ROOM_X9_connections s m [.ref sv].toArray below meth c H locs 0 0 (MQ below (va_Qi (fun (r : Int32) (u : zU) => r = nI 0 ∧ u = ([(chS, .inl (K 5, 16, .inr (.inr (.inr (.inr ghS)))))], L, T)) (zB D vwCl (zT K) A X) A) [.ref sv].toArray s 0 0 A) (F0 m 4 ls []) := by
    intro n9
    induction n9 with
    | zero => intro i4 u4 w4; exact absurd w4 (by omega)
    | succ n9 ih4 =>
      intro i4 u4 w4  H locs ls hZ hS hl 
      refine lv_iload_n hx hb dX9_connections_4 rfl (lv_at hl 0 rfl) ?_
      refine lv_bipush (v := nI 16) hx hb dX9_connections_5 (by decide +kernel) ?_
      refine lv_icmp_ge (tgt := 44) hx hb dX9_connections_7 (by decide) (fun c7 => ?_) (fun c7 => ?_)
      · have e7 : 16 ≤ i4 := (nI_leI (a := 16) (b := i4) (by omega) (by omega)).mp c7
        refine lv_iload_n hx hb dX9_connections_44 rfl (lv_at hl 2 rfl) ?_
        exact z_iret hx hb hr rfl hlocks hK hZ hS ⟨(by first | rfl | decide +kernel | exact congrArg nI (by omega)), rfl⟩ (Nat.le_of_ble_eq_true rfl) (Nat.le_of_ble_eq_true rfl) dX9_connections_45
      · have e7 : ¬ 16 ≤ i4 := fun q => c7 ((nI_leI (a := 16) (b := i4) (by omega) (by omega)).mpr q)
        refine lv_aload_n hx hb dX9_connections_10 rfl (lv_at hl 1 rfl) ?_
        refine z_getPp (own := RX9) (C := RX9) (TT := TX9) (N := 34) (ci := 10) (Ts := WR) (v := .ref chS) hx hb hts zin_wsX90 hown hK hZ h_sv k_sv rfl 8 (by decide) (hts _ zw_784) (u_same (hts _ zw_1179)) (fun _ h => h.2.2.2.2.1) dX9_connections_11 ?_
        refine lv_iload_n hx hb dX9_connections_14 rfl (lv_at hl 0 rfl) ?_
        obtain ⟨q1, e_q1, h_q1, k_q1⟩ := hgS i4 (by omega)
        refine z_aldqY hx hb hK hZ 5 0 rfl rfl (vp_in_nI (by omega) (by omega)) (v := .ref q1) (by rw [nI_clamp (by omega), e_q1]; rfl) dX9_connections_15 ?_
        refine z_getPp (own := RX9) (C := RX3) (TT := TX3) (N := 18) (ci := 5) (Ts := WR) (v := .int (-1)) hx hb hts zin_wsX30 hown hK hZ h_q1 k_q1 rfl 4 (by decide) (hts _ zw_785) (fun _ h9 => h9) (fun _ h => h) dX9_connections_16 ?_
        refine lv_iconst (v := nI 1) hx hb dX9_connections_19 (by decide +kernel) ?_
        show W p l e ROOM_X9_connections s m [.ref sv].toArray below meth c H locs 0 0 (MQ below (va_Qi (fun (r : Int32) (u : zU) => r = nI 0 ∧ u = ([(chS, .inl (K 5, 16, .inr (.inr (.inr (.inr ghS)))))], L, T)) (zB D vwCl (zT K) A X) A) [.ref sv].toArray s 0 0 A) (F0 m 20 ls [.int (nI 1), .int (-1)])
        refine lv_icmp_ne (tgt := 38) hx hb dX9_connections_20 (by decide) (fun c20 => ?_) (fun c20 => absurd c20 (by decide +kernel))
        clear c20
        refine lv_iinc (v := nI (i4 + 1)) (lv' := [(2, .int (nI (i4 + 1))), (0, .ref sv), (1, .int (nI 0))]) hx hb dX9_connections_38 hl (k := 0) rfl (nI_add i4 1) (by decide) rfl (fun ls hl => ?_)
        refine lv_goto (tgt := 4) hx hb dX9_connections_41 (by decide) ?_
        exact ih4 (i4 + 1) (by omega) (by omega)   _ _ _ hZ hS (lv_sub hl [0, 1, 2] rfl) 
  exact L4_ (16 + 1) 0 (by omega) (by omega)   _ _ _ hZ hS (lv_sub hl [0, 2, 1] rfl) 
abbrev ROOM_X9_hasHostKey : Room := { frames := 1, cells := 0, slots := 0, locals := 0 }
set_option maxHeartbeats 4000000 in
set_option maxRecDepth 100000 in
/-- hasHostKey -/
theorem c_X9_hasHostKey (E : zEn) (l : Launch) (D : va_G) (K : Nat → ClassId) (X Y : va_W) (L : List Nat) (T : Nat → va_E → Prop) {sv : Nat} {hk : Nat} {exS owS iwS stS chS so po : Nat} (h_sv : sv ∈ L) (k_sv : T sv = zOp 10 (zSv exS owS iwS stS chS so hk po)) (h_hk : hk ∈ L) (k_hk : T hk = zOp 3 zB0)  : zVi E l D vwCl (zT K) yX9_hasHostKey (zws yX9_hasHostKey cX9_hasHostKey 1 (some .boolean)) ROOM_X9_hasHostKey 0 0 [.ref sv] X Y L T (fun (r : Int32) (u : zU) => r = nI 0 ∧ u = (Y, L, T)) := by
  refine z_ofW (E := E) (Qc := fun A => va_Qi (fun (r : Int32) (u : zU) => r = nI 0 ∧ u = (Y, L, T)) (zB D vwCl (zT K) A X) A) (cc := cX9_hasHostKey) (maxL := 1) (ret := (some .boolean)) (by decide +kernel) rfl (Nat.le_of_ble_eq_true rfl) ?_
  intro p e s m below meth c A ls hx hb hml hr hts hown hlocks hin hA hK hZ hS hE hl
  have hown : s.vm.findClass RX9 = some m.cls := hown
  have hts : ∀ w ∈ WR, w.before [.ref sv].toArray s = true := fun w h => hts w (List.mem_cons_of_mem _ h)
  have hl : lv_has ls 1 [(0, .ref sv)] := hl
  obtain ⟨H, hH⟩ : ∃ H, H = s.heap := ⟨_, rfl⟩
  have hZ : zP D vwCl A X Y L T H := by rw [hH]; exact hZ
  obtain ⟨locs, hlc⟩ : ∃ q : List Loc, q = [] := ⟨_, rfl⟩
  have hS : va_S A s.heap H locs := by rw [hH, hlc]; exact hS
  suffices hW : W p l e ROOM_X9_hasHostKey s m [.ref sv].toArray below meth c H locs 0 0 (MQ below (va_Qi (fun (r : Int32) (u : zU) => r = nI 0 ∧ u = (Y, L, T)) (zB D vwCl (zT K) A X) A) [.ref sv].toArray s 0 0 A) (F0 m 0 ls []) by rw [hH, hlc] at hW; exact hW
  clear hH hlc
  refine lv_aload_n hx hb dX9_hasHostKey_0 rfl (lv_at hl 0 rfl) ?_
  refine z_getPp (own := RX9) (C := RX9) (TT := TX9) (N := 34) (ci := 10) (Ts := WR) (v := .ref hk) hx hb hts zin_wsX90 hown hK hZ h_sv k_sv rfl 23 (by decide) (hts _ zw_758) (fun _ h9 => h9) (fun _ h => h.2.2.2.2.2.2.2.2.2.2.1) dX9_hasHostKey_1 ?_
  refine z_getPp (own := RX9) (C := RX1) (TT := TX1) (N := 6) (ci := 3) (Ts := WR) (v := .int (nI 0)) hx hb hts zin_wsX10 hown hK hZ h_hk k_hk rfl 2 (by decide) (hts _ zw_770) (fun _ h9 => h9) (fun _ h => h) dX9_hasHostKey_4 ?_
  refine lv_if_le (tgt := 14) hx hb dX9_hasHostKey_7 (by decide) (fun c7 => ?_) (fun c7 => absurd c7 (by decide +kernel))
  clear c7
  refine lv_iconst (v := nI 0) hx hb dX9_hasHostKey_14 (by decide +kernel) ?_
  exact z_iret hx hb hr (by decide +kernel) hlocks hK hZ hS ⟨(by first | rfl | decide +kernel | exact congrArg nI (by omega)), rfl⟩ (Nat.le_of_ble_eq_true rfl) (Nat.le_of_ble_eq_true rfl) dX9_hasHostKey_15
abbrev ROOM_X11_total : Room := { frames := 1, cells := 0, slots := 0, locals := 0 }
set_option maxHeartbeats 4000000 in
set_option maxRecDepth 100000 in
/-- total -/
theorem c_X11_total (E : zEn) (l : Launch) (D : va_G) (K : Nat → ClassId) (X Y : va_W) (L : List Nat) (T : Nat → va_E → Prop) {so : Nat}  (h_so : so ∈ L) (k_so : T so = zOp 12 zSt0)  : zVi E l D vwCl (zT K) yX11_total (zws yX11_total cX11_total 3 (some .int)) ROOM_X11_total 0 0 [.ref so] X Y L T (fun (r : Int32) (u : zU) => r = nI 0 ∧ u = (Y, L, T)) := by
  refine z_ofW (E := E) (Qc := fun A => va_Qi (fun (r : Int32) (u : zU) => r = nI 0 ∧ u = (Y, L, T)) (zB D vwCl (zT K) A X) A) (cc := cX11_total) (maxL := 3) (ret := (some .int)) (by decide +kernel) rfl (Nat.le_of_ble_eq_true rfl) ?_
  intro p e s m below meth c A ls hx hb hml hr hts hown hlocks hin hA hK hZ hS hE hl
  have hown : s.vm.findClass RX11 = some m.cls := hown
  have hts : ∀ w ∈ WR, w.before [.ref so].toArray s = true := fun w h => hts w (List.mem_cons_of_mem _ h)
  have hl : lv_has ls 3 [(0, .ref so)] := hl
  obtain ⟨H, hH⟩ : ∃ H, H = s.heap := ⟨_, rfl⟩
  have hZ : zP D vwCl A X Y L T H := by rw [hH]; exact hZ
  obtain ⟨locs, hlc⟩ : ∃ q : List Loc, q = [] := ⟨_, rfl⟩
  have hS : va_S A s.heap H locs := by rw [hH, hlc]; exact hS
  suffices hW : W p l e ROOM_X11_total s m [.ref so].toArray below meth c H locs 0 0 (MQ below (va_Qi (fun (r : Int32) (u : zU) => r = nI 0 ∧ u = (Y, L, T)) (zB D vwCl (zT K) A X) A) [.ref so].toArray s 0 0 A) (F0 m 0 ls []) by rw [hH, hlc] at hW; exact hW
  clear hH hlc
  refine lv_iconst (v := nI 0) hx hb dX11_total_0 (by decide +kernel) ?_
  refine lv_istore_n (lv' := [(1, .int (nI 0)), (0, .ref so)]) hx hb dX11_total_1 rfl hl (by decide) rfl (fun ls hl => ?_)
  refine lv_iconst (v := nI 0) hx hb dX11_total_2 (by decide +kernel) ?_
  refine lv_istore_n (lv' := [(2, .int (nI 0)), (1, .int (nI 0)), (0, .ref so)]) hx hb dX11_total_3 rfl hl (by decide) rfl (fun ls hl => ?_)
  refine lv_iload_n hx hb dX11_total_4 rfl (lv_at hl 0 rfl) ?_
  refine lv_aload_n hx hb dX11_total_5 rfl (lv_at hl 2 rfl) ?_
  refine z_getPp (own := RX11) (C := RX11) (TT := TX11) (N := 4) (ci := 12) (Ts := WR) (v := .int (nI 0)) hx hb hts zin_wsX110 hown hK hZ h_so k_so rfl 2 (by decide) (hts _ zw_809) (fun _ h9 => h9) (fun _ h => h) dX11_total_6 ?_
  refine lv_icmp_ge (tgt := 30) hx hb dX11_total_9 (by decide) (fun c9 => ?_) (fun c9 => absurd c9 (by decide +kernel))
  clear c9
  refine lv_iload_n hx hb dX11_total_30 rfl (lv_at hl 1 rfl) ?_
  exact z_iret hx hb hr rfl hlocks hK hZ hS ⟨(by first | rfl | decide +kernel | exact congrArg nI (by omega)), rfl⟩ (Nat.le_of_ble_eq_true rfl) (Nat.le_of_ble_eq_true rfl) dX11_total_31
end ZME

section ZCUR
abbrev ROOM_X5_mul : Room := { frames := 1, cells := 0, slots := 0, locals := 0 }
set_option maxHeartbeats 4000000 in
set_option maxRecDepth 100000 in
/-- mul: shapes of two old rows and a pooled one -/
theorem c_X5_mul (E : zEn) (l : Launch) (D : va_G) (K : Nat → ClassId) (X Y : va_W) (L : List Nat) (T : Nat → va_E → Prop) {out n_out : Nat} {a : Nat} {f_a : Nat → Int64} {b : Nat} {f_b : Nat → Int64}  (h_out : out ∈ L) (k_out : T out = zJ (K 1) n_out) (b_out : 10 ≤ n_out ∧ n_out < 2147483648) (h_a : (FieldType.long, a, 10, fun j => Value.long (f_a j)) ∈ E.2.1) (h_b : (FieldType.long, b, 10, fun j => Value.long (f_b j)) ∈ E.2.1)  : zV E l D vwCl (zT K) yX5_mul (zws yX5_mul cX5_mul 93 none) ROOM_X5_mul 0 0 [.ref out, .ref a, .ref b] X Y L T (zSame Y L T) := by
  refine z_ofW (E := E) (Qc := fun A => va_Qv (zSame Y L T) (zB D vwCl (zT K) A X) A) (cc := cX5_mul) (maxL := 93) (ret := none) (by decide +kernel) rfl (Nat.le_of_ble_eq_true rfl) ?_
  intro p e s m below meth c A ls hx hb hml hr hts hown hlocks hin hA hK hZ hS hE hl
  have hown : s.vm.findClass RX5 = some m.cls := hown
  have hts : ∀ w ∈ WR, w.before [.ref out, .ref a, .ref b].toArray s = true := fun w h => hts w (List.mem_cons_of_mem _ h)
  have hl : lv_has ls 93 [(0, .ref out), (1, .ref a), (2, .ref b)] := hl
  obtain ⟨H, hH⟩ : ∃ H, H = s.heap := ⟨_, rfl⟩
  have hZ : zP D vwCl A X Y L T H := by rw [hH]; exact hZ
  obtain ⟨locs, hlc⟩ : ∃ q : List Loc, q = [] := ⟨_, rfl⟩
  have hS : va_S A s.heap H locs := by rw [hH, hlc]; exact hS
  suffices hW : W p l e ROOM_X5_mul s m [.ref out, .ref a, .ref b].toArray below meth c H locs 0 0 (MQ below (va_Qv (zSame Y L T) (zB D vwCl (zT K) A X) A) [.ref out, .ref a, .ref b].toArray s 0 0 A) (F0 m 0 ls []) by rw [hH, hlc] at hW; exact hW
  clear hH hlc
  refine lv_aload_n hx hb dX5_mul_0 rfl (lv_at hl 1 rfl) ?_
  refine lv_iconst (v := nI 0) hx hb dX5_mul_1 (by decide +kernel) ?_
  refine va_tl (N := 10) hx hb (hE.2.1 _ h_a) hS (vp_in_nI (by omega) (by omega)) rfl dX5_mul_2 ?_
  refine lv_topl (fun x1 _ => ?_)
  refine lv_lstore_n (lv' := [(3, .long x1), (0, .ref out), (1, .ref a), (2, .ref b)]) hx hb dX5_mul_3 rfl hl (by decide) rfl (fun ls hl => ?_)
  refine lv_aload_n hx hb dX5_mul_4 rfl (lv_at hl 2 rfl) ?_
  refine lv_iconst (v := nI 1) hx hb dX5_mul_5 (by decide +kernel) ?_
  refine va_tl (N := 10) hx hb (hE.2.1 _ h_a) hS (vp_in_nI (by omega) (by omega)) rfl dX5_mul_6 ?_
  refine lv_topl (fun x2 _ => ?_)
  refine lv_lstore (lv' := [(5, .long x2), (3, .long x1), (0, .ref out), (1, .ref a), (2, .ref b)]) hx hb dX5_mul_7 hl (by decide) rfl (fun ls hl => ?_)
  refine lv_aload_n hx hb dX5_mul_9 rfl (lv_at hl 3 rfl) ?_
  refine lv_iconst (v := nI 2) hx hb dX5_mul_10 (by decide +kernel) ?_
  refine va_tl (N := 10) hx hb (hE.2.1 _ h_a) hS (vp_in_nI (by omega) (by omega)) rfl dX5_mul_11 ?_
  refine lv_topl (fun x3 _ => ?_)
  refine lv_lstore (lv' := [(7, .long x3), (5, .long x2), (3, .long x1), (0, .ref out), (1, .ref a), (2, .ref b)]) hx hb dX5_mul_12 hl (by decide) rfl (fun ls hl => ?_)
  refine lv_aload_n hx hb dX5_mul_14 rfl (lv_at hl 4 rfl) ?_
  refine lv_iconst (v := nI 3) hx hb dX5_mul_15 (by decide +kernel) ?_
  refine va_tl (N := 10) hx hb (hE.2.1 _ h_a) hS (vp_in_nI (by omega) (by omega)) rfl dX5_mul_16 ?_
  refine lv_topl (fun x4 _ => ?_)
  refine lv_lstore (lv' := [(9, .long x4), (7, .long x3), (5, .long x2), (3, .long x1), (0, .ref out), (1, .ref a), (2, .ref b)]) hx hb dX5_mul_17 hl (by decide) rfl (fun ls hl => ?_)
  refine lv_aload_n hx hb dX5_mul_19 rfl (lv_at hl 5 rfl) ?_
  refine lv_iconst (v := nI 4) hx hb dX5_mul_20 (by decide +kernel) ?_
  refine va_tl (N := 10) hx hb (hE.2.1 _ h_a) hS (vp_in_nI (by omega) (by omega)) rfl dX5_mul_21 ?_
  refine lv_topl (fun x5 _ => ?_)
  refine lv_lstore (lv' := [(11, .long x5), (9, .long x4), (7, .long x3), (5, .long x2), (3, .long x1), (0, .ref out), (1, .ref a), (2, .ref b)]) hx hb dX5_mul_22 hl (by decide) rfl (fun ls hl => ?_)
  refine lv_aload_n hx hb dX5_mul_24 rfl (lv_at hl 6 rfl) ?_
  refine lv_iconst (v := nI 5) hx hb dX5_mul_25 (by decide +kernel) ?_
  refine va_tl (N := 10) hx hb (hE.2.1 _ h_a) hS (vp_in_nI (by omega) (by omega)) rfl dX5_mul_26 ?_
  refine lv_topl (fun x6 _ => ?_)
  refine lv_lstore (lv' := [(13, .long x6), (11, .long x5), (9, .long x4), (7, .long x3), (5, .long x2), (3, .long x1), (0, .ref out), (1, .ref a), (2, .ref b)]) hx hb dX5_mul_27 hl (by decide) rfl (fun ls hl => ?_)
  refine lv_aload_n hx hb dX5_mul_29 rfl (lv_at hl 7 rfl) ?_
  refine lv_bipush (v := nI 6) hx hb dX5_mul_30 (by decide +kernel) ?_
  refine va_tl (N := 10) hx hb (hE.2.1 _ h_a) hS (vp_in_nI (by omega) (by omega)) rfl dX5_mul_32 ?_
  refine lv_topl (fun x7 _ => ?_)
  refine lv_lstore (lv' := [(15, .long x7), (13, .long x6), (11, .long x5), (9, .long x4), (7, .long x3), (5, .long x2), (3, .long x1), (0, .ref out), (1, .ref a), (2, .ref b)]) hx hb dX5_mul_33 hl (by decide) rfl (fun ls hl => ?_)
  refine lv_aload_n hx hb dX5_mul_35 rfl (lv_at hl 8 rfl) ?_
  refine lv_bipush (v := nI 7) hx hb dX5_mul_36 (by decide +kernel) ?_
  refine va_tl (N := 10) hx hb (hE.2.1 _ h_a) hS (vp_in_nI (by omega) (by omega)) rfl dX5_mul_38 ?_
  refine lv_topl (fun x8 _ => ?_)
  refine lv_lstore (lv' := [(17, .long x8), (15, .long x7), (13, .long x6), (11, .long x5), (9, .long x4), (7, .long x3), (5, .long x2), (3, .long x1), (0, .ref out), (1, .ref a), (2, .ref b)]) hx hb dX5_mul_39 hl (by decide) rfl (fun ls hl => ?_)
  refine lv_aload_n hx hb dX5_mul_41 rfl (lv_at hl 9 rfl) ?_
  refine lv_bipush (v := nI 8) hx hb dX5_mul_42 (by decide +kernel) ?_
  refine va_tl (N := 10) hx hb (hE.2.1 _ h_a) hS (vp_in_nI (by omega) (by omega)) rfl dX5_mul_44 ?_
  refine lv_topl (fun x9 _ => ?_)
  refine lv_lstore (lv' := [(19, .long x9), (17, .long x8), (15, .long x7), (13, .long x6), (11, .long x5), (9, .long x4), (7, .long x3), (5, .long x2), (3, .long x1), (0, .ref out), (1, .ref a), (2, .ref b)]) hx hb dX5_mul_45 hl (by decide) rfl (fun ls hl => ?_)
  refine lv_aload_n hx hb dX5_mul_47 rfl (lv_at hl 10 rfl) ?_
  refine lv_bipush (v := nI 9) hx hb dX5_mul_48 (by decide +kernel) ?_
  refine va_tl (N := 10) hx hb (hE.2.1 _ h_a) hS (vp_in_nI (by omega) (by omega)) rfl dX5_mul_50 ?_
  refine lv_topl (fun x10 _ => ?_)
  refine lv_lstore (lv' := [(21, .long x10), (19, .long x9), (17, .long x8), (15, .long x7), (13, .long x6), (11, .long x5), (9, .long x4), (7, .long x3), (5, .long x2), (3, .long x1), (0, .ref out), (1, .ref a), (2, .ref b)]) hx hb dX5_mul_51 hl (by decide) rfl (fun ls hl => ?_)
  show W p l e ROOM_X5_mul s m [.ref out, .ref a, .ref b].toArray below meth c H locs 0 0 (MQ below (va_Qv (zSame Y L T) (zB D vwCl (zT K) A X) A) [.ref out, .ref a, .ref b].toArray s 0 0 A) (F0 m 53 ls [])
  refine lv_aload_n hx hb dX5_mul_53 rfl (lv_at hl 12 rfl) ?_
  refine lv_iconst (v := nI 0) hx hb dX5_mul_54 (by decide +kernel) ?_
  refine va_tl (N := 10) hx hb (hE.2.1 _ h_b) hS (vp_in_nI (by omega) (by omega)) rfl dX5_mul_55 ?_
  refine lv_topl (fun x11 _ => ?_)
  refine lv_lstore (lv' := [(23, .long x11), (21, .long x10), (19, .long x9), (17, .long x8), (15, .long x7), (13, .long x6), (11, .long x5), (9, .long x4), (7, .long x3), (5, .long x2), (3, .long x1), (0, .ref out), (1, .ref a), (2, .ref b)]) hx hb dX5_mul_56 hl (by decide) rfl (fun ls hl => ?_)
  refine lv_aload_n hx hb dX5_mul_58 rfl (lv_at hl 13 rfl) ?_
  refine lv_iconst (v := nI 1) hx hb dX5_mul_59 (by decide +kernel) ?_
  refine va_tl (N := 10) hx hb (hE.2.1 _ h_b) hS (vp_in_nI (by omega) (by omega)) rfl dX5_mul_60 ?_
  refine lv_topl (fun x12 _ => ?_)
  refine lv_lstore (lv' := [(25, .long x12), (23, .long x11), (21, .long x10), (19, .long x9), (17, .long x8), (15, .long x7), (13, .long x6), (11, .long x5), (9, .long x4), (7, .long x3), (5, .long x2), (3, .long x1), (0, .ref out), (1, .ref a), (2, .ref b)]) hx hb dX5_mul_61 hl (by decide) rfl (fun ls hl => ?_)
  refine lv_aload_n hx hb dX5_mul_63 rfl (lv_at hl 14 rfl) ?_
  refine lv_iconst (v := nI 2) hx hb dX5_mul_64 (by decide +kernel) ?_
  refine va_tl (N := 10) hx hb (hE.2.1 _ h_b) hS (vp_in_nI (by omega) (by omega)) rfl dX5_mul_65 ?_
  refine lv_topl (fun x13 _ => ?_)
  refine lv_lstore (lv' := [(27, .long x13), (25, .long x12), (23, .long x11), (21, .long x10), (19, .long x9), (17, .long x8), (15, .long x7), (13, .long x6), (11, .long x5), (9, .long x4), (7, .long x3), (5, .long x2), (3, .long x1), (0, .ref out), (1, .ref a), (2, .ref b)]) hx hb dX5_mul_66 hl (by decide) rfl (fun ls hl => ?_)
  refine lv_aload_n hx hb dX5_mul_68 rfl (lv_at hl 15 rfl) ?_
  refine lv_iconst (v := nI 3) hx hb dX5_mul_69 (by decide +kernel) ?_
  refine va_tl (N := 10) hx hb (hE.2.1 _ h_b) hS (vp_in_nI (by omega) (by omega)) rfl dX5_mul_70 ?_
  refine lv_topl (fun x14 _ => ?_)
  refine lv_lstore (lv' := [(29, .long x14), (27, .long x13), (25, .long x12), (23, .long x11), (21, .long x10), (19, .long x9), (17, .long x8), (15, .long x7), (13, .long x6), (11, .long x5), (9, .long x4), (7, .long x3), (5, .long x2), (3, .long x1), (0, .ref out), (1, .ref a), (2, .ref b)]) hx hb dX5_mul_71 hl (by decide) rfl (fun ls hl => ?_)
  refine lv_aload_n hx hb dX5_mul_73 rfl (lv_at hl 16 rfl) ?_
  refine lv_iconst (v := nI 4) hx hb dX5_mul_74 (by decide +kernel) ?_
  refine va_tl (N := 10) hx hb (hE.2.1 _ h_b) hS (vp_in_nI (by omega) (by omega)) rfl dX5_mul_75 ?_
  refine lv_topl (fun x15 _ => ?_)
  refine lv_lstore (lv' := [(31, .long x15), (29, .long x14), (27, .long x13), (25, .long x12), (23, .long x11), (21, .long x10), (19, .long x9), (17, .long x8), (15, .long x7), (13, .long x6), (11, .long x5), (9, .long x4), (7, .long x3), (5, .long x2), (3, .long x1), (0, .ref out), (1, .ref a), (2, .ref b)]) hx hb dX5_mul_76 hl (by decide) rfl (fun ls hl => ?_)
  refine lv_aload_n hx hb dX5_mul_78 rfl (lv_at hl 17 rfl) ?_
  refine lv_iconst (v := nI 5) hx hb dX5_mul_79 (by decide +kernel) ?_
  refine va_tl (N := 10) hx hb (hE.2.1 _ h_b) hS (vp_in_nI (by omega) (by omega)) rfl dX5_mul_80 ?_
  refine lv_topl (fun x16 _ => ?_)
  refine lv_lstore (lv' := [(33, .long x16), (31, .long x15), (29, .long x14), (27, .long x13), (25, .long x12), (23, .long x11), (21, .long x10), (19, .long x9), (17, .long x8), (15, .long x7), (13, .long x6), (11, .long x5), (9, .long x4), (7, .long x3), (5, .long x2), (3, .long x1), (0, .ref out), (1, .ref a), (2, .ref b)]) hx hb dX5_mul_81 hl (by decide) rfl (fun ls hl => ?_)
  refine lv_aload_n hx hb dX5_mul_83 rfl (lv_at hl 18 rfl) ?_
  refine lv_bipush (v := nI 6) hx hb dX5_mul_84 (by decide +kernel) ?_
  refine va_tl (N := 10) hx hb (hE.2.1 _ h_b) hS (vp_in_nI (by omega) (by omega)) rfl dX5_mul_86 ?_
  refine lv_topl (fun x17 _ => ?_)
  refine lv_lstore (lv' := [(35, .long x17), (33, .long x16), (31, .long x15), (29, .long x14), (27, .long x13), (25, .long x12), (23, .long x11), (21, .long x10), (19, .long x9), (17, .long x8), (15, .long x7), (13, .long x6), (11, .long x5), (9, .long x4), (7, .long x3), (5, .long x2), (3, .long x1), (0, .ref out), (1, .ref a), (2, .ref b)]) hx hb dX5_mul_87 hl (by decide) rfl (fun ls hl => ?_)
  refine lv_aload_n hx hb dX5_mul_89 rfl (lv_at hl 19 rfl) ?_
  refine lv_bipush (v := nI 7) hx hb dX5_mul_90 (by decide +kernel) ?_
  refine va_tl (N := 10) hx hb (hE.2.1 _ h_b) hS (vp_in_nI (by omega) (by omega)) rfl dX5_mul_92 ?_
  refine lv_topl (fun x18 _ => ?_)
  refine lv_lstore (lv' := [(37, .long x18), (35, .long x17), (33, .long x16), (31, .long x15), (29, .long x14), (27, .long x13), (25, .long x12), (23, .long x11), (21, .long x10), (19, .long x9), (17, .long x8), (15, .long x7), (13, .long x6), (11, .long x5), (9, .long x4), (7, .long x3), (5, .long x2), (3, .long x1), (0, .ref out), (1, .ref a), (2, .ref b)]) hx hb dX5_mul_93 hl (by decide) rfl (fun ls hl => ?_)
  refine lv_aload_n hx hb dX5_mul_95 rfl (lv_at hl 20 rfl) ?_
  refine lv_bipush (v := nI 8) hx hb dX5_mul_96 (by decide +kernel) ?_
  refine va_tl (N := 10) hx hb (hE.2.1 _ h_b) hS (vp_in_nI (by omega) (by omega)) rfl dX5_mul_98 ?_
  refine lv_topl (fun x19 _ => ?_)
  refine lv_lstore (lv' := [(39, .long x19), (37, .long x18), (35, .long x17), (33, .long x16), (31, .long x15), (29, .long x14), (27, .long x13), (25, .long x12), (23, .long x11), (21, .long x10), (19, .long x9), (17, .long x8), (15, .long x7), (13, .long x6), (11, .long x5), (9, .long x4), (7, .long x3), (5, .long x2), (3, .long x1), (0, .ref out), (1, .ref a), (2, .ref b)]) hx hb dX5_mul_99 hl (by decide) rfl (fun ls hl => ?_)
  refine lv_aload_n hx hb dX5_mul_101 rfl (lv_at hl 21 rfl) ?_
  refine lv_bipush (v := nI 9) hx hb dX5_mul_102 (by decide +kernel) ?_
  refine va_tl (N := 10) hx hb (hE.2.1 _ h_b) hS (vp_in_nI (by omega) (by omega)) rfl dX5_mul_104 ?_
  refine lv_topl (fun x20 _ => ?_)
  refine lv_lstore (lv' := [(41, .long x20), (39, .long x19), (37, .long x18), (35, .long x17), (33, .long x16), (31, .long x15), (29, .long x14), (27, .long x13), (25, .long x12), (23, .long x11), (21, .long x10), (19, .long x9), (17, .long x8), (15, .long x7), (13, .long x6), (11, .long x5), (9, .long x4), (7, .long x3), (5, .long x2), (3, .long x1), (0, .ref out), (1, .ref a), (2, .ref b)]) hx hb dX5_mul_105 hl (by decide) rfl (fun ls hl => ?_)
  refine lv_ldc2 (v := (2)) hx hb hown (hts _ zw_625) dX5_mul_107 ?_
  show W p l e ROOM_X5_mul s m [.ref out, .ref a, .ref b].toArray below meth c H locs 0 0 (MQ below (va_Qv (zSame Y L T) (zB D vwCl (zT K) A X) A) [.ref out, .ref a, .ref b].toArray s 0 0 A) (F0 m 110 ls [.long (2)])
  refine lv_lload hx hb dX5_mul_110 (lv_at hl 18 rfl) ?_
  refine lv_lmul hx hb dX5_mul_112 ?_
  refine lv_topl (fun x21 _ => ?_)
  refine lv_lstore (lv' := [(43, .long x21), (41, .long x20), (39, .long x19), (37, .long x18), (35, .long x17), (33, .long x16), (31, .long x15), (29, .long x14), (27, .long x13), (25, .long x12), (23, .long x11), (21, .long x10), (19, .long x9), (17, .long x8), (15, .long x7), (13, .long x6), (11, .long x5), (9, .long x4), (7, .long x3), (5, .long x2), (3, .long x1), (0, .ref out), (1, .ref a), (2, .ref b)]) hx hb dX5_mul_113 hl (by decide) rfl (fun ls hl => ?_)
  refine lv_ldc2 (v := (2)) hx hb hown (hts _ zw_625) dX5_mul_115 ?_
  refine lv_lload hx hb dX5_mul_118 (lv_at hl 17 rfl) ?_
  refine lv_lmul hx hb dX5_mul_120 ?_
  refine lv_topl (fun x22 _ => ?_)
  refine lv_lstore (lv' := [(45, .long x22), (43, .long x21), (41, .long x20), (39, .long x19), (37, .long x18), (35, .long x17), (33, .long x16), (31, .long x15), (29, .long x14), (27, .long x13), (25, .long x12), (23, .long x11), (21, .long x10), (19, .long x9), (17, .long x8), (15, .long x7), (13, .long x6), (11, .long x5), (9, .long x4), (7, .long x3), (5, .long x2), (3, .long x1), (0, .ref out), (1, .ref a), (2, .ref b)]) hx hb dX5_mul_121 hl (by decide) rfl (fun ls hl => ?_)
  refine lv_ldc2 (v := (2)) hx hb hown (hts _ zw_625) dX5_mul_123 ?_
  refine lv_lload hx hb dX5_mul_126 (lv_at hl 16 rfl) ?_
  refine lv_lmul hx hb dX5_mul_128 ?_
  refine lv_topl (fun x23 _ => ?_)
  refine lv_lstore (lv' := [(47, .long x23), (45, .long x22), (43, .long x21), (41, .long x20), (39, .long x19), (37, .long x18), (35, .long x17), (33, .long x16), (31, .long x15), (29, .long x14), (27, .long x13), (25, .long x12), (23, .long x11), (21, .long x10), (19, .long x9), (17, .long x8), (15, .long x7), (13, .long x6), (11, .long x5), (9, .long x4), (7, .long x3), (5, .long x2), (3, .long x1), (0, .ref out), (1, .ref a), (2, .ref b)]) hx hb dX5_mul_129 hl (by decide) rfl (fun ls hl => ?_)
  refine lv_ldc2 (v := (2)) hx hb hown (hts _ zw_625) dX5_mul_131 ?_
  refine lv_lload hx hb dX5_mul_134 (lv_at hl 15 rfl) ?_
  refine lv_lmul hx hb dX5_mul_136 ?_
  refine lv_topl (fun x24 _ => ?_)
  refine lv_lstore (lv' := [(49, .long x24), (47, .long x23), (45, .long x22), (43, .long x21), (41, .long x20), (39, .long x19), (37, .long x18), (35, .long x17), (33, .long x16), (31, .long x15), (29, .long x14), (27, .long x13), (25, .long x12), (23, .long x11), (21, .long x10), (19, .long x9), (17, .long x8), (15, .long x7), (13, .long x6), (11, .long x5), (9, .long x4), (7, .long x3), (5, .long x2), (3, .long x1), (0, .ref out), (1, .ref a), (2, .ref b)]) hx hb dX5_mul_137 hl (by decide) rfl (fun ls hl => ?_)
  refine lv_ldc2 (v := (2)) hx hb hown (hts _ zw_625) dX5_mul_139 ?_
  refine lv_lload hx hb dX5_mul_142 (lv_at hl 14 rfl) ?_
  refine lv_lmul hx hb dX5_mul_144 ?_
  refine lv_topl (fun x25 _ => ?_)
  refine lv_lstore (lv' := [(51, .long x25), (49, .long x24), (47, .long x23), (45, .long x22), (43, .long x21), (41, .long x20), (39, .long x19), (37, .long x18), (35, .long x17), (33, .long x16), (31, .long x15), (29, .long x14), (27, .long x13), (25, .long x12), (23, .long x11), (21, .long x10), (19, .long x9), (17, .long x8), (15, .long x7), (13, .long x6), (11, .long x5), (9, .long x4), (7, .long x3), (5, .long x2), (3, .long x1), (0, .ref out), (1, .ref a), (2, .ref b)]) hx hb dX5_mul_145 hl (by decide) rfl (fun ls hl => ?_)
  refine lv_ldc2 (v := (19)) hx hb hown (hts _ zw_626) dX5_mul_147 ?_
  refine lv_lload hx hb dX5_mul_150 (lv_at hl 13 rfl) ?_
  refine lv_lmul hx hb dX5_mul_152 ?_
  refine lv_topl (fun x26 _ => ?_)
  refine lv_lstore (lv' := [(53, .long x26), (51, .long x25), (49, .long x24), (47, .long x23), (45, .long x22), (43, .long x21), (41, .long x20), (39, .long x19), (37, .long x18), (35, .long x17), (33, .long x16), (31, .long x15), (29, .long x14), (27, .long x13), (25, .long x12), (23, .long x11), (21, .long x10), (19, .long x9), (17, .long x8), (15, .long x7), (13, .long x6), (11, .long x5), (9, .long x4), (7, .long x3), (5, .long x2), (3, .long x1), (0, .ref out), (1, .ref a), (2, .ref b)]) hx hb dX5_mul_153 hl (by decide) rfl (fun ls hl => ?_)
  refine lv_ldc2 (v := (19)) hx hb hown (hts _ zw_626) dX5_mul_155 ?_
  refine lv_lload hx hb dX5_mul_158 (lv_at hl 13 rfl) ?_
  refine lv_lmul hx hb dX5_mul_160 ?_
  refine lv_topl (fun x27 _ => ?_)
  refine lv_lstore (lv' := [(55, .long x27), (53, .long x26), (51, .long x25), (49, .long x24), (47, .long x23), (45, .long x22), (43, .long x21), (41, .long x20), (39, .long x19), (37, .long x18), (35, .long x17), (33, .long x16), (31, .long x15), (29, .long x14), (27, .long x13), (25, .long x12), (23, .long x11), (21, .long x10), (19, .long x9), (17, .long x8), (15, .long x7), (13, .long x6), (11, .long x5), (9, .long x4), (7, .long x3), (5, .long x2), (3, .long x1), (0, .ref out), (1, .ref a), (2, .ref b)]) hx hb dX5_mul_161 hl (by decide) rfl (fun ls hl => ?_)
  refine lv_ldc2 (v := (19)) hx hb hown (hts _ zw_626) dX5_mul_163 ?_
  refine lv_lload hx hb dX5_mul_166 (lv_at hl 13 rfl) ?_
  refine lv_lmul hx hb dX5_mul_168 ?_
  refine lv_topl (fun x28 _ => ?_)
  refine lv_lstore (lv' := [(57, .long x28), (55, .long x27), (53, .long x26), (51, .long x25), (49, .long x24), (47, .long x23), (45, .long x22), (43, .long x21), (41, .long x20), (39, .long x19), (37, .long x18), (35, .long x17), (33, .long x16), (31, .long x15), (29, .long x14), (27, .long x13), (25, .long x12), (23, .long x11), (21, .long x10), (19, .long x9), (17, .long x8), (15, .long x7), (13, .long x6), (11, .long x5), (9, .long x4), (7, .long x3), (5, .long x2), (3, .long x1), (0, .ref out), (1, .ref a), (2, .ref b)]) hx hb dX5_mul_169 hl (by decide) rfl (fun ls hl => ?_)
  refine lv_ldc2 (v := (19)) hx hb hown (hts _ zw_626) dX5_mul_171 ?_
  refine lv_lload hx hb dX5_mul_174 (lv_at hl 13 rfl) ?_
  refine lv_lmul hx hb dX5_mul_176 ?_
  refine lv_topl (fun x29 _ => ?_)
  refine lv_lstore (lv' := [(59, .long x29), (57, .long x28), (55, .long x27), (53, .long x26), (51, .long x25), (49, .long x24), (47, .long x23), (45, .long x22), (43, .long x21), (41, .long x20), (39, .long x19), (37, .long x18), (35, .long x17), (33, .long x16), (31, .long x15), (29, .long x14), (27, .long x13), (25, .long x12), (23, .long x11), (21, .long x10), (19, .long x9), (17, .long x8), (15, .long x7), (13, .long x6), (11, .long x5), (9, .long x4), (7, .long x3), (5, .long x2), (3, .long x1), (0, .ref out), (1, .ref a), (2, .ref b)]) hx hb dX5_mul_177 hl (by decide) rfl (fun ls hl => ?_)
  refine lv_ldc2 (v := (19)) hx hb hown (hts _ zw_626) dX5_mul_179 ?_
  refine lv_lload hx hb dX5_mul_182 (lv_at hl 13 rfl) ?_
  refine lv_lmul hx hb dX5_mul_184 ?_
  refine lv_topl (fun x30 _ => ?_)
  refine lv_lstore (lv' := [(61, .long x30), (59, .long x29), (57, .long x28), (55, .long x27), (53, .long x26), (51, .long x25), (49, .long x24), (47, .long x23), (45, .long x22), (43, .long x21), (41, .long x20), (39, .long x19), (37, .long x18), (35, .long x17), (33, .long x16), (31, .long x15), (29, .long x14), (27, .long x13), (25, .long x12), (23, .long x11), (21, .long x10), (19, .long x9), (17, .long x8), (15, .long x7), (13, .long x6), (11, .long x5), (9, .long x4), (7, .long x3), (5, .long x2), (3, .long x1), (0, .ref out), (1, .ref a), (2, .ref b)]) hx hb dX5_mul_185 hl (by decide) rfl (fun ls hl => ?_)
  refine lv_ldc2 (v := (19)) hx hb hown (hts _ zw_626) dX5_mul_187 ?_
  refine lv_lload hx hb dX5_mul_190 (lv_at hl 13 rfl) ?_
  show W p l e ROOM_X5_mul s m [.ref out, .ref a, .ref b].toArray below meth c H locs 0 0 (MQ below (va_Qv (zSame Y L T) (zB D vwCl (zT K) A X) A) [.ref out, .ref a, .ref b].toArray s 0 0 A) (F0 m 192 ls [.long x17, .long (19)])
  refine lv_lmul hx hb dX5_mul_192 ?_
  refine lv_topl (fun x31 _ => ?_)
  refine lv_lstore (lv' := [(63, .long x31), (61, .long x30), (59, .long x29), (57, .long x28), (55, .long x27), (53, .long x26), (51, .long x25), (49, .long x24), (47, .long x23), (45, .long x22), (43, .long x21), (41, .long x20), (39, .long x19), (37, .long x18), (35, .long x17), (33, .long x16), (31, .long x15), (29, .long x14), (27, .long x13), (25, .long x12), (23, .long x11), (21, .long x10), (19, .long x9), (17, .long x8), (15, .long x7), (13, .long x6), (11, .long x5), (9, .long x4), (7, .long x3), (5, .long x2), (3, .long x1), (0, .ref out), (1, .ref a), (2, .ref b)]) hx hb dX5_mul_193 hl (by decide) rfl (fun ls hl => ?_)
  refine lv_ldc2 (v := (19)) hx hb hown (hts _ zw_626) dX5_mul_195 ?_
  refine lv_lload hx hb dX5_mul_198 (lv_at hl 13 rfl) ?_
  refine lv_lmul hx hb dX5_mul_200 ?_
  refine lv_topl (fun x32 _ => ?_)
  refine lv_lstore (lv' := [(65, .long x32), (63, .long x31), (61, .long x30), (59, .long x29), (57, .long x28), (55, .long x27), (53, .long x26), (51, .long x25), (49, .long x24), (47, .long x23), (45, .long x22), (43, .long x21), (41, .long x20), (39, .long x19), (37, .long x18), (35, .long x17), (33, .long x16), (31, .long x15), (29, .long x14), (27, .long x13), (25, .long x12), (23, .long x11), (21, .long x10), (19, .long x9), (17, .long x8), (15, .long x7), (13, .long x6), (11, .long x5), (9, .long x4), (7, .long x3), (5, .long x2), (3, .long x1), (0, .ref out), (1, .ref a), (2, .ref b)]) hx hb dX5_mul_201 hl (by decide) rfl (fun ls hl => ?_)
  refine lv_ldc2 (v := (19)) hx hb hown (hts _ zw_626) dX5_mul_203 ?_
  refine lv_lload hx hb dX5_mul_206 (lv_at hl 13 rfl) ?_
  refine lv_lmul hx hb dX5_mul_208 ?_
  refine lv_topl (fun x33 _ => ?_)
  refine lv_lstore (lv' := [(67, .long x33), (65, .long x32), (63, .long x31), (61, .long x30), (59, .long x29), (57, .long x28), (55, .long x27), (53, .long x26), (51, .long x25), (49, .long x24), (47, .long x23), (45, .long x22), (43, .long x21), (41, .long x20), (39, .long x19), (37, .long x18), (35, .long x17), (33, .long x16), (31, .long x15), (29, .long x14), (27, .long x13), (25, .long x12), (23, .long x11), (21, .long x10), (19, .long x9), (17, .long x8), (15, .long x7), (13, .long x6), (11, .long x5), (9, .long x4), (7, .long x3), (5, .long x2), (3, .long x1), (0, .ref out), (1, .ref a), (2, .ref b)]) hx hb dX5_mul_209 hl (by decide) rfl (fun ls hl => ?_)
  refine lv_ldc2 (v := (19)) hx hb hown (hts _ zw_626) dX5_mul_211 ?_
  refine lv_lload hx hb dX5_mul_214 (lv_at hl 13 rfl) ?_
  refine lv_lmul hx hb dX5_mul_216 ?_
  refine lv_topl (fun x34 _ => ?_)
  refine lv_lstore (lv' := [(69, .long x34), (67, .long x33), (65, .long x32), (63, .long x31), (61, .long x30), (59, .long x29), (57, .long x28), (55, .long x27), (53, .long x26), (51, .long x25), (49, .long x24), (47, .long x23), (45, .long x22), (43, .long x21), (41, .long x20), (39, .long x19), (37, .long x18), (35, .long x17), (33, .long x16), (31, .long x15), (29, .long x14), (27, .long x13), (25, .long x12), (23, .long x11), (21, .long x10), (19, .long x9), (17, .long x8), (15, .long x7), (13, .long x6), (11, .long x5), (9, .long x4), (7, .long x3), (5, .long x2), (3, .long x1), (0, .ref out), (1, .ref a), (2, .ref b)]) hx hb dX5_mul_217 hl (by decide) rfl (fun ls hl => ?_)
  refine lv_lload_n hx hb dX5_mul_219 rfl (lv_at hl 33 rfl) ?_
  refine lv_lload hx hb dX5_mul_220 (lv_at hl 23 rfl) ?_
  refine lv_lmul hx hb dX5_mul_222 ?_
  refine lv_topl (fun x35 _ => ?_)
  refine lv_lload hx hb dX5_mul_223 (lv_at hl 13 rfl) ?_
  refine lv_lload hx hb dX5_mul_225 (lv_at hl 0 rfl) ?_
  refine lv_lmul hx hb dX5_mul_227 ?_
  refine lv_topl (fun x36 _ => ?_)
  refine lv_ladd hx hb dX5_mul_228 ?_
  refine lv_topl (fun x37 _ => ?_)
  refine lv_lload hx hb dX5_mul_229 (lv_at hl 31 rfl) ?_
  refine lv_lload hx hb dX5_mul_231 (lv_at hl 1 rfl) ?_
  refine lv_lmul hx hb dX5_mul_233 ?_
  refine lv_topl (fun x38 _ => ?_)
  refine lv_ladd hx hb dX5_mul_234 ?_
  refine lv_topl (fun x39 _ => ?_)
  refine lv_lload hx hb dX5_mul_235 (lv_at hl 12 rfl) ?_
  refine lv_lload hx hb dX5_mul_237 (lv_at hl 2 rfl) ?_
  refine lv_lmul hx hb dX5_mul_239 ?_
  refine lv_topl (fun x40 _ => ?_)
  refine lv_ladd hx hb dX5_mul_240 ?_
  refine lv_topl (fun x41 _ => ?_)
  refine lv_lload hx hb dX5_mul_241 (lv_at hl 29 rfl) ?_
  refine lv_lload hx hb dX5_mul_243 (lv_at hl 3 rfl) ?_
  refine lv_lmul hx hb dX5_mul_245 ?_
  refine lv_topl (fun x42 _ => ?_)
  refine lv_ladd hx hb dX5_mul_246 ?_
  refine lv_topl (fun x43 _ => ?_)
  refine lv_lload hx hb dX5_mul_247 (lv_at hl 11 rfl) ?_
  refine lv_lload hx hb dX5_mul_249 (lv_at hl 4 rfl) ?_
  refine lv_lmul hx hb dX5_mul_251 ?_
  refine lv_topl (fun x44 _ => ?_)
  refine lv_ladd hx hb dX5_mul_252 ?_
  refine lv_topl (fun x45 _ => ?_)
  refine lv_lload hx hb dX5_mul_253 (lv_at hl 27 rfl) ?_
  refine lv_lload hx hb dX5_mul_255 (lv_at hl 5 rfl) ?_
  refine lv_lmul hx hb dX5_mul_257 ?_
  refine lv_topl (fun x46 _ => ?_)
  refine lv_ladd hx hb dX5_mul_258 ?_
  refine lv_topl (fun x47 _ => ?_)
  show W p l e ROOM_X5_mul s m [.ref out, .ref a, .ref b].toArray below meth c H locs 0 0 (MQ below (va_Qv (zSame Y L T) (zB D vwCl (zT K) A X) A) [.ref out, .ref a, .ref b].toArray s 0 0 A) (F0 m 259 ls [.long x47])
  refine lv_lload hx hb dX5_mul_259 (lv_at hl 10 rfl) ?_
  refine lv_lload hx hb dX5_mul_261 (lv_at hl 6 rfl) ?_
  refine lv_lmul hx hb dX5_mul_263 ?_
  refine lv_topl (fun x48 _ => ?_)
  refine lv_ladd hx hb dX5_mul_264 ?_
  refine lv_topl (fun x49 _ => ?_)
  refine lv_lload hx hb dX5_mul_265 (lv_at hl 25 rfl) ?_
  refine lv_lload hx hb dX5_mul_267 (lv_at hl 7 rfl) ?_
  refine lv_lmul hx hb dX5_mul_269 ?_
  refine lv_topl (fun x50 _ => ?_)
  refine lv_ladd hx hb dX5_mul_270 ?_
  refine lv_topl (fun x51 _ => ?_)
  refine lv_lload hx hb dX5_mul_271 (lv_at hl 9 rfl) ?_
  refine lv_lload hx hb dX5_mul_273 (lv_at hl 8 rfl) ?_
  refine lv_lmul hx hb dX5_mul_275 ?_
  refine lv_topl (fun x52 _ => ?_)
  refine lv_ladd hx hb dX5_mul_276 ?_
  refine lv_topl (fun x53 _ => ?_)
  refine lv_lstore (lv' := [(71, .long x53), (69, .long x34), (67, .long x33), (65, .long x32), (63, .long x31), (61, .long x30), (59, .long x29), (57, .long x28), (55, .long x27), (53, .long x26), (51, .long x25), (49, .long x24), (47, .long x23), (45, .long x22), (43, .long x21), (41, .long x20), (39, .long x19), (37, .long x18), (35, .long x17), (33, .long x16), (31, .long x15), (29, .long x14), (27, .long x13), (25, .long x12), (23, .long x11), (21, .long x10), (19, .long x9), (17, .long x8), (15, .long x7), (13, .long x6), (11, .long x5), (9, .long x4), (7, .long x3), (5, .long x2), (3, .long x1), (0, .ref out), (1, .ref a), (2, .ref b)]) hx hb dX5_mul_277 hl (by decide) rfl (fun ls hl => ?_)
  refine lv_lload_n hx hb dX5_mul_279 rfl (lv_at hl 34 rfl) ?_
  refine lv_lload hx hb dX5_mul_280 (lv_at hl 23 rfl) ?_
  refine lv_lmul hx hb dX5_mul_282 ?_
  refine lv_topl (fun x54 _ => ?_)
  refine lv_lload hx hb dX5_mul_283 (lv_at hl 33 rfl) ?_
  refine lv_lload hx hb dX5_mul_285 (lv_at hl 24 rfl) ?_
  refine lv_lmul hx hb dX5_mul_287 ?_
  refine lv_topl (fun x55 _ => ?_)
  refine lv_ladd hx hb dX5_mul_288 ?_
  refine lv_topl (fun x56 _ => ?_)
  refine lv_lload hx hb dX5_mul_289 (lv_at hl 32 rfl) ?_
  refine lv_lload hx hb dX5_mul_291 (lv_at hl 1 rfl) ?_
  refine lv_lmul hx hb dX5_mul_293 ?_
  refine lv_topl (fun x57 _ => ?_)
  refine lv_ladd hx hb dX5_mul_294 ?_
  refine lv_topl (fun x58 _ => ?_)
  refine lv_lload hx hb dX5_mul_295 (lv_at hl 31 rfl) ?_
  refine lv_lload hx hb dX5_mul_297 (lv_at hl 2 rfl) ?_
  refine lv_lmul hx hb dX5_mul_299 ?_
  refine lv_topl (fun x59 _ => ?_)
  refine lv_ladd hx hb dX5_mul_300 ?_
  refine lv_topl (fun x60 _ => ?_)
  refine lv_lload hx hb dX5_mul_301 (lv_at hl 30 rfl) ?_
  refine lv_lload hx hb dX5_mul_303 (lv_at hl 3 rfl) ?_
  refine lv_lmul hx hb dX5_mul_305 ?_
  refine lv_topl (fun x61 _ => ?_)
  refine lv_ladd hx hb dX5_mul_306 ?_
  refine lv_topl (fun x62 _ => ?_)
  refine lv_lload hx hb dX5_mul_307 (lv_at hl 29 rfl) ?_
  refine lv_lload hx hb dX5_mul_309 (lv_at hl 4 rfl) ?_
  refine lv_lmul hx hb dX5_mul_311 ?_
  refine lv_topl (fun x63 _ => ?_)
  refine lv_ladd hx hb dX5_mul_312 ?_
  refine lv_topl (fun x64 _ => ?_)
  refine lv_lload hx hb dX5_mul_313 (lv_at hl 28 rfl) ?_
  refine lv_lload hx hb dX5_mul_315 (lv_at hl 5 rfl) ?_
  refine lv_lmul hx hb dX5_mul_317 ?_
  refine lv_topl (fun x65 _ => ?_)
  refine lv_ladd hx hb dX5_mul_318 ?_
  refine lv_topl (fun x66 _ => ?_)
  refine lv_lload hx hb dX5_mul_319 (lv_at hl 27 rfl) ?_
  show W p l e ROOM_X5_mul s m [.ref out, .ref a, .ref b].toArray below meth c H locs 0 0 (MQ below (va_Qv (zSame Y L T) (zB D vwCl (zT K) A X) A) [.ref out, .ref a, .ref b].toArray s 0 0 A) (F0 m 321 ls [.long x8, .long x66])
  refine lv_lload hx hb dX5_mul_321 (lv_at hl 6 rfl) ?_
  refine lv_lmul hx hb dX5_mul_323 ?_
  refine lv_topl (fun x67 _ => ?_)
  refine lv_ladd hx hb dX5_mul_324 ?_
  refine lv_topl (fun x68 _ => ?_)
  refine lv_lload hx hb dX5_mul_325 (lv_at hl 26 rfl) ?_
  refine lv_lload hx hb dX5_mul_327 (lv_at hl 7 rfl) ?_
  refine lv_lmul hx hb dX5_mul_329 ?_
  refine lv_topl (fun x69 _ => ?_)
  refine lv_ladd hx hb dX5_mul_330 ?_
  refine lv_topl (fun x70 _ => ?_)
  refine lv_lload hx hb dX5_mul_331 (lv_at hl 25 rfl) ?_
  refine lv_lload hx hb dX5_mul_333 (lv_at hl 8 rfl) ?_
  refine lv_lmul hx hb dX5_mul_335 ?_
  refine lv_topl (fun x71 _ => ?_)
  refine lv_ladd hx hb dX5_mul_336 ?_
  refine lv_topl (fun x72 _ => ?_)
  refine lv_lstore (lv' := [(73, .long x72), (71, .long x53), (69, .long x34), (67, .long x33), (65, .long x32), (63, .long x31), (61, .long x30), (59, .long x29), (57, .long x28), (55, .long x27), (53, .long x26), (51, .long x25), (49, .long x24), (47, .long x23), (45, .long x22), (43, .long x21), (41, .long x20), (39, .long x19), (37, .long x18), (35, .long x17), (33, .long x16), (31, .long x15), (29, .long x14), (27, .long x13), (25, .long x12), (23, .long x11), (21, .long x10), (19, .long x9), (17, .long x8), (15, .long x7), (13, .long x6), (11, .long x5), (9, .long x4), (7, .long x3), (5, .long x2), (3, .long x1), (0, .ref out), (1, .ref a), (2, .ref b)]) hx hb dX5_mul_337 hl (by decide) rfl (fun ls hl => ?_)
  refine lv_lload_n hx hb dX5_mul_339 rfl (lv_at hl 35 rfl) ?_
  refine lv_lload hx hb dX5_mul_340 (lv_at hl 23 rfl) ?_
  refine lv_lmul hx hb dX5_mul_342 ?_
  refine lv_topl (fun x73 _ => ?_)
  refine lv_lload hx hb dX5_mul_343 (lv_at hl 15 rfl) ?_
  refine lv_lload hx hb dX5_mul_345 (lv_at hl 24 rfl) ?_
  refine lv_lmul hx hb dX5_mul_347 ?_
  refine lv_topl (fun x74 _ => ?_)
  refine lv_ladd hx hb dX5_mul_348 ?_
  refine lv_topl (fun x75 _ => ?_)
  refine lv_lload hx hb dX5_mul_349 (lv_at hl 33 rfl) ?_
  refine lv_lload hx hb dX5_mul_351 (lv_at hl 25 rfl) ?_
  refine lv_lmul hx hb dX5_mul_353 ?_
  refine lv_topl (fun x76 _ => ?_)
  refine lv_ladd hx hb dX5_mul_354 ?_
  refine lv_topl (fun x77 _ => ?_)
  refine lv_lload hx hb dX5_mul_355 (lv_at hl 14 rfl) ?_
  refine lv_lload hx hb dX5_mul_357 (lv_at hl 2 rfl) ?_
  refine lv_lmul hx hb dX5_mul_359 ?_
  refine lv_topl (fun x78 _ => ?_)
  refine lv_ladd hx hb dX5_mul_360 ?_
  refine lv_topl (fun x79 _ => ?_)
  refine lv_lload hx hb dX5_mul_361 (lv_at hl 31 rfl) ?_
  refine lv_lload hx hb dX5_mul_363 (lv_at hl 3 rfl) ?_
  refine lv_lmul hx hb dX5_mul_365 ?_
  refine lv_topl (fun x80 _ => ?_)
  refine lv_ladd hx hb dX5_mul_366 ?_
  refine lv_topl (fun x81 _ => ?_)
  refine lv_lload hx hb dX5_mul_367 (lv_at hl 13 rfl) ?_
  refine lv_lload hx hb dX5_mul_369 (lv_at hl 4 rfl) ?_
  refine lv_lmul hx hb dX5_mul_371 ?_
  refine lv_topl (fun x82 _ => ?_)
  refine lv_ladd hx hb dX5_mul_372 ?_
  refine lv_topl (fun x83 _ => ?_)
  refine lv_lload hx hb dX5_mul_373 (lv_at hl 29 rfl) ?_
  refine lv_lload hx hb dX5_mul_375 (lv_at hl 5 rfl) ?_
  refine lv_lmul hx hb dX5_mul_377 ?_
  refine lv_topl (fun x84 _ => ?_)
  refine lv_ladd hx hb dX5_mul_378 ?_
  refine lv_topl (fun x85 _ => ?_)
  refine lv_lload hx hb dX5_mul_379 (lv_at hl 12 rfl) ?_
  refine lv_lload hx hb dX5_mul_381 (lv_at hl 6 rfl) ?_
  show W p l e ROOM_X5_mul s m [.ref out, .ref a, .ref b].toArray below meth c H locs 0 0 (MQ below (va_Qv (zSame Y L T) (zB D vwCl (zT K) A X) A) [.ref out, .ref a, .ref b].toArray s 0 0 A) (F0 m 383 ls [.long x30, .long x24, .long x85])
  refine lv_lmul hx hb dX5_mul_383 ?_
  refine lv_topl (fun x86 _ => ?_)
  refine lv_ladd hx hb dX5_mul_384 ?_
  refine lv_topl (fun x87 _ => ?_)
  refine lv_lload hx hb dX5_mul_385 (lv_at hl 27 rfl) ?_
  refine lv_lload hx hb dX5_mul_387 (lv_at hl 7 rfl) ?_
  refine lv_lmul hx hb dX5_mul_389 ?_
  refine lv_topl (fun x88 _ => ?_)
  refine lv_ladd hx hb dX5_mul_390 ?_
  refine lv_topl (fun x89 _ => ?_)
  refine lv_lload hx hb dX5_mul_391 (lv_at hl 11 rfl) ?_
  refine lv_lload hx hb dX5_mul_393 (lv_at hl 8 rfl) ?_
  refine lv_lmul hx hb dX5_mul_395 ?_
  refine lv_topl (fun x90 _ => ?_)
  refine lv_ladd hx hb dX5_mul_396 ?_
  refine lv_topl (fun x91 _ => ?_)
  refine lv_lstore (lv' := [(75, .long x91), (73, .long x72), (71, .long x53), (69, .long x34), (67, .long x33), (65, .long x32), (63, .long x31), (61, .long x30), (59, .long x29), (57, .long x28), (55, .long x27), (53, .long x26), (51, .long x25), (49, .long x24), (47, .long x23), (45, .long x22), (43, .long x21), (41, .long x20), (39, .long x19), (37, .long x18), (35, .long x17), (33, .long x16), (31, .long x15), (29, .long x14), (27, .long x13), (25, .long x12), (23, .long x11), (21, .long x10), (19, .long x9), (17, .long x8), (15, .long x7), (13, .long x6), (11, .long x5), (9, .long x4), (7, .long x3), (5, .long x2), (3, .long x1), (0, .ref out), (1, .ref a), (2, .ref b)]) hx hb dX5_mul_397 hl (by decide) rfl (fun ls hl => ?_)
  refine lv_lload_n hx hb dX5_mul_399 rfl (lv_at hl 36 rfl) ?_
  refine lv_lload hx hb dX5_mul_400 (lv_at hl 23 rfl) ?_
  refine lv_lmul hx hb dX5_mul_402 ?_
  refine lv_topl (fun x92 _ => ?_)
  refine lv_lload hx hb dX5_mul_403 (lv_at hl 35 rfl) ?_
  refine lv_lload hx hb dX5_mul_405 (lv_at hl 24 rfl) ?_
  refine lv_lmul hx hb dX5_mul_407 ?_
  refine lv_topl (fun x93 _ => ?_)
  refine lv_ladd hx hb dX5_mul_408 ?_
  refine lv_topl (fun x94 _ => ?_)
  refine lv_lload hx hb dX5_mul_409 (lv_at hl 34 rfl) ?_
  refine lv_lload hx hb dX5_mul_411 (lv_at hl 25 rfl) ?_
  refine lv_lmul hx hb dX5_mul_413 ?_
  refine lv_topl (fun x95 _ => ?_)
  refine lv_ladd hx hb dX5_mul_414 ?_
  refine lv_topl (fun x96 _ => ?_)
  refine lv_lload hx hb dX5_mul_415 (lv_at hl 33 rfl) ?_
  refine lv_lload hx hb dX5_mul_417 (lv_at hl 26 rfl) ?_
  refine lv_lmul hx hb dX5_mul_419 ?_
  refine lv_topl (fun x97 _ => ?_)
  refine lv_ladd hx hb dX5_mul_420 ?_
  refine lv_topl (fun x98 _ => ?_)
  refine lv_lload hx hb dX5_mul_421 (lv_at hl 32 rfl) ?_
  refine lv_lload hx hb dX5_mul_423 (lv_at hl 3 rfl) ?_
  refine lv_lmul hx hb dX5_mul_425 ?_
  refine lv_topl (fun x99 _ => ?_)
  refine lv_ladd hx hb dX5_mul_426 ?_
  refine lv_topl (fun x100 _ => ?_)
  refine lv_lload hx hb dX5_mul_427 (lv_at hl 31 rfl) ?_
  refine lv_lload hx hb dX5_mul_429 (lv_at hl 4 rfl) ?_
  refine lv_lmul hx hb dX5_mul_431 ?_
  refine lv_topl (fun x101 _ => ?_)
  refine lv_ladd hx hb dX5_mul_432 ?_
  refine lv_topl (fun x102 _ => ?_)
  refine lv_lload hx hb dX5_mul_433 (lv_at hl 30 rfl) ?_
  refine lv_lload hx hb dX5_mul_435 (lv_at hl 5 rfl) ?_
  refine lv_lmul hx hb dX5_mul_437 ?_
  refine lv_topl (fun x103 _ => ?_)
  refine lv_ladd hx hb dX5_mul_438 ?_
  refine lv_topl (fun x104 _ => ?_)
  refine lv_lload hx hb dX5_mul_439 (lv_at hl 29 rfl) ?_
  refine lv_lload hx hb dX5_mul_441 (lv_at hl 6 rfl) ?_
  refine lv_lmul hx hb dX5_mul_443 ?_
  refine lv_topl (fun x105 _ => ?_)
  show W p l e ROOM_X5_mul s m [.ref out, .ref a, .ref b].toArray below meth c H locs 0 0 (MQ below (va_Qv (zSame Y L T) (zB D vwCl (zT K) A X) A) [.ref out, .ref a, .ref b].toArray s 0 0 A) (F0 m 444 ls [.long x105, .long x104])
  refine lv_ladd hx hb dX5_mul_444 ?_
  refine lv_topl (fun x106 _ => ?_)
  refine lv_lload hx hb dX5_mul_445 (lv_at hl 28 rfl) ?_
  refine lv_lload hx hb dX5_mul_447 (lv_at hl 7 rfl) ?_
  refine lv_lmul hx hb dX5_mul_449 ?_
  refine lv_topl (fun x107 _ => ?_)
  refine lv_ladd hx hb dX5_mul_450 ?_
  refine lv_topl (fun x108 _ => ?_)
  refine lv_lload hx hb dX5_mul_451 (lv_at hl 27 rfl) ?_
  refine lv_lload hx hb dX5_mul_453 (lv_at hl 8 rfl) ?_
  refine lv_lmul hx hb dX5_mul_455 ?_
  refine lv_topl (fun x109 _ => ?_)
  refine lv_ladd hx hb dX5_mul_456 ?_
  refine lv_topl (fun x110 _ => ?_)
  refine lv_lstore (lv' := [(77, .long x110), (75, .long x91), (73, .long x72), (71, .long x53), (69, .long x34), (67, .long x33), (65, .long x32), (63, .long x31), (61, .long x30), (59, .long x29), (57, .long x28), (55, .long x27), (53, .long x26), (51, .long x25), (49, .long x24), (47, .long x23), (45, .long x22), (43, .long x21), (41, .long x20), (39, .long x19), (37, .long x18), (35, .long x17), (33, .long x16), (31, .long x15), (29, .long x14), (27, .long x13), (25, .long x12), (23, .long x11), (21, .long x10), (19, .long x9), (17, .long x8), (15, .long x7), (13, .long x6), (11, .long x5), (9, .long x4), (7, .long x3), (5, .long x2), (3, .long x1), (0, .ref out), (1, .ref a), (2, .ref b)]) hx hb dX5_mul_457 hl (by decide) rfl (fun ls hl => ?_)
  refine lv_lload_n hx hb dX5_mul_459 rfl (lv_at hl 37 rfl) ?_
  refine lv_lload hx hb dX5_mul_460 (lv_at hl 23 rfl) ?_
  refine lv_lmul hx hb dX5_mul_462 ?_
  refine lv_topl (fun x111 _ => ?_)
  refine lv_lload hx hb dX5_mul_463 (lv_at hl 17 rfl) ?_
  refine lv_lload hx hb dX5_mul_465 (lv_at hl 24 rfl) ?_
  refine lv_lmul hx hb dX5_mul_467 ?_
  refine lv_topl (fun x112 _ => ?_)
  refine lv_ladd hx hb dX5_mul_468 ?_
  refine lv_topl (fun x113 _ => ?_)
  refine lv_lload hx hb dX5_mul_469 (lv_at hl 35 rfl) ?_
  refine lv_lload hx hb dX5_mul_471 (lv_at hl 25 rfl) ?_
  refine lv_lmul hx hb dX5_mul_473 ?_
  refine lv_topl (fun x114 _ => ?_)
  refine lv_ladd hx hb dX5_mul_474 ?_
  refine lv_topl (fun x115 _ => ?_)
  refine lv_lload hx hb dX5_mul_475 (lv_at hl 16 rfl) ?_
  refine lv_lload hx hb dX5_mul_477 (lv_at hl 26 rfl) ?_
  refine lv_lmul hx hb dX5_mul_479 ?_
  refine lv_topl (fun x116 _ => ?_)
  refine lv_ladd hx hb dX5_mul_480 ?_
  refine lv_topl (fun x117 _ => ?_)
  refine lv_lload hx hb dX5_mul_481 (lv_at hl 33 rfl) ?_
  refine lv_lload hx hb dX5_mul_483 (lv_at hl 27 rfl) ?_
  refine lv_lmul hx hb dX5_mul_485 ?_
  refine lv_topl (fun x118 _ => ?_)
  refine lv_ladd hx hb dX5_mul_486 ?_
  refine lv_topl (fun x119 _ => ?_)
  refine lv_lload hx hb dX5_mul_487 (lv_at hl 15 rfl) ?_
  refine lv_lload hx hb dX5_mul_489 (lv_at hl 4 rfl) ?_
  refine lv_lmul hx hb dX5_mul_491 ?_
  refine lv_topl (fun x120 _ => ?_)
  refine lv_ladd hx hb dX5_mul_492 ?_
  refine lv_topl (fun x121 _ => ?_)
  refine lv_lload hx hb dX5_mul_493 (lv_at hl 31 rfl) ?_
  refine lv_lload hx hb dX5_mul_495 (lv_at hl 5 rfl) ?_
  refine lv_lmul hx hb dX5_mul_497 ?_
  refine lv_topl (fun x122 _ => ?_)
  refine lv_ladd hx hb dX5_mul_498 ?_
  refine lv_topl (fun x123 _ => ?_)
  refine lv_lload hx hb dX5_mul_499 (lv_at hl 14 rfl) ?_
  refine lv_lload hx hb dX5_mul_501 (lv_at hl 6 rfl) ?_
  refine lv_lmul hx hb dX5_mul_503 ?_
  refine lv_topl (fun x124 _ => ?_)
  refine lv_ladd hx hb dX5_mul_504 ?_
  refine lv_topl (fun x125 _ => ?_)
  show W p l e ROOM_X5_mul s m [.ref out, .ref a, .ref b].toArray below meth c H locs 0 0 (MQ below (va_Qv (zSame Y L T) (zB D vwCl (zT K) A X) A) [.ref out, .ref a, .ref b].toArray s 0 0 A) (F0 m 505 ls [.long x125])
  refine lv_lload hx hb dX5_mul_505 (lv_at hl 29 rfl) ?_
  refine lv_lload hx hb dX5_mul_507 (lv_at hl 7 rfl) ?_
  refine lv_lmul hx hb dX5_mul_509 ?_
  refine lv_topl (fun x126 _ => ?_)
  refine lv_ladd hx hb dX5_mul_510 ?_
  refine lv_topl (fun x127 _ => ?_)
  refine lv_lload hx hb dX5_mul_511 (lv_at hl 13 rfl) ?_
  refine lv_lload hx hb dX5_mul_513 (lv_at hl 8 rfl) ?_
  refine lv_lmul hx hb dX5_mul_515 ?_
  refine lv_topl (fun x128 _ => ?_)
  refine lv_ladd hx hb dX5_mul_516 ?_
  refine lv_topl (fun x129 _ => ?_)
  refine lv_lstore (lv' := [(79, .long x129), (77, .long x110), (75, .long x91), (73, .long x72), (71, .long x53), (69, .long x34), (67, .long x33), (65, .long x32), (63, .long x31), (61, .long x30), (59, .long x29), (57, .long x28), (55, .long x27), (53, .long x26), (51, .long x25), (49, .long x24), (47, .long x23), (45, .long x22), (43, .long x21), (41, .long x20), (39, .long x19), (37, .long x18), (35, .long x17), (33, .long x16), (31, .long x15), (29, .long x14), (27, .long x13), (25, .long x12), (23, .long x11), (21, .long x10), (19, .long x9), (17, .long x8), (15, .long x7), (13, .long x6), (11, .long x5), (9, .long x4), (7, .long x3), (5, .long x2), (3, .long x1), (0, .ref out), (1, .ref a), (2, .ref b)]) hx hb dX5_mul_517 hl (by decide) rfl (fun ls hl => ?_)
  refine lv_lload_n hx hb dX5_mul_519 rfl (lv_at hl 38 rfl) ?_
  refine lv_lload hx hb dX5_mul_520 (lv_at hl 23 rfl) ?_
  refine lv_lmul hx hb dX5_mul_522 ?_
  refine lv_topl (fun x130 _ => ?_)
  refine lv_lload hx hb dX5_mul_523 (lv_at hl 37 rfl) ?_
  refine lv_lload hx hb dX5_mul_525 (lv_at hl 24 rfl) ?_
  refine lv_lmul hx hb dX5_mul_527 ?_
  refine lv_topl (fun x131 _ => ?_)
  refine lv_ladd hx hb dX5_mul_528 ?_
  refine lv_topl (fun x132 _ => ?_)
  refine lv_lload hx hb dX5_mul_529 (lv_at hl 36 rfl) ?_
  refine lv_lload hx hb dX5_mul_531 (lv_at hl 25 rfl) ?_
  refine lv_lmul hx hb dX5_mul_533 ?_
  refine lv_topl (fun x133 _ => ?_)
  refine lv_ladd hx hb dX5_mul_534 ?_
  refine lv_topl (fun x134 _ => ?_)
  refine lv_lload hx hb dX5_mul_535 (lv_at hl 35 rfl) ?_
  refine lv_lload hx hb dX5_mul_537 (lv_at hl 26 rfl) ?_
  refine lv_lmul hx hb dX5_mul_539 ?_
  refine lv_topl (fun x135 _ => ?_)
  refine lv_ladd hx hb dX5_mul_540 ?_
  refine lv_topl (fun x136 _ => ?_)
  refine lv_lload hx hb dX5_mul_541 (lv_at hl 34 rfl) ?_
  refine lv_lload hx hb dX5_mul_543 (lv_at hl 27 rfl) ?_
  refine lv_lmul hx hb dX5_mul_545 ?_
  refine lv_topl (fun x137 _ => ?_)
  refine lv_ladd hx hb dX5_mul_546 ?_
  refine lv_topl (fun x138 _ => ?_)
  refine lv_lload hx hb dX5_mul_547 (lv_at hl 33 rfl) ?_
  refine lv_lload hx hb dX5_mul_549 (lv_at hl 28 rfl) ?_
  refine lv_lmul hx hb dX5_mul_551 ?_
  refine lv_topl (fun x139 _ => ?_)
  refine lv_ladd hx hb dX5_mul_552 ?_
  refine lv_topl (fun x140 _ => ?_)
  refine lv_lload hx hb dX5_mul_553 (lv_at hl 32 rfl) ?_
  refine lv_lload hx hb dX5_mul_555 (lv_at hl 5 rfl) ?_
  refine lv_lmul hx hb dX5_mul_557 ?_
  refine lv_topl (fun x141 _ => ?_)
  refine lv_ladd hx hb dX5_mul_558 ?_
  refine lv_topl (fun x142 _ => ?_)
  refine lv_lload hx hb dX5_mul_559 (lv_at hl 31 rfl) ?_
  refine lv_lload hx hb dX5_mul_561 (lv_at hl 6 rfl) ?_
  refine lv_lmul hx hb dX5_mul_563 ?_
  refine lv_topl (fun x143 _ => ?_)
  refine lv_ladd hx hb dX5_mul_564 ?_
  refine lv_topl (fun x144 _ => ?_)
  refine lv_lload hx hb dX5_mul_565 (lv_at hl 30 rfl) ?_
  show W p l e ROOM_X5_mul s m [.ref out, .ref a, .ref b].toArray below meth c H locs 0 0 (MQ below (va_Qv (zSame Y L T) (zB D vwCl (zT K) A X) A) [.ref out, .ref a, .ref b].toArray s 0 0 A) (F0 m 567 ls [.long x9, .long x144])
  refine lv_lload hx hb dX5_mul_567 (lv_at hl 7 rfl) ?_
  refine lv_lmul hx hb dX5_mul_569 ?_
  refine lv_topl (fun x145 _ => ?_)
  refine lv_ladd hx hb dX5_mul_570 ?_
  refine lv_topl (fun x146 _ => ?_)
  refine lv_lload hx hb dX5_mul_571 (lv_at hl 29 rfl) ?_
  refine lv_lload hx hb dX5_mul_573 (lv_at hl 8 rfl) ?_
  refine lv_lmul hx hb dX5_mul_575 ?_
  refine lv_topl (fun x147 _ => ?_)
  refine lv_ladd hx hb dX5_mul_576 ?_
  refine lv_topl (fun x148 _ => ?_)
  refine lv_lstore (lv' := [(81, .long x148), (79, .long x129), (77, .long x110), (75, .long x91), (73, .long x72), (71, .long x53), (69, .long x34), (67, .long x33), (65, .long x32), (63, .long x31), (61, .long x30), (59, .long x29), (57, .long x28), (55, .long x27), (53, .long x26), (51, .long x25), (49, .long x24), (47, .long x23), (45, .long x22), (43, .long x21), (41, .long x20), (39, .long x19), (37, .long x18), (35, .long x17), (33, .long x16), (31, .long x15), (29, .long x14), (27, .long x13), (25, .long x12), (23, .long x11), (21, .long x10), (19, .long x9), (17, .long x8), (15, .long x7), (13, .long x6), (11, .long x5), (9, .long x4), (7, .long x3), (5, .long x2), (3, .long x1), (0, .ref out), (1, .ref a), (2, .ref b)]) hx hb dX5_mul_577 hl (by decide) rfl (fun ls hl => ?_)
  refine lv_lload_n hx hb dX5_mul_579 rfl (lv_at hl 39 rfl) ?_
  refine lv_lload hx hb dX5_mul_580 (lv_at hl 23 rfl) ?_
  refine lv_lmul hx hb dX5_mul_582 ?_
  refine lv_topl (fun x149 _ => ?_)
  refine lv_lload hx hb dX5_mul_583 (lv_at hl 19 rfl) ?_
  refine lv_lload hx hb dX5_mul_585 (lv_at hl 24 rfl) ?_
  refine lv_lmul hx hb dX5_mul_587 ?_
  refine lv_topl (fun x150 _ => ?_)
  refine lv_ladd hx hb dX5_mul_588 ?_
  refine lv_topl (fun x151 _ => ?_)
  refine lv_lload hx hb dX5_mul_589 (lv_at hl 37 rfl) ?_
  refine lv_lload hx hb dX5_mul_591 (lv_at hl 25 rfl) ?_
  refine lv_lmul hx hb dX5_mul_593 ?_
  refine lv_topl (fun x152 _ => ?_)
  refine lv_ladd hx hb dX5_mul_594 ?_
  refine lv_topl (fun x153 _ => ?_)
  refine lv_lload hx hb dX5_mul_595 (lv_at hl 18 rfl) ?_
  refine lv_lload hx hb dX5_mul_597 (lv_at hl 26 rfl) ?_
  refine lv_lmul hx hb dX5_mul_599 ?_
  refine lv_topl (fun x154 _ => ?_)
  refine lv_ladd hx hb dX5_mul_600 ?_
  refine lv_topl (fun x155 _ => ?_)
  refine lv_lload hx hb dX5_mul_601 (lv_at hl 35 rfl) ?_
  refine lv_lload hx hb dX5_mul_603 (lv_at hl 27 rfl) ?_
  refine lv_lmul hx hb dX5_mul_605 ?_
  refine lv_topl (fun x156 _ => ?_)
  refine lv_ladd hx hb dX5_mul_606 ?_
  refine lv_topl (fun x157 _ => ?_)
  refine lv_lload hx hb dX5_mul_607 (lv_at hl 17 rfl) ?_
  refine lv_lload hx hb dX5_mul_609 (lv_at hl 28 rfl) ?_
  refine lv_lmul hx hb dX5_mul_611 ?_
  refine lv_topl (fun x158 _ => ?_)
  refine lv_ladd hx hb dX5_mul_612 ?_
  refine lv_topl (fun x159 _ => ?_)
  refine lv_lload hx hb dX5_mul_613 (lv_at hl 33 rfl) ?_
  refine lv_lload hx hb dX5_mul_615 (lv_at hl 29 rfl) ?_
  refine lv_lmul hx hb dX5_mul_617 ?_
  refine lv_topl (fun x160 _ => ?_)
  refine lv_ladd hx hb dX5_mul_618 ?_
  refine lv_topl (fun x161 _ => ?_)
  refine lv_lload hx hb dX5_mul_619 (lv_at hl 16 rfl) ?_
  refine lv_lload hx hb dX5_mul_621 (lv_at hl 6 rfl) ?_
  refine lv_lmul hx hb dX5_mul_623 ?_
  refine lv_topl (fun x162 _ => ?_)
  refine lv_ladd hx hb dX5_mul_624 ?_
  refine lv_topl (fun x163 _ => ?_)
  refine lv_lload hx hb dX5_mul_625 (lv_at hl 31 rfl) ?_
  refine lv_lload hx hb dX5_mul_627 (lv_at hl 7 rfl) ?_
  show W p l e ROOM_X5_mul s m [.ref out, .ref a, .ref b].toArray below meth c H locs 0 0 (MQ below (va_Qv (zSame Y L T) (zB D vwCl (zT K) A X) A) [.ref out, .ref a, .ref b].toArray s 0 0 A) (F0 m 629 ls [.long x33, .long x9, .long x163])
  refine lv_lmul hx hb dX5_mul_629 ?_
  refine lv_topl (fun x164 _ => ?_)
  refine lv_ladd hx hb dX5_mul_630 ?_
  refine lv_topl (fun x165 _ => ?_)
  refine lv_lload hx hb dX5_mul_631 (lv_at hl 15 rfl) ?_
  refine lv_lload hx hb dX5_mul_633 (lv_at hl 8 rfl) ?_
  refine lv_lmul hx hb dX5_mul_635 ?_
  refine lv_topl (fun x166 _ => ?_)
  refine lv_ladd hx hb dX5_mul_636 ?_
  refine lv_topl (fun x167 _ => ?_)
  refine lv_lstore (lv' := [(83, .long x167), (81, .long x148), (79, .long x129), (77, .long x110), (75, .long x91), (73, .long x72), (71, .long x53), (69, .long x34), (67, .long x33), (65, .long x32), (63, .long x31), (61, .long x30), (59, .long x29), (57, .long x28), (55, .long x27), (53, .long x26), (51, .long x25), (49, .long x24), (47, .long x23), (45, .long x22), (43, .long x21), (41, .long x20), (39, .long x19), (37, .long x18), (35, .long x17), (33, .long x16), (31, .long x15), (29, .long x14), (27, .long x13), (25, .long x12), (23, .long x11), (21, .long x10), (19, .long x9), (17, .long x8), (15, .long x7), (13, .long x6), (11, .long x5), (9, .long x4), (7, .long x3), (5, .long x2), (3, .long x1), (0, .ref out), (1, .ref a), (2, .ref b)]) hx hb dX5_mul_637 hl (by decide) rfl (fun ls hl => ?_)
  refine lv_lload_n hx hb dX5_mul_639 rfl (lv_at hl 40 rfl) ?_
  refine lv_lload hx hb dX5_mul_640 (lv_at hl 23 rfl) ?_
  refine lv_lmul hx hb dX5_mul_642 ?_
  refine lv_topl (fun x168 _ => ?_)
  refine lv_lload hx hb dX5_mul_643 (lv_at hl 39 rfl) ?_
  refine lv_lload hx hb dX5_mul_645 (lv_at hl 24 rfl) ?_
  refine lv_lmul hx hb dX5_mul_647 ?_
  refine lv_topl (fun x169 _ => ?_)
  refine lv_ladd hx hb dX5_mul_648 ?_
  refine lv_topl (fun x170 _ => ?_)
  refine lv_lload hx hb dX5_mul_649 (lv_at hl 38 rfl) ?_
  refine lv_lload hx hb dX5_mul_651 (lv_at hl 25 rfl) ?_
  refine lv_lmul hx hb dX5_mul_653 ?_
  refine lv_topl (fun x171 _ => ?_)
  refine lv_ladd hx hb dX5_mul_654 ?_
  refine lv_topl (fun x172 _ => ?_)
  refine lv_lload hx hb dX5_mul_655 (lv_at hl 37 rfl) ?_
  refine lv_lload hx hb dX5_mul_657 (lv_at hl 26 rfl) ?_
  refine lv_lmul hx hb dX5_mul_659 ?_
  refine lv_topl (fun x173 _ => ?_)
  refine lv_ladd hx hb dX5_mul_660 ?_
  refine lv_topl (fun x174 _ => ?_)
  refine lv_lload hx hb dX5_mul_661 (lv_at hl 36 rfl) ?_
  refine lv_lload hx hb dX5_mul_663 (lv_at hl 27 rfl) ?_
  refine lv_lmul hx hb dX5_mul_665 ?_
  refine lv_topl (fun x175 _ => ?_)
  refine lv_ladd hx hb dX5_mul_666 ?_
  refine lv_topl (fun x176 _ => ?_)
  refine lv_lload hx hb dX5_mul_667 (lv_at hl 35 rfl) ?_
  refine lv_lload hx hb dX5_mul_669 (lv_at hl 28 rfl) ?_
  refine lv_lmul hx hb dX5_mul_671 ?_
  refine lv_topl (fun x177 _ => ?_)
  refine lv_ladd hx hb dX5_mul_672 ?_
  refine lv_topl (fun x178 _ => ?_)
  refine lv_lload hx hb dX5_mul_673 (lv_at hl 34 rfl) ?_
  refine lv_lload hx hb dX5_mul_675 (lv_at hl 29 rfl) ?_
  refine lv_lmul hx hb dX5_mul_677 ?_
  refine lv_topl (fun x179 _ => ?_)
  refine lv_ladd hx hb dX5_mul_678 ?_
  refine lv_topl (fun x180 _ => ?_)
  refine lv_lload hx hb dX5_mul_679 (lv_at hl 33 rfl) ?_
  refine lv_lload hx hb dX5_mul_681 (lv_at hl 30 rfl) ?_
  refine lv_lmul hx hb dX5_mul_683 ?_
  refine lv_topl (fun x181 _ => ?_)
  refine lv_ladd hx hb dX5_mul_684 ?_
  refine lv_topl (fun x182 _ => ?_)
  refine lv_lload hx hb dX5_mul_685 (lv_at hl 32 rfl) ?_
  refine lv_lload hx hb dX5_mul_687 (lv_at hl 7 rfl) ?_
  refine lv_lmul hx hb dX5_mul_689 ?_
  refine lv_topl (fun x183 _ => ?_)
  show W p l e ROOM_X5_mul s m [.ref out, .ref a, .ref b].toArray below meth c H locs 0 0 (MQ below (va_Qv (zSame Y L T) (zB D vwCl (zT K) A X) A) [.ref out, .ref a, .ref b].toArray s 0 0 A) (F0 m 690 ls [.long x183, .long x182])
  refine lv_ladd hx hb dX5_mul_690 ?_
  refine lv_topl (fun x184 _ => ?_)
  refine lv_lload hx hb dX5_mul_691 (lv_at hl 31 rfl) ?_
  refine lv_lload hx hb dX5_mul_693 (lv_at hl 8 rfl) ?_
  refine lv_lmul hx hb dX5_mul_695 ?_
  refine lv_topl (fun x185 _ => ?_)
  refine lv_ladd hx hb dX5_mul_696 ?_
  refine lv_topl (fun x186 _ => ?_)
  refine lv_lstore (lv' := [(85, .long x186), (83, .long x167), (81, .long x148), (79, .long x129), (77, .long x110), (75, .long x91), (73, .long x72), (71, .long x53), (69, .long x34), (67, .long x33), (65, .long x32), (63, .long x31), (61, .long x30), (59, .long x29), (57, .long x28), (55, .long x27), (53, .long x26), (51, .long x25), (49, .long x24), (47, .long x23), (45, .long x22), (43, .long x21), (41, .long x20), (39, .long x19), (37, .long x18), (35, .long x17), (33, .long x16), (31, .long x15), (29, .long x14), (27, .long x13), (25, .long x12), (23, .long x11), (21, .long x10), (19, .long x9), (17, .long x8), (15, .long x7), (13, .long x6), (11, .long x5), (9, .long x4), (7, .long x3), (5, .long x2), (3, .long x1), (0, .ref out), (1, .ref a), (2, .ref b)]) hx hb dX5_mul_697 hl (by decide) rfl (fun ls hl => ?_)
  refine lv_lload_n hx hb dX5_mul_699 rfl (lv_at hl 41 rfl) ?_
  refine lv_lload hx hb dX5_mul_700 (lv_at hl 23 rfl) ?_
  refine lv_lmul hx hb dX5_mul_702 ?_
  refine lv_topl (fun x187 _ => ?_)
  refine lv_lload hx hb dX5_mul_703 (lv_at hl 21 rfl) ?_
  refine lv_lload hx hb dX5_mul_705 (lv_at hl 24 rfl) ?_
  refine lv_lmul hx hb dX5_mul_707 ?_
  refine lv_topl (fun x188 _ => ?_)
  refine lv_ladd hx hb dX5_mul_708 ?_
  refine lv_topl (fun x189 _ => ?_)
  refine lv_lload hx hb dX5_mul_709 (lv_at hl 39 rfl) ?_
  refine lv_lload hx hb dX5_mul_711 (lv_at hl 25 rfl) ?_
  refine lv_lmul hx hb dX5_mul_713 ?_
  refine lv_topl (fun x190 _ => ?_)
  refine lv_ladd hx hb dX5_mul_714 ?_
  refine lv_topl (fun x191 _ => ?_)
  refine lv_lload hx hb dX5_mul_715 (lv_at hl 20 rfl) ?_
  refine lv_lload hx hb dX5_mul_717 (lv_at hl 26 rfl) ?_
  refine lv_lmul hx hb dX5_mul_719 ?_
  refine lv_topl (fun x192 _ => ?_)
  refine lv_ladd hx hb dX5_mul_720 ?_
  refine lv_topl (fun x193 _ => ?_)
  refine lv_lload hx hb dX5_mul_721 (lv_at hl 37 rfl) ?_
  refine lv_lload hx hb dX5_mul_723 (lv_at hl 27 rfl) ?_
  refine lv_lmul hx hb dX5_mul_725 ?_
  refine lv_topl (fun x194 _ => ?_)
  refine lv_ladd hx hb dX5_mul_726 ?_
  refine lv_topl (fun x195 _ => ?_)
  refine lv_lload hx hb dX5_mul_727 (lv_at hl 19 rfl) ?_
  refine lv_lload hx hb dX5_mul_729 (lv_at hl 28 rfl) ?_
  refine lv_lmul hx hb dX5_mul_731 ?_
  refine lv_topl (fun x196 _ => ?_)
  refine lv_ladd hx hb dX5_mul_732 ?_
  refine lv_topl (fun x197 _ => ?_)
  refine lv_lload hx hb dX5_mul_733 (lv_at hl 35 rfl) ?_
  refine lv_lload hx hb dX5_mul_735 (lv_at hl 29 rfl) ?_
  refine lv_lmul hx hb dX5_mul_737 ?_
  refine lv_topl (fun x198 _ => ?_)
  refine lv_ladd hx hb dX5_mul_738 ?_
  refine lv_topl (fun x199 _ => ?_)
  refine lv_lload hx hb dX5_mul_739 (lv_at hl 18 rfl) ?_
  refine lv_lload hx hb dX5_mul_741 (lv_at hl 30 rfl) ?_
  refine lv_lmul hx hb dX5_mul_743 ?_
  refine lv_topl (fun x200 _ => ?_)
  refine lv_ladd hx hb dX5_mul_744 ?_
  refine lv_topl (fun x201 _ => ?_)
  refine lv_lload hx hb dX5_mul_745 (lv_at hl 33 rfl) ?_
  refine lv_lload hx hb dX5_mul_747 (lv_at hl 31 rfl) ?_
  refine lv_lmul hx hb dX5_mul_749 ?_
  refine lv_topl (fun x202 _ => ?_)
  refine lv_ladd hx hb dX5_mul_750 ?_
  refine lv_topl (fun x203 _ => ?_)
  show W p l e ROOM_X5_mul s m [.ref out, .ref a, .ref b].toArray below meth c H locs 0 0 (MQ below (va_Qv (zSame Y L T) (zB D vwCl (zT K) A X) A) [.ref out, .ref a, .ref b].toArray s 0 0 A) (F0 m 751 ls [.long x203])
  refine lv_lload hx hb dX5_mul_751 (lv_at hl 17 rfl) ?_
  refine lv_lload hx hb dX5_mul_753 (lv_at hl 8 rfl) ?_
  refine lv_lmul hx hb dX5_mul_755 ?_
  refine lv_topl (fun x204 _ => ?_)
  refine lv_ladd hx hb dX5_mul_756 ?_
  refine lv_topl (fun x205 _ => ?_)
  refine lv_lstore (lv' := [(87, .long x205), (85, .long x186), (83, .long x167), (81, .long x148), (79, .long x129), (77, .long x110), (75, .long x91), (73, .long x72), (71, .long x53), (69, .long x34), (67, .long x33), (65, .long x32), (63, .long x31), (61, .long x30), (59, .long x29), (57, .long x28), (55, .long x27), (53, .long x26), (51, .long x25), (49, .long x24), (47, .long x23), (45, .long x22), (43, .long x21), (41, .long x20), (39, .long x19), (37, .long x18), (35, .long x17), (33, .long x16), (31, .long x15), (29, .long x14), (27, .long x13), (25, .long x12), (23, .long x11), (21, .long x10), (19, .long x9), (17, .long x8), (15, .long x7), (13, .long x6), (11, .long x5), (9, .long x4), (7, .long x3), (5, .long x2), (3, .long x1), (0, .ref out), (1, .ref a), (2, .ref b)]) hx hb dX5_mul_757 hl (by decide) rfl (fun ls hl => ?_)
  refine lv_lload_n hx hb dX5_mul_759 rfl (lv_at hl 42 rfl) ?_
  refine lv_lload hx hb dX5_mul_760 (lv_at hl 23 rfl) ?_
  refine lv_lmul hx hb dX5_mul_762 ?_
  refine lv_topl (fun x206 _ => ?_)
  refine lv_lload hx hb dX5_mul_763 (lv_at hl 41 rfl) ?_
  refine lv_lload hx hb dX5_mul_765 (lv_at hl 24 rfl) ?_
  refine lv_lmul hx hb dX5_mul_767 ?_
  refine lv_topl (fun x207 _ => ?_)
  refine lv_ladd hx hb dX5_mul_768 ?_
  refine lv_topl (fun x208 _ => ?_)
  refine lv_lload hx hb dX5_mul_769 (lv_at hl 40 rfl) ?_
  refine lv_lload hx hb dX5_mul_771 (lv_at hl 25 rfl) ?_
  refine lv_lmul hx hb dX5_mul_773 ?_
  refine lv_topl (fun x209 _ => ?_)
  refine lv_ladd hx hb dX5_mul_774 ?_
  refine lv_topl (fun x210 _ => ?_)
  refine lv_lload hx hb dX5_mul_775 (lv_at hl 39 rfl) ?_
  refine lv_lload hx hb dX5_mul_777 (lv_at hl 26 rfl) ?_
  refine lv_lmul hx hb dX5_mul_779 ?_
  refine lv_topl (fun x211 _ => ?_)
  refine lv_ladd hx hb dX5_mul_780 ?_
  refine lv_topl (fun x212 _ => ?_)
  refine lv_lload hx hb dX5_mul_781 (lv_at hl 38 rfl) ?_
  refine lv_lload hx hb dX5_mul_783 (lv_at hl 27 rfl) ?_
  refine lv_lmul hx hb dX5_mul_785 ?_
  refine lv_topl (fun x213 _ => ?_)
  refine lv_ladd hx hb dX5_mul_786 ?_
  refine lv_topl (fun x214 _ => ?_)
  refine lv_lload hx hb dX5_mul_787 (lv_at hl 37 rfl) ?_
  refine lv_lload hx hb dX5_mul_789 (lv_at hl 28 rfl) ?_
  refine lv_lmul hx hb dX5_mul_791 ?_
  refine lv_topl (fun x215 _ => ?_)
  refine lv_ladd hx hb dX5_mul_792 ?_
  refine lv_topl (fun x216 _ => ?_)
  refine lv_lload hx hb dX5_mul_793 (lv_at hl 36 rfl) ?_
  refine lv_lload hx hb dX5_mul_795 (lv_at hl 29 rfl) ?_
  refine lv_lmul hx hb dX5_mul_797 ?_
  refine lv_topl (fun x217 _ => ?_)
  refine lv_ladd hx hb dX5_mul_798 ?_
  refine lv_topl (fun x218 _ => ?_)
  refine lv_lload hx hb dX5_mul_799 (lv_at hl 35 rfl) ?_
  refine lv_lload hx hb dX5_mul_801 (lv_at hl 30 rfl) ?_
  refine lv_lmul hx hb dX5_mul_803 ?_
  refine lv_topl (fun x219 _ => ?_)
  refine lv_ladd hx hb dX5_mul_804 ?_
  refine lv_topl (fun x220 _ => ?_)
  refine lv_lload hx hb dX5_mul_805 (lv_at hl 34 rfl) ?_
  refine lv_lload hx hb dX5_mul_807 (lv_at hl 31 rfl) ?_
  refine lv_lmul hx hb dX5_mul_809 ?_
  refine lv_topl (fun x221 _ => ?_)
  refine lv_ladd hx hb dX5_mul_810 ?_
  refine lv_topl (fun x222 _ => ?_)
  refine lv_lload hx hb dX5_mul_811 (lv_at hl 33 rfl) ?_
  show W p l e ROOM_X5_mul s m [.ref out, .ref a, .ref b].toArray below meth c H locs 0 0 (MQ below (va_Qv (zSame Y L T) (zB D vwCl (zT K) A X) A) [.ref out, .ref a, .ref b].toArray s 0 0 A) (F0 m 813 ls [.long x10, .long x222])
  refine lv_lload hx hb dX5_mul_813 (lv_at hl 32 rfl) ?_
  refine lv_lmul hx hb dX5_mul_815 ?_
  refine lv_topl (fun x223 _ => ?_)
  refine lv_ladd hx hb dX5_mul_816 ?_
  refine lv_topl (fun x224 _ => ?_)
  refine lv_lstore (lv' := [(89, .long x224), (87, .long x205), (85, .long x186), (83, .long x167), (81, .long x148), (79, .long x129), (77, .long x110), (75, .long x91), (73, .long x72), (71, .long x53), (69, .long x34), (67, .long x33), (65, .long x32), (63, .long x31), (61, .long x30), (59, .long x29), (57, .long x28), (55, .long x27), (53, .long x26), (51, .long x25), (49, .long x24), (47, .long x23), (45, .long x22), (43, .long x21), (41, .long x20), (39, .long x19), (37, .long x18), (35, .long x17), (33, .long x16), (31, .long x15), (29, .long x14), (27, .long x13), (25, .long x12), (23, .long x11), (21, .long x10), (19, .long x9), (17, .long x8), (15, .long x7), (13, .long x6), (11, .long x5), (9, .long x4), (7, .long x3), (5, .long x2), (3, .long x1), (0, .ref out), (1, .ref a), (2, .ref b)]) hx hb dX5_mul_817 hl (by decide) rfl (fun ls hl => ?_)
  refine lv_lload hx hb dX5_mul_819 (lv_at hl 9 rfl) ?_
  refine lv_ldc2 (v := (33554432)) hx hb hown (hts _ zw_627) dX5_mul_821 ?_
  refine lv_ladd hx hb dX5_mul_824 ?_
  refine lv_topl (fun x225 _ => ?_)
  refine lv_bipush (v := nI 26) hx hb dX5_mul_825 (by decide +kernel) ?_
  refine lv_lshr hx hb dX5_mul_827 rfl ?_
  refine lv_topl (fun x226 _ => ?_)
  refine lv_lstore (lv' := [(91, .long x226), (89, .long x224), (87, .long x205), (85, .long x186), (83, .long x167), (81, .long x148), (79, .long x129), (77, .long x110), (75, .long x91), (73, .long x72), (71, .long x53), (69, .long x34), (67, .long x33), (65, .long x32), (63, .long x31), (61, .long x30), (59, .long x29), (57, .long x28), (55, .long x27), (53, .long x26), (51, .long x25), (49, .long x24), (47, .long x23), (45, .long x22), (43, .long x21), (41, .long x20), (39, .long x19), (37, .long x18), (35, .long x17), (33, .long x16), (31, .long x15), (29, .long x14), (27, .long x13), (25, .long x12), (23, .long x11), (21, .long x10), (19, .long x9), (17, .long x8), (15, .long x7), (13, .long x6), (11, .long x5), (9, .long x4), (7, .long x3), (5, .long x2), (3, .long x1), (0, .ref out), (1, .ref a), (2, .ref b)]) hx hb dX5_mul_828 hl (by decide) rfl (fun ls hl => ?_)
  refine lv_lload hx hb dX5_mul_830 (lv_at hl 9 rfl) ?_
  refine lv_lload hx hb dX5_mul_832 (lv_at hl 0 rfl) ?_
  refine lv_ladd hx hb dX5_mul_834 ?_
  refine lv_topl (fun x227 _ => ?_)
  refine lv_lstore (lv' := [(73, .long x227), (91, .long x226), (89, .long x224), (87, .long x205), (85, .long x186), (83, .long x167), (81, .long x148), (79, .long x129), (77, .long x110), (75, .long x91), (71, .long x53), (69, .long x34), (67, .long x33), (65, .long x32), (63, .long x31), (61, .long x30), (59, .long x29), (57, .long x28), (55, .long x27), (53, .long x26), (51, .long x25), (49, .long x24), (47, .long x23), (45, .long x22), (43, .long x21), (41, .long x20), (39, .long x19), (37, .long x18), (35, .long x17), (33, .long x16), (31, .long x15), (29, .long x14), (27, .long x13), (25, .long x12), (23, .long x11), (21, .long x10), (19, .long x9), (17, .long x8), (15, .long x7), (13, .long x6), (11, .long x5), (9, .long x4), (7, .long x3), (5, .long x2), (3, .long x1), (0, .ref out), (1, .ref a), (2, .ref b)]) hx hb dX5_mul_835 hl (by decide) rfl (fun ls hl => ?_)
  refine lv_lload hx hb dX5_mul_837 (lv_at hl 10 rfl) ?_
  refine lv_lload hx hb dX5_mul_839 (lv_at hl 1 rfl) ?_
  refine lv_bipush (v := nI 26) hx hb dX5_mul_841 (by decide +kernel) ?_
  refine lv_lshl hx hb dX5_mul_843 rfl ?_
  refine lv_topl (fun x228 _ => ?_)
  refine lv_lsub hx hb dX5_mul_844 ?_
  refine lv_topl (fun x229 _ => ?_)
  refine lv_lstore (lv' := [(71, .long x229), (73, .long x227), (91, .long x226), (89, .long x224), (87, .long x205), (85, .long x186), (83, .long x167), (81, .long x148), (79, .long x129), (77, .long x110), (75, .long x91), (69, .long x34), (67, .long x33), (65, .long x32), (63, .long x31), (61, .long x30), (59, .long x29), (57, .long x28), (55, .long x27), (53, .long x26), (51, .long x25), (49, .long x24), (47, .long x23), (45, .long x22), (43, .long x21), (41, .long x20), (39, .long x19), (37, .long x18), (35, .long x17), (33, .long x16), (31, .long x15), (29, .long x14), (27, .long x13), (25, .long x12), (23, .long x11), (21, .long x10), (19, .long x9), (17, .long x8), (15, .long x7), (13, .long x6), (11, .long x5), (9, .long x4), (7, .long x3), (5, .long x2), (3, .long x1), (0, .ref out), (1, .ref a), (2, .ref b)]) hx hb dX5_mul_845 hl (by decide) rfl (fun ls hl => ?_)
  refine lv_lload hx hb dX5_mul_847 (lv_at hl 8 rfl) ?_
  refine lv_ldc2 (v := (33554432)) hx hb hown (hts _ zw_627) dX5_mul_849 ?_
  refine lv_ladd hx hb dX5_mul_852 ?_
  refine lv_topl (fun x230 _ => ?_)
  refine lv_bipush (v := nI 26) hx hb dX5_mul_853 (by decide +kernel) ?_
  refine lv_lshr hx hb dX5_mul_855 rfl ?_
  refine lv_topl (fun x231 _ => ?_)
  refine lv_lstore (lv' := [(91, .long x231), (71, .long x229), (73, .long x227), (89, .long x224), (87, .long x205), (85, .long x186), (83, .long x167), (81, .long x148), (79, .long x129), (77, .long x110), (75, .long x91), (69, .long x34), (67, .long x33), (65, .long x32), (63, .long x31), (61, .long x30), (59, .long x29), (57, .long x28), (55, .long x27), (53, .long x26), (51, .long x25), (49, .long x24), (47, .long x23), (45, .long x22), (43, .long x21), (41, .long x20), (39, .long x19), (37, .long x18), (35, .long x17), (33, .long x16), (31, .long x15), (29, .long x14), (27, .long x13), (25, .long x12), (23, .long x11), (21, .long x10), (19, .long x9), (17, .long x8), (15, .long x7), (13, .long x6), (11, .long x5), (9, .long x4), (7, .long x3), (5, .long x2), (3, .long x1), (0, .ref out), (1, .ref a), (2, .ref b)]) hx hb dX5_mul_856 hl (by decide) rfl (fun ls hl => ?_)
  refine lv_lload hx hb dX5_mul_858 (lv_at hl 7 rfl) ?_
  refine lv_lload hx hb dX5_mul_860 (lv_at hl 0 rfl) ?_
  refine lv_ladd hx hb dX5_mul_862 ?_
  refine lv_topl (fun x232 _ => ?_)
  refine lv_lstore (lv' := [(81, .long x232), (91, .long x231), (71, .long x229), (73, .long x227), (89, .long x224), (87, .long x205), (85, .long x186), (83, .long x167), (79, .long x129), (77, .long x110), (75, .long x91), (69, .long x34), (67, .long x33), (65, .long x32), (63, .long x31), (61, .long x30), (59, .long x29), (57, .long x28), (55, .long x27), (53, .long x26), (51, .long x25), (49, .long x24), (47, .long x23), (45, .long x22), (43, .long x21), (41, .long x20), (39, .long x19), (37, .long x18), (35, .long x17), (33, .long x16), (31, .long x15), (29, .long x14), (27, .long x13), (25, .long x12), (23, .long x11), (21, .long x10), (19, .long x9), (17, .long x8), (15, .long x7), (13, .long x6), (11, .long x5), (9, .long x4), (7, .long x3), (5, .long x2), (3, .long x1), (0, .ref out), (1, .ref a), (2, .ref b)]) hx hb dX5_mul_863 hl (by decide) rfl (fun ls hl => ?_)
  refine lv_lload hx hb dX5_mul_865 (lv_at hl 8 rfl) ?_
  refine lv_lload hx hb dX5_mul_867 (lv_at hl 1 rfl) ?_
  refine lv_bipush (v := nI 26) hx hb dX5_mul_869 (by decide +kernel) ?_
  refine lv_lshl hx hb dX5_mul_871 rfl ?_
  refine lv_topl (fun x233 _ => ?_)
  refine lv_lsub hx hb dX5_mul_872 ?_
  refine lv_topl (fun x234 _ => ?_)
  refine lv_lstore (lv' := [(79, .long x234), (81, .long x232), (91, .long x231), (71, .long x229), (73, .long x227), (89, .long x224), (87, .long x205), (85, .long x186), (83, .long x167), (77, .long x110), (75, .long x91), (69, .long x34), (67, .long x33), (65, .long x32), (63, .long x31), (61, .long x30), (59, .long x29), (57, .long x28), (55, .long x27), (53, .long x26), (51, .long x25), (49, .long x24), (47, .long x23), (45, .long x22), (43, .long x21), (41, .long x20), (39, .long x19), (37, .long x18), (35, .long x17), (33, .long x16), (31, .long x15), (29, .long x14), (27, .long x13), (25, .long x12), (23, .long x11), (21, .long x10), (19, .long x9), (17, .long x8), (15, .long x7), (13, .long x6), (11, .long x5), (9, .long x4), (7, .long x3), (5, .long x2), (3, .long x1), (0, .ref out), (1, .ref a), (2, .ref b)]) hx hb dX5_mul_873 hl (by decide) rfl (fun ls hl => ?_)
  refine lv_lload hx hb dX5_mul_875 (lv_at hl 4 rfl) ?_
  refine lv_ldc2 (v := (16777216)) hx hb hown (hts _ zw_628) dX5_mul_877 ?_
  refine lv_ladd hx hb dX5_mul_880 ?_
  refine lv_topl (fun x235 _ => ?_)
  refine lv_bipush (v := nI 25) hx hb dX5_mul_881 (by decide +kernel) ?_
  refine lv_lshr hx hb dX5_mul_883 rfl ?_
  refine lv_topl (fun x236 _ => ?_)
  show W p l e ROOM_X5_mul s m [.ref out, .ref a, .ref b].toArray below meth c H locs 0 0 (MQ below (va_Qv (zSame Y L T) (zB D vwCl (zT K) A X) A) [.ref out, .ref a, .ref b].toArray s 0 0 A) (F0 m 884 ls [.long x236])
  refine lv_lstore (lv' := [(91, .long x236), (79, .long x234), (81, .long x232), (71, .long x229), (73, .long x227), (89, .long x224), (87, .long x205), (85, .long x186), (83, .long x167), (77, .long x110), (75, .long x91), (69, .long x34), (67, .long x33), (65, .long x32), (63, .long x31), (61, .long x30), (59, .long x29), (57, .long x28), (55, .long x27), (53, .long x26), (51, .long x25), (49, .long x24), (47, .long x23), (45, .long x22), (43, .long x21), (41, .long x20), (39, .long x19), (37, .long x18), (35, .long x17), (33, .long x16), (31, .long x15), (29, .long x14), (27, .long x13), (25, .long x12), (23, .long x11), (21, .long x10), (19, .long x9), (17, .long x8), (15, .long x7), (13, .long x6), (11, .long x5), (9, .long x4), (7, .long x3), (5, .long x2), (3, .long x1), (0, .ref out), (1, .ref a), (2, .ref b)]) hx hb dX5_mul_884 hl (by decide) rfl (fun ls hl => ?_)
  refine lv_lload hx hb dX5_mul_886 (lv_at hl 10 rfl) ?_
  refine lv_lload hx hb dX5_mul_888 (lv_at hl 0 rfl) ?_
  refine lv_ladd hx hb dX5_mul_890 ?_
  refine lv_topl (fun x237 _ => ?_)
  refine lv_lstore (lv' := [(75, .long x237), (91, .long x236), (79, .long x234), (81, .long x232), (71, .long x229), (73, .long x227), (89, .long x224), (87, .long x205), (85, .long x186), (83, .long x167), (77, .long x110), (69, .long x34), (67, .long x33), (65, .long x32), (63, .long x31), (61, .long x30), (59, .long x29), (57, .long x28), (55, .long x27), (53, .long x26), (51, .long x25), (49, .long x24), (47, .long x23), (45, .long x22), (43, .long x21), (41, .long x20), (39, .long x19), (37, .long x18), (35, .long x17), (33, .long x16), (31, .long x15), (29, .long x14), (27, .long x13), (25, .long x12), (23, .long x11), (21, .long x10), (19, .long x9), (17, .long x8), (15, .long x7), (13, .long x6), (11, .long x5), (9, .long x4), (7, .long x3), (5, .long x2), (3, .long x1), (0, .ref out), (1, .ref a), (2, .ref b)]) hx hb dX5_mul_891 hl (by decide) rfl (fun ls hl => ?_)
  refine lv_aload_n hx hb dX5_mul_893 rfl (lv_at hl 45 rfl) ?_
  refine lv_iconst (v := nI 1) hx hb dX5_mul_894 (by decide +kernel) ?_
  refine lv_lload hx hb dX5_mul_895 (lv_at hl 5 rfl) ?_
  refine lv_lload hx hb dX5_mul_897 (lv_at hl 1 rfl) ?_
  refine lv_bipush (v := nI 25) hx hb dX5_mul_899 (by decide +kernel) ?_
  refine lv_lshl hx hb dX5_mul_901 rfl ?_
  refine lv_topl (fun x238 _ => ?_)
  refine lv_lsub hx hb dX5_mul_902 ?_
  refine lv_topl (fun x239 _ => ?_)
  refine z_last hx hb hK hZ hS 1 h_out k_out rfl (vp_in_nI (by omega) (by omega)) dX5_mul_903 (fun H locs hZ hS => ?_)
  refine lv_lload hx hb dX5_mul_904 (lv_at hl 3 rfl) ?_
  refine lv_ldc2 (v := (16777216)) hx hb hown (hts _ zw_628) dX5_mul_906 ?_
  refine lv_ladd hx hb dX5_mul_909 ?_
  refine lv_topl (fun x240 _ => ?_)
  refine lv_bipush (v := nI 25) hx hb dX5_mul_910 (by decide +kernel) ?_
  refine lv_lshr hx hb dX5_mul_912 rfl ?_
  refine lv_topl (fun x241 _ => ?_)
  refine lv_lstore (lv' := [(91, .long x241), (75, .long x237), (79, .long x234), (81, .long x232), (71, .long x229), (73, .long x227), (89, .long x224), (87, .long x205), (85, .long x186), (83, .long x167), (77, .long x110), (69, .long x34), (67, .long x33), (65, .long x32), (63, .long x31), (61, .long x30), (59, .long x29), (57, .long x28), (55, .long x27), (53, .long x26), (51, .long x25), (49, .long x24), (47, .long x23), (45, .long x22), (43, .long x21), (41, .long x20), (39, .long x19), (37, .long x18), (35, .long x17), (33, .long x16), (31, .long x15), (29, .long x14), (27, .long x13), (25, .long x12), (23, .long x11), (21, .long x10), (19, .long x9), (17, .long x8), (15, .long x7), (13, .long x6), (11, .long x5), (9, .long x4), (7, .long x3), (5, .long x2), (3, .long x1), (0, .ref out), (1, .ref a), (2, .ref b)]) hx hb dX5_mul_913 hl (by decide) rfl (fun ls hl => ?_)
  refine lv_lload hx hb dX5_mul_915 (lv_at hl 9 rfl) ?_
  refine lv_lload hx hb dX5_mul_917 (lv_at hl 0 rfl) ?_
  refine lv_ladd hx hb dX5_mul_919 ?_
  refine lv_topl (fun x242 _ => ?_)
  refine lv_lstore (lv' := [(83, .long x242), (91, .long x241), (75, .long x237), (79, .long x234), (81, .long x232), (71, .long x229), (73, .long x227), (89, .long x224), (87, .long x205), (85, .long x186), (77, .long x110), (69, .long x34), (67, .long x33), (65, .long x32), (63, .long x31), (61, .long x30), (59, .long x29), (57, .long x28), (55, .long x27), (53, .long x26), (51, .long x25), (49, .long x24), (47, .long x23), (45, .long x22), (43, .long x21), (41, .long x20), (39, .long x19), (37, .long x18), (35, .long x17), (33, .long x16), (31, .long x15), (29, .long x14), (27, .long x13), (25, .long x12), (23, .long x11), (21, .long x10), (19, .long x9), (17, .long x8), (15, .long x7), (13, .long x6), (11, .long x5), (9, .long x4), (7, .long x3), (5, .long x2), (3, .long x1), (0, .ref out), (1, .ref a), (2, .ref b)]) hx hb dX5_mul_920 hl (by decide) rfl (fun ls hl => ?_)
  refine lv_aload_n hx hb dX5_mul_922 rfl (lv_at hl 45 rfl) ?_
  refine lv_iconst (v := nI 5) hx hb dX5_mul_923 (by decide +kernel) ?_
  refine lv_lload hx hb dX5_mul_924 (lv_at hl 4 rfl) ?_
  refine lv_lload hx hb dX5_mul_926 (lv_at hl 1 rfl) ?_
  refine lv_bipush (v := nI 25) hx hb dX5_mul_928 (by decide +kernel) ?_
  refine lv_lshl hx hb dX5_mul_930 rfl ?_
  refine lv_topl (fun x243 _ => ?_)
  refine lv_lsub hx hb dX5_mul_931 ?_
  refine lv_topl (fun x244 _ => ?_)
  refine z_last hx hb hK hZ hS 1 h_out k_out rfl (vp_in_nI (by omega) (by omega)) dX5_mul_932 (fun H locs hZ hS => ?_)
  refine lv_lload hx hb dX5_mul_933 (lv_at hl 2 rfl) ?_
  refine lv_ldc2 (v := (33554432)) hx hb hown (hts _ zw_627) dX5_mul_935 ?_
  refine lv_ladd hx hb dX5_mul_938 ?_
  refine lv_topl (fun x245 _ => ?_)
  refine lv_bipush (v := nI 26) hx hb dX5_mul_939 (by decide +kernel) ?_
  refine lv_lshr hx hb dX5_mul_941 rfl ?_
  refine lv_topl (fun x246 _ => ?_)
  refine lv_lstore (lv' := [(91, .long x246), (83, .long x242), (75, .long x237), (79, .long x234), (81, .long x232), (71, .long x229), (73, .long x227), (89, .long x224), (87, .long x205), (85, .long x186), (77, .long x110), (69, .long x34), (67, .long x33), (65, .long x32), (63, .long x31), (61, .long x30), (59, .long x29), (57, .long x28), (55, .long x27), (53, .long x26), (51, .long x25), (49, .long x24), (47, .long x23), (45, .long x22), (43, .long x21), (41, .long x20), (39, .long x19), (37, .long x18), (35, .long x17), (33, .long x16), (31, .long x15), (29, .long x14), (27, .long x13), (25, .long x12), (23, .long x11), (21, .long x10), (19, .long x9), (17, .long x8), (15, .long x7), (13, .long x6), (11, .long x5), (9, .long x4), (7, .long x3), (5, .long x2), (3, .long x1), (0, .ref out), (1, .ref a), (2, .ref b)]) hx hb dX5_mul_942 hl (by decide) rfl (fun ls hl => ?_)
  refine lv_lload hx hb dX5_mul_944 (lv_at hl 10 rfl) ?_
  refine lv_lload hx hb dX5_mul_946 (lv_at hl 0 rfl) ?_
  refine lv_ladd hx hb dX5_mul_948 ?_
  refine lv_topl (fun x247 _ => ?_)
  refine lv_lstore (lv' := [(77, .long x247), (91, .long x246), (83, .long x242), (75, .long x237), (79, .long x234), (81, .long x232), (71, .long x229), (73, .long x227), (89, .long x224), (87, .long x205), (85, .long x186), (69, .long x34), (67, .long x33), (65, .long x32), (63, .long x31), (61, .long x30), (59, .long x29), (57, .long x28), (55, .long x27), (53, .long x26), (51, .long x25), (49, .long x24), (47, .long x23), (45, .long x22), (43, .long x21), (41, .long x20), (39, .long x19), (37, .long x18), (35, .long x17), (33, .long x16), (31, .long x15), (29, .long x14), (27, .long x13), (25, .long x12), (23, .long x11), (21, .long x10), (19, .long x9), (17, .long x8), (15, .long x7), (13, .long x6), (11, .long x5), (9, .long x4), (7, .long x3), (5, .long x2), (3, .long x1), (0, .ref out), (1, .ref a), (2, .ref b)]) hx hb dX5_mul_949 hl (by decide) rfl (fun ls hl => ?_)
  show W p l e ROOM_X5_mul s m [.ref out, .ref a, .ref b].toArray below meth c H locs 0 0 (MQ below (va_Qv (zSame Y L T) (zB D vwCl (zT K) A X) A) [.ref out, .ref a, .ref b].toArray s 0 0 A) (F0 m 951 ls [])
  refine lv_aload_n hx hb dX5_mul_951 rfl (lv_at hl 45 rfl) ?_
  refine lv_iconst (v := nI 2) hx hb dX5_mul_952 (by decide +kernel) ?_
  refine lv_lload hx hb dX5_mul_953 (lv_at hl 3 rfl) ?_
  refine lv_lload hx hb dX5_mul_955 (lv_at hl 1 rfl) ?_
  refine lv_bipush (v := nI 26) hx hb dX5_mul_957 (by decide +kernel) ?_
  refine lv_lshl hx hb dX5_mul_959 rfl ?_
  refine lv_topl (fun x248 _ => ?_)
  refine lv_lsub hx hb dX5_mul_960 ?_
  refine lv_topl (fun x249 _ => ?_)
  refine z_last hx hb hK hZ hS 1 h_out k_out rfl (vp_in_nI (by omega) (by omega)) dX5_mul_961 (fun H locs hZ hS => ?_)
  refine lv_lload hx hb dX5_mul_962 (lv_at hl 2 rfl) ?_
  refine lv_ldc2 (v := (33554432)) hx hb hown (hts _ zw_627) dX5_mul_964 ?_
  refine lv_ladd hx hb dX5_mul_967 ?_
  refine lv_topl (fun x250 _ => ?_)
  refine lv_bipush (v := nI 26) hx hb dX5_mul_968 (by decide +kernel) ?_
  refine lv_lshr hx hb dX5_mul_970 rfl ?_
  refine lv_topl (fun x251 _ => ?_)
  refine lv_lstore (lv' := [(91, .long x251), (77, .long x247), (83, .long x242), (75, .long x237), (79, .long x234), (81, .long x232), (71, .long x229), (73, .long x227), (89, .long x224), (87, .long x205), (85, .long x186), (69, .long x34), (67, .long x33), (65, .long x32), (63, .long x31), (61, .long x30), (59, .long x29), (57, .long x28), (55, .long x27), (53, .long x26), (51, .long x25), (49, .long x24), (47, .long x23), (45, .long x22), (43, .long x21), (41, .long x20), (39, .long x19), (37, .long x18), (35, .long x17), (33, .long x16), (31, .long x15), (29, .long x14), (27, .long x13), (25, .long x12), (23, .long x11), (21, .long x10), (19, .long x9), (17, .long x8), (15, .long x7), (13, .long x6), (11, .long x5), (9, .long x4), (7, .long x3), (5, .long x2), (3, .long x1), (0, .ref out), (1, .ref a), (2, .ref b)]) hx hb dX5_mul_971 hl (by decide) rfl (fun ls hl => ?_)
  refine lv_lload hx hb dX5_mul_973 (lv_at hl 10 rfl) ?_
  refine lv_lload hx hb dX5_mul_975 (lv_at hl 0 rfl) ?_
  refine lv_ladd hx hb dX5_mul_977 ?_
  refine lv_topl (fun x252 _ => ?_)
  refine lv_lstore (lv' := [(85, .long x252), (91, .long x251), (77, .long x247), (83, .long x242), (75, .long x237), (79, .long x234), (81, .long x232), (71, .long x229), (73, .long x227), (89, .long x224), (87, .long x205), (69, .long x34), (67, .long x33), (65, .long x32), (63, .long x31), (61, .long x30), (59, .long x29), (57, .long x28), (55, .long x27), (53, .long x26), (51, .long x25), (49, .long x24), (47, .long x23), (45, .long x22), (43, .long x21), (41, .long x20), (39, .long x19), (37, .long x18), (35, .long x17), (33, .long x16), (31, .long x15), (29, .long x14), (27, .long x13), (25, .long x12), (23, .long x11), (21, .long x10), (19, .long x9), (17, .long x8), (15, .long x7), (13, .long x6), (11, .long x5), (9, .long x4), (7, .long x3), (5, .long x2), (3, .long x1), (0, .ref out), (1, .ref a), (2, .ref b)]) hx hb dX5_mul_978 hl (by decide) rfl (fun ls hl => ?_)
  refine lv_aload_n hx hb dX5_mul_980 rfl (lv_at hl 45 rfl) ?_
  refine lv_bipush (v := nI 6) hx hb dX5_mul_981 (by decide +kernel) ?_
  refine lv_lload hx hb dX5_mul_983 (lv_at hl 3 rfl) ?_
  refine lv_lload hx hb dX5_mul_985 (lv_at hl 1 rfl) ?_
  refine lv_bipush (v := nI 26) hx hb dX5_mul_987 (by decide +kernel) ?_
  refine lv_lshl hx hb dX5_mul_989 rfl ?_
  refine lv_topl (fun x253 _ => ?_)
  refine lv_lsub hx hb dX5_mul_990 ?_
  refine lv_topl (fun x254 _ => ?_)
  refine z_last hx hb hK hZ hS 1 h_out k_out rfl (vp_in_nI (by omega) (by omega)) dX5_mul_991 (fun H locs hZ hS => ?_)
  refine lv_lload hx hb dX5_mul_992 (lv_at hl 2 rfl) ?_
  refine lv_ldc2 (v := (16777216)) hx hb hown (hts _ zw_628) dX5_mul_994 ?_
  refine lv_ladd hx hb dX5_mul_997 ?_
  refine lv_topl (fun x255 _ => ?_)
  refine lv_bipush (v := nI 25) hx hb dX5_mul_998 (by decide +kernel) ?_
  refine lv_lshr hx hb dX5_mul_1000 rfl ?_
  refine lv_topl (fun x256 _ => ?_)
  refine lv_lstore (lv' := [(91, .long x256), (85, .long x252), (77, .long x247), (83, .long x242), (75, .long x237), (79, .long x234), (81, .long x232), (71, .long x229), (73, .long x227), (89, .long x224), (87, .long x205), (69, .long x34), (67, .long x33), (65, .long x32), (63, .long x31), (61, .long x30), (59, .long x29), (57, .long x28), (55, .long x27), (53, .long x26), (51, .long x25), (49, .long x24), (47, .long x23), (45, .long x22), (43, .long x21), (41, .long x20), (39, .long x19), (37, .long x18), (35, .long x17), (33, .long x16), (31, .long x15), (29, .long x14), (27, .long x13), (25, .long x12), (23, .long x11), (21, .long x10), (19, .long x9), (17, .long x8), (15, .long x7), (13, .long x6), (11, .long x5), (9, .long x4), (7, .long x3), (5, .long x2), (3, .long x1), (0, .ref out), (1, .ref a), (2, .ref b)]) hx hb dX5_mul_1001 hl (by decide) rfl (fun ls hl => ?_)
  refine lv_lload hx hb dX5_mul_1003 (lv_at hl 5 rfl) ?_
  refine lv_lload hx hb dX5_mul_1005 (lv_at hl 0 rfl) ?_
  refine lv_ladd hx hb dX5_mul_1007 ?_
  refine lv_topl (fun x257 _ => ?_)
  refine lv_lstore (lv' := [(79, .long x257), (91, .long x256), (85, .long x252), (77, .long x247), (83, .long x242), (75, .long x237), (81, .long x232), (71, .long x229), (73, .long x227), (89, .long x224), (87, .long x205), (69, .long x34), (67, .long x33), (65, .long x32), (63, .long x31), (61, .long x30), (59, .long x29), (57, .long x28), (55, .long x27), (53, .long x26), (51, .long x25), (49, .long x24), (47, .long x23), (45, .long x22), (43, .long x21), (41, .long x20), (39, .long x19), (37, .long x18), (35, .long x17), (33, .long x16), (31, .long x15), (29, .long x14), (27, .long x13), (25, .long x12), (23, .long x11), (21, .long x10), (19, .long x9), (17, .long x8), (15, .long x7), (13, .long x6), (11, .long x5), (9, .long x4), (7, .long x3), (5, .long x2), (3, .long x1), (0, .ref out), (1, .ref a), (2, .ref b)]) hx hb dX5_mul_1008 hl (by decide) rfl (fun ls hl => ?_)
  refine lv_aload_n hx hb dX5_mul_1010 rfl (lv_at hl 45 rfl) ?_
  refine lv_iconst (v := nI 3) hx hb dX5_mul_1011 (by decide +kernel) ?_
  refine lv_lload hx hb dX5_mul_1012 (lv_at hl 3 rfl) ?_
  refine lv_lload hx hb dX5_mul_1014 (lv_at hl 1 rfl) ?_
  refine lv_bipush (v := nI 25) hx hb dX5_mul_1016 (by decide +kernel) ?_
  show W p l e ROOM_X5_mul s m [.ref out, .ref a, .ref b].toArray below meth c H locs 0 0 (MQ below (va_Qv (zSame Y L T) (zB D vwCl (zT K) A X) A) [.ref out, .ref a, .ref b].toArray s 0 0 A) (F0 m 1018 ls [.int (nI 25), .long x256, .long x247, .int (nI 3), .ref out])
  refine lv_lshl hx hb dX5_mul_1018 rfl ?_
  refine lv_topl (fun x258 _ => ?_)
  refine lv_lsub hx hb dX5_mul_1019 ?_
  refine lv_topl (fun x259 _ => ?_)
  refine z_last hx hb hK hZ hS 1 h_out k_out rfl (vp_in_nI (by omega) (by omega)) dX5_mul_1020 (fun H locs hZ hS => ?_)
  refine lv_lload hx hb dX5_mul_1021 (lv_at hl 2 rfl) ?_
  refine lv_ldc2 (v := (16777216)) hx hb hown (hts _ zw_628) dX5_mul_1023 ?_
  refine lv_ladd hx hb dX5_mul_1026 ?_
  refine lv_topl (fun x260 _ => ?_)
  refine lv_bipush (v := nI 25) hx hb dX5_mul_1027 (by decide +kernel) ?_
  refine lv_lshr hx hb dX5_mul_1029 rfl ?_
  refine lv_topl (fun x261 _ => ?_)
  refine lv_lstore (lv' := [(91, .long x261), (79, .long x257), (85, .long x252), (77, .long x247), (83, .long x242), (75, .long x237), (81, .long x232), (71, .long x229), (73, .long x227), (89, .long x224), (87, .long x205), (69, .long x34), (67, .long x33), (65, .long x32), (63, .long x31), (61, .long x30), (59, .long x29), (57, .long x28), (55, .long x27), (53, .long x26), (51, .long x25), (49, .long x24), (47, .long x23), (45, .long x22), (43, .long x21), (41, .long x20), (39, .long x19), (37, .long x18), (35, .long x17), (33, .long x16), (31, .long x15), (29, .long x14), (27, .long x13), (25, .long x12), (23, .long x11), (21, .long x10), (19, .long x9), (17, .long x8), (15, .long x7), (13, .long x6), (11, .long x5), (9, .long x4), (7, .long x3), (5, .long x2), (3, .long x1), (0, .ref out), (1, .ref a), (2, .ref b)]) hx hb dX5_mul_1030 hl (by decide) rfl (fun ls hl => ?_)
  refine lv_lload hx hb dX5_mul_1032 (lv_at hl 10 rfl) ?_
  refine lv_lload hx hb dX5_mul_1034 (lv_at hl 0 rfl) ?_
  refine lv_ladd hx hb dX5_mul_1036 ?_
  refine lv_topl (fun x262 _ => ?_)
  refine lv_lstore (lv' := [(87, .long x262), (91, .long x261), (79, .long x257), (85, .long x252), (77, .long x247), (83, .long x242), (75, .long x237), (81, .long x232), (71, .long x229), (73, .long x227), (89, .long x224), (69, .long x34), (67, .long x33), (65, .long x32), (63, .long x31), (61, .long x30), (59, .long x29), (57, .long x28), (55, .long x27), (53, .long x26), (51, .long x25), (49, .long x24), (47, .long x23), (45, .long x22), (43, .long x21), (41, .long x20), (39, .long x19), (37, .long x18), (35, .long x17), (33, .long x16), (31, .long x15), (29, .long x14), (27, .long x13), (25, .long x12), (23, .long x11), (21, .long x10), (19, .long x9), (17, .long x8), (15, .long x7), (13, .long x6), (11, .long x5), (9, .long x4), (7, .long x3), (5, .long x2), (3, .long x1), (0, .ref out), (1, .ref a), (2, .ref b)]) hx hb dX5_mul_1037 hl (by decide) rfl (fun ls hl => ?_)
  refine lv_aload_n hx hb dX5_mul_1039 rfl (lv_at hl 45 rfl) ?_
  refine lv_bipush (v := nI 7) hx hb dX5_mul_1040 (by decide +kernel) ?_
  refine lv_lload hx hb dX5_mul_1042 (lv_at hl 3 rfl) ?_
  refine lv_lload hx hb dX5_mul_1044 (lv_at hl 1 rfl) ?_
  refine lv_bipush (v := nI 25) hx hb dX5_mul_1046 (by decide +kernel) ?_
  refine lv_lshl hx hb dX5_mul_1048 rfl ?_
  refine lv_topl (fun x263 _ => ?_)
  refine lv_lsub hx hb dX5_mul_1049 ?_
  refine lv_topl (fun x264 _ => ?_)
  refine z_last hx hb hK hZ hS 1 h_out k_out rfl (vp_in_nI (by omega) (by omega)) dX5_mul_1050 (fun H locs hZ hS => ?_)
  refine lv_lload hx hb dX5_mul_1051 (lv_at hl 2 rfl) ?_
  refine lv_ldc2 (v := (33554432)) hx hb hown (hts _ zw_627) dX5_mul_1053 ?_
  refine lv_ladd hx hb dX5_mul_1056 ?_
  refine lv_topl (fun x265 _ => ?_)
  refine lv_bipush (v := nI 26) hx hb dX5_mul_1057 (by decide +kernel) ?_
  refine lv_lshr hx hb dX5_mul_1059 rfl ?_
  refine lv_topl (fun x266 _ => ?_)
  refine lv_lstore (lv' := [(91, .long x266), (87, .long x262), (79, .long x257), (85, .long x252), (77, .long x247), (83, .long x242), (75, .long x237), (81, .long x232), (71, .long x229), (73, .long x227), (89, .long x224), (69, .long x34), (67, .long x33), (65, .long x32), (63, .long x31), (61, .long x30), (59, .long x29), (57, .long x28), (55, .long x27), (53, .long x26), (51, .long x25), (49, .long x24), (47, .long x23), (45, .long x22), (43, .long x21), (41, .long x20), (39, .long x19), (37, .long x18), (35, .long x17), (33, .long x16), (31, .long x15), (29, .long x14), (27, .long x13), (25, .long x12), (23, .long x11), (21, .long x10), (19, .long x9), (17, .long x8), (15, .long x7), (13, .long x6), (11, .long x5), (9, .long x4), (7, .long x3), (5, .long x2), (3, .long x1), (0, .ref out), (1, .ref a), (2, .ref b)]) hx hb dX5_mul_1060 hl (by decide) rfl (fun ls hl => ?_)
  refine lv_aload_n hx hb dX5_mul_1062 rfl (lv_at hl 45 rfl) ?_
  refine lv_iconst (v := nI 5) hx hb dX5_mul_1063 (by decide +kernel) ?_
  refine lv_dup2_11 hx hb dX5_mul_1064 rfl rfl ?_
  refine z_lald hx hb hK hZ 1 h_out k_out rfl (vp_in_nI (by omega) (by omega)) dX5_mul_1065 (fun x267 => ?_)
  refine lv_lload hx hb dX5_mul_1066 (lv_at hl 0 rfl) ?_
  refine lv_ladd hx hb dX5_mul_1068 ?_
  refine lv_topl (fun x268 _ => ?_)
  refine z_last hx hb hK hZ hS 1 h_out k_out rfl (vp_in_nI (by omega) (by omega)) dX5_mul_1069 (fun H locs hZ hS => ?_)
  refine lv_aload_n hx hb dX5_mul_1070 rfl (lv_at hl 45 rfl) ?_
  refine lv_iconst (v := nI 4) hx hb dX5_mul_1071 (by decide +kernel) ?_
  refine lv_lload hx hb dX5_mul_1072 (lv_at hl 2 rfl) ?_
  refine lv_lload hx hb dX5_mul_1074 (lv_at hl 0 rfl) ?_
  refine lv_bipush (v := nI 26) hx hb dX5_mul_1076 (by decide +kernel) ?_
  refine lv_lshl hx hb dX5_mul_1078 rfl ?_
  refine lv_topl (fun x269 _ => ?_)
  refine lv_lsub hx hb dX5_mul_1079 ?_
  refine lv_topl (fun x270 _ => ?_)
  show W p l e ROOM_X5_mul s m [.ref out, .ref a, .ref b].toArray below meth c H locs 0 0 (MQ below (va_Qv (zSame Y L T) (zB D vwCl (zT K) A X) A) [.ref out, .ref a, .ref b].toArray s 0 0 A) (F0 m 1080 ls [.long x270, .int (nI 4), .ref out])
  refine z_last hx hb hK hZ hS 1 h_out k_out rfl (vp_in_nI (by omega) (by omega)) dX5_mul_1080 (fun H locs hZ hS => ?_)
  refine lv_lload hx hb dX5_mul_1081 (lv_at hl 1 rfl) ?_
  refine lv_ldc2 (v := (33554432)) hx hb hown (hts _ zw_627) dX5_mul_1083 ?_
  refine lv_ladd hx hb dX5_mul_1086 ?_
  refine lv_topl (fun x271 _ => ?_)
  refine lv_bipush (v := nI 26) hx hb dX5_mul_1087 (by decide +kernel) ?_
  refine lv_lshr hx hb dX5_mul_1089 rfl ?_
  refine lv_topl (fun x272 _ => ?_)
  refine lv_lstore (lv' := [(91, .long x272), (87, .long x262), (79, .long x257), (85, .long x252), (77, .long x247), (83, .long x242), (75, .long x237), (81, .long x232), (71, .long x229), (73, .long x227), (89, .long x224), (69, .long x34), (67, .long x33), (65, .long x32), (63, .long x31), (61, .long x30), (59, .long x29), (57, .long x28), (55, .long x27), (53, .long x26), (51, .long x25), (49, .long x24), (47, .long x23), (45, .long x22), (43, .long x21), (41, .long x20), (39, .long x19), (37, .long x18), (35, .long x17), (33, .long x16), (31, .long x15), (29, .long x14), (27, .long x13), (25, .long x12), (23, .long x11), (21, .long x10), (19, .long x9), (17, .long x8), (15, .long x7), (13, .long x6), (11, .long x5), (9, .long x4), (7, .long x3), (5, .long x2), (3, .long x1), (0, .ref out), (1, .ref a), (2, .ref b)]) hx hb dX5_mul_1090 hl (by decide) rfl (fun ls hl => ?_)
  refine lv_lload hx hb dX5_mul_1092 (lv_at hl 10 rfl) ?_
  refine lv_lload hx hb dX5_mul_1094 (lv_at hl 0 rfl) ?_
  refine lv_ladd hx hb dX5_mul_1096 ?_
  refine lv_topl (fun x273 _ => ?_)
  refine lv_lstore (lv' := [(89, .long x273), (91, .long x272), (87, .long x262), (79, .long x257), (85, .long x252), (77, .long x247), (83, .long x242), (75, .long x237), (81, .long x232), (71, .long x229), (73, .long x227), (69, .long x34), (67, .long x33), (65, .long x32), (63, .long x31), (61, .long x30), (59, .long x29), (57, .long x28), (55, .long x27), (53, .long x26), (51, .long x25), (49, .long x24), (47, .long x23), (45, .long x22), (43, .long x21), (41, .long x20), (39, .long x19), (37, .long x18), (35, .long x17), (33, .long x16), (31, .long x15), (29, .long x14), (27, .long x13), (25, .long x12), (23, .long x11), (21, .long x10), (19, .long x9), (17, .long x8), (15, .long x7), (13, .long x6), (11, .long x5), (9, .long x4), (7, .long x3), (5, .long x2), (3, .long x1), (0, .ref out), (1, .ref a), (2, .ref b)]) hx hb dX5_mul_1097 hl (by decide) rfl (fun ls hl => ?_)
  refine lv_aload_n hx hb dX5_mul_1099 rfl (lv_at hl 45 rfl) ?_
  refine lv_bipush (v := nI 8) hx hb dX5_mul_1100 (by decide +kernel) ?_
  refine lv_lload hx hb dX5_mul_1102 (lv_at hl 2 rfl) ?_
  refine lv_lload hx hb dX5_mul_1104 (lv_at hl 1 rfl) ?_
  refine lv_bipush (v := nI 26) hx hb dX5_mul_1106 (by decide +kernel) ?_
  refine lv_lshl hx hb dX5_mul_1108 rfl ?_
  refine lv_topl (fun x274 _ => ?_)
  refine lv_lsub hx hb dX5_mul_1109 ?_
  refine lv_topl (fun x275 _ => ?_)
  refine z_last hx hb hK hZ hS 1 h_out k_out rfl (vp_in_nI (by omega) (by omega)) dX5_mul_1110 (fun H locs hZ hS => ?_)
  refine lv_lload hx hb dX5_mul_1111 (lv_at hl 0 rfl) ?_
  refine lv_ldc2 (v := (16777216)) hx hb hown (hts _ zw_628) dX5_mul_1113 ?_
  refine lv_ladd hx hb dX5_mul_1116 ?_
  refine lv_topl (fun x276 _ => ?_)
  refine lv_bipush (v := nI 25) hx hb dX5_mul_1117 (by decide +kernel) ?_
  refine lv_lshr hx hb dX5_mul_1119 rfl ?_
  refine lv_topl (fun x277 _ => ?_)
  refine lv_lstore (lv' := [(91, .long x277), (89, .long x273), (87, .long x262), (79, .long x257), (85, .long x252), (77, .long x247), (83, .long x242), (75, .long x237), (81, .long x232), (71, .long x229), (73, .long x227), (69, .long x34), (67, .long x33), (65, .long x32), (63, .long x31), (61, .long x30), (59, .long x29), (57, .long x28), (55, .long x27), (53, .long x26), (51, .long x25), (49, .long x24), (47, .long x23), (45, .long x22), (43, .long x21), (41, .long x20), (39, .long x19), (37, .long x18), (35, .long x17), (33, .long x16), (31, .long x15), (29, .long x14), (27, .long x13), (25, .long x12), (23, .long x11), (21, .long x10), (19, .long x9), (17, .long x8), (15, .long x7), (13, .long x6), (11, .long x5), (9, .long x4), (7, .long x3), (5, .long x2), (3, .long x1), (0, .ref out), (1, .ref a), (2, .ref b)]) hx hb dX5_mul_1120 hl (by decide) rfl (fun ls hl => ?_)
  refine lv_lload hx hb dX5_mul_1122 (lv_at hl 9 rfl) ?_
  refine lv_ldc2 (v := (19)) hx hb hown (hts _ zw_626) dX5_mul_1124 ?_
  refine lv_lload hx hb dX5_mul_1127 (lv_at hl 0 rfl) ?_
  refine lv_lmul hx hb dX5_mul_1129 ?_
  refine lv_topl (fun x278 _ => ?_)
  refine lv_ladd hx hb dX5_mul_1130 ?_
  refine lv_topl (fun x279 _ => ?_)
  refine lv_lstore (lv' := [(71, .long x279), (91, .long x277), (89, .long x273), (87, .long x262), (79, .long x257), (85, .long x252), (77, .long x247), (83, .long x242), (75, .long x237), (81, .long x232), (73, .long x227), (69, .long x34), (67, .long x33), (65, .long x32), (63, .long x31), (61, .long x30), (59, .long x29), (57, .long x28), (55, .long x27), (53, .long x26), (51, .long x25), (49, .long x24), (47, .long x23), (45, .long x22), (43, .long x21), (41, .long x20), (39, .long x19), (37, .long x18), (35, .long x17), (33, .long x16), (31, .long x15), (29, .long x14), (27, .long x13), (25, .long x12), (23, .long x11), (21, .long x10), (19, .long x9), (17, .long x8), (15, .long x7), (13, .long x6), (11, .long x5), (9, .long x4), (7, .long x3), (5, .long x2), (3, .long x1), (0, .ref out), (1, .ref a), (2, .ref b)]) hx hb dX5_mul_1131 hl (by decide) rfl (fun ls hl => ?_)
  refine lv_aload_n hx hb dX5_mul_1133 rfl (lv_at hl 45 rfl) ?_
  refine lv_bipush (v := nI 9) hx hb dX5_mul_1134 (by decide +kernel) ?_
  refine lv_lload hx hb dX5_mul_1136 (lv_at hl 2 rfl) ?_
  refine lv_lload hx hb dX5_mul_1138 (lv_at hl 1 rfl) ?_
  refine lv_bipush (v := nI 25) hx hb dX5_mul_1140 (by decide +kernel) ?_
  refine lv_lshl hx hb dX5_mul_1142 rfl ?_
  refine lv_topl (fun x280 _ => ?_)
  refine lv_lsub hx hb dX5_mul_1143 ?_
  refine lv_topl (fun x281 _ => ?_)
  refine z_last hx hb hK hZ hS 1 h_out k_out rfl (vp_in_nI (by omega) (by omega)) dX5_mul_1144 (fun H locs hZ hS => ?_)
  refine lv_lload hx hb dX5_mul_1145 (lv_at hl 0 rfl) ?_
  refine lv_ldc2 (v := (33554432)) hx hb hown (hts _ zw_627) dX5_mul_1147 ?_
  show W p l e ROOM_X5_mul s m [.ref out, .ref a, .ref b].toArray below meth c H locs 0 0 (MQ below (va_Qv (zSame Y L T) (zB D vwCl (zT K) A X) A) [.ref out, .ref a, .ref b].toArray s 0 0 A) (F0 m 1150 ls [.long (33554432), .long x279])
  refine lv_ladd hx hb dX5_mul_1150 ?_
  refine lv_topl (fun x282 _ => ?_)
  refine lv_bipush (v := nI 26) hx hb dX5_mul_1151 (by decide +kernel) ?_
  refine lv_lshr hx hb dX5_mul_1153 rfl ?_
  refine lv_topl (fun x283 _ => ?_)
  refine lv_lstore (lv' := [(91, .long x283), (71, .long x279), (89, .long x273), (87, .long x262), (79, .long x257), (85, .long x252), (77, .long x247), (83, .long x242), (75, .long x237), (81, .long x232), (73, .long x227), (69, .long x34), (67, .long x33), (65, .long x32), (63, .long x31), (61, .long x30), (59, .long x29), (57, .long x28), (55, .long x27), (53, .long x26), (51, .long x25), (49, .long x24), (47, .long x23), (45, .long x22), (43, .long x21), (41, .long x20), (39, .long x19), (37, .long x18), (35, .long x17), (33, .long x16), (31, .long x15), (29, .long x14), (27, .long x13), (25, .long x12), (23, .long x11), (21, .long x10), (19, .long x9), (17, .long x8), (15, .long x7), (13, .long x6), (11, .long x5), (9, .long x4), (7, .long x3), (5, .long x2), (3, .long x1), (0, .ref out), (1, .ref a), (2, .ref b)]) hx hb dX5_mul_1154 hl (by decide) rfl (fun ls hl => ?_)
  refine lv_aload_n hx hb dX5_mul_1156 rfl (lv_at hl 45 rfl) ?_
  refine lv_iconst (v := nI 1) hx hb dX5_mul_1157 (by decide +kernel) ?_
  refine lv_dup2_11 hx hb dX5_mul_1158 rfl rfl ?_
  refine z_lald hx hb hK hZ 1 h_out k_out rfl (vp_in_nI (by omega) (by omega)) dX5_mul_1159 (fun x284 => ?_)
  refine lv_lload hx hb dX5_mul_1160 (lv_at hl 0 rfl) ?_
  refine lv_ladd hx hb dX5_mul_1162 ?_
  refine lv_topl (fun x285 _ => ?_)
  refine z_last hx hb hK hZ hS 1 h_out k_out rfl (vp_in_nI (by omega) (by omega)) dX5_mul_1163 (fun H locs hZ hS => ?_)
  refine lv_aload_n hx hb dX5_mul_1164 rfl (lv_at hl 45 rfl) ?_
  refine lv_iconst (v := nI 0) hx hb dX5_mul_1165 (by decide +kernel) ?_
  refine lv_lload hx hb dX5_mul_1166 (lv_at hl 1 rfl) ?_
  refine lv_lload hx hb dX5_mul_1168 (lv_at hl 0 rfl) ?_
  refine lv_bipush (v := nI 26) hx hb dX5_mul_1170 (by decide +kernel) ?_
  refine lv_lshl hx hb dX5_mul_1172 rfl ?_
  refine lv_topl (fun x286 _ => ?_)
  refine lv_lsub hx hb dX5_mul_1173 ?_
  refine lv_topl (fun x287 _ => ?_)
  refine z_last hx hb hK hZ hS 1 h_out k_out rfl (vp_in_nI (by omega) (by omega)) dX5_mul_1174 (fun H locs hZ hS => ?_)
  exact z_vret hx hb hr hlocks hK hZ hS rfl (Nat.le_of_ble_eq_true rfl) (Nat.le_of_ble_eq_true rfl) dX5_mul_1175
abbrev ROOM_X5_init : Room := { frames := 2, cells := 37, slots := 626, locals := 112 }
set_option maxHeartbeats 4000000 in
set_option maxRecDepth 100000 in
/-- Curve() -/
theorem c_X5_init (E : zEn) (l : Launch) (D : va_G) (K : Nat → ClassId) (X : va_W) (L : List Nat) (T : Nat → va_E → Prop) {th : Nat} {sh : Nat}   (hSA : zSA E) : zV E l D vwCl (zT K) yX5_init (zws yX5_init cX5_init 2 none) ROOM_X5_init 37 626 [.ref th, .ref sh] X [(th, .inr (7, [.null, .null, .null, .null, .null, .null, .null, .null, .null, .null, .null, .null, .null, .null]))] L T (fun (u : zU) => u = ([], L, T)) := by
  refine z_ofW (E := E) (Qc := fun A => va_Qv (fun (u : zU) => u = ([], L, T)) (zB D vwCl (zT K) A X) A) (cc := cX5_init) (maxL := 2) (ret := none) (by decide +kernel) rfl (Nat.le_of_ble_eq_true rfl) ?_
  intro p e s m below meth c A ls hx hb hml hr hts hown hlocks hin hA hK hZ hS hE hl
  have hown : s.vm.findClass RX5 = some m.cls := hown
  have hts : ∀ w ∈ WR, w.before [.ref th, .ref sh].toArray s = true := fun w h => hts w (List.mem_cons_of_mem _ h)
  have hl : lv_has ls 2 [(0, .ref th), (1, .ref sh)] := hl
  obtain ⟨H, hH⟩ : ∃ H, H = s.heap := ⟨_, rfl⟩
  have hZ : zP D vwCl A X [(th, .inr (7, [.null, .null, .null, .null, .null, .null, .null, .null, .null, .null, .null, .null, .null, .null]))] L T H := by rw [hH]; exact hZ
  obtain ⟨locs, hlc⟩ : ∃ q : List Loc, q = [] := ⟨_, rfl⟩
  have hS : va_S A s.heap H locs := by rw [hH, hlc]; exact hS
  suffices hW : W p l e ROOM_X5_init s m [.ref th, .ref sh].toArray below meth c H locs 0 0 (MQ below (va_Qv (fun (u : zU) => u = ([], L, T)) (zB D vwCl (zT K) A X) A) [.ref th, .ref sh].toArray s 37 626 A) (F0 m 0 ls []) by rw [hH, hlc] at hW; exact hW
  clear hH hlc
  have hGG : zG L T L T := zG.rf
  have hND := hZ.nodup
  refine lv_aload_n hx hb dX5_init_0 rfl (lv_at hl 0 rfl) ?_
  refine W.objInit hx hb hown (hts _ zw_602) (hts _ zw_4) (hts _ zw_5) rfl (by rw [hml]; exact hl.1) rfl dX5_init_1 (Nat.le_of_ble_eq_true rfl) (Nat.le_of_ble_eq_true rfl) ?_
  refine lv_aload_n hx hb dX5_init_4 rfl (lv_at hl 0 rfl) ?_
  refine lv_bipush (v := nI 12) hx hb dX5_init_5 (by decide +kernel) ?_
  refine lv_bipush (v := nI 10) hx hb dX5_init_7 (by decide +kernel) ?_
  refine z_multi (N := 12) (M := 10) hx hb hown (hts _ zw_603) (zaoJ hE) (hts _ zw_6) hK hZ hS hA 10 1 rfl rfl (nI_pos (Nat.le_of_ble_eq_true rfl)) (nI_pos (Nat.le_of_ble_eq_true rfl)) (nI_clamp (Nat.le_of_ble_eq_true rfl)) (nI_clamp (Nat.le_of_ble_eq_true rfl)) (Nat.le_of_ble_eq_true rfl) (Nat.le_of_ble_eq_true rfl) (Nat.le_of_ble_eq_true rfl) (Nat.le_of_ble_eq_true rfl) dX5_init_9 (fun q1 H locs hZ hS => ?_)
  have hZ : zP D vwCl A X [(th, .inr (7, [.null, .null, .null, .null, .null, .null, .null, .null, .null, .null, .null, .null, .null, .null]))] L T H := zP.pick [0] [(th, .inr (7, [.null, .null, .null, .null, .null, .null, .null, .null, .null, .null, .null, .null, .null, .null]))] hZ (by decide) rfl
  refine z_putF (own := RX5) (C := RX5) (TT := TX5) (N := 14) (ci := 7) (Ts := WR) (v := .ref q1) (ty := (.array (.array .long))) hx hb hts zin_wsX50 tyX5 tyX5_ok nmX5 hown hK hZ hS 0 rfl rfl 1 (by decide) (hts _ zw_604) (fun _ h9 => h9) rfl hin rfl (by decide +kernel) rfl rfl (Nat.le_of_ble_eq_true rfl) dX5_init_13 (fun H locs hZ hS => ?_)
  have hZ : zP D vwCl A X [(th, .inr (7, [.null, .ref q1, .null, .null, .null, .null, .null, .null, .null, .null, .null, .null, .null, .null]))] L T H := hZ
  refine lv_aload_n hx hb dX5_init_16 rfl (lv_at hl 0 rfl) ?_
  refine lv_iconst (v := nI 4) hx hb dX5_init_17 (by decide +kernel) ?_
  refine lv_bipush (v := nI 10) hx hb dX5_init_18 (by decide +kernel) ?_
  refine z_multi (N := 4) (M := 10) hx hb hown (hts _ zw_603) (zaoJ hE) (hts _ zw_6) hK hZ hS hA 10 1 rfl rfl (nI_pos (Nat.le_of_ble_eq_true rfl)) (nI_pos (Nat.le_of_ble_eq_true rfl)) (nI_clamp (Nat.le_of_ble_eq_true rfl)) (nI_clamp (Nat.le_of_ble_eq_true rfl)) (Nat.le_of_ble_eq_true rfl) (Nat.le_of_ble_eq_true rfl) (Nat.le_of_ble_eq_true rfl) (Nat.le_of_ble_eq_true rfl) dX5_init_20 (fun q14 H locs hZ hS => ?_)
  obtain ⟨r15, e_r15⟩ : ∃ r, r = q14 + 1 + 0 := ⟨_, rfl⟩
  obtain ⟨r16, e_r16⟩ : ∃ r, r = q14 + 1 + 1 := ⟨_, rfl⟩
  obtain ⟨r17, e_r17⟩ : ∃ r, r = q14 + 1 + 2 := ⟨_, rfl⟩
  obtain ⟨r18, e_r18⟩ : ∃ r, r = q14 + 1 + 3 := ⟨_, rfl⟩
  have hZ : zP D vwCl A X [(th, .inr (7, [.null, .ref q1, .null, .null, .null, .null, .null, .null, .null, .null, .null, .null, .null, .null])), (q14, .inl (K 10, 4, .inr (.inr (.inr (.inr (zmg q14 4)))))), (r15, .inl (K 1, 10, .inr (.inl (fun _ => 0)))), (r16, .inl (K 1, 10, .inr (.inl (fun _ => 0)))), (r17, .inl (K 1, 10, .inr (.inl (fun _ => 0)))), (r18, .inl (K 1, 10, .inr (.inl (fun _ => 0))))] L T H := by rw [e_r15, e_r16, e_r17, e_r18]; exact hZ
  obtain ⟨L19, T20, hZ, hG, hN⟩ := zP.pooled [(r15, .inl (K 1, 10, .inr (.inl (fun _ => 0))), zJ (K 1) 10), (r16, .inl (K 1, 10, .inr (.inl (fun _ => 0))), zJ (K 1) 10), (r17, .inl (K 1, 10, .inr (.inl (fun _ => 0))), zJ (K 1) 10), (r18, .inl (K 1, 10, .inr (.inl (fun _ => 0))), zJ (K 1) 10)] [(th, .inr (7, [.null, .ref q1, .null, .null, .null, .null, .null, .null, .null, .null, .null, .null, .null, .null])), (q14, .inl (K 10, 4, .inr (.inr (.inr (.inr (zmg q14 4))))))] hZ (List.forall_mem_cons.mpr ⟨⟨_, rfl⟩, (List.forall_mem_cons.mpr ⟨⟨_, rfl⟩, (List.forall_mem_cons.mpr ⟨⟨_, rfl⟩, (List.forall_mem_cons.mpr ⟨⟨_, rfl⟩, (fun _ h => absurd h List.not_mem_nil)⟩)⟩)⟩)⟩)
  obtain ⟨h_r15, k_r15⟩ := hN _ (List.mem_of_getElem? (i := 0) rfl)
  have k_r15 : T20 r15 = zJ (K 1) 10 := k_r15
  obtain ⟨h_r16, k_r16⟩ := hN _ (List.mem_of_getElem? (i := 1) rfl)
  have k_r16 : T20 r16 = zJ (K 1) 10 := k_r16
  obtain ⟨h_r17, k_r17⟩ := hN _ (List.mem_of_getElem? (i := 2) rfl)
  have k_r17 : T20 r17 = zJ (K 1) 10 := k_r17
  obtain ⟨h_r18, k_r18⟩ := hN _ (List.mem_of_getElem? (i := 3) rfl)
  have k_r18 : T20 r18 = zJ (K 1) 10 := k_r18
  have hGG := hGG.tr hG
  refine z_putF (own := RX5) (C := RX5) (TT := TX5) (N := 14) (ci := 7) (Ts := WR) (v := .ref q14) (ty := (.array (.array .long))) hx hb hts zin_wsX50 tyX5 tyX5_ok nmX5 hown hK hZ hS 0 rfl rfl 2 (by decide) (hts _ zw_605) (fun _ h9 => h9) rfl hin rfl (by decide +kernel) rfl rfl (Nat.le_of_ble_eq_true rfl) dX5_init_24 (fun H locs hZ hS => ?_)
  have hZ : zP D vwCl A X [(th, .inr (7, [.null, .ref q1, .ref q14, .null, .null, .null, .null, .null, .null, .null, .null, .null, .null, .null])), (q14, .inl (K 10, 4, .inr (.inr (.inr (.inr (zmg q14 4))))))] L19 T20 H := hZ
  refine lv_aload_n hx hb dX5_init_27 rfl (lv_at hl 0 rfl) ?_
  refine lv_iconst (v := nI 4) hx hb dX5_init_28 (by decide +kernel) ?_
  refine lv_bipush (v := nI 10) hx hb dX5_init_29 (by decide +kernel) ?_
  refine z_multi (N := 4) (M := 10) hx hb hown (hts _ zw_603) (zaoJ hE) (hts _ zw_6) hK hZ hS hA 10 1 rfl rfl (nI_pos (Nat.le_of_ble_eq_true rfl)) (nI_pos (Nat.le_of_ble_eq_true rfl)) (nI_clamp (Nat.le_of_ble_eq_true rfl)) (nI_clamp (Nat.le_of_ble_eq_true rfl)) (Nat.le_of_ble_eq_true rfl) (Nat.le_of_ble_eq_true rfl) (Nat.le_of_ble_eq_true rfl) (Nat.le_of_ble_eq_true rfl) dX5_init_31 (fun q21 H locs hZ hS => ?_)
  have hZ : zP D vwCl A X [(th, .inr (7, [.null, .ref q1, .ref q14, .null, .null, .null, .null, .null, .null, .null, .null, .null, .null, .null])), (q14, .inl (K 10, 4, .inr (.inr (.inr (.inr (zmg q14 4))))))] L19 T20 H := zP.pick [0, 1] [(th, .inr (7, [.null, .ref q1, .ref q14, .null, .null, .null, .null, .null, .null, .null, .null, .null, .null, .null])), (q14, .inl (K 10, 4, .inr (.inr (.inr (.inr (zmg q14 4))))))] hZ (by decide) rfl
  refine z_putF (own := RX5) (C := RX5) (TT := TX5) (N := 14) (ci := 7) (Ts := WR) (v := .ref q21) (ty := (.array (.array .long))) hx hb hts zin_wsX50 tyX5 tyX5_ok nmX5 hown hK hZ hS 0 rfl rfl 3 (by decide) (hts _ zw_606) (fun _ h9 => h9) rfl hin rfl (by decide +kernel) rfl rfl (Nat.le_of_ble_eq_true rfl) dX5_init_35 (fun H locs hZ hS => ?_)
  have hZ : zP D vwCl A X [(th, .inr (7, [.null, .ref q1, .ref q14, .ref q21, .null, .null, .null, .null, .null, .null, .null, .null, .null, .null])), (q14, .inl (K 10, 4, .inr (.inr (.inr (.inr (zmg q14 4))))))] L19 T20 H := hZ
  refine lv_aload_n hx hb dX5_init_38 rfl (lv_at hl 0 rfl) ?_
  refine lv_iconst (v := nI 4) hx hb dX5_init_39 (by decide +kernel) ?_
  refine lv_bipush (v := nI 10) hx hb dX5_init_40 (by decide +kernel) ?_
  refine z_multi (N := 4) (M := 10) hx hb hown (hts _ zw_603) (zaoJ hE) (hts _ zw_6) hK hZ hS hA 10 1 rfl rfl (nI_pos (Nat.le_of_ble_eq_true rfl)) (nI_pos (Nat.le_of_ble_eq_true rfl)) (nI_clamp (Nat.le_of_ble_eq_true rfl)) (nI_clamp (Nat.le_of_ble_eq_true rfl)) (Nat.le_of_ble_eq_true rfl) (Nat.le_of_ble_eq_true rfl) (Nat.le_of_ble_eq_true rfl) (Nat.le_of_ble_eq_true rfl) dX5_init_42 (fun q26 H locs hZ hS => ?_)
  have hZ : zP D vwCl A X [(th, .inr (7, [.null, .ref q1, .ref q14, .ref q21, .null, .null, .null, .null, .null, .null, .null, .null, .null, .null])), (q14, .inl (K 10, 4, .inr (.inr (.inr (.inr (zmg q14 4))))))] L19 T20 H := zP.pick [0, 1] [(th, .inr (7, [.null, .ref q1, .ref q14, .ref q21, .null, .null, .null, .null, .null, .null, .null, .null, .null, .null])), (q14, .inl (K 10, 4, .inr (.inr (.inr (.inr (zmg q14 4))))))] hZ (by decide) rfl
  refine z_putF (own := RX5) (C := RX5) (TT := TX5) (N := 14) (ci := 7) (Ts := WR) (v := .ref q26) (ty := (.array (.array .long))) hx hb hts zin_wsX50 tyX5 tyX5_ok nmX5 hown hK hZ hS 0 rfl rfl 4 (by decide) (hts _ zw_607) (fun _ h9 => h9) rfl hin rfl (by decide +kernel) rfl rfl (Nat.le_of_ble_eq_true rfl) dX5_init_46 (fun H locs hZ hS => ?_)
  have hZ : zP D vwCl A X [(th, .inr (7, [.null, .ref q1, .ref q14, .ref q21, .ref q26, .null, .null, .null, .null, .null, .null, .null, .null, .null])), (q14, .inl (K 10, 4, .inr (.inr (.inr (.inr (zmg q14 4))))))] L19 T20 H := hZ
  refine lv_aload_n hx hb dX5_init_49 rfl (lv_at hl 0 rfl) ?_
  refine lv_bipush (v := nI 10) hx hb dX5_init_50 (by decide +kernel) ?_
  refine z_newJ hx hb (hts _ zw_6) hK hZ hS hA 1 rfl (n := nI 10) (N := 10) (nI_pos (Nat.le_of_ble_eq_true rfl)) (nI_clamp (Nat.le_of_ble_eq_true rfl)) (Nat.le_of_ble_eq_true rfl) (Nat.le_of_ble_eq_true rfl) (Nat.le_of_ble_eq_true rfl) dX5_init_52 (fun q31 H hZ hS => ?_)
  have hZ : zP D vwCl A X [(th, .inr (7, [.null, .ref q1, .ref q14, .ref q21, .ref q26, .null, .null, .null, .null, .null, .null, .null, .null, .null])), (q14, .inl (K 10, 4, .inr (.inr (.inr (.inr (zmg q14 4)))))), (q31, .inl (K 1, 10, .inr (.inl (fun _ => 0))))] L19 T20 H := hZ
  obtain ⟨L32, T33, hZ, hG, hN⟩ := zP.pooled [(q31, .inl (K 1, 10, .inr (.inl (fun _ => 0))), zJ (K 1) 10)] [(th, .inr (7, [.null, .ref q1, .ref q14, .ref q21, .ref q26, .null, .null, .null, .null, .null, .null, .null, .null, .null])), (q14, .inl (K 10, 4, .inr (.inr (.inr (.inr (zmg q14 4))))))] hZ (List.forall_mem_cons.mpr ⟨⟨_, rfl⟩, (fun _ h => absurd h List.not_mem_nil)⟩)
  replace k_r15 := (hG.2 _ h_r15).trans k_r15
  replace h_r15 := hG.1 _ h_r15
  replace k_r16 := (hG.2 _ h_r16).trans k_r16
  replace h_r16 := hG.1 _ h_r16
  replace k_r17 := (hG.2 _ h_r17).trans k_r17
  replace h_r17 := hG.1 _ h_r17
  replace k_r18 := (hG.2 _ h_r18).trans k_r18
  replace h_r18 := hG.1 _ h_r18
  obtain ⟨h_q31, k_q31⟩ := hN _ (List.mem_of_getElem? (i := 0) rfl)
  have k_q31 : T33 q31 = zJ (K 1) 10 := k_q31
  have hGG := hGG.tr hG
  refine z_putF (own := RX5) (C := RX5) (TT := TX5) (N := 14) (ci := 7) (Ts := WR) (v := .ref q31) (ty := (.array .long)) hx hb hts zin_wsX50 tyX5 tyX5_ok nmX5 hown hK hZ hS 0 rfl rfl 5 (by decide) (hts _ zw_608) (fun _ h9 => h9) rfl hin rfl (by decide +kernel) rfl rfl (Nat.le_of_ble_eq_true rfl) dX5_init_54 (fun H locs hZ hS => ?_)
  have hZ : zP D vwCl A X [(th, .inr (7, [.null, .ref q1, .ref q14, .ref q21, .ref q26, .ref q31, .null, .null, .null, .null, .null, .null, .null, .null])), (q14, .inl (K 10, 4, .inr (.inr (.inr (.inr (zmg q14 4))))))] L32 T33 H := hZ
  refine lv_aload_n hx hb dX5_init_57 rfl (lv_at hl 0 rfl) ?_
  refine lv_bipush (v := nI 64) hx hb dX5_init_58 (by decide +kernel) ?_
  refine z_newJ hx hb (hts _ zw_6) hK hZ hS hA 1 rfl (n := nI 64) (N := 64) (nI_pos (Nat.le_of_ble_eq_true rfl)) (nI_clamp (Nat.le_of_ble_eq_true rfl)) (Nat.le_of_ble_eq_true rfl) (Nat.le_of_ble_eq_true rfl) (Nat.le_of_ble_eq_true rfl) dX5_init_60 (fun q34 H hZ hS => ?_)
  have hZ : zP D vwCl A X [(th, .inr (7, [.null, .ref q1, .ref q14, .ref q21, .ref q26, .ref q31, .null, .null, .null, .null, .null, .null, .null, .null])), (q14, .inl (K 10, 4, .inr (.inr (.inr (.inr (zmg q14 4)))))), (q34, .inl (K 1, 64, .inr (.inl (fun _ => 0))))] L32 T33 H := hZ
  have hZ : zP D vwCl A X [(th, .inr (7, [.null, .ref q1, .ref q14, .ref q21, .ref q26, .ref q31, .null, .null, .null, .null, .null, .null, .null, .null])), (q14, .inl (K 10, 4, .inr (.inr (.inr (.inr (zmg q14 4))))))] L32 T33 H := zP.pick [0, 1] [(th, .inr (7, [.null, .ref q1, .ref q14, .ref q21, .ref q26, .ref q31, .null, .null, .null, .null, .null, .null, .null, .null])), (q14, .inl (K 10, 4, .inr (.inr (.inr (.inr (zmg q14 4))))))] hZ (by decide) rfl
  refine z_putF (own := RX5) (C := RX5) (TT := TX5) (N := 14) (ci := 7) (Ts := WR) (v := .ref q34) (ty := (.array .long)) hx hb hts zin_wsX50 tyX5 tyX5_ok nmX5 hown hK hZ hS 0 rfl rfl 6 (by decide) (hts _ zw_609) (fun _ h9 => h9) rfl hin rfl (by decide +kernel) rfl rfl (Nat.le_of_ble_eq_true rfl) dX5_init_62 (fun H locs hZ hS => ?_)
  have hZ : zP D vwCl A X [(th, .inr (7, [.null, .ref q1, .ref q14, .ref q21, .ref q26, .ref q31, .ref q34, .null, .null, .null, .null, .null, .null, .null])), (q14, .inl (K 10, 4, .inr (.inr (.inr (.inr (zmg q14 4))))))] L32 T33 H := hZ
  refine lv_aload_n hx hb dX5_init_65 rfl (lv_at hl 0 rfl) ?_
  refine lv_bipush (v := nI 32) hx hb dX5_init_66 (by decide +kernel) ?_
  refine z_newB hx hb (hts _ zw_63) hK hZ hS hA 2 rfl (n := nI 32) (N := 32) (nI_pos (Nat.le_of_ble_eq_true rfl)) (nI_clamp (Nat.le_of_ble_eq_true rfl)) (Nat.le_of_ble_eq_true rfl) (Nat.le_of_ble_eq_true rfl) (Nat.le_of_ble_eq_true rfl) dX5_init_68 (fun q35 H hZ hS => ?_)
  have hZ : zP D vwCl A X [(th, .inr (7, [.null, .ref q1, .ref q14, .ref q21, .ref q26, .ref q31, .ref q34, .null, .null, .null, .null, .null, .null, .null])), (q14, .inl (K 10, 4, .inr (.inr (.inr (.inr (zmg q14 4)))))), (q35, .inl (K 2, 32, .inl (fun _ => 0)))] L32 T33 H := hZ
  have hZ : zP D vwCl A X [(th, .inr (7, [.null, .ref q1, .ref q14, .ref q21, .ref q26, .ref q31, .ref q34, .null, .null, .null, .null, .null, .null, .null])), (q14, .inl (K 10, 4, .inr (.inr (.inr (.inr (zmg q14 4))))))] L32 T33 H := zP.pick [0, 1] [(th, .inr (7, [.null, .ref q1, .ref q14, .ref q21, .ref q26, .ref q31, .ref q34, .null, .null, .null, .null, .null, .null, .null])), (q14, .inl (K 10, 4, .inr (.inr (.inr (.inr (zmg q14 4))))))] hZ (by decide) rfl
  refine z_putF (own := RX5) (C := RX5) (TT := TX5) (N := 14) (ci := 7) (Ts := WR) (v := .ref q35) (ty := (.array .byte)) hx hb hts zin_wsX50 tyX5 tyX5_ok nmX5 hown hK hZ hS 0 rfl rfl 7 (by decide) (hts _ zw_610) (fun _ h9 => h9) rfl hin rfl (by decide +kernel) rfl rfl (Nat.le_of_ble_eq_true rfl) dX5_init_70 (fun H locs hZ hS => ?_)
  have hZ : zP D vwCl A X [(th, .inr (7, [.null, .ref q1, .ref q14, .ref q21, .ref q26, .ref q31, .ref q34, .ref q35, .null, .null, .null, .null, .null, .null])), (q14, .inl (K 10, 4, .inr (.inr (.inr (.inr (zmg q14 4))))))] L32 T33 H := hZ
  refine lv_aload_n hx hb dX5_init_73 rfl (lv_at hl 0 rfl) ?_
  refine lv_bipush (v := nI 32) hx hb dX5_init_74 (by decide +kernel) ?_
  refine z_newB hx hb (hts _ zw_63) hK hZ hS hA 2 rfl (n := nI 32) (N := 32) (nI_pos (Nat.le_of_ble_eq_true rfl)) (nI_clamp (Nat.le_of_ble_eq_true rfl)) (Nat.le_of_ble_eq_true rfl) (Nat.le_of_ble_eq_true rfl) (Nat.le_of_ble_eq_true rfl) dX5_init_76 (fun q36 H hZ hS => ?_)
  have hZ : zP D vwCl A X [(th, .inr (7, [.null, .ref q1, .ref q14, .ref q21, .ref q26, .ref q31, .ref q34, .ref q35, .null, .null, .null, .null, .null, .null])), (q14, .inl (K 10, 4, .inr (.inr (.inr (.inr (zmg q14 4)))))), (q36, .inl (K 2, 32, .inl (fun _ => 0)))] L32 T33 H := hZ
  have hZ : zP D vwCl A X [(th, .inr (7, [.null, .ref q1, .ref q14, .ref q21, .ref q26, .ref q31, .ref q34, .ref q35, .null, .null, .null, .null, .null, .null])), (q14, .inl (K 10, 4, .inr (.inr (.inr (.inr (zmg q14 4))))))] L32 T33 H := zP.pick [0, 1] [(th, .inr (7, [.null, .ref q1, .ref q14, .ref q21, .ref q26, .ref q31, .ref q34, .ref q35, .null, .null, .null, .null, .null, .null])), (q14, .inl (K 10, 4, .inr (.inr (.inr (.inr (zmg q14 4))))))] hZ (by decide) rfl
  refine z_putF (own := RX5) (C := RX5) (TT := TX5) (N := 14) (ci := 7) (Ts := WR) (v := .ref q36) (ty := (.array .byte)) hx hb hts zin_wsX50 tyX5 tyX5_ok nmX5 hown hK hZ hS 0 rfl rfl 8 (by decide) (hts _ zw_611) (fun _ h9 => h9) rfl hin rfl (by decide +kernel) rfl rfl (Nat.le_of_ble_eq_true rfl) dX5_init_78 (fun H locs hZ hS => ?_)
  have hZ : zP D vwCl A X [(th, .inr (7, [.null, .ref q1, .ref q14, .ref q21, .ref q26, .ref q31, .ref q34, .ref q35, .ref q36, .null, .null, .null, .null, .null])), (q14, .inl (K 10, 4, .inr (.inr (.inr (.inr (zmg q14 4))))))] L32 T33 H := hZ
  refine lv_aload_n hx hb dX5_init_81 rfl (lv_at hl 0 rfl) ?_
  refine lv_bipush (v := nI 32) hx hb dX5_init_82 (by decide +kernel) ?_
  show W p l e ROOM_X5_init s m [.ref th, .ref sh].toArray below meth c H locs 32 402 (MQ below (va_Qv (fun (u : zU) => u = ([], L, T)) (zB D vwCl (zT K) A X) A) [.ref th, .ref sh].toArray s 37 626 A) (F0 m 84 ls [.int (nI 32), .ref th])
  refine z_newB hx hb (hts _ zw_63) hK hZ hS hA 2 rfl (n := nI 32) (N := 32) (nI_pos (Nat.le_of_ble_eq_true rfl)) (nI_clamp (Nat.le_of_ble_eq_true rfl)) (Nat.le_of_ble_eq_true rfl) (Nat.le_of_ble_eq_true rfl) (Nat.le_of_ble_eq_true rfl) dX5_init_84 (fun q37 H hZ hS => ?_)
  have hZ : zP D vwCl A X [(th, .inr (7, [.null, .ref q1, .ref q14, .ref q21, .ref q26, .ref q31, .ref q34, .ref q35, .ref q36, .null, .null, .null, .null, .null])), (q14, .inl (K 10, 4, .inr (.inr (.inr (.inr (zmg q14 4)))))), (q37, .inl (K 2, 32, .inl (fun _ => 0)))] L32 T33 H := hZ
  have hZ : zP D vwCl A X [(th, .inr (7, [.null, .ref q1, .ref q14, .ref q21, .ref q26, .ref q31, .ref q34, .ref q35, .ref q36, .null, .null, .null, .null, .null])), (q14, .inl (K 10, 4, .inr (.inr (.inr (.inr (zmg q14 4))))))] L32 T33 H := zP.pick [0, 1] [(th, .inr (7, [.null, .ref q1, .ref q14, .ref q21, .ref q26, .ref q31, .ref q34, .ref q35, .ref q36, .null, .null, .null, .null, .null])), (q14, .inl (K 10, 4, .inr (.inr (.inr (.inr (zmg q14 4))))))] hZ (by decide) rfl
  refine z_putF (own := RX5) (C := RX5) (TT := TX5) (N := 14) (ci := 7) (Ts := WR) (v := .ref q37) (ty := (.array .byte)) hx hb hts zin_wsX50 tyX5 tyX5_ok nmX5 hown hK hZ hS 0 rfl rfl 9 (by decide) (hts _ zw_612) (fun _ h9 => h9) rfl hin rfl (by decide +kernel) rfl rfl (Nat.le_of_ble_eq_true rfl) dX5_init_86 (fun H locs hZ hS => ?_)
  have hZ : zP D vwCl A X [(th, .inr (7, [.null, .ref q1, .ref q14, .ref q21, .ref q26, .ref q31, .ref q34, .ref q35, .ref q36, .ref q37, .null, .null, .null, .null])), (q14, .inl (K 10, 4, .inr (.inr (.inr (.inr (zmg q14 4))))))] L32 T33 H := hZ
  refine lv_aload_n hx hb dX5_init_89 rfl (lv_at hl 0 rfl) ?_
  refine lv_bipush (v := nI 32) hx hb dX5_init_90 (by decide +kernel) ?_
  refine z_newB hx hb (hts _ zw_63) hK hZ hS hA 2 rfl (n := nI 32) (N := 32) (nI_pos (Nat.le_of_ble_eq_true rfl)) (nI_clamp (Nat.le_of_ble_eq_true rfl)) (Nat.le_of_ble_eq_true rfl) (Nat.le_of_ble_eq_true rfl) (Nat.le_of_ble_eq_true rfl) dX5_init_92 (fun q38 H hZ hS => ?_)
  have hZ : zP D vwCl A X [(th, .inr (7, [.null, .ref q1, .ref q14, .ref q21, .ref q26, .ref q31, .ref q34, .ref q35, .ref q36, .ref q37, .null, .null, .null, .null])), (q14, .inl (K 10, 4, .inr (.inr (.inr (.inr (zmg q14 4)))))), (q38, .inl (K 2, 32, .inl (fun _ => 0)))] L32 T33 H := hZ
  have hZ : zP D vwCl A X [(th, .inr (7, [.null, .ref q1, .ref q14, .ref q21, .ref q26, .ref q31, .ref q34, .ref q35, .ref q36, .ref q37, .null, .null, .null, .null])), (q14, .inl (K 10, 4, .inr (.inr (.inr (.inr (zmg q14 4))))))] L32 T33 H := zP.pick [0, 1] [(th, .inr (7, [.null, .ref q1, .ref q14, .ref q21, .ref q26, .ref q31, .ref q34, .ref q35, .ref q36, .ref q37, .null, .null, .null, .null])), (q14, .inl (K 10, 4, .inr (.inr (.inr (.inr (zmg q14 4))))))] hZ (by decide) rfl
  refine z_putF (own := RX5) (C := RX5) (TT := TX5) (N := 14) (ci := 7) (Ts := WR) (v := .ref q38) (ty := (.array .byte)) hx hb hts zin_wsX50 tyX5 tyX5_ok nmX5 hown hK hZ hS 0 rfl rfl 10 (by decide) (hts _ zw_613) (fun _ h9 => h9) rfl hin rfl (by decide +kernel) rfl rfl (Nat.le_of_ble_eq_true rfl) dX5_init_94 (fun H locs hZ hS => ?_)
  have hZ : zP D vwCl A X [(th, .inr (7, [.null, .ref q1, .ref q14, .ref q21, .ref q26, .ref q31, .ref q34, .ref q35, .ref q36, .ref q37, .ref q38, .null, .null, .null])), (q14, .inl (K 10, 4, .inr (.inr (.inr (.inr (zmg q14 4))))))] L32 T33 H := hZ
  refine lv_aload_n hx hb dX5_init_97 rfl (lv_at hl 0 rfl) ?_
  refine lv_bipush (v := nI 32) hx hb dX5_init_98 (by decide +kernel) ?_
  refine z_newB hx hb (hts _ zw_63) hK hZ hS hA 2 rfl (n := nI 32) (N := 32) (nI_pos (Nat.le_of_ble_eq_true rfl)) (nI_clamp (Nat.le_of_ble_eq_true rfl)) (Nat.le_of_ble_eq_true rfl) (Nat.le_of_ble_eq_true rfl) (Nat.le_of_ble_eq_true rfl) dX5_init_100 (fun q39 H hZ hS => ?_)
  have hZ : zP D vwCl A X [(th, .inr (7, [.null, .ref q1, .ref q14, .ref q21, .ref q26, .ref q31, .ref q34, .ref q35, .ref q36, .ref q37, .ref q38, .null, .null, .null])), (q14, .inl (K 10, 4, .inr (.inr (.inr (.inr (zmg q14 4)))))), (q39, .inl (K 2, 32, .inl (fun _ => 0)))] L32 T33 H := hZ
  have hZ : zP D vwCl A X [(th, .inr (7, [.null, .ref q1, .ref q14, .ref q21, .ref q26, .ref q31, .ref q34, .ref q35, .ref q36, .ref q37, .ref q38, .null, .null, .null])), (q14, .inl (K 10, 4, .inr (.inr (.inr (.inr (zmg q14 4))))))] L32 T33 H := zP.pick [0, 1] [(th, .inr (7, [.null, .ref q1, .ref q14, .ref q21, .ref q26, .ref q31, .ref q34, .ref q35, .ref q36, .ref q37, .ref q38, .null, .null, .null])), (q14, .inl (K 10, 4, .inr (.inr (.inr (.inr (zmg q14 4))))))] hZ (by decide) rfl
  refine z_putF (own := RX5) (C := RX5) (TT := TX5) (N := 14) (ci := 7) (Ts := WR) (v := .ref q39) (ty := (.array .byte)) hx hb hts zin_wsX50 tyX5 tyX5_ok nmX5 hown hK hZ hS 0 rfl rfl 11 (by decide) (hts _ zw_614) (fun _ h9 => h9) rfl hin rfl (by decide +kernel) rfl rfl (Nat.le_of_ble_eq_true rfl) dX5_init_102 (fun H locs hZ hS => ?_)
  have hZ : zP D vwCl A X [(th, .inr (7, [.null, .ref q1, .ref q14, .ref q21, .ref q26, .ref q31, .ref q34, .ref q35, .ref q36, .ref q37, .ref q38, .ref q39, .null, .null])), (q14, .inl (K 10, 4, .inr (.inr (.inr (.inr (zmg q14 4))))))] L32 T33 H := hZ
  refine lv_aload_n hx hb dX5_init_105 rfl (lv_at hl 0 rfl) ?_
  refine lv_bipush (v := nI 64) hx hb dX5_init_106 (by decide +kernel) ?_
  refine z_newB hx hb (hts _ zw_63) hK hZ hS hA 2 rfl (n := nI 64) (N := 64) (nI_pos (Nat.le_of_ble_eq_true rfl)) (nI_clamp (Nat.le_of_ble_eq_true rfl)) (Nat.le_of_ble_eq_true rfl) (Nat.le_of_ble_eq_true rfl) (Nat.le_of_ble_eq_true rfl) dX5_init_108 (fun q40 H hZ hS => ?_)
  have hZ : zP D vwCl A X [(th, .inr (7, [.null, .ref q1, .ref q14, .ref q21, .ref q26, .ref q31, .ref q34, .ref q35, .ref q36, .ref q37, .ref q38, .ref q39, .null, .null])), (q14, .inl (K 10, 4, .inr (.inr (.inr (.inr (zmg q14 4)))))), (q40, .inl (K 2, 64, .inl (fun _ => 0)))] L32 T33 H := hZ
  have hZ : zP D vwCl A X [(th, .inr (7, [.null, .ref q1, .ref q14, .ref q21, .ref q26, .ref q31, .ref q34, .ref q35, .ref q36, .ref q37, .ref q38, .ref q39, .null, .null])), (q14, .inl (K 10, 4, .inr (.inr (.inr (.inr (zmg q14 4))))))] L32 T33 H := zP.pick [0, 1] [(th, .inr (7, [.null, .ref q1, .ref q14, .ref q21, .ref q26, .ref q31, .ref q34, .ref q35, .ref q36, .ref q37, .ref q38, .ref q39, .null, .null])), (q14, .inl (K 10, 4, .inr (.inr (.inr (.inr (zmg q14 4))))))] hZ (by decide) rfl
  refine z_putF (own := RX5) (C := RX5) (TT := TX5) (N := 14) (ci := 7) (Ts := WR) (v := .ref q40) (ty := (.array .byte)) hx hb hts zin_wsX50 tyX5 tyX5_ok nmX5 hown hK hZ hS 0 rfl rfl 12 (by decide) (hts _ zw_615) (fun _ h9 => h9) rfl hin rfl (by decide +kernel) rfl rfl (Nat.le_of_ble_eq_true rfl) dX5_init_110 (fun H locs hZ hS => ?_)
  have hZ : zP D vwCl A X [(th, .inr (7, [.null, .ref q1, .ref q14, .ref q21, .ref q26, .ref q31, .ref q34, .ref q35, .ref q36, .ref q37, .ref q38, .ref q39, .ref q40, .null])), (q14, .inl (K 10, 4, .inr (.inr (.inr (.inr (zmg q14 4))))))] L32 T33 H := hZ
  refine lv_aload_n hx hb dX5_init_113 rfl (lv_at hl 0 rfl) ?_
  refine lv_bipush (v := nI 64) hx hb dX5_init_114 (by decide +kernel) ?_
  refine z_newB hx hb (hts _ zw_63) hK hZ hS hA 2 rfl (n := nI 64) (N := 64) (nI_pos (Nat.le_of_ble_eq_true rfl)) (nI_clamp (Nat.le_of_ble_eq_true rfl)) (Nat.le_of_ble_eq_true rfl) (Nat.le_of_ble_eq_true rfl) (Nat.le_of_ble_eq_true rfl) dX5_init_116 (fun q41 H hZ hS => ?_)
  have hZ : zP D vwCl A X [(th, .inr (7, [.null, .ref q1, .ref q14, .ref q21, .ref q26, .ref q31, .ref q34, .ref q35, .ref q36, .ref q37, .ref q38, .ref q39, .ref q40, .null])), (q14, .inl (K 10, 4, .inr (.inr (.inr (.inr (zmg q14 4)))))), (q41, .inl (K 2, 64, .inl (fun _ => 0)))] L32 T33 H := hZ
  have hZ : zP D vwCl A X [(th, .inr (7, [.null, .ref q1, .ref q14, .ref q21, .ref q26, .ref q31, .ref q34, .ref q35, .ref q36, .ref q37, .ref q38, .ref q39, .ref q40, .null])), (q14, .inl (K 10, 4, .inr (.inr (.inr (.inr (zmg q14 4))))))] L32 T33 H := zP.pick [0, 1] [(th, .inr (7, [.null, .ref q1, .ref q14, .ref q21, .ref q26, .ref q31, .ref q34, .ref q35, .ref q36, .ref q37, .ref q38, .ref q39, .ref q40, .null])), (q14, .inl (K 10, 4, .inr (.inr (.inr (.inr (zmg q14 4))))))] hZ (by decide) rfl
  refine z_putF (own := RX5) (C := RX5) (TT := TX5) (N := 14) (ci := 7) (Ts := WR) (v := .ref q41) (ty := (.array .byte)) hx hb hts zin_wsX50 tyX5 tyX5_ok nmX5 hown hK hZ hS 0 rfl rfl 13 (by decide) (hts _ zw_616) (fun _ h9 => h9) rfl hin rfl (by decide +kernel) rfl rfl (Nat.le_of_ble_eq_true rfl) dX5_init_118 (fun H locs hZ hS => ?_)
  have hZ : zP D vwCl A X [(th, .inr (7, [.null, .ref q1, .ref q14, .ref q21, .ref q26, .ref q31, .ref q34, .ref q35, .ref q36, .ref q37, .ref q38, .ref q39, .ref q40, .ref q41])), (q14, .inl (K 10, 4, .inr (.inr (.inr (.inr (zmg q14 4))))))] L32 T33 H := hZ
  refine lv_aload_n hx hb dX5_init_121 rfl (lv_at hl 0 rfl) ?_
  refine lv_aload_n hx hb dX5_init_122 rfl (lv_at hl 1 rfl) ?_
  refine z_putF (own := RX5) (C := RX5) (TT := TX5) (N := 14) (ci := 7) (Ts := WR) (v := .ref sh) (ty := (.object "ShellPair$Sha2")) hx hb hts zin_wsX50 tyX5 tyX5_ok nmX5 hown hK hZ hS 0 rfl rfl 0 (by decide) (hts _ zw_617) (fun _ h9 => h9) rfl hin rfl (by decide +kernel) rfl rfl (Nat.le_of_ble_eq_true rfl) dX5_init_123 (fun H locs hZ hS => ?_)
  have hZ : zP D vwCl A X [(th, .inr (7, [.ref sh, .ref q1, .ref q14, .ref q21, .ref q26, .ref q31, .ref q34, .ref q35, .ref q36, .ref q37, .ref q38, .ref q39, .ref q40, .ref q41])), (q14, .inl (K 10, 4, .inr (.inr (.inr (.inr (zmg q14 4))))))] L32 T33 H := hZ
  obtain ⟨t42, f_t42, z_t42, a_t42⟩ := zSA_BASE_X hSA
  refine z_gets (C := "ShellPair$Curve") (n := "BASE_X") (d := "[J") (v := .ref t42) hx hb hE z_t42 hS hown (hts _ zw_618) dX5_init_126 ?_
  refine lv_iconst (v := nI 0) hx hb dX5_init_129 (by decide +kernel) ?_
  refine lv_aload_n hx hb dX5_init_130 rfl (lv_at hl 0 rfl) ?_
  refine z_getY (own := RX5) (C := RX5) (TT := TX5) (N := 14) (ci := 7) (Ts := WR) hx hb hts zin_wsX50 hown hK hZ 0 rfl rfl 2 (by decide) (hts _ zw_605) (fun _ h9 => h9) rfl dX5_init_131 ?_
  refine lv_iconst (v := nI 0) hx hb dX5_init_134 (by decide +kernel) ?_
  refine z_aldqA hx hb hK hZ 10 1 rfl rfl (vp_in_nI (by omega) (by omega)) (v := .ref r15) (by rw [e_r15, nI_clamp (by decide)]; rfl) dX5_init_135 ?_
  refine lv_iconst (v := nI 0) hx hb dX5_init_136 (by decide +kernel) ?_
  refine lv_bipush (v := nI 10) hx hb dX5_init_137 (by decide +kernel) ?_
  refine z_copyTl (n0 := 10) hx hb (by rw [hml]; exact hl.1.symm) hown (hts _ zw_619) (hts _ zw_504) (hts _ zw_505) (hts _ zw_506) hK hZ hS (hE.2.1 _ a_t42) 1 h_r15 k_r15 rfl (nI_pos (by omega)) (nI_pos (by omega)) (nI_pos (by omega)) (by rw [nI_clamp (by omega), nI_clamp (by omega)]; omega) (by rw [nI_clamp (by omega), nI_clamp (by omega)]; omega) (Nat.le_of_ble_eq_true rfl) (Nat.le_of_ble_eq_true rfl) dX5_init_139 (fun H locs hZ hS => ?_)
  obtain ⟨t43, f_t43, z_t43, a_t43⟩ := zSA_BASE_Y hSA
  refine z_gets (C := "ShellPair$Curve") (n := "BASE_Y") (d := "[J") (v := .ref t43) hx hb hE z_t43 hS hown (hts _ zw_620) dX5_init_142 ?_
  refine lv_iconst (v := nI 0) hx hb dX5_init_145 (by decide +kernel) ?_
  refine lv_aload_n hx hb dX5_init_146 rfl (lv_at hl 0 rfl) ?_
  refine z_getY (own := RX5) (C := RX5) (TT := TX5) (N := 14) (ci := 7) (Ts := WR) hx hb hts zin_wsX50 hown hK hZ 0 rfl rfl 2 (by decide) (hts _ zw_605) (fun _ h9 => h9) rfl dX5_init_147 ?_
  refine lv_iconst (v := nI 1) hx hb dX5_init_150 (by decide +kernel) ?_
  refine z_aldqA hx hb hK hZ 10 1 rfl rfl (vp_in_nI (by omega) (by omega)) (v := .ref r16) (by rw [e_r16, nI_clamp (by decide)]; rfl) dX5_init_151 ?_
  refine lv_iconst (v := nI 0) hx hb dX5_init_152 (by decide +kernel) ?_
  refine lv_bipush (v := nI 10) hx hb dX5_init_153 (by decide +kernel) ?_
  refine z_copyTl (n0 := 10) hx hb (by rw [hml]; exact hl.1.symm) hown (hts _ zw_619) (hts _ zw_504) (hts _ zw_505) (hts _ zw_506) hK hZ hS (hE.2.1 _ a_t43) 1 h_r16 k_r16 rfl (nI_pos (by omega)) (nI_pos (by omega)) (nI_pos (by omega)) (by rw [nI_clamp (by omega), nI_clamp (by omega)]; omega) (by rw [nI_clamp (by omega), nI_clamp (by omega)]; omega) (Nat.le_of_ble_eq_true rfl) (Nat.le_of_ble_eq_true rfl) dX5_init_155 (fun H locs hZ hS => ?_)
  refine lv_aload_n hx hb dX5_init_158 rfl (lv_at hl 0 rfl) ?_
  refine z_getY (own := RX5) (C := RX5) (TT := TX5) (N := 14) (ci := 7) (Ts := WR) hx hb hts zin_wsX50 hown hK hZ 0 rfl rfl 2 (by decide) (hts _ zw_605) (fun _ h9 => h9) rfl dX5_init_159 ?_
  show W p l e ROOM_X5_init s m [.ref th, .ref sh].toArray below meth c H locs 37 626 (MQ below (va_Qv (fun (u : zU) => u = ([], L, T)) (zB D vwCl (zT K) A X) A) [.ref th, .ref sh].toArray s 37 626 A) (F0 m 162 ls [.ref q14])
  refine lv_iconst (v := nI 2) hx hb dX5_init_162 (by decide +kernel) ?_
  refine z_aldqA hx hb hK hZ 10 1 rfl rfl (vp_in_nI (by omega) (by omega)) (v := .ref r17) (by rw [e_r17, nI_clamp (by decide)]; rfl) dX5_init_163 ?_
  refine lv_iconst (v := nI 0) hx hb dX5_init_164 (by decide +kernel) ?_
  refine lv_lconst (v := 1) hx hb dX5_init_165 (by decide +kernel) ?_
  refine z_last hx hb hK hZ hS 1 h_r17 k_r17 rfl (vp_in_nI (by omega) (by omega)) dX5_init_166 (fun H locs hZ hS => ?_)
  refine lv_aload_n hx hb dX5_init_167 rfl (lv_at hl 0 rfl) ?_
  refine z_getY (own := RX5) (C := RX5) (TT := TX5) (N := 14) (ci := 7) (Ts := WR) hx hb hts zin_wsX50 hown hK hZ 0 rfl rfl 2 (by decide) (hts _ zw_605) (fun _ h9 => h9) rfl dX5_init_168 ?_
  refine lv_iconst (v := nI 3) hx hb dX5_init_171 (by decide +kernel) ?_
  refine z_aldqA hx hb hK hZ 10 1 rfl rfl (vp_in_nI (by omega) (by omega)) (v := .ref r18) (by rw [e_r18, nI_clamp (by decide)]; rfl) dX5_init_172 ?_
  obtain ⟨t44, f_t44, z_t44, a_t44⟩ := zSA_BASE_X hSA
  refine z_gets (C := "ShellPair$Curve") (n := "BASE_X") (d := "[J") (v := .ref t44) hx hb hE z_t44 hS hown (hts _ zw_618) dX5_init_173 ?_
  obtain ⟨t45, f_t45, z_t45, a_t45⟩ := zSA_BASE_Y hSA
  refine z_gets (C := "ShellPair$Curve") (n := "BASE_Y") (d := "[J") (v := .ref t45) hx hb hE z_t45 hS hown (hts _ zw_620) dX5_init_176 ?_
  refine z_goV (va_runS (As := [.ref r18, .ref t44, .ref t45]) (rest := []) ⟨hx, hb, hml, hown, hts⟩ ((c_X5_mul E l D K X [(th, .inr (7, [.ref sh, .ref q1, .ref q14, .ref q21, .ref q26, .ref q31, .ref q34, .ref q35, .ref q36, .ref q37, .ref q38, .ref q39, .ref q40, .ref q41])), (q14, .inl (K 10, 4, .inr (.inr (.inr (.inr (zmg q14 4))))))] L32 T33 h_r18 k_r18 ⟨by omega, by omega⟩ a_t44 a_t45) H.size) (va_cwS 3 hts (zg_S zw_621 zw_623 zw_601 zw_622) rfl rfl rfl (by decide +kernel) ⟨Nat.le_of_ble_eq_true rfl, Nat.le_of_ble_eq_true rfl⟩) (z_preS hK hZ hS hA hE) rfl rfl hl.1 rfl (lv_room (Nat.le_of_ble_eq_true rfl)) dX5_init_179 ⟨Nat.le_of_ble_eq_true rfl, Nat.le_of_ble_eq_true rfl⟩) hZ hS hA (fun  Y1 L1 T1 H locs hp hZ hS => ?_)
  cases hp
  refine lv_aload_n hx hb dX5_init_182 rfl (lv_at hl 0 rfl) ?_
  refine z_getY (own := RX5) (C := RX5) (TT := TX5) (N := 14) (ci := 7) (Ts := WR) hx hb hts zin_wsX50 hown hK hZ 0 rfl rfl 5 (by decide) (hts _ zw_608) (fun _ h9 => h9) rfl dX5_init_183 ?_
  refine lv_iconst (v := nI 0) hx hb dX5_init_186 (by decide +kernel) ?_
  refine lv_ldc2 (v := (121665)) hx hb hown (hts _ zw_624) dX5_init_187 ?_
  refine z_last hx hb hK hZ hS 1 h_q31 k_q31 rfl (vp_in_nI (by omega) (by omega)) dX5_init_190 (fun H locs hZ hS => ?_)
  have hZ : zP D vwCl A X [] L32 T33 H := zP.pick [] [] hZ (by decide) rfl
  have hZ : zP D vwCl A X [] L T H := zP.forget hZ hGG hND
  exact z_vret hx hb hr hlocks hK hZ hS rfl (Nat.le_of_ble_eq_true rfl) (Nat.le_of_ble_eq_true rfl) dX5_init_191
end ZCUR

def K_Street (ι : Nat → ClassId) (b : Nat → Nat) : va_W := [(b 0, .inr (5, [.int 0, .int 0, .int 0, .ref (b 19), .ref (b 18), .ref (b 17), .ref (b 16), .ref (b 15), .ref (b 14), .ref (b 13), .ref (b 12), .ref (b 11), .ref (b 10), .ref (b 1)]))] ++ ([(b 1, .inl (ι 4, 8, .inr (.inr (.inr (.inr (fun j => ([some (b 2), some (b 3), some (b 4), some (b 5), some (b 6), some (b 7), some (b 8), some (b 9)] : List (Option Nat)).getD j none)))))), (b 2, .inl (ι 0, 6, .inl fun _ => 0)), (b 3, .inl (ι 0, 6, .inl fun _ => 0)), (b 4, .inl (ι 0, 6, .inl fun _ => 0)), (b 5, .inl (ι 0, 6, .inl fun _ => 0)), (b 6, .inl (ι 0, 6, .inl fun _ => 0)), (b 7, .inl (ι 0, 6, .inl fun _ => 0)), (b 8, .inl (ι 0, 6, .inl fun _ => 0)), (b 9, .inl (ι 0, 6, .inl fun _ => 0))] ++ ([(b 10, .inl (ι 0, 8, .inl fun _ => 0))] ++ ([(b 11, .inl (ι 0, 8, .inl fun _ => 0))] ++ ([(b 12, .inl (ι 0, 8, .inl fun _ => 0))] ++ ([(b 13, .inl (ι 0, 8, .inl fun _ => 0))] ++ ([(b 14, .inl (ι 0, 8, .inl fun _ => 0))] ++ ([(b 15, .inl (ι 0, 8, .inl fun _ => 0))] ++ ([(b 16, .inl (ι 0, 6, .inl fun _ => 0))] ++ ([(b 17, .inl (ι 0, 6, .inl fun _ => 0))] ++ ([(b 18, .inl (ι 0, 6, .inl fun _ => 0))] ++ ([(b 19, .inl (ι 0, 6, .inl fun _ => 0))])))))))))))
set_option maxRecDepth 40000 in
set_option maxHeartbeats 4000000 in
theorem k_Street (l : Launch) (D : va_G) {cl : List vw_C} {tys : List (ClassId × FieldType)} {ι : Nat → ClassId} (hx : gx_std vwCl (gty ι) cl tys) (h0 : Nat) : gx_mK l D cl tys yX5_init (.code yX5_init cX5_init 1 none :: gx_U) (gx_rmc 1 19 128) [.ref h0] [(h0, .inr (5, [.int 0, .int 0, .int 0, .null, .null, .null, .null, .null, .null, .null, .null, .null, .null, .null]))] (K_Street ι) h0 19 128 := by
  refine gx_startK (V := [.ref h0]) 0 (by decide +kernel) rfl (Nat.le_of_ble_eq_true rfl) rfl (fun Γ hl hD hcl hty hnL C F M hin => ?_)
  subst hl; subst hD; subst hcl; subst hty
  refine gx_world (ws' := [(h0, .inr (5, [.int 0, .int 0, .int 0, .null, .null, .null, .null, .null, .null, .null, .null, .null, .null, .null]))] ++ ([] : va_W)) rfl ?_
  refine gx_aload_0 C dX5_init_0 rfl ?_
  refine gn_obj C (gx_mu (gx_t_1 (List.mem_of_getElem? (i := 25) rfl)) rfl) vn_obj vc_obj (by decide) (Nat.le_of_ble_eq_true rfl) dX5_init_1 ?_
  refine gx_aload_0 C dX5_init_4 rfl ?_
  refine gx_bipush (v := 6) C dX5_init_5 (by decide) ?_
  refine gn_newaP (k := 0) (n := 0) (z := 6) (P := [(h0, .inr (5, [.int 0, .int 0, .int 0, .null, .null, .null, .null, .null, .null, .null, .null, .null, .null, .null]))]) (rest := ([] : va_W)) (t0 := 0) (c0 := ι 0) (N := 6) (ty := .int) C M (gx_mu (gx_t_1 (List.mem_of_getElem? (i := 108) rfl)) rfl) rfl (by rw [hx.2]; rfl) (fun _ => rfl) (by decide) (by decide) (by decide) (by decide) (by decide) dX5_init_7 (fun q1 w2 hw2 => ?_)
  refine gn_putF (q0 := 0) C hin fl_X5_9 (cls_X5 hx) rfl rfl rfl rfl rfl (Nat.le_of_ble_eq_true rfl) dX5_init_9 (ws1 := [(h0, .inr (5, [.int 0, .int 0, .int 0, .ref q1, .null, .null, .null, .null, .null, .null, .null, .null, .null, .null]))] ++ w2) rfl ?_
  refine gx_aload_0 C dX5_init_12 rfl ?_
  refine gx_bipush (v := 6) C dX5_init_13 (by decide) ?_
  refine gn_newaP (k := 1) (n := 6) (z := 6) (P := [(h0, .inr (5, [.int 0, .int 0, .int 0, .ref q1, .null, .null, .null, .null, .null, .null, .null, .null, .null, .null]))]) (rest := w2) (t0 := 0) (c0 := ι 0) (N := 6) (ty := .int) C M (gx_mu (gx_t_1 (List.mem_of_getElem? (i := 108) rfl)) rfl) rfl (by rw [hx.2]; rfl) (fun _ => rfl) (by decide) (by decide) (by decide) (by decide) (by decide) dX5_init_15 (fun q3 w4 hw4 => ?_)
  refine gn_putF (q0 := 0) C hin fl_X5_15 (cls_X5 hx) rfl rfl rfl rfl rfl (Nat.le_of_ble_eq_true rfl) dX5_init_17 (ws1 := [(h0, .inr (5, [.int 0, .int 0, .int 0, .ref q1, .ref q3, .null, .null, .null, .null, .null, .null, .null, .null, .null]))] ++ w4) rfl ?_
  refine gx_aload_0 C dX5_init_20 rfl ?_
  refine gx_bipush (v := 6) C dX5_init_21 (by decide) ?_
  refine gn_newaP (k := 2) (n := 12) (z := 6) (P := [(h0, .inr (5, [.int 0, .int 0, .int 0, .ref q1, .ref q3, .null, .null, .null, .null, .null, .null, .null, .null, .null]))]) (rest := w4) (t0 := 0) (c0 := ι 0) (N := 6) (ty := .int) C M (gx_mu (gx_t_1 (List.mem_of_getElem? (i := 108) rfl)) rfl) rfl (by rw [hx.2]; rfl) (fun _ => rfl) (by decide) (by decide) (by decide) (by decide) (by decide) dX5_init_23 (fun q5 w6 hw6 => ?_)
  refine gn_putF (q0 := 0) C hin fl_X5_18 (cls_X5 hx) rfl rfl rfl rfl rfl (Nat.le_of_ble_eq_true rfl) dX5_init_25 (ws1 := [(h0, .inr (5, [.int 0, .int 0, .int 0, .ref q1, .ref q3, .ref q5, .null, .null, .null, .null, .null, .null, .null, .null]))] ++ w6) rfl ?_
  refine gx_aload_0 C dX5_init_28 rfl ?_
  refine gx_bipush (v := 6) C dX5_init_29 (by decide) ?_
  refine gn_newaP (k := 3) (n := 18) (z := 6) (P := [(h0, .inr (5, [.int 0, .int 0, .int 0, .ref q1, .ref q3, .ref q5, .null, .null, .null, .null, .null, .null, .null, .null]))]) (rest := w6) (t0 := 0) (c0 := ι 0) (N := 6) (ty := .int) C M (gx_mu (gx_t_1 (List.mem_of_getElem? (i := 108) rfl)) rfl) rfl (by rw [hx.2]; rfl) (fun _ => rfl) (by decide) (by decide) (by decide) (by decide) (by decide) dX5_init_31 (fun q7 w8 hw8 => ?_)
  refine gn_putF (q0 := 0) C hin fl_X5_21 (cls_X5 hx) rfl rfl rfl rfl rfl (Nat.le_of_ble_eq_true rfl) dX5_init_33 (ws1 := [(h0, .inr (5, [.int 0, .int 0, .int 0, .ref q1, .ref q3, .ref q5, .ref q7, .null, .null, .null, .null, .null, .null, .null]))] ++ w8) rfl ?_
  refine gx_aload_0 C dX5_init_36 rfl ?_
  refine gx_bipush (v := 8) C dX5_init_37 (by decide) ?_
  refine gn_newaP (k := 4) (n := 24) (z := 8) (P := [(h0, .inr (5, [.int 0, .int 0, .int 0, .ref q1, .ref q3, .ref q5, .ref q7, .null, .null, .null, .null, .null, .null, .null]))]) (rest := w8) (t0 := 0) (c0 := ι 0) (N := 8) (ty := .int) C M (gx_mu (gx_t_1 (List.mem_of_getElem? (i := 108) rfl)) rfl) rfl (by rw [hx.2]; rfl) (fun _ => rfl) (by decide) (by decide) (by decide) (by decide) (by decide) dX5_init_39 (fun q9 w10 hw10 => ?_)
  refine gn_putF (q0 := 0) C hin fl_X5_24 (cls_X5 hx) rfl rfl rfl rfl rfl (Nat.le_of_ble_eq_true rfl) dX5_init_41 (ws1 := [(h0, .inr (5, [.int 0, .int 0, .int 0, .ref q1, .ref q3, .ref q5, .ref q7, .ref q9, .null, .null, .null, .null, .null, .null]))] ++ w10) rfl ?_
  refine gx_aload_0 C dX5_init_44 rfl ?_
  refine gx_bipush (v := 8) C dX5_init_45 (by decide) ?_
  refine gn_newaP (k := 5) (n := 32) (z := 8) (P := [(h0, .inr (5, [.int 0, .int 0, .int 0, .ref q1, .ref q3, .ref q5, .ref q7, .ref q9, .null, .null, .null, .null, .null, .null]))]) (rest := w10) (t0 := 0) (c0 := ι 0) (N := 8) (ty := .int) C M (gx_mu (gx_t_1 (List.mem_of_getElem? (i := 108) rfl)) rfl) rfl (by rw [hx.2]; rfl) (fun _ => rfl) (by decide) (by decide) (by decide) (by decide) (by decide) dX5_init_47 (fun q11 w12 hw12 => ?_)
  refine gn_putF (q0 := 0) C hin fl_X5_27 (cls_X5 hx) rfl rfl rfl rfl rfl (Nat.le_of_ble_eq_true rfl) dX5_init_49 (ws1 := [(h0, .inr (5, [.int 0, .int 0, .int 0, .ref q1, .ref q3, .ref q5, .ref q7, .ref q9, .ref q11, .null, .null, .null, .null, .null]))] ++ w12) rfl ?_
  refine gx_aload_0 C dX5_init_52 rfl ?_
  refine gx_bipush (v := 8) C dX5_init_53 (by decide) ?_
  refine gn_newaP (k := 6) (n := 40) (z := 8) (P := [(h0, .inr (5, [.int 0, .int 0, .int 0, .ref q1, .ref q3, .ref q5, .ref q7, .ref q9, .ref q11, .null, .null, .null, .null, .null]))]) (rest := w12) (t0 := 0) (c0 := ι 0) (N := 8) (ty := .int) C M (gx_mu (gx_t_1 (List.mem_of_getElem? (i := 108) rfl)) rfl) rfl (by rw [hx.2]; rfl) (fun _ => rfl) (by decide) (by decide) (by decide) (by decide) (by decide) dX5_init_55 (fun q13 w14 hw14 => ?_)
  refine gn_putF (q0 := 0) C hin fl_X5_30 (cls_X5 hx) rfl rfl rfl rfl rfl (Nat.le_of_ble_eq_true rfl) dX5_init_57 (ws1 := [(h0, .inr (5, [.int 0, .int 0, .int 0, .ref q1, .ref q3, .ref q5, .ref q7, .ref q9, .ref q11, .ref q13, .null, .null, .null, .null]))] ++ w14) rfl ?_
  refine gx_aload_0 C dX5_init_60 rfl ?_
  refine gx_bipush (v := 8) C dX5_init_61 (by decide) ?_
  refine gn_newaP (k := 7) (n := 48) (z := 8) (P := [(h0, .inr (5, [.int 0, .int 0, .int 0, .ref q1, .ref q3, .ref q5, .ref q7, .ref q9, .ref q11, .ref q13, .null, .null, .null, .null]))]) (rest := w14) (t0 := 0) (c0 := ι 0) (N := 8) (ty := .int) C M (gx_mu (gx_t_1 (List.mem_of_getElem? (i := 108) rfl)) rfl) rfl (by rw [hx.2]; rfl) (fun _ => rfl) (by decide) (by decide) (by decide) (by decide) (by decide) dX5_init_63 (fun q15 w16 hw16 => ?_)
  refine gn_putF (q0 := 0) C hin fl_X5_33 (cls_X5 hx) rfl rfl rfl rfl rfl (Nat.le_of_ble_eq_true rfl) dX5_init_65 (ws1 := [(h0, .inr (5, [.int 0, .int 0, .int 0, .ref q1, .ref q3, .ref q5, .ref q7, .ref q9, .ref q11, .ref q13, .ref q15, .null, .null, .null]))] ++ w16) rfl ?_
  refine gx_aload_0 C dX5_init_68 rfl ?_
  refine gx_bipush (v := 8) C dX5_init_69 (by decide) ?_
  refine gn_newaP (k := 8) (n := 56) (z := 8) (P := [(h0, .inr (5, [.int 0, .int 0, .int 0, .ref q1, .ref q3, .ref q5, .ref q7, .ref q9, .ref q11, .ref q13, .ref q15, .null, .null, .null]))]) (rest := w16) (t0 := 0) (c0 := ι 0) (N := 8) (ty := .int) C M (gx_mu (gx_t_1 (List.mem_of_getElem? (i := 108) rfl)) rfl) rfl (by rw [hx.2]; rfl) (fun _ => rfl) (by decide) (by decide) (by decide) (by decide) (by decide) dX5_init_71 (fun q17 w18 hw18 => ?_)
  refine gn_putF (q0 := 0) C hin fl_X5_36 (cls_X5 hx) rfl rfl rfl rfl rfl (Nat.le_of_ble_eq_true rfl) dX5_init_73 (ws1 := [(h0, .inr (5, [.int 0, .int 0, .int 0, .ref q1, .ref q3, .ref q5, .ref q7, .ref q9, .ref q11, .ref q13, .ref q15, .ref q17, .null, .null]))] ++ w18) rfl ?_
  refine gx_aload_0 C dX5_init_76 rfl ?_
  refine gx_bipush (v := 8) C dX5_init_77 (by decide) ?_
  refine gn_newaP (k := 9) (n := 64) (z := 8) (P := [(h0, .inr (5, [.int 0, .int 0, .int 0, .ref q1, .ref q3, .ref q5, .ref q7, .ref q9, .ref q11, .ref q13, .ref q15, .ref q17, .null, .null]))]) (rest := w18) (t0 := 0) (c0 := ι 0) (N := 8) (ty := .int) C M (gx_mu (gx_t_1 (List.mem_of_getElem? (i := 108) rfl)) rfl) rfl (by rw [hx.2]; rfl) (fun _ => rfl) (by decide) (by decide) (by decide) (by decide) (by decide) dX5_init_79 (fun q19 w20 hw20 => ?_)
  refine gn_putF (q0 := 0) C hin fl_X5_39 (cls_X5 hx) rfl rfl rfl rfl rfl (Nat.le_of_ble_eq_true rfl) dX5_init_81 (ws1 := [(h0, .inr (5, [.int 0, .int 0, .int 0, .ref q1, .ref q3, .ref q5, .ref q7, .ref q9, .ref q11, .ref q13, .ref q15, .ref q17, .ref q19, .null]))] ++ w20) rfl ?_
  refine gx_aload_0 C dX5_init_84 rfl ?_
  refine gx_bipush (v := 8) C dX5_init_85 (by decide) ?_
  refine gx_bipush (v := 6) C dX5_init_87 (by decide) ?_
  refine gn_mnaP (k := 10) (n := 72) (z := 8) (y := 6) (P := [(h0, .inr (5, [.int 0, .int 0, .int 0, .ref q1, .ref q3, .ref q5, .ref q7, .ref q9, .ref q11, .ref q13, .ref q15, .ref q17, .ref q19, .null]))]) (rest := w20) (t0 := 4) (t1 := 0) (c0 := ι 4) (c1 := ι 0) (N := 8) (K := 6) C M (gx_mu (gx_t_1 (List.mem_of_getElem? (i := 26) rfl)) rfl) M.2.2.2.1 (gx_mu (gx_t_1 (List.mem_of_getElem? (i := 108) rfl)) rfl) (by rw [hx.2]; rfl) (by rw [hx.2]; rfl) (by decide) (by decide) (by decide) (by decide) (by decide) (by decide) (by decide) (by decide) dX5_init_89 (k2 := 19) (n2 := 128) rfl rfl (fun q21 r22 w23 hw23 => ?_)
  refine gn_putF (q0 := 0) C hin fl_X5_44 (cls_X5 hx) rfl rfl rfl rfl rfl (Nat.le_of_ble_eq_true rfl) dX5_init_93 (ws1 := [(h0, .inr (5, [.int 0, .int 0, .int 0, .ref q1, .ref q3, .ref q5, .ref q7, .ref q9, .ref q11, .ref q13, .ref q15, .ref q17, .ref q19, .ref q21]))] ++ w23) rfl ?_
  subst hw23
  subst hw20
  subst hw18
  subst hw16
  subst hw14
  subst hw12
  subst hw10
  subst hw8
  subst hw6
  subst hw4
  subst hw2
  refine gx_world (ws' := K_Street ι (fun k => ([h0, q21, r22 0, r22 1, r22 2, r22 3, r22 4, r22 5, r22 6, r22 7, q19, q17, q15, q13, q11, q9, q7, q5, q3, q1] : List Nat).getD k 0)) rfl ?_
  exact gn_vret (Wb := K_Street ι) (fun k => ([h0, q21, r22 0, r22 1, r22 2, r22 3, r22 4, r22 5, r22 6, r22 7, q19, q17, q15, q13, q11, q9, q7, q5, q3, q1] : List Nat).getD k 0) C F dX5_init_96 rfl
theorem vi_X4 : Cond.initialized RX4 ∈ gx_U := gx_mu (gx_t_1 (List.mem_of_getElem? (i := 3) rfl)) rfl
theorem vn_X4_init : Cond.instanceMethod yX4_init ∈ gx_U := gx_mu (gx_t_1 (List.mem_of_getElem? (i := 112) rfl)) rfl
theorem vc_X4_init : Cond.code yX4_init cX4_init 2 none ∈ gx_U := gx_mu (gx_t_1 (List.mem_of_getElem? (i := 113) rfl)) rfl
theorem df_X4 : ∀ j, j < 4 → defaultValue (tyX4 j) = vp_V [.null, .null, .null, .null] j := fun j hj => match j, hj with
  | 0, _ => rfl
  | 1, _ => rfl
  | 2, _ => rfl
  | 3, _ => rfl
  | j + 4, hj => absurd hj (by omega)
theorem dX4_init_0 : decode cX4_init 0 = .ok (.aload_n 0, 1) := by decide +kernel
theorem dX4_init_1 : decode cX4_init 1 = .ok (.invokespecial 3, 3) := by decide +kernel
theorem dX4_init_4 : decode cX4_init 4 = .ok (.aload_n 0, 1) := by decide +kernel
theorem dX4_init_5 : decode cX4_init 5 = .ok (.bipush 6, 2) := by decide +kernel
theorem dX4_init_7 : decode cX4_init 7 = .ok (.newarray .int, 2) := by decide +kernel
theorem dX4_init_9 : decode cX4_init 9 = .ok (.putfield 9, 3) := by decide +kernel
theorem dX4_init_12 : decode cX4_init 12 = .ok (.aload_n 0, 1) := by decide +kernel
theorem dX4_init_13 : decode cX4_init 13 = .ok (.bipush 6, 2) := by decide +kernel
theorem dX4_init_15 : decode cX4_init 15 = .ok (.newarray .int, 2) := by decide +kernel
theorem dX4_init_17 : decode cX4_init 17 = .ok (.putfield 15, 3) := by decide +kernel
theorem dX4_init_20 : decode cX4_init 20 = .ok (.aload_n 0, 1) := by decide +kernel
theorem dX4_init_21 : decode cX4_init 21 = .ok (.bipush 6, 2) := by decide +kernel
theorem dX4_init_23 : decode cX4_init 23 = .ok (.newarray .boolean, 2) := by decide +kernel
theorem dX4_init_25 : decode cX4_init 25 = .ok (.putfield 18, 3) := by decide +kernel
theorem dX4_init_28 : decode cX4_init 28 = .ok (.aload_n 0, 1) := by decide +kernel
theorem dX4_init_29 : decode cX4_init 29 = .ok (.aload_n 1, 1) := by decide +kernel
theorem dX4_init_30 : decode cX4_init 30 = .ok (.putfield 22, 3) := by decide +kernel
theorem dX4_init_33 : decode cX4_init 33 = .ok (.return_, 1) := by decide +kernel


def K_Standing (ι : Nat → ClassId) (p1 : Nat) (b : Nat → Nat) : va_W := [(b 0, .inr (4, [.ref p1, .ref (b 3), .ref (b 2), .ref (b 1)]))] ++ ([(b 1, .inl (ι 1, 6, .inl fun _ => 0))] ++ ([(b 2, .inl (ι 0, 6, .inl fun _ => 0))] ++ ([(b 3, .inl (ι 0, 6, .inl fun _ => 0))])))
set_option maxRecDepth 40000 in
set_option maxHeartbeats 4000000 in
theorem k_Standing (l : Launch) (D : va_G) {cl : List vw_C} {tys : List (ClassId × FieldType)} {ι : Nat → ClassId} (hx : gx_std vwCl (gty ι) cl tys) (h0 : Nat) (p1 : Nat) : gx_mK l D cl tys yX4_init (.code yX4_init cX4_init 2 none :: gx_U) (gx_rmc 1 3 18) [.ref h0, .ref p1] [(h0, .inr (4, [.null, .null, .null, .null]))] (K_Standing ι p1) h0 3 18 := by
  refine gx_startK (V := [.ref h0, .ref p1]) 0 (by decide +kernel) rfl (Nat.le_of_ble_eq_true rfl) rfl (fun Γ hl hD hcl hty hnL C F M hin => ?_)
  subst hl; subst hD; subst hcl; subst hty
  refine gx_world (ws' := [(h0, .inr (4, [.null, .null, .null, .null]))] ++ ([] : va_W)) rfl ?_
  refine gx_aload_0 C dX4_init_0 rfl ?_
  refine gn_obj C (gx_mu (gx_t_1 (List.mem_of_getElem? (i := 114) rfl)) rfl) vn_obj vc_obj (by decide) (Nat.le_of_ble_eq_true rfl) dX4_init_1 ?_
  refine gx_aload_0 C dX4_init_4 rfl ?_
  refine gx_bipush (v := 6) C dX4_init_5 (by decide) ?_
  refine gn_newaP (k := 0) (n := 0) (z := 6) (P := [(h0, .inr (4, [.null, .null, .null, .null]))]) (rest := ([] : va_W)) (t0 := 0) (c0 := ι 0) (N := 6) (ty := .int) C M (gx_mu (gx_t_1 (List.mem_of_getElem? (i := 108) rfl)) rfl) rfl (by rw [hx.2]; rfl) (fun _ => rfl) (by decide) (by decide) (by decide) (by decide) (by decide) dX4_init_7 (fun q1 w2 hw2 => ?_)
  refine gn_putF (q0 := 0) C hin fl_X4_9 (cls_X4 hx) rfl rfl rfl rfl rfl (Nat.le_of_ble_eq_true rfl) dX4_init_9 (ws1 := [(h0, .inr (4, [.null, .ref q1, .null, .null]))] ++ w2) rfl ?_
  refine gx_aload_0 C dX4_init_12 rfl ?_
  refine gx_bipush (v := 6) C dX4_init_13 (by decide) ?_
  refine gn_newaP (k := 1) (n := 6) (z := 6) (P := [(h0, .inr (4, [.null, .ref q1, .null, .null]))]) (rest := w2) (t0 := 0) (c0 := ι 0) (N := 6) (ty := .int) C M (gx_mu (gx_t_1 (List.mem_of_getElem? (i := 108) rfl)) rfl) rfl (by rw [hx.2]; rfl) (fun _ => rfl) (by decide) (by decide) (by decide) (by decide) (by decide) dX4_init_15 (fun q3 w4 hw4 => ?_)
  refine gn_putF (q0 := 0) C hin fl_X4_15 (cls_X4 hx) rfl rfl rfl rfl rfl (Nat.le_of_ble_eq_true rfl) dX4_init_17 (ws1 := [(h0, .inr (4, [.null, .ref q1, .ref q3, .null]))] ++ w4) rfl ?_
  refine gx_aload_0 C dX4_init_20 rfl ?_
  refine gx_bipush (v := 6) C dX4_init_21 (by decide) ?_
  refine gn_newaP (k := 2) (n := 12) (z := 6) (P := [(h0, .inr (4, [.null, .ref q1, .ref q3, .null]))]) (rest := w4) (t0 := 1) (c0 := ι 1) (N := 6) (ty := .boolean) C M (gx_mu (gx_t_1 (List.mem_of_getElem? (i := 136) rfl)) rfl) rfl (by rw [hx.2]; rfl) (fun _ => rfl) (by decide) (by decide) (by decide) (by decide) (by decide) dX4_init_23 (fun q5 w6 hw6 => ?_)
  refine gn_putF (q0 := 0) C hin fl_X4_18 (cls_X4 hx) rfl rfl rfl rfl rfl (Nat.le_of_ble_eq_true rfl) dX4_init_25 (ws1 := [(h0, .inr (4, [.null, .ref q1, .ref q3, .ref q5]))] ++ w6) rfl ?_
  refine gx_aload_0 C dX4_init_28 rfl ?_
  refine gx_aload_1 C dX4_init_29 rfl ?_
  refine gn_putF (q0 := 0) C hin fl_X4_22 (cls_X4 hx) rfl rfl rfl rfl rfl (Nat.le_of_ble_eq_true rfl) dX4_init_30 (ws1 := [(h0, .inr (4, [.ref p1, .ref q1, .ref q3, .ref q5]))] ++ w6) rfl ?_
  subst hw6
  subst hw4
  subst hw2
  refine gx_world (ws' := K_Standing ι p1 (fun k => ([h0, q5, q3, q1] : List Nat).getD k 0)) rfl ?_
  exact gn_vret (Wb := K_Standing ι p1) (fun k => ([h0, q5, q3, q1] : List Nat).getD k 0) C F dX4_init_33 rfl
theorem vi_X0 : Cond.initialized RX0 ∈ gx_U := gx_mu (gx_t_1 (List.mem_of_getElem? (i := 4) rfl)) rfl
theorem vn_X0_init : Cond.instanceMethod yX0_init ∈ gx_U := gx_mu (gx_t_1 (List.mem_of_getElem? (i := 140) rfl)) rfl
theorem vc_X0_init : Cond.code yX0_init cX0_init 2 none ∈ gx_U := gx_mu (gx_t_1 (List.mem_of_getElem? (i := 141) rfl)) rfl
theorem df_X0 : ∀ j, j < 13 → defaultValue (tyX0 j) = vp_V [.null, .null, .null, .null, .null, .int 0, .null, .null, .null, .null, .null, .int 0, .int 0] j := fun j hj => match j, hj with
  | 0, _ => rfl
  | 1, _ => rfl
  | 2, _ => rfl
  | 3, _ => rfl
  | 4, _ => rfl
  | 5, _ => rfl
  | 6, _ => rfl
  | 7, _ => rfl
  | 8, _ => rfl
  | 9, _ => rfl
  | 10, _ => rfl
  | 11, _ => rfl
  | 12, _ => rfl
  | j + 13, hj => absurd hj (by omega)
theorem dX0_init_0 : decode cX0_init 0 = .ok (.aload_n 0, 1) := by decide +kernel
theorem dX0_init_1 : decode cX0_init 1 = .ok (.invokespecial 3, 3) := by decide +kernel
theorem dX0_init_4 : decode cX0_init 4 = .ok (.aload_n 0, 1) := by decide +kernel
theorem dX0_init_5 : decode cX0_init 5 = .ok (.iconst 3, 1) := by decide +kernel
theorem dX0_init_6 : decode cX0_init 6 = .ok (.newarray .int, 2) := by decide +kernel
theorem dX0_init_8 : decode cX0_init 8 = .ok (.putfield 9, 3) := by decide +kernel
theorem dX0_init_11 : decode cX0_init 11 = .ok (.aload_n 0, 1) := by decide +kernel
theorem dX0_init_12 : decode cX0_init 12 = .ok (.iconst 3, 1) := by decide +kernel
theorem dX0_init_13 : decode cX0_init 13 = .ok (.newarray .int, 2) := by decide +kernel
theorem dX0_init_15 : decode cX0_init 15 = .ok (.putfield 15, 3) := by decide +kernel
theorem dX0_init_18 : decode cX0_init 18 = .ok (.aload_n 0, 1) := by decide +kernel
theorem dX0_init_19 : decode cX0_init 19 = .ok (.iconst 3, 1) := by decide +kernel
theorem dX0_init_20 : decode cX0_init 20 = .ok (.newarray .int, 2) := by decide +kernel
theorem dX0_init_22 : decode cX0_init 22 = .ok (.putfield 18, 3) := by decide +kernel
theorem dX0_init_25 : decode cX0_init 25 = .ok (.aload_n 0, 1) := by decide +kernel
theorem dX0_init_26 : decode cX0_init 26 = .ok (.iconst 3, 1) := by decide +kernel
theorem dX0_init_27 : decode cX0_init 27 = .ok (.newarray .int, 2) := by decide +kernel
theorem dX0_init_29 : decode cX0_init 29 = .ok (.putfield 21, 3) := by decide +kernel
theorem dX0_init_32 : decode cX0_init 32 = .ok (.aload_n 0, 1) := by decide +kernel
theorem dX0_init_33 : decode cX0_init 33 = .ok (.iconst 4, 1) := by decide +kernel
theorem dX0_init_34 : decode cX0_init 34 = .ok (.bipush 8, 2) := by decide +kernel
theorem dX0_init_36 : decode cX0_init 36 = .ok (.multianewarray 24 2, 4) := by decide +kernel
theorem dX0_init_40 : decode cX0_init 40 = .ok (.putfield 26, 3) := by decide +kernel
theorem dX0_init_43 : decode cX0_init 43 = .ok (.aload_n 0, 1) := by decide +kernel
theorem dX0_init_44 : decode cX0_init 44 = .ok (.iconst 4, 1) := by decide +kernel
theorem dX0_init_45 : decode cX0_init 45 = .ok (.bipush 8, 2) := by decide +kernel
theorem dX0_init_47 : decode cX0_init 47 = .ok (.multianewarray 24 2, 4) := by decide +kernel
theorem dX0_init_51 : decode cX0_init 51 = .ok (.putfield 29, 3) := by decide +kernel
theorem dX0_init_54 : decode cX0_init 54 = .ok (.aload_n 0, 1) := by decide +kernel
theorem dX0_init_55 : decode cX0_init 55 = .ok (.iconst 4, 1) := by decide +kernel
theorem dX0_init_56 : decode cX0_init 56 = .ok (.bipush 8, 2) := by decide +kernel
theorem dX0_init_58 : decode cX0_init 58 = .ok (.multianewarray 24 2, 4) := by decide +kernel
theorem dX0_init_62 : decode cX0_init 62 = .ok (.putfield 32, 3) := by decide +kernel
theorem dX0_init_65 : decode cX0_init 65 = .ok (.aload_n 0, 1) := by decide +kernel
theorem dX0_init_66 : decode cX0_init 66 = .ok (.bipush 10, 2) := by decide +kernel
theorem dX0_init_68 : decode cX0_init 68 = .ok (.newarray .int, 2) := by decide +kernel
theorem dX0_init_70 : decode cX0_init 70 = .ok (.putfield 35, 3) := by decide +kernel
theorem dX0_init_73 : decode cX0_init 73 = .ok (.aload_n 0, 1) := by decide +kernel
theorem dX0_init_74 : decode cX0_init 74 = .ok (.bipush 10, 2) := by decide +kernel
theorem dX0_init_76 : decode cX0_init 76 = .ok (.newarray .int, 2) := by decide +kernel
theorem dX0_init_78 : decode cX0_init 78 = .ok (.putfield 38, 3) := by decide +kernel
theorem dX0_init_81 : decode cX0_init 81 = .ok (.aload_n 0, 1) := by decide +kernel
theorem dX0_init_82 : decode cX0_init 82 = .ok (.aload_n 1, 1) := by decide +kernel
theorem dX0_init_83 : decode cX0_init 83 = .ok (.putfield 41, 3) := by decide +kernel
theorem dX0_init_86 : decode cX0_init 86 = .ok (.return_, 1) := by decide +kernel


def K_Bests (ι : Nat → ClassId) (p1 : Nat) (b : Nat → Nat) : va_W := [(b 0, .inr (0, [.ref p1, .ref (b 21), .ref (b 20), .ref (b 19), .ref (b 18), .int 0, .ref (b 13), .ref (b 8), .ref (b 3), .ref (b 2), .ref (b 1), .int 0, .int 0]))] ++ ([(b 1, .inl (ι 0, 10, .inl fun _ => 0))] ++ ([(b 2, .inl (ι 0, 10, .inl fun _ => 0))] ++ ([(b 3, .inl (ι 4, 4, .inr (.inr (.inr (.inr (fun j => ([some (b 4), some (b 5), some (b 6), some (b 7)] : List (Option Nat)).getD j none)))))), (b 4, .inl (ι 0, 8, .inl fun _ => 0)), (b 5, .inl (ι 0, 8, .inl fun _ => 0)), (b 6, .inl (ι 0, 8, .inl fun _ => 0)), (b 7, .inl (ι 0, 8, .inl fun _ => 0))] ++ ([(b 8, .inl (ι 4, 4, .inr (.inr (.inr (.inr (fun j => ([some (b 9), some (b 10), some (b 11), some (b 12)] : List (Option Nat)).getD j none)))))), (b 9, .inl (ι 0, 8, .inl fun _ => 0)), (b 10, .inl (ι 0, 8, .inl fun _ => 0)), (b 11, .inl (ι 0, 8, .inl fun _ => 0)), (b 12, .inl (ι 0, 8, .inl fun _ => 0))] ++ ([(b 13, .inl (ι 4, 4, .inr (.inr (.inr (.inr (fun j => ([some (b 14), some (b 15), some (b 16), some (b 17)] : List (Option Nat)).getD j none)))))), (b 14, .inl (ι 0, 8, .inl fun _ => 0)), (b 15, .inl (ι 0, 8, .inl fun _ => 0)), (b 16, .inl (ι 0, 8, .inl fun _ => 0)), (b 17, .inl (ι 0, 8, .inl fun _ => 0))] ++ ([(b 18, .inl (ι 0, 3, .inl fun _ => 0))] ++ ([(b 19, .inl (ι 0, 3, .inl fun _ => 0))] ++ ([(b 20, .inl (ι 0, 3, .inl fun _ => 0))] ++ ([(b 21, .inl (ι 0, 3, .inl fun _ => 0))])))))))))
set_option maxRecDepth 40000 in
set_option maxHeartbeats 4000000 in
theorem k_Bests (l : Launch) (D : va_G) {cl : List vw_C} {tys : List (ClassId × FieldType)} {ι : Nat → ClassId} (hx : gx_std vwCl (gty ι) cl tys) (h0 : Nat) (p1 : Nat) : gx_mK l D cl tys yX0_init (.code yX0_init cX0_init 2 none :: gx_U) (gx_rmc 1 21 140) [.ref h0, .ref p1] [(h0, .inr (0, [.null, .null, .null, .null, .null, .int 0, .null, .null, .null, .null, .null, .int 0, .int 0]))] (K_Bests ι p1) h0 21 140 := by
  refine gx_startK (V := [.ref h0, .ref p1]) 0 (by decide +kernel) rfl (Nat.le_of_ble_eq_true rfl) rfl (fun Γ hl hD hcl hty hnL C F M hin => ?_)
  subst hl; subst hD; subst hcl; subst hty
  refine gx_world (ws' := [(h0, .inr (0, [.null, .null, .null, .null, .null, .int 0, .null, .null, .null, .null, .null, .int 0, .int 0]))] ++ ([] : va_W)) rfl ?_
  refine gx_aload_0 C dX0_init_0 rfl ?_
  refine gn_obj C (gx_mu (gx_t_1 (List.mem_of_getElem? (i := 142) rfl)) rfl) vn_obj vc_obj (by decide) (Nat.le_of_ble_eq_true rfl) dX0_init_1 ?_
  refine gx_aload_0 C dX0_init_4 rfl ?_
  refine gx_iconst3 C dX0_init_5 ?_
  refine gn_newaP (k := 0) (n := 0) (z := 3) (P := [(h0, .inr (0, [.null, .null, .null, .null, .null, .int 0, .null, .null, .null, .null, .null, .int 0, .int 0]))]) (rest := ([] : va_W)) (t0 := 0) (c0 := ι 0) (N := 3) (ty := .int) C M (gx_mu (gx_t_1 (List.mem_of_getElem? (i := 108) rfl)) rfl) rfl (by rw [hx.2]; rfl) (fun _ => rfl) (by decide) (by decide) (by decide) (by decide) (by decide) dX0_init_6 (fun q1 w2 hw2 => ?_)
  refine gn_putF (q0 := 0) C hin fl_X0_9 (cls_X0 hx) rfl rfl rfl rfl rfl (Nat.le_of_ble_eq_true rfl) dX0_init_8 (ws1 := [(h0, .inr (0, [.null, .ref q1, .null, .null, .null, .int 0, .null, .null, .null, .null, .null, .int 0, .int 0]))] ++ w2) rfl ?_
  refine gx_aload_0 C dX0_init_11 rfl ?_
  refine gx_iconst3 C dX0_init_12 ?_
  refine gn_newaP (k := 1) (n := 3) (z := 3) (P := [(h0, .inr (0, [.null, .ref q1, .null, .null, .null, .int 0, .null, .null, .null, .null, .null, .int 0, .int 0]))]) (rest := w2) (t0 := 0) (c0 := ι 0) (N := 3) (ty := .int) C M (gx_mu (gx_t_1 (List.mem_of_getElem? (i := 108) rfl)) rfl) rfl (by rw [hx.2]; rfl) (fun _ => rfl) (by decide) (by decide) (by decide) (by decide) (by decide) dX0_init_13 (fun q3 w4 hw4 => ?_)
  refine gn_putF (q0 := 0) C hin fl_X0_15 (cls_X0 hx) rfl rfl rfl rfl rfl (Nat.le_of_ble_eq_true rfl) dX0_init_15 (ws1 := [(h0, .inr (0, [.null, .ref q1, .ref q3, .null, .null, .int 0, .null, .null, .null, .null, .null, .int 0, .int 0]))] ++ w4) rfl ?_
  refine gx_aload_0 C dX0_init_18 rfl ?_
  refine gx_iconst3 C dX0_init_19 ?_
  refine gn_newaP (k := 2) (n := 6) (z := 3) (P := [(h0, .inr (0, [.null, .ref q1, .ref q3, .null, .null, .int 0, .null, .null, .null, .null, .null, .int 0, .int 0]))]) (rest := w4) (t0 := 0) (c0 := ι 0) (N := 3) (ty := .int) C M (gx_mu (gx_t_1 (List.mem_of_getElem? (i := 108) rfl)) rfl) rfl (by rw [hx.2]; rfl) (fun _ => rfl) (by decide) (by decide) (by decide) (by decide) (by decide) dX0_init_20 (fun q5 w6 hw6 => ?_)
  refine gn_putF (q0 := 0) C hin fl_X0_18 (cls_X0 hx) rfl rfl rfl rfl rfl (Nat.le_of_ble_eq_true rfl) dX0_init_22 (ws1 := [(h0, .inr (0, [.null, .ref q1, .ref q3, .ref q5, .null, .int 0, .null, .null, .null, .null, .null, .int 0, .int 0]))] ++ w6) rfl ?_
  refine gx_aload_0 C dX0_init_25 rfl ?_
  refine gx_iconst3 C dX0_init_26 ?_
  refine gn_newaP (k := 3) (n := 9) (z := 3) (P := [(h0, .inr (0, [.null, .ref q1, .ref q3, .ref q5, .null, .int 0, .null, .null, .null, .null, .null, .int 0, .int 0]))]) (rest := w6) (t0 := 0) (c0 := ι 0) (N := 3) (ty := .int) C M (gx_mu (gx_t_1 (List.mem_of_getElem? (i := 108) rfl)) rfl) rfl (by rw [hx.2]; rfl) (fun _ => rfl) (by decide) (by decide) (by decide) (by decide) (by decide) dX0_init_27 (fun q7 w8 hw8 => ?_)
  refine gn_putF (q0 := 0) C hin fl_X0_21 (cls_X0 hx) rfl rfl rfl rfl rfl (Nat.le_of_ble_eq_true rfl) dX0_init_29 (ws1 := [(h0, .inr (0, [.null, .ref q1, .ref q3, .ref q5, .ref q7, .int 0, .null, .null, .null, .null, .null, .int 0, .int 0]))] ++ w8) rfl ?_
  refine gx_aload_0 C dX0_init_32 rfl ?_
  refine gx_iconst4 C dX0_init_33 ?_
  refine gx_bipush (v := 8) C dX0_init_34 (by decide) ?_
  refine gn_mnaP (k := 4) (n := 12) (z := 4) (y := 8) (P := [(h0, .inr (0, [.null, .ref q1, .ref q3, .ref q5, .ref q7, .int 0, .null, .null, .null, .null, .null, .int 0, .int 0]))]) (rest := w8) (t0 := 4) (t1 := 0) (c0 := ι 4) (c1 := ι 0) (N := 4) (K := 8) C M (gx_mu (gx_t_1 (List.mem_of_getElem? (i := 143) rfl)) rfl) M.2.2.2.1 (gx_mu (gx_t_1 (List.mem_of_getElem? (i := 108) rfl)) rfl) (by rw [hx.2]; rfl) (by rw [hx.2]; rfl) (by decide) (by decide) (by decide) (by decide) (by decide) (by decide) (by decide) (by decide) dX0_init_36 (k2 := 9) (n2 := 48) rfl rfl (fun q9 r10 w11 hw11 => ?_)
  refine gn_putF (q0 := 0) C hin fl_X0_26 (cls_X0 hx) rfl rfl rfl rfl rfl (Nat.le_of_ble_eq_true rfl) dX0_init_40 (ws1 := [(h0, .inr (0, [.null, .ref q1, .ref q3, .ref q5, .ref q7, .int 0, .ref q9, .null, .null, .null, .null, .int 0, .int 0]))] ++ w11) rfl ?_
  refine gx_aload_0 C dX0_init_43 rfl ?_
  refine gx_iconst4 C dX0_init_44 ?_
  refine gx_bipush (v := 8) C dX0_init_45 (by decide) ?_
  refine gn_mnaP (k := 9) (n := 48) (z := 4) (y := 8) (P := [(h0, .inr (0, [.null, .ref q1, .ref q3, .ref q5, .ref q7, .int 0, .ref q9, .null, .null, .null, .null, .int 0, .int 0]))]) (rest := w11) (t0 := 4) (t1 := 0) (c0 := ι 4) (c1 := ι 0) (N := 4) (K := 8) C M (gx_mu (gx_t_1 (List.mem_of_getElem? (i := 143) rfl)) rfl) M.2.2.2.1 (gx_mu (gx_t_1 (List.mem_of_getElem? (i := 108) rfl)) rfl) (by rw [hx.2]; rfl) (by rw [hx.2]; rfl) (by decide) (by decide) (by decide) (by decide) (by decide) (by decide) (by decide) (by decide) dX0_init_47 (k2 := 14) (n2 := 84) rfl rfl (fun q12 r13 w14 hw14 => ?_)
  refine gn_putF (q0 := 0) C hin fl_X0_29 (cls_X0 hx) rfl rfl rfl rfl rfl (Nat.le_of_ble_eq_true rfl) dX0_init_51 (ws1 := [(h0, .inr (0, [.null, .ref q1, .ref q3, .ref q5, .ref q7, .int 0, .ref q9, .ref q12, .null, .null, .null, .int 0, .int 0]))] ++ w14) rfl ?_
  refine gx_aload_0 C dX0_init_54 rfl ?_
  refine gx_iconst4 C dX0_init_55 ?_
  refine gx_bipush (v := 8) C dX0_init_56 (by decide) ?_
  refine gn_mnaP (k := 14) (n := 84) (z := 4) (y := 8) (P := [(h0, .inr (0, [.null, .ref q1, .ref q3, .ref q5, .ref q7, .int 0, .ref q9, .ref q12, .null, .null, .null, .int 0, .int 0]))]) (rest := w14) (t0 := 4) (t1 := 0) (c0 := ι 4) (c1 := ι 0) (N := 4) (K := 8) C M (gx_mu (gx_t_1 (List.mem_of_getElem? (i := 143) rfl)) rfl) M.2.2.2.1 (gx_mu (gx_t_1 (List.mem_of_getElem? (i := 108) rfl)) rfl) (by rw [hx.2]; rfl) (by rw [hx.2]; rfl) (by decide) (by decide) (by decide) (by decide) (by decide) (by decide) (by decide) (by decide) dX0_init_58 (k2 := 19) (n2 := 120) rfl rfl (fun q15 r16 w17 hw17 => ?_)
  refine gn_putF (q0 := 0) C hin fl_X0_32 (cls_X0 hx) rfl rfl rfl rfl rfl (Nat.le_of_ble_eq_true rfl) dX0_init_62 (ws1 := [(h0, .inr (0, [.null, .ref q1, .ref q3, .ref q5, .ref q7, .int 0, .ref q9, .ref q12, .ref q15, .null, .null, .int 0, .int 0]))] ++ w17) rfl ?_
  refine gx_aload_0 C dX0_init_65 rfl ?_
  refine gx_bipush (v := 10) C dX0_init_66 (by decide) ?_
  refine gn_newaP (k := 19) (n := 120) (z := 10) (P := [(h0, .inr (0, [.null, .ref q1, .ref q3, .ref q5, .ref q7, .int 0, .ref q9, .ref q12, .ref q15, .null, .null, .int 0, .int 0]))]) (rest := w17) (t0 := 0) (c0 := ι 0) (N := 10) (ty := .int) C M (gx_mu (gx_t_1 (List.mem_of_getElem? (i := 108) rfl)) rfl) rfl (by rw [hx.2]; rfl) (fun _ => rfl) (by decide) (by decide) (by decide) (by decide) (by decide) dX0_init_68 (fun q18 w19 hw19 => ?_)
  refine gn_putF (q0 := 0) C hin fl_X0_35 (cls_X0 hx) rfl rfl rfl rfl rfl (Nat.le_of_ble_eq_true rfl) dX0_init_70 (ws1 := [(h0, .inr (0, [.null, .ref q1, .ref q3, .ref q5, .ref q7, .int 0, .ref q9, .ref q12, .ref q15, .ref q18, .null, .int 0, .int 0]))] ++ w19) rfl ?_
  refine gx_aload_0 C dX0_init_73 rfl ?_
  refine gx_bipush (v := 10) C dX0_init_74 (by decide) ?_
  refine gn_newaP (k := 20) (n := 130) (z := 10) (P := [(h0, .inr (0, [.null, .ref q1, .ref q3, .ref q5, .ref q7, .int 0, .ref q9, .ref q12, .ref q15, .ref q18, .null, .int 0, .int 0]))]) (rest := w19) (t0 := 0) (c0 := ι 0) (N := 10) (ty := .int) C M (gx_mu (gx_t_1 (List.mem_of_getElem? (i := 108) rfl)) rfl) rfl (by rw [hx.2]; rfl) (fun _ => rfl) (by decide) (by decide) (by decide) (by decide) (by decide) dX0_init_76 (fun q20 w21 hw21 => ?_)
  refine gn_putF (q0 := 0) C hin fl_X0_38 (cls_X0 hx) rfl rfl rfl rfl rfl (Nat.le_of_ble_eq_true rfl) dX0_init_78 (ws1 := [(h0, .inr (0, [.null, .ref q1, .ref q3, .ref q5, .ref q7, .int 0, .ref q9, .ref q12, .ref q15, .ref q18, .ref q20, .int 0, .int 0]))] ++ w21) rfl ?_
  refine gx_aload_0 C dX0_init_81 rfl ?_
  refine gx_aload_1 C dX0_init_82 rfl ?_
  refine gn_putF (q0 := 0) C hin fl_X0_41 (cls_X0 hx) rfl rfl rfl rfl rfl (Nat.le_of_ble_eq_true rfl) dX0_init_83 (ws1 := [(h0, .inr (0, [.ref p1, .ref q1, .ref q3, .ref q5, .ref q7, .int 0, .ref q9, .ref q12, .ref q15, .ref q18, .ref q20, .int 0, .int 0]))] ++ w21) rfl ?_
  subst hw21
  subst hw19
  subst hw17
  subst hw14
  subst hw11
  subst hw8
  subst hw6
  subst hw4
  subst hw2
  refine gx_world (ws' := K_Bests ι p1 (fun k => ([h0, q20, q18, q15, r16 0, r16 1, r16 2, r16 3, q12, r13 0, r13 1, r13 2, r13 3, q9, r10 0, r10 1, r10 2, r10 3, q7, q5, q3, q1] : List Nat).getD k 0)) rfl ?_
  exact gn_vret (Wb := K_Bests ι p1) (fun k => ([h0, q20, q18, q15, r16 0, r16 1, r16 2, r16 3, q12, r13 0, r13 1, r13 2, r13 3, q9, r10 0, r10 1, r10 2, r10 3, q7, q5, q3, q1] : List Nat).getD k 0) C F dX0_init_86 rfl
theorem vi_X2 : Cond.initialized RX2 ∈ gx_U := gx_mu (gx_t_1 (List.mem_of_getElem? (i := 5) rfl)) rfl
theorem vn_X2_init : Cond.instanceMethod yX2_init ∈ gx_U := gx_mu (gx_t_1 (List.mem_of_getElem? (i := 189) rfl)) rfl
theorem vc_X2_init : Cond.code yX2_init cX2_init 3 none ∈ gx_U := gx_mu (gx_t_1 (List.mem_of_getElem? (i := 190) rfl)) rfl
theorem df_X2 : ∀ j, j < 5 → defaultValue (tyX2 j) = vp_V [.null, .null, .null, .null, .null] j := fun j hj => match j, hj with
  | 0, _ => rfl
  | 1, _ => rfl
  | 2, _ => rfl
  | 3, _ => rfl
  | 4, _ => rfl
  | j + 5, hj => absurd hj (by omega)
theorem dX2_init_0 : decode cX2_init 0 = .ok (.aload_n 0, 1) := by decide +kernel
theorem dX2_init_1 : decode cX2_init 1 = .ok (.invokespecial 3, 3) := by decide +kernel
theorem dX2_init_4 : decode cX2_init 4 = .ok (.aload_n 0, 1) := by decide +kernel
theorem dX2_init_5 : decode cX2_init 5 = .ok (.bipush 8, 2) := by decide +kernel
theorem dX2_init_7 : decode cX2_init 7 = .ok (.newarray .int, 2) := by decide +kernel
theorem dX2_init_9 : decode cX2_init 9 = .ok (.putfield 9, 3) := by decide +kernel
theorem dX2_init_12 : decode cX2_init 12 = .ok (.aload_n 0, 1) := by decide +kernel
theorem dX2_init_13 : decode cX2_init 13 = .ok (.aload_n 1, 1) := by decide +kernel
theorem dX2_init_14 : decode cX2_init 14 = .ok (.putfield 15, 3) := by decide +kernel
theorem dX2_init_17 : decode cX2_init 17 = .ok (.aload_n 0, 1) := by decide +kernel
theorem dX2_init_18 : decode cX2_init 18 = .ok (.aload_n 2, 1) := by decide +kernel
theorem dX2_init_19 : decode cX2_init 19 = .ok (.putfield 19, 3) := by decide +kernel
theorem dX2_init_22 : decode cX2_init 22 = .ok (.aload_n 0, 1) := by decide +kernel
theorem dX2_init_23 : decode cX2_init 23 = .ok (.new 23, 3) := by decide +kernel
theorem dX2_init_26 : decode cX2_init 26 = .ok (.dup, 1) := by decide +kernel
theorem dX2_init_27 : decode cX2_init 27 = .ok (.aload_n 1, 1) := by decide +kernel
theorem dX2_init_28 : decode cX2_init 28 = .ok (.invokespecial 25, 3) := by decide +kernel
theorem dX2_init_31 : decode cX2_init 31 = .ok (.putfield 28, 3) := by decide +kernel
theorem dX2_init_34 : decode cX2_init 34 = .ok (.aload_n 0, 1) := by decide +kernel
theorem dX2_init_35 : decode cX2_init 35 = .ok (.new 23, 3) := by decide +kernel
theorem dX2_init_38 : decode cX2_init 38 = .ok (.dup, 1) := by decide +kernel
theorem dX2_init_39 : decode cX2_init 39 = .ok (.aload_n 1, 1) := by decide +kernel
theorem dX2_init_40 : decode cX2_init 40 = .ok (.invokespecial 25, 3) := by decide +kernel
theorem dX2_init_43 : decode cX2_init 43 = .ok (.putfield 32, 3) := by decide +kernel
theorem dX2_init_46 : decode cX2_init 46 = .ok (.return_, 1) := by decide +kernel


def K_Joining (ι : Nat → ClassId) (p1 : Nat) (p2 : Nat) (b : Nat → Nat) : va_W := [(b 0, .inr (2, [.ref p1, .ref p2, .ref (b 5), .ref (b 1), .ref (b 9)]))] ++ (K_Standing ι p1 (fun k => b (k + 1)) ++ (K_Standing ι p1 (fun k => b (k + 5)) ++ ([(b 9, .inl (ι 0, 8, .inl fun _ => 0))])))
set_option maxRecDepth 40000 in
set_option maxHeartbeats 4000000 in
theorem k_Joining (l : Launch) (D : va_G) {cl : List vw_C} {tys : List (ClassId × FieldType)} {ι : Nat → ClassId} (hx : gx_std vwCl (gty ι) cl tys) (h0 : Nat) (p1 : Nat) (p2 : Nat) : gx_mK l D cl tys yX2_init (.code yX2_init cX2_init 3 none :: gx_U) (gx_rmc 2 9 52) [.ref h0, .ref p1, .ref p2] [(h0, .inr (2, [.null, .null, .null, .null, .null]))] (K_Joining ι p1 p2) h0 9 52 := by
  refine gx_startK (V := [.ref h0, .ref p1, .ref p2]) 0 (by decide +kernel) rfl (Nat.le_of_ble_eq_true rfl) rfl (fun Γ hl hD hcl hty hnL C F M hin => ?_)
  subst hl; subst hD; subst hcl; subst hty
  refine gx_world (ws' := [(h0, .inr (2, [.null, .null, .null, .null, .null]))] ++ ([] : va_W)) rfl ?_
  refine gx_aload_0 C dX2_init_0 rfl ?_
  refine gn_obj C (gx_mu (gx_t_1 (List.mem_of_getElem? (i := 191) rfl)) rfl) vn_obj vc_obj (by decide) (Nat.le_of_ble_eq_true rfl) dX2_init_1 ?_
  refine gx_aload_0 C dX2_init_4 rfl ?_
  refine gx_bipush (v := 8) C dX2_init_5 (by decide) ?_
  refine gn_newaP (k := 0) (n := 0) (z := 8) (P := [(h0, .inr (2, [.null, .null, .null, .null, .null]))]) (rest := ([] : va_W)) (t0 := 0) (c0 := ι 0) (N := 8) (ty := .int) C M (gx_mu (gx_t_1 (List.mem_of_getElem? (i := 108) rfl)) rfl) rfl (by rw [hx.2]; rfl) (fun _ => rfl) (by decide) (by decide) (by decide) (by decide) (by decide) dX2_init_7 (fun q1 w2 hw2 => ?_)
  refine gn_putF (q0 := 0) C hin fl_X2_9 (cls_X2 hx) rfl rfl rfl rfl rfl (Nat.le_of_ble_eq_true rfl) dX2_init_9 (ws1 := [(h0, .inr (2, [.null, .null, .null, .null, .ref q1]))] ++ w2) rfl ?_
  refine gx_aload_0 C dX2_init_12 rfl ?_
  refine gx_aload_1 C dX2_init_13 rfl ?_
  refine gn_putF (q0 := 0) C hin fl_X2_15 (cls_X2 hx) rfl rfl rfl rfl rfl (Nat.le_of_ble_eq_true rfl) dX2_init_14 (ws1 := [(h0, .inr (2, [.ref p1, .null, .null, .null, .ref q1]))] ++ w2) rfl ?_
  refine gx_aload_0 C dX2_init_17 rfl ?_
  refine gx_aload_2 C dX2_init_18 rfl ?_
  refine gn_putF (q0 := 0) C hin fl_X2_19 (cls_X2 hx) rfl rfl rfl rfl rfl (Nat.le_of_ble_eq_true rfl) dX2_init_19 (ws1 := [(h0, .inr (2, [.ref p1, .ref p2, .null, .null, .ref q1]))] ++ w2) rfl ?_
  refine gx_aload_0 C dX2_init_22 rfl ?_
  refine gn_newP (k := 1) (n := 8) (P := [(h0, .inr (2, [.ref p1, .ref p2, .null, .null, .ref q1]))]) (rest := w2) C M iu_X4 (cls_X4 hx) (gx_mu (gx_t_1 (List.mem_of_getElem? (i := 192) rfl)) rfl) (gx_mu (gx_t_1 (List.mem_of_getElem? (i := 110) rfl)) rfl) vi_X4 df_X4 (by decide) (by decide) dX2_init_23 (fun q3 w4 hw4 => ?_)
  refine gx_dup C dX2_init_26 rfl ?_
  refine gx_aload_1 C dX2_init_27 rfl ?_
  refine gn_ctorP (P := [(h0, .inr (2, [.ref p1, .ref p2, .null, .null, .ref q1]))]) (rest := w2) (na := 1) C M (k_Standing (gx_l Γ) (gx_D Γ) hx q3 p1) gx_uu (gx_mu (gx_t_1 (List.mem_of_getElem? (i := 193) rfl)) rfl) vn_X4_init vi_X4 vc_X4_init rfl ⟨by decide +kernel, by decide +kernel, by decide +kernel⟩ (by decide) (by decide) rfl rfl (Nat.le_of_ble_eq_true rfl) (by decide) (by decide) dX2_init_28 hw4 (k2 := 5) (n2 := 30) rfl rfl (fun z5 w6 hz hw6 => ?_)
  clear hw4
  subst hz
  refine gn_putF (q0 := 0) C hin fl_X2_28 (cls_X2 hx) rfl rfl rfl rfl rfl (Nat.le_of_ble_eq_true rfl) dX2_init_31 (ws1 := [(h0, .inr (2, [.ref p1, .ref p2, .ref (z5 0), .null, .ref q1]))] ++ w6) rfl ?_
  refine gx_aload_0 C dX2_init_34 rfl ?_
  refine gn_newP (k := 5) (n := 30) (P := [(h0, .inr (2, [.ref p1, .ref p2, .ref (z5 0), .null, .ref q1]))]) (rest := w6) C M iu_X4 (cls_X4 hx) (gx_mu (gx_t_1 (List.mem_of_getElem? (i := 192) rfl)) rfl) (gx_mu (gx_t_1 (List.mem_of_getElem? (i := 110) rfl)) rfl) vi_X4 df_X4 (by decide) (by decide) dX2_init_35 (fun q7 w8 hw8 => ?_)
  refine gx_dup C dX2_init_38 rfl ?_
  refine gx_aload_1 C dX2_init_39 rfl ?_
  refine gn_ctorP (P := [(h0, .inr (2, [.ref p1, .ref p2, .ref (z5 0), .null, .ref q1]))]) (rest := w6) (na := 1) C M (k_Standing (gx_l Γ) (gx_D Γ) hx q7 p1) gx_uu (gx_mu (gx_t_1 (List.mem_of_getElem? (i := 193) rfl)) rfl) vn_X4_init vi_X4 vc_X4_init rfl ⟨by decide +kernel, by decide +kernel, by decide +kernel⟩ (by decide) (by decide) rfl rfl (Nat.le_of_ble_eq_true rfl) (by decide) (by decide) dX2_init_40 hw8 (k2 := 9) (n2 := 52) rfl rfl (fun z9 w10 hz hw10 => ?_)
  clear hw8
  subst hz
  refine gn_putF (q0 := 0) C hin fl_X2_32 (cls_X2 hx) rfl rfl rfl rfl rfl (Nat.le_of_ble_eq_true rfl) dX2_init_43 (ws1 := [(h0, .inr (2, [.ref p1, .ref p2, .ref (z5 0), .ref (z9 0), .ref q1]))] ++ w10) rfl ?_
  subst hw10
  subst hw6
  subst hw2
  refine gx_world (ws' := K_Joining ι p1 p2 (fun k => ([h0, z9 0, z9 1, z9 2, z9 3, z5 0, z5 1, z5 2, z5 3, q1] : List Nat).getD k 0)) rfl ?_
  exact gn_vret (Wb := K_Joining ι p1 p2) (fun k => ([h0, z9 0, z9 1, z9 2, z9 3, z5 0, z5 1, z5 2, z5 3, q1] : List Nat).getD k 0) C F dX2_init_46 rfl
theorem vi_X6 : Cond.initialized RX6 ∈ gx_U := gx_mu (gx_t_1 (List.mem_of_getElem? (i := 6) rfl)) rfl
theorem vn_X6_init : Cond.instanceMethod yX6_init ∈ gx_U := gx_mu (gx_t_1 (List.mem_of_getElem? (i := 213) rfl)) rfl
theorem vc_X6_init : Cond.code yX6_init cX6_init 1 none ∈ gx_U := gx_mu (gx_t_1 (List.mem_of_getElem? (i := 214) rfl)) rfl
theorem df_X6 : ∀ j, j < 2 → defaultValue (tyX6 j) = vp_V [.null, .int 0] j := fun j hj => match j, hj with
  | 0, _ => rfl
  | 1, _ => rfl
  | j + 2, hj => absurd hj (by omega)
theorem dX6_init_0 : decode cX6_init 0 = .ok (.aload_n 0, 1) := by decide +kernel
theorem dX6_init_1 : decode cX6_init 1 = .ok (.invokespecial 3, 3) := by decide +kernel
theorem dX6_init_4 : decode cX6_init 4 = .ok (.aload_n 0, 1) := by decide +kernel
theorem dX6_init_5 : decode cX6_init 5 = .ok (.bipush 50, 2) := by decide +kernel
theorem dX6_init_7 : decode cX6_init 7 = .ok (.newarray .char, 2) := by decide +kernel
theorem dX6_init_9 : decode cX6_init 9 = .ok (.putfield 9, 3) := by decide +kernel
theorem dX6_init_12 : decode cX6_init 12 = .ok (.return_, 1) := by decide +kernel


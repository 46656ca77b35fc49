def K_Grammar (ι : Nat → ClassId) (b : Nat → Nat) : va_W := [(b 0, .inr (1, [.int 0, .int 0, .int 0]))]
set_option maxRecDepth 40000 in
set_option maxHeartbeats 4000000 in
theorem k_Grammar (l : Launch) (D : va_G) {cl : List vw_C} {tys : List (ClassId × FieldType)} {ι : Nat → ClassId} (hx : gx_std vwCl (gty ι) cl tys) (h0 : Nat) : gx_mK l D cl tys yX1_init (.code yX1_init cX1_init 1 none :: gx_U) (gx_rmc 1 0 0) [.ref h0] [(h0, .inr (1, [.int 0, .int 0, .int 0]))] (K_Grammar ι) h0 0 0 := by
  refine gx_startK (V := [.ref h0]) 0 (by decide +kernel) rfl (Nat.le_of_ble_eq_true rfl) rfl (fun Γ hl hD hcl hty hnL C F M hin => ?_)
  subst hl; subst hD; subst hcl; subst hty
  refine gx_world (ws' := [(h0, .inr (1, [.int 0, .int 0, .int 0]))] ++ ([] : va_W)) rfl ?_
  refine gx_aload_0 C dX1_init_0 rfl ?_
  refine gn_obj C (gx_mu (gx_t_1 (List.mem_of_getElem? (i := 234) rfl)) rfl) vn_obj vc_obj (by decide) (Nat.le_of_ble_eq_true rfl) dX1_init_1 ?_
  refine gx_world (ws' := K_Grammar ι (fun k => ([h0] : List Nat).getD k 0)) rfl ?_
  exact gn_vret (Wb := K_Grammar ι) (fun k => ([h0] : List Nat).getD k 0) C F dX1_init_4 rfl
theorem vi_X3 : Cond.initialized RX3 ∈ gx_U := gx_mu (gx_t_1 (List.mem_of_getElem? (i := 8) rfl)) rfl
theorem vn_X3_init : Cond.instanceMethod yX3_init ∈ gx_U := gx_mu (gx_t_2 (List.mem_of_getElem? (i := 8) rfl)) rfl
theorem vc_X3_init : Cond.code yX3_init cX3_init 2 none ∈ gx_U := gx_mu (gx_t_2 (List.mem_of_getElem? (i := 9) rfl)) rfl
theorem df_X3 : ∀ j, j < 10 → defaultValue (tyX3 j) = vp_V [.null, .null, .null, .null, .null, .int 0, .int 0, .int 0, .int 0, .int 0] j := fun j hj => match j, hj with
  | 0, _ => rfl
  | 1, _ => rfl
  | 2, _ => rfl
  | 3, _ => rfl
  | 4, _ => rfl
  | 5, _ => rfl
  | 6, _ => rfl
  | 7, _ => rfl
  | 8, _ => rfl
  | 9, _ => rfl
  | j + 10, hj => absurd hj (by omega)
theorem dX3_init_0 : decode cX3_init 0 = .ok (.aload_n 0, 1) := by decide +kernel
theorem dX3_init_1 : decode cX3_init 1 = .ok (.invokespecial 3, 3) := by decide +kernel
theorem dX3_init_4 : decode cX3_init 4 = .ok (.aload_n 0, 1) := by decide +kernel
theorem dX3_init_5 : decode cX3_init 5 = .ok (.bipush 6, 2) := by decide +kernel
theorem dX3_init_7 : decode cX3_init 7 = .ok (.newarray .int, 2) := by decide +kernel
theorem dX3_init_9 : decode cX3_init 9 = .ok (.putfield 9, 3) := by decide +kernel
theorem dX3_init_12 : decode cX3_init 12 = .ok (.aload_n 0, 1) := by decide +kernel
theorem dX3_init_13 : decode cX3_init 13 = .ok (.bipush 51, 2) := by decide +kernel
theorem dX3_init_15 : decode cX3_init 15 = .ok (.newarray .boolean, 2) := by decide +kernel
theorem dX3_init_17 : decode cX3_init 17 = .ok (.putfield 15, 3) := by decide +kernel
theorem dX3_init_20 : decode cX3_init 20 = .ok (.aload_n 0, 1) := by decide +kernel
theorem dX3_init_21 : decode cX3_init 21 = .ok (.bipush 51, 2) := by decide +kernel
theorem dX3_init_23 : decode cX3_init 23 = .ok (.newarray .boolean, 2) := by decide +kernel
theorem dX3_init_25 : decode cX3_init 25 = .ok (.putfield 19, 3) := by decide +kernel
theorem dX3_init_28 : decode cX3_init 28 = .ok (.aload_n 0, 1) := by decide +kernel
theorem dX3_init_29 : decode cX3_init 29 = .ok (.bipush 51, 2) := by decide +kernel
theorem dX3_init_31 : decode cX3_init 31 = .ok (.newarray .boolean, 2) := by decide +kernel
theorem dX3_init_33 : decode cX3_init 33 = .ok (.putfield 22, 3) := by decide +kernel
theorem dX3_init_36 : decode cX3_init 36 = .ok (.aload_n 0, 1) := by decide +kernel
theorem dX3_init_37 : decode cX3_init 37 = .ok (.aload_n 1, 1) := by decide +kernel
theorem dX3_init_38 : decode cX3_init 38 = .ok (.putfield 25, 3) := by decide +kernel
theorem dX3_init_41 : decode cX3_init 41 = .ok (.return_, 1) := by decide +kernel


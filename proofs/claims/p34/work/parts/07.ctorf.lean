def K_Text (ι : Nat → ClassId) (b : Nat → Nat) : va_W := [(b 0, .inr (6, [.ref (b 1), .int 0]))] ++ ([(b 1, .inl (ι 2, 50, .inl fun _ => 0))])
set_option maxRecDepth 40000 in
set_option maxHeartbeats 4000000 in
theorem k_Text (l : Launch) (D : va_G) {cl : List vw_C} {tys : List (ClassId × FieldType)} {ι : Nat → ClassId} (hx : gx_std vwCl (gty ι) cl tys) (h0 : Nat) : gx_mK l D cl tys yX6_init (.code yX6_init cX6_init 1 none :: gx_U) (gx_rmc 1 1 50) [.ref h0] [(h0, .inr (6, [.null, .int 0]))] (K_Text ι) h0 1 50 := by
  refine gx_startK (V := [.ref h0]) 0 (by decide +kernel) rfl (Nat.le_of_ble_eq_true rfl) rfl (fun Γ hl hD hcl hty hnL C F M hin => ?_)
  subst hl; subst hD; subst hcl; subst hty
  refine gx_world (ws' := [(h0, .inr (6, [.null, .int 0]))] ++ ([] : va_W)) rfl ?_
  refine gx_aload_0 C dX6_init_0 rfl ?_
  refine gn_obj C (gx_mu (gx_t_1 (List.mem_of_getElem? (i := 215) rfl)) rfl) vn_obj vc_obj (by decide) (Nat.le_of_ble_eq_true rfl) dX6_init_1 ?_
  refine gx_aload_0 C dX6_init_4 rfl ?_
  refine gx_bipush (v := 50) C dX6_init_5 (by decide) ?_
  refine gn_newaP (k := 0) (n := 0) (z := 50) (P := [(h0, .inr (6, [.null, .int 0]))]) (rest := ([] : va_W)) (t0 := 2) (c0 := ι 2) (N := 50) (ty := .char) C M (gx_mu (gx_t_1 (List.mem_of_getElem? (i := 227) rfl)) rfl) rfl (by rw [hx.2]; rfl) (fun _ => rfl) (by decide) (by decide) (by decide) (by decide) (by decide) dX6_init_7 (fun q1 w2 hw2 => ?_)
  refine gn_putF (q0 := 0) C hin fl_X6_9 (cls_X6 hx) rfl rfl rfl rfl rfl (Nat.le_of_ble_eq_true rfl) dX6_init_9 (ws1 := [(h0, .inr (6, [.ref q1, .int 0]))] ++ w2) rfl ?_
  subst hw2
  refine gx_world (ws' := K_Text ι (fun k => ([h0, q1] : List Nat).getD k 0)) rfl ?_
  exact gn_vret (Wb := K_Text ι) (fun k => ([h0, q1] : List Nat).getD k 0) C F dX6_init_12 rfl
theorem vi_X1 : Cond.initialized RX1 ∈ gx_U := gx_mu (gx_t_1 (List.mem_of_getElem? (i := 7) rfl)) rfl
theorem vn_X1_init : Cond.instanceMethod yX1_init ∈ gx_U := gx_mu (gx_t_1 (List.mem_of_getElem? (i := 232) rfl)) rfl
theorem vc_X1_init : Cond.code yX1_init cX1_init 1 none ∈ gx_U := gx_mu (gx_t_1 (List.mem_of_getElem? (i := 233) rfl)) rfl
theorem df_X1 : ∀ j, j < 3 → defaultValue (tyX1 j) = vp_V [.int 0, .int 0, .int 0] j := fun j hj => match j, hj with
  | 0, _ => rfl
  | 1, _ => rfl
  | 2, _ => rfl
  | j + 3, hj => absurd hj (by omega)
theorem dX1_init_0 : decode cX1_init 0 = .ok (.aload_n 0, 1) := by decide +kernel
theorem dX1_init_1 : decode cX1_init 1 = .ok (.invokespecial 1, 3) := by decide +kernel
theorem dX1_init_4 : decode cX1_init 4 = .ok (.return_, 1) := by decide +kernel


set_option maxRecDepth 40000 in
set_option maxHeartbeats 4000000 in
theorem k_ShopsAsOne (l : Launch) (D : va_G) {cl : List vw_C} {tys : List (ClassId × FieldType)} {ι : Nat → ClassId} (hx : gx_std vwCl (gty ι) cl tys) (h0 : Nat) : gx_mK l D cl tys yX7_init (.code yX7_init cX7_init 2 none :: gx_U) (gx_rmc 3 81 854) [.ref h0] [(h0, .inr (7, [.null, .null, .null, .null, .null, .null, .null, .null, .null, .null, .int 0, .int 0, .int 0, .int 0, .int 0]))] (fun b => wX b ι (fun _ _ => 0)) h0 81 854 := by
  refine gx_startK (V := [.ref h0, .null]) 1 (by decide +kernel) rfl (Nat.le_of_ble_eq_true rfl) rfl (fun Γ hl hD hcl hty hnL C F M hin => ?_)
  subst hl; subst hD; subst hcl; subst hty
  refine gx_world (ws' := [(h0, .inr (7, [.null, .null, .null, .null, .null, .null, .null, .null, .null, .null, .int 0, .int 0, .int 0, .int 0, .int 0]))] ++ ([] : va_W)) rfl ?_
  refine gx_aload_0 C dX7_init_0 rfl ?_
  refine gn_obj C (gx_mu (gx_t_1 (List.mem_of_getElem? (i := 17) rfl)) rfl) vn_obj vc_obj (by decide) (Nat.le_of_ble_eq_true rfl) dX7_init_1 ?_
  refine gx_aload_0 C dX7_init_4 rfl ?_
  refine gn_newP (k := 0) (n := 0) (P := [(h0, .inr (7, [.null, .null, .null, .null, .null, .null, .null, .null, .null, .null, .int 0, .int 0, .int 0, .int 0, .int 0]))]) (rest := ([] : va_W)) C M iu_X5 (cls_X5 hx) (gx_mu (gx_t_1 (List.mem_of_getElem? (i := 20) rfl)) rfl) (gx_mu (gx_t_1 (List.mem_of_getElem? (i := 21) rfl)) rfl) vi_X5 df_X5 (by decide) (by decide) dX7_init_5 (fun q1 w2 hw2 => ?_)
  refine gx_dup C dX7_init_8 rfl ?_
  refine gn_ctorNP (P := [(h0, .inr (7, [.null, .null, .null, .null, .null, .null, .null, .null, .null, .null, .int 0, .int 0, .int 0, .int 0, .int 0]))]) (rest := ([] : va_W)) (na := 0) C M (k_Street (gx_l Γ) (gx_D Γ) hx q1) gx_uu (fun hX => gx_xt_X7_9 hX) vn_X5_init vi_X5 vc_X5_init rfl ⟨by decide +kernel, by decide +kernel, by decide +kernel⟩ (by decide) (by decide) rfl rfl (Nat.le_of_ble_eq_true rfl) (by decide) (by decide) dX7_init_9 hw2 (k2 := 20) (n2 := 142) rfl rfl (fun z3 w4 hz hw4 => ?_)
  clear hw2
  subst hz
  refine gn_putF (q0 := 0) C hin fl_X7_10 (cls_X7 hx) rfl rfl rfl rfl rfl (Nat.le_of_ble_eq_true rfl) dX7_init_12 (ws1 := [(h0, .inr (7, [.ref (z3 0), .null, .null, .null, .null, .null, .null, .null, .null, .null, .int 0, .int 0, .int 0, .int 0, .int 0]))] ++ w4) rfl ?_
  refine gx_aload_0 C dX7_init_15 rfl ?_
  refine gn_newP (k := 20) (n := 142) (P := [(h0, .inr (7, [.ref (z3 0), .null, .null, .null, .null, .null, .null, .null, .null, .null, .int 0, .int 0, .int 0, .int 0, .int 0]))]) (rest := w4) C M iu_X4 (cls_X4 hx) (gx_mu (gx_t_1 (List.mem_of_getElem? (i := 109) rfl)) rfl) (gx_mu (gx_t_1 (List.mem_of_getElem? (i := 110) rfl)) rfl) vi_X4 df_X4 (by decide) (by decide) dX7_init_16 (fun q5 w6 hw6 => ?_)
  refine gx_dup C dX7_init_19 rfl ?_
  refine gx_aload_0 C dX7_init_20 rfl ?_
  refine gn_getf (q0 := 0) C fl_X7_10 (cls_X7 hx) rfl rfl dX7_init_21 ?_
  refine gn_ctorP (P := [(h0, .inr (7, [.ref (z3 0), .null, .null, .null, .null, .null, .null, .null, .null, .null, .int 0, .int 0, .int 0, .int 0, .int 0]))]) (rest := w4) (na := 1) C M (k_Standing (gx_l Γ) (gx_D Γ) hx q5 (z3 0)) gx_uu (gx_mu (gx_t_1 (List.mem_of_getElem? (i := 111) rfl)) rfl) vn_X4_init vi_X4 vc_X4_init rfl ⟨by decide +kernel, by decide +kernel, by decide +kernel⟩ (by decide) (by decide) rfl rfl (Nat.le_of_ble_eq_true rfl) (by decide) (by decide) dX7_init_24 hw6 (k2 := 24) (n2 := 164) rfl rfl (fun z7 w8 hz hw8 => ?_)
  clear hw6
  subst hz
  refine gn_putF (q0 := 0) C hin fl_X7_21 (cls_X7 hx) rfl rfl rfl rfl rfl (Nat.le_of_ble_eq_true rfl) dX7_init_27 (ws1 := [(h0, .inr (7, [.ref (z3 0), .ref (z7 0), .null, .null, .null, .null, .null, .null, .null, .null, .int 0, .int 0, .int 0, .int 0, .int 0]))] ++ w8) rfl ?_
  refine gx_aload_0 C dX7_init_30 rfl ?_
  refine gn_newP (k := 24) (n := 164) (P := [(h0, .inr (7, [.ref (z3 0), .ref (z7 0), .null, .null, .null, .null, .null, .null, .null, .null, .int 0, .int 0, .int 0, .int 0, .int 0]))]) (rest := w8) C M iu_X4 (cls_X4 hx) (gx_mu (gx_t_1 (List.mem_of_getElem? (i := 109) rfl)) rfl) (gx_mu (gx_t_1 (List.mem_of_getElem? (i := 110) rfl)) rfl) vi_X4 df_X4 (by decide) (by decide) dX7_init_31 (fun q9 w10 hw10 => ?_)
  refine gx_dup C dX7_init_34 rfl ?_
  refine gx_aload_0 C dX7_init_35 rfl ?_
  refine gn_getf (q0 := 0) C fl_X7_10 (cls_X7 hx) rfl rfl dX7_init_36 ?_
  refine gn_ctorP (P := [(h0, .inr (7, [.ref (z3 0), .ref (z7 0), .null, .null, .null, .null, .null, .null, .null, .null, .int 0, .int 0, .int 0, .int 0, .int 0]))]) (rest := w8) (na := 1) C M (k_Standing (gx_l Γ) (gx_D Γ) hx q9 (z3 0)) gx_uu (gx_mu (gx_t_1 (List.mem_of_getElem? (i := 111) rfl)) rfl) vn_X4_init vi_X4 vc_X4_init rfl ⟨by decide +kernel, by decide +kernel, by decide +kernel⟩ (by decide) (by decide) rfl rfl (Nat.le_of_ble_eq_true rfl) (by decide) (by decide) dX7_init_39 hw10 (k2 := 28) (n2 := 186) rfl rfl (fun z11 w12 hz hw12 => ?_)
  clear hw10
  subst hz
  refine gn_putF (q0 := 0) C hin fl_X7_25 (cls_X7 hx) rfl rfl rfl rfl rfl (Nat.le_of_ble_eq_true rfl) dX7_init_42 (ws1 := [(h0, .inr (7, [.ref (z3 0), .ref (z7 0), .ref (z11 0), .null, .null, .null, .null, .null, .null, .null, .int 0, .int 0, .int 0, .int 0, .int 0]))] ++ w12) rfl ?_
  refine gx_aload_0 C dX7_init_45 rfl ?_
  refine gn_newP (k := 28) (n := 186) (P := [(h0, .inr (7, [.ref (z3 0), .ref (z7 0), .ref (z11 0), .null, .null, .null, .null, .null, .null, .null, .int 0, .int 0, .int 0, .int 0, .int 0]))]) (rest := w12) C M iu_X4 (cls_X4 hx) (gx_mu (gx_t_1 (List.mem_of_getElem? (i := 109) rfl)) rfl) (gx_mu (gx_t_1 (List.mem_of_getElem? (i := 110) rfl)) rfl) vi_X4 df_X4 (by decide) (by decide) dX7_init_46 (fun q13 w14 hw14 => ?_)
  refine gx_dup C dX7_init_49 rfl ?_
  refine gx_aload_0 C dX7_init_50 rfl ?_
  refine gn_getf (q0 := 0) C fl_X7_10 (cls_X7 hx) rfl rfl dX7_init_51 ?_
  refine gn_ctorP (P := [(h0, .inr (7, [.ref (z3 0), .ref (z7 0), .ref (z11 0), .null, .null, .null, .null, .null, .null, .null, .int 0, .int 0, .int 0, .int 0, .int 0]))]) (rest := w12) (na := 1) C M (k_Standing (gx_l Γ) (gx_D Γ) hx q13 (z3 0)) gx_uu (gx_mu (gx_t_1 (List.mem_of_getElem? (i := 111) rfl)) rfl) vn_X4_init vi_X4 vc_X4_init rfl ⟨by decide +kernel, by decide +kernel, by decide +kernel⟩ (by decide) (by decide) rfl rfl (Nat.le_of_ble_eq_true rfl) (by decide) (by decide) dX7_init_54 hw14 (k2 := 32) (n2 := 208) rfl rfl (fun z15 w16 hz hw16 => ?_)
  clear hw14
  subst hz
  refine gn_putF (q0 := 0) C hin fl_X7_28 (cls_X7 hx) rfl rfl rfl rfl rfl (Nat.le_of_ble_eq_true rfl) dX7_init_57 (ws1 := [(h0, .inr (7, [.ref (z3 0), .ref (z7 0), .ref (z11 0), .ref (z15 0), .null, .null, .null, .null, .null, .null, .int 0, .int 0, .int 0, .int 0, .int 0]))] ++ w16) rfl ?_
  refine gx_aload_0 C dX7_init_60 rfl ?_
  refine gn_newP (k := 32) (n := 208) (P := [(h0, .inr (7, [.ref (z3 0), .ref (z7 0), .ref (z11 0), .ref (z15 0), .null, .null, .null, .null, .null, .null, .int 0, .int 0, .int 0, .int 0, .int 0]))]) (rest := w16) C M iu_X0 (cls_X0 hx) (gx_mu (gx_t_1 (List.mem_of_getElem? (i := 137) rfl)) rfl) (gx_mu (gx_t_1 (List.mem_of_getElem? (i := 138) rfl)) rfl) vi_X0 df_X0 (by decide) (by decide) dX7_init_61 (fun q17 w18 hw18 => ?_)
  refine gx_dup C dX7_init_64 rfl ?_
  refine gx_aload_0 C dX7_init_65 rfl ?_
  refine gn_getf (q0 := 0) C fl_X7_10 (cls_X7 hx) rfl rfl dX7_init_66 ?_
  refine gn_ctorP (P := [(h0, .inr (7, [.ref (z3 0), .ref (z7 0), .ref (z11 0), .ref (z15 0), .null, .null, .null, .null, .null, .null, .int 0, .int 0, .int 0, .int 0, .int 0]))]) (rest := w16) (na := 1) C M (k_Bests (gx_l Γ) (gx_D Γ) hx q17 (z3 0)) gx_uu (gx_mu (gx_t_1 (List.mem_of_getElem? (i := 139) rfl)) rfl) vn_X0_init vi_X0 vc_X0_init rfl ⟨by decide +kernel, by decide +kernel, by decide +kernel⟩ (by decide) (by decide) rfl rfl (Nat.le_of_ble_eq_true rfl) (by decide) (by decide) dX7_init_69 hw18 (k2 := 54) (n2 := 361) rfl rfl (fun z19 w20 hz hw20 => ?_)
  clear hw18
  subst hz
  refine gn_putF (q0 := 0) C hin fl_X7_34 (cls_X7 hx) rfl rfl rfl rfl rfl (Nat.le_of_ble_eq_true rfl) dX7_init_72 (ws1 := [(h0, .inr (7, [.ref (z3 0), .ref (z7 0), .ref (z11 0), .ref (z15 0), .ref (z19 0), .null, .null, .null, .null, .null, .int 0, .int 0, .int 0, .int 0, .int 0]))] ++ w20) rfl ?_
  refine gx_aload_0 C dX7_init_75 rfl ?_
  refine gn_newP (k := 54) (n := 361) (P := [(h0, .inr (7, [.ref (z3 0), .ref (z7 0), .ref (z11 0), .ref (z15 0), .ref (z19 0), .null, .null, .null, .null, .null, .int 0, .int 0, .int 0, .int 0, .int 0]))]) (rest := w20) C M iu_X2 (cls_X2 hx) (gx_mu (gx_t_1 (List.mem_of_getElem? (i := 186) rfl)) rfl) (gx_mu (gx_t_1 (List.mem_of_getElem? (i := 187) rfl)) rfl) vi_X2 df_X2 (by decide) (by decide) dX7_init_76 (fun q21 w22 hw22 => ?_)
  refine gx_dup C dX7_init_79 rfl ?_
  refine gx_aload_0 C dX7_init_80 rfl ?_
  refine gn_getf (q0 := 0) C fl_X7_10 (cls_X7 hx) rfl rfl dX7_init_81 ?_
  refine gx_aload_0 C dX7_init_84 rfl ?_
  refine gn_getf (q0 := 0) C fl_X7_34 (cls_X7 hx) rfl rfl dX7_init_85 ?_
  refine gn_ctorP (P := [(h0, .inr (7, [.ref (z3 0), .ref (z7 0), .ref (z11 0), .ref (z15 0), .ref (z19 0), .null, .null, .null, .null, .null, .int 0, .int 0, .int 0, .int 0, .int 0]))]) (rest := w20) (na := 2) C M (k_Joining (gx_l Γ) (gx_D Γ) hx q21 (z3 0) (z19 0)) gx_uu (gx_mu (gx_t_1 (List.mem_of_getElem? (i := 188) rfl)) rfl) vn_X2_init vi_X2 vc_X2_init rfl ⟨by decide +kernel, by decide +kernel, by decide +kernel⟩ (by decide) (by decide) rfl rfl (Nat.le_of_ble_eq_true rfl) (by decide) (by decide) dX7_init_88 hw22 (k2 := 64) (n2 := 418) rfl rfl (fun z23 w24 hz hw24 => ?_)
  clear hw22
  subst hz
  refine gn_putF (q0 := 0) C hin fl_X7_43 (cls_X7 hx) rfl rfl rfl rfl rfl (Nat.le_of_ble_eq_true rfl) dX7_init_91 (ws1 := [(h0, .inr (7, [.ref (z3 0), .ref (z7 0), .ref (z11 0), .ref (z15 0), .ref (z19 0), .ref (z23 0), .null, .null, .null, .null, .int 0, .int 0, .int 0, .int 0, .int 0]))] ++ w24) rfl ?_
  refine gx_aload_0 C dX7_init_94 rfl ?_
  refine gn_newP (k := 64) (n := 418) (P := [(h0, .inr (7, [.ref (z3 0), .ref (z7 0), .ref (z11 0), .ref (z15 0), .ref (z19 0), .ref (z23 0), .null, .null, .null, .null, .int 0, .int 0, .int 0, .int 0, .int 0]))]) (rest := w24) C M iu_X6 (cls_X6 hx) (gx_mu (gx_t_1 (List.mem_of_getElem? (i := 210) rfl)) rfl) (gx_mu (gx_t_1 (List.mem_of_getElem? (i := 211) rfl)) rfl) vi_X6 df_X6 (by decide) (by decide) dX7_init_95 (fun q25 w26 hw26 => ?_)
  refine gx_dup C dX7_init_98 rfl ?_
  refine gn_ctorNP (P := [(h0, .inr (7, [.ref (z3 0), .ref (z7 0), .ref (z11 0), .ref (z15 0), .ref (z19 0), .ref (z23 0), .null, .null, .null, .null, .int 0, .int 0, .int 0, .int 0, .int 0]))]) (rest := w24) (na := 0) C M (k_Text (gx_l Γ) (gx_D Γ) hx q25) gx_uu (fun hX => gx_xt_X7_49 hX) vn_X6_init vi_X6 vc_X6_init rfl ⟨by decide +kernel, by decide +kernel, by decide +kernel⟩ (by decide) (by decide) rfl rfl (Nat.le_of_ble_eq_true rfl) (by decide) (by decide) dX7_init_99 hw26 (k2 := 66) (n2 := 470) rfl rfl (fun z27 w28 hz hw28 => ?_)
  clear hw26
  subst hz
  refine gn_putF (q0 := 0) C hin fl_X7_50 (cls_X7 hx) rfl rfl rfl rfl rfl (Nat.le_of_ble_eq_true rfl) dX7_init_102 (ws1 := [(h0, .inr (7, [.ref (z3 0), .ref (z7 0), .ref (z11 0), .ref (z15 0), .ref (z19 0), .ref (z23 0), .ref (z27 0), .null, .null, .null, .int 0, .int 0, .int 0, .int 0, .int 0]))] ++ w28) rfl ?_
  refine gx_aload_0 C dX7_init_105 rfl ?_
  refine gx_iconst4 C dX7_init_106 ?_
  refine gn_newqP (k := 66) (n := 470) (z := 4) (P := [(h0, .inr (7, [.ref (z3 0), .ref (z7 0), .ref (z11 0), .ref (z15 0), .ref (z19 0), .ref (z23 0), .ref (z27 0), .null, .null, .null, .int 0, .int 0, .int 0, .int 0, .int 0]))]) (rest := w28) (t0 := 5) (c0 := ι 5) (N := 4) C M (gx_mu (gx_t_1 (List.mem_of_getElem? (i := 210) rfl)) rfl) M.2.2.1 (by rw [hx.2]; rfl) (by decide) (by decide) (by decide) (by decide) (by decide) dX7_init_107 (fun q29 => ?_)
  refine gx_world (ws' := [(h0, .inr (7, [.ref (z3 0), .ref (z7 0), .ref (z11 0), .ref (z15 0), .ref (z19 0), .ref (z23 0), .ref (z27 0), .null, .null, .null, .int 0, .int 0, .int 0, .int 0, .int 0])), (q29, .inl (ι 5, 4, .inr (.inr (.inr (.inr (fun _ => none))))))] ++ w28) rfl ?_
  refine gn_putF (q0 := 0) C hin fl_X7_54 (cls_X7 hx) rfl rfl rfl rfl rfl (Nat.le_of_ble_eq_true rfl) dX7_init_110 (ws1 := [(h0, .inr (7, [.ref (z3 0), .ref (z7 0), .ref (z11 0), .ref (z15 0), .ref (z19 0), .ref (z23 0), .ref (z27 0), .ref q29, .null, .null, .int 0, .int 0, .int 0, .int 0, .int 0])), (q29, .inl (ι 5, 4, .inr (.inr (.inr (.inr (fun _ => none))))))] ++ w28) rfl ?_
  refine gx_aload_0 C dX7_init_113 rfl ?_
  refine gn_newP (k := 67) (n := 474) (P := [(h0, .inr (7, [.ref (z3 0), .ref (z7 0), .ref (z11 0), .ref (z15 0), .ref (z19 0), .ref (z23 0), .ref (z27 0), .ref q29, .null, .null, .int 0, .int 0, .int 0, .int 0, .int 0])), (q29, .inl (ι 5, 4, .inr (.inr (.inr (.inr (fun _ => none))))))]) (rest := w28) C M iu_X1 (cls_X1 hx) (gx_mu (gx_t_1 (List.mem_of_getElem? (i := 229) rfl)) rfl) (gx_mu (gx_t_1 (List.mem_of_getElem? (i := 230) rfl)) rfl) vi_X1 df_X1 (by decide) (by decide) dX7_init_114 (fun q30 w31 hw31 => ?_)
  refine gx_dup C dX7_init_117 rfl ?_
  refine gn_ctorNP (P := [(h0, .inr (7, [.ref (z3 0), .ref (z7 0), .ref (z11 0), .ref (z15 0), .ref (z19 0), .ref (z23 0), .ref (z27 0), .ref q29, .null, .null, .int 0, .int 0, .int 0, .int 0, .int 0])), (q29, .inl (ι 5, 4, .inr (.inr (.inr (.inr (fun _ => none))))))]) (rest := w28) (na := 0) C M (k_Grammar (gx_l Γ) (gx_D Γ) hx q30) gx_uu (fun hX => gx_xt_X7_60 hX) vn_X1_init vi_X1 vc_X1_init rfl ⟨by decide +kernel, by decide +kernel, by decide +kernel⟩ (by decide) (by decide) rfl rfl (Nat.le_of_ble_eq_true rfl) (by decide) (by decide) dX7_init_118 hw31 (k2 := 68) (n2 := 477) rfl rfl (fun z32 w33 hz hw33 => ?_)
  clear hw31
  subst hz
  refine gn_putF (q0 := 0) C hin fl_X7_61 (cls_X7 hx) rfl rfl rfl rfl rfl (Nat.le_of_ble_eq_true rfl) dX7_init_121 (ws1 := [(h0, .inr (7, [.ref (z3 0), .ref (z7 0), .ref (z11 0), .ref (z15 0), .ref (z19 0), .ref (z23 0), .ref (z27 0), .ref q29, .ref (z32 0), .null, .int 0, .int 0, .int 0, .int 0, .int 0])), (q29, .inl (ι 5, 4, .inr (.inr (.inr (.inr (fun _ => none))))))] ++ w33) rfl ?_
  refine gx_aload_0 C dX7_init_124 rfl ?_
  refine gn_newP (k := 68) (n := 477) (P := [(h0, .inr (7, [.ref (z3 0), .ref (z7 0), .ref (z11 0), .ref (z15 0), .ref (z19 0), .ref (z23 0), .ref (z27 0), .ref q29, .ref (z32 0), .null, .int 0, .int 0, .int 0, .int 0, .int 0])), (q29, .inl (ι 5, 4, .inr (.inr (.inr (.inr (fun _ => none))))))]) (rest := w33) C M iu_X3 (cls_X3 hx) (gx_mu (gx_t_2 (List.mem_of_getElem? (i := 5) rfl)) rfl) (gx_mu (gx_t_2 (List.mem_of_getElem? (i := 6) rfl)) rfl) vi_X3 df_X3 (by decide) (by decide) dX7_init_125 (fun q34 w35 hw35 => ?_)
  refine gx_dup C dX7_init_128 rfl ?_
  refine gx_aload_0 C dX7_init_129 rfl ?_
  refine gn_getf (q0 := 0) C fl_X7_10 (cls_X7 hx) rfl rfl dX7_init_130 ?_
  refine gn_ctorP (P := [(h0, .inr (7, [.ref (z3 0), .ref (z7 0), .ref (z11 0), .ref (z15 0), .ref (z19 0), .ref (z23 0), .ref (z27 0), .ref q29, .ref (z32 0), .null, .int 0, .int 0, .int 0, .int 0, .int 0])), (q29, .inl (ι 5, 4, .inr (.inr (.inr (.inr (fun _ => none))))))]) (rest := w33) (na := 1) C M (k_Judge (gx_l Γ) (gx_D Γ) hx q34 (z3 0)) gx_uu (gx_mu (gx_t_2 (List.mem_of_getElem? (i := 7) rfl)) rfl) vn_X3_init vi_X3 vc_X3_init rfl ⟨by decide +kernel, by decide +kernel, by decide +kernel⟩ (by decide) (by decide) rfl rfl (Nat.le_of_ble_eq_true rfl) (by decide) (by decide) dX7_init_133 hw35 (k2 := 73) (n2 := 646) rfl rfl (fun z36 w37 hz hw37 => ?_)
  clear hw35
  subst hz
  refine gn_putF (q0 := 0) C hin fl_X7_68 (cls_X7 hx) rfl rfl rfl rfl rfl (Nat.le_of_ble_eq_true rfl) dX7_init_136 (ws1 := [(h0, .inr (7, [.ref (z3 0), .ref (z7 0), .ref (z11 0), .ref (z15 0), .ref (z19 0), .ref (z23 0), .ref (z27 0), .ref q29, .ref (z32 0), .ref (z36 0), .int 0, .int 0, .int 0, .int 0, .int 0])), (q29, .inl (ι 5, 4, .inr (.inr (.inr (.inr (fun _ => none))))))] ++ w37) rfl ?_
  refine gx_iconst0 C dX7_init_139 ?_
  refine gx_istore_1 C dX7_init_140 (by rw [hnL]; decide) trivial ?_
  refine gx_iload_1 C dX7_init_141 rfl ?_
  refine gx_aload_0 C dX7_init_142 rfl ?_
  refine gn_getf (q0 := 0) C fl_X7_54 (cls_X7 hx) rfl rfl dX7_init_143 ?_
  refine gn_alen (q0 := 1) (t0 := 5) (v := 4) (N := 4) (c0 := ι 5) C rfl (by rw [hx.2]; rfl) (by decide) dX7_init_146 ?_
  refine gx_icmp_ge (tgt := 169) C dX7_init_147 (by decide) (fun hc => absurd hc (by decide)) (fun _ => ?_)
  refine gx_aload_0 C dX7_init_150 rfl ?_
  refine gn_getf (q0 := 0) C fl_X7_54 (cls_X7 hx) rfl rfl dX7_init_151 ?_
  refine gx_iload_1 C dX7_init_154 rfl ?_
  refine gn_newP (k := 73) (n := 646) (P := [(h0, .inr (7, [.ref (z3 0), .ref (z7 0), .ref (z11 0), .ref (z15 0), .ref (z19 0), .ref (z23 0), .ref (z27 0), .ref q29, .ref (z32 0), .ref (z36 0), .int 0, .int 0, .int 0, .int 0, .int 0])), (q29, .inl (ι 5, 4, .inr (.inr (.inr (.inr (fun _ => none))))))]) (rest := w37) C M iu_X6 (cls_X6 hx) (gx_mu (gx_t_1 (List.mem_of_getElem? (i := 210) rfl)) rfl) (gx_mu (gx_t_1 (List.mem_of_getElem? (i := 211) rfl)) rfl) vi_X6 df_X6 (by decide) (by decide) dX7_init_155 (fun q38 w39 hw39 => ?_)
  refine gx_dup C dX7_init_158 rfl ?_
  refine gn_ctorNP (P := [(h0, .inr (7, [.ref (z3 0), .ref (z7 0), .ref (z11 0), .ref (z15 0), .ref (z19 0), .ref (z23 0), .ref (z27 0), .ref q29, .ref (z32 0), .ref (z36 0), .int 0, .int 0, .int 0, .int 0, .int 0])), (q29, .inl (ι 5, 4, .inr (.inr (.inr (.inr (fun _ => none))))))]) (rest := w37) (na := 0) C M (k_Text (gx_l Γ) (gx_D Γ) hx q38) gx_uu (fun hX => gx_xt_X7_49 hX) vn_X6_init vi_X6 vc_X6_init rfl ⟨by decide +kernel, by decide +kernel, by decide +kernel⟩ (by decide) (by decide) rfl rfl (Nat.le_of_ble_eq_true rfl) (by decide) (by decide) dX7_init_159 hw39 (k2 := 75) (n2 := 698) rfl rfl (fun z40 w41 hz hw41 => ?_)
  clear hw39
  subst hz
  refine gn_astq (q0 := 1) (t0 := 5) (qk := 2) (ci := 6) (r := (RX6, TX6, 2)) (c0 := ι 5) (N := 4) C rfl (by rw [hx.2]; rfl) (by rw [hw41]; rfl) (cls_X6 hx).1 (by unfold vp_in; decide) dX7_init_162 (ws1 := [(h0, .inr (7, [.ref (z3 0), .ref (z7 0), .ref (z11 0), .ref (z15 0), .ref (z19 0), .ref (z23 0), .ref (z27 0), .ref q29, .ref (z32 0), .ref (z36 0), .int 0, .int 0, .int 0, .int 0, .int 0])), (q29, .inl (ι 5, 4, .inr (.inr (.inr (.inr (va_up (fun _ => none) 0 (some (z40 0))))))))] ++ w41) rfl ?_
  refine gx_iinc (v := 1) C dX7_init_163 rfl rfl (by rw [hnL]; decide) trivial ?_
  refine gx_goto (tgt := 141) C dX7_init_166 (by decide) ?_
  refine gx_iload_1 C dX7_init_141 rfl ?_
  refine gx_aload_0 C dX7_init_142 rfl ?_
  refine gn_getf (q0 := 0) C fl_X7_54 (cls_X7 hx) rfl rfl dX7_init_143 ?_
  refine gn_alen (q0 := 1) (t0 := 5) (v := 4) (N := 4) (c0 := ι 5) C rfl (by rw [hx.2]; rfl) (by decide) dX7_init_146 ?_
  refine gx_icmp_ge (tgt := 169) C dX7_init_147 (by decide) (fun hc => absurd hc (by decide)) (fun _ => ?_)
  refine gx_aload_0 C dX7_init_150 rfl ?_
  refine gn_getf (q0 := 0) C fl_X7_54 (cls_X7 hx) rfl rfl dX7_init_151 ?_
  refine gx_iload_1 C dX7_init_154 rfl ?_
  refine gn_newP (k := 75) (n := 698) (P := [(h0, .inr (7, [.ref (z3 0), .ref (z7 0), .ref (z11 0), .ref (z15 0), .ref (z19 0), .ref (z23 0), .ref (z27 0), .ref q29, .ref (z32 0), .ref (z36 0), .int 0, .int 0, .int 0, .int 0, .int 0])), (q29, .inl (ι 5, 4, .inr (.inr (.inr (.inr (va_up (fun _ => none) 0 (some (z40 0))))))))]) (rest := w41) C M iu_X6 (cls_X6 hx) (gx_mu (gx_t_1 (List.mem_of_getElem? (i := 210) rfl)) rfl) (gx_mu (gx_t_1 (List.mem_of_getElem? (i := 211) rfl)) rfl) vi_X6 df_X6 (by decide) (by decide) dX7_init_155 (fun q42 w43 hw43 => ?_)
  refine gx_dup C dX7_init_158 rfl ?_
  refine gn_ctorNP (P := [(h0, .inr (7, [.ref (z3 0), .ref (z7 0), .ref (z11 0), .ref (z15 0), .ref (z19 0), .ref (z23 0), .ref (z27 0), .ref q29, .ref (z32 0), .ref (z36 0), .int 0, .int 0, .int 0, .int 0, .int 0])), (q29, .inl (ι 5, 4, .inr (.inr (.inr (.inr (va_up (fun _ => none) 0 (some (z40 0))))))))]) (rest := w41) (na := 0) C M (k_Text (gx_l Γ) (gx_D Γ) hx q42) gx_uu (fun hX => gx_xt_X7_49 hX) vn_X6_init vi_X6 vc_X6_init rfl ⟨by decide +kernel, by decide +kernel, by decide +kernel⟩ (by decide) (by decide) rfl rfl (Nat.le_of_ble_eq_true rfl) (by decide) (by decide) dX7_init_159 hw43 (k2 := 77) (n2 := 750) rfl rfl (fun z44 w45 hz hw45 => ?_)
  clear hw43
  subst hz
  refine gn_astq (q0 := 1) (t0 := 5) (qk := 2) (ci := 6) (r := (RX6, TX6, 2)) (c0 := ι 5) (N := 4) C rfl (by rw [hx.2]; rfl) (by rw [hw45]; rfl) (cls_X6 hx).1 (by unfold vp_in; decide) dX7_init_162 (ws1 := [(h0, .inr (7, [.ref (z3 0), .ref (z7 0), .ref (z11 0), .ref (z15 0), .ref (z19 0), .ref (z23 0), .ref (z27 0), .ref q29, .ref (z32 0), .ref (z36 0), .int 0, .int 0, .int 0, .int 0, .int 0])), (q29, .inl (ι 5, 4, .inr (.inr (.inr (.inr (va_up (va_up (fun _ => none) 0 (some (z40 0))) 1 (some (z44 0))))))))] ++ w45) rfl ?_
  refine gx_iinc (v := 2) C dX7_init_163 rfl rfl (by rw [hnL]; decide) trivial ?_
  refine gx_goto (tgt := 141) C dX7_init_166 (by decide) ?_
  refine gx_iload_1 C dX7_init_141 rfl ?_
  refine gx_aload_0 C dX7_init_142 rfl ?_
  refine gn_getf (q0 := 0) C fl_X7_54 (cls_X7 hx) rfl rfl dX7_init_143 ?_
  refine gn_alen (q0 := 1) (t0 := 5) (v := 4) (N := 4) (c0 := ι 5) C rfl (by rw [hx.2]; rfl) (by decide) dX7_init_146 ?_
  refine gx_icmp_ge (tgt := 169) C dX7_init_147 (by decide) (fun hc => absurd hc (by decide)) (fun _ => ?_)
  refine gx_aload_0 C dX7_init_150 rfl ?_
  refine gn_getf (q0 := 0) C fl_X7_54 (cls_X7 hx) rfl rfl dX7_init_151 ?_
  refine gx_iload_1 C dX7_init_154 rfl ?_
  refine gn_newP (k := 77) (n := 750) (P := [(h0, .inr (7, [.ref (z3 0), .ref (z7 0), .ref (z11 0), .ref (z15 0), .ref (z19 0), .ref (z23 0), .ref (z27 0), .ref q29, .ref (z32 0), .ref (z36 0), .int 0, .int 0, .int 0, .int 0, .int 0])), (q29, .inl (ι 5, 4, .inr (.inr (.inr (.inr (va_up (va_up (fun _ => none) 0 (some (z40 0))) 1 (some (z44 0))))))))]) (rest := w45) C M iu_X6 (cls_X6 hx) (gx_mu (gx_t_1 (List.mem_of_getElem? (i := 210) rfl)) rfl) (gx_mu (gx_t_1 (List.mem_of_getElem? (i := 211) rfl)) rfl) vi_X6 df_X6 (by decide) (by decide) dX7_init_155 (fun q46 w47 hw47 => ?_)
  refine gx_dup C dX7_init_158 rfl ?_
  refine gn_ctorNP (P := [(h0, .inr (7, [.ref (z3 0), .ref (z7 0), .ref (z11 0), .ref (z15 0), .ref (z19 0), .ref (z23 0), .ref (z27 0), .ref q29, .ref (z32 0), .ref (z36 0), .int 0, .int 0, .int 0, .int 0, .int 0])), (q29, .inl (ι 5, 4, .inr (.inr (.inr (.inr (va_up (va_up (fun _ => none) 0 (some (z40 0))) 1 (some (z44 0))))))))]) (rest := w45) (na := 0) C M (k_Text (gx_l Γ) (gx_D Γ) hx q46) gx_uu (fun hX => gx_xt_X7_49 hX) vn_X6_init vi_X6 vc_X6_init rfl ⟨by decide +kernel, by decide +kernel, by decide +kernel⟩ (by decide) (by decide) rfl rfl (Nat.le_of_ble_eq_true rfl) (by decide) (by decide) dX7_init_159 hw47 (k2 := 79) (n2 := 802) rfl rfl (fun z48 w49 hz hw49 => ?_)
  clear hw47
  subst hz
  refine gn_astq (q0 := 1) (t0 := 5) (qk := 2) (ci := 6) (r := (RX6, TX6, 2)) (c0 := ι 5) (N := 4) C rfl (by rw [hx.2]; rfl) (by rw [hw49]; rfl) (cls_X6 hx).1 (by unfold vp_in; decide) dX7_init_162 (ws1 := [(h0, .inr (7, [.ref (z3 0), .ref (z7 0), .ref (z11 0), .ref (z15 0), .ref (z19 0), .ref (z23 0), .ref (z27 0), .ref q29, .ref (z32 0), .ref (z36 0), .int 0, .int 0, .int 0, .int 0, .int 0])), (q29, .inl (ι 5, 4, .inr (.inr (.inr (.inr (va_up (va_up (va_up (fun _ => none) 0 (some (z40 0))) 1 (some (z44 0))) 2 (some (z48 0))))))))] ++ w49) rfl ?_
  refine gx_iinc (v := 3) C dX7_init_163 rfl rfl (by rw [hnL]; decide) trivial ?_
  refine gx_goto (tgt := 141) C dX7_init_166 (by decide) ?_
  refine gx_iload_1 C dX7_init_141 rfl ?_
  refine gx_aload_0 C dX7_init_142 rfl ?_
  refine gn_getf (q0 := 0) C fl_X7_54 (cls_X7 hx) rfl rfl dX7_init_143 ?_
  refine gn_alen (q0 := 1) (t0 := 5) (v := 4) (N := 4) (c0 := ι 5) C rfl (by rw [hx.2]; rfl) (by decide) dX7_init_146 ?_
  refine gx_icmp_ge (tgt := 169) C dX7_init_147 (by decide) (fun hc => absurd hc (by decide)) (fun _ => ?_)
  refine gx_aload_0 C dX7_init_150 rfl ?_
  refine gn_getf (q0 := 0) C fl_X7_54 (cls_X7 hx) rfl rfl dX7_init_151 ?_
  refine gx_iload_1 C dX7_init_154 rfl ?_
  refine gn_newP (k := 79) (n := 802) (P := [(h0, .inr (7, [.ref (z3 0), .ref (z7 0), .ref (z11 0), .ref (z15 0), .ref (z19 0), .ref (z23 0), .ref (z27 0), .ref q29, .ref (z32 0), .ref (z36 0), .int 0, .int 0, .int 0, .int 0, .int 0])), (q29, .inl (ι 5, 4, .inr (.inr (.inr (.inr (va_up (va_up (va_up (fun _ => none) 0 (some (z40 0))) 1 (some (z44 0))) 2 (some (z48 0))))))))]) (rest := w49) C M iu_X6 (cls_X6 hx) (gx_mu (gx_t_1 (List.mem_of_getElem? (i := 210) rfl)) rfl) (gx_mu (gx_t_1 (List.mem_of_getElem? (i := 211) rfl)) rfl) vi_X6 df_X6 (by decide) (by decide) dX7_init_155 (fun q50 w51 hw51 => ?_)
  refine gx_dup C dX7_init_158 rfl ?_
  refine gn_ctorNP (P := [(h0, .inr (7, [.ref (z3 0), .ref (z7 0), .ref (z11 0), .ref (z15 0), .ref (z19 0), .ref (z23 0), .ref (z27 0), .ref q29, .ref (z32 0), .ref (z36 0), .int 0, .int 0, .int 0, .int 0, .int 0])), (q29, .inl (ι 5, 4, .inr (.inr (.inr (.inr (va_up (va_up (va_up (fun _ => none) 0 (some (z40 0))) 1 (some (z44 0))) 2 (some (z48 0))))))))]) (rest := w49) (na := 0) C M (k_Text (gx_l Γ) (gx_D Γ) hx q50) gx_uu (fun hX => gx_xt_X7_49 hX) vn_X6_init vi_X6 vc_X6_init rfl ⟨by decide +kernel, by decide +kernel, by decide +kernel⟩ (by decide) (by decide) rfl rfl (Nat.le_of_ble_eq_true rfl) (by decide) (by decide) dX7_init_159 hw51 (k2 := 81) (n2 := 854) rfl rfl (fun z52 w53 hz hw53 => ?_)
  clear hw51
  subst hz
  refine gn_astq (q0 := 1) (t0 := 5) (qk := 2) (ci := 6) (r := (RX6, TX6, 2)) (c0 := ι 5) (N := 4) C rfl (by rw [hx.2]; rfl) (by rw [hw53]; rfl) (cls_X6 hx).1 (by unfold vp_in; decide) dX7_init_162 (ws1 := [(h0, .inr (7, [.ref (z3 0), .ref (z7 0), .ref (z11 0), .ref (z15 0), .ref (z19 0), .ref (z23 0), .ref (z27 0), .ref q29, .ref (z32 0), .ref (z36 0), .int 0, .int 0, .int 0, .int 0, .int 0])), (q29, .inl (ι 5, 4, .inr (.inr (.inr (.inr (va_up (va_up (va_up (va_up (fun _ => none) 0 (some (z40 0))) 1 (some (z44 0))) 2 (some (z48 0))) 3 (some (z52 0))))))))] ++ w53) rfl ?_
  refine gx_iinc (v := 4) C dX7_init_163 rfl rfl (by rw [hnL]; decide) trivial ?_
  refine gx_goto (tgt := 141) C dX7_init_166 (by decide) ?_
  refine gx_iload_1 C dX7_init_141 rfl ?_
  refine gx_aload_0 C dX7_init_142 rfl ?_
  refine gn_getf (q0 := 0) C fl_X7_54 (cls_X7 hx) rfl rfl dX7_init_143 ?_
  refine gn_alen (q0 := 1) (t0 := 5) (v := 4) (N := 4) (c0 := ι 5) C rfl (by rw [hx.2]; rfl) (by decide) dX7_init_146 ?_
  refine gx_icmp_ge (tgt := 169) C dX7_init_147 (by decide) (fun _ => ?_) (fun hc => absurd (by decide) hc)
  subst hw53
  subst hw49
  subst hw45
  subst hw41
  subst hw37
  subst hw33
  subst hw28
  subst hw24
  subst hw20
  subst hw16
  subst hw12
  subst hw8
  subst hw4
  rw [gx_up4]
  refine gx_resort (ws' := wX (fun k => ([h0, z3 0, z3 19, z3 18, z3 17, z3 16, z3 15, z3 14, z3 13, z3 12, z3 11, z3 10, z3 1, z3 2, z3 3, z3 4, z3 5, z3 6, z3 7, z3 8, z3 9, z7 0, z7 3, z7 2, z7 1, z11 0, z11 3, z11 2, z11 1, z15 0, z15 3, z15 2, z15 1, z23 5, z23 8, z23 7, z23 6, z23 1, z23 4, z23 3, z23 2, z19 0, z19 21, z19 20, z19 19, z19 18, z19 13, z19 14, z19 15, z19 16, z19 17, z19 8, z19 9, z19 10, z19 11, z19 12, z19 3, z19 4, z19 5, z19 6, z19 7, z19 2, z19 1, z23 0, z23 9, q29, z27 0, z27 1, z40 0, z40 1, z44 0, z44 1, z48 0, z48 1, z52 0, z52 1, z32 0, z36 0, z36 4, z36 3, z36 2, z36 1] : List Nat).getD k 0) ι (fun _ _ => 0)) [0, 62, 81, 80, 79, 78, 77, 76, 75, 74, 73, 72, 63, 64, 65, 66, 67, 68, 69, 70, 71, 58, 61, 60, 59, 54, 57, 56, 55, 50, 53, 52, 51, 23, 26, 25, 24, 19, 22, 21, 20, 28, 49, 48, 47, 46, 41, 42, 43, 44, 45, 36, 37, 38, 39, 40, 31, 32, 33, 34, 35, 30, 29, 18, 27, 1, 16, 17, 8, 9, 6, 7, 4, 5, 2, 3, 15, 10, 14, 13, 12, 11] rfl (by decide +kernel) ?_
  exact gn_vret (Wb := fun b => wX b ι (fun _ _ => 0)) (fun k => ([h0, z3 0, z3 19, z3 18, z3 17, z3 16, z3 15, z3 14, z3 13, z3 12, z3 11, z3 10, z3 1, z3 2, z3 3, z3 4, z3 5, z3 6, z3 7, z3 8, z3 9, z7 0, z7 3, z7 2, z7 1, z11 0, z11 3, z11 2, z11 1, z15 0, z15 3, z15 2, z15 1, z23 5, z23 8, z23 7, z23 6, z23 1, z23 4, z23 3, z23 2, z19 0, z19 21, z19 20, z19 19, z19 18, z19 13, z19 14, z19 15, z19 16, z19 17, z19 8, z19 9, z19 10, z19 11, z19 12, z19 3, z19 4, z19 5, z19 6, z19 7, z19 2, z19 1, z23 0, z23 9, q29, z27 0, z27 1, z40 0, z40 1, z44 0, z44 1, z48 0, z48 1, z52 0, z52 1, z32 0, z36 0, z36 4, z36 3, z36 2, z36 1] : List Nat).getD k 0) C F dX7_init_169 rfl
theorem vi_X8 : Cond.initialized RX8 ∈ gx_U := gx_mu (gx_t_1 (List.mem_of_getElem? (i := 9) rfl)) rfl
theorem vn_X8_init : Cond.instanceMethod yX8_init ∈ gx_U := gx_mu (gx_t_4 (List.mem_of_getElem? (i := 86) rfl)) rfl
theorem vc_X8_init : Cond.code yX8_init cX8_init 1 none ∈ gx_U := gx_mu (gx_t_4 (List.mem_of_getElem? (i := 87) rfl)) rfl
theorem df_X8 : ∀ j, j < 42 → defaultValue (tyX8 j) = vp_V [.int 0, .null, .null, .null, .int 0, .null, .null, .null, .null, .int 0, .null, .int 0, .null, .null, .int 0, .null, .int 0, .int 0, .int 0, .int 0, .null, .null, .null, .int 0, .null, .null, .int 0, .int 0, .null, .null, .null, .null, .null, .null, .int 0, .int 0, .int 0, .null, .null, .null, .int 0, .long 0] j := fun j hj => match j, hj with
  | 0, _ => rfl
  | 1, _ => rfl
  | 2, _ => rfl
  | 3, _ => rfl
  | 4, _ => rfl
  | 5, _ => rfl
  | 6, _ => rfl
  | 7, _ => rfl
  | 8, _ => rfl
  | 9, _ => rfl
  | 10, _ => rfl
  | 11, _ => rfl
  | 12, _ => rfl
  | 13, _ => rfl
  | 14, _ => rfl
  | 15, _ => rfl
  | 16, _ => rfl
  | 17, _ => rfl
  | 18, _ => rfl
  | 19, _ => rfl
  | 20, _ => rfl
  | 21, _ => rfl
  | 22, _ => rfl
  | 23, _ => rfl
  | 24, _ => rfl
  | 25, _ => rfl
  | 26, _ => rfl
  | 27, _ => rfl
  | 28, _ => rfl
  | 29, _ => rfl
  | 30, _ => rfl
  | 31, _ => rfl
  | 32, _ => rfl
  | 33, _ => rfl
  | 34, _ => rfl
  | 35, _ => rfl
  | 36, _ => rfl
  | 37, _ => rfl
  | 38, _ => rfl
  | 39, _ => rfl
  | 40, _ => rfl
  | 41, _ => rfl
  | j + 42, hj => absurd hj (by omega)
theorem dX8_init_0 : decode cX8_init 0 = .ok (.aload_n 0, 1) := by decide +kernel
theorem dX8_init_1 : decode cX8_init 1 = .ok (.invokespecial 1, 3) := by decide +kernel
theorem dX8_init_4 : decode cX8_init 4 = .ok (.aload_n 0, 1) := by decide +kernel
theorem dX8_init_5 : decode cX8_init 5 = .ok (.bipush 6, 2) := by decide +kernel
theorem dX8_init_7 : decode cX8_init 7 = .ok (.newarray .int, 2) := by decide +kernel
theorem dX8_init_9 : decode cX8_init 9 = .ok (.putfield 7, 3) := by decide +kernel
theorem dX8_init_12 : decode cX8_init 12 = .ok (.aload_n 0, 1) := by decide +kernel
theorem dX8_init_13 : decode cX8_init 13 = .ok (.bipush 6, 2) := by decide +kernel
theorem dX8_init_15 : decode cX8_init 15 = .ok (.newarray .int, 2) := by decide +kernel
theorem dX8_init_17 : decode cX8_init 17 = .ok (.putfield 13, 3) := by decide +kernel
theorem dX8_init_20 : decode cX8_init 20 = .ok (.aload_n 0, 1) := by decide +kernel
theorem dX8_init_21 : decode cX8_init 21 = .ok (.bipush 6, 2) := by decide +kernel
theorem dX8_init_23 : decode cX8_init 23 = .ok (.newarray .boolean, 2) := by decide +kernel
theorem dX8_init_25 : decode cX8_init 25 = .ok (.putfield 16, 3) := by decide +kernel
theorem dX8_init_28 : decode cX8_init 28 = .ok (.aload_n 0, 1) := by decide +kernel
theorem dX8_init_29 : decode cX8_init 29 = .ok (.bipush 6, 2) := by decide +kernel
theorem dX8_init_31 : decode cX8_init 31 = .ok (.newarray .int, 2) := by decide +kernel
theorem dX8_init_33 : decode cX8_init 33 = .ok (.putfield 20, 3) := by decide +kernel
theorem dX8_init_36 : decode cX8_init 36 = .ok (.aload_n 0, 1) := by decide +kernel
theorem dX8_init_37 : decode cX8_init 37 = .ok (.bipush 6, 2) := by decide +kernel
theorem dX8_init_39 : decode cX8_init 39 = .ok (.newarray .int, 2) := by decide +kernel
theorem dX8_init_41 : decode cX8_init 41 = .ok (.putfield 23, 3) := by decide +kernel
theorem dX8_init_44 : decode cX8_init 44 = .ok (.aload_n 0, 1) := by decide +kernel
theorem dX8_init_45 : decode cX8_init 45 = .ok (.bipush 6, 2) := by decide +kernel
theorem dX8_init_47 : decode cX8_init 47 = .ok (.newarray .int, 2) := by decide +kernel
theorem dX8_init_49 : decode cX8_init 49 = .ok (.putfield 26, 3) := by decide +kernel
theorem dX8_init_52 : decode cX8_init 52 = .ok (.aload_n 0, 1) := by decide +kernel
theorem dX8_init_53 : decode cX8_init 53 = .ok (.bipush 6, 2) := by decide +kernel
theorem dX8_init_55 : decode cX8_init 55 = .ok (.newarray .int, 2) := by decide +kernel
theorem dX8_init_57 : decode cX8_init 57 = .ok (.putfield 29, 3) := by decide +kernel
theorem dX8_init_60 : decode cX8_init 60 = .ok (.aload_n 0, 1) := by decide +kernel
theorem dX8_init_61 : decode cX8_init 61 = .ok (.bipush 48, 2) := by decide +kernel
theorem dX8_init_63 : decode cX8_init 63 = .ok (.newarray .int, 2) := by decide +kernel
theorem dX8_init_65 : decode cX8_init 65 = .ok (.putfield 32, 3) := by decide +kernel
theorem dX8_init_68 : decode cX8_init 68 = .ok (.aload_n 0, 1) := by decide +kernel
theorem dX8_init_69 : decode cX8_init 69 = .ok (.sipush 200, 3) := by decide +kernel
theorem dX8_init_72 : decode cX8_init 72 = .ok (.newarray .byte, 2) := by decide +kernel
theorem dX8_init_74 : decode cX8_init 74 = .ok (.putfield 35, 3) := by decide +kernel
theorem dX8_init_77 : decode cX8_init 77 = .ok (.aload_n 0, 1) := by decide +kernel
theorem dX8_init_78 : decode cX8_init 78 = .ok (.iconst 4, 1) := by decide +kernel
theorem dX8_init_79 : decode cX8_init 79 = .ok (.newarray .int, 2) := by decide +kernel
theorem dX8_init_81 : decode cX8_init 81 = .ok (.putfield 39, 3) := by decide +kernel
theorem dX8_init_84 : decode cX8_init 84 = .ok (.aload_n 0, 1) := by decide +kernel
theorem dX8_init_85 : decode cX8_init 85 = .ok (.bipush 50, 2) := by decide +kernel
theorem dX8_init_87 : decode cX8_init 87 = .ok (.newarray .byte, 2) := by decide +kernel
theorem dX8_init_89 : decode cX8_init 89 = .ok (.putfield 42, 3) := by decide +kernel
theorem dX8_init_92 : decode cX8_init 92 = .ok (.aload_n 0, 1) := by decide +kernel
theorem dX8_init_93 : decode cX8_init 93 = .ok (.bipush 6, 2) := by decide +kernel
theorem dX8_init_95 : decode cX8_init 95 = .ok (.newarray .int, 2) := by decide +kernel
theorem dX8_init_97 : decode cX8_init 97 = .ok (.putfield 45, 3) := by decide +kernel
theorem dX8_init_100 : decode cX8_init 100 = .ok (.aload_n 0, 1) := by decide +kernel
theorem dX8_init_101 : decode cX8_init 101 = .ok (.bipush 6, 2) := by decide +kernel
theorem dX8_init_103 : decode cX8_init 103 = .ok (.newarray .int, 2) := by decide +kernel
theorem dX8_init_105 : decode cX8_init 105 = .ok (.putfield 48, 3) := by decide +kernel
theorem dX8_init_108 : decode cX8_init 108 = .ok (.aload_n 0, 1) := by decide +kernel
theorem dX8_init_109 : decode cX8_init 109 = .ok (.bipush 6, 2) := by decide +kernel
theorem dX8_init_111 : decode cX8_init 111 = .ok (.newarray .boolean, 2) := by decide +kernel
theorem dX8_init_113 : decode cX8_init 113 = .ok (.putfield 51, 3) := by decide +kernel
theorem dX8_init_116 : decode cX8_init 116 = .ok (.aload_n 0, 1) := by decide +kernel
theorem dX8_init_117 : decode cX8_init 117 = .ok (.iconst (-1), 1) := by decide +kernel
theorem dX8_init_118 : decode cX8_init 118 = .ok (.putfield 54, 3) := by decide +kernel
theorem dX8_init_121 : decode cX8_init 121 = .ok (.aload_n 0, 1) := by decide +kernel
theorem dX8_init_122 : decode cX8_init 122 = .ok (.bipush 6, 2) := by decide +kernel
theorem dX8_init_124 : decode cX8_init 124 = .ok (.newarray .int, 2) := by decide +kernel
theorem dX8_init_126 : decode cX8_init 126 = .ok (.putfield 58, 3) := by decide +kernel
theorem dX8_init_129 : decode cX8_init 129 = .ok (.aload_n 0, 1) := by decide +kernel
theorem dX8_init_130 : decode cX8_init 130 = .ok (.bipush 6, 2) := by decide +kernel
theorem dX8_init_132 : decode cX8_init 132 = .ok (.newarray .int, 2) := by decide +kernel
theorem dX8_init_134 : decode cX8_init 134 = .ok (.putfield 61, 3) := by decide +kernel
theorem dX8_init_137 : decode cX8_init 137 = .ok (.aload_n 0, 1) := by decide +kernel
theorem dX8_init_138 : decode cX8_init 138 = .ok (.bipush 6, 2) := by decide +kernel
theorem dX8_init_140 : decode cX8_init 140 = .ok (.newarray .int, 2) := by decide +kernel
theorem dX8_init_142 : decode cX8_init 142 = .ok (.putfield 64, 3) := by decide +kernel
theorem dX8_init_145 : decode cX8_init 145 = .ok (.aload_n 0, 1) := by decide +kernel
theorem dX8_init_146 : decode cX8_init 146 = .ok (.bipush 6, 2) := by decide +kernel
theorem dX8_init_148 : decode cX8_init 148 = .ok (.newarray .int, 2) := by decide +kernel
theorem dX8_init_150 : decode cX8_init 150 = .ok (.putfield 67, 3) := by decide +kernel
theorem dX8_init_153 : decode cX8_init 153 = .ok (.aload_n 0, 1) := by decide +kernel
theorem dX8_init_154 : decode cX8_init 154 = .ok (.bipush 6, 2) := by decide +kernel
theorem dX8_init_156 : decode cX8_init 156 = .ok (.newarray .int, 2) := by decide +kernel
theorem dX8_init_158 : decode cX8_init 158 = .ok (.putfield 70, 3) := by decide +kernel
theorem dX8_init_161 : decode cX8_init 161 = .ok (.aload_n 0, 1) := by decide +kernel
theorem dX8_init_162 : decode cX8_init 162 = .ok (.bipush 6, 2) := by decide +kernel
theorem dX8_init_164 : decode cX8_init 164 = .ok (.newarray .boolean, 2) := by decide +kernel
theorem dX8_init_166 : decode cX8_init 166 = .ok (.putfield 73, 3) := by decide +kernel
theorem dX8_init_169 : decode cX8_init 169 = .ok (.aload_n 0, 1) := by decide +kernel
theorem dX8_init_170 : decode cX8_init 170 = .ok (.bipush 8, 2) := by decide +kernel
theorem dX8_init_172 : decode cX8_init 172 = .ok (.newarray .int, 2) := by decide +kernel
theorem dX8_init_174 : decode cX8_init 174 = .ok (.putfield 76, 3) := by decide +kernel
theorem dX8_init_177 : decode cX8_init 177 = .ok (.aload_n 0, 1) := by decide +kernel
theorem dX8_init_178 : decode cX8_init 178 = .ok (.bipush 8, 2) := by decide +kernel
theorem dX8_init_180 : decode cX8_init 180 = .ok (.newarray .int, 2) := by decide +kernel
theorem dX8_init_182 : decode cX8_init 182 = .ok (.putfield 79, 3) := by decide +kernel
theorem dX8_init_185 : decode cX8_init 185 = .ok (.aload_n 0, 1) := by decide +kernel
theorem dX8_init_186 : decode cX8_init 186 = .ok (.bipush 51, 2) := by decide +kernel
theorem dX8_init_188 : decode cX8_init 188 = .ok (.newarray .boolean, 2) := by decide +kernel
theorem dX8_init_190 : decode cX8_init 190 = .ok (.putfield 82, 3) := by decide +kernel
theorem dX8_init_193 : decode cX8_init 193 = .ok (.aload_n 0, 1) := by decide +kernel
theorem dX8_init_194 : decode cX8_init 194 = .ok (.bipush 51, 2) := by decide +kernel
theorem dX8_init_196 : decode cX8_init 196 = .ok (.newarray .boolean, 2) := by decide +kernel
theorem dX8_init_198 : decode cX8_init 198 = .ok (.putfield 85, 3) := by decide +kernel
theorem dX8_init_201 : decode cX8_init 201 = .ok (.aload_n 0, 1) := by decide +kernel
theorem dX8_init_202 : decode cX8_init 202 = .ok (.bipush 51, 2) := by decide +kernel
theorem dX8_init_204 : decode cX8_init 204 = .ok (.newarray .boolean, 2) := by decide +kernel
theorem dX8_init_206 : decode cX8_init 206 = .ok (.putfield 88, 3) := by decide +kernel
theorem dX8_init_209 : decode cX8_init 209 = .ok (.return_, 1) := by decide +kernel


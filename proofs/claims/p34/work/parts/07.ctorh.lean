def K_Judge (ι : Nat → ClassId) (p1 : Nat) (b : Nat → Nat) : va_W := [(b 0, .inr (3, [.ref p1, .ref (b 4), .ref (b 3), .ref (b 2), .ref (b 1), .int 0, .int 0, .int 0, .int 0, .int 0]))] ++ ([(b 1, .inl (ι 1, 51, .inl fun _ => 0))] ++ ([(b 2, .inl (ι 1, 51, .inl fun _ => 0))] ++ ([(b 3, .inl (ι 1, 51, .inl fun _ => 0))] ++ ([(b 4, .inl (ι 0, 6, .inl fun _ => 0))]))))
set_option maxRecDepth 40000 in
set_option maxHeartbeats 4000000 in
theorem k_Judge (l : Launch) (D : va_G) {cl : List vw_C} {tys : List (ClassId × FieldType)} {ι : Nat → ClassId} (hx : gx_std vwCl (gty ι) cl tys) (h0 : Nat) (p1 : Nat) : gx_mK l D cl tys yX3_init (.code yX3_init cX3_init 2 none :: gx_U) (gx_rmc 1 4 159) [.ref h0, .ref p1] [(h0, .inr (3, [.null, .null, .null, .null, .null, .int 0, .int 0, .int 0, .int 0, .int 0]))] (K_Judge ι p1) h0 4 159 := by
  refine gx_startK (V := [.ref h0, .ref p1]) 0 (by decide +kernel) rfl (Nat.le_of_ble_eq_true rfl) rfl (fun Γ hl hD hcl hty hnL C F M hin => ?_)
  subst hl; subst hD; subst hcl; subst hty
  refine gx_world (ws' := [(h0, .inr (3, [.null, .null, .null, .null, .null, .int 0, .int 0, .int 0, .int 0, .int 0]))] ++ ([] : va_W)) rfl ?_
  refine gx_aload_0 C dX3_init_0 rfl ?_
  refine gn_obj C (gx_mu (gx_t_2 (List.mem_of_getElem? (i := 10) rfl)) rfl) vn_obj vc_obj (by decide) (Nat.le_of_ble_eq_true rfl) dX3_init_1 ?_
  refine gx_aload_0 C dX3_init_4 rfl ?_
  refine gx_bipush (v := 6) C dX3_init_5 (by decide) ?_
  refine gn_newaP (k := 0) (n := 0) (z := 6) (P := [(h0, .inr (3, [.null, .null, .null, .null, .null, .int 0, .int 0, .int 0, .int 0, .int 0]))]) (rest := ([] : va_W)) (t0 := 0) (c0 := ι 0) (N := 6) (ty := .int) C M (gx_mu (gx_t_1 (List.mem_of_getElem? (i := 108) rfl)) rfl) rfl (by rw [hx.2]; rfl) (fun _ => rfl) (by decide) (by decide) (by decide) (by decide) (by decide) dX3_init_7 (fun q1 w2 hw2 => ?_)
  refine gn_putF (q0 := 0) C hin fl_X3_9 (cls_X3 hx) rfl rfl rfl rfl rfl (Nat.le_of_ble_eq_true rfl) dX3_init_9 (ws1 := [(h0, .inr (3, [.null, .ref q1, .null, .null, .null, .int 0, .int 0, .int 0, .int 0, .int 0]))] ++ w2) rfl ?_
  refine gx_aload_0 C dX3_init_12 rfl ?_
  refine gx_bipush (v := 51) C dX3_init_13 (by decide) ?_
  refine gn_newaP (k := 1) (n := 6) (z := 51) (P := [(h0, .inr (3, [.null, .ref q1, .null, .null, .null, .int 0, .int 0, .int 0, .int 0, .int 0]))]) (rest := w2) (t0 := 1) (c0 := ι 1) (N := 51) (ty := .boolean) C M (gx_mu (gx_t_1 (List.mem_of_getElem? (i := 136) rfl)) rfl) rfl (by rw [hx.2]; rfl) (fun _ => rfl) (by decide) (by decide) (by decide) (by decide) (by decide) dX3_init_15 (fun q3 w4 hw4 => ?_)
  refine gn_putF (q0 := 0) C hin fl_X3_15 (cls_X3 hx) rfl rfl rfl rfl rfl (Nat.le_of_ble_eq_true rfl) dX3_init_17 (ws1 := [(h0, .inr (3, [.null, .ref q1, .ref q3, .null, .null, .int 0, .int 0, .int 0, .int 0, .int 0]))] ++ w4) rfl ?_
  refine gx_aload_0 C dX3_init_20 rfl ?_
  refine gx_bipush (v := 51) C dX3_init_21 (by decide) ?_
  refine gn_newaP (k := 2) (n := 57) (z := 51) (P := [(h0, .inr (3, [.null, .ref q1, .ref q3, .null, .null, .int 0, .int 0, .int 0, .int 0, .int 0]))]) (rest := w4) (t0 := 1) (c0 := ι 1) (N := 51) (ty := .boolean) C M (gx_mu (gx_t_1 (List.mem_of_getElem? (i := 136) rfl)) rfl) rfl (by rw [hx.2]; rfl) (fun _ => rfl) (by decide) (by decide) (by decide) (by decide) (by decide) dX3_init_23 (fun q5 w6 hw6 => ?_)
  refine gn_putF (q0 := 0) C hin fl_X3_19 (cls_X3 hx) rfl rfl rfl rfl rfl (Nat.le_of_ble_eq_true rfl) dX3_init_25 (ws1 := [(h0, .inr (3, [.null, .ref q1, .ref q3, .ref q5, .null, .int 0, .int 0, .int 0, .int 0, .int 0]))] ++ w6) rfl ?_
  refine gx_aload_0 C dX3_init_28 rfl ?_
  refine gx_bipush (v := 51) C dX3_init_29 (by decide) ?_
  refine gn_newaP (k := 3) (n := 108) (z := 51) (P := [(h0, .inr (3, [.null, .ref q1, .ref q3, .ref q5, .null, .int 0, .int 0, .int 0, .int 0, .int 0]))]) (rest := w6) (t0 := 1) (c0 := ι 1) (N := 51) (ty := .boolean) C M (gx_mu (gx_t_1 (List.mem_of_getElem? (i := 136) rfl)) rfl) rfl (by rw [hx.2]; rfl) (fun _ => rfl) (by decide) (by decide) (by decide) (by decide) (by decide) dX3_init_31 (fun q7 w8 hw8 => ?_)
  refine gn_putF (q0 := 0) C hin fl_X3_22 (cls_X3 hx) rfl rfl rfl rfl rfl (Nat.le_of_ble_eq_true rfl) dX3_init_33 (ws1 := [(h0, .inr (3, [.null, .ref q1, .ref q3, .ref q5, .ref q7, .int 0, .int 0, .int 0, .int 0, .int 0]))] ++ w8) rfl ?_
  refine gx_aload_0 C dX3_init_36 rfl ?_
  refine gx_aload_1 C dX3_init_37 rfl ?_
  refine gn_putF (q0 := 0) C hin fl_X3_25 (cls_X3 hx) rfl rfl rfl rfl rfl (Nat.le_of_ble_eq_true rfl) dX3_init_38 (ws1 := [(h0, .inr (3, [.ref p1, .ref q1, .ref q3, .ref q5, .ref q7, .int 0, .int 0, .int 0, .int 0, .int 0]))] ++ w8) rfl ?_
  subst hw8
  subst hw6
  subst hw4
  subst hw2
  refine gx_world (ws' := K_Judge ι p1 (fun k => ([h0, q7, q5, q3, q1] : List Nat).getD k 0)) rfl ?_
  exact gn_vret (Wb := K_Judge ι p1) (fun k => ([h0, q7, q5, q3, q1] : List Nat).getD k 0) C F dX3_init_41 rfl
theorem vi_X7 : Cond.initialized RX7 ∈ gx_U := gx_mu (gx_t_1 (List.mem_of_getElem? (i := 1) rfl)) rfl
theorem vn_X7_init : Cond.instanceMethod yX7_init ∈ gx_U := gx_mu (gx_t_1 (List.mem_of_getElem? (i := 15) rfl)) rfl
theorem vc_X7_init : Cond.code yX7_init cX7_init 2 none ∈ gx_U := gx_mu (gx_t_1 (List.mem_of_getElem? (i := 16) rfl)) rfl
theorem df_X7 : ∀ j, j < 15 → defaultValue (tyX7 j) = vp_V [.null, .null, .null, .null, .null, .null, .null, .null, .null, .null, .int 0, .int 0, .int 0, .int 0, .int 0] j := fun j hj => match j, hj with
  | 0, _ => rfl
  | 1, _ => rfl
  | 2, _ => rfl
  | 3, _ => rfl
  | 4, _ => rfl
  | 5, _ => rfl
  | 6, _ => rfl
  | 7, _ => rfl
  | 8, _ => rfl
  | 9, _ => rfl
  | 10, _ => rfl
  | 11, _ => rfl
  | 12, _ => rfl
  | 13, _ => rfl
  | 14, _ => rfl
  | j + 15, hj => absurd hj (by omega)
theorem dX7_init_0 : decode cX7_init 0 = .ok (.aload_n 0, 1) := by decide +kernel
theorem dX7_init_1 : decode cX7_init 1 = .ok (.invokespecial 1, 3) := by decide +kernel
theorem dX7_init_4 : decode cX7_init 4 = .ok (.aload_n 0, 1) := by decide +kernel
theorem dX7_init_5 : decode cX7_init 5 = .ok (.new 7, 3) := by decide +kernel
theorem dX7_init_8 : decode cX7_init 8 = .ok (.dup, 1) := by decide +kernel
theorem dX7_init_9 : decode cX7_init 9 = .ok (.invokespecial 9, 3) := by decide +kernel
theorem dX7_init_12 : decode cX7_init 12 = .ok (.putfield 10, 3) := by decide +kernel
theorem dX7_init_15 : decode cX7_init 15 = .ok (.aload_n 0, 1) := by decide +kernel
theorem dX7_init_16 : decode cX7_init 16 = .ok (.new 16, 3) := by decide +kernel
theorem dX7_init_19 : decode cX7_init 19 = .ok (.dup, 1) := by decide +kernel
theorem dX7_init_20 : decode cX7_init 20 = .ok (.aload_n 0, 1) := by decide +kernel
theorem dX7_init_21 : decode cX7_init 21 = .ok (.getfield 10, 3) := by decide +kernel
theorem dX7_init_24 : decode cX7_init 24 = .ok (.invokespecial 18, 3) := by decide +kernel
theorem dX7_init_27 : decode cX7_init 27 = .ok (.putfield 21, 3) := by decide +kernel
theorem dX7_init_30 : decode cX7_init 30 = .ok (.aload_n 0, 1) := by decide +kernel
theorem dX7_init_31 : decode cX7_init 31 = .ok (.new 16, 3) := by decide +kernel
theorem dX7_init_34 : decode cX7_init 34 = .ok (.dup, 1) := by decide +kernel
theorem dX7_init_35 : decode cX7_init 35 = .ok (.aload_n 0, 1) := by decide +kernel
theorem dX7_init_36 : decode cX7_init 36 = .ok (.getfield 10, 3) := by decide +kernel
theorem dX7_init_39 : decode cX7_init 39 = .ok (.invokespecial 18, 3) := by decide +kernel
theorem dX7_init_42 : decode cX7_init 42 = .ok (.putfield 25, 3) := by decide +kernel
theorem dX7_init_45 : decode cX7_init 45 = .ok (.aload_n 0, 1) := by decide +kernel
theorem dX7_init_46 : decode cX7_init 46 = .ok (.new 16, 3) := by decide +kernel
theorem dX7_init_49 : decode cX7_init 49 = .ok (.dup, 1) := by decide +kernel
theorem dX7_init_50 : decode cX7_init 50 = .ok (.aload_n 0, 1) := by decide +kernel
theorem dX7_init_51 : decode cX7_init 51 = .ok (.getfield 10, 3) := by decide +kernel
theorem dX7_init_54 : decode cX7_init 54 = .ok (.invokespecial 18, 3) := by decide +kernel
theorem dX7_init_57 : decode cX7_init 57 = .ok (.putfield 28, 3) := by decide +kernel
theorem dX7_init_60 : decode cX7_init 60 = .ok (.aload_n 0, 1) := by decide +kernel
theorem dX7_init_61 : decode cX7_init 61 = .ok (.new 31, 3) := by decide +kernel
theorem dX7_init_64 : decode cX7_init 64 = .ok (.dup, 1) := by decide +kernel
theorem dX7_init_65 : decode cX7_init 65 = .ok (.aload_n 0, 1) := by decide +kernel
theorem dX7_init_66 : decode cX7_init 66 = .ok (.getfield 10, 3) := by decide +kernel
theorem dX7_init_69 : decode cX7_init 69 = .ok (.invokespecial 33, 3) := by decide +kernel
theorem dX7_init_72 : decode cX7_init 72 = .ok (.putfield 34, 3) := by decide +kernel
theorem dX7_init_75 : decode cX7_init 75 = .ok (.aload_n 0, 1) := by decide +kernel
theorem dX7_init_76 : decode cX7_init 76 = .ok (.new 38, 3) := by decide +kernel
theorem dX7_init_79 : decode cX7_init 79 = .ok (.dup, 1) := by decide +kernel
theorem dX7_init_80 : decode cX7_init 80 = .ok (.aload_n 0, 1) := by decide +kernel
theorem dX7_init_81 : decode cX7_init 81 = .ok (.getfield 10, 3) := by decide +kernel
theorem dX7_init_84 : decode cX7_init 84 = .ok (.aload_n 0, 1) := by decide +kernel
theorem dX7_init_85 : decode cX7_init 85 = .ok (.getfield 34, 3) := by decide +kernel
theorem dX7_init_88 : decode cX7_init 88 = .ok (.invokespecial 40, 3) := by decide +kernel
theorem dX7_init_91 : decode cX7_init 91 = .ok (.putfield 43, 3) := by decide +kernel
theorem dX7_init_94 : decode cX7_init 94 = .ok (.aload_n 0, 1) := by decide +kernel
theorem dX7_init_95 : decode cX7_init 95 = .ok (.new 47, 3) := by decide +kernel
theorem dX7_init_98 : decode cX7_init 98 = .ok (.dup, 1) := by decide +kernel
theorem dX7_init_99 : decode cX7_init 99 = .ok (.invokespecial 49, 3) := by decide +kernel
theorem dX7_init_102 : decode cX7_init 102 = .ok (.putfield 50, 3) := by decide +kernel
theorem dX7_init_105 : decode cX7_init 105 = .ok (.aload_n 0, 1) := by decide +kernel
theorem dX7_init_106 : decode cX7_init 106 = .ok (.iconst 4, 1) := by decide +kernel
theorem dX7_init_107 : decode cX7_init 107 = .ok (.anewarray 47, 3) := by decide +kernel
theorem dX7_init_110 : decode cX7_init 110 = .ok (.putfield 54, 3) := by decide +kernel
theorem dX7_init_113 : decode cX7_init 113 = .ok (.aload_n 0, 1) := by decide +kernel
theorem dX7_init_114 : decode cX7_init 114 = .ok (.new 58, 3) := by decide +kernel
theorem dX7_init_117 : decode cX7_init 117 = .ok (.dup, 1) := by decide +kernel
theorem dX7_init_118 : decode cX7_init 118 = .ok (.invokespecial 60, 3) := by decide +kernel
theorem dX7_init_121 : decode cX7_init 121 = .ok (.putfield 61, 3) := by decide +kernel
theorem dX7_init_124 : decode cX7_init 124 = .ok (.aload_n 0, 1) := by decide +kernel
theorem dX7_init_125 : decode cX7_init 125 = .ok (.new 65, 3) := by decide +kernel
theorem dX7_init_128 : decode cX7_init 128 = .ok (.dup, 1) := by decide +kernel
theorem dX7_init_129 : decode cX7_init 129 = .ok (.aload_n 0, 1) := by decide +kernel
theorem dX7_init_130 : decode cX7_init 130 = .ok (.getfield 10, 3) := by decide +kernel
theorem dX7_init_133 : decode cX7_init 133 = .ok (.invokespecial 67, 3) := by decide +kernel
theorem dX7_init_136 : decode cX7_init 136 = .ok (.putfield 68, 3) := by decide +kernel
theorem dX7_init_139 : decode cX7_init 139 = .ok (.iconst 0, 1) := by decide +kernel
theorem dX7_init_140 : decode cX7_init 140 = .ok (.istore_n 1, 1) := by decide +kernel
theorem dX7_init_141 : decode cX7_init 141 = .ok (.iload_n 1, 1) := by decide +kernel
theorem dX7_init_142 : decode cX7_init 142 = .ok (.aload_n 0, 1) := by decide +kernel
theorem dX7_init_143 : decode cX7_init 143 = .ok (.getfield 54, 3) := by decide +kernel
theorem dX7_init_146 : decode cX7_init 146 = .ok (.arraylength, 1) := by decide +kernel
theorem dX7_init_147 : decode cX7_init 147 = .ok (.if_icmp .ge 22, 3) := by decide +kernel
theorem dX7_init_150 : decode cX7_init 150 = .ok (.aload_n 0, 1) := by decide +kernel
theorem dX7_init_151 : decode cX7_init 151 = .ok (.getfield 54, 3) := by decide +kernel
theorem dX7_init_154 : decode cX7_init 154 = .ok (.iload_n 1, 1) := by decide +kernel
theorem dX7_init_155 : decode cX7_init 155 = .ok (.new 47, 3) := by decide +kernel
theorem dX7_init_158 : decode cX7_init 158 = .ok (.dup, 1) := by decide +kernel
theorem dX7_init_159 : decode cX7_init 159 = .ok (.invokespecial 49, 3) := by decide +kernel
theorem dX7_init_162 : decode cX7_init 162 = .ok (.aastore, 1) := by decide +kernel
theorem dX7_init_163 : decode cX7_init 163 = .ok (.iinc 1 1, 3) := by decide +kernel
theorem dX7_init_166 : decode cX7_init 166 = .ok (.goto (-25), 3) := by decide +kernel
theorem dX7_init_169 : decode cX7_init 169 = .ok (.return_, 1) := by decide +kernel


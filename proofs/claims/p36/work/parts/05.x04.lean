def m_ShopsAsOne_count (x1 : Int32) (S : gx_S) : Option (Int32) := if x1 = 0 then some (S 1 0) else if x1 = 1 then some (S 1 1) else if x1 = 2 then some (S 1 2) else if x1 = 3 then some (S 0 10) else if x1 = 4 then some (S 66 1) else if x1 = 5 then gx_cp (m_Standing_soldBy 0 (-1) S) fun v11 => some v11 else if x1 = 6 then some (S 0 11) else some (-102)
set_option maxRecDepth 20000 in
set_option maxHeartbeats 1000000 in
theorem c_ShopsAsOne_count (l : Launch) (D : va_G) {cl : List vw_C} {tys : List (ClassId × FieldType)} {ι : Nat → ClassId} (hx : gx_std vwCl (gty ι) cl tys) (a : Nat → Nat) (x1 : Int32) (S : gx_S) {out : Int32} (h : m_ShopsAsOne_count x1 S = some out) : gx_mI l D cl tys yX7_count (.code yX7_count cX7_count 2 ((Option.some Jvm.ClassFile.FieldType.int)) :: gx_U) (gx_rm 3) [.ref (a 0), .int x1] (wX a ι S) (wX a ι) (out, S) := by
  unfold m_ShopsAsOne_count at h
  refine gx_startI (V := [.ref (a 0), .int x1]) 0 (by decide +kernel) (Nat.le_of_ble_eq_true rfl) rfl (fun Γ hl hD hcl hty hnL C F => ?_)
  subst hl; subst hD; subst hcl; subst hty
  refine gx_iload_1 C dX7_count_0 rfl ?_
  by_cases hc1 : x1 = 0
  · have h := gi_t hc1 h
    refine gx_tin (tgt := 44) C dX7_count_1 (by rw [hc1]; decide) (by rw [hc1]; decide) (by rw [hc1]; rfl) (by decide) ?_
    refine gx_aload_0 C dX7_count_44 rfl ?_
    refine gs_getf (q := 0) C fl_X7_10 (cls_X7 hx) lt_X_ShopsAsOne (oc_X_ShopsAsOne a ι _) rfl dX7_count_45 ?_
    refine gs_getf (q := 1) C fl_X7_159 (cls_X5 hx) lt_X_Street (oc_X_Street a ι _) rfl dX7_count_48 ?_
    exact gx_iret C F rfl dX7_count_51 (congrArg (fun z => (z, S)) (Option.some.inj h))
  · have h := gi_f hc1 h
    by_cases hc2 : x1 = 1
    · have h := gi_t hc2 h
      refine gx_tin (tgt := 52) C dX7_count_1 (by rw [hc2]; decide) (by rw [hc2]; decide) (by rw [hc2]; rfl) (by decide) ?_
      refine gx_aload_0 C dX7_count_52 rfl ?_
      refine gs_getf (q := 0) C fl_X7_10 (cls_X7 hx) lt_X_ShopsAsOne (oc_X_ShopsAsOne a ι _) rfl dX7_count_53 ?_
      refine gs_getf (q := 1) C fl_X7_175 (cls_X5 hx) lt_X_Street (oc_X_Street a ι _) rfl dX7_count_56 ?_
      exact gx_iret C F rfl dX7_count_59 (congrArg (fun z => (z, S)) (Option.some.inj h))
    · have h := gi_f hc2 h
      by_cases hc3 : x1 = 2
      · have h := gi_t hc3 h
        refine gx_tin (tgt := 60) C dX7_count_1 (by rw [hc3]; decide) (by rw [hc3]; decide) (by rw [hc3]; rfl) (by decide) ?_
        refine gx_aload_0 C dX7_count_60 rfl ?_
        refine gs_getf (q := 0) C fl_X7_10 (cls_X7 hx) lt_X_ShopsAsOne (oc_X_ShopsAsOne a ι _) rfl dX7_count_61 ?_
        refine gs_getf (q := 1) C fl_X7_202 (cls_X5 hx) lt_X_Street (oc_X_Street a ι _) rfl dX7_count_64 ?_
        exact gx_iret C F rfl dX7_count_67 (congrArg (fun z => (z, S)) (Option.some.inj h))
      · have h := gi_f hc3 h
        by_cases hc4 : x1 = 3
        · have h := gi_t hc4 h
          refine gx_tin (tgt := 68) C dX7_count_1 (by rw [hc4]; decide) (by rw [hc4]; decide) (by rw [hc4]; rfl) (by decide) ?_
          refine gx_aload_0 C dX7_count_68 rfl ?_
          refine gs_getf (q := 0) C fl_X7_266 (cls_X7 hx) lt_X_ShopsAsOne (oc_X_ShopsAsOne a ι _) rfl dX7_count_69 ?_
          exact gx_iret C F rfl dX7_count_72 (congrArg (fun z => (z, S)) (Option.some.inj h))
        · have h := gi_f hc4 h
          by_cases hc5 : x1 = 4
          · have h := gi_t hc5 h
            refine gx_tin (tgt := 73) C dX7_count_1 (by rw [hc5]; decide) (by rw [hc5]; decide) (by rw [hc5]; rfl) (by decide) ?_
            refine gx_aload_0 C dX7_count_73 rfl ?_
            refine gs_getf (q := 0) C fl_X7_50 (cls_X7 hx) lt_X_ShopsAsOne (oc_X_ShopsAsOne a ι _) rfl dX7_count_74 ?_
            refine gs_getf (q := 66) C fl_X7_249 (cls_X6 hx) (lt_X_Text (q := 0) (by decide)) (oc_X_Text a ι _ (q := 0) (by decide)) rfl dX7_count_77 ?_
            exact gx_iret C F rfl dX7_count_80 (congrArg (fun z => (z, S)) (Option.some.inj h))
          · have h := gi_f hc5 h
            by_cases hc6 : x1 = 5
            · have h := gi_t hc6 h
              refine gx_tin (tgt := 81) C dX7_count_1 (by rw [hc6]; decide) (by rw [hc6]; decide) (by rw [hc6]; rfl) (by decide) ?_
              refine gx_aload_0 C dX7_count_81 rfl ?_
              refine gs_getf (q := 0) C fl_X7_21 (cls_X7 hx) lt_X_ShopsAsOne (oc_X_ShopsAsOne a ι _) rfl dX7_count_82 ?_
              refine gx_iconstm1 C dX7_count_85 ?_
              obtain ⟨v9, e8, h⟩ := gi_cp h
              refine gc_IV C (c_Standing_soldBy (gx_l Γ) (gx_D Γ) hx a (r := 0) (by decide) _ _ e8) (gx_cw C gx_uu lk_X7_113 (by decide) (by decide)) (cls_X4 hx).1 (gs_recv (q := 21) (lt_X_Standing (q := 0) (by decide)) (oc_X_Standing a ι _ (q := 0) (by decide))) rfl rfl (Nat.le_of_ble_eq_true rfl) ⟨Nat.zero_le _, Nat.zero_le _⟩ dX7_count_86 ?_
              exact gx_iret C F rfl dX7_count_89 (congrArg (fun z => (z, S)) (Option.some.inj h))
            · have h := gi_f hc6 h
              by_cases hc7 : x1 = 6
              · have h := gi_t hc7 h
                refine gx_tin (tgt := 90) C dX7_count_1 (by rw [hc7]; decide) (by rw [hc7]; decide) (by rw [hc7]; rfl) (by decide) ?_
                refine gx_aload_0 C dX7_count_90 rfl ?_
                refine gs_getf (q := 0) C fl_X7_285 (cls_X7 hx) lt_X_ShopsAsOne (oc_X_ShopsAsOne a ι _) rfl dX7_count_91 ?_
                exact gx_iret C F rfl dX7_count_94 (congrArg (fun z => (z, S)) (Option.some.inj h))
              · have h := gi_f hc7 h
                refine gx_tout (tgt := 95) C dX7_count_1 (by have := lv_neT hc1 (a := 0) (by decide); have := lv_neT hc2 (a := 1) (by decide); have := lv_neT hc3 (a := 2) (by decide); have := lv_neT hc4 (a := 3) (by decide); have := lv_neT hc5 (a := 4) (by decide); have := lv_neT hc6 (a := 5) (by decide); have := lv_neT hc7 (a := 6) (by decide); omega) (by decide) ?_
                refine gx_bipush (v := (-102)) C dX7_count_95 (by decide) ?_
                exact gx_iret C F rfl dX7_count_97 (congrArg (fun z => (z, S)) (Option.some.inj h))

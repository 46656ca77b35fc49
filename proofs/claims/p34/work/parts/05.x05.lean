def m_ShopsAsOne_about (x1 : Int32) (x2 : Int32) (S : gx_S) : Option (Int32) := gx_cp (m_ShopsAsOne_isNoShop x1 S) fun v2 => if v2 = 0 then if x2 = 0 then gx_ck 6 x1 (some (S 23 x1.toNatClampNeg)) else if x2 = 1 then gx_ck 6 x1 (some (S 4 x1.toNatClampNeg)) else if x2 = 2 then gx_ck 6 x1 (some (S 5 x1.toNatClampNeg)) else if x2 = 3 then gx_ck 6 x1 (some (S 22 x1.toNatClampNeg)) else if x2 = 4 then gx_cp (m_Standing_isOpen 0 x1 S) fun v21 => if v21 = 0 then some 0 else some 1 else if x2 = 5 then gx_cp (m_Standing_soldBy 0 ((1 : Int32) <<< (x1 &&& 31)) S) fun v19 => some v19 else some (-102) else some (-101)
set_option maxRecDepth 20000 in
set_option maxHeartbeats 1000000 in
theorem c_ShopsAsOne_about (l : Launch) (D : va_G) {cl : List vw_C} {tys : List (ClassId × FieldType)} {ι : Nat → ClassId} (hx : gx_std vwCl (gty ι) cl tys) (a : Nat → Nat) (x1 : Int32) (x2 : Int32) (S : gx_S) {out : Int32} (h : m_ShopsAsOne_about x1 x2 S = some out) : gx_mI l D cl tys yX7_about (.code yX7_about cX7_about 3 ((Option.some Jvm.ClassFile.FieldType.int)) :: gx_U) (gx_rm 3) [.ref (a 0), .int x1, .int x2] (wX a ι S) (wX a ι) (out, S) := by
  unfold m_ShopsAsOne_about at h
  refine gx_startI (V := [.ref (a 0), .int x1, .int x2]) 0 (by decide +kernel) (Nat.le_of_ble_eq_true rfl) rfl (fun Γ hl hD hcl hty hnL C F => ?_)
  subst hl; subst hD; subst hcl; subst hty
  refine gx_aload_0 C dX7_about_0 rfl ?_
  refine gx_iload_1 C dX7_about_1 rfl ?_
  obtain ⟨v2, e1, h⟩ := gi_cp h
  refine gc_IV C (c_ShopsAsOne_isNoShop (gx_l Γ) (gx_D Γ) hx a _ _ e1) (gx_cw C gx_uu lk_X7_101 (by decide) (by decide)) (cls_X7 hx).1 (gs_recv (q := 0) lt_X_ShopsAsOne (oc_X_ShopsAsOne a ι _)) rfl rfl (Nat.le_of_ble_eq_true rfl) ⟨Nat.zero_le _, Nat.zero_le _⟩ dX7_about_2 ?_
  refine gx_if_eq (tgt := 11) C dX7_about_5 (by decide) (fun hc27 => ?_) (fun hc27 => ?_)
  · have h := gi_t hc27 h
    refine gx_iload_2 C dX7_about_11 rfl ?_
    by_cases hc3 : x2 = 0
    · have h := gi_t hc3 h
      refine gx_tin (tgt := 52) C dX7_about_12 (by rw [hc3]; decide) (by rw [hc3]; decide) (by rw [hc3]; rfl) (by decide) ?_
      refine gx_aload_0 C dX7_about_52 rfl ?_
      refine gs_getf (q := 0) C fl_X7_21 (cls_X7 hx) lt_X_ShopsAsOne (oc_X_ShopsAsOne a ι _) rfl dX7_about_53 ?_
      refine gs_getf (q := 21) C fl_X7_95 (cls_X4 hx) (lt_X_Standing (q := 0) (by decide)) (oc_X_Standing a ι _ (q := 0) (by decide)) rfl dX7_about_56 ?_
      refine gx_iload_1 C dX7_about_59 rfl ?_
      obtain ⟨hi9, h⟩ := gi_ck h
      refine gs_iald (q := 23) C (ac_X_Standing_whose hx a (q := 0) (by decide)) (lt_X_Standing_whose (q := 0) (by decide)) hi9 dX7_about_60 ?_
      exact gx_iret C F rfl dX7_about_61 (congrArg (fun z => (z, S)) (Option.some.inj h))
    · have h := gi_f hc3 h
      by_cases hc4 : x2 = 1
      · have h := gi_t hc4 h
        refine gx_tin (tgt := 62) C dX7_about_12 (by rw [hc4]; decide) (by rw [hc4]; decide) (by rw [hc4]; rfl) (by decide) ?_
        refine gx_aload_0 C dX7_about_62 rfl ?_
        refine gs_getf (q := 0) C fl_X7_10 (cls_X7 hx) lt_X_ShopsAsOne (oc_X_ShopsAsOne a ι _) rfl dX7_about_63 ?_
        refine gs_getf (q := 1) C fl_X7_104 (cls_X5 hx) lt_X_Street (oc_X_Street a ι _) rfl dX7_about_66 ?_
        refine gx_iload_1 C dX7_about_69 rfl ?_
        obtain ⟨hi10, h⟩ := gi_ck h
        refine gs_iald (q := 4) C (ac_X_Street_place hx a) lt_X_Street_place hi10 dX7_about_70 ?_
        exact gx_iret C F rfl dX7_about_71 (congrArg (fun z => (z, S)) (Option.some.inj h))
      · have h := gi_f hc4 h
        by_cases hc5 : x2 = 2
        · have h := gi_t hc5 h
          refine gx_tin (tgt := 72) C dX7_about_12 (by rw [hc5]; decide) (by rw [hc5]; decide) (by rw [hc5]; rfl) (by decide) ?_
          refine gx_aload_0 C dX7_about_72 rfl ?_
          refine gs_getf (q := 0) C fl_X7_10 (cls_X7 hx) lt_X_ShopsAsOne (oc_X_ShopsAsOne a ι _) rfl dX7_about_73 ?_
          refine gs_getf (q := 1) C fl_X7_107 (cls_X5 hx) lt_X_Street (oc_X_Street a ι _) rfl dX7_about_76 ?_
          refine gx_iload_1 C dX7_about_79 rfl ?_
          obtain ⟨hi11, h⟩ := gi_ck h
          refine gs_iald (q := 5) C (ac_X_Street_cost hx a) lt_X_Street_cost hi11 dX7_about_80 ?_
          exact gx_iret C F rfl dX7_about_81 (congrArg (fun z => (z, S)) (Option.some.inj h))
        · have h := gi_f hc5 h
          by_cases hc6 : x2 = 3
          · have h := gi_t hc6 h
            refine gx_tin (tgt := 82) C dX7_about_12 (by rw [hc6]; decide) (by rw [hc6]; decide) (by rw [hc6]; rfl) (by decide) ?_
            refine gx_aload_0 C dX7_about_82 rfl ?_
            refine gs_getf (q := 0) C fl_X7_21 (cls_X7 hx) lt_X_ShopsAsOne (oc_X_ShopsAsOne a ι _) rfl dX7_about_83 ?_
            refine gs_getf (q := 21) C fl_X7_98 (cls_X4 hx) (lt_X_Standing (q := 0) (by decide)) (oc_X_Standing a ι _ (q := 0) (by decide)) rfl dX7_about_86 ?_
            refine gx_iload_1 C dX7_about_89 rfl ?_
            obtain ⟨hi12, h⟩ := gi_ck h
            refine gs_iald (q := 22) C (ac_X_Standing_price hx a (q := 0) (by decide)) (lt_X_Standing_price (q := 0) (by decide)) hi12 dX7_about_90 ?_
            exact gx_iret C F rfl dX7_about_91 (congrArg (fun z => (z, S)) (Option.some.inj h))
          · have h := gi_f hc6 h
            by_cases hc7 : x2 = 4
            · have h := gi_t hc7 h
              refine gx_tin (tgt := 92) C dX7_about_12 (by rw [hc7]; decide) (by rw [hc7]; decide) (by rw [hc7]; rfl) (by decide) ?_
              refine gx_aload_0 C dX7_about_92 rfl ?_
              refine gs_getf (q := 0) C fl_X7_21 (cls_X7 hx) lt_X_ShopsAsOne (oc_X_ShopsAsOne a ι _) rfl dX7_about_93 ?_
              refine gx_iload_1 C dX7_about_96 rfl ?_
              obtain ⟨v14, e13, h⟩ := gi_cp h
              refine gc_IV C (c_Standing_isOpen (gx_l Γ) (gx_D Γ) hx a (r := 0) (by decide) _ _ e13) (gx_cw C gx_uu lk_X7_110 (by decide) (by decide)) (cls_X4 hx).1 (gs_recv (q := 21) (lt_X_Standing (q := 0) (by decide)) (oc_X_Standing a ι _ (q := 0) (by decide))) rfl rfl (Nat.le_of_ble_eq_true rfl) ⟨Nat.zero_le _, Nat.zero_le _⟩ dX7_about_97 ?_
              refine gx_if_eq (tgt := 107) C dX7_about_100 (by decide) (fun hc15 => ?_) (fun hc15 => ?_)
              · have h := gi_t hc15 h
                refine gx_iconst0 C dX7_about_107 ?_
                exact gx_iret C F rfl dX7_about_108 (congrArg (fun z => (z, S)) (Option.some.inj h))
              · have h := gi_f hc15 h
                refine gx_iconst1 C dX7_about_103 ?_
                refine gx_goto (tgt := 108) C dX7_about_104 (by decide) ?_
                exact gx_iret C F rfl dX7_about_108 (congrArg (fun z => (z, S)) (Option.some.inj h))
            · have h := gi_f hc7 h
              by_cases hc8 : x2 = 5
              · have h := gi_t hc8 h
                refine gx_tin (tgt := 109) C dX7_about_12 (by rw [hc8]; decide) (by rw [hc8]; decide) (by rw [hc8]; rfl) (by decide) ?_
                refine gx_aload_0 C dX7_about_109 rfl ?_
                refine gs_getf (q := 0) C fl_X7_21 (cls_X7 hx) lt_X_ShopsAsOne (oc_X_ShopsAsOne a ι _) rfl dX7_about_110 ?_
                refine gx_iconst1 C dX7_about_113 ?_
                refine gx_iload_1 C dX7_about_114 rfl ?_
                refine gx_ishl C dX7_about_115 ?_
                obtain ⟨v17, e16, h⟩ := gi_cp h
                refine gc_IV C (c_Standing_soldBy (gx_l Γ) (gx_D Γ) hx a (r := 0) (by decide) _ _ e16) (gx_cw C gx_uu lk_X7_113 (by decide) (by decide)) (cls_X4 hx).1 (gs_recv (q := 21) (lt_X_Standing (q := 0) (by decide)) (oc_X_Standing a ι _ (q := 0) (by decide))) rfl rfl (Nat.le_of_ble_eq_true rfl) ⟨Nat.zero_le _, Nat.zero_le _⟩ dX7_about_116 ?_
                exact gx_iret C F rfl dX7_about_119 (congrArg (fun z => (z, S)) (Option.some.inj h))
              · have h := gi_f hc8 h
                refine gx_tout (tgt := 120) C dX7_about_12 (by have := lv_neT hc3 (a := 0) (by decide); have := lv_neT hc4 (a := 1) (by decide); have := lv_neT hc5 (a := 2) (by decide); have := lv_neT hc6 (a := 3) (by decide); have := lv_neT hc7 (a := 4) (by decide); have := lv_neT hc8 (a := 5) (by decide); omega) (by decide) ?_
                refine gx_bipush (v := (-102)) C dX7_about_120 (by decide) ?_
                exact gx_iret C F rfl dX7_about_122 (congrArg (fun z => (z, S)) (Option.some.inj h))
  · have h := gi_f hc27 h
    refine gx_bipush (v := (-101)) C dX7_about_8 (by decide) ?_
    exact gx_iret C F rfl dX7_about_10 (congrArg (fun z => (z, S)) (Option.some.inj h))
def m_ShopsAsOne_price (x1 : Int32) (x2 : Int32) (S : gx_S) : Option (Int32 × gx_S) := gx_cp (m_ShopsAsOne_isNoShop x1 S) fun v2 => if v2 = 0 then gx_cp (m_ShopsAsOne_isNot x2 0 9 S) fun v4 => if v4 = 0 then gx_ck 6 x1 (gx_let (gx_st S 22 x1.toNatClampNeg x2) fun S6 => some (S 22 x1.toNatClampNeg, S6)) else some ((-102), S) else some ((-101), S)
set_option maxRecDepth 20000 in
set_option maxHeartbeats 1000000 in
theorem c_ShopsAsOne_price (l : Launch) (D : va_G) {cl : List vw_C} {tys : List (ClassId × FieldType)} {ι : Nat → ClassId} (hx : gx_std vwCl (gty ι) cl tys) (a : Nat → Nat) (x1 : Int32) (x2 : Int32) (S : gx_S) {out : Int32 × gx_S} (h : m_ShopsAsOne_price x1 x2 S = some out) : gx_mI l D cl tys yX7_price (.code yX7_price cX7_price 4 ((Option.some Jvm.ClassFile.FieldType.int)) :: gx_U) (gx_rm 2) [.ref (a 0), .int x1, .int x2] (wX a ι S) (wX a ι) out := by
  unfold m_ShopsAsOne_price at h
  refine gx_startI (V := [.ref (a 0), .int x1, .int x2, .null]) 1 (by decide +kernel) (Nat.le_of_ble_eq_true rfl) rfl (fun Γ hl hD hcl hty hnL C F => ?_)
  subst hl; subst hD; subst hcl; subst hty
  refine gx_aload_0 C dX7_price_0 rfl ?_
  refine gx_iload_1 C dX7_price_1 rfl ?_
  obtain ⟨v2, e1, h⟩ := gi_cp h
  refine gc_IV C (c_ShopsAsOne_isNoShop (gx_l Γ) (gx_D Γ) hx a _ _ e1) (gx_cw C gx_uu lk_X7_101 (by decide) (by decide)) (cls_X7 hx).1 (gs_recv (q := 0) lt_X_ShopsAsOne (oc_X_ShopsAsOne a ι _)) rfl rfl (Nat.le_of_ble_eq_true rfl) ⟨Nat.zero_le _, Nat.zero_le _⟩ dX7_price_2 ?_
  refine gx_if_eq (tgt := 11) C dX7_price_5 (by decide) (fun hc9 => ?_) (fun hc9 => ?_)
  · have h := gi_t hc9 h
    refine gx_iload_2 C dX7_price_11 rfl ?_
    refine gx_iconst0 C dX7_price_12 ?_
    refine gx_bipush (v := 9) C dX7_price_13 (by decide) ?_
    obtain ⟨v4, e3, h⟩ := gi_cp h
    refine gc_IS C (c_ShopsAsOne_isNot (gx_l Γ) (gx_D Γ) hx a _ _ _ _ e3) (gx_cwS C gx_uu lk_X7_72 (by decide) (by decide)) rfl rfl (Nat.le_of_ble_eq_true rfl) ⟨Nat.zero_le _, Nat.zero_le _⟩ dX7_price_15 ?_
    refine gx_if_eq (tgt := 24) C dX7_price_18 (by decide) (fun hc8 => ?_) (fun hc8 => ?_)
    · have h := gi_t hc8 h
      refine gx_aload_0 C dX7_price_24 rfl ?_
      refine gs_getf (q := 0) C fl_X7_21 (cls_X7 hx) lt_X_ShopsAsOne (oc_X_ShopsAsOne a ι _) rfl dX7_price_25 ?_
      refine gs_getf (q := 21) C fl_X7_98 (cls_X4 hx) (lt_X_Standing (q := 0) (by decide)) (oc_X_Standing a ι _ (q := 0) (by decide)) rfl dX7_price_28 ?_
      refine gx_iload_1 C dX7_price_31 rfl ?_
      obtain ⟨hi5, h⟩ := gi_ck h
      refine gs_iald (q := 22) C (ac_X_Standing_price hx a (q := 0) (by decide)) (lt_X_Standing_price (q := 0) (by decide)) hi5 dX7_price_32 ?_
      refine gx_istore_3 C dX7_price_33 (by rw [hnL]; decide) trivial ?_
      refine gx_aload_0 C dX7_price_34 rfl ?_
      refine gs_getf (q := 0) C fl_X7_21 (cls_X7 hx) lt_X_ShopsAsOne (oc_X_ShopsAsOne a ι _) rfl dX7_price_35 ?_
      refine gs_getf (q := 21) C fl_X7_98 (cls_X4 hx) (lt_X_Standing (q := 0) (by decide)) (oc_X_Standing a ι _ (q := 0) (by decide)) rfl dX7_price_38 ?_
      refine gx_iload_1 C dX7_price_41 rfl ?_
      refine gx_iload_2 C dX7_price_42 rfl ?_
      obtain ⟨S6, e7, h⟩ := gi_let h
      refine gs_iast (q := 22) C (ac_X_Standing_price hx a (q := 0) (by decide)) (lt_X_Standing_price (q := 0) (by decide)) hi5 e7 dX7_price_43 ?_
      refine gx_iload_3 C dX7_price_44 rfl ?_
      exact gx_iret C F rfl dX7_price_45 (Option.some.inj h)
    · have h := gi_f hc8 h
      refine gx_bipush (v := (-102)) C dX7_price_21 (by decide) ?_
      exact gx_iret C F rfl dX7_price_23 (Option.some.inj h)
  · have h := gi_f hc9 h
    refine gx_bipush (v := (-101)) C dX7_price_8 (by decide) ?_
    exact gx_iret C F rfl dX7_price_10 (Option.some.inj h)
def m_ShopsAsOne_sort_72 (x1 : Int32) (x2 : Int32) (x3 : Int32) (x4 : Int32) (x5 : Int32) (x6 : Int32) (S : gx_S) : Option (Int32 × gx_S) := gx_cs (m_Street_addSort x1 x2 x3 x4 x5 x6 S) fun v3 S2 => some (v3, S2)
set_option maxRecDepth 20000 in
set_option maxHeartbeats 1000000 in
theorem b_ShopsAsOne_sort_72 {Γ : gx_T} {ι : Nat → ClassId} {a : Nat → Nat} {out : Int32 × gx_S} (hx : gx_std vwCl (gty ι) (gx_cl Γ) (gx_ty Γ)) (C : gx_ok Γ cX7_sort RX7 gx_U 3) (F : gx_finI Γ ((Option.some Jvm.ClassFile.FieldType.int)) (wX a ι) out ∧ gx_nL Γ = 7) {x1 : Int32} {x2 : Int32} {x3 : Int32} {x4 : Int32} {x5 : Int32} {x6 : Int32} {S : gx_S} (h : m_ShopsAsOne_sort_72 x1 x2 x3 x4 x5 x6 S = some out) : gx_G Γ 0 0 72 [.ref (a 0), .int x1, .int x2, .int x3, .int x4, .int x5, .int x6] [] (wX a ι S) := by
  obtain ⟨F, hnL⟩ := F
  unfold m_ShopsAsOne_sort_72 at h
  refine gx_aload_0 C dX7_sort_72 rfl ?_
  refine gs_getf (q := 0) C fl_X7_10 (cls_X7 hx) lt_X_ShopsAsOne (oc_X_ShopsAsOne a ι _) rfl dX7_sort_73 ?_
  refine gx_iload_1 C dX7_sort_76 rfl ?_
  refine gx_iload_2 C dX7_sort_77 rfl ?_
  refine gx_iload_3 C dX7_sort_78 rfl ?_
  refine gx_iload C dX7_sort_79 rfl ?_
  refine gx_iload C dX7_sort_81 rfl ?_
  refine gx_iload C dX7_sort_83 rfl ?_
  obtain ⟨v3, S2, e1, h⟩ := gi_cs h
  refine gc_IV C (c_Street_addSort (gx_l Γ) (gx_D Γ) hx a _ _ _ _ _ _ _ e1) (gx_cw C gx_uu lk_X7_116 (by decide) (by decide)) (cls_X5 hx).1 (gs_recv (q := 1) lt_X_Street (oc_X_Street a ι _)) rfl rfl (Nat.le_of_ble_eq_true rfl) ⟨Nat.zero_le _, Nat.zero_le _⟩ dX7_sort_85 ?_
  exact gx_iret C F rfl dX7_sort_88 (Option.some.inj h)
def m_ShopsAsOne_sort (x1 : Int32) (x2 : Int32) (x3 : Int32) (x4 : Int32) (x5 : Int32) (x6 : Int32) (S : gx_S) : Option (Int32 × gx_S) := gx_cp (m_ShopsAsOne_isNot x1 0 9 S) fun v2 => if v2 = 0 then gx_cp (m_ShopsAsOne_isNot x2 1 50 S) fun v4 => if v4 = 0 then gx_cp (m_ShopsAsOne_isNot x3 0 5 S) fun v6 => if v6 = 0 then gx_cp (m_ShopsAsOne_isNot x4 0 30 S) fun v8 => if v8 = 0 then gx_cp (m_ShopsAsOne_isNot x6 0 9 S) fun v10 => if v10 = 0 then if x5 = (-1) then m_ShopsAsOne_sort_72 x1 x2 x3 x4 x5 x6 S else gx_cp (m_ShopsAsOne_isNoShop x5 S) fun v12 => if v12 = 0 then m_ShopsAsOne_sort_72 x1 x2 x3 x4 x5 x6 S else some ((-101), S) else some ((-102), S) else some ((-102), S) else some ((-102), S) else some ((-102), S) else some ((-102), S)
set_option maxRecDepth 20000 in
set_option maxHeartbeats 1000000 in
theorem c_ShopsAsOne_sort (l : Launch) (D : va_G) {cl : List vw_C} {tys : List (ClassId × FieldType)} {ι : Nat → ClassId} (hx : gx_std vwCl (gty ι) cl tys) (a : Nat → Nat) (x1 : Int32) (x2 : Int32) (x3 : Int32) (x4 : Int32) (x5 : Int32) (x6 : Int32) (S : gx_S) {out : Int32 × gx_S} (h : m_ShopsAsOne_sort x1 x2 x3 x4 x5 x6 S = some out) : gx_mI l D cl tys yX7_sort (.code yX7_sort cX7_sort 7 ((Option.some Jvm.ClassFile.FieldType.int)) :: gx_U) (gx_rm 3) [.ref (a 0), .int x1, .int x2, .int x3, .int x4, .int x5, .int x6] (wX a ι S) (wX a ι) out := by
  unfold m_ShopsAsOne_sort at h
  refine gx_startI (V := [.ref (a 0), .int x1, .int x2, .int x3, .int x4, .int x5, .int x6]) 0 (by decide +kernel) (Nat.le_of_ble_eq_true rfl) rfl (fun Γ hl hD hcl hty hnL C F => ?_)
  subst hl; subst hD; subst hcl; subst hty
  refine gx_iload_1 C dX7_sort_0 rfl ?_
  refine gx_iconst0 C dX7_sort_1 ?_
  refine gx_bipush (v := 9) C dX7_sort_2 (by decide) ?_
  obtain ⟨v2, e1, h⟩ := gi_cp h
  refine gc_IS C (c_ShopsAsOne_isNot (gx_l Γ) (gx_D Γ) hx a _ _ _ _ e1) (gx_cwS C gx_uu lk_X7_72 (by decide) (by decide)) rfl rfl (Nat.le_of_ble_eq_true rfl) ⟨Nat.zero_le _, Nat.zero_le _⟩ dX7_sort_4 ?_
  refine gx_if_ne (tgt := 51) C dX7_sort_7 (by decide) (fun hc19 => ?_) (fun hc19 => ?_)
  · have h := gi_f hc19 h
    refine gx_bipush (v := (-102)) C dX7_sort_51 (by decide) ?_
    exact gx_iret C F rfl dX7_sort_53 (Option.some.inj h)
  · have h := gi_t hc19 h
    refine gx_iload_2 C dX7_sort_10 rfl ?_
    refine gx_iconst1 C dX7_sort_11 ?_
    refine gx_bipush (v := 50) C dX7_sort_12 (by decide) ?_
    obtain ⟨v4, e3, h⟩ := gi_cp h
    refine gc_IS C (c_ShopsAsOne_isNot (gx_l Γ) (gx_D Γ) hx a _ _ _ _ e3) (gx_cwS C gx_uu lk_X7_72 (by decide) (by decide)) rfl rfl (Nat.le_of_ble_eq_true rfl) ⟨Nat.zero_le _, Nat.zero_le _⟩ dX7_sort_14 ?_
    refine gx_if_ne (tgt := 51) C dX7_sort_17 (by decide) (fun hc18 => ?_) (fun hc18 => ?_)
    · have h := gi_f hc18 h
      refine gx_bipush (v := (-102)) C dX7_sort_51 (by decide) ?_
      exact gx_iret C F rfl dX7_sort_53 (Option.some.inj h)
    · have h := gi_t hc18 h
      refine gx_iload_3 C dX7_sort_20 rfl ?_
      refine gx_iconst0 C dX7_sort_21 ?_
      refine gx_iconst5 C dX7_sort_22 ?_
      obtain ⟨v6, e5, h⟩ := gi_cp h
      refine gc_IS C (c_ShopsAsOne_isNot (gx_l Γ) (gx_D Γ) hx a _ _ _ _ e5) (gx_cwS C gx_uu lk_X7_72 (by decide) (by decide)) rfl rfl (Nat.le_of_ble_eq_true rfl) ⟨Nat.zero_le _, Nat.zero_le _⟩ dX7_sort_23 ?_
      refine gx_if_ne (tgt := 51) C dX7_sort_26 (by decide) (fun hc17 => ?_) (fun hc17 => ?_)
      · have h := gi_f hc17 h
        refine gx_bipush (v := (-102)) C dX7_sort_51 (by decide) ?_
        exact gx_iret C F rfl dX7_sort_53 (Option.some.inj h)
      · have h := gi_t hc17 h
        refine gx_iload C dX7_sort_29 rfl ?_
        refine gx_iconst0 C dX7_sort_31 ?_
        refine gx_bipush (v := 30) C dX7_sort_32 (by decide) ?_
        obtain ⟨v8, e7, h⟩ := gi_cp h
        refine gc_IS C (c_ShopsAsOne_isNot (gx_l Γ) (gx_D Γ) hx a _ _ _ _ e7) (gx_cwS C gx_uu lk_X7_72 (by decide) (by decide)) rfl rfl (Nat.le_of_ble_eq_true rfl) ⟨Nat.zero_le _, Nat.zero_le _⟩ dX7_sort_34 ?_
        refine gx_if_ne (tgt := 51) C dX7_sort_37 (by decide) (fun hc16 => ?_) (fun hc16 => ?_)
        · have h := gi_f hc16 h
          refine gx_bipush (v := (-102)) C dX7_sort_51 (by decide) ?_
          exact gx_iret C F rfl dX7_sort_53 (Option.some.inj h)
        · have h := gi_t hc16 h
          refine gx_iload C dX7_sort_40 rfl ?_
          refine gx_iconst0 C dX7_sort_42 ?_
          refine gx_bipush (v := 9) C dX7_sort_43 (by decide) ?_
          obtain ⟨v10, e9, h⟩ := gi_cp h
          refine gc_IS C (c_ShopsAsOne_isNot (gx_l Γ) (gx_D Γ) hx a _ _ _ _ e9) (gx_cwS C gx_uu lk_X7_72 (by decide) (by decide)) rfl rfl (Nat.le_of_ble_eq_true rfl) ⟨Nat.zero_le _, Nat.zero_le _⟩ dX7_sort_45 ?_
          refine gx_if_eq (tgt := 54) C dX7_sort_48 (by decide) (fun hc15 => ?_) (fun hc15 => ?_)
          · have h := gi_t hc15 h
            refine gx_iload C dX7_sort_54 rfl ?_
            refine gx_iconstm1 C dX7_sort_56 ?_
            refine gx_icmp_eq (tgt := 72) C dX7_sort_57 (by decide) (fun hc14 => ?_) (fun hc14 => ?_)
            · have h := gi_t hc14 h
              exact gx_weak (gx_le_k rfl (gx_le_k rfl (gx_le_k rfl (gx_le_k rfl (gx_le_k rfl (gx_le_k rfl (gx_le_k rfl gx_le_0))))))) (b_ShopsAsOne_sort_72 hx C ⟨F, hnL⟩ h)
            · have h := gi_f hc14 h
              refine gx_aload_0 C dX7_sort_60 rfl ?_
              refine gx_iload C dX7_sort_61 rfl ?_
              obtain ⟨v12, e11, h⟩ := gi_cp h
              refine gc_IV C (c_ShopsAsOne_isNoShop (gx_l Γ) (gx_D Γ) hx a _ _ e11) (gx_cw C gx_uu lk_X7_101 (by decide) (by decide)) (cls_X7 hx).1 (gs_recv (q := 0) lt_X_ShopsAsOne (oc_X_ShopsAsOne a ι _)) rfl rfl (Nat.le_of_ble_eq_true rfl) ⟨Nat.zero_le _, Nat.zero_le _⟩ dX7_sort_63 ?_
              refine gx_if_eq (tgt := 72) C dX7_sort_66 (by decide) (fun hc13 => ?_) (fun hc13 => ?_)
              · have h := gi_t hc13 h
                exact gx_weak (gx_le_k rfl (gx_le_k rfl (gx_le_k rfl (gx_le_k rfl (gx_le_k rfl (gx_le_k rfl (gx_le_k rfl gx_le_0))))))) (b_ShopsAsOne_sort_72 hx C ⟨F, hnL⟩ h)
              · have h := gi_f hc13 h
                refine gx_bipush (v := (-101)) C dX7_sort_69 (by decide) ?_
                exact gx_iret C F rfl dX7_sort_71 (Option.some.inj h)
          · have h := gi_f hc15 h
            refine gx_bipush (v := (-102)) C dX7_sort_51 (by decide) ?_
            exact gx_iret C F rfl dX7_sort_53 (Option.some.inj h)
def m_ShopsAsOne_isNoSort (x1 : Int32) (S : gx_S) : Option (Int32) := gx_cp (m_ShopsAsOne_isNot x1 0 ((S 1 2) - (1 : Int32)) S) fun v2 => gx_bz v2 (some v2)
set_option maxRecDepth 20000 in
set_option maxHeartbeats 1000000 in
theorem c_ShopsAsOne_isNoSort (l : Launch) (D : va_G) {cl : List vw_C} {tys : List (ClassId × FieldType)} {ι : Nat → ClassId} (hx : gx_std vwCl (gty ι) cl tys) (a : Nat → Nat) (x1 : Int32) (S : gx_S) {out : Int32} (h : m_ShopsAsOne_isNoSort x1 S = some out) : gx_mI l D cl tys yX7_isNoSort (.code yX7_isNoSort cX7_isNoSort 2 ((Option.some Jvm.ClassFile.FieldType.boolean)) :: gx_U) (gx_rm 1) [.ref (a 0), .int x1] (wX a ι S) (wX a ι) (out, S) := by
  unfold m_ShopsAsOne_isNoSort at h
  refine gx_startI (V := [.ref (a 0), .int x1]) 0 (by decide +kernel) (Nat.le_of_ble_eq_true rfl) rfl (fun Γ hl hD hcl hty hnL C F => ?_)
  subst hl; subst hD; subst hcl; subst hty
  refine gx_iload_1 C dX7_isNoSort_0 rfl ?_
  refine gx_iconst0 C dX7_isNoSort_1 ?_
  refine gx_aload_0 C dX7_isNoSort_2 rfl ?_
  refine gs_getf (q := 0) C fl_X7_10 (cls_X7 hx) lt_X_ShopsAsOne (oc_X_ShopsAsOne a ι _) rfl dX7_isNoSort_3 ?_
  refine gs_getf (q := 1) C fl_X7_202 (cls_X5 hx) lt_X_Street (oc_X_Street a ι _) rfl dX7_isNoSort_6 ?_
  refine gx_iconst1 C dX7_isNoSort_9 ?_
  refine gx_isub C dX7_isNoSort_10 ?_
  obtain ⟨v2, e1, h⟩ := gi_cp h
  refine gc_IS C (c_ShopsAsOne_isNot (gx_l Γ) (gx_D Γ) hx a _ _ _ _ e1) (gx_cwS C gx_uu lk_X7_72 (by decide) (by decide)) rfl rfl (Nat.le_of_ble_eq_true rfl) ⟨Nat.zero_le _, Nat.zero_le _⟩ dX7_isNoSort_11 ?_
  obtain ⟨hz3, h⟩ := gi_bz h
  exact gx_iret C F hz3.1 dX7_isNoSort_14 (congrArg (fun z => (z, S)) (Option.some.inj h))
def m_ShopsAsOne_is_16 (S : gx_S) : Option (Int32) := some (-1001)
set_option maxRecDepth 20000 in
set_option maxHeartbeats 1000000 in
theorem b_ShopsAsOne_is_16 {Γ : gx_T} {ι : Nat → ClassId} {a : Nat → Nat} {out : Int32} {S : gx_S} (hx : gx_std vwCl (gty ι) (gx_cl Γ) (gx_ty Γ)) (C : gx_ok Γ cX7_is RX7 gx_U 2) (F : gx_finI Γ ((Option.some Jvm.ClassFile.FieldType.int)) (wX a ι) (out, S) ∧ gx_nL Γ = 3) (h : m_ShopsAsOne_is_16 S = some out) : gx_G Γ 0 0 16 [.ref (a 0), .null, .null] [] (wX a ι S) := by
  obtain ⟨F, hnL⟩ := F
  unfold m_ShopsAsOne_is_16 at h
  refine gx_sipush (v := (-1001)) C dX7_is_16 (by decide) ?_
  refine gx_goto (tgt := 31) C dX7_is_19 (by decide) ?_
  exact gx_iret C F rfl dX7_is_31 (congrArg (fun z => (z, S)) (Option.some.inj h))
def m_ShopsAsOne_is (x1 : Int32) (x2 : Int32) (S : gx_S) : Option (Int32) := gx_cp (m_ShopsAsOne_isNoSort x1 S) fun v2 => if v2 = 0 then gx_cp (m_ShopsAsOne_isNoShop x2 S) fun v4 => if v4 = 0 then gx_cp (m_Standing_whatIs 0 x1 x2 S) fun v6 => some v6 else m_ShopsAsOne_is_16 S else m_ShopsAsOne_is_16 S
set_option maxRecDepth 20000 in
set_option maxHeartbeats 1000000 in
theorem c_ShopsAsOne_is (l : Launch) (D : va_G) {cl : List vw_C} {tys : List (ClassId × FieldType)} {ι : Nat → ClassId} (hx : gx_std vwCl (gty ι) cl tys) (a : Nat → Nat) (x1 : Int32) (x2 : Int32) (S : gx_S) {out : Int32} (h : m_ShopsAsOne_is x1 x2 S = some out) : gx_mI l D cl tys yX7_is (.code yX7_is cX7_is 3 ((Option.some Jvm.ClassFile.FieldType.int)) :: gx_U) (gx_rm 2) [.ref (a 0), .int x1, .int x2] (wX a ι S) (wX a ι) (out, S) := by
  unfold m_ShopsAsOne_is at h
  refine gx_startI (V := [.ref (a 0), .int x1, .int x2]) 0 (by decide +kernel) (Nat.le_of_ble_eq_true rfl) rfl (fun Γ hl hD hcl hty hnL C F => ?_)
  subst hl; subst hD; subst hcl; subst hty
  refine gx_aload_0 C dX7_is_0 rfl ?_
  refine gx_iload_1 C dX7_is_1 rfl ?_
  obtain ⟨v2, e1, h⟩ := gi_cp h
  refine gc_IV C (c_ShopsAsOne_isNoSort (gx_l Γ) (gx_D Γ) hx a _ _ e1) (gx_cw C gx_uu lk_X7_120 (by decide) (by decide)) (cls_X7 hx).1 (gs_recv (q := 0) lt_X_ShopsAsOne (oc_X_ShopsAsOne a ι _)) rfl rfl (Nat.le_of_ble_eq_true rfl) ⟨Nat.zero_le _, Nat.zero_le _⟩ dX7_is_2 ?_
  refine gx_if_ne (tgt := 16) C dX7_is_5 (by decide) (fun hc8 => ?_) (fun hc8 => ?_)
  · have h := gi_f hc8 h
    exact gx_weak (gx_le_k rfl (gx_le_n (gx_le_n gx_le_0))) (b_ShopsAsOne_is_16 hx C ⟨F, hnL⟩ h)
  · have h := gi_t hc8 h
    refine gx_aload_0 C dX7_is_8 rfl ?_
    refine gx_iload_2 C dX7_is_9 rfl ?_
    obtain ⟨v4, e3, h⟩ := gi_cp h
    refine gc_IV C (c_ShopsAsOne_isNoShop (gx_l Γ) (gx_D Γ) hx a _ _ e3) (gx_cw C gx_uu lk_X7_101 (by decide) (by decide)) (cls_X7 hx).1 (gs_recv (q := 0) lt_X_ShopsAsOne (oc_X_ShopsAsOne a ι _)) rfl rfl (Nat.le_of_ble_eq_true rfl) ⟨Nat.zero_le _, Nat.zero_le _⟩ dX7_is_10 ?_
    refine gx_if_eq (tgt := 22) C dX7_is_13 (by decide) (fun hc7 => ?_) (fun hc7 => ?_)
    · have h := gi_t hc7 h
      refine gx_aload_0 C dX7_is_22 rfl ?_
      refine gs_getf (q := 0) C fl_X7_21 (cls_X7 hx) lt_X_ShopsAsOne (oc_X_ShopsAsOne a ι _) rfl dX7_is_23 ?_
      refine gx_iload_1 C dX7_is_26 rfl ?_
      refine gx_iload_2 C dX7_is_27 rfl ?_
      obtain ⟨v6, e5, h⟩ := gi_cp h
      refine gc_IV C (c_Standing_whatIs (gx_l Γ) (gx_D Γ) hx a (r := 0) (by decide) _ _ _ e5) (gx_cw C gx_uu lk_X7_123 (by decide) (by decide)) (cls_X4 hx).1 (gs_recv (q := 21) (lt_X_Standing (q := 0) (by decide)) (oc_X_Standing a ι _ (q := 0) (by decide))) rfl rfl (Nat.le_of_ble_eq_true rfl) ⟨Nat.zero_le _, Nat.zero_le _⟩ dX7_is_28 ?_
      exact gx_iret C F rfl dX7_is_31 (congrArg (fun z => (z, S)) (Option.some.inj h))
    · have h := gi_f hc7 h
      exact gx_weak (gx_le_k rfl (gx_le_n (gx_le_n gx_le_0))) (b_ShopsAsOne_is_16 hx C ⟨F, hnL⟩ h)
def m_ShopsAsOne_goes (x1 : Int32) (S : gx_S) : Option (Int32) := gx_cp (m_ShopsAsOne_isNoSort x1 S) fun v2 => if v2 = 0 then gx_cp (m_Standing_choice 0 x1 (-1) S) fun v4 => some v4 else some (-101)
set_option maxRecDepth 20000 in
set_option maxHeartbeats 1000000 in
theorem c_ShopsAsOne_goes (l : Launch) (D : va_G) {cl : List vw_C} {tys : List (ClassId × FieldType)} {ι : Nat → ClassId} (hx : gx_std vwCl (gty ι) cl tys) (a : Nat → Nat) (x1 : Int32) (S : gx_S) {out : Int32} (h : m_ShopsAsOne_goes x1 S = some out) : gx_mI l D cl tys yX7_goes (.code yX7_goes cX7_goes 2 ((Option.some Jvm.ClassFile.FieldType.int)) :: gx_U) (gx_rm 2) [.ref (a 0), .int x1] (wX a ι S) (wX a ι) (out, S) := by
  unfold m_ShopsAsOne_goes at h
  refine gx_startI (V := [.ref (a 0), .int x1]) 0 (by decide +kernel) (Nat.le_of_ble_eq_true rfl) rfl (fun Γ hl hD hcl hty hnL C F => ?_)
  subst hl; subst hD; subst hcl; subst hty
  refine gx_aload_0 C dX7_goes_0 rfl ?_
  refine gx_iload_1 C dX7_goes_1 rfl ?_
  obtain ⟨v2, e1, h⟩ := gi_cp h
  refine gc_IV C (c_ShopsAsOne_isNoSort (gx_l Γ) (gx_D Γ) hx a _ _ e1) (gx_cw C gx_uu lk_X7_120 (by decide) (by decide)) (cls_X7 hx).1 (gs_recv (q := 0) lt_X_ShopsAsOne (oc_X_ShopsAsOne a ι _)) rfl rfl (Nat.le_of_ble_eq_true rfl) ⟨Nat.zero_le _, Nat.zero_le _⟩ dX7_goes_2 ?_
  refine gx_if_eq (tgt := 13) C dX7_goes_5 (by decide) (fun hc5 => ?_) (fun hc5 => ?_)
  · have h := gi_t hc5 h
    refine gx_aload_0 C dX7_goes_13 rfl ?_
    refine gs_getf (q := 0) C fl_X7_21 (cls_X7 hx) lt_X_ShopsAsOne (oc_X_ShopsAsOne a ι _) rfl dX7_goes_14 ?_
    refine gx_iload_1 C dX7_goes_17 rfl ?_
    refine gx_iconstm1 C dX7_goes_18 ?_
    obtain ⟨v4, e3, h⟩ := gi_cp h
    refine gc_IV C (c_Standing_choice (gx_l Γ) (gx_D Γ) hx a (r := 0) (by decide) _ _ _ e3) (gx_cw C gx_uu lk_X7_126 (by decide) (by decide)) (cls_X4 hx).1 (gs_recv (q := 21) (lt_X_Standing (q := 0) (by decide)) (oc_X_Standing a ι _ (q := 0) (by decide))) rfl rfl (Nat.le_of_ble_eq_true rfl) ⟨Nat.zero_le _, Nat.zero_le _⟩ dX7_goes_19 ?_
    exact gx_iret C F rfl dX7_goes_22 (congrArg (fun z => (z, S)) (Option.some.inj h))
  · have h := gi_f hc5 h
    refine gx_bipush (v := (-101)) C dX7_goes_8 (by decide) ?_
    refine gx_goto (tgt := 22) C dX7_goes_10 (by decide) ?_
    exact gx_iret C F rfl dX7_goes_22 (congrArg (fun z => (z, S)) (Option.some.inj h))
def m_ShopsAsOne_spare (x1 : Int32) (S : gx_S) : Option (Int32) := gx_cp (m_ShopsAsOne_isNoSort x1 S) fun v2 => if v2 = 0 then gx_cp (m_Standing_spareOf 0 x1 S) fun v4 => some v4 else some (-101)
set_option maxRecDepth 20000 in
set_option maxHeartbeats 1000000 in
theorem c_ShopsAsOne_spare (l : Launch) (D : va_G) {cl : List vw_C} {tys : List (ClassId × FieldType)} {ι : Nat → ClassId} (hx : gx_std vwCl (gty ι) cl tys) (a : Nat → Nat) (x1 : Int32) (S : gx_S) {out : Int32} (h : m_ShopsAsOne_spare x1 S = some out) : gx_mI l D cl tys yX7_spare (.code yX7_spare cX7_spare 2 ((Option.some Jvm.ClassFile.FieldType.int)) :: gx_U) (gx_rm 3) [.ref (a 0), .int x1] (wX a ι S) (wX a ι) (out, S) := by
  unfold m_ShopsAsOne_spare at h
  refine gx_startI (V := [.ref (a 0), .int x1]) 0 (by decide +kernel) (Nat.le_of_ble_eq_true rfl) rfl (fun Γ hl hD hcl hty hnL C F => ?_)
  subst hl; subst hD; subst hcl; subst hty
  refine gx_aload_0 C dX7_spare_0 rfl ?_
  refine gx_iload_1 C dX7_spare_1 rfl ?_
  obtain ⟨v2, e1, h⟩ := gi_cp h
  refine gc_IV C (c_ShopsAsOne_isNoSort (gx_l Γ) (gx_D Γ) hx a _ _ e1) (gx_cw C gx_uu lk_X7_120 (by decide) (by decide)) (cls_X7 hx).1 (gs_recv (q := 0) lt_X_ShopsAsOne (oc_X_ShopsAsOne a ι _)) rfl rfl (Nat.le_of_ble_eq_true rfl) ⟨Nat.zero_le _, Nat.zero_le _⟩ dX7_spare_2 ?_
  refine gx_if_eq (tgt := 13) C dX7_spare_5 (by decide) (fun hc5 => ?_) (fun hc5 => ?_)
  · have h := gi_t hc5 h
    refine gx_aload_0 C dX7_spare_13 rfl ?_
    refine gs_getf (q := 0) C fl_X7_21 (cls_X7 hx) lt_X_ShopsAsOne (oc_X_ShopsAsOne a ι _) rfl dX7_spare_14 ?_
    refine gx_iload_1 C dX7_spare_17 rfl ?_
    obtain ⟨v4, e3, h⟩ := gi_cp h
    refine gc_IV C (c_Standing_spareOf (gx_l Γ) (gx_D Γ) hx a (r := 0) (by decide) _ _ e3) (gx_cw C gx_uu lk_X7_129 (by decide) (by decide)) (cls_X4 hx).1 (gs_recv (q := 21) (lt_X_Standing (q := 0) (by decide)) (oc_X_Standing a ι _ (q := 0) (by decide))) rfl rfl (Nat.le_of_ble_eq_true rfl) ⟨Nat.zero_le _, Nat.zero_le _⟩ dX7_spare_18 ?_
    exact gx_iret C F rfl dX7_spare_21 (congrArg (fun z => (z, S)) (Option.some.inj h))
  · have h := gi_f hc5 h
    refine gx_bipush (v := (-101)) C dX7_spare_8 (by decide) ?_
    refine gx_goto (tgt := 21) C dX7_spare_10 (by decide) ?_
    exact gx_iret C F rfl dX7_spare_21 (congrArg (fun z => (z, S)) (Option.some.inj h))
def m_ShopsAsOne_profit (x1 : Int32) (S : gx_S) : Option (Int32) := gx_cp (m_ShopsAsOne_isNoOwner x1 S) fun v2 => if v2 = 0 then gx_cp (m_Standing_profitOf 0 x1 S) fun v4 => some v4 else some (-1000001)
set_option maxRecDepth 20000 in
set_option maxHeartbeats 1000000 in
theorem c_ShopsAsOne_profit (l : Launch) (D : va_G) {cl : List vw_C} {tys : List (ClassId × FieldType)} {ι : Nat → ClassId} (hx : gx_std vwCl (gty ι) cl tys) (a : Nat → Nat) (x1 : Int32) (S : gx_S) {out : Int32} (h : m_ShopsAsOne_profit x1 S = some out) : gx_mI l D cl tys yX7_profit (.code yX7_profit cX7_profit 2 ((Option.some Jvm.ClassFile.FieldType.int)) :: gx_U) (gx_rm 3) [.ref (a 0), .int x1] (wX a ι S) (wX a ι) (out, S) := by
  unfold m_ShopsAsOne_profit at h
  refine gx_startI (V := [.ref (a 0), .int x1]) 0 (by decide +kernel) (Nat.le_of_ble_eq_true rfl) rfl (fun Γ hl hD hcl hty hnL C F => ?_)
  subst hl; subst hD; subst hcl; subst hty
  refine gx_aload_0 C dX7_profit_0 rfl ?_
  refine gx_iload_1 C dX7_profit_1 rfl ?_
  obtain ⟨v2, e1, h⟩ := gi_cp h
  refine gc_IV C (c_ShopsAsOne_isNoOwner (gx_l Γ) (gx_D Γ) hx a _ _ e1) (gx_cw C gx_uu lk_X7_80 (by decide) (by decide)) (cls_X7 hx).1 (gs_recv (q := 0) lt_X_ShopsAsOne (oc_X_ShopsAsOne a ι _)) rfl rfl (Nat.le_of_ble_eq_true rfl) ⟨Nat.zero_le _, Nat.zero_le _⟩ dX7_profit_2 ?_
  refine gx_if_eq (tgt := 13) C dX7_profit_5 (by decide) (fun hc5 => ?_) (fun hc5 => ?_)
  · have h := gi_t hc5 h
    refine gx_aload_0 C dX7_profit_13 rfl ?_
    refine gs_getf (q := 0) C fl_X7_21 (cls_X7 hx) lt_X_ShopsAsOne (oc_X_ShopsAsOne a ι _) rfl dX7_profit_14 ?_
    refine gx_iload_1 C dX7_profit_17 rfl ?_
    obtain ⟨v4, e3, h⟩ := gi_cp h
    refine gc_IV C (c_Standing_profitOf (gx_l Γ) (gx_D Γ) hx a (r := 0) (by decide) _ _ e3) (gx_cw C gx_uu lk_X7_133 (by decide) (by decide)) (cls_X4 hx).1 (gs_recv (q := 21) (lt_X_Standing (q := 0) (by decide)) (oc_X_Standing a ι _ (q := 0) (by decide))) rfl rfl (Nat.le_of_ble_eq_true rfl) ⟨Nat.zero_le _, Nat.zero_le _⟩ dX7_profit_18 ?_
    exact gx_iret C F rfl dX7_profit_21 (congrArg (fun z => (z, S)) (Option.some.inj h))
  · have h := gi_f hc5 h
    refine gx_ldc (v := (-1000001)) C dX7_profit_8 kX7_132 ?_
    refine gx_goto (tgt := 21) C dX7_profit_10 (by decide) ?_
    exact gx_iret C F rfl dX7_profit_21 (congrArg (fun z => (z, S)) (Option.some.inj h))
def m_ShopsAsOne_best_81 (S : gx_S) : Option (Int32 × gx_S) := some (1, S)
set_option maxRecDepth 20000 in
set_option maxHeartbeats 1000000 in
theorem b_ShopsAsOne_best_81 {Γ : gx_T} {ι : Nat → ClassId} {a : Nat → Nat} {out : Int32 × gx_S} (hx : gx_std vwCl (gty ι) (gx_cl Γ) (gx_ty Γ)) (C : gx_ok Γ cX7_best RX7 gx_U 9) (F : gx_finI Γ ((Option.some Jvm.ClassFile.FieldType.int)) (wX a ι) out ∧ gx_nL Γ = 4) {S : gx_S} (h : m_ShopsAsOne_best_81 S = some out) : gx_G Γ 0 0 81 [.ref (a 0), .null, .null, .null] [] (wX a ι S) := by
  obtain ⟨F, hnL⟩ := F
  unfold m_ShopsAsOne_best_81 at h
  refine gx_iconst1 C dX7_best_81 ?_
  refine gx_goto (tgt := 86) C dX7_best_82 (by decide) ?_
  exact gx_iret C F rfl dX7_best_86 (Option.some.inj h)
def m_ShopsAsOne_best (x1 : Int32) (x2 : Int32) (S : gx_S) : Option (Int32 × gx_S) := gx_cp (m_ShopsAsOne_isNoShop x1 S) fun v2 => if v2 = 0 then gx_cp (m_ShopsAsOne_isNot x2 0 1 S) fun v4 => if v4 = 0 then gx_ck 6 x1 (gx_cp (m_Bests_look 0 (S 23 x1.toNatClampNeg) S) fun S7 => if x2 = 0 then gx_cp (m_Bests_priceOf x1 S7) fun v12 => some (v12, S7) else gx_ck 6 (S 23 x1.toNatClampNeg) (if (S7 2 (S 23 x1.toNatClampNeg).toNatClampNeg) = 4 then if (S7 41 12) = 0 then some (0, S7) else m_ShopsAsOne_best_81 S7 else m_ShopsAsOne_best_81 S7)) else some ((-102), S) else some ((-101), S)
set_option maxRecDepth 20000 in
set_option maxHeartbeats 1000000 in
theorem c_ShopsAsOne_best (l : Launch) (D : va_G) {cl : List vw_C} {tys : List (ClassId × FieldType)} {ι : Nat → ClassId} (hx : gx_std vwCl (gty ι) cl tys) (a : Nat → Nat) (x1 : Int32) (x2 : Int32) (S : gx_S) {out : Int32 × gx_S} (h : m_ShopsAsOne_best x1 x2 S = some out) : gx_mI l D cl tys yX7_best (.code yX7_best cX7_best 4 ((Option.some Jvm.ClassFile.FieldType.int)) :: gx_U) (gx_rm 9) [.ref (a 0), .int x1, .int x2] (wX a ι S) (wX a ι) out := by
  unfold m_ShopsAsOne_best at h
  refine gx_startI (V := [.ref (a 0), .int x1, .int x2, .null]) 1 (by decide +kernel) (Nat.le_of_ble_eq_true rfl) rfl (fun Γ hl hD hcl hty hnL C F => ?_)
  subst hl; subst hD; subst hcl; subst hty
  refine gx_aload_0 C dX7_best_0 rfl ?_
  refine gx_iload_1 C dX7_best_1 rfl ?_
  obtain ⟨v2, e1, h⟩ := gi_cp h
  refine gc_IV C (c_ShopsAsOne_isNoShop (gx_l Γ) (gx_D Γ) hx a _ _ e1) (gx_cw C gx_uu lk_X7_101 (by decide) (by decide)) (cls_X7 hx).1 (gs_recv (q := 0) lt_X_ShopsAsOne (oc_X_ShopsAsOne a ι _)) rfl rfl (Nat.le_of_ble_eq_true rfl) ⟨Nat.zero_le _, Nat.zero_le _⟩ dX7_best_2 ?_
  refine gx_if_eq (tgt := 11) C dX7_best_5 (by decide) (fun hc15 => ?_) (fun hc15 => ?_)
  · have h := gi_t hc15 h
    refine gx_iload_2 C dX7_best_11 rfl ?_
    refine gx_iconst0 C dX7_best_12 ?_
    refine gx_iconst1 C dX7_best_13 ?_
    obtain ⟨v4, e3, h⟩ := gi_cp h
    refine gc_IS C (c_ShopsAsOne_isNot (gx_l Γ) (gx_D Γ) hx a _ _ _ _ e3) (gx_cwS C gx_uu lk_X7_72 (by decide) (by decide)) rfl rfl (Nat.le_of_ble_eq_true rfl) ⟨Nat.zero_le _, Nat.zero_le _⟩ dX7_best_14 ?_
    refine gx_if_eq (tgt := 23) C dX7_best_17 (by decide) (fun hc14 => ?_) (fun hc14 => ?_)
    · have h := gi_t hc14 h
      refine gx_aload_0 C dX7_best_23 rfl ?_
      refine gs_getf (q := 0) C fl_X7_21 (cls_X7 hx) lt_X_ShopsAsOne (oc_X_ShopsAsOne a ι _) rfl dX7_best_24 ?_
      refine gs_getf (q := 21) C fl_X7_95 (cls_X4 hx) (lt_X_Standing (q := 0) (by decide)) (oc_X_Standing a ι _ (q := 0) (by decide)) rfl dX7_best_27 ?_
      refine gx_iload_1 C dX7_best_30 rfl ?_
      obtain ⟨hi5, h⟩ := gi_ck h
      refine gs_iald (q := 23) C (ac_X_Standing_whose hx a (q := 0) (by decide)) (lt_X_Standing_whose (q := 0) (by decide)) hi5 dX7_best_31 ?_
      refine gx_istore_3 C dX7_best_32 (by rw [hnL]; decide) trivial ?_
      refine gx_aload_0 C dX7_best_33 rfl ?_
      refine gs_getf (q := 0) C fl_X7_34 (cls_X7 hx) lt_X_ShopsAsOne (oc_X_ShopsAsOne a ι _) rfl dX7_best_34 ?_
      refine gx_aload_0 C dX7_best_37 rfl ?_
      refine gs_getf (q := 0) C fl_X7_21 (cls_X7 hx) lt_X_ShopsAsOne (oc_X_ShopsAsOne a ι _) rfl dX7_best_38 ?_
      refine gx_iload_3 C dX7_best_41 rfl ?_
      obtain ⟨S7, e6, h⟩ := gi_cp h
      refine gc_VV C (c_Bests_look (gx_l Γ) (gx_D Γ) hx a (r1 := 0) (by decide) _ _ e6) (gx_cw C gx_uu lk_X7_136 (by decide) (by decide)) (cls_X0 hx).1 (gs_recv (q := 41) lt_X_Bests (oc_X_Bests a ι _)) rfl rfl (Nat.le_of_ble_eq_true rfl) ⟨Nat.zero_le _, Nat.zero_le _⟩ dX7_best_42 ?_
      refine gx_iload_2 C dX7_best_45 rfl ?_
      refine gx_if_ne (tgt := 58) C dX7_best_46 (by decide) (fun hc13 => ?_) (fun hc13 => ?_)
      · have h := gi_f hc13 h
        refine gx_aload_0 C dX7_best_58 rfl ?_
        refine gs_getf (q := 0) C fl_X7_10 (cls_X7 hx) lt_X_ShopsAsOne (oc_X_ShopsAsOne a ι _) rfl dX7_best_59 ?_
        refine gs_getf (q := 1) C fl_X7_84 (cls_X5 hx) lt_X_Street (oc_X_Street a ι _) rfl dX7_best_62 ?_
        refine gx_iload_3 C dX7_best_65 rfl ?_
        obtain ⟨hi8, h⟩ := gi_ck h
        refine gs_iald (q := 2) C (ac_X_Street_kind hx a) lt_X_Street_kind hi8 dX7_best_66 ?_
        refine gx_iconst4 C dX7_best_67 ?_
        refine gx_icmp_ne (tgt := 81) C dX7_best_68 (by decide) (fun hc10 => ?_) (fun hc10 => ?_)
        · have h := gi_f hc10 h
          exact gx_weak (gx_le_k rfl (gx_le_n (gx_le_n (gx_le_n gx_le_0)))) (b_ShopsAsOne_best_81 hx C ⟨F, hnL⟩ h)
        · have h := gi_t hc10 h
          refine gx_aload_0 C dX7_best_71 rfl ?_
          refine gs_getf (q := 0) C fl_X7_34 (cls_X7 hx) lt_X_ShopsAsOne (oc_X_ShopsAsOne a ι _) rfl dX7_best_72 ?_
          refine gs_getf (q := 41) C fl_X7_143 (cls_X0 hx) lt_X_Bests (oc_X_Bests a ι _) rfl dX7_best_75 ?_
          refine gx_if_eq (tgt := 85) C dX7_best_78 (by decide) (fun hc9 => ?_) (fun hc9 => ?_)
          · have h := gi_t hc9 h
            refine gx_iconst0 C dX7_best_85 ?_
            exact gx_iret C F rfl dX7_best_86 (Option.some.inj h)
          · have h := gi_f hc9 h
            exact gx_weak (gx_le_k rfl (gx_le_n (gx_le_n (gx_le_n gx_le_0)))) (b_ShopsAsOne_best_81 hx C ⟨F, hnL⟩ h)
      · have h := gi_t hc13 h
        refine gx_aload_0 C dX7_best_49 rfl ?_
        refine gs_getf (q := 0) C fl_X7_34 (cls_X7 hx) lt_X_ShopsAsOne (oc_X_ShopsAsOne a ι _) rfl dX7_best_50 ?_
        refine gx_iload_1 C dX7_best_53 rfl ?_
        obtain ⟨v12, e11, h⟩ := gi_cp h
        refine gc_IV C (c_Bests_priceOf (gx_l Γ) (gx_D Γ) hx a _ _ e11) (gx_cw C gx_uu lk_X7_140 (by decide) (by decide)) (cls_X0 hx).1 (gs_recv (q := 41) lt_X_Bests (oc_X_Bests a ι _)) rfl rfl (Nat.le_of_ble_eq_true rfl) ⟨Nat.zero_le _, Nat.zero_le _⟩ dX7_best_54 ?_
        exact gx_iret C F rfl dX7_best_57 (Option.some.inj h)
    · have h := gi_f hc14 h
      refine gx_bipush (v := (-102)) C dX7_best_20 (by decide) ?_
      exact gx_iret C F rfl dX7_best_22 (Option.some.inj h)
  · have h := gi_f hc15 h
    refine gx_bipush (v := (-101)) C dX7_best_8 (by decide) ?_
    exact gx_iret C F rfl dX7_best_10 (Option.some.inj h)
def m_ShopsAsOne_turn (x1 : Int32) (S : gx_S) : Option (Int32 × gx_S) := gx_cp (m_ShopsAsOne_isNoOwner x1 S) fun v2 => if v2 = 0 then gx_cp (m_Bests_look 0 x1 S) fun S4 => gx_cs (m_Bests_take 0 x1 S4) fun v7 S6 => some (v7, S6) else some ((-101), S)
set_option maxRecDepth 20000 in
set_option maxHeartbeats 1000000 in
theorem c_ShopsAsOne_turn (l : Launch) (D : va_G) {cl : List vw_C} {tys : List (ClassId × FieldType)} {ι : Nat → ClassId} (hx : gx_std vwCl (gty ι) cl tys) (a : Nat → Nat) (x1 : Int32) (S : gx_S) {out : Int32 × gx_S} (h : m_ShopsAsOne_turn x1 S = some out) : gx_mI l D cl tys yX7_turn (.code yX7_turn cX7_turn 2 ((Option.some Jvm.ClassFile.FieldType.int)) :: gx_U) (gx_rm 9) [.ref (a 0), .int x1] (wX a ι S) (wX a ι) out := by
  unfold m_ShopsAsOne_turn at h
  refine gx_startI (V := [.ref (a 0), .int x1]) 0 (by decide +kernel) (Nat.le_of_ble_eq_true rfl) rfl (fun Γ hl hD hcl hty hnL C F => ?_)
  subst hl; subst hD; subst hcl; subst hty
  refine gx_aload_0 C dX7_turn_0 rfl ?_
  refine gx_iload_1 C dX7_turn_1 rfl ?_
  obtain ⟨v2, e1, h⟩ := gi_cp h
  refine gc_IV C (c_ShopsAsOne_isNoOwner (gx_l Γ) (gx_D Γ) hx a _ _ e1) (gx_cw C gx_uu lk_X7_80 (by decide) (by decide)) (cls_X7 hx).1 (gs_recv (q := 0) lt_X_ShopsAsOne (oc_X_ShopsAsOne a ι _)) rfl rfl (Nat.le_of_ble_eq_true rfl) ⟨Nat.zero_le _, Nat.zero_le _⟩ dX7_turn_2 ?_
  refine gx_if_eq (tgt := 11) C dX7_turn_5 (by decide) (fun hc8 => ?_) (fun hc8 => ?_)
  · have h := gi_t hc8 h
    refine gx_aload_0 C dX7_turn_11 rfl ?_
    refine gs_getf (q := 0) C fl_X7_34 (cls_X7 hx) lt_X_ShopsAsOne (oc_X_ShopsAsOne a ι _) rfl dX7_turn_12 ?_
    refine gx_aload_0 C dX7_turn_15 rfl ?_
    refine gs_getf (q := 0) C fl_X7_21 (cls_X7 hx) lt_X_ShopsAsOne (oc_X_ShopsAsOne a ι _) rfl dX7_turn_16 ?_
    refine gx_iload_1 C dX7_turn_19 rfl ?_
    obtain ⟨S4, e3, h⟩ := gi_cp h
    refine gc_VV C (c_Bests_look (gx_l Γ) (gx_D Γ) hx a (r1 := 0) (by decide) _ _ e3) (gx_cw C gx_uu lk_X7_136 (by decide) (by decide)) (cls_X0 hx).1 (gs_recv (q := 41) lt_X_Bests (oc_X_Bests a ι _)) rfl rfl (Nat.le_of_ble_eq_true rfl) ⟨Nat.zero_le _, Nat.zero_le _⟩ dX7_turn_20 ?_
    refine gx_aload_0 C dX7_turn_23 rfl ?_
    refine gs_getf (q := 0) C fl_X7_34 (cls_X7 hx) lt_X_ShopsAsOne (oc_X_ShopsAsOne a ι _) rfl dX7_turn_24 ?_
    refine gx_aload_0 C dX7_turn_27 rfl ?_
    refine gs_getf (q := 0) C fl_X7_21 (cls_X7 hx) lt_X_ShopsAsOne (oc_X_ShopsAsOne a ι _) rfl dX7_turn_28 ?_
    refine gx_iload_1 C dX7_turn_31 rfl ?_
    obtain ⟨v7, S6, e5, h⟩ := gi_cs h
    refine gc_IV C (c_Bests_take (gx_l Γ) (gx_D Γ) hx a (r1 := 0) (by decide) _ _ e5) (gx_cw C gx_uu lk_X7_147 (by decide) (by decide)) (cls_X0 hx).1 (gs_recv (q := 41) lt_X_Bests (oc_X_Bests a ι _)) rfl rfl (Nat.le_of_ble_eq_true rfl) ⟨Nat.zero_le _, Nat.zero_le _⟩ dX7_turn_32 ?_
    exact gx_iret C F rfl dX7_turn_35 (Option.some.inj h)
  · have h := gi_f hc8 h
    refine gx_bipush (v := (-101)) C dX7_turn_8 (by decide) ?_
    exact gx_iret C F rfl dX7_turn_10 (Option.some.inj h)
def m_ShopsAsOne_rest (S : gx_S) : Option (Int32 × gx_S) := gx_cp (m_Standing_become 1 0 S) fun S2 => gx_cs (m_Bests_settle 1 S2) fun v5 S4 => if v5 = (-1) then some ((-103), S4) else gx_cp (m_Standing_become 0 1 S4) fun S7 => some (v5, S7)
set_option maxRecDepth 20000 in
set_option maxHeartbeats 1000000 in
theorem c_ShopsAsOne_rest (l : Launch) (D : va_G) {cl : List vw_C} {tys : List (ClassId × FieldType)} {ι : Nat → ClassId} (hx : gx_std vwCl (gty ι) cl tys) (a : Nat → Nat) (S : gx_S) {out : Int32 × gx_S} (h : m_ShopsAsOne_rest  S = some out) : gx_mI l D cl tys yX7_rest (.code yX7_rest cX7_rest 2 ((Option.some Jvm.ClassFile.FieldType.int)) :: gx_U) (gx_rm 10) [.ref (a 0)] (wX a ι S) (wX a ι) out := by
  unfold m_ShopsAsOne_rest at h
  refine gx_startI (V := [.ref (a 0), .null]) 1 (by decide +kernel) (Nat.le_of_ble_eq_true rfl) rfl (fun Γ hl hD hcl hty hnL C F => ?_)
  subst hl; subst hD; subst hcl; subst hty
  refine gx_aload_0 C dX7_rest_0 rfl ?_
  refine gs_getf (q := 0) C fl_X7_25 (cls_X7 hx) lt_X_ShopsAsOne (oc_X_ShopsAsOne a ι _) rfl dX7_rest_1 ?_
  refine gx_aload_0 C dX7_rest_4 rfl ?_
  refine gs_getf (q := 0) C fl_X7_21 (cls_X7 hx) lt_X_ShopsAsOne (oc_X_ShopsAsOne a ι _) rfl dX7_rest_5 ?_
  obtain ⟨S2, e1, h⟩ := gi_cp h
  refine gc_VV C (c_Standing_become (gx_l Γ) (gx_D Γ) hx a (r := 1) (r1 := 0) (by decide) (by decide) _ e1) (gx_cw C gx_uu lk_X7_151 (by decide) (by decide)) (cls_X4 hx).1 (gs_recv (q := 25) (lt_X_Standing (q := 1) (by decide)) (oc_X_Standing a ι _ (q := 1) (by decide))) rfl rfl (Nat.le_of_ble_eq_true rfl) ⟨Nat.zero_le _, Nat.zero_le _⟩ dX7_rest_8 ?_
  refine gx_aload_0 C dX7_rest_11 rfl ?_
  refine gs_getf (q := 0) C fl_X7_34 (cls_X7 hx) lt_X_ShopsAsOne (oc_X_ShopsAsOne a ι _) rfl dX7_rest_12 ?_
  refine gx_aload_0 C dX7_rest_15 rfl ?_
  refine gs_getf (q := 0) C fl_X7_25 (cls_X7 hx) lt_X_ShopsAsOne (oc_X_ShopsAsOne a ι _) rfl dX7_rest_16 ?_
  obtain ⟨v5, S4, e3, h⟩ := gi_cs h
  refine gc_IV C (c_Bests_settle (gx_l Γ) (gx_D Γ) hx a (r1 := 1) (by decide) _ e3) (gx_cw C gx_uu lk_X7_155 (by decide) (by decide)) (cls_X0 hx).1 (gs_recv (q := 41) lt_X_Bests (oc_X_Bests a ι _)) rfl rfl (Nat.le_of_ble_eq_true rfl) ⟨Nat.zero_le _, Nat.zero_le _⟩ dX7_rest_19 ?_
  refine gx_istore_1 C dX7_rest_22 (by rw [hnL]; decide) trivial ?_
  refine gx_iload_1 C dX7_rest_23 rfl ?_
  refine gx_iconstm1 C dX7_rest_24 ?_
  refine gx_icmp_ne (tgt := 31) C dX7_rest_25 (by decide) (fun hc8 => ?_) (fun hc8 => ?_)
  · have h := gi_f hc8 h
    refine gx_aload_0 C dX7_rest_31 rfl ?_
    refine gs_getf (q := 0) C fl_X7_21 (cls_X7 hx) lt_X_ShopsAsOne (oc_X_ShopsAsOne a ι _) rfl dX7_rest_32 ?_
    refine gx_aload_0 C dX7_rest_35 rfl ?_
    refine gs_getf (q := 0) C fl_X7_25 (cls_X7 hx) lt_X_ShopsAsOne (oc_X_ShopsAsOne a ι _) rfl dX7_rest_36 ?_
    obtain ⟨S7, e6, h⟩ := gi_cp h
    refine gc_VV C (c_Standing_become (gx_l Γ) (gx_D Γ) hx a (r := 0) (r1 := 1) (by decide) (by decide) _ e6) (gx_cw C gx_uu lk_X7_151 (by decide) (by decide)) (cls_X4 hx).1 (gs_recv (q := 21) (lt_X_Standing (q := 0) (by decide)) (oc_X_Standing a ι _ (q := 0) (by decide))) rfl rfl (Nat.le_of_ble_eq_true rfl) ⟨Nat.zero_le _, Nat.zero_le _⟩ dX7_rest_39 ?_
    refine gx_iload_1 C dX7_rest_42 rfl ?_
    exact gx_iret C F rfl dX7_rest_43 (Option.some.inj h)
  · have h := gi_t hc8 h
    refine gx_bipush (v := (-103)) C dX7_rest_28 (by decide) ?_
    exact gx_iret C F rfl dX7_rest_30 (Option.some.inj h)
def m_ShopsAsOne_gainOf (x1 : Int32) (S : gx_S) : Option (Int32 × gx_S) := gx_cp (m_Bests_look 0 x1 S) fun S2 => gx_cp (m_Standing_profitOf 0 x1 S2) fun v4 => some ((S2 41 11) - v4, S2)
set_option maxRecDepth 20000 in
set_option maxHeartbeats 1000000 in
theorem c_ShopsAsOne_gainOf (l : Launch) (D : va_G) {cl : List vw_C} {tys : List (ClassId × FieldType)} {ι : Nat → ClassId} (hx : gx_std vwCl (gty ι) cl tys) (a : Nat → Nat) (x1 : Int32) (S : gx_S) {out : Int32 × gx_S} (h : m_ShopsAsOne_gainOf x1 S = some out) : gx_mI l D cl tys yX7_gainOf (.code yX7_gainOf cX7_gainOf 2 ((Option.some Jvm.ClassFile.FieldType.int)) :: gx_U) (gx_rm 9) [.ref (a 0), .int x1] (wX a ι S) (wX a ι) out := by
  unfold m_ShopsAsOne_gainOf at h
  refine gx_startI (V := [.ref (a 0), .int x1]) 0 (by decide +kernel) (Nat.le_of_ble_eq_true rfl) rfl (fun Γ hl hD hcl hty hnL C F => ?_)
  subst hl; subst hD; subst hcl; subst hty
  refine gx_aload_0 C dX7_gainOf_0 rfl ?_
  refine gs_getf (q := 0) C fl_X7_34 (cls_X7 hx) lt_X_ShopsAsOne (oc_X_ShopsAsOne a ι _) rfl dX7_gainOf_1 ?_
  refine gx_aload_0 C dX7_gainOf_4 rfl ?_
  refine gs_getf (q := 0) C fl_X7_21 (cls_X7 hx) lt_X_ShopsAsOne (oc_X_ShopsAsOne a ι _) rfl dX7_gainOf_5 ?_
  refine gx_iload_1 C dX7_gainOf_8 rfl ?_
  obtain ⟨S2, e1, h⟩ := gi_cp h
  refine gc_VV C (c_Bests_look (gx_l Γ) (gx_D Γ) hx a (r1 := 0) (by decide) _ _ e1) (gx_cw C gx_uu lk_X7_136 (by decide) (by decide)) (cls_X0 hx).1 (gs_recv (q := 41) lt_X_Bests (oc_X_Bests a ι _)) rfl rfl (Nat.le_of_ble_eq_true rfl) ⟨Nat.zero_le _, Nat.zero_le _⟩ dX7_gainOf_9 ?_
  refine gx_aload_0 C dX7_gainOf_12 rfl ?_
  refine gs_getf (q := 0) C fl_X7_34 (cls_X7 hx) lt_X_ShopsAsOne (oc_X_ShopsAsOne a ι _) rfl dX7_gainOf_13 ?_
  refine gs_getf (q := 41) C fl_X7_166 (cls_X0 hx) lt_X_Bests (oc_X_Bests a ι _) rfl dX7_gainOf_16 ?_
  refine gx_aload_0 C dX7_gainOf_19 rfl ?_
  refine gs_getf (q := 0) C fl_X7_21 (cls_X7 hx) lt_X_ShopsAsOne (oc_X_ShopsAsOne a ι _) rfl dX7_gainOf_20 ?_
  refine gx_iload_1 C dX7_gainOf_23 rfl ?_
  obtain ⟨v4, e3, h⟩ := gi_cp h
  refine gc_IV C (c_Standing_profitOf (gx_l Γ) (gx_D Γ) hx a (r := 0) (by decide) _ _ e3) (gx_cw C gx_uu lk_X7_133 (by decide) (by decide)) (cls_X4 hx).1 (gs_recv (q := 21) (lt_X_Standing (q := 0) (by decide)) (oc_X_Standing a ι _ (q := 0) (by decide))) rfl rfl (Nat.le_of_ble_eq_true rfl) ⟨Nat.zero_le _, Nat.zero_le _⟩ dX7_gainOf_24 ?_
  refine gx_isub C dX7_gainOf_27 ?_
  exact gx_iret C F rfl dX7_gainOf_28 (Option.some.inj h)
def m_ShopsAsOne_otherwise_2 (t : Int32 × gx_S) (k2 : Int32 × gx_S → Option (Int32 × gx_S)) : Option (Int32 × gx_S) := match t with
  | (x1, S) => if (S 1 0) ≤ x1 then some ((-1), S) else gx_cs (m_ShopsAsOne_gainOf x1 S) fun v3 S2 => if v3 ≤ 0 then k2 ((x1 + 1), S2) else some (x1, S2)
set_option maxRecDepth 20000 in
set_option maxHeartbeats 1000000 in
theorem b_ShopsAsOne_otherwise_2 {Γ : gx_T} {ι : Nat → ClassId} {a : Nat → Nat} {out : Int32 × gx_S} (hx : gx_std vwCl (gty ι) (gx_cl Γ) (gx_ty Γ)) (C : gx_ok Γ cX7_otherwise RX7 gx_U 10) (F : gx_finI Γ ((Option.some Jvm.ClassFile.FieldType.int)) (wX a ι) out ∧ gx_nL Γ = 2) {k2 : Int32 × gx_S → Option (Int32 × gx_S)} {x1 : Int32} {S : gx_S} (hk2 : ∀ (x17 : Int32) (S7 : gx_S), k2 (x17, S7) = some out → gx_G Γ 0 0 2 [.ref (a 0), .int x17] [] (wX a ι S7)) (h : m_ShopsAsOne_otherwise_2 (x1, S) k2 = some out) : gx_G Γ 0 0 2 [.ref (a 0), .int x1] [] (wX a ι S) := by
  obtain ⟨F, hnL⟩ := F
  unfold m_ShopsAsOne_otherwise_2 at h
  dsimp only at h
  refine gx_iload_1 C dX7_otherwise_2 rfl ?_
  refine gx_aload_0 C dX7_otherwise_3 rfl ?_
  refine gs_getf (q := 0) C fl_X7_10 (cls_X7 hx) lt_X_ShopsAsOne (oc_X_ShopsAsOne a ι _) rfl dX7_otherwise_4 ?_
  refine gs_getf (q := 1) C fl_X7_159 (cls_X5 hx) lt_X_Street (oc_X_Street a ι _) rfl dX7_otherwise_7 ?_
  refine gx_icmp_ge (tgt := 29) C dX7_otherwise_10 (by decide) (fun hc5 => ?_) (fun hc5 => ?_)
  · have h := gi_t hc5 h
    refine gx_iconstm1 C dX7_otherwise_29 ?_
    exact gx_iret C F rfl dX7_otherwise_30 (Option.some.inj h)
  · have h := gi_f hc5 h
    refine gx_aload_0 C dX7_otherwise_13 rfl ?_
    refine gx_iload_1 C dX7_otherwise_14 rfl ?_
    obtain ⟨v3, S2, e1, h⟩ := gi_cs h
    refine gc_IV C (c_ShopsAsOne_gainOf (gx_l Γ) (gx_D Γ) hx a _ _ e1) (gx_cw C gx_uu lk_X7_163 (by decide) (by decide)) (cls_X7 hx).1 (gs_recv (q := 0) lt_X_ShopsAsOne (oc_X_ShopsAsOne a ι _)) rfl rfl (Nat.le_of_ble_eq_true rfl) ⟨Nat.zero_le _, Nat.zero_le _⟩ dX7_otherwise_15 ?_
    refine gx_if_le (tgt := 23) C dX7_otherwise_18 (by decide) (fun hc4 => ?_) (fun hc4 => ?_)
    · have h := gi_t hc4 h
      refine gx_iinc1 C dX7_otherwise_23 rfl (by rw [hnL]; decide) trivial ?_
      refine gx_goto (tgt := 2) C dX7_otherwise_26 (by decide) ?_
      exact gx_weak (gx_le_k rfl (gx_le_k rfl gx_le_0)) (hk2 _ _ h)
    · have h := gi_f hc4 h
      refine gx_iload_1 C dX7_otherwise_21 rfl ?_
      exact gx_iret C F rfl dX7_otherwise_22 (Option.some.inj h)
def m_ShopsAsOne_otherwise (S : gx_S) : Option (Int32 × gx_S) := gx_loop (m_ShopsAsOne_otherwise_2) 5000 (0, S)
set_option maxRecDepth 20000 in
set_option maxHeartbeats 1000000 in
theorem c_ShopsAsOne_otherwise (l : Launch) (D : va_G) {cl : List vw_C} {tys : List (ClassId × FieldType)} {ι : Nat → ClassId} (hx : gx_std vwCl (gty ι) cl tys) (a : Nat → Nat) (S : gx_S) {out : Int32 × gx_S} (h : m_ShopsAsOne_otherwise  S = some out) : gx_mI l D cl tys yX7_otherwise (.code yX7_otherwise cX7_otherwise 2 ((Option.some Jvm.ClassFile.FieldType.int)) :: gx_U) (gx_rm 10) [.ref (a 0)] (wX a ι S) (wX a ι) out := by
  unfold m_ShopsAsOne_otherwise at h
  refine gx_startI (V := [.ref (a 0), .null]) 1 (by decide +kernel) (Nat.le_of_ble_eq_true rfl) rfl (fun Γ hl hD hcl hty hnL C F => ?_)
  subst hl; subst hD; subst hcl; subst hty
  refine gx_iconst0 C dX7_otherwise_0 ?_
  refine gx_istore_1 C dX7_otherwise_1 (by rw [hnL]; decide) trivial ?_
  refine gx_weak (gx_le_k rfl (gx_le_k rfl gx_le_0)) (gi_loop (P := fun t => gx_G Γ 0 0 2 [.ref (a 0), .int t.1] [] (wX a ι t.2)) (fun kk t hk h => ?_) 5000 _ h)
  obtain ⟨x19, S'9⟩ := t
  exact b_ShopsAsOne_otherwise_2 hx C ⟨F, hnL⟩ (k2 := kk) (fun x18 S'8 h => hk (x18, S'8) h) h
def m_ShopsAsOne_gain (x1 : Int32) (S : gx_S) : Option (Int32 × gx_S) := gx_cp (m_ShopsAsOne_isNoOwner x1 S) fun v2 => if v2 = 0 then gx_cs (m_ShopsAsOne_gainOf x1 S) fun v5 S4 => some (v5, S4) else some ((-1000001), S)
set_option maxRecDepth 20000 in
set_option maxHeartbeats 1000000 in
theorem c_ShopsAsOne_gain (l : Launch) (D : va_G) {cl : List vw_C} {tys : List (ClassId × FieldType)} {ι : Nat → ClassId} (hx : gx_std vwCl (gty ι) cl tys) (a : Nat → Nat) (x1 : Int32) (S : gx_S) {out : Int32 × gx_S} (h : m_ShopsAsOne_gain x1 S = some out) : gx_mI l D cl tys yX7_gain (.code yX7_gain cX7_gain 2 ((Option.some Jvm.ClassFile.FieldType.int)) :: gx_U) (gx_rm 10) [.ref (a 0), .int x1] (wX a ι S) (wX a ι) out := by
  unfold m_ShopsAsOne_gain at h
  refine gx_startI (V := [.ref (a 0), .int x1]) 0 (by decide +kernel) (Nat.le_of_ble_eq_true rfl) rfl (fun Γ hl hD hcl hty hnL C F => ?_)
  subst hl; subst hD; subst hcl; subst hty
  refine gx_aload_0 C dX7_gain_0 rfl ?_
  refine gx_iload_1 C dX7_gain_1 rfl ?_
  obtain ⟨v2, e1, h⟩ := gi_cp h
  refine gc_IV C (c_ShopsAsOne_isNoOwner (gx_l Γ) (gx_D Γ) hx a _ _ e1) (gx_cw C gx_uu lk_X7_80 (by decide) (by decide)) (cls_X7 hx).1 (gs_recv (q := 0) lt_X_ShopsAsOne (oc_X_ShopsAsOne a ι _)) rfl rfl (Nat.le_of_ble_eq_true rfl) ⟨Nat.zero_le _, Nat.zero_le _⟩ dX7_gain_2 ?_
  refine gx_if_eq (tgt := 13) C dX7_gain_5 (by decide) (fun hc6 => ?_) (fun hc6 => ?_)
  · have h := gi_t hc6 h
    refine gx_aload_0 C dX7_gain_13 rfl ?_
    refine gx_iload_1 C dX7_gain_14 rfl ?_
    obtain ⟨v5, S4, e3, h⟩ := gi_cs h
    refine gc_IV C (c_ShopsAsOne_gainOf (gx_l Γ) (gx_D Γ) hx a _ _ e3) (gx_cw C gx_uu lk_X7_163 (by decide) (by decide)) (cls_X7 hx).1 (gs_recv (q := 0) lt_X_ShopsAsOne (oc_X_ShopsAsOne a ι _)) rfl rfl (Nat.le_of_ble_eq_true rfl) ⟨Nat.zero_le _, Nat.zero_le _⟩ dX7_gain_15 ?_
    exact gx_iret C F rfl dX7_gain_18 (Option.some.inj h)
  · have h := gi_f hc6 h
    refine gx_ldc (v := (-1000001)) C dX7_gain_8 kX7_132 ?_
    refine gx_goto (tgt := 18) C dX7_gain_10 (by decide) ?_
    exact gx_iret C F rfl dX7_gain_18 (Option.some.inj h)
def m_ShopsAsOne_wouldPay_58 (k13 : Int32 × gx_S → Option (Int32 × gx_S)) (x1 : Int32) (x2 : Int32) (x3 : Int32) (S : gx_S) : Option (Int32 × gx_S) := k13 ((x3 + 1), S)
set_option maxRecDepth 20000 in
set_option maxHeartbeats 1000000 in
theorem b_ShopsAsOne_wouldPay_58 {Γ : gx_T} {ι : Nat → ClassId} {a : Nat → Nat} {out : Int32 × gx_S} (hx : gx_std vwCl (gty ι) (gx_cl Γ) (gx_ty Γ)) (C : gx_ok Γ cX7_wouldPay RX7 gx_U 3) (F : gx_finI Γ ((Option.some Jvm.ClassFile.FieldType.boolean)) (wX a ι) out ∧ gx_nL Γ = 4) {k13 : Int32 × gx_S → Option (Int32 × gx_S)} {x1 : Int32} {x2 : Int32} {x3 : Int32} {S : gx_S} (hk13 : ∀ (x37 : Int32) (S7 : gx_S), k13 (x37, S7) = some out → gx_G Γ 0 0 13 [.ref (a 0), .int x1, .int x2, .int x37] [] (wX a ι S7)) (h : m_ShopsAsOne_wouldPay_58 k13 x1 x2 x3 S = some out) : gx_G Γ 0 0 58 [.ref (a 0), .int x1, .int x2, .int x3] [] (wX a ι S) := by
  obtain ⟨F, hnL⟩ := F
  unfold m_ShopsAsOne_wouldPay_58 at h
  refine gx_iinc1 C dX7_wouldPay_58 rfl (by rw [hnL]; decide) trivial ?_
  refine gx_goto (tgt := 13) C dX7_wouldPay_61 (by decide) ?_
  exact gx_weak (gx_le_k rfl (gx_le_k rfl (gx_le_k rfl (gx_le_k rfl gx_le_0)))) (hk13 _ _ h)
def m_ShopsAsOne_wouldPay_13 (x1 : Int32) (x2 : Int32) (t : Int32 × gx_S) (k13 : Int32 × gx_S → Option (Int32 × gx_S)) : Option (Int32 × gx_S) := match t with
  | (x3, S) => if (S 1 1) ≤ x3 then gx_cp (m_Standing_marginOf 1 x1 S) fun v2 => gx_cp (m_Standing_marginOf 0 x1 S) fun v4 => if v2 < v4 then some (0, S) else some (1, S) else if ((x1 >>> (x3 &&& 31)) &&& (1 : Int32)) = 1 then gx_ck 6 x3 (gx_let (gx_st S 26 x3.toNatClampNeg (if ((S 22 x3.toNatClampNeg) + x2) < (9 : Int32) then ((S 22 x3.toNatClampNeg) + x2) else (9 : Int32))) fun S7 => m_ShopsAsOne_wouldPay_58 k13 x1 x2 x3 S7) else m_ShopsAsOne_wouldPay_58 k13 x1 x2 x3 S
set_option maxRecDepth 20000 in
set_option maxHeartbeats 1000000 in
theorem b_ShopsAsOne_wouldPay_13 {Γ : gx_T} {ι : Nat → ClassId} {a : Nat → Nat} {out : Int32 × gx_S} (hx : gx_std vwCl (gty ι) (gx_cl Γ) (gx_ty Γ)) (C : gx_ok Γ cX7_wouldPay RX7 gx_U 3) (F : gx_finI Γ ((Option.some Jvm.ClassFile.FieldType.boolean)) (wX a ι) out ∧ gx_nL Γ = 4) {k13 : Int32 × gx_S → Option (Int32 × gx_S)} {x1 : Int32} {x2 : Int32} {x3 : Int32} {S : gx_S} (hk13 : ∀ (x37 : Int32) (S7 : gx_S), k13 (x37, S7) = some out → gx_G Γ 0 0 13 [.ref (a 0), .int x1, .int x2, .int x37] [] (wX a ι S7)) (h : m_ShopsAsOne_wouldPay_13 x1 x2 (x3, S) k13 = some out) : gx_G Γ 0 0 13 [.ref (a 0), .int x1, .int x2, .int x3] [] (wX a ι S) := by
  obtain ⟨F, hnL⟩ := F
  unfold m_ShopsAsOne_wouldPay_13 at h
  dsimp only at h
  refine gx_iload_3 C dX7_wouldPay_13 rfl ?_
  refine gx_aload_0 C dX7_wouldPay_14 rfl ?_
  refine gs_getf (q := 0) C fl_X7_10 (cls_X7 hx) lt_X_ShopsAsOne (oc_X_ShopsAsOne a ι _) rfl dX7_wouldPay_15 ?_
  refine gs_getf (q := 1) C fl_X7_175 (cls_X5 hx) lt_X_Street (oc_X_Street a ι _) rfl dX7_wouldPay_18 ?_
  refine gx_icmp_ge (tgt := 64) C dX7_wouldPay_21 (by decide) (fun hc10 => ?_) (fun hc10 => ?_)
  · have h := gi_t hc10 h
    refine gx_aload_0 C dX7_wouldPay_64 rfl ?_
    refine gs_getf (q := 0) C fl_X7_25 (cls_X7 hx) lt_X_ShopsAsOne (oc_X_ShopsAsOne a ι _) rfl dX7_wouldPay_65 ?_
    refine gx_iload_1 C dX7_wouldPay_68 rfl ?_
    obtain ⟨v2, e1, h⟩ := gi_cp h
    refine gc_IV C (c_Standing_marginOf (gx_l Γ) (gx_D Γ) hx a (r := 1) (by decide) _ _ e1) (gx_cw C gx_uu lk_X7_199 (by decide) (by decide)) (cls_X4 hx).1 (gs_recv (q := 25) (lt_X_Standing (q := 1) (by decide)) (oc_X_Standing a ι _ (q := 1) (by decide))) rfl rfl (Nat.le_of_ble_eq_true rfl) ⟨Nat.zero_le _, Nat.zero_le _⟩ dX7_wouldPay_69 ?_
    refine gx_aload_0 C dX7_wouldPay_72 rfl ?_
    refine gs_getf (q := 0) C fl_X7_21 (cls_X7 hx) lt_X_ShopsAsOne (oc_X_ShopsAsOne a ι _) rfl dX7_wouldPay_73 ?_
    refine gx_iload_1 C dX7_wouldPay_76 rfl ?_
    obtain ⟨v4, e3, h⟩ := gi_cp h
    refine gc_IV C (c_Standing_marginOf (gx_l Γ) (gx_D Γ) hx a (r := 0) (by decide) _ _ e3) (gx_cw C gx_uu lk_X7_199 (by decide) (by decide)) (cls_X4 hx).1 (gs_recv (q := 21) (lt_X_Standing (q := 0) (by decide)) (oc_X_Standing a ι _ (q := 0) (by decide))) rfl rfl (Nat.le_of_ble_eq_true rfl) ⟨Nat.zero_le _, Nat.zero_le _⟩ dX7_wouldPay_77 ?_
    refine gx_icmp_lt (tgt := 87) C dX7_wouldPay_80 (by decide) (fun hc5 => ?_) (fun hc5 => ?_)
    · have h := gi_t hc5 h
      refine gx_iconst0 C dX7_wouldPay_87 ?_
      exact gx_iret C F (by decide) dX7_wouldPay_88 (Option.some.inj h)
    · have h := gi_f hc5 h
      refine gx_iconst1 C dX7_wouldPay_83 ?_
      refine gx_goto (tgt := 88) C dX7_wouldPay_84 (by decide) ?_
      exact gx_iret C F (by decide) dX7_wouldPay_88 (Option.some.inj h)
  · have h := gi_f hc10 h
    refine gx_iload_1 C dX7_wouldPay_24 rfl ?_
    refine gx_iload_3 C dX7_wouldPay_25 rfl ?_
    refine gx_ishr C dX7_wouldPay_26 ?_
    refine gx_iconst1 C dX7_wouldPay_27 ?_
    refine gx_iand C dX7_wouldPay_28 ?_
    refine gx_iconst1 C dX7_wouldPay_29 ?_
    refine gx_icmp_ne (tgt := 58) C dX7_wouldPay_30 (by decide) (fun hc9 => ?_) (fun hc9 => ?_)
    · have h := gi_f hc9 h
      exact gx_weak (gx_le_k rfl (gx_le_k rfl (gx_le_k rfl (gx_le_k rfl gx_le_0)))) (b_ShopsAsOne_wouldPay_58 hx C ⟨F, hnL⟩ hk13 h)
    · have h := gi_t hc9 h
      refine gx_aload_0 C dX7_wouldPay_33 rfl ?_
      refine gs_getf (q := 0) C fl_X7_25 (cls_X7 hx) lt_X_ShopsAsOne (oc_X_ShopsAsOne a ι _) rfl dX7_wouldPay_34 ?_
      refine gs_getf (q := 25) C fl_X7_98 (cls_X4 hx) (lt_X_Standing (q := 1) (by decide)) (oc_X_Standing a ι _ (q := 1) (by decide)) rfl dX7_wouldPay_37 ?_
      refine gx_iload_3 C dX7_wouldPay_40 rfl ?_
      refine gx_bipush (v := 9) C dX7_wouldPay_41 (by decide) ?_
      refine gx_aload_0 C dX7_wouldPay_43 rfl ?_
      refine gs_getf (q := 0) C fl_X7_21 (cls_X7 hx) lt_X_ShopsAsOne (oc_X_ShopsAsOne a ι _) rfl dX7_wouldPay_44 ?_
      refine gs_getf (q := 21) C fl_X7_98 (cls_X4 hx) (lt_X_Standing (q := 0) (by decide)) (oc_X_Standing a ι _ (q := 0) (by decide)) rfl dX7_wouldPay_47 ?_
      refine gx_iload_3 C dX7_wouldPay_50 rfl ?_
      obtain ⟨hi6, h⟩ := gi_ck h
      refine gs_iald (q := 22) C (ac_X_Standing_price hx a (q := 0) (by decide)) (lt_X_Standing_price (q := 0) (by decide)) hi6 dX7_wouldPay_51 ?_
      refine gx_iload_2 C dX7_wouldPay_52 rfl ?_
      refine gx_iadd C dX7_wouldPay_53 ?_
      refine gx_mmin C (by decide) lk_X7_194 (Nat.le_of_ble_eq_true rfl) ⟨Nat.zero_le _, Nat.zero_le _⟩ dX7_wouldPay_54 ?_
      obtain ⟨S7, e8, h⟩ := gi_let h
      refine gs_iast (q := 26) C (ac_X_Standing_price hx a (q := 1) (by decide)) (lt_X_Standing_price (q := 1) (by decide)) hi6 e8 dX7_wouldPay_57 ?_
      exact gx_weak (gx_le_k rfl (gx_le_k rfl (gx_le_k rfl (gx_le_k rfl gx_le_0)))) (b_ShopsAsOne_wouldPay_58 hx C ⟨F, hnL⟩ hk13 h)
def m_ShopsAsOne_wouldPay (x1 : Int32) (x2 : Int32) (S : gx_S) : Option (Int32 × gx_S) := gx_cp (m_Standing_become 1 0 S) fun S2 => gx_loop (m_ShopsAsOne_wouldPay_13 x1 x2) 5000 (0, S2)
set_option maxRecDepth 20000 in
set_option maxHeartbeats 1000000 in
theorem c_ShopsAsOne_wouldPay (l : Launch) (D : va_G) {cl : List vw_C} {tys : List (ClassId × FieldType)} {ι : Nat → ClassId} (hx : gx_std vwCl (gty ι) cl tys) (a : Nat → Nat) (x1 : Int32) (x2 : Int32) (S : gx_S) {out : Int32 × gx_S} (h : m_ShopsAsOne_wouldPay x1 x2 S = some out) : gx_mI l D cl tys yX7_wouldPay (.code yX7_wouldPay cX7_wouldPay 4 ((Option.some Jvm.ClassFile.FieldType.boolean)) :: gx_U) (gx_rm 3) [.ref (a 0), .int x1, .int x2] (wX a ι S) (wX a ι) out := by
  unfold m_ShopsAsOne_wouldPay at h
  refine gx_startI (V := [.ref (a 0), .int x1, .int x2, .null]) 1 (by decide +kernel) (Nat.le_of_ble_eq_true rfl) rfl (fun Γ hl hD hcl hty hnL C F => ?_)
  subst hl; subst hD; subst hcl; subst hty
  refine gx_aload_0 C dX7_wouldPay_0 rfl ?_
  refine gs_getf (q := 0) C fl_X7_25 (cls_X7 hx) lt_X_ShopsAsOne (oc_X_ShopsAsOne a ι _) rfl dX7_wouldPay_1 ?_
  refine gx_aload_0 C dX7_wouldPay_4 rfl ?_
  refine gs_getf (q := 0) C fl_X7_21 (cls_X7 hx) lt_X_ShopsAsOne (oc_X_ShopsAsOne a ι _) rfl dX7_wouldPay_5 ?_
  obtain ⟨S2, e1, h⟩ := gi_cp h
  refine gc_VV C (c_Standing_become (gx_l Γ) (gx_D Γ) hx a (r := 1) (r1 := 0) (by decide) (by decide) _ e1) (gx_cw C gx_uu lk_X7_151 (by decide) (by decide)) (cls_X4 hx).1 (gs_recv (q := 25) (lt_X_Standing (q := 1) (by decide)) (oc_X_Standing a ι _ (q := 1) (by decide))) rfl rfl (Nat.le_of_ble_eq_true rfl) ⟨Nat.zero_le _, Nat.zero_le _⟩ dX7_wouldPay_8 ?_
  refine gx_iconst0 C dX7_wouldPay_11 ?_
  refine gx_istore_3 C dX7_wouldPay_12 (by rw [hnL]; decide) trivial ?_
  refine gx_weak (gx_le_k rfl (gx_le_k rfl (gx_le_k rfl (gx_le_k rfl gx_le_0)))) (gi_loop (P := fun t => gx_G Γ 0 0 13 [.ref (a 0), .int x1, .int x2, .int t.1] [] (wX a ι t.2)) (fun kk t hk h => ?_) 5000 _ h)
  obtain ⟨x39, S'9⟩ := t
  exact b_ShopsAsOne_wouldPay_13 hx C ⟨F, hnL⟩ (k13 := kk) (fun x38 S'8 h => hk (x38, S'8) h) h
def m_ShopsAsOne_leastMarket_96 (k11 : Int32 × gx_S → Option (Int32 × gx_S)) (k28 : Int32 × gx_S → Option (Int32 × gx_S)) (x1 : Int32) (x2 : Int32) (x3 : Int32) (x4 : Int32) (x5 : Int32) (S : gx_S) : Option (Int32 × gx_S) := k28 ((x5 + 1), S)
set_option maxRecDepth 20000 in
set_option maxHeartbeats 1000000 in
theorem b_ShopsAsOne_leastMarket_96 {Γ : gx_T} {ι : Nat → ClassId} {a : Nat → Nat} {out : Int32 × gx_S} (hx : gx_std vwCl (gty ι) (gx_cl Γ) (gx_ty Γ)) (C : gx_ok Γ cX7_leastMarket RX7 gx_U 4) (F : gx_finI Γ ((Option.some Jvm.ClassFile.FieldType.int)) (wX a ι) out ∧ gx_nL Γ = 7) {k11 : Int32 × gx_S → Option (Int32 × gx_S)} {k28 : Int32 × gx_S → Option (Int32 × gx_S)} {x1 : Int32} {x2 : Int32} {x3 : Int32} {x4 : Int32} {x5 : Int32} {S : gx_S} (hk11 : ∀ (x47 : Int32) (S7 : gx_S), k11 (x47, S7) = some out → gx_G Γ 0 0 11 [.ref (a 0), .int x1, .int x2, .int x3, .int x47, .null, .null] [] (wX a ι S7)) (hk28 : ∀ (x57 : Int32) (S7 : gx_S), k28 (x57, S7) = some out → gx_G Γ 0 0 28 [.ref (a 0), .int x1, .int x2, .int x3, .int x4, .int x57, .null] [] (wX a ι S7)) (h : m_ShopsAsOne_leastMarket_96 k11 k28 x1 x2 x3 x4 x5 S = some out) : gx_G Γ 0 0 96 [.ref (a 0), .int x1, .int x2, .int x3, .int x4, .int x5, .null] [] (wX a ι S) := by
  obtain ⟨F, hnL⟩ := F
  unfold m_ShopsAsOne_leastMarket_96 at h
  refine gx_iinc1 C dX7_leastMarket_96 rfl (by rw [hnL]; decide) trivial ?_
  refine gx_goto (tgt := 28) C dX7_leastMarket_99 (by decide) ?_
  exact gx_weak (gx_le_k rfl (gx_le_k rfl (gx_le_k rfl (gx_le_k rfl (gx_le_k rfl (gx_le_k rfl (gx_le_n gx_le_0))))))) (hk28 _ _ h)
def m_ShopsAsOne_leastMarket_76 (k11 : Int32 × gx_S → Option (Int32 × gx_S)) (k28 : Int32 × gx_S → Option (Int32 × gx_S)) (x1 : Int32) (x2 : Int32) (x3 : Int32) (x4 : Int32) (x5 : Int32) (s0 : Int32) (S : gx_S) : Option (Int32 × gx_S) := if s0 = 0 then m_ShopsAsOne_leastMarket_96 k11 k28 x1 x2 x3 x4 x5 S else gx_cs (m_ShopsAsOne_wouldPay x5 x2 S) fun v3 S2 => if v3 = 0 then m_ShopsAsOne_leastMarket_96 k11 k28 x1 x2 x3 x4 x5 S2 else some (x5, S2)
set_option maxRecDepth 20000 in
set_option maxHeartbeats 1000000 in
theorem b_ShopsAsOne_leastMarket_76 {Γ : gx_T} {ι : Nat → ClassId} {a : Nat → Nat} {out : Int32 × gx_S} (hx : gx_std vwCl (gty ι) (gx_cl Γ) (gx_ty Γ)) (C : gx_ok Γ cX7_leastMarket RX7 gx_U 4) (F : gx_finI Γ ((Option.some Jvm.ClassFile.FieldType.int)) (wX a ι) out ∧ gx_nL Γ = 7) {k11 : Int32 × gx_S → Option (Int32 × gx_S)} {k28 : Int32 × gx_S → Option (Int32 × gx_S)} {x1 : Int32} {x2 : Int32} {x3 : Int32} {x4 : Int32} {x5 : Int32} {s0 : Int32} {S : gx_S} (hk11 : ∀ (x47 : Int32) (S7 : gx_S), k11 (x47, S7) = some out → gx_G Γ 0 0 11 [.ref (a 0), .int x1, .int x2, .int x3, .int x47, .null, .null] [] (wX a ι S7)) (hk28 : ∀ (x57 : Int32) (S7 : gx_S), k28 (x57, S7) = some out → gx_G Γ 0 0 28 [.ref (a 0), .int x1, .int x2, .int x3, .int x4, .int x57, .null] [] (wX a ι S7)) (h : m_ShopsAsOne_leastMarket_76 k11 k28 x1 x2 x3 x4 x5 s0 S = some out) : gx_G Γ 0 0 76 [.ref (a 0), .int x1, .int x2, .int x3, .int x4, .int x5, .null] [.int s0] (wX a ι S) := by
  obtain ⟨F, hnL⟩ := F
  unfold m_ShopsAsOne_leastMarket_76 at h
  refine gx_istore C dX7_leastMarket_76 (by rw [hnL]; decide) trivial ?_
  refine gx_iload C dX7_leastMarket_78 rfl ?_
  refine gx_if_eq (tgt := 96) C dX7_leastMarket_80 (by decide) (fun hc5 => ?_) (fun hc5 => ?_)
  · have h := gi_t hc5 h
    exact gx_weak (gx_le_k rfl (gx_le_k rfl (gx_le_k rfl (gx_le_k rfl (gx_le_k rfl (gx_le_k rfl (gx_le_n gx_le_0))))))) (b_ShopsAsOne_leastMarket_96 hx C ⟨F, hnL⟩ hk11 hk28 h)
  · have h := gi_f hc5 h
    refine gx_aload_0 C dX7_leastMarket_83 rfl ?_
    refine gx_iload C dX7_leastMarket_84 rfl ?_
    refine gx_iload_2 C dX7_leastMarket_86 rfl ?_
    obtain ⟨v3, S2, e1, h⟩ := gi_cs h
    refine gc_IV C (c_ShopsAsOne_wouldPay (gx_l Γ) (gx_D Γ) hx a _ _ _ e1) (gx_cw C gx_uu lk_X7_178 (by decide) (by decide)) (cls_X7 hx).1 (gs_recv (q := 0) lt_X_ShopsAsOne (oc_X_ShopsAsOne a ι _)) rfl rfl (Nat.le_of_ble_eq_true rfl) ⟨Nat.zero_le _, Nat.zero_le _⟩ dX7_leastMarket_87 ?_
    refine gx_if_eq (tgt := 96) C dX7_leastMarket_90 (by decide) (fun hc4 => ?_) (fun hc4 => ?_)
    · have h := gi_t hc4 h
      exact gx_weak (gx_le_k rfl (gx_le_k rfl (gx_le_k rfl (gx_le_k rfl (gx_le_k rfl (gx_le_k rfl (gx_le_n gx_le_0))))))) (b_ShopsAsOne_leastMarket_96 hx C ⟨F, hnL⟩ hk11 hk28 h)
    · have h := gi_f hc4 h
      refine gx_iload C dX7_leastMarket_93 rfl ?_
      exact gx_iret C F rfl dX7_leastMarket_95 (Option.some.inj h)
def m_ShopsAsOne_leastMarket_75 (k11 : Int32 × gx_S → Option (Int32 × gx_S)) (k28 : Int32 × gx_S → Option (Int32 × gx_S)) (x1 : Int32) (x2 : Int32) (x3 : Int32) (x4 : Int32) (x5 : Int32) (S : gx_S) : Option (Int32 × gx_S) := m_ShopsAsOne_leastMarket_76 k11 k28 x1 x2 x3 x4 x5 0 S
set_option maxRecDepth 20000 in
set_option maxHeartbeats 1000000 in
theorem b_ShopsAsOne_leastMarket_75 {Γ : gx_T} {ι : Nat → ClassId} {a : Nat → Nat} {out : Int32 × gx_S} (hx : gx_std vwCl (gty ι) (gx_cl Γ) (gx_ty Γ)) (C : gx_ok Γ cX7_leastMarket RX7 gx_U 4) (F : gx_finI Γ ((Option.some Jvm.ClassFile.FieldType.int)) (wX a ι) out ∧ gx_nL Γ = 7) {k11 : Int32 × gx_S → Option (Int32 × gx_S)} {k28 : Int32 × gx_S → Option (Int32 × gx_S)} {x1 : Int32} {x2 : Int32} {x3 : Int32} {x4 : Int32} {x5 : Int32} {S : gx_S} (hk11 : ∀ (x47 : Int32) (S7 : gx_S), k11 (x47, S7) = some out → gx_G Γ 0 0 11 [.ref (a 0), .int x1, .int x2, .int x3, .int x47, .null, .null] [] (wX a ι S7)) (hk28 : ∀ (x57 : Int32) (S7 : gx_S), k28 (x57, S7) = some out → gx_G Γ 0 0 28 [.ref (a 0), .int x1, .int x2, .int x3, .int x4, .int x57, .null] [] (wX a ι S7)) (h : m_ShopsAsOne_leastMarket_75 k11 k28 x1 x2 x3 x4 x5 S = some out) : gx_G Γ 0 0 75 [.ref (a 0), .int x1, .int x2, .int x3, .int x4, .int x5, .null] [] (wX a ι S) := by
  obtain ⟨F, hnL⟩ := F
  unfold m_ShopsAsOne_leastMarket_75 at h
  refine gx_iconst0 C dX7_leastMarket_75 ?_
  exact gx_weak (gx_le_k rfl (gx_le_k rfl (gx_le_k rfl (gx_le_k rfl (gx_le_k rfl (gx_le_k rfl (gx_le_n gx_le_0))))))) (b_ShopsAsOne_leastMarket_76 hx C ⟨F, hnL⟩ hk11 hk28 h)
def m_ShopsAsOne_leastMarket_28 (k11 : Int32 × gx_S → Option (Int32 × gx_S)) (x1 : Int32) (x2 : Int32) (x3 : Int32) (x4 : Int32) (t : Int32 × gx_S) (k28 : Int32 × gx_S → Option (Int32 × gx_S)) : Option (Int32 × gx_S) := match t with
  | (x5, S) => if ((1 : Int32) <<< ((S 1 1) &&& 31)) ≤ x5 then k11 ((x4 + 1), S) else gx_cp (m_Integer_bitCount x5 S) fun v2 => if v2 = x4 then if ((x5 >>> (x1 &&& 31)) &&& (1 : Int32)) = 1 then if (x5 &&& (x3 ^^^ ((-1) : Int32))) = 0 then m_ShopsAsOne_leastMarket_76 k11 k28 x1 x2 x3 x4 x5 1 S else m_ShopsAsOne_leastMarket_75 k11 k28 x1 x2 x3 x4 x5 S else m_ShopsAsOne_leastMarket_75 k11 k28 x1 x2 x3 x4 x5 S else m_ShopsAsOne_leastMarket_75 k11 k28 x1 x2 x3 x4 x5 S
set_option maxRecDepth 20000 in
set_option maxHeartbeats 1000000 in
theorem b_ShopsAsOne_leastMarket_28 {Γ : gx_T} {ι : Nat → ClassId} {a : Nat → Nat} {out : Int32 × gx_S} (hx : gx_std vwCl (gty ι) (gx_cl Γ) (gx_ty Γ)) (C : gx_ok Γ cX7_leastMarket RX7 gx_U 4) (F : gx_finI Γ ((Option.some Jvm.ClassFile.FieldType.int)) (wX a ι) out ∧ gx_nL Γ = 7) {k11 : Int32 × gx_S → Option (Int32 × gx_S)} {k28 : Int32 × gx_S → Option (Int32 × gx_S)} {x1 : Int32} {x2 : Int32} {x3 : Int32} {x4 : Int32} {x5 : Int32} {S : gx_S} (hk11 : ∀ (x47 : Int32) (S7 : gx_S), k11 (x47, S7) = some out → gx_G Γ 0 0 11 [.ref (a 0), .int x1, .int x2, .int x3, .int x47, .null, .null] [] (wX a ι S7)) (hk28 : ∀ (x57 : Int32) (S7 : gx_S), k28 (x57, S7) = some out → gx_G Γ 0 0 28 [.ref (a 0), .int x1, .int x2, .int x3, .int x4, .int x57, .null] [] (wX a ι S7)) (h : m_ShopsAsOne_leastMarket_28 k11 x1 x2 x3 x4 (x5, S) k28 = some out) : gx_G Γ 0 0 28 [.ref (a 0), .int x1, .int x2, .int x3, .int x4, .int x5, .null] [] (wX a ι S) := by
  obtain ⟨F, hnL⟩ := F
  unfold m_ShopsAsOne_leastMarket_28 at h
  dsimp only at h
  refine gx_iload C dX7_leastMarket_28 rfl ?_
  refine gx_iconst1 C dX7_leastMarket_30 ?_
  refine gx_aload_0 C dX7_leastMarket_31 rfl ?_
  refine gs_getf (q := 0) C fl_X7_10 (cls_X7 hx) lt_X_ShopsAsOne (oc_X_ShopsAsOne a ι _) rfl dX7_leastMarket_32 ?_
  refine gs_getf (q := 1) C fl_X7_175 (cls_X5 hx) lt_X_Street (oc_X_Street a ι _) rfl dX7_leastMarket_35 ?_
  refine gx_ishl C dX7_leastMarket_38 ?_
  refine gx_icmp_ge (tgt := 102) C dX7_leastMarket_39 (by decide) (fun hc6 => ?_) (fun hc6 => ?_)
  · have h := gi_t hc6 h
    refine gx_iinc1 C dX7_leastMarket_102 rfl (by rw [hnL]; decide) trivial ?_
    refine gx_goto (tgt := 11) C dX7_leastMarket_105 (by decide) ?_
    exact gx_weak (gx_le_k rfl (gx_le_k rfl (gx_le_k rfl (gx_le_k rfl (gx_le_k rfl (gx_le_n (gx_le_n gx_le_0))))))) (hk11 _ _ h)
  · have h := gi_f hc6 h
    refine gx_iload C dX7_leastMarket_42 rfl ?_
    obtain ⟨v2, e1, h⟩ := gi_cp h
    refine gc_IS C (c_Integer_bitCount (gx_l Γ) (gx_D Γ) hx a _ _ e1) (gx_cwS C gx_uu lk_X7_189 (by decide) (by decide)) rfl rfl (Nat.le_of_ble_eq_true rfl) ⟨Nat.zero_le _, Nat.zero_le _⟩ dX7_leastMarket_44 ?_
    refine gx_iload C dX7_leastMarket_47 rfl ?_
    refine gx_icmp_ne (tgt := 75) C dX7_leastMarket_49 (by decide) (fun hc5 => ?_) (fun hc5 => ?_)
    · have h := gi_f hc5 h
      exact gx_weak (gx_le_k rfl (gx_le_k rfl (gx_le_k rfl (gx_le_k rfl (gx_le_k rfl (gx_le_k rfl (gx_le_n gx_le_0))))))) (b_ShopsAsOne_leastMarket_75 hx C ⟨F, hnL⟩ hk11 hk28 h)
    · have h := gi_t hc5 h
      refine gx_iload C dX7_leastMarket_52 rfl ?_
      refine gx_iload_1 C dX7_leastMarket_54 rfl ?_
      refine gx_ishr C dX7_leastMarket_55 ?_
      refine gx_iconst1 C dX7_leastMarket_56 ?_
      refine gx_iand C dX7_leastMarket_57 ?_
      refine gx_iconst1 C dX7_leastMarket_58 ?_
      refine gx_icmp_ne (tgt := 75) C dX7_leastMarket_59 (by decide) (fun hc4 => ?_) (fun hc4 => ?_)
      · have h := gi_f hc4 h
        exact gx_weak (gx_le_k rfl (gx_le_k rfl (gx_le_k rfl (gx_le_k rfl (gx_le_k rfl (gx_le_k rfl (gx_le_n gx_le_0))))))) (b_ShopsAsOne_leastMarket_75 hx C ⟨F, hnL⟩ hk11 hk28 h)
      · have h := gi_t hc4 h
        refine gx_iload C dX7_leastMarket_62 rfl ?_
        refine gx_iload_3 C dX7_leastMarket_64 rfl ?_
        refine gx_iconstm1 C dX7_leastMarket_65 ?_
        refine gx_ixor C dX7_leastMarket_66 ?_
        refine gx_iand C dX7_leastMarket_67 ?_
        refine gx_if_ne (tgt := 75) C dX7_leastMarket_68 (by decide) (fun hc3 => ?_) (fun hc3 => ?_)
        · have h := gi_f hc3 h
          exact gx_weak (gx_le_k rfl (gx_le_k rfl (gx_le_k rfl (gx_le_k rfl (gx_le_k rfl (gx_le_k rfl (gx_le_n gx_le_0))))))) (b_ShopsAsOne_leastMarket_75 hx C ⟨F, hnL⟩ hk11 hk28 h)
        · have h := gi_t hc3 h
          refine gx_iconst1 C dX7_leastMarket_71 ?_
          refine gx_goto (tgt := 76) C dX7_leastMarket_72 (by decide) ?_
          exact gx_weak (gx_le_k rfl (gx_le_k rfl (gx_le_k rfl (gx_le_k rfl (gx_le_k rfl (gx_le_k rfl (gx_le_n gx_le_0))))))) (b_ShopsAsOne_leastMarket_76 hx C ⟨F, hnL⟩ hk11 hk28 h)
def m_ShopsAsOne_leastMarket_11 (x1 : Int32) (x2 : Int32) (x3 : Int32) (t : Int32 × gx_S) (k11 : Int32 × gx_S → Option (Int32 × gx_S)) : Option (Int32 × gx_S) := match t with
  | (x4, S) => if (S 1 1) < x4 then some ((-1), S) else gx_loop (m_ShopsAsOne_leastMarket_28 k11 x1 x2 x3 x4) 5000 (((1 : Int32) <<< (x1 &&& 31)), S)
set_option maxRecDepth 20000 in
set_option maxHeartbeats 1000000 in
theorem b_ShopsAsOne_leastMarket_11 {Γ : gx_T} {ι : Nat → ClassId} {a : Nat → Nat} {out : Int32 × gx_S} (hx : gx_std vwCl (gty ι) (gx_cl Γ) (gx_ty Γ)) (C : gx_ok Γ cX7_leastMarket RX7 gx_U 4) (F : gx_finI Γ ((Option.some Jvm.ClassFile.FieldType.int)) (wX a ι) out ∧ gx_nL Γ = 7) {k11 : Int32 × gx_S → Option (Int32 × gx_S)} {x1 : Int32} {x2 : Int32} {x3 : Int32} {x4 : Int32} {S : gx_S} (hk11 : ∀ (x47 : Int32) (S7 : gx_S), k11 (x47, S7) = some out → gx_G Γ 0 0 11 [.ref (a 0), .int x1, .int x2, .int x3, .int x47, .null, .null] [] (wX a ι S7)) (h : m_ShopsAsOne_leastMarket_11 x1 x2 x3 (x4, S) k11 = some out) : gx_G Γ 0 0 11 [.ref (a 0), .int x1, .int x2, .int x3, .int x4, .null, .null] [] (wX a ι S) := by
  obtain ⟨F, hnL⟩ := F
  unfold m_ShopsAsOne_leastMarket_11 at h
  dsimp only at h
  refine gx_iload C dX7_leastMarket_11 rfl ?_
  refine gx_aload_0 C dX7_leastMarket_13 rfl ?_
  refine gs_getf (q := 0) C fl_X7_10 (cls_X7 hx) lt_X_ShopsAsOne (oc_X_ShopsAsOne a ι _) rfl dX7_leastMarket_14 ?_
  refine gs_getf (q := 1) C fl_X7_175 (cls_X5 hx) lt_X_Street (oc_X_Street a ι _) rfl dX7_leastMarket_17 ?_
  refine gx_icmp_gt (tgt := 108) C dX7_leastMarket_20 (by decide) (fun hc1 => ?_) (fun hc1 => ?_)
  · have h := gi_t hc1 h
    refine gx_iconstm1 C dX7_leastMarket_108 ?_
    exact gx_iret C F rfl dX7_leastMarket_109 (Option.some.inj h)
  · have h := gi_f hc1 h
    refine gx_iconst1 C dX7_leastMarket_23 ?_
    refine gx_iload_1 C dX7_leastMarket_24 rfl ?_
    refine gx_ishl C dX7_leastMarket_25 ?_
    refine gx_istore C dX7_leastMarket_26 (by rw [hnL]; decide) trivial ?_
    refine gx_weak (gx_le_k rfl (gx_le_k rfl (gx_le_k rfl (gx_le_k rfl (gx_le_k rfl (gx_le_k rfl (gx_le_n gx_le_0))))))) (gi_loop (P := fun t => gx_G Γ 0 0 28 [.ref (a 0), .int x1, .int x2, .int x3, .int x4, .int t.1, .null] [] (wX a ι t.2)) (fun kk t hk h => ?_) 5000 _ h)
    obtain ⟨x59, S'9⟩ := t
    exact b_ShopsAsOne_leastMarket_28 hx C ⟨F, hnL⟩ hk11 (k28 := kk) (fun x58 S'8 h => hk (x58, S'8) h) h
def m_ShopsAsOne_leastMarket (x1 : Int32) (x2 : Int32) (S : gx_S) : Option (Int32 × gx_S) := gx_cp (m_Standing_openShops 0 S) fun v2 => gx_loop (m_ShopsAsOne_leastMarket_11 x1 x2 v2) 5000 (1, S)
set_option maxRecDepth 20000 in
set_option maxHeartbeats 1000000 in
theorem c_ShopsAsOne_leastMarket (l : Launch) (D : va_G) {cl : List vw_C} {tys : List (ClassId × FieldType)} {ι : Nat → ClassId} (hx : gx_std vwCl (gty ι) cl tys) (a : Nat → Nat) (x1 : Int32) (x2 : Int32) (S : gx_S) {out : Int32 × gx_S} (h : m_ShopsAsOne_leastMarket x1 x2 S = some out) : gx_mI l D cl tys yX7_leastMarket (.code yX7_leastMarket cX7_leastMarket 7 ((Option.some Jvm.ClassFile.FieldType.int)) :: gx_U) (gx_rm 4) [.ref (a 0), .int x1, .int x2] (wX a ι S) (wX a ι) out := by
  unfold m_ShopsAsOne_leastMarket at h
  refine gx_startI (V := [.ref (a 0), .int x1, .int x2, .null, .null, .null, .null]) 4 (by decide +kernel) (Nat.le_of_ble_eq_true rfl) rfl (fun Γ hl hD hcl hty hnL C F => ?_)
  subst hl; subst hD; subst hcl; subst hty
  refine gx_aload_0 C dX7_leastMarket_0 rfl ?_
  refine gs_getf (q := 0) C fl_X7_21 (cls_X7 hx) lt_X_ShopsAsOne (oc_X_ShopsAsOne a ι _) rfl dX7_leastMarket_1 ?_
  obtain ⟨v2, e1, h⟩ := gi_cp h
  refine gc_IV C (c_Standing_openShops (gx_l Γ) (gx_D Γ) hx a (r := 0) (by decide) _ e1) (gx_cw C gx_uu lk_X7_185 (by decide) (by decide)) (cls_X4 hx).1 (gs_recv (q := 21) (lt_X_Standing (q := 0) (by decide)) (oc_X_Standing a ι _ (q := 0) (by decide))) rfl rfl (Nat.le_of_ble_eq_true rfl) ⟨Nat.zero_le _, Nat.zero_le _⟩ dX7_leastMarket_4 ?_
  refine gx_istore_3 C dX7_leastMarket_7 (by rw [hnL]; decide) trivial ?_
  refine gx_iconst1 C dX7_leastMarket_8 ?_
  refine gx_istore C dX7_leastMarket_9 (by rw [hnL]; decide) trivial ?_
  refine gx_weak (gx_le_k rfl (gx_le_k rfl (gx_le_k rfl (gx_le_k rfl (gx_le_k rfl (gx_le_n (gx_le_n gx_le_0))))))) (gi_loop (P := fun t => gx_G Γ 0 0 11 [.ref (a 0), .int x1, .int x2, .int v2, .int t.1, .null, .null] [] (wX a ι t.2)) (fun kk t hk h => ?_) 5000 _ h)
  obtain ⟨x49, S'9⟩ := t
  exact b_ShopsAsOne_leastMarket_11 hx C ⟨F, hnL⟩ (k11 := kk) (fun x48 S'8 h => hk (x48, S'8) h) h

def n_aboutOf (x1 : Int32) (x2 : Int32) (S : gx_S) : Option (Int32 × gx_S) := if x2 = 0 then gx_ck 6 x1 (some (S 4 x1.toNatClampNeg, S)) else if x2 = 1 then gx_ck 6 x1 (some (S 5 x1.toNatClampNeg, S)) else if x2 = 2 then gx_ck 6 x1 (some (S 6 x1.toNatClampNeg, S)) else if x2 = 3 then gx_ck 6 x1 (some (S 7 x1.toNatClampNeg, S)) else if x2 = 4 then gx_cp (n_isOpen x1 S) fun v18 => if v18 = 0 then some (0, S) else some (1, S) else gx_cs (n_laySold S) fun v3 S2 => gx_ck 6 x1 (some (S2 15 x1.toNatClampNeg, S2))
set_option maxRecDepth 20000 in
set_option maxHeartbeats 1000000 in
theorem cn_aboutOf (l : Launch) (D : va_G) {cl : List vw_C} {tys : List (ClassId × FieldType)} {ι : Nat → ClassId} (hx : gx_std vwCl (gty ι) cl tys) (a : Nat → Nat) (x1 : Int32) (x2 : Int32) (S : gx_S) {out : Int32 × gx_S} (h : n_aboutOf x1 x2 S = some out) : gx_mI l D cl tys yX8_aboutOf (.code yX8_aboutOf cX8_aboutOf 3 ((Option.some Jvm.ClassFile.FieldType.int)) :: gx_U) (gx_rm 4) [.ref (a 0), .int x1, .int x2] (wM a ι S) (wM a ι) out := by
  unfold n_aboutOf at h
  refine gx_startI (V := [.ref (a 0), .int x1, .int x2]) 0 (by decide +kernel) (Nat.le_of_ble_eq_true rfl) rfl (fun Γ hl hD hcl hty hnL C F => ?_)
  subst hl; subst hD; subst hcl; subst hty
  refine gx_iload_2 C dX8_aboutOf_0 rfl ?_
  by_cases hc5 : x2 = 0
  · have h := gi_t hc5 h
    refine gx_tin (tgt := 36) C dX8_aboutOf_1 (by rw [hc5]; decide) (by rw [hc5]; decide) (by rw [hc5]; rfl) (by decide) ?_
    refine gx_aload_0 C dX8_aboutOf_36 rfl ?_
    refine gs_getf (q := 0) C fl_X8_20 (cls_X8 hx) lt_M_Model (oc_M_Model a ι _) rfl dX8_aboutOf_37 ?_
    refine gx_iload_1 C dX8_aboutOf_40 rfl ?_
    obtain ⟨hi10, h⟩ := gi_ck h
    refine gs_iald (q := 4) C (ac_M_M_ownerOf hx a) lt_M_M_ownerOf hi10 dX8_aboutOf_41 ?_
    exact gx_iret C F rfl dX8_aboutOf_42 (Option.some.inj h)
  · have h := gi_f hc5 h
    by_cases hc6 : x2 = 1
    · have h := gi_t hc6 h
      refine gx_tin (tgt := 43) C dX8_aboutOf_1 (by rw [hc6]; decide) (by rw [hc6]; decide) (by rw [hc6]; rfl) (by decide) ?_
      refine gx_aload_0 C dX8_aboutOf_43 rfl ?_
      refine gs_getf (q := 0) C fl_X8_23 (cls_X8 hx) lt_M_Model (oc_M_Model a ι _) rfl dX8_aboutOf_44 ?_
      refine gx_iload_1 C dX8_aboutOf_47 rfl ?_
      obtain ⟨hi11, h⟩ := gi_ck h
      refine gs_iald (q := 5) C (ac_M_M_placeOf hx a) lt_M_M_placeOf hi11 dX8_aboutOf_48 ?_
      exact gx_iret C F rfl dX8_aboutOf_49 (Option.some.inj h)
    · have h := gi_f hc6 h
      by_cases hc7 : x2 = 2
      · have h := gi_t hc7 h
        refine gx_tin (tgt := 50) C dX8_aboutOf_1 (by rw [hc7]; decide) (by rw [hc7]; decide) (by rw [hc7]; rfl) (by decide) ?_
        refine gx_aload_0 C dX8_aboutOf_50 rfl ?_
        refine gs_getf (q := 0) C fl_X8_26 (cls_X8 hx) lt_M_Model (oc_M_Model a ι _) rfl dX8_aboutOf_51 ?_
        refine gx_iload_1 C dX8_aboutOf_54 rfl ?_
        obtain ⟨hi12, h⟩ := gi_ck h
        refine gs_iald (q := 6) C (ac_M_M_costOf hx a) lt_M_M_costOf hi12 dX8_aboutOf_55 ?_
        exact gx_iret C F rfl dX8_aboutOf_56 (Option.some.inj h)
      · have h := gi_f hc7 h
        by_cases hc8 : x2 = 3
        · have h := gi_t hc8 h
          refine gx_tin (tgt := 57) C dX8_aboutOf_1 (by rw [hc8]; decide) (by rw [hc8]; decide) (by rw [hc8]; rfl) (by decide) ?_
          refine gx_aload_0 C dX8_aboutOf_57 rfl ?_
          refine gs_getf (q := 0) C fl_X8_29 (cls_X8 hx) lt_M_Model (oc_M_Model a ι _) rfl dX8_aboutOf_58 ?_
          refine gx_iload_1 C dX8_aboutOf_61 rfl ?_
          obtain ⟨hi13, h⟩ := gi_ck h
          refine gs_iald (q := 7) C (ac_M_M_priceOf hx a) lt_M_M_priceOf hi13 dX8_aboutOf_62 ?_
          exact gx_iret C F rfl dX8_aboutOf_63 (Option.some.inj h)
        · have h := gi_f hc8 h
          by_cases hc9 : x2 = 4
          · have h := gi_t hc9 h
            refine gx_tin (tgt := 64) C dX8_aboutOf_1 (by rw [hc9]; decide) (by rw [hc9]; decide) (by rw [hc9]; rfl) (by decide) ?_
            refine gx_aload_0 C dX8_aboutOf_64 rfl ?_
            refine gx_iload_1 C dX8_aboutOf_65 rfl ?_
            obtain ⟨v15, e14, h⟩ := gi_cp h
            refine gc_IV C (cn_isOpen (gx_l Γ) (gx_D Γ) hx a _ _ e14) (gx_cw C gx_uu lk_X8_119 (by decide) (by decide)) (cls_X8 hx).1 (gs_recv (q := 0) lt_M_Model (oc_M_Model a ι _)) rfl rfl (Nat.le_of_ble_eq_true rfl) ⟨Nat.zero_le _, Nat.zero_le _⟩ dX8_aboutOf_66 ?_
            refine gx_if_eq (tgt := 76) C dX8_aboutOf_69 (by decide) (fun hc16 => ?_) (fun hc16 => ?_)
            · have h := gi_t hc16 h
              refine gx_iconst0 C dX8_aboutOf_76 ?_
              exact gx_iret C F rfl dX8_aboutOf_77 (Option.some.inj h)
            · have h := gi_f hc16 h
              refine gx_iconst1 C dX8_aboutOf_72 ?_
              refine gx_goto (tgt := 77) C dX8_aboutOf_73 (by decide) ?_
              exact gx_iret C F rfl dX8_aboutOf_77 (Option.some.inj h)
          · have h := gi_f hc9 h
            refine gx_tout (tgt := 78) C dX8_aboutOf_1 (by have := lv_neT hc5 (a := 0) (by decide); have := lv_neT hc6 (a := 1) (by decide); have := lv_neT hc7 (a := 2) (by decide); have := lv_neT hc8 (a := 3) (by decide); have := lv_neT hc9 (a := 4) (by decide); omega) (by decide) ?_
            refine gx_aload_0 C dX8_aboutOf_78 rfl ?_
            obtain ⟨v3, S2, e1, h⟩ := gi_cs h
            refine gc_IV C (cn_laySold (gx_l Γ) (gx_D Γ) hx a _ e1) (gx_cw C gx_uu lk_X8_128 (by decide) (by decide)) (cls_X8 hx).1 (gs_recv (q := 0) lt_M_Model (oc_M_Model a ι _)) rfl rfl (Nat.le_of_ble_eq_true rfl) ⟨Nat.zero_le _, Nat.zero_le _⟩ dX8_aboutOf_79 ?_
            refine gx_pop C dX8_aboutOf_82 rfl ?_
            refine gx_aload_0 C dX8_aboutOf_83 rfl ?_
            refine gs_getf (q := 0) C fl_X8_58 (cls_X8 hx) lt_M_Model (oc_M_Model a ι _) rfl dX8_aboutOf_84 ?_
            refine gx_iload_1 C dX8_aboutOf_87 rfl ?_
            obtain ⟨hi4, h⟩ := gi_ck h
            refine gs_iald (q := 15) C (ac_M_M_soldNow hx a) lt_M_M_soldNow hi4 dX8_aboutOf_88 ?_
            exact gx_iret C F rfl dX8_aboutOf_89 (Option.some.inj h)
def n_about (x1 : Int32) (x2 : Int32) (S : gx_S) : Option (Int32 × gx_S) := gx_cp (n_isShop x1 S) fun v2 => if v2 = 0 then some ((-101), S) else gx_cp (n_within x2 0 5 S) fun v4 => if v4 = 0 then some ((-102), S) else gx_cs (n_aboutOf x1 x2 S) fun v7 S6 => some (v7, S6)
set_option maxRecDepth 20000 in
set_option maxHeartbeats 1000000 in
theorem cn_about (l : Launch) (D : va_G) {cl : List vw_C} {tys : List (ClassId × FieldType)} {ι : Nat → ClassId} (hx : gx_std vwCl (gty ι) cl tys) (a : Nat → Nat) (x1 : Int32) (x2 : Int32) (S : gx_S) {out : Int32 × gx_S} (h : n_about x1 x2 S = some out) : gx_mI l D cl tys yX8_about (.code yX8_about cX8_about 3 ((Option.some Jvm.ClassFile.FieldType.int)) :: gx_U) (gx_rm 5) [.ref (a 0), .int x1, .int x2] (wM a ι S) (wM a ι) out := by
  unfold n_about at h
  refine gx_startI (V := [.ref (a 0), .int x1, .int x2]) 0 (by decide +kernel) (Nat.le_of_ble_eq_true rfl) rfl (fun Γ hl hD hcl hty hnL C F => ?_)
  subst hl; subst hD; subst hcl; subst hty
  refine gx_aload_0 C dX8_about_0 rfl ?_
  refine gx_iload_1 C dX8_about_1 rfl ?_
  obtain ⟨v2, e1, h⟩ := gi_cp h
  refine gc_IV C (cn_isShop (gx_l Γ) (gx_D Γ) hx a _ _ e1) (gx_cw C gx_uu lk_X8_132 (by decide) (by decide)) (cls_X8 hx).1 (gs_recv (q := 0) lt_M_Model (oc_M_Model a ι _)) rfl rfl (Nat.le_of_ble_eq_true rfl) ⟨Nat.zero_le _, Nat.zero_le _⟩ dX8_about_2 ?_
  refine gx_if_ne (tgt := 13) C dX8_about_5 (by decide) (fun hc9 => ?_) (fun hc9 => ?_)
  · have h := gi_f hc9 h
    refine gx_iload_2 C dX8_about_13 rfl ?_
    refine gx_iconst0 C dX8_about_14 ?_
    refine gx_iconst5 C dX8_about_15 ?_
    obtain ⟨v4, e3, h⟩ := gi_cp h
    refine gc_IS C (cn_within (gx_l Γ) (gx_D Γ) hx a _ _ _ _ e3) (gx_cwS C gx_uu lk_X8_94 (by decide) (by decide)) rfl rfl (Nat.le_of_ble_eq_true rfl) ⟨Nat.zero_le _, Nat.zero_le _⟩ dX8_about_16 ?_
    refine gx_if_eq (tgt := 31) C dX8_about_19 (by decide) (fun hc8 => ?_) (fun hc8 => ?_)
    · have h := gi_t hc8 h
      refine gx_bipush (v := (-102)) C dX8_about_31 (by decide) ?_
      exact gx_iret C F rfl dX8_about_33 (Option.some.inj h)
    · have h := gi_f hc8 h
      refine gx_aload_0 C dX8_about_22 rfl ?_
      refine gx_iload_1 C dX8_about_23 rfl ?_
      refine gx_iload_2 C dX8_about_24 rfl ?_
      obtain ⟨v7, S6, e5, h⟩ := gi_cs h
      refine gc_IV C (cn_aboutOf (gx_l Γ) (gx_D Γ) hx a _ _ _ e5) (gx_cw C gx_uu lk_X8_135 (by decide) (by decide)) (cls_X8 hx).1 (gs_recv (q := 0) lt_M_Model (oc_M_Model a ι _)) rfl rfl (Nat.le_of_ble_eq_true rfl) ⟨Nat.zero_le _, Nat.zero_le _⟩ dX8_about_25 ?_
      refine gx_goto (tgt := 33) C dX8_about_28 (by decide) ?_
      exact gx_iret C F rfl dX8_about_33 (Option.some.inj h)
  · have h := gi_t hc9 h
    refine gx_bipush (v := (-101)) C dX8_about_8 (by decide) ?_
    refine gx_goto (tgt := 33) C dX8_about_10 (by decide) ?_
    exact gx_iret C F rfl dX8_about_33 (Option.some.inj h)
def n_price (x1 : Int32) (x2 : Int32) (S : gx_S) : Option (Int32 × gx_S) := gx_cp (n_isShop x1 S) fun v2 => if v2 = 0 then some ((-101), S) else gx_cp (n_within x2 0 9 S) fun v4 => if v4 = 0 then some ((-102), S) else gx_ck 6 x1 (gx_let (gx_st S 7 x1.toNatClampNeg x2) fun S6 => some (S 7 x1.toNatClampNeg, S6))
set_option maxRecDepth 20000 in
set_option maxHeartbeats 1000000 in
theorem cn_price (l : Launch) (D : va_G) {cl : List vw_C} {tys : List (ClassId × FieldType)} {ι : Nat → ClassId} (hx : gx_std vwCl (gty ι) cl tys) (a : Nat → Nat) (x1 : Int32) (x2 : Int32) (S : gx_S) {out : Int32 × gx_S} (h : n_price x1 x2 S = some out) : gx_mI l D cl tys yX8_price (.code yX8_price cX8_price 4 ((Option.some Jvm.ClassFile.FieldType.int)) :: gx_U) (gx_rm 2) [.ref (a 0), .int x1, .int x2] (wM a ι S) (wM a ι) out := by
  unfold n_price at h
  refine gx_startI (V := [.ref (a 0), .int x1, .int x2, .null]) 1 (by decide +kernel) (Nat.le_of_ble_eq_true rfl) rfl (fun Γ hl hD hcl hty hnL C F => ?_)
  subst hl; subst hD; subst hcl; subst hty
  refine gx_aload_0 C dX8_price_0 rfl ?_
  refine gx_iload_1 C dX8_price_1 rfl ?_
  obtain ⟨v2, e1, h⟩ := gi_cp h
  refine gc_IV C (cn_isShop (gx_l Γ) (gx_D Γ) hx a _ _ e1) (gx_cw C gx_uu lk_X8_132 (by decide) (by decide)) (cls_X8 hx).1 (gs_recv (q := 0) lt_M_Model (oc_M_Model a ι _)) rfl rfl (Nat.le_of_ble_eq_true rfl) ⟨Nat.zero_le _, Nat.zero_le _⟩ dX8_price_2 ?_
  refine gx_if_ne (tgt := 11) C dX8_price_5 (by decide) (fun hc9 => ?_) (fun hc9 => ?_)
  · have h := gi_f hc9 h
    refine gx_iload_2 C dX8_price_11 rfl ?_
    refine gx_iconst0 C dX8_price_12 ?_
    refine gx_bipush (v := 9) C dX8_price_13 (by decide) ?_
    obtain ⟨v4, e3, h⟩ := gi_cp h
    refine gc_IS C (cn_within (gx_l Γ) (gx_D Γ) hx a _ _ _ _ e3) (gx_cwS C gx_uu lk_X8_94 (by decide) (by decide)) rfl rfl (Nat.le_of_ble_eq_true rfl) ⟨Nat.zero_le _, Nat.zero_le _⟩ dX8_price_15 ?_
    refine gx_if_ne (tgt := 24) C dX8_price_18 (by decide) (fun hc8 => ?_) (fun hc8 => ?_)
    · have h := gi_f hc8 h
      refine gx_aload_0 C dX8_price_24 rfl ?_
      refine gs_getf (q := 0) C fl_X8_29 (cls_X8 hx) lt_M_Model (oc_M_Model a ι _) rfl dX8_price_25 ?_
      refine gx_iload_1 C dX8_price_28 rfl ?_
      obtain ⟨hi5, h⟩ := gi_ck h
      refine gs_iald (q := 7) C (ac_M_M_priceOf hx a) lt_M_M_priceOf hi5 dX8_price_29 ?_
      refine gx_istore_3 C dX8_price_30 (by rw [hnL]; decide) trivial ?_
      refine gx_aload_0 C dX8_price_31 rfl ?_
      refine gs_getf (q := 0) C fl_X8_29 (cls_X8 hx) lt_M_Model (oc_M_Model a ι _) rfl dX8_price_32 ?_
      refine gx_iload_1 C dX8_price_35 rfl ?_
      refine gx_iload_2 C dX8_price_36 rfl ?_
      obtain ⟨S6, e7, h⟩ := gi_let h
      refine gs_iast (q := 7) C (ac_M_M_priceOf hx a) lt_M_M_priceOf hi5 e7 dX8_price_37 ?_
      refine gx_iload_3 C dX8_price_38 rfl ?_
      exact gx_iret C F rfl dX8_price_39 (Option.some.inj h)
    · have h := gi_t hc8 h
      refine gx_bipush (v := (-102)) C dX8_price_21 (by decide) ?_
      exact gx_iret C F rfl dX8_price_23 (Option.some.inj h)
  · have h := gi_t hc9 h
    refine gx_bipush (v := (-101)) C dX8_price_8 (by decide) ?_
    exact gx_iret C F rfl dX8_price_10 (Option.some.inj h)
def n_sort_72 (x1 : Int32) (x2 : Int32) (x3 : Int32) (x4 : Int32) (x5 : Int32) (x6 : Int32) (S : gx_S) : Option (Int32 × gx_S) := if (S 0 9) = 8 then some ((-104), S) else gx_ck 48 ((6 : Int32) * (S 0 9)) (gx_let (gx_st S 8 ((6 : Int32) * (S 0 9)).toNatClampNeg x1) fun S2 => gx_ck 48 (((6 : Int32) * (S2 0 9)) + (1 : Int32)) (gx_let (gx_st S2 8 (((6 : Int32) * (S2 0 9)) + (1 : Int32)).toNatClampNeg x2) fun S5 => gx_ck 48 (((6 : Int32) * (S5 0 9)) + (2 : Int32)) (gx_let (gx_st S5 8 (((6 : Int32) * (S5 0 9)) + (2 : Int32)).toNatClampNeg x3) fun S8 => gx_ck 48 (((6 : Int32) * (S8 0 9)) + (3 : Int32)) (gx_let (gx_st S8 8 (((6 : Int32) * (S8 0 9)) + (3 : Int32)).toNatClampNeg x4) fun S11 => gx_ck 48 (((6 : Int32) * (S11 0 9)) + (4 : Int32)) (gx_let (gx_st S11 8 (((6 : Int32) * (S11 0 9)) + (4 : Int32)).toNatClampNeg x5) fun S14 => gx_ck 48 (((6 : Int32) * (S14 0 9)) + (5 : Int32)) (gx_let (gx_st S14 8 (((6 : Int32) * (S14 0 9)) + (5 : Int32)).toNatClampNeg x6) fun S17 => gx_let (gx_st S17 0 9 ((S17 0 9) + (1 : Int32))) fun S19 => some ((S19 0 9) - (1 : Int32), S19)))))))
set_option maxRecDepth 20000 in
set_option maxHeartbeats 1000000 in
theorem bn_sort_72 {Γ : gx_T} {ι : Nat → ClassId} {a : Nat → Nat} {out : Int32 × gx_S} (hx : gx_std vwCl (gty ι) (gx_cl Γ) (gx_ty Γ)) (C : gx_ok Γ cX8_sort RX8 gx_U 2) (F : gx_finI Γ ((Option.some Jvm.ClassFile.FieldType.int)) (wM a ι) out ∧ gx_nL Γ = 7) {x1 : Int32} {x2 : Int32} {x3 : Int32} {x4 : Int32} {x5 : Int32} {x6 : Int32} {S : gx_S} (h : n_sort_72 x1 x2 x3 x4 x5 x6 S = some out) : gx_G Γ 0 0 72 [.ref (a 0), .int x1, .int x2, .int x3, .int x4, .int x5, .int x6] [] (wM a ι S) := by
  obtain ⟨F, hnL⟩ := F
  unfold n_sort_72 at h
  refine gx_aload_0 C dX8_sort_72 rfl ?_
  refine gs_getf (q := 0) C fl_X8_101 (cls_X8 hx) lt_M_Model (oc_M_Model a ι _) rfl dX8_sort_73 ?_
  refine gx_bipush (v := 8) C dX8_sort_76 (by decide) ?_
  refine gx_icmp_ne (tgt := 84) C dX8_sort_78 (by decide) (fun hc21 => ?_) (fun hc21 => ?_)
  · have h := gi_f hc21 h
    refine gx_aload_0 C dX8_sort_84 rfl ?_
    refine gs_getf (q := 0) C fl_X8_32 (cls_X8 hx) lt_M_Model (oc_M_Model a ι _) rfl dX8_sort_85 ?_
    refine gx_bipush (v := 6) C dX8_sort_88 (by decide) ?_
    refine gx_aload_0 C dX8_sort_90 rfl ?_
    refine gs_getf (q := 0) C fl_X8_101 (cls_X8 hx) lt_M_Model (oc_M_Model a ι _) rfl dX8_sort_91 ?_
    refine gx_imul C dX8_sort_94 ?_
    refine gx_iload_1 C dX8_sort_95 rfl ?_
    obtain ⟨hi1, h⟩ := gi_ck h
    obtain ⟨S2, e3, h⟩ := gi_let h
    refine gs_iast (q := 8) C (ac_M_M_sortOf hx a) lt_M_M_sortOf hi1 e3 dX8_sort_96 ?_
    refine gx_aload_0 C dX8_sort_97 rfl ?_
    refine gs_getf (q := 0) C fl_X8_32 (cls_X8 hx) lt_M_Model (oc_M_Model a ι _) rfl dX8_sort_98 ?_
    refine gx_bipush (v := 6) C dX8_sort_101 (by decide) ?_
    refine gx_aload_0 C dX8_sort_103 rfl ?_
    refine gs_getf (q := 0) C fl_X8_101 (cls_X8 hx) lt_M_Model (oc_M_Model a ι _) rfl dX8_sort_104 ?_
    refine gx_imul C dX8_sort_107 ?_
    refine gx_iconst1 C dX8_sort_108 ?_
    refine gx_iadd C dX8_sort_109 ?_
    refine gx_iload_2 C dX8_sort_110 rfl ?_
    obtain ⟨hi4, h⟩ := gi_ck h
    obtain ⟨S5, e6, h⟩ := gi_let h
    refine gs_iast (q := 8) C (ac_M_M_sortOf hx a) lt_M_M_sortOf hi4 e6 dX8_sort_111 ?_
    refine gx_aload_0 C dX8_sort_112 rfl ?_
    refine gs_getf (q := 0) C fl_X8_32 (cls_X8 hx) lt_M_Model (oc_M_Model a ι _) rfl dX8_sort_113 ?_
    refine gx_bipush (v := 6) C dX8_sort_116 (by decide) ?_
    refine gx_aload_0 C dX8_sort_118 rfl ?_
    refine gs_getf (q := 0) C fl_X8_101 (cls_X8 hx) lt_M_Model (oc_M_Model a ι _) rfl dX8_sort_119 ?_
    refine gx_imul C dX8_sort_122 ?_
    refine gx_iconst2 C dX8_sort_123 ?_
    refine gx_iadd C dX8_sort_124 ?_
    refine gx_iload_3 C dX8_sort_125 rfl ?_
    obtain ⟨hi7, h⟩ := gi_ck h
    obtain ⟨S8, e9, h⟩ := gi_let h
    refine gs_iast (q := 8) C (ac_M_M_sortOf hx a) lt_M_M_sortOf hi7 e9 dX8_sort_126 ?_
    refine gx_aload_0 C dX8_sort_127 rfl ?_
    refine gs_getf (q := 0) C fl_X8_32 (cls_X8 hx) lt_M_Model (oc_M_Model a ι _) rfl dX8_sort_128 ?_
    refine gx_bipush (v := 6) C dX8_sort_131 (by decide) ?_
    refine gx_aload_0 C dX8_sort_133 rfl ?_
    refine gs_getf (q := 0) C fl_X8_101 (cls_X8 hx) lt_M_Model (oc_M_Model a ι _) rfl dX8_sort_134 ?_
    refine gx_imul C dX8_sort_137 ?_
    refine gx_iconst3 C dX8_sort_138 ?_
    refine gx_iadd C dX8_sort_139 ?_
    refine gx_iload C dX8_sort_140 rfl ?_
    obtain ⟨hi10, h⟩ := gi_ck h
    obtain ⟨S11, e12, h⟩ := gi_let h
    refine gs_iast (q := 8) C (ac_M_M_sortOf hx a) lt_M_M_sortOf hi10 e12 dX8_sort_142 ?_
    refine gx_aload_0 C dX8_sort_143 rfl ?_
    refine gs_getf (q := 0) C fl_X8_32 (cls_X8 hx) lt_M_Model (oc_M_Model a ι _) rfl dX8_sort_144 ?_
    refine gx_bipush (v := 6) C dX8_sort_147 (by decide) ?_
    refine gx_aload_0 C dX8_sort_149 rfl ?_
    refine gs_getf (q := 0) C fl_X8_101 (cls_X8 hx) lt_M_Model (oc_M_Model a ι _) rfl dX8_sort_150 ?_
    refine gx_imul C dX8_sort_153 ?_
    refine gx_iconst4 C dX8_sort_154 ?_
    refine gx_iadd C dX8_sort_155 ?_
    refine gx_iload C dX8_sort_156 rfl ?_
    obtain ⟨hi13, h⟩ := gi_ck h
    obtain ⟨S14, e15, h⟩ := gi_let h
    refine gs_iast (q := 8) C (ac_M_M_sortOf hx a) lt_M_M_sortOf hi13 e15 dX8_sort_158 ?_
    refine gx_aload_0 C dX8_sort_159 rfl ?_
    refine gs_getf (q := 0) C fl_X8_32 (cls_X8 hx) lt_M_Model (oc_M_Model a ι _) rfl dX8_sort_160 ?_
    refine gx_bipush (v := 6) C dX8_sort_163 (by decide) ?_
    refine gx_aload_0 C dX8_sort_165 rfl ?_
    refine gs_getf (q := 0) C fl_X8_101 (cls_X8 hx) lt_M_Model (oc_M_Model a ι _) rfl dX8_sort_166 ?_
    refine gx_imul C dX8_sort_169 ?_
    refine gx_iconst5 C dX8_sort_170 ?_
    refine gx_iadd C dX8_sort_171 ?_
    refine gx_iload C dX8_sort_172 rfl ?_
    obtain ⟨hi16, h⟩ := gi_ck h
    obtain ⟨S17, e18, h⟩ := gi_let h
    refine gs_iast (q := 8) C (ac_M_M_sortOf hx a) lt_M_M_sortOf hi16 e18 dX8_sort_174 ?_
    refine gx_aload_0 C dX8_sort_175 rfl ?_
    refine gx_dup C dX8_sort_176 rfl ?_
    refine gs_getf (q := 0) C fl_X8_101 (cls_X8 hx) lt_M_Model (oc_M_Model a ι _) rfl dX8_sort_177 ?_
    refine gx_iconst1 C dX8_sort_180 ?_
    refine gx_iadd C dX8_sort_181 ?_
    obtain ⟨S19, e20, h⟩ := gi_let h
    refine gs_puti (q := 0) C fl_X8_101 (cls_X8 hx) lt_M_Model (oc_M_Model a ι _) (oc_M_Model a ι _) rfl rfl rfl (Nat.le_of_ble_eq_true rfl) e20 dX8_sort_182 ?_
    refine gx_aload_0 C dX8_sort_185 rfl ?_
    refine gs_getf (q := 0) C fl_X8_101 (cls_X8 hx) lt_M_Model (oc_M_Model a ι _) rfl dX8_sort_186 ?_
    refine gx_iconst1 C dX8_sort_189 ?_
    refine gx_isub C dX8_sort_190 ?_
    exact gx_iret C F rfl dX8_sort_191 (Option.some.inj h)
  · have h := gi_t hc21 h
    refine gx_bipush (v := (-104)) C dX8_sort_81 (by decide) ?_
    exact gx_iret C F rfl dX8_sort_83 (Option.some.inj h)
def n_sort (x1 : Int32) (x2 : Int32) (x3 : Int32) (x4 : Int32) (x5 : Int32) (x6 : Int32) (S : gx_S) : Option (Int32 × gx_S) := gx_cp (n_within x1 0 9 S) fun v2 => if v2 = 0 then some ((-102), S) else gx_cp (n_within x2 1 50 S) fun v4 => if v4 = 0 then some ((-102), S) else gx_cp (n_within x3 0 5 S) fun v6 => if v6 = 0 then some ((-102), S) else gx_cp (n_within x4 0 30 S) fun v8 => if v8 = 0 then some ((-102), S) else gx_cp (n_within x6 0 9 S) fun v10 => if v10 = 0 then some ((-102), S) else if x5 = (-1) then n_sort_72 x1 x2 x3 x4 x5 x6 S else gx_cp (n_isShop x5 S) fun v12 => if v12 = 0 then some ((-101), S) else n_sort_72 x1 x2 x3 x4 x5 x6 S
set_option maxRecDepth 20000 in
set_option maxHeartbeats 1000000 in
theorem cn_sort (l : Launch) (D : va_G) {cl : List vw_C} {tys : List (ClassId × FieldType)} {ι : Nat → ClassId} (hx : gx_std vwCl (gty ι) cl tys) (a : Nat → Nat) (x1 : Int32) (x2 : Int32) (x3 : Int32) (x4 : Int32) (x5 : Int32) (x6 : Int32) (S : gx_S) {out : Int32 × gx_S} (h : n_sort x1 x2 x3 x4 x5 x6 S = some out) : gx_mI l D cl tys yX8_sort (.code yX8_sort cX8_sort 7 ((Option.some Jvm.ClassFile.FieldType.int)) :: gx_U) (gx_rm 2) [.ref (a 0), .int x1, .int x2, .int x3, .int x4, .int x5, .int x6] (wM a ι S) (wM a ι) out := by
  unfold n_sort at h
  refine gx_startI (V := [.ref (a 0), .int x1, .int x2, .int x3, .int x4, .int x5, .int x6]) 0 (by decide +kernel) (Nat.le_of_ble_eq_true rfl) rfl (fun Γ hl hD hcl hty hnL C F => ?_)
  subst hl; subst hD; subst hcl; subst hty
  refine gx_iload_1 C dX8_sort_0 rfl ?_
  refine gx_iconst0 C dX8_sort_1 ?_
  refine gx_bipush (v := 9) C dX8_sort_2 (by decide) ?_
  obtain ⟨v2, e1, h⟩ := gi_cp h
  refine gc_IS C (cn_within (gx_l Γ) (gx_D Γ) hx a _ _ _ _ e1) (gx_cwS C gx_uu lk_X8_94 (by decide) (by decide)) rfl rfl (Nat.le_of_ble_eq_true rfl) ⟨Nat.zero_le _, Nat.zero_le _⟩ dX8_sort_4 ?_
  refine gx_if_eq (tgt := 51) C dX8_sort_7 (by decide) (fun hc19 => ?_) (fun hc19 => ?_)
  · have h := gi_t hc19 h
    refine gx_bipush (v := (-102)) C dX8_sort_51 (by decide) ?_
    exact gx_iret C F rfl dX8_sort_53 (Option.some.inj h)
  · have h := gi_f hc19 h
    refine gx_iload_2 C dX8_sort_10 rfl ?_
    refine gx_iconst1 C dX8_sort_11 ?_
    refine gx_bipush (v := 50) C dX8_sort_12 (by decide) ?_
    obtain ⟨v4, e3, h⟩ := gi_cp h
    refine gc_IS C (cn_within (gx_l Γ) (gx_D Γ) hx a _ _ _ _ e3) (gx_cwS C gx_uu lk_X8_94 (by decide) (by decide)) rfl rfl (Nat.le_of_ble_eq_true rfl) ⟨Nat.zero_le _, Nat.zero_le _⟩ dX8_sort_14 ?_
    refine gx_if_eq (tgt := 51) C dX8_sort_17 (by decide) (fun hc18 => ?_) (fun hc18 => ?_)
    · have h := gi_t hc18 h
      refine gx_bipush (v := (-102)) C dX8_sort_51 (by decide) ?_
      exact gx_iret C F rfl dX8_sort_53 (Option.some.inj h)
    · have h := gi_f hc18 h
      refine gx_iload_3 C dX8_sort_20 rfl ?_
      refine gx_iconst0 C dX8_sort_21 ?_
      refine gx_iconst5 C dX8_sort_22 ?_
      obtain ⟨v6, e5, h⟩ := gi_cp h
      refine gc_IS C (cn_within (gx_l Γ) (gx_D Γ) hx a _ _ _ _ e5) (gx_cwS C gx_uu lk_X8_94 (by decide) (by decide)) rfl rfl (Nat.le_of_ble_eq_true rfl) ⟨Nat.zero_le _, Nat.zero_le _⟩ dX8_sort_23 ?_
      refine gx_if_eq (tgt := 51) C dX8_sort_26 (by decide) (fun hc17 => ?_) (fun hc17 => ?_)
      · have h := gi_t hc17 h
        refine gx_bipush (v := (-102)) C dX8_sort_51 (by decide) ?_
        exact gx_iret C F rfl dX8_sort_53 (Option.some.inj h)
      · have h := gi_f hc17 h
        refine gx_iload C dX8_sort_29 rfl ?_
        refine gx_iconst0 C dX8_sort_31 ?_
        refine gx_bipush (v := 30) C dX8_sort_32 (by decide) ?_
        obtain ⟨v8, e7, h⟩ := gi_cp h
        refine gc_IS C (cn_within (gx_l Γ) (gx_D Γ) hx a _ _ _ _ e7) (gx_cwS C gx_uu lk_X8_94 (by decide) (by decide)) rfl rfl (Nat.le_of_ble_eq_true rfl) ⟨Nat.zero_le _, Nat.zero_le _⟩ dX8_sort_34 ?_
        refine gx_if_eq (tgt := 51) C dX8_sort_37 (by decide) (fun hc16 => ?_) (fun hc16 => ?_)
        · have h := gi_t hc16 h
          refine gx_bipush (v := (-102)) C dX8_sort_51 (by decide) ?_
          exact gx_iret C F rfl dX8_sort_53 (Option.some.inj h)
        · have h := gi_f hc16 h
          refine gx_iload C dX8_sort_40 rfl ?_
          refine gx_iconst0 C dX8_sort_42 ?_
          refine gx_bipush (v := 9) C dX8_sort_43 (by decide) ?_
          obtain ⟨v10, e9, h⟩ := gi_cp h
          refine gc_IS C (cn_within (gx_l Γ) (gx_D Γ) hx a _ _ _ _ e9) (gx_cwS C gx_uu lk_X8_94 (by decide) (by decide)) rfl rfl (Nat.le_of_ble_eq_true rfl) ⟨Nat.zero_le _, Nat.zero_le _⟩ dX8_sort_45 ?_
          refine gx_if_ne (tgt := 54) C dX8_sort_48 (by decide) (fun hc15 => ?_) (fun hc15 => ?_)
          · have h := gi_f hc15 h
            refine gx_iload C dX8_sort_54 rfl ?_
            refine gx_iconstm1 C dX8_sort_56 ?_
            refine gx_icmp_eq (tgt := 72) C dX8_sort_57 (by decide) (fun hc14 => ?_) (fun hc14 => ?_)
            · have h := gi_t hc14 h
              exact gx_weak (gx_le_k rfl (gx_le_k rfl (gx_le_k rfl (gx_le_k rfl (gx_le_k rfl (gx_le_k rfl (gx_le_k rfl gx_le_0))))))) (bn_sort_72 hx C ⟨F, hnL⟩ h)
            · have h := gi_f hc14 h
              refine gx_aload_0 C dX8_sort_60 rfl ?_
              refine gx_iload C dX8_sort_61 rfl ?_
              obtain ⟨v12, e11, h⟩ := gi_cp h
              refine gc_IV C (cn_isShop (gx_l Γ) (gx_D Γ) hx a _ _ e11) (gx_cw C gx_uu lk_X8_132 (by decide) (by decide)) (cls_X8 hx).1 (gs_recv (q := 0) lt_M_Model (oc_M_Model a ι _)) rfl rfl (Nat.le_of_ble_eq_true rfl) ⟨Nat.zero_le _, Nat.zero_le _⟩ dX8_sort_63 ?_
              refine gx_if_ne (tgt := 72) C dX8_sort_66 (by decide) (fun hc13 => ?_) (fun hc13 => ?_)
              · have h := gi_f hc13 h
                exact gx_weak (gx_le_k rfl (gx_le_k rfl (gx_le_k rfl (gx_le_k rfl (gx_le_k rfl (gx_le_k rfl (gx_le_k rfl gx_le_0))))))) (bn_sort_72 hx C ⟨F, hnL⟩ h)
              · have h := gi_t hc13 h
                refine gx_bipush (v := (-101)) C dX8_sort_69 (by decide) ?_
                exact gx_iret C F rfl dX8_sort_71 (Option.some.inj h)
          · have h := gi_t hc15 h
            refine gx_bipush (v := (-102)) C dX8_sort_51 (by decide) ?_
            exact gx_iret C F rfl dX8_sort_53 (Option.some.inj h)
def n_is_25 (S : gx_S) : Option (Int32) := some (-1001)
set_option maxRecDepth 20000 in
set_option maxHeartbeats 1000000 in
theorem bn_is_25 {Γ : gx_T} {ι : Nat → ClassId} {a : Nat → Nat} {out : Int32} {S : gx_S} (hx : gx_std vwCl (gty ι) (gx_cl Γ) (gx_ty Γ)) (C : gx_ok Γ cX8_is RX8 gx_U 2) (F : gx_finI Γ ((Option.some Jvm.ClassFile.FieldType.int)) (wM a ι) (out, S) ∧ gx_nL Γ = 3) (h : n_is_25 S = some out) : gx_G Γ 0 0 25 [.ref (a 0), .null, .null] [] (wM a ι S) := by
  obtain ⟨F, hnL⟩ := F
  unfold n_is_25 at h
  refine gx_sipush (v := (-1001)) C dX8_is_25 (by decide) ?_
  exact gx_iret C F rfl dX8_is_28 (congrArg (fun z => (z, S)) (Option.some.inj h))
def n_is (x1 : Int32) (x2 : Int32) (S : gx_S) : Option (Int32) := gx_cp (n_isSort x1 S) fun v2 => if v2 = 0 then n_is_25 S else gx_cp (n_isShop x2 S) fun v4 => if v4 = 0 then n_is_25 S else gx_cp (n_isTo x1 x2 S) fun v6 => some v6
set_option maxRecDepth 20000 in
set_option maxHeartbeats 1000000 in
theorem cn_is (l : Launch) (D : va_G) {cl : List vw_C} {tys : List (ClassId × FieldType)} {ι : Nat → ClassId} (hx : gx_std vwCl (gty ι) cl tys) (a : Nat → Nat) (x1 : Int32) (x2 : Int32) (S : gx_S) {out : Int32} (h : n_is x1 x2 S = some out) : gx_mI l D cl tys yX8_is (.code yX8_is cX8_is 3 ((Option.some Jvm.ClassFile.FieldType.int)) :: gx_U) (gx_rm 2) [.ref (a 0), .int x1, .int x2] (wM a ι S) (wM a ι) (out, S) := by
  unfold n_is at h
  refine gx_startI (V := [.ref (a 0), .int x1, .int x2]) 0 (by decide +kernel) (Nat.le_of_ble_eq_true rfl) rfl (fun Γ hl hD hcl hty hnL C F => ?_)
  subst hl; subst hD; subst hcl; subst hty
  refine gx_aload_0 C dX8_is_0 rfl ?_
  refine gx_iload_1 C dX8_is_1 rfl ?_
  obtain ⟨v2, e1, h⟩ := gi_cp h
  refine gc_IV C (cn_isSort (gx_l Γ) (gx_D Γ) hx a _ _ e1) (gx_cw C gx_uu lk_X8_138 (by decide) (by decide)) (cls_X8 hx).1 (gs_recv (q := 0) lt_M_Model (oc_M_Model a ι _)) rfl rfl (Nat.le_of_ble_eq_true rfl) ⟨Nat.zero_le _, Nat.zero_le _⟩ dX8_is_2 ?_
  refine gx_if_eq (tgt := 25) C dX8_is_5 (by decide) (fun hc8 => ?_) (fun hc8 => ?_)
  · have h := gi_t hc8 h
    exact gx_weak (gx_le_k rfl (gx_le_n (gx_le_n gx_le_0))) (bn_is_25 hx C ⟨F, hnL⟩ h)
  · have h := gi_f hc8 h
    refine gx_aload_0 C dX8_is_8 rfl ?_
    refine gx_iload_2 C dX8_is_9 rfl ?_
    obtain ⟨v4, e3, h⟩ := gi_cp h
    refine gc_IV C (cn_isShop (gx_l Γ) (gx_D Γ) hx a _ _ e3) (gx_cw C gx_uu lk_X8_132 (by decide) (by decide)) (cls_X8 hx).1 (gs_recv (q := 0) lt_M_Model (oc_M_Model a ι _)) rfl rfl (Nat.le_of_ble_eq_true rfl) ⟨Nat.zero_le _, Nat.zero_le _⟩ dX8_is_10 ?_
    refine gx_if_eq (tgt := 25) C dX8_is_13 (by decide) (fun hc7 => ?_) (fun hc7 => ?_)
    · have h := gi_t hc7 h
      exact gx_weak (gx_le_k rfl (gx_le_n (gx_le_n gx_le_0))) (bn_is_25 hx C ⟨F, hnL⟩ h)
    · have h := gi_f hc7 h
      refine gx_aload_0 C dX8_is_16 rfl ?_
      refine gx_iload_1 C dX8_is_17 rfl ?_
      refine gx_iload_2 C dX8_is_18 rfl ?_
      obtain ⟨v6, e5, h⟩ := gi_cp h
      refine gc_IV C (cn_isTo (gx_l Γ) (gx_D Γ) hx a _ _ _ e5) (gx_cw C gx_uu lk_X8_122 (by decide) (by decide)) (cls_X8 hx).1 (gs_recv (q := 0) lt_M_Model (oc_M_Model a ι _)) rfl rfl (Nat.le_of_ble_eq_true rfl) ⟨Nat.zero_le _, Nat.zero_le _⟩ dX8_is_19 ?_
      refine gx_goto (tgt := 28) C dX8_is_22 (by decide) ?_
      exact gx_iret C F rfl dX8_is_28 (congrArg (fun z => (z, S)) (Option.some.inj h))
def n_goes (x1 : Int32) (S : gx_S) : Option (Int32) := gx_cp (n_isSort x1 S) fun v2 => if v2 = 0 then some (-101) else gx_cp (n_goesTo x1 S) fun v4 => some v4
set_option maxRecDepth 20000 in
set_option maxHeartbeats 1000000 in
theorem cn_goes (l : Launch) (D : va_G) {cl : List vw_C} {tys : List (ClassId × FieldType)} {ι : Nat → ClassId} (hx : gx_std vwCl (gty ι) cl tys) (a : Nat → Nat) (x1 : Int32) (S : gx_S) {out : Int32} (h : n_goes x1 S = some out) : gx_mI l D cl tys yX8_goes (.code yX8_goes cX8_goes 2 ((Option.some Jvm.ClassFile.FieldType.int)) :: gx_U) (gx_rm 3) [.ref (a 0), .int x1] (wM a ι S) (wM a ι) (out, S) := by
  unfold n_goes at h
  refine gx_startI (V := [.ref (a 0), .int x1]) 0 (by decide +kernel) (Nat.le_of_ble_eq_true rfl) rfl (fun Γ hl hD hcl hty hnL C F => ?_)
  subst hl; subst hD; subst hcl; subst hty
  refine gx_aload_0 C dX8_goes_0 rfl ?_
  refine gx_iload_1 C dX8_goes_1 rfl ?_
  obtain ⟨v2, e1, h⟩ := gi_cp h
  refine gc_IV C (cn_isSort (gx_l Γ) (gx_D Γ) hx a _ _ e1) (gx_cw C gx_uu lk_X8_138 (by decide) (by decide)) (cls_X8 hx).1 (gs_recv (q := 0) lt_M_Model (oc_M_Model a ι _)) rfl rfl (Nat.le_of_ble_eq_true rfl) ⟨Nat.zero_le _, Nat.zero_le _⟩ dX8_goes_2 ?_
  refine gx_if_eq (tgt := 16) C dX8_goes_5 (by decide) (fun hc5 => ?_) (fun hc5 => ?_)
  · have h := gi_t hc5 h
    refine gx_bipush (v := (-101)) C dX8_goes_16 (by decide) ?_
    exact gx_iret C F rfl dX8_goes_18 (congrArg (fun z => (z, S)) (Option.some.inj h))
  · have h := gi_f hc5 h
    refine gx_aload_0 C dX8_goes_8 rfl ?_
    refine gx_iload_1 C dX8_goes_9 rfl ?_
    obtain ⟨v4, e3, h⟩ := gi_cp h
    refine gc_IV C (cn_goesTo (gx_l Γ) (gx_D Γ) hx a _ _ e3) (gx_cw C gx_uu lk_X8_125 (by decide) (by decide)) (cls_X8 hx).1 (gs_recv (q := 0) lt_M_Model (oc_M_Model a ι _)) rfl rfl (Nat.le_of_ble_eq_true rfl) ⟨Nat.zero_le _, Nat.zero_le _⟩ dX8_goes_10 ?_
    refine gx_goto (tgt := 18) C dX8_goes_13 (by decide) ?_
    exact gx_iret C F rfl dX8_goes_18 (congrArg (fun z => (z, S)) (Option.some.inj h))
def n_spare (x1 : Int32) (S : gx_S) : Option (Int32) := gx_cp (n_isSort x1 S) fun v2 => if v2 = 0 then some (-101) else gx_cp (n_spareOf x1 S) fun v4 => some v4
set_option maxRecDepth 20000 in
set_option maxHeartbeats 1000000 in
theorem cn_spare (l : Launch) (D : va_G) {cl : List vw_C} {tys : List (ClassId × FieldType)} {ι : Nat → ClassId} (hx : gx_std vwCl (gty ι) cl tys) (a : Nat → Nat) (x1 : Int32) (S : gx_S) {out : Int32} (h : n_spare x1 S = some out) : gx_mI l D cl tys yX8_spare (.code yX8_spare cX8_spare 2 ((Option.some Jvm.ClassFile.FieldType.int)) :: gx_U) (gx_rm 4) [.ref (a 0), .int x1] (wM a ι S) (wM a ι) (out, S) := by
  unfold n_spare at h
  refine gx_startI (V := [.ref (a 0), .int x1]) 0 (by decide +kernel) (Nat.le_of_ble_eq_true rfl) rfl (fun Γ hl hD hcl hty hnL C F => ?_)
  subst hl; subst hD; subst hcl; subst hty
  refine gx_aload_0 C dX8_spare_0 rfl ?_
  refine gx_iload_1 C dX8_spare_1 rfl ?_
  obtain ⟨v2, e1, h⟩ := gi_cp h
  refine gc_IV C (cn_isSort (gx_l Γ) (gx_D Γ) hx a _ _ e1) (gx_cw C gx_uu lk_X8_138 (by decide) (by decide)) (cls_X8 hx).1 (gs_recv (q := 0) lt_M_Model (oc_M_Model a ι _)) rfl rfl (Nat.le_of_ble_eq_true rfl) ⟨Nat.zero_le _, Nat.zero_le _⟩ dX8_spare_2 ?_
  refine gx_if_eq (tgt := 16) C dX8_spare_5 (by decide) (fun hc5 => ?_) (fun hc5 => ?_)
  · have h := gi_t hc5 h
    refine gx_bipush (v := (-101)) C dX8_spare_16 (by decide) ?_
    exact gx_iret C F rfl dX8_spare_18 (congrArg (fun z => (z, S)) (Option.some.inj h))
  · have h := gi_f hc5 h
    refine gx_aload_0 C dX8_spare_8 rfl ?_
    refine gx_iload_1 C dX8_spare_9 rfl ?_
    obtain ⟨v4, e3, h⟩ := gi_cp h
    refine gc_IV C (cn_spareOf (gx_l Γ) (gx_D Γ) hx a _ _ e3) (gx_cw C gx_uu lk_X8_141 (by decide) (by decide)) (cls_X8 hx).1 (gs_recv (q := 0) lt_M_Model (oc_M_Model a ι _)) rfl rfl (Nat.le_of_ble_eq_true rfl) ⟨Nat.zero_le _, Nat.zero_le _⟩ dX8_spare_10 ?_
    refine gx_goto (tgt := 18) C dX8_spare_13 (by decide) ?_
    exact gx_iret C F rfl dX8_spare_18 (congrArg (fun z => (z, S)) (Option.some.inj h))
def n_profit (x1 : Int32) (S : gx_S) : Option (Int32 × gx_S) := gx_cp (n_isOwner x1 S) fun v2 => if v2 = 0 then some ((-1000001), S) else gx_cs (n_profitOf x1 S) fun v5 S4 => some (v5, S4)
set_option maxRecDepth 20000 in
set_option maxHeartbeats 1000000 in
theorem cn_profit (l : Launch) (D : va_G) {cl : List vw_C} {tys : List (ClassId × FieldType)} {ι : Nat → ClassId} (hx : gx_std vwCl (gty ι) cl tys) (a : Nat → Nat) (x1 : Int32) (S : gx_S) {out : Int32 × gx_S} (h : n_profit x1 S = some out) : gx_mI l D cl tys yX8_profit (.code yX8_profit cX8_profit 2 ((Option.some Jvm.ClassFile.FieldType.int)) :: gx_U) (gx_rm 5) [.ref (a 0), .int x1] (wM a ι S) (wM a ι) out := by
  unfold n_profit at h
  refine gx_startI (V := [.ref (a 0), .int x1]) 0 (by decide +kernel) (Nat.le_of_ble_eq_true rfl) rfl (fun Γ hl hD hcl hty hnL C F => ?_)
  subst hl; subst hD; subst hcl; subst hty
  refine gx_aload_0 C dX8_profit_0 rfl ?_
  refine gx_iload_1 C dX8_profit_1 rfl ?_
  obtain ⟨v2, e1, h⟩ := gi_cp h
  refine gc_IV C (cn_isOwner (gx_l Γ) (gx_D Γ) hx a _ _ e1) (gx_cw C gx_uu lk_X8_104 (by decide) (by decide)) (cls_X8 hx).1 (gs_recv (q := 0) lt_M_Model (oc_M_Model a ι _)) rfl rfl (Nat.le_of_ble_eq_true rfl) ⟨Nat.zero_le _, Nat.zero_le _⟩ dX8_profit_2 ?_
  refine gx_if_eq (tgt := 16) C dX8_profit_5 (by decide) (fun hc6 => ?_) (fun hc6 => ?_)
  · have h := gi_t hc6 h
    refine gx_ldc (v := (-1000001)) C dX8_profit_16 kX8_147 ?_
    exact gx_iret C F rfl dX8_profit_18 (Option.some.inj h)
  · have h := gi_f hc6 h
    refine gx_aload_0 C dX8_profit_8 rfl ?_
    refine gx_iload_1 C dX8_profit_9 rfl ?_
    obtain ⟨v5, S4, e3, h⟩ := gi_cs h
    refine gc_IV C (cn_profitOf (gx_l Γ) (gx_D Γ) hx a _ _ e3) (gx_cw C gx_uu lk_X8_144 (by decide) (by decide)) (cls_X8 hx).1 (gs_recv (q := 0) lt_M_Model (oc_M_Model a ι _)) rfl rfl (Nat.le_of_ble_eq_true rfl) ⟨Nat.zero_le _, Nat.zero_le _⟩ dX8_profit_10 ?_
    refine gx_goto (tgt := 18) C dX8_profit_13 (by decide) ?_
    exact gx_iret C F rfl dX8_profit_18 (Option.some.inj h)
def n_layCode_70 (k9 : Int32 × Int32 × gx_S → Option (gx_S)) (x1 : Int32) (x2 : Int32) (x4 : Int32) (x5 : Int32) (x6 : Int32) (S : gx_S) : Option (gx_S) := k9 (x5, (x6 + 1), S)
set_option maxRecDepth 20000 in
set_option maxHeartbeats 1000000 in
theorem bn_layCode_70 {Γ : gx_T} {ι : Nat → ClassId} {a : Nat → Nat} {out : gx_S} (hx : gx_std vwCl (gty ι) (gx_cl Γ) (gx_ty Γ)) (C : gx_ok Γ cX8_layCode RX8 gx_U 0) (F : gx_finV Γ ((Option.none : Option Jvm.ClassFile.FieldType)) (wM a ι) out ∧ gx_nL Γ = 7) {k9 : Int32 × Int32 × gx_S → Option (gx_S)} {x1 : Int32} {x2 : Int32} {x4 : Int32} {x5 : Int32} {x6 : Int32} {S : gx_S} (hk9 : ∀ (x57 : Int32) (x67 : Int32) (S7 : gx_S), k9 (x57, x67, S7) = some out → gx_G Γ 0 0 9 [.ref (a 0), .int x1, .int x2, .null, .int x4, .int x57, .int x67] [] (wM a ι S7)) (h : n_layCode_70 k9 x1 x2 x4 x5 x6 S = some out) : gx_G Γ 0 0 70 [.ref (a 0), .int x1, .int x2, .null, .int x4, .int x5, .int x6] [] (wM a ι S) := by
  obtain ⟨F, hnL⟩ := F
  unfold n_layCode_70 at h
  refine gx_iinc1 C dX8_layCode_70 rfl (by rw [hnL]; decide) trivial ?_
  refine gx_goto (tgt := 9) C dX8_layCode_73 (by decide) ?_
  exact gx_weak (gx_le_k rfl (gx_le_k rfl (gx_le_k rfl (gx_le_n (gx_le_k rfl (gx_le_k rfl (gx_le_k rfl gx_le_0))))))) (hk9 _ _ _ h)
def n_layCode_68 (k9 : Int32 × Int32 × gx_S → Option (gx_S)) (x1 : Int32) (x2 : Int32) (x4 : Int32) (x6 : Int32) (s0 : Int32) (S : gx_S) : Option (gx_S) := n_layCode_70 k9 x1 x2 x4 s0 x6 S
set_option maxRecDepth 20000 in
set_option maxHeartbeats 1000000 in
theorem bn_layCode_68 {Γ : gx_T} {ι : Nat → ClassId} {a : Nat → Nat} {out : gx_S} (hx : gx_std vwCl (gty ι) (gx_cl Γ) (gx_ty Γ)) (C : gx_ok Γ cX8_layCode RX8 gx_U 0) (F : gx_finV Γ ((Option.none : Option Jvm.ClassFile.FieldType)) (wM a ι) out ∧ gx_nL Γ = 7) {k9 : Int32 × Int32 × gx_S → Option (gx_S)} {x1 : Int32} {x2 : Int32} {x4 : Int32} {x6 : Int32} {s0 : Int32} {S : gx_S} (hk9 : ∀ (x57 : Int32) (x67 : Int32) (S7 : gx_S), k9 (x57, x67, S7) = some out → gx_G Γ 0 0 9 [.ref (a 0), .int x1, .int x2, .null, .int x4, .int x57, .int x67] [] (wM a ι S7)) (h : n_layCode_68 k9 x1 x2 x4 x6 s0 S = some out) : gx_G Γ 0 0 68 [.ref (a 0), .int x1, .int x2, .null, .int x4, .null, .int x6] [.int s0] (wM a ι S) := by
  obtain ⟨F, hnL⟩ := F
  unfold n_layCode_68 at h
  refine gx_istore C dX8_layCode_68 (by rw [hnL]; decide) trivial ?_
  exact gx_weak (gx_le_k rfl (gx_le_k rfl (gx_le_k rfl (gx_le_n (gx_le_k rfl (gx_le_k rfl (gx_le_k rfl gx_le_0))))))) (bn_layCode_70 hx C ⟨F, hnL⟩ hk9 h)
def n_layCode_51 (k9 : Int32 × Int32 × gx_S → Option (gx_S)) (x1 : Int32) (x2 : Int32) (x4 : Int32) (x5 : Int32) (x6 : Int32) (s1 : Int32) (s2 : Int32) (S : gx_S) : Option (gx_S) := gx_ck 6 s1 (gx_let (gx_st S 7 s1.toNatClampNeg s2) fun S2 => if x5 ≤ 9 then n_layCode_68 k9 x1 x2 x4 x6 1 S2 else n_layCode_68 k9 x1 x2 x4 x6 (x5 / 10) S2)
set_option maxRecDepth 20000 in
set_option maxHeartbeats 1000000 in
theorem bn_layCode_51 {Γ : gx_T} {ι : Nat → ClassId} {a : Nat → Nat} {out : gx_S} (hx : gx_std vwCl (gty ι) (gx_cl Γ) (gx_ty Γ)) (C : gx_ok Γ cX8_layCode RX8 gx_U 0) (F : gx_finV Γ ((Option.none : Option Jvm.ClassFile.FieldType)) (wM a ι) out ∧ gx_nL Γ = 7) {k9 : Int32 × Int32 × gx_S → Option (gx_S)} {x1 : Int32} {x2 : Int32} {x4 : Int32} {x5 : Int32} {x6 : Int32} {s1 : Int32} {s2 : Int32} {S : gx_S} (hk9 : ∀ (x57 : Int32) (x67 : Int32) (S7 : gx_S), k9 (x57, x67, S7) = some out → gx_G Γ 0 0 9 [.ref (a 0), .int x1, .int x2, .null, .int x4, .int x57, .int x67] [] (wM a ι S7)) (h : n_layCode_51 k9 x1 x2 x4 x5 x6 s1 s2 S = some out) : gx_G Γ 0 0 51 [.ref (a 0), .int x1, .int x2, .null, .int x4, .int x5, .int x6] [.int s2, .int s1, .ref (a 7)] (wM a ι S) := by
  obtain ⟨F, hnL⟩ := F
  unfold n_layCode_51 at h
  obtain ⟨hi1, h⟩ := gi_ck h
  obtain ⟨S2, e3, h⟩ := gi_let h
  refine gs_iast (q := 7) C (ac_M_M_priceOf hx a) lt_M_M_priceOf hi1 e3 dX8_layCode_51 ?_
  refine gx_iload C dX8_layCode_52 rfl ?_
  refine gx_bipush (v := 9) C dX8_layCode_54 (by decide) ?_
  refine gx_icmp_le (tgt := 67) C dX8_layCode_56 (by decide) (fun hc4 => ?_) (fun hc4 => ?_)
  · have h := gi_t hc4 h
    refine gx_iconst1 C dX8_layCode_67 ?_
    exact gx_weak (gx_le_k rfl (gx_le_k rfl (gx_le_k rfl (gx_le_n (gx_le_k rfl (gx_le_n (gx_le_k rfl gx_le_0))))))) (bn_layCode_68 hx C ⟨F, hnL⟩ hk9 h)
  · have h := gi_f hc4 h
    refine gx_iload C dX8_layCode_59 rfl ?_
    refine gx_bipush (v := 10) C dX8_layCode_61 (by decide) ?_
    refine gx_idiv C dX8_layCode_63 (by decide) ?_
    refine gx_goto (tgt := 68) C dX8_layCode_64 (by decide) ?_
    exact gx_weak (gx_le_k rfl (gx_le_k rfl (gx_le_k rfl (gx_le_n (gx_le_k rfl (gx_le_n (gx_le_k rfl gx_le_0))))))) (bn_layCode_68 hx C ⟨F, hnL⟩ hk9 h)
def n_layCode_9 (x1 : Int32) (x2 : Int32) (x4 : Int32) (t : Int32 × Int32 × gx_S) (k9 : Int32 × Int32 × gx_S → Option (gx_S)) : Option (gx_S) := match t with
  | (x5, x6, S) => if (S 0 4) ≤ x6 then some S else gx_ck 6 x6 (if (S 4 x6.toNatClampNeg) = x1 then if x4 = 0 then gx_nz x5 (n_layCode_51 k9 x1 x2 x4 x5 x6 x6 ((x2 / x5) - (x2 / x5) / 10 * 10) S) else n_layCode_51 k9 x1 x2 x4 x5 x6 x6 x2 S else n_layCode_70 k9 x1 x2 x4 x5 x6 S)
set_option maxRecDepth 20000 in
set_option maxHeartbeats 1000000 in
theorem bn_layCode_9 {Γ : gx_T} {ι : Nat → ClassId} {a : Nat → Nat} {out : gx_S} (hx : gx_std vwCl (gty ι) (gx_cl Γ) (gx_ty Γ)) (C : gx_ok Γ cX8_layCode RX8 gx_U 0) (F : gx_finV Γ ((Option.none : Option Jvm.ClassFile.FieldType)) (wM a ι) out ∧ gx_nL Γ = 7) {k9 : Int32 × Int32 × gx_S → Option (gx_S)} {x1 : Int32} {x2 : Int32} {x4 : Int32} {x5 : Int32} {x6 : Int32} {S : gx_S} (hk9 : ∀ (x57 : Int32) (x67 : Int32) (S7 : gx_S), k9 (x57, x67, S7) = some out → gx_G Γ 0 0 9 [.ref (a 0), .int x1, .int x2, .null, .int x4, .int x57, .int x67] [] (wM a ι S7)) (h : n_layCode_9 x1 x2 x4 (x5, x6, S) k9 = some out) : gx_G Γ 0 0 9 [.ref (a 0), .int x1, .int x2, .null, .int x4, .int x5, .int x6] [] (wM a ι S) := by
  obtain ⟨F, hnL⟩ := F
  unfold n_layCode_9 at h
  dsimp only at h
  refine gx_iload C dX8_layCode_9 rfl ?_
  refine gx_aload_0 C dX8_layCode_11 rfl ?_
  refine gs_getf (q := 0) C fl_X8_98 (cls_X8 hx) lt_M_Model (oc_M_Model a ι _) rfl dX8_layCode_12 ?_
  refine gx_icmp_ge (tgt := 76) C dX8_layCode_15 (by decide) (fun hc5 => ?_) (fun hc5 => ?_)
  · have h := gi_t hc5 h
    exact gx_vret C F dX8_layCode_76 (Option.some.inj h)
  · have h := gi_f hc5 h
    refine gx_aload_0 C dX8_layCode_18 rfl ?_
    refine gs_getf (q := 0) C fl_X8_20 (cls_X8 hx) lt_M_Model (oc_M_Model a ι _) rfl dX8_layCode_19 ?_
    refine gx_iload C dX8_layCode_22 rfl ?_
    obtain ⟨hi1, h⟩ := gi_ck h
    refine gs_iald (q := 4) C (ac_M_M_ownerOf hx a) lt_M_M_ownerOf hi1 dX8_layCode_24 ?_
    refine gx_iload_1 C dX8_layCode_25 rfl ?_
    refine gx_icmp_ne (tgt := 70) C dX8_layCode_26 (by decide) (fun hc4 => ?_) (fun hc4 => ?_)
    · have h := gi_f hc4 h
      exact gx_weak (gx_le_k rfl (gx_le_k rfl (gx_le_k rfl (gx_le_n (gx_le_k rfl (gx_le_k rfl (gx_le_k rfl gx_le_0))))))) (bn_layCode_70 hx C ⟨F, hnL⟩ hk9 h)
    · have h := gi_t hc4 h
      refine gx_aload_0 C dX8_layCode_29 rfl ?_
      refine gs_getf (q := 0) C fl_X8_29 (cls_X8 hx) lt_M_Model (oc_M_Model a ι _) rfl dX8_layCode_30 ?_
      refine gx_iload C dX8_layCode_33 rfl ?_
      refine gx_iload C dX8_layCode_35 rfl ?_
      refine gx_if_eq (tgt := 44) C dX8_layCode_37 (by decide) (fun hc3 => ?_) (fun hc3 => ?_)
      · have h := gi_t hc3 h
        refine gx_iload_2 C dX8_layCode_44 rfl ?_
        refine gx_iload C dX8_layCode_45 rfl ?_
        obtain ⟨hz2, h⟩ := gi_nz h
        refine gx_idiv C dX8_layCode_47 hz2 ?_
        refine gx_bipush (v := 10) C dX8_layCode_48 (by decide) ?_
        refine gx_irem C dX8_layCode_50 (by decide) ?_
        exact gx_weak (gx_le_k rfl (gx_le_k rfl (gx_le_k rfl (gx_le_n (gx_le_k rfl (gx_le_k rfl (gx_le_k rfl gx_le_0))))))) (bn_layCode_51 hx C ⟨F, hnL⟩ hk9 h)
      · have h := gi_f hc3 h
        refine gx_iload_2 C dX8_layCode_40 rfl ?_
        refine gx_goto (tgt := 51) C dX8_layCode_41 (by decide) ?_
        exact gx_weak (gx_le_k rfl (gx_le_k rfl (gx_le_k rfl (gx_le_n (gx_le_k rfl (gx_le_k rfl (gx_le_k rfl gx_le_0))))))) (bn_layCode_51 hx C ⟨F, hnL⟩ hk9 h)
def n_layCode (x1 : Int32) (x2 : Int32) (x3 : Int32) (x4 : Int32) (S : gx_S) : Option (gx_S) := gx_loop (n_layCode_9 x1 x2 x4) 5000 ((x3 / 10), 0, S)
set_option maxRecDepth 20000 in
set_option maxHeartbeats 1000000 in
theorem cn_layCode (l : Launch) (D : va_G) {cl : List vw_C} {tys : List (ClassId × FieldType)} {ι : Nat → ClassId} (hx : gx_std vwCl (gty ι) cl tys) (a : Nat → Nat) (x1 : Int32) (x2 : Int32) (x3 : Int32) (x4 : Int32) (S : gx_S) {out : gx_S} (h : n_layCode x1 x2 x3 x4 S = some out) : gx_mV l D cl tys yX8_layCode (.code yX8_layCode cX8_layCode 7 ((Option.none : Option Jvm.ClassFile.FieldType)) :: gx_U) (gx_rm 0) [.ref (a 0), .int x1, .int x2, .int x3, .int x4] (wM a ι S) (wM a ι) out := by
  unfold n_layCode at h
  refine gx_startV (V := [.ref (a 0), .int x1, .int x2, .int x3, .int x4, .null, .null]) 2 (by decide +kernel) (Nat.le_of_ble_eq_true rfl) rfl (fun Γ hl hD hcl hty hnL C F => ?_)
  subst hl; subst hD; subst hcl; subst hty
  refine gx_iload_3 C dX8_layCode_0 rfl ?_
  refine gx_bipush (v := 10) C dX8_layCode_1 (by decide) ?_
  refine gx_idiv C dX8_layCode_3 (by decide) ?_
  refine gx_istore C dX8_layCode_4 (by rw [hnL]; decide) trivial ?_
  refine gx_iconst0 C dX8_layCode_6 ?_
  refine gx_istore C dX8_layCode_7 (by rw [hnL]; decide) trivial ?_
  refine gx_weak (gx_le_k rfl (gx_le_k rfl (gx_le_k rfl (gx_le_n (gx_le_k rfl (gx_le_k rfl (gx_le_k rfl gx_le_0))))))) (gi_loop (P := fun t => gx_G Γ 0 0 9 [.ref (a 0), .int x1, .int x2, .null, .int x4, .int t.1, .int t.2.1] [] (wM a ι t.2.2)) (fun kk t hk h => ?_) 5000 _ h)
  obtain ⟨x59, x69, S'9⟩ := t
  exact bn_layCode_9 hx C ⟨F, hnL⟩ (k9 := kk) (fun x58 x68 S'8 h => hk (x58, x68, S'8) h) h
def n_layBest_133 (k99 : Int32 × Int32 → Option (gx_S)) (x1 : Int32) (x2 : Int32) (x3 : Int32) (x5 : Int32) (x6 : Int32) (s0 : Int32) (s1 : Int32) (S : gx_S) : Option (gx_S) := k99 ((s0 * s1), (x6 + 1))
set_option maxRecDepth 20000 in
set_option maxHeartbeats 1000000 in
theorem bn_layBest_133 {Γ : gx_T} {ι : Nat → ClassId} {a : Nat → Nat} {out : gx_S} (hx : gx_std vwCl (gty ι) (gx_cl Γ) (gx_ty Γ)) (C : gx_ok Γ cX8_layBest RX8 gx_U 5) (F : gx_finV Γ ((Option.none : Option Jvm.ClassFile.FieldType)) (wM a ι) out ∧ gx_nL Γ = 9) {k99 : Int32 × Int32 → Option (gx_S)} {x1 : Int32} {x2 : Int32} {x3 : Int32} {x5 : Int32} {x6 : Int32} {s0 : Int32} {s1 : Int32} {S : gx_S} (hk99 : ∀ (x47 : Int32) (x67 : Int32), k99 (x47, x67) = some out → gx_G Γ 0 0 99 [.ref (a 0), .int x1, .int x2, .int x3, .int x47, .int x5, .int x67, .null, .null] [] (wM a ι S)) (h : n_layBest_133 k99 x1 x2 x3 x5 x6 s0 s1 S = some out) : gx_G Γ 0 0 133 [.ref (a 0), .int x1, .int x2, .int x3, .null, .int x5, .int x6, .null, .null] [.int s1, .int s0] (wM a ι S) := by
  obtain ⟨F, hnL⟩ := F
  unfold n_layBest_133 at h
  refine gx_imul C dX8_layBest_133 ?_
  refine gx_istore C dX8_layBest_134 (by rw [hnL]; decide) trivial ?_
  refine gx_iinc1 C dX8_layBest_136 rfl (by rw [hnL]; decide) trivial ?_
  refine gx_goto (tgt := 99) C dX8_layBest_139 (by decide) ?_
  exact gx_weak (gx_le_k rfl (gx_le_k rfl (gx_le_k rfl (gx_le_k rfl (gx_le_k rfl (gx_le_k rfl (gx_le_k rfl (gx_le_n (gx_le_n gx_le_0))))))))) (hk99 _ _ h)
def n_layBest_131 (k99 : Int32 × Int32 → Option (gx_S)) (x1 : Int32) (x2 : Int32) (x3 : Int32) (x5 : Int32) (x6 : Int32) (s0 : Int32) (S : gx_S) : Option (gx_S) := n_layBest_133 k99 x1 x2 x3 x5 x6 s0 10 S
set_option maxRecDepth 20000 in
set_option maxHeartbeats 1000000 in
theorem bn_layBest_131 {Γ : gx_T} {ι : Nat → ClassId} {a : Nat → Nat} {out : gx_S} (hx : gx_std vwCl (gty ι) (gx_cl Γ) (gx_ty Γ)) (C : gx_ok Γ cX8_layBest RX8 gx_U 5) (F : gx_finV Γ ((Option.none : Option Jvm.ClassFile.FieldType)) (wM a ι) out ∧ gx_nL Γ = 9) {k99 : Int32 × Int32 → Option (gx_S)} {x1 : Int32} {x2 : Int32} {x3 : Int32} {x5 : Int32} {x6 : Int32} {s0 : Int32} {S : gx_S} (hk99 : ∀ (x47 : Int32) (x67 : Int32), k99 (x47, x67) = some out → gx_G Γ 0 0 99 [.ref (a 0), .int x1, .int x2, .int x3, .int x47, .int x5, .int x67, .null, .null] [] (wM a ι S)) (h : n_layBest_131 k99 x1 x2 x3 x5 x6 s0 S = some out) : gx_G Γ 0 0 131 [.ref (a 0), .int x1, .int x2, .int x3, .null, .int x5, .int x6, .null, .null] [.int s0] (wM a ι S) := by
  obtain ⟨F, hnL⟩ := F
  unfold n_layBest_131 at h
  refine gx_bipush (v := 10) C dX8_layBest_131 (by decide) ?_
  exact gx_weak (gx_le_k rfl (gx_le_k rfl (gx_le_k rfl (gx_le_k rfl (gx_le_n (gx_le_k rfl (gx_le_k rfl (gx_le_n (gx_le_n gx_le_0))))))))) (bn_layBest_133 hx C ⟨F, hnL⟩ hk99 h)
def n_layBest_232 (k145 : Int32 × gx_S → Option (gx_S)) (x1 : Int32) (x3 : Int32) (x4 : Int32) (x5 : Int32) (x6 : Int32) (S : gx_S) : Option (gx_S) := k145 ((x6 + 1), S)
set_option maxRecDepth 20000 in
set_option maxHeartbeats 1000000 in
theorem bn_layBest_232 {Γ : gx_T} {ι : Nat → ClassId} {a : Nat → Nat} {out : gx_S} (hx : gx_std vwCl (gty ι) (gx_cl Γ) (gx_ty Γ)) (C : gx_ok Γ cX8_layBest RX8 gx_U 5) (F : gx_finV Γ ((Option.none : Option Jvm.ClassFile.FieldType)) (wM a ι) out ∧ gx_nL Γ = 9) {k145 : Int32 × gx_S → Option (gx_S)} {x1 : Int32} {x3 : Int32} {x4 : Int32} {x5 : Int32} {x6 : Int32} {S : gx_S} (hk145 : ∀ (x67 : Int32) (S7 : gx_S), k145 (x67, S7) = some out → gx_G Γ 0 0 145 [.ref (a 0), .int x1, .null, .int x3, .int x4, .int x5, .int x67, .null, .null] [] (wM a ι S7)) (h : n_layBest_232 k145 x1 x3 x4 x5 x6 S = some out) : gx_G Γ 0 0 232 [.ref (a 0), .int x1, .null, .int x3, .int x4, .int x5, .int x6, .null, .null] [] (wM a ι S) := by
  obtain ⟨F, hnL⟩ := F
  unfold n_layBest_232 at h
  refine gx_iinc1 C dX8_layBest_232 rfl (by rw [hnL]; decide) trivial ?_
  refine gx_goto (tgt := 145) C dX8_layBest_235 (by decide) ?_
  exact gx_weak (gx_le_k rfl (gx_le_k rfl (gx_le_n (gx_le_k rfl (gx_le_k rfl (gx_le_k rfl (gx_le_k rfl (gx_le_n (gx_le_n gx_le_0))))))))) (hk145 _ _ h)
def n_layBest_203 (k145 : Int32 × gx_S → Option (gx_S)) (x1 : Int32) (x3 : Int32) (x4 : Int32) (x5 : Int32) (x6 : Int32) (t : Int32 × gx_S) (k203 : Int32 × gx_S → Option (gx_S)) : Option (gx_S) := match t with
  | (x8, S) => if (S 0 4) ≤ x8 then n_layBest_232 k145 x1 x3 x4 x5 x6 S else gx_ck 6 x8 (gx_let (gx_st S 16 x8.toNatClampNeg (S 7 x8.toNatClampNeg)) fun S2 => k203 ((x8 + 1), S2))
set_option maxRecDepth 20000 in
set_option maxHeartbeats 1000000 in
theorem bn_layBest_203 {Γ : gx_T} {ι : Nat → ClassId} {a : Nat → Nat} {out : gx_S} (hx : gx_std vwCl (gty ι) (gx_cl Γ) (gx_ty Γ)) (C : gx_ok Γ cX8_layBest RX8 gx_U 5) (F : gx_finV Γ ((Option.none : Option Jvm.ClassFile.FieldType)) (wM a ι) out ∧ gx_nL Γ = 9) {k145 : Int32 × gx_S → Option (gx_S)} {k203 : Int32 × gx_S → Option (gx_S)} {x1 : Int32} {x3 : Int32} {x4 : Int32} {x5 : Int32} {x6 : Int32} {x8 : Int32} {S : gx_S} (hk145 : ∀ (x67 : Int32) (S7 : gx_S), k145 (x67, S7) = some out → gx_G Γ 0 0 145 [.ref (a 0), .int x1, .null, .int x3, .int x4, .int x5, .int x67, .null, .null] [] (wM a ι S7)) (hk203 : ∀ (x87 : Int32) (S7 : gx_S), k203 (x87, S7) = some out → gx_G Γ 0 0 203 [.ref (a 0), .int x1, .null, .int x3, .int x4, .int x5, .int x6, .null, .int x87] [] (wM a ι S7)) (h : n_layBest_203 k145 x1 x3 x4 x5 x6 (x8, S) k203 = some out) : gx_G Γ 0 0 203 [.ref (a 0), .int x1, .null, .int x3, .int x4, .int x5, .int x6, .null, .int x8] [] (wM a ι S) := by
  obtain ⟨F, hnL⟩ := F
  unfold n_layBest_203 at h
  dsimp only at h
  refine gx_iload C dX8_layBest_203 rfl ?_
  refine gx_aload_0 C dX8_layBest_205 rfl ?_
  refine gs_getf (q := 0) C fl_X8_98 (cls_X8 hx) lt_M_Model (oc_M_Model a ι _) rfl dX8_layBest_206 ?_
  refine gx_icmp_ge (tgt := 232) C dX8_layBest_209 (by decide) (fun hc4 => ?_) (fun hc4 => ?_)
  · have h := gi_t hc4 h
    exact gx_weak (gx_le_k rfl (gx_le_k rfl (gx_le_n (gx_le_k rfl (gx_le_k rfl (gx_le_k rfl (gx_le_k rfl (gx_le_n (gx_le_n gx_le_0))))))))) (bn_layBest_232 hx C ⟨F, hnL⟩ hk145 h)
  · have h := gi_f hc4 h
    refine gx_aload_0 C dX8_layBest_212 rfl ?_
    refine gs_getf (q := 0) C fl_X8_61 (cls_X8 hx) lt_M_Model (oc_M_Model a ι _) rfl dX8_layBest_213 ?_
    refine gx_iload C dX8_layBest_216 rfl ?_
    refine gx_aload_0 C dX8_layBest_218 rfl ?_
    refine gs_getf (q := 0) C fl_X8_29 (cls_X8 hx) lt_M_Model (oc_M_Model a ι _) rfl dX8_layBest_219 ?_
    refine gx_iload C dX8_layBest_222 rfl ?_
    obtain ⟨hi1, h⟩ := gi_ck h
    refine gs_iald (q := 7) C (ac_M_M_priceOf hx a) lt_M_M_priceOf hi1 dX8_layBest_224 ?_
    obtain ⟨S2, e3, h⟩ := gi_let h
    refine gs_iast (q := 16) C (ac_M_M_bestPrice hx a) lt_M_M_bestPrice hi1 e3 dX8_layBest_225 ?_
    refine gx_iinc1 C dX8_layBest_226 rfl (by rw [hnL]; decide) trivial ?_
    refine gx_goto (tgt := 203) C dX8_layBest_229 (by decide) ?_
    exact gx_weak (gx_le_k rfl (gx_le_k rfl (gx_le_n (gx_le_k rfl (gx_le_k rfl (gx_le_k rfl (gx_le_k rfl (gx_le_n (gx_le_k rfl gx_le_0))))))))) (hk203 _ _ h)
def n_layBest_194 (k145 : Int32 × gx_S → Option (gx_S)) (x1 : Int32) (x3 : Int32) (x4 : Int32) (x5 : Int32) (x6 : Int32) (x7 : Int32) (S : gx_S) : Option (gx_S) := gx_let (gx_st S 0 27 x7) fun S1 => gx_loop (n_layBest_203 k145 x1 x3 x4 x5 x6) 5000 (0, S1)
set_option maxRecDepth 20000 in
set_option maxHeartbeats 1000000 in
theorem bn_layBest_194 {Γ : gx_T} {ι : Nat → ClassId} {a : Nat → Nat} {out : gx_S} (hx : gx_std vwCl (gty ι) (gx_cl Γ) (gx_ty Γ)) (C : gx_ok Γ cX8_layBest RX8 gx_U 5) (F : gx_finV Γ ((Option.none : Option Jvm.ClassFile.FieldType)) (wM a ι) out ∧ gx_nL Γ = 9) {k145 : Int32 × gx_S → Option (gx_S)} {x1 : Int32} {x3 : Int32} {x4 : Int32} {x5 : Int32} {x6 : Int32} {x7 : Int32} {S : gx_S} (hk145 : ∀ (x67 : Int32) (S7 : gx_S), k145 (x67, S7) = some out → gx_G Γ 0 0 145 [.ref (a 0), .int x1, .null, .int x3, .int x4, .int x5, .int x67, .null, .null] [] (wM a ι S7)) (h : n_layBest_194 k145 x1 x3 x4 x5 x6 x7 S = some out) : gx_G Γ 0 0 194 [.ref (a 0), .int x1, .null, .int x3, .int x4, .int x5, .int x6, .int x7, .null] [] (wM a ι S) := by
  obtain ⟨F, hnL⟩ := F
  unfold n_layBest_194 at h
  refine gx_aload_0 C dX8_layBest_194 rfl ?_
  refine gx_iload C dX8_layBest_195 rfl ?_
  obtain ⟨S1, e2, h⟩ := gi_let h
  refine gs_puti (q := 0) C fl_X8_152 (cls_X8 hx) lt_M_Model (oc_M_Model a ι _) (oc_M_Model a ι _) rfl rfl rfl (Nat.le_of_ble_eq_true rfl) e2 dX8_layBest_197 ?_
  refine gx_iconst0 C dX8_layBest_200 ?_
  refine gx_istore C dX8_layBest_201 (by rw [hnL]; decide) trivial ?_
  refine gx_weak (gx_le_k rfl (gx_le_k rfl (gx_le_n (gx_le_k rfl (gx_le_k rfl (gx_le_k rfl (gx_le_k rfl (gx_le_n (gx_le_k rfl gx_le_0))))))))) (gi_loop (P := fun t => gx_G Γ 0 0 203 [.ref (a 0), .int x1, .null, .int x3, .int x4, .int x5, .int x6, .null, .int t.1] [] (wM a ι t.2)) (fun kk t hk h => ?_) 5000 _ h)
  obtain ⟨x89, S'9⟩ := t
  exact bn_layBest_203 hx C ⟨F, hnL⟩ hk145 (k203 := kk) (fun x88 S'8 h => hk (x88, S'8) h) h
def n_layBest_173 (k145 : Int32 × gx_S → Option (gx_S)) (x1 : Int32) (x3 : Int32) (x4 : Int32) (x5 : Int32) (x6 : Int32) (S : gx_S) : Option (gx_S) := gx_cs (n_profitOf x1 S) fun v3 S2 => if x6 = 0 then n_layBest_194 k145 x1 x3 x4 x5 x6 v3 S2 else if v3 ≤ (S2 0 27) then n_layBest_232 k145 x1 x3 x4 x5 x6 S2 else n_layBest_194 k145 x1 x3 x4 x5 x6 v3 S2
set_option maxRecDepth 20000 in
set_option maxHeartbeats 1000000 in
theorem bn_layBest_173 {Γ : gx_T} {ι : Nat → ClassId} {a : Nat → Nat} {out : gx_S} (hx : gx_std vwCl (gty ι) (gx_cl Γ) (gx_ty Γ)) (C : gx_ok Γ cX8_layBest RX8 gx_U 5) (F : gx_finV Γ ((Option.none : Option Jvm.ClassFile.FieldType)) (wM a ι) out ∧ gx_nL Γ = 9) {k145 : Int32 × gx_S → Option (gx_S)} {x1 : Int32} {x3 : Int32} {x4 : Int32} {x5 : Int32} {x6 : Int32} {S : gx_S} (hk145 : ∀ (x67 : Int32) (S7 : gx_S), k145 (x67, S7) = some out → gx_G Γ 0 0 145 [.ref (a 0), .int x1, .null, .int x3, .int x4, .int x5, .int x67, .null, .null] [] (wM a ι S7)) (h : n_layBest_173 k145 x1 x3 x4 x5 x6 S = some out) : gx_G Γ 0 0 173 [.ref (a 0), .int x1, .null, .int x3, .int x4, .int x5, .int x6, .null, .null] [] (wM a ι S) := by
  obtain ⟨F, hnL⟩ := F
  unfold n_layBest_173 at h
  refine gx_aload_0 C dX8_layBest_173 rfl ?_
  refine gx_iload_1 C dX8_layBest_174 rfl ?_
  obtain ⟨v3, S2, e1, h⟩ := gi_cs h
  refine gc_IV C (cn_profitOf (gx_l Γ) (gx_D Γ) hx a _ _ e1) (gx_cw C gx_uu lk_X8_144 (by decide) (by decide)) (cls_X8 hx).1 (gs_recv (q := 0) lt_M_Model (oc_M_Model a ι _)) rfl rfl (Nat.le_of_ble_eq_true rfl) ⟨Nat.zero_le _, Nat.zero_le _⟩ dX8_layBest_175 ?_
  refine gx_istore C dX8_layBest_178 (by rw [hnL]; decide) trivial ?_
  refine gx_iload C dX8_layBest_180 rfl ?_
  refine gx_if_eq (tgt := 194) C dX8_layBest_182 (by decide) (fun hc5 => ?_) (fun hc5 => ?_)
  · have h := gi_t hc5 h
    exact gx_weak (gx_le_k rfl (gx_le_k rfl (gx_le_n (gx_le_k rfl (gx_le_k rfl (gx_le_k rfl (gx_le_k rfl (gx_le_k rfl (gx_le_n gx_le_0))))))))) (bn_layBest_194 hx C ⟨F, hnL⟩ hk145 h)
  · have h := gi_f hc5 h
    refine gx_iload C dX8_layBest_185 rfl ?_
    refine gx_aload_0 C dX8_layBest_187 rfl ?_
    refine gs_getf (q := 0) C fl_X8_152 (cls_X8 hx) lt_M_Model (oc_M_Model a ι _) rfl dX8_layBest_188 ?_
    refine gx_icmp_le (tgt := 232) C dX8_layBest_191 (by decide) (fun hc4 => ?_) (fun hc4 => ?_)
    · have h := gi_t hc4 h
      exact gx_weak (gx_le_k rfl (gx_le_k rfl (gx_le_n (gx_le_k rfl (gx_le_k rfl (gx_le_k rfl (gx_le_k rfl (gx_le_n (gx_le_n gx_le_0))))))))) (bn_layBest_232 hx C ⟨F, hnL⟩ hk145 h)
    · have h := gi_f hc4 h
      exact gx_weak (gx_le_k rfl (gx_le_k rfl (gx_le_n (gx_le_k rfl (gx_le_k rfl (gx_le_k rfl (gx_le_k rfl (gx_le_k rfl (gx_le_n gx_le_0))))))))) (bn_layBest_194 hx C ⟨F, hnL⟩ hk145 h)
def n_layBest_336 (k273 : Int32 × gx_S → Option (gx_S)) (x1 : Int32) (x3 : Int32) (x6 : Int32) (s1 : Int32) (s2 : Int32) (S : gx_S) : Option (gx_S) := gx_ck 6 s1 (gx_let (gx_st S 16 s1.toNatClampNeg s2) fun S2 => k273 ((x6 + 1), S2))
set_option maxRecDepth 20000 in
set_option maxHeartbeats 1000000 in
theorem bn_layBest_336 {Γ : gx_T} {ι : Nat → ClassId} {a : Nat → Nat} {out : gx_S} (hx : gx_std vwCl (gty ι) (gx_cl Γ) (gx_ty Γ)) (C : gx_ok Γ cX8_layBest RX8 gx_U 5) (F : gx_finV Γ ((Option.none : Option Jvm.ClassFile.FieldType)) (wM a ι) out ∧ gx_nL Γ = 9) {k273 : Int32 × gx_S → Option (gx_S)} {x1 : Int32} {x3 : Int32} {x6 : Int32} {s1 : Int32} {s2 : Int32} {S : gx_S} (hk273 : ∀ (x67 : Int32) (S7 : gx_S), k273 (x67, S7) = some out → gx_G Γ 0 0 273 [.ref (a 0), .int x1, .null, .int x3, .null, .null, .int x67, .null, .null] [] (wM a ι S7)) (h : n_layBest_336 k273 x1 x3 x6 s1 s2 S = some out) : gx_G Γ 0 0 336 [.ref (a 0), .int x1, .null, .int x3, .null, .null, .int x6, .null, .null] [.int s2, .int s1, .ref (a 16)] (wM a ι S) := by
  obtain ⟨F, hnL⟩ := F
  unfold n_layBest_336 at h
  obtain ⟨hi1, h⟩ := gi_ck h
  obtain ⟨S2, e3, h⟩ := gi_let h
  refine gs_iast (q := 16) C (ac_M_M_bestPrice hx a) lt_M_M_bestPrice hi1 e3 dX8_layBest_336 ?_
  refine gx_iinc1 C dX8_layBest_337 rfl (by rw [hnL]; decide) trivial ?_
  refine gx_goto (tgt := 273) C dX8_layBest_340 (by decide) ?_
  exact gx_weak (gx_le_k rfl (gx_le_k rfl (gx_le_n (gx_le_k rfl (gx_le_n (gx_le_n (gx_le_k rfl (gx_le_n (gx_le_n gx_le_0))))))))) (hk273 _ _ h)
def n_layBest_329 (k273 : Int32 × gx_S → Option (gx_S)) (x1 : Int32) (x3 : Int32) (x6 : Int32) (s1 : Int32) (S : gx_S) : Option (gx_S) := gx_ck 6 x6 (n_layBest_336 k273 x1 x3 x6 s1 (S 16 x6.toNatClampNeg) S)
set_option maxRecDepth 20000 in
set_option maxHeartbeats 1000000 in
theorem bn_layBest_329 {Γ : gx_T} {ι : Nat → ClassId} {a : Nat → Nat} {out : gx_S} (hx : gx_std vwCl (gty ι) (gx_cl Γ) (gx_ty Γ)) (C : gx_ok Γ cX8_layBest RX8 gx_U 5) (F : gx_finV Γ ((Option.none : Option Jvm.ClassFile.FieldType)) (wM a ι) out ∧ gx_nL Γ = 9) {k273 : Int32 × gx_S → Option (gx_S)} {x1 : Int32} {x3 : Int32} {x6 : Int32} {s1 : Int32} {S : gx_S} (hk273 : ∀ (x67 : Int32) (S7 : gx_S), k273 (x67, S7) = some out → gx_G Γ 0 0 273 [.ref (a 0), .int x1, .null, .int x3, .null, .null, .int x67, .null, .null] [] (wM a ι S7)) (h : n_layBest_329 k273 x1 x3 x6 s1 S = some out) : gx_G Γ 0 0 329 [.ref (a 0), .int x1, .null, .int x3, .null, .null, .int x6, .null, .null] [.int s1, .ref (a 16)] (wM a ι S) := by
  obtain ⟨F, hnL⟩ := F
  unfold n_layBest_329 at h
  refine gx_aload_0 C dX8_layBest_329 rfl ?_
  refine gs_getf (q := 0) C fl_X8_61 (cls_X8 hx) lt_M_Model (oc_M_Model a ι _) rfl dX8_layBest_330 ?_
  refine gx_iload C dX8_layBest_333 rfl ?_
  obtain ⟨hi1, h⟩ := gi_ck h
  refine gs_iald (q := 16) C (ac_M_M_bestPrice hx a) lt_M_M_bestPrice hi1 dX8_layBest_335 ?_
  exact gx_weak (gx_le_k rfl (gx_le_k rfl (gx_le_n (gx_le_k rfl (gx_le_n (gx_le_n (gx_le_k rfl (gx_le_n (gx_le_n gx_le_0))))))))) (bn_layBest_336 hx C ⟨F, hnL⟩ hk273 h)
def n_layBest_369 (x1 : Int32) (x3 : Int32) (s1 : Int32) (S : gx_S) : Option (gx_S) := gx_let (gx_st S 0 27 s1) fun S1 => gx_ck 6 x1 (gx_let (gx_st S1 3 x1.toNatClampNeg (vp_nar .boolean x3)) fun S4 => some S4)
set_option maxRecDepth 20000 in
set_option maxHeartbeats 1000000 in
theorem bn_layBest_369 {Γ : gx_T} {ι : Nat → ClassId} {a : Nat → Nat} {out : gx_S} (hx : gx_std vwCl (gty ι) (gx_cl Γ) (gx_ty Γ)) (C : gx_ok Γ cX8_layBest RX8 gx_U 5) (F : gx_finV Γ ((Option.none : Option Jvm.ClassFile.FieldType)) (wM a ι) out ∧ gx_nL Γ = 9) {x1 : Int32} {x3 : Int32} {s1 : Int32} {S : gx_S} (h : n_layBest_369 x1 x3 s1 S = some out) : gx_G Γ 0 0 369 [.ref (a 0), .int x1, .null, .int x3, .null, .null, .null, .null, .null] [.int s1, .ref (a 0)] (wM a ι S) := by
  obtain ⟨F, hnL⟩ := F
  unfold n_layBest_369 at h
  obtain ⟨S1, e2, h⟩ := gi_let h
  refine gs_puti (q := 0) C fl_X8_152 (cls_X8 hx) lt_M_Model (oc_M_Model a ι _) (oc_M_Model a ι _) rfl rfl rfl (Nat.le_of_ble_eq_true rfl) e2 dX8_layBest_369 ?_
  refine gx_aload_0 C dX8_layBest_372 rfl ?_
  refine gs_getf (q := 0) C fl_X8_16 (cls_X8 hx) lt_M_Model (oc_M_Model a ι _) rfl dX8_layBest_373 ?_
  refine gx_iload_1 C dX8_layBest_376 rfl ?_
  refine gx_iload_3 C dX8_layBest_377 rfl ?_
  obtain ⟨hi3, h⟩ := gi_ck h
  obtain ⟨S4, e5, h⟩ := gi_let h
  refine gs_zast (q := 3) C (ac_M_M_isIn hx a) lt_M_M_isIn hi3 e5 dX8_layBest_378 ?_
  exact gx_vret C F dX8_layBest_379 (Option.some.inj h)
def n_layBest_365 (x1 : Int32) (x3 : Int32) (S : gx_S) : Option (gx_S) := n_layBest_369 x1 x3 (S 0 27) S
set_option maxRecDepth 20000 in
set_option maxHeartbeats 1000000 in
theorem bn_layBest_365 {Γ : gx_T} {ι : Nat → ClassId} {a : Nat → Nat} {out : gx_S} (hx : gx_std vwCl (gty ι) (gx_cl Γ) (gx_ty Γ)) (C : gx_ok Γ cX8_layBest RX8 gx_U 5) (F : gx_finV Γ ((Option.none : Option Jvm.ClassFile.FieldType)) (wM a ι) out ∧ gx_nL Γ = 9) {x1 : Int32} {x3 : Int32} {S : gx_S} (h : n_layBest_365 x1 x3 S = some out) : gx_G Γ 0 0 365 [.ref (a 0), .int x1, .null, .int x3, .null, .null, .null, .null, .null] [.ref (a 0)] (wM a ι S) := by
  obtain ⟨F, hnL⟩ := F
  unfold n_layBest_365 at h
  refine gx_aload_0 C dX8_layBest_365 rfl ?_
  refine gs_getf (q := 0) C fl_X8_152 (cls_X8 hx) lt_M_Model (oc_M_Model a ι _) rfl dX8_layBest_366 ?_
  exact gx_weak (gx_le_k rfl (gx_le_k rfl (gx_le_n (gx_le_k rfl (gx_le_n (gx_le_n (gx_le_n (gx_le_n (gx_le_n gx_le_0))))))))) (bn_layBest_369 hx C ⟨F, hnL⟩ h)
def n_layBest_273 (x1 : Int32) (x3 : Int32) (t : Int32 × gx_S) (k273 : Int32 × gx_S → Option (gx_S)) : Option (gx_S) := match t with
  | (x6, S) => if (S 0 4) ≤ x6 then gx_ck 6 x1 (if (S 1 x1.toNatClampNeg) = 4 then if (S 0 26) = 0 then n_layBest_369 x1 x3 0 S else n_layBest_365 x1 x3 S else n_layBest_365 x1 x3 S) else gx_ck 6 x6 (gx_let (gx_st S 7 x6.toNatClampNeg (S 17 x6.toNatClampNeg)) fun S5 => gx_ck 6 x1 (if (S5 1 x1.toNatClampNeg) = 4 then if (S5 0 26) = 0 then n_layBest_336 k273 x1 x3 x6 x6 (S5 17 x6.toNatClampNeg) S5 else n_layBest_329 k273 x1 x3 x6 x6 S5 else n_layBest_329 k273 x1 x3 x6 x6 S5))
set_option maxRecDepth 20000 in
set_option maxHeartbeats 1000000 in
theorem bn_layBest_273 {Γ : gx_T} {ι : Nat → ClassId} {a : Nat → Nat} {out : gx_S} (hx : gx_std vwCl (gty ι) (gx_cl Γ) (gx_ty Γ)) (C : gx_ok Γ cX8_layBest RX8 gx_U 5) (F : gx_finV Γ ((Option.none : Option Jvm.ClassFile.FieldType)) (wM a ι) out ∧ gx_nL Γ = 9) {k273 : Int32 × gx_S → Option (gx_S)} {x1 : Int32} {x3 : Int32} {x6 : Int32} {S : gx_S} (hk273 : ∀ (x67 : Int32) (S7 : gx_S), k273 (x67, S7) = some out → gx_G Γ 0 0 273 [.ref (a 0), .int x1, .null, .int x3, .null, .null, .int x67, .null, .null] [] (wM a ι S7)) (h : n_layBest_273 x1 x3 (x6, S) k273 = some out) : gx_G Γ 0 0 273 [.ref (a 0), .int x1, .null, .int x3, .null, .null, .int x6, .null, .null] [] (wM a ι S) := by
  obtain ⟨F, hnL⟩ := F
  unfold n_layBest_273 at h
  dsimp only at h
  refine gx_iload C dX8_layBest_273 rfl ?_
  refine gx_aload_0 C dX8_layBest_275 rfl ?_
  refine gs_getf (q := 0) C fl_X8_98 (cls_X8 hx) lt_M_Model (oc_M_Model a ι _) rfl dX8_layBest_276 ?_
  refine gx_icmp_ge (tgt := 343) C dX8_layBest_279 (by decide) (fun hc10 => ?_) (fun hc10 => ?_)
  · have h := gi_t hc10 h
    refine gx_aload_0 C dX8_layBest_343 rfl ?_
    refine gx_aload_0 C dX8_layBest_344 rfl ?_
    refine gs_getf (q := 0) C fl_X8_7 (cls_X8 hx) lt_M_Model (oc_M_Model a ι _) rfl dX8_layBest_345 ?_
    refine gx_iload_1 C dX8_layBest_348 rfl ?_
    obtain ⟨hi1, h⟩ := gi_ck h
    refine gs_iald (q := 1) C (ac_M_M_kindOf hx a) lt_M_M_kindOf hi1 dX8_layBest_349 ?_
    refine gx_iconst4 C dX8_layBest_350 ?_
    refine gx_icmp_ne (tgt := 365) C dX8_layBest_351 (by decide) (fun hc3 => ?_) (fun hc3 => ?_)
    · have h := gi_f hc3 h
      exact gx_weak (gx_le_k rfl (gx_le_k rfl (gx_le_n (gx_le_k rfl (gx_le_n (gx_le_n (gx_le_n (gx_le_n (gx_le_n gx_le_0))))))))) (bn_layBest_365 hx C ⟨F, hnL⟩ h)
    · have h := gi_t hc3 h
      refine gx_aload_0 C dX8_layBest_354 rfl ?_
      refine gs_getf (q := 0) C fl_X8_155 (cls_X8 hx) lt_M_Model (oc_M_Model a ι _) rfl dX8_layBest_355 ?_
      refine gx_if_ne (tgt := 365) C dX8_layBest_358 (by decide) (fun hc2 => ?_) (fun hc2 => ?_)
      · have h := gi_f hc2 h
        exact gx_weak (gx_le_k rfl (gx_le_k rfl (gx_le_n (gx_le_k rfl (gx_le_n (gx_le_n (gx_le_n (gx_le_n (gx_le_n gx_le_0))))))))) (bn_layBest_365 hx C ⟨F, hnL⟩ h)
      · have h := gi_t hc2 h
        refine gx_iconst0 C dX8_layBest_361 ?_
        refine gx_goto (tgt := 369) C dX8_layBest_362 (by decide) ?_
        exact gx_weak (gx_le_k rfl (gx_le_k rfl (gx_le_n (gx_le_k rfl (gx_le_n (gx_le_n (gx_le_n (gx_le_n (gx_le_n gx_le_0))))))))) (bn_layBest_369 hx C ⟨F, hnL⟩ h)
  · have h := gi_f hc10 h
    refine gx_aload_0 C dX8_layBest_282 rfl ?_
    refine gs_getf (q := 0) C fl_X8_29 (cls_X8 hx) lt_M_Model (oc_M_Model a ι _) rfl dX8_layBest_283 ?_
    refine gx_iload C dX8_layBest_286 rfl ?_
    refine gx_aload_0 C dX8_layBest_288 rfl ?_
    refine gs_getf (q := 0) C fl_X8_64 (cls_X8 hx) lt_M_Model (oc_M_Model a ι _) rfl dX8_layBest_289 ?_
    refine gx_iload C dX8_layBest_292 rfl ?_
    obtain ⟨hi4, h⟩ := gi_ck h
    refine gs_iald (q := 17) C (ac_M_M_tried hx a) lt_M_M_tried hi4 dX8_layBest_294 ?_
    obtain ⟨S5, e6, h⟩ := gi_let h
    refine gs_iast (q := 7) C (ac_M_M_priceOf hx a) lt_M_M_priceOf hi4 e6 dX8_layBest_295 ?_
    refine gx_aload_0 C dX8_layBest_296 rfl ?_
    refine gs_getf (q := 0) C fl_X8_61 (cls_X8 hx) lt_M_Model (oc_M_Model a ι _) rfl dX8_layBest_297 ?_
    refine gx_iload C dX8_layBest_300 rfl ?_
    refine gx_aload_0 C dX8_layBest_302 rfl ?_
    refine gs_getf (q := 0) C fl_X8_7 (cls_X8 hx) lt_M_Model (oc_M_Model a ι _) rfl dX8_layBest_303 ?_
    refine gx_iload_1 C dX8_layBest_306 rfl ?_
    obtain ⟨hi7, h⟩ := gi_ck h
    refine gs_iald (q := 1) C (ac_M_M_kindOf hx a) lt_M_M_kindOf hi7 dX8_layBest_307 ?_
    refine gx_iconst4 C dX8_layBest_308 ?_
    refine gx_icmp_ne (tgt := 329) C dX8_layBest_309 (by decide) (fun hc9 => ?_) (fun hc9 => ?_)
    · have h := gi_f hc9 h
      exact gx_weak (gx_le_k rfl (gx_le_k rfl (gx_le_n (gx_le_k rfl (gx_le_n (gx_le_n (gx_le_k rfl (gx_le_n (gx_le_n gx_le_0))))))))) (bn_layBest_329 hx C ⟨F, hnL⟩ hk273 h)
    · have h := gi_t hc9 h
      refine gx_aload_0 C dX8_layBest_312 rfl ?_
      refine gs_getf (q := 0) C fl_X8_155 (cls_X8 hx) lt_M_Model (oc_M_Model a ι _) rfl dX8_layBest_313 ?_
      refine gx_if_ne (tgt := 329) C dX8_layBest_316 (by decide) (fun hc8 => ?_) (fun hc8 => ?_)
      · have h := gi_f hc8 h
        exact gx_weak (gx_le_k rfl (gx_le_k rfl (gx_le_n (gx_le_k rfl (gx_le_n (gx_le_n (gx_le_k rfl (gx_le_n (gx_le_n gx_le_0))))))))) (bn_layBest_329 hx C ⟨F, hnL⟩ hk273 h)
      · have h := gi_t hc8 h
        refine gx_aload_0 C dX8_layBest_319 rfl ?_
        refine gs_getf (q := 0) C fl_X8_64 (cls_X8 hx) lt_M_Model (oc_M_Model a ι _) rfl dX8_layBest_320 ?_
        refine gx_iload C dX8_layBest_323 rfl ?_
        refine gs_iald (q := 17) C (ac_M_M_tried hx a) lt_M_M_tried hi4 dX8_layBest_325 ?_
        refine gx_goto (tgt := 336) C dX8_layBest_326 (by decide) ?_
        exact gx_weak (gx_le_k rfl (gx_le_k rfl (gx_le_n (gx_le_k rfl (gx_le_n (gx_le_n (gx_le_k rfl (gx_le_n (gx_le_n gx_le_0))))))))) (bn_layBest_336 hx C ⟨F, hnL⟩ hk273 h)
def n_layBest_267 (x1 : Int32) (x3 : Int32) (s1 : Int32) (S : gx_S) : Option (gx_S) := gx_bz s1 (gx_let (gx_st S 0 26 s1) fun S1 => gx_loop (n_layBest_273 x1 x3) 5000 (0, S1))
set_option maxRecDepth 20000 in
set_option maxHeartbeats 1000000 in
theorem bn_layBest_267 {Γ : gx_T} {ι : Nat → ClassId} {a : Nat → Nat} {out : gx_S} (hx : gx_std vwCl (gty ι) (gx_cl Γ) (gx_ty Γ)) (C : gx_ok Γ cX8_layBest RX8 gx_U 5) (F : gx_finV Γ ((Option.none : Option Jvm.ClassFile.FieldType)) (wM a ι) out ∧ gx_nL Γ = 9) {x1 : Int32} {x3 : Int32} {s1 : Int32} {S : gx_S} (h : n_layBest_267 x1 x3 s1 S = some out) : gx_G Γ 0 0 267 [.ref (a 0), .int x1, .null, .int x3, .null, .null, .null, .null, .null] [.int s1, .ref (a 0)] (wM a ι S) := by
  obtain ⟨F, hnL⟩ := F
  unfold n_layBest_267 at h
  obtain ⟨hz3, h⟩ := gi_bz h
  obtain ⟨S1, e2, h⟩ := gi_let h
  refine gs_puti (q := 0) C fl_X8_155 (cls_X8 hx) lt_M_Model (oc_M_Model a ι _) (oc_M_Model a ι _) rfl hz3.1 hz3.2 (Nat.le_of_ble_eq_true rfl) e2 dX8_layBest_267 ?_
  refine gx_iconst0 C dX8_layBest_270 ?_
  refine gx_istore C dX8_layBest_271 (by rw [hnL]; decide) trivial ?_
  refine gx_weak (gx_le_k rfl (gx_le_k rfl (gx_le_n (gx_le_k rfl (gx_le_n (gx_le_n (gx_le_k rfl (gx_le_n (gx_le_n gx_le_0))))))))) (gi_loop (P := fun t => gx_G Γ 0 0 273 [.ref (a 0), .int x1, .null, .int x3, .null, .null, .int t.1, .null, .null] [] (wM a ι t.2)) (fun kk t hk h => ?_) 5000 _ h)
  obtain ⟨x69, S'9⟩ := t
  exact bn_layBest_273 hx C ⟨F, hnL⟩ (k273 := kk) (fun x68 S'8 h => hk (x68, S'8) h) h
def n_layBest_266 (x1 : Int32) (x3 : Int32) (S : gx_S) : Option (gx_S) := n_layBest_267 x1 x3 0 S
set_option maxRecDepth 20000 in
set_option maxHeartbeats 1000000 in
theorem bn_layBest_266 {Γ : gx_T} {ι : Nat → ClassId} {a : Nat → Nat} {out : gx_S} (hx : gx_std vwCl (gty ι) (gx_cl Γ) (gx_ty Γ)) (C : gx_ok Γ cX8_layBest RX8 gx_U 5) (F : gx_finV Γ ((Option.none : Option Jvm.ClassFile.FieldType)) (wM a ι) out ∧ gx_nL Γ = 9) {x1 : Int32} {x3 : Int32} {S : gx_S} (h : n_layBest_266 x1 x3 S = some out) : gx_G Γ 0 0 266 [.ref (a 0), .int x1, .null, .int x3, .null, .null, .null, .null, .null] [.ref (a 0)] (wM a ι S) := by
  obtain ⟨F, hnL⟩ := F
  unfold n_layBest_266 at h
  refine gx_iconst0 C dX8_layBest_266 ?_
  exact gx_weak (gx_le_k rfl (gx_le_k rfl (gx_le_n (gx_le_k rfl (gx_le_n (gx_le_n (gx_le_n (gx_le_n (gx_le_n gx_le_0))))))))) (bn_layBest_267 hx C ⟨F, hnL⟩ h)
def n_layBest_145 (x1 : Int32) (x3 : Int32) (x4 : Int32) (x5 : Int32) (t : Int32 × gx_S) (k145 : Int32 × gx_S → Option (gx_S)) : Option (gx_S) := match t with
  | (x6, S) => if x4 ≤ x6 then gx_ck 6 x1 (if (S 1 x1.toNatClampNeg) = 4 then if (S 0 27) ≤ (S 2 x1.toNatClampNeg) then n_layBest_266 x1 x3 S else n_layBest_267 x1 x3 1 S else n_layBest_266 x1 x3 S) else gx_ck 6 x1 (if (S 1 x1.toNatClampNeg) = 2 then n_layBest_173 k145 x1 x3 x4 x5 x6 S else gx_cp (n_layCode x1 x6 x4 x5 S) fun S6 => n_layBest_173 k145 x1 x3 x4 x5 x6 S6)
set_option maxRecDepth 20000 in
set_option maxHeartbeats 1000000 in
theorem bn_layBest_145 {Γ : gx_T} {ι : Nat → ClassId} {a : Nat → Nat} {out : gx_S} (hx : gx_std vwCl (gty ι) (gx_cl Γ) (gx_ty Γ)) (C : gx_ok Γ cX8_layBest RX8 gx_U 5) (F : gx_finV Γ ((Option.none : Option Jvm.ClassFile.FieldType)) (wM a ι) out ∧ gx_nL Γ = 9) {k145 : Int32 × gx_S → Option (gx_S)} {x1 : Int32} {x3 : Int32} {x4 : Int32} {x5 : Int32} {x6 : Int32} {S : gx_S} (hk145 : ∀ (x67 : Int32) (S7 : gx_S), k145 (x67, S7) = some out → gx_G Γ 0 0 145 [.ref (a 0), .int x1, .null, .int x3, .int x4, .int x5, .int x67, .null, .null] [] (wM a ι S7)) (h : n_layBest_145 x1 x3 x4 x5 (x6, S) k145 = some out) : gx_G Γ 0 0 145 [.ref (a 0), .int x1, .null, .int x3, .int x4, .int x5, .int x6, .null, .null] [] (wM a ι S) := by
  obtain ⟨F, hnL⟩ := F
  unfold n_layBest_145 at h
  dsimp only at h
  refine gx_iload C dX8_layBest_145 rfl ?_
  refine gx_iload C dX8_layBest_147 rfl ?_
  refine gx_icmp_ge (tgt := 238) C dX8_layBest_149 (by decide) (fun hc8 => ?_) (fun hc8 => ?_)
  · have h := gi_t hc8 h
    refine gx_aload_0 C dX8_layBest_238 rfl ?_
    refine gx_aload_0 C dX8_layBest_239 rfl ?_
    refine gs_getf (q := 0) C fl_X8_7 (cls_X8 hx) lt_M_Model (oc_M_Model a ι _) rfl dX8_layBest_240 ?_
    refine gx_iload_1 C dX8_layBest_243 rfl ?_
    obtain ⟨hi1, h⟩ := gi_ck h
    refine gs_iald (q := 1) C (ac_M_M_kindOf hx a) lt_M_M_kindOf hi1 dX8_layBest_244 ?_
    refine gx_iconst4 C dX8_layBest_245 ?_
    refine gx_icmp_ne (tgt := 266) C dX8_layBest_246 (by decide) (fun hc3 => ?_) (fun hc3 => ?_)
    · have h := gi_f hc3 h
      exact gx_weak (gx_le_k rfl (gx_le_k rfl (gx_le_n (gx_le_k rfl (gx_le_n (gx_le_n (gx_le_n (gx_le_n (gx_le_n gx_le_0))))))))) (bn_layBest_266 hx C ⟨F, hnL⟩ h)
    · have h := gi_t hc3 h
      refine gx_aload_0 C dX8_layBest_249 rfl ?_
      refine gs_getf (q := 0) C fl_X8_152 (cls_X8 hx) lt_M_Model (oc_M_Model a ι _) rfl dX8_layBest_250 ?_
      refine gx_aload_0 C dX8_layBest_253 rfl ?_
      refine gs_getf (q := 0) C fl_X8_13 (cls_X8 hx) lt_M_Model (oc_M_Model a ι _) rfl dX8_layBest_254 ?_
      refine gx_iload_1 C dX8_layBest_257 rfl ?_
      refine gs_iald (q := 2) C (ac_M_M_nOf hx a) lt_M_M_nOf hi1 dX8_layBest_258 ?_
      refine gx_icmp_le (tgt := 266) C dX8_layBest_259 (by decide) (fun hc2 => ?_) (fun hc2 => ?_)
      · have h := gi_t hc2 h
        exact gx_weak (gx_le_k rfl (gx_le_k rfl (gx_le_n (gx_le_k rfl (gx_le_n (gx_le_n (gx_le_n (gx_le_n (gx_le_n gx_le_0))))))))) (bn_layBest_266 hx C ⟨F, hnL⟩ h)
      · have h := gi_f hc2 h
        refine gx_iconst1 C dX8_layBest_262 ?_
        refine gx_goto (tgt := 267) C dX8_layBest_263 (by decide) ?_
        exact gx_weak (gx_le_k rfl (gx_le_k rfl (gx_le_n (gx_le_k rfl (gx_le_n (gx_le_n (gx_le_n (gx_le_n (gx_le_n gx_le_0))))))))) (bn_layBest_267 hx C ⟨F, hnL⟩ h)
  · have h := gi_f hc8 h
    refine gx_aload_0 C dX8_layBest_152 rfl ?_
    refine gs_getf (q := 0) C fl_X8_7 (cls_X8 hx) lt_M_Model (oc_M_Model a ι _) rfl dX8_layBest_153 ?_
    refine gx_iload_1 C dX8_layBest_156 rfl ?_
    obtain ⟨hi4, h⟩ := gi_ck h
    refine gs_iald (q := 1) C (ac_M_M_kindOf hx a) lt_M_M_kindOf hi4 dX8_layBest_157 ?_
    refine gx_iconst2 C dX8_layBest_158 ?_
    refine gx_icmp_eq (tgt := 173) C dX8_layBest_159 (by decide) (fun hc7 => ?_) (fun hc7 => ?_)
    · have h := gi_t hc7 h
      exact gx_weak (gx_le_k rfl (gx_le_k rfl (gx_le_n (gx_le_k rfl (gx_le_k rfl (gx_le_k rfl (gx_le_k rfl (gx_le_n (gx_le_n gx_le_0))))))))) (bn_layBest_173 hx C ⟨F, hnL⟩ hk145 h)
    · have h := gi_f hc7 h
      refine gx_aload_0 C dX8_layBest_162 rfl ?_
      refine gx_iload_1 C dX8_layBest_163 rfl ?_
      refine gx_iload C dX8_layBest_164 rfl ?_
      refine gx_iload C dX8_layBest_166 rfl ?_
      refine gx_iload C dX8_layBest_168 rfl ?_
      obtain ⟨S6, e5, h⟩ := gi_cp h
      refine gc_VV C (cn_layCode (gx_l Γ) (gx_D Γ) hx a _ _ _ _ _ e5) (gx_cw C gx_uu lk_X8_148 (by decide) (by decide)) (cls_X8 hx).1 (gs_recv (q := 0) lt_M_Model (oc_M_Model a ι _)) rfl rfl (Nat.le_of_ble_eq_true rfl) ⟨Nat.zero_le _, Nat.zero_le _⟩ dX8_layBest_170 ?_
      exact gx_weak (gx_le_k rfl (gx_le_k rfl (gx_le_n (gx_le_k rfl (gx_le_k rfl (gx_le_k rfl (gx_le_k rfl (gx_le_n (gx_le_n gx_le_0))))))))) (bn_layBest_173 hx C ⟨F, hnL⟩ hk145 h)
def n_layBest_142 (x1 : Int32) (x3 : Int32) (x4 : Int32) (x5 : Int32) (S : gx_S) : Option (gx_S) := gx_loop (n_layBest_145 x1 x3 x4 x5) 5000 (0, S)
set_option maxRecDepth 20000 in
set_option maxHeartbeats 1000000 in
theorem bn_layBest_142 {Γ : gx_T} {ι : Nat → ClassId} {a : Nat → Nat} {out : gx_S} (hx : gx_std vwCl (gty ι) (gx_cl Γ) (gx_ty Γ)) (C : gx_ok Γ cX8_layBest RX8 gx_U 5) (F : gx_finV Γ ((Option.none : Option Jvm.ClassFile.FieldType)) (wM a ι) out ∧ gx_nL Γ = 9) {x1 : Int32} {x3 : Int32} {x4 : Int32} {x5 : Int32} {S : gx_S} (h : n_layBest_142 x1 x3 x4 x5 S = some out) : gx_G Γ 0 0 142 [.ref (a 0), .int x1, .null, .int x3, .int x4, .int x5, .null, .null, .null] [] (wM a ι S) := by
  obtain ⟨F, hnL⟩ := F
  unfold n_layBest_142 at h
  refine gx_iconst0 C dX8_layBest_142 ?_
  refine gx_istore C dX8_layBest_143 (by rw [hnL]; decide) trivial ?_
  refine gx_weak (gx_le_k rfl (gx_le_k rfl (gx_le_n (gx_le_k rfl (gx_le_k rfl (gx_le_k rfl (gx_le_k rfl (gx_le_n (gx_le_n gx_le_0))))))))) (gi_loop (P := fun t => gx_G Γ 0 0 145 [.ref (a 0), .int x1, .null, .int x3, .int x4, .int x5, .int t.1, .null, .null] [] (wM a ι t.2)) (fun kk t hk h => ?_) 5000 _ h)
  obtain ⟨x69, S'9⟩ := t
  exact bn_layBest_145 hx C ⟨F, hnL⟩ (k145 := kk) (fun x68 S'8 h => hk (x68, S'8) h) h
def n_layBest_99 (x1 : Int32) (x2 : Int32) (x3 : Int32) (x5 : Int32) (S : gx_S) (t : Int32 × Int32) (k99 : Int32 × Int32 → Option (gx_S)) : Option (gx_S) := match t with
  | (x4, x6) => if x2 ≤ x6 then n_layBest_142 x1 x3 x4 x5 S else gx_ck 6 x1 (if (S 1 x1.toNatClampNeg) = 2 then n_layBest_142 x1 x3 x4 x5 S else if x5 = 0 then n_layBest_131 k99 x1 x2 x3 x5 x6 x4 S else if x6 ≤ 0 then n_layBest_131 k99 x1 x2 x3 x5 x6 x4 S else n_layBest_133 k99 x1 x2 x3 x5 x6 x4 1 S)
set_option maxRecDepth 20000 in
set_option maxHeartbeats 1000000 in
theorem bn_layBest_99 {Γ : gx_T} {ι : Nat → ClassId} {a : Nat → Nat} {out : gx_S} (hx : gx_std vwCl (gty ι) (gx_cl Γ) (gx_ty Γ)) (C : gx_ok Γ cX8_layBest RX8 gx_U 5) (F : gx_finV Γ ((Option.none : Option Jvm.ClassFile.FieldType)) (wM a ι) out ∧ gx_nL Γ = 9) {k99 : Int32 × Int32 → Option (gx_S)} {x1 : Int32} {x2 : Int32} {x3 : Int32} {x5 : Int32} {x4 : Int32} {x6 : Int32} {S : gx_S} (hk99 : ∀ (x47 : Int32) (x67 : Int32), k99 (x47, x67) = some out → gx_G Γ 0 0 99 [.ref (a 0), .int x1, .int x2, .int x3, .int x47, .int x5, .int x67, .null, .null] [] (wM a ι S)) (h : n_layBest_99 x1 x2 x3 x5 S (x4, x6) k99 = some out) : gx_G Γ 0 0 99 [.ref (a 0), .int x1, .int x2, .int x3, .int x4, .int x5, .int x6, .null, .null] [] (wM a ι S) := by
  obtain ⟨F, hnL⟩ := F
  unfold n_layBest_99 at h
  dsimp only at h
  refine gx_iload C dX8_layBest_99 rfl ?_
  refine gx_iload_2 C dX8_layBest_101 rfl ?_
  refine gx_icmp_ge (tgt := 142) C dX8_layBest_102 (by decide) (fun hc5 => ?_) (fun hc5 => ?_)
  · have h := gi_t hc5 h
    exact gx_weak (gx_le_k rfl (gx_le_k rfl (gx_le_n (gx_le_k rfl (gx_le_k rfl (gx_le_k rfl (gx_le_n (gx_le_n (gx_le_n gx_le_0))))))))) (bn_layBest_142 hx C ⟨F, hnL⟩ h)
  · have h := gi_f hc5 h
    refine gx_aload_0 C dX8_layBest_105 rfl ?_
    refine gs_getf (q := 0) C fl_X8_7 (cls_X8 hx) lt_M_Model (oc_M_Model a ι _) rfl dX8_layBest_106 ?_
    refine gx_iload_1 C dX8_layBest_109 rfl ?_
    obtain ⟨hi1, h⟩ := gi_ck h
    refine gs_iald (q := 1) C (ac_M_M_kindOf hx a) lt_M_M_kindOf hi1 dX8_layBest_110 ?_
    refine gx_iconst2 C dX8_layBest_111 ?_
    refine gx_icmp_eq (tgt := 142) C dX8_layBest_112 (by decide) (fun hc4 => ?_) (fun hc4 => ?_)
    · have h := gi_t hc4 h
      exact gx_weak (gx_le_k rfl (gx_le_k rfl (gx_le_n (gx_le_k rfl (gx_le_k rfl (gx_le_k rfl (gx_le_n (gx_le_n (gx_le_n gx_le_0))))))))) (bn_layBest_142 hx C ⟨F, hnL⟩ h)
    · have h := gi_f hc4 h
      refine gx_iload C dX8_layBest_115 rfl ?_
      refine gx_iload C dX8_layBest_117 rfl ?_
      refine gx_if_eq (tgt := 131) C dX8_layBest_119 (by decide) (fun hc3 => ?_) (fun hc3 => ?_)
      · have h := gi_t hc3 h
        exact gx_weak (gx_le_k rfl (gx_le_k rfl (gx_le_k rfl (gx_le_k rfl (gx_le_n (gx_le_k rfl (gx_le_k rfl (gx_le_n (gx_le_n gx_le_0))))))))) (bn_layBest_131 hx C ⟨F, hnL⟩ hk99 h)
      · have h := gi_f hc3 h
        refine gx_iload C dX8_layBest_122 rfl ?_
        refine gx_if_le (tgt := 131) C dX8_layBest_124 (by decide) (fun hc2 => ?_) (fun hc2 => ?_)
        · have h := gi_t hc2 h
          exact gx_weak (gx_le_k rfl (gx_le_k rfl (gx_le_k rfl (gx_le_k rfl (gx_le_n (gx_le_k rfl (gx_le_k rfl (gx_le_n (gx_le_n gx_le_0))))))))) (bn_layBest_131 hx C ⟨F, hnL⟩ hk99 h)
        · have h := gi_f hc2 h
          refine gx_iconst1 C dX8_layBest_127 ?_
          refine gx_goto (tgt := 133) C dX8_layBest_128 (by decide) ?_
          exact gx_weak (gx_le_k rfl (gx_le_k rfl (gx_le_k rfl (gx_le_k rfl (gx_le_n (gx_le_k rfl (gx_le_k rfl (gx_le_n (gx_le_n gx_le_0))))))))) (bn_layBest_133 hx C ⟨F, hnL⟩ hk99 h)
def n_layBest_94 (x1 : Int32) (x2 : Int32) (x3 : Int32) (x4 : Int32) (s0 : Int32) (S : gx_S) : Option (gx_S) := gx_loop (n_layBest_99 x1 x2 x3 s0 S) 5000 (x4, 0)
set_option maxRecDepth 20000 in
set_option maxHeartbeats 1000000 in
theorem bn_layBest_94 {Γ : gx_T} {ι : Nat → ClassId} {a : Nat → Nat} {out : gx_S} (hx : gx_std vwCl (gty ι) (gx_cl Γ) (gx_ty Γ)) (C : gx_ok Γ cX8_layBest RX8 gx_U 5) (F : gx_finV Γ ((Option.none : Option Jvm.ClassFile.FieldType)) (wM a ι) out ∧ gx_nL Γ = 9) {x1 : Int32} {x2 : Int32} {x3 : Int32} {x4 : Int32} {s0 : Int32} {S : gx_S} (h : n_layBest_94 x1 x2 x3 x4 s0 S = some out) : gx_G Γ 0 0 94 [.ref (a 0), .int x1, .int x2, .int x3, .int x4, .null, .null, .null, .null] [.int s0] (wM a ι S) := by
  obtain ⟨F, hnL⟩ := F
  unfold n_layBest_94 at h
  refine gx_istore C dX8_layBest_94 (by rw [hnL]; decide) trivial ?_
  refine gx_iconst0 C dX8_layBest_96 ?_
  refine gx_istore C dX8_layBest_97 (by rw [hnL]; decide) trivial ?_
  refine gx_weak (gx_le_k rfl (gx_le_k rfl (gx_le_k rfl (gx_le_k rfl (gx_le_k rfl (gx_le_k rfl (gx_le_k rfl (gx_le_n (gx_le_n gx_le_0))))))))) (gi_loop (P := fun t => gx_G Γ 0 0 99 [.ref (a 0), .int x1, .int x2, .int x3, .int t.1, .int s0, .int t.2, .null, .null] [] (wM a ι S)) (fun kk t hk h => ?_) 5000 _ h)
  obtain ⟨x49, x69⟩ := t
  exact bn_layBest_99 hx C ⟨F, hnL⟩ (k99 := kk) (fun x48 x68 h => hk (x48, x68) h) h
def n_layBest_89 (x1 : Int32) (x2 : Int32) (x3 : Int32) (x4 : Int32) (S : gx_S) : Option (gx_S) := n_layBest_94 x1 x2 x3 x4 1 S
set_option maxRecDepth 20000 in
set_option maxHeartbeats 1000000 in
theorem bn_layBest_89 {Γ : gx_T} {ι : Nat → ClassId} {a : Nat → Nat} {out : gx_S} (hx : gx_std vwCl (gty ι) (gx_cl Γ) (gx_ty Γ)) (C : gx_ok Γ cX8_layBest RX8 gx_U 5) (F : gx_finV Γ ((Option.none : Option Jvm.ClassFile.FieldType)) (wM a ι) out ∧ gx_nL Γ = 9) {x1 : Int32} {x2 : Int32} {x3 : Int32} {x4 : Int32} {S : gx_S} (h : n_layBest_89 x1 x2 x3 x4 S = some out) : gx_G Γ 0 0 89 [.ref (a 0), .int x1, .int x2, .int x3, .int x4, .null, .null, .null, .null] [] (wM a ι S) := by
  obtain ⟨F, hnL⟩ := F
  unfold n_layBest_89 at h
  refine gx_iconst1 C dX8_layBest_89 ?_
  refine gx_goto (tgt := 94) C dX8_layBest_90 (by decide) ?_
  exact gx_weak (gx_le_k rfl (gx_le_k rfl (gx_le_k rfl (gx_le_k rfl (gx_le_k rfl (gx_le_n (gx_le_n (gx_le_n (gx_le_n gx_le_0))))))))) (bn_layBest_94 hx C ⟨F, hnL⟩ h)
def n_layBest_16 (x1 : Int32) (x2 : Int32) (x3 : Int32) (t : Int32 × gx_S) (k16 : Int32 × gx_S → Option (gx_S)) : Option (gx_S) := match t with
  | (x4, S) => if (S 0 4) ≤ x4 then gx_ck 6 x1 (gx_let (gx_st S 3 x1.toNatClampNeg (vp_nar .boolean 1)) fun S2 => if (S2 1 x1.toNatClampNeg) = 1 then n_layBest_89 x1 x2 x3 1 S2 else if (S2 1 x1.toNatClampNeg) = 4 then n_layBest_89 x1 x2 x3 1 S2 else n_layBest_94 x1 x2 x3 1 0 S2) else gx_ck 6 x4 (gx_let (gx_st S 17 x4.toNatClampNeg (S 7 x4.toNatClampNeg)) fun S7 => gx_let (gx_st S7 16 x4.toNatClampNeg (S7 7 x4.toNatClampNeg)) fun S9 => k16 ((x4 + 1), S9))
set_option maxRecDepth 20000 in
set_option maxHeartbeats 1000000 in
theorem bn_layBest_16 {Γ : gx_T} {ι : Nat → ClassId} {a : Nat → Nat} {out : gx_S} (hx : gx_std vwCl (gty ι) (gx_cl Γ) (gx_ty Γ)) (C : gx_ok Γ cX8_layBest RX8 gx_U 5) (F : gx_finV Γ ((Option.none : Option Jvm.ClassFile.FieldType)) (wM a ι) out ∧ gx_nL Γ = 9) {k16 : Int32 × gx_S → Option (gx_S)} {x1 : Int32} {x2 : Int32} {x3 : Int32} {x4 : Int32} {S : gx_S} (hk16 : ∀ (x47 : Int32) (S7 : gx_S), k16 (x47, S7) = some out → gx_G Γ 0 0 16 [.ref (a 0), .int x1, .int x2, .int x3, .int x47, .null, .null, .null, .null] [] (wM a ι S7)) (h : n_layBest_16 x1 x2 x3 (x4, S) k16 = some out) : gx_G Γ 0 0 16 [.ref (a 0), .int x1, .int x2, .int x3, .int x4, .null, .null, .null, .null] [] (wM a ι S) := by
  obtain ⟨F, hnL⟩ := F
  unfold n_layBest_16 at h
  dsimp only at h
  refine gx_iload C dX8_layBest_16 rfl ?_
  refine gx_aload_0 C dX8_layBest_18 rfl ?_
  refine gs_getf (q := 0) C fl_X8_98 (cls_X8 hx) lt_M_Model (oc_M_Model a ι _) rfl dX8_layBest_19 ?_
  refine gx_icmp_ge (tgt := 59) C dX8_layBest_22 (by decide) (fun hc11 => ?_) (fun hc11 => ?_)
  · have h := gi_t hc11 h
    refine gx_aload_0 C dX8_layBest_59 rfl ?_
    refine gs_getf (q := 0) C fl_X8_16 (cls_X8 hx) lt_M_Model (oc_M_Model a ι _) rfl dX8_layBest_60 ?_
    refine gx_iload_1 C dX8_layBest_63 rfl ?_
    refine gx_iconst1 C dX8_layBest_64 ?_
    obtain ⟨hi1, h⟩ := gi_ck h
    obtain ⟨S2, e3, h⟩ := gi_let h
    refine gs_zast (q := 3) C (ac_M_M_isIn hx a) lt_M_M_isIn hi1 e3 dX8_layBest_65 ?_
    refine gx_iconst1 C dX8_layBest_66 ?_
    refine gx_istore C dX8_layBest_67 (by rw [hnL]; decide) trivial ?_
    refine gx_aload_0 C dX8_layBest_69 rfl ?_
    refine gs_getf (q := 0) C fl_X8_7 (cls_X8 hx) lt_M_Model (oc_M_Model a ι _) rfl dX8_layBest_70 ?_
    refine gx_iload_1 C dX8_layBest_73 rfl ?_
    refine gs_iald (q := 1) C (ac_M_M_kindOf hx a) lt_M_M_kindOf hi1 dX8_layBest_74 ?_
    refine gx_iconst1 C dX8_layBest_75 ?_
    refine gx_icmp_eq (tgt := 89) C dX8_layBest_76 (by decide) (fun hc5 => ?_) (fun hc5 => ?_)
    · have h := gi_t hc5 h
      exact gx_weak (gx_le_k rfl (gx_le_k rfl (gx_le_k rfl (gx_le_k rfl (gx_le_k rfl (gx_le_n (gx_le_n (gx_le_n (gx_le_n gx_le_0))))))))) (bn_layBest_89 hx C ⟨F, hnL⟩ h)
    · have h := gi_f hc5 h
      refine gx_aload_0 C dX8_layBest_79 rfl ?_
      refine gs_getf (q := 0) C fl_X8_7 (cls_X8 hx) lt_M_Model (oc_M_Model a ι _) rfl dX8_layBest_80 ?_
      refine gx_iload_1 C dX8_layBest_83 rfl ?_
      refine gs_iald (q := 1) C (ac_M_M_kindOf hx a) lt_M_M_kindOf hi1 dX8_layBest_84 ?_
      refine gx_iconst4 C dX8_layBest_85 ?_
      refine gx_icmp_ne (tgt := 93) C dX8_layBest_86 (by decide) (fun hc4 => ?_) (fun hc4 => ?_)
      · have h := gi_f hc4 h
        refine gx_iconst0 C dX8_layBest_93 ?_
        exact gx_weak (gx_le_k rfl (gx_le_k rfl (gx_le_k rfl (gx_le_k rfl (gx_le_k rfl (gx_le_n (gx_le_n (gx_le_n (gx_le_n gx_le_0))))))))) (bn_layBest_94 hx C ⟨F, hnL⟩ h)
      · have h := gi_t hc4 h
        exact gx_weak (gx_le_k rfl (gx_le_k rfl (gx_le_k rfl (gx_le_k rfl (gx_le_k rfl (gx_le_n (gx_le_n (gx_le_n (gx_le_n gx_le_0))))))))) (bn_layBest_89 hx C ⟨F, hnL⟩ h)
  · have h := gi_f hc11 h
    refine gx_aload_0 C dX8_layBest_25 rfl ?_
    refine gs_getf (q := 0) C fl_X8_64 (cls_X8 hx) lt_M_Model (oc_M_Model a ι _) rfl dX8_layBest_26 ?_
    refine gx_iload C dX8_layBest_29 rfl ?_
    refine gx_aload_0 C dX8_layBest_31 rfl ?_
    refine gs_getf (q := 0) C fl_X8_29 (cls_X8 hx) lt_M_Model (oc_M_Model a ι _) rfl dX8_layBest_32 ?_
    refine gx_iload C dX8_layBest_35 rfl ?_
    obtain ⟨hi6, h⟩ := gi_ck h
    refine gs_iald (q := 7) C (ac_M_M_priceOf hx a) lt_M_M_priceOf hi6 dX8_layBest_37 ?_
    obtain ⟨S7, e8, h⟩ := gi_let h
    refine gs_iast (q := 17) C (ac_M_M_tried hx a) lt_M_M_tried hi6 e8 dX8_layBest_38 ?_
    refine gx_aload_0 C dX8_layBest_39 rfl ?_
    refine gs_getf (q := 0) C fl_X8_61 (cls_X8 hx) lt_M_Model (oc_M_Model a ι _) rfl dX8_layBest_40 ?_
    refine gx_iload C dX8_layBest_43 rfl ?_
    refine gx_aload_0 C dX8_layBest_45 rfl ?_
    refine gs_getf (q := 0) C fl_X8_29 (cls_X8 hx) lt_M_Model (oc_M_Model a ι _) rfl dX8_layBest_46 ?_
    refine gx_iload C dX8_layBest_49 rfl ?_
    refine gs_iald (q := 7) C (ac_M_M_priceOf hx a) lt_M_M_priceOf hi6 dX8_layBest_51 ?_
    obtain ⟨S9, e10, h⟩ := gi_let h
    refine gs_iast (q := 16) C (ac_M_M_bestPrice hx a) lt_M_M_bestPrice hi6 e10 dX8_layBest_52 ?_
    refine gx_iinc1 C dX8_layBest_53 rfl (by rw [hnL]; decide) trivial ?_
    refine gx_goto (tgt := 16) C dX8_layBest_56 (by decide) ?_
    exact gx_weak (gx_le_k rfl (gx_le_k rfl (gx_le_k rfl (gx_le_k rfl (gx_le_k rfl (gx_le_n (gx_le_n (gx_le_n (gx_le_n gx_le_0))))))))) (hk16 _ _ h)
def n_layBest (x1 : Int32) (S : gx_S) : Option (gx_S) := gx_cp (n_shopsOf x1 S) fun v2 => gx_ck 6 x1 (gx_loop (n_layBest_16 x1 v2 (S 3 x1.toNatClampNeg)) 5000 (0, S))
set_option maxRecDepth 20000 in
set_option maxHeartbeats 1000000 in
theorem cn_layBest (l : Launch) (D : va_G) {cl : List vw_C} {tys : List (ClassId × FieldType)} {ι : Nat → ClassId} (hx : gx_std vwCl (gty ι) cl tys) (a : Nat → Nat) (x1 : Int32) (S : gx_S) {out : gx_S} (h : n_layBest x1 S = some out) : gx_mV l D cl tys yX8_layBest (.code yX8_layBest cX8_layBest 9 ((Option.none : Option Jvm.ClassFile.FieldType)) :: gx_U) (gx_rm 5) [.ref (a 0), .int x1] (wM a ι S) (wM a ι) out := by
  unfold n_layBest at h
  refine gx_startV (V := [.ref (a 0), .int x1, .null, .null, .null, .null, .null, .null, .null]) 7 (by decide +kernel) (Nat.le_of_ble_eq_true rfl) rfl (fun Γ hl hD hcl hty hnL C F => ?_)
  subst hl; subst hD; subst hcl; subst hty
  refine gx_aload_0 C dX8_layBest_0 rfl ?_
  refine gx_iload_1 C dX8_layBest_1 rfl ?_
  obtain ⟨v2, e1, h⟩ := gi_cp h
  refine gc_IV C (cn_shopsOf (gx_l Γ) (gx_D Γ) hx a _ _ e1) (gx_cw C gx_uu lk_X8_108 (by decide) (by decide)) (cls_X8 hx).1 (gs_recv (q := 0) lt_M_Model (oc_M_Model a ι _)) rfl rfl (Nat.le_of_ble_eq_true rfl) ⟨Nat.zero_le _, Nat.zero_le _⟩ dX8_layBest_2 ?_
  refine gx_istore_2 C dX8_layBest_5 (by rw [hnL]; decide) trivial ?_
  refine gx_aload_0 C dX8_layBest_6 rfl ?_
  refine gs_getf (q := 0) C fl_X8_16 (cls_X8 hx) lt_M_Model (oc_M_Model a ι _) rfl dX8_layBest_7 ?_
  refine gx_iload_1 C dX8_layBest_10 rfl ?_
  obtain ⟨hi3, h⟩ := gi_ck h
  refine gs_zald (q := 3) C (ac_M_M_isIn hx a) lt_M_M_isIn hi3 dX8_layBest_11 ?_
  refine gx_istore_3 C dX8_layBest_12 (by rw [hnL]; decide) trivial ?_
  refine gx_iconst0 C dX8_layBest_13 ?_
  refine gx_istore C dX8_layBest_14 (by rw [hnL]; decide) trivial ?_
  refine gx_weak (gx_le_k rfl (gx_le_k rfl (gx_le_k rfl (gx_le_k rfl (gx_le_k rfl (gx_le_n (gx_le_n (gx_le_n (gx_le_n gx_le_0))))))))) (gi_loop (P := fun t => gx_G Γ 0 0 16 [.ref (a 0), .int x1, .int v2, .int (S 3 x1.toNatClampNeg), .int t.1, .null, .null, .null, .null] [] (wM a ι t.2)) (fun kk t hk h => ?_) 5000 _ h)
  obtain ⟨x49, S'9⟩ := t
  exact bn_layBest_16 hx C ⟨F, hnL⟩ (k16 := kk) (fun x48 S'8 h => hk (x48, S'8) h) h
def n_best_65 (S : gx_S) : Option (Int32 × gx_S) := some (1, S)
set_option maxRecDepth 20000 in
set_option maxHeartbeats 1000000 in
theorem bn_best_65 {Γ : gx_T} {ι : Nat → ClassId} {a : Nat → Nat} {out : Int32 × gx_S} (hx : gx_std vwCl (gty ι) (gx_cl Γ) (gx_ty Γ)) (C : gx_ok Γ cX8_best RX8 gx_U 6) (F : gx_finI Γ ((Option.some Jvm.ClassFile.FieldType.int)) (wM a ι) out ∧ gx_nL Γ = 4) {S : gx_S} (h : n_best_65 S = some out) : gx_G Γ 0 0 65 [.ref (a 0), .null, .null, .null] [] (wM a ι S) := by
  obtain ⟨F, hnL⟩ := F
  unfold n_best_65 at h
  refine gx_iconst1 C dX8_best_65 ?_
  refine gx_goto (tgt := 70) C dX8_best_66 (by decide) ?_
  exact gx_iret C F rfl dX8_best_70 (Option.some.inj h)
def n_best (x1 : Int32) (x2 : Int32) (S : gx_S) : Option (Int32 × gx_S) := gx_cp (n_isShop x1 S) fun v2 => if v2 = 0 then some ((-101), S) else gx_cp (n_within x2 0 1 S) fun v4 => if v4 = 0 then some ((-102), S) else gx_ck 6 x1 (gx_cp (n_layBest (S 4 x1.toNatClampNeg) S) fun S7 => if x2 = 0 then some (S7 16 x1.toNatClampNeg, S7) else gx_ck 6 (S 4 x1.toNatClampNeg) (if (S7 1 (S 4 x1.toNatClampNeg).toNatClampNeg) = 4 then if (S7 0 26) = 0 then some (0, S7) else n_best_65 S7 else n_best_65 S7))
set_option maxRecDepth 20000 in
set_option maxHeartbeats 1000000 in
theorem cn_best (l : Launch) (D : va_G) {cl : List vw_C} {tys : List (ClassId × FieldType)} {ι : Nat → ClassId} (hx : gx_std vwCl (gty ι) cl tys) (a : Nat → Nat) (x1 : Int32) (x2 : Int32) (S : gx_S) {out : Int32 × gx_S} (h : n_best x1 x2 S = some out) : gx_mI l D cl tys yX8_best (.code yX8_best cX8_best 4 ((Option.some Jvm.ClassFile.FieldType.int)) :: gx_U) (gx_rm 6) [.ref (a 0), .int x1, .int x2] (wM a ι S) (wM a ι) out := by
  unfold n_best at h
  refine gx_startI (V := [.ref (a 0), .int x1, .int x2, .null]) 1 (by decide +kernel) (Nat.le_of_ble_eq_true rfl) rfl (fun Γ hl hD hcl hty hnL C F => ?_)
  subst hl; subst hD; subst hcl; subst hty
  refine gx_aload_0 C dX8_best_0 rfl ?_
  refine gx_iload_1 C dX8_best_1 rfl ?_
  obtain ⟨v2, e1, h⟩ := gi_cp h
  refine gc_IV C (cn_isShop (gx_l Γ) (gx_D Γ) hx a _ _ e1) (gx_cw C gx_uu lk_X8_132 (by decide) (by decide)) (cls_X8 hx).1 (gs_recv (q := 0) lt_M_Model (oc_M_Model a ι _)) rfl rfl (Nat.le_of_ble_eq_true rfl) ⟨Nat.zero_le _, Nat.zero_le _⟩ dX8_best_2 ?_
  refine gx_if_ne (tgt := 11) C dX8_best_5 (by decide) (fun hc13 => ?_) (fun hc13 => ?_)
  · have h := gi_f hc13 h
    refine gx_iload_2 C dX8_best_11 rfl ?_
    refine gx_iconst0 C dX8_best_12 ?_
    refine gx_iconst1 C dX8_best_13 ?_
    obtain ⟨v4, e3, h⟩ := gi_cp h
    refine gc_IS C (cn_within (gx_l Γ) (gx_D Γ) hx a _ _ _ _ e3) (gx_cwS C gx_uu lk_X8_94 (by decide) (by decide)) rfl rfl (Nat.le_of_ble_eq_true rfl) ⟨Nat.zero_le _, Nat.zero_le _⟩ dX8_best_14 ?_
    refine gx_if_ne (tgt := 23) C dX8_best_17 (by decide) (fun hc12 => ?_) (fun hc12 => ?_)
    · have h := gi_f hc12 h
      refine gx_aload_0 C dX8_best_23 rfl ?_
      refine gs_getf (q := 0) C fl_X8_20 (cls_X8 hx) lt_M_Model (oc_M_Model a ι _) rfl dX8_best_24 ?_
      refine gx_iload_1 C dX8_best_27 rfl ?_
      obtain ⟨hi5, h⟩ := gi_ck h
      refine gs_iald (q := 4) C (ac_M_M_ownerOf hx a) lt_M_M_ownerOf hi5 dX8_best_28 ?_
      refine gx_istore_3 C dX8_best_29 (by rw [hnL]; decide) trivial ?_
      refine gx_aload_0 C dX8_best_30 rfl ?_
      refine gx_iload_3 C dX8_best_31 rfl ?_
      obtain ⟨S7, e6, h⟩ := gi_cp h
      refine gc_VV C (cn_layBest (gx_l Γ) (gx_D Γ) hx a _ _ e6) (gx_cw C gx_uu lk_X8_159 (by decide) (by decide)) (cls_X8 hx).1 (gs_recv (q := 0) lt_M_Model (oc_M_Model a ι _)) rfl rfl (Nat.le_of_ble_eq_true rfl) ⟨Nat.zero_le _, Nat.zero_le _⟩ dX8_best_32 ?_
      refine gx_iload_2 C dX8_best_35 rfl ?_
      refine gx_if_ne (tgt := 48) C dX8_best_36 (by decide) (fun hc11 => ?_) (fun hc11 => ?_)
      · have h := gi_f hc11 h
        refine gx_aload_0 C dX8_best_48 rfl ?_
        refine gs_getf (q := 0) C fl_X8_7 (cls_X8 hx) lt_M_Model (oc_M_Model a ι _) rfl dX8_best_49 ?_
        refine gx_iload_3 C dX8_best_52 rfl ?_
        obtain ⟨hi8, h⟩ := gi_ck h
        refine gs_iald (q := 1) C (ac_M_M_kindOf hx a) lt_M_M_kindOf hi8 dX8_best_53 ?_
        refine gx_iconst4 C dX8_best_54 ?_
        refine gx_icmp_ne (tgt := 65) C dX8_best_55 (by decide) (fun hc10 => ?_) (fun hc10 => ?_)
        · have h := gi_f hc10 h
          exact gx_weak (gx_le_k rfl (gx_le_n (gx_le_n (gx_le_n gx_le_0)))) (bn_best_65 hx C ⟨F, hnL⟩ h)
        · have h := gi_t hc10 h
          refine gx_aload_0 C dX8_best_58 rfl ?_
          refine gs_getf (q := 0) C fl_X8_155 (cls_X8 hx) lt_M_Model (oc_M_Model a ι _) rfl dX8_best_59 ?_
          refine gx_if_eq (tgt := 69) C dX8_best_62 (by decide) (fun hc9 => ?_) (fun hc9 => ?_)
          · have h := gi_t hc9 h
            refine gx_iconst0 C dX8_best_69 ?_
            exact gx_iret C F rfl dX8_best_70 (Option.some.inj h)
          · have h := gi_f hc9 h
            exact gx_weak (gx_le_k rfl (gx_le_n (gx_le_n (gx_le_n gx_le_0)))) (bn_best_65 hx C ⟨F, hnL⟩ h)
      · have h := gi_t hc11 h
        refine gx_aload_0 C dX8_best_39 rfl ?_
        refine gs_getf (q := 0) C fl_X8_61 (cls_X8 hx) lt_M_Model (oc_M_Model a ι _) rfl dX8_best_40 ?_
        refine gx_iload_1 C dX8_best_43 rfl ?_
        refine gs_iald (q := 16) C (ac_M_M_bestPrice hx a) lt_M_M_bestPrice hi5 dX8_best_44 ?_
        refine gx_goto (tgt := 70) C dX8_best_45 (by decide) ?_
        exact gx_iret C F rfl dX8_best_70 (Option.some.inj h)
    · have h := gi_t hc12 h
      refine gx_bipush (v := (-102)) C dX8_best_20 (by decide) ?_
      exact gx_iret C F rfl dX8_best_22 (Option.some.inj h)
  · have h := gi_t hc13 h
    refine gx_bipush (v := (-101)) C dX8_best_8 (by decide) ?_
    exact gx_iret C F rfl dX8_best_10 (Option.some.inj h)
def n_turnOf_38 (k9 : Int32 × Int32 × gx_S → Option (Int32 × gx_S)) (x1 : Int32) (x3 : Int32) (s0 : Int32) (s1 : Int32) (S : gx_S) : Option (Int32 × gx_S) := gx_ck 6 x3 (gx_let (gx_st S 7 x3.toNatClampNeg (S 16 x3.toNatClampNeg)) fun S2 => k9 ((s0 + s1), (x3 + 1), S2))
set_option maxRecDepth 20000 in
set_option maxHeartbeats 1000000 in
theorem bn_turnOf_38 {Γ : gx_T} {ι : Nat → ClassId} {a : Nat → Nat} {out : Int32 × gx_S} (hx : gx_std vwCl (gty ι) (gx_cl Γ) (gx_ty Γ)) (C : gx_ok Γ cX8_turnOf RX8 gx_U 6) (F : gx_finI Γ ((Option.some Jvm.ClassFile.FieldType.int)) (wM a ι) out ∧ gx_nL Γ = 4) {k9 : Int32 × Int32 × gx_S → Option (Int32 × gx_S)} {x1 : Int32} {x3 : Int32} {s0 : Int32} {s1 : Int32} {S : gx_S} (hk9 : ∀ (x27 : Int32) (x37 : Int32) (S7 : gx_S), k9 (x27, x37, S7) = some out → gx_G Γ 0 0 9 [.ref (a 0), .int x1, .int x27, .int x37] [] (wM a ι S7)) (h : n_turnOf_38 k9 x1 x3 s0 s1 S = some out) : gx_G Γ 0 0 38 [.ref (a 0), .int x1, .null, .int x3] [.int s1, .int s0] (wM a ι S) := by
  obtain ⟨F, hnL⟩ := F
  unfold n_turnOf_38 at h
  refine gx_iadd C dX8_turnOf_38 ?_
  refine gx_istore_2 C dX8_turnOf_39 (by rw [hnL]; decide) trivial ?_
  refine gx_aload_0 C dX8_turnOf_40 rfl ?_
  refine gs_getf (q := 0) C fl_X8_29 (cls_X8 hx) lt_M_Model (oc_M_Model a ι _) rfl dX8_turnOf_41 ?_
  refine gx_iload_3 C dX8_turnOf_44 rfl ?_
  refine gx_aload_0 C dX8_turnOf_45 rfl ?_
  refine gs_getf (q := 0) C fl_X8_61 (cls_X8 hx) lt_M_Model (oc_M_Model a ι _) rfl dX8_turnOf_46 ?_
  refine gx_iload_3 C dX8_turnOf_49 rfl ?_
  obtain ⟨hi1, h⟩ := gi_ck h
  refine gs_iald (q := 16) C (ac_M_M_bestPrice hx a) lt_M_M_bestPrice hi1 dX8_turnOf_50 ?_
  obtain ⟨S2, e3, h⟩ := gi_let h
  refine gs_iast (q := 7) C (ac_M_M_priceOf hx a) lt_M_M_priceOf hi1 e3 dX8_turnOf_51 ?_
  refine gx_iinc1 C dX8_turnOf_52 rfl (by rw [hnL]; decide) trivial ?_
  refine gx_goto (tgt := 9) C dX8_turnOf_55 (by decide) ?_
  exact gx_weak (gx_le_k rfl (gx_le_k rfl (gx_le_k rfl (gx_le_k rfl gx_le_0)))) (hk9 _ _ _ h)
def n_turnOf_115 (x2 : Int32) (s1 : Int32) (S : gx_S) : Option (Int32 × gx_S) := gx_ck 6 s1 (gx_let (gx_st S 3 s1.toNatClampNeg (vp_nar .boolean 0)) fun S2 => some (x2, S2))
set_option maxRecDepth 20000 in
set_option maxHeartbeats 1000000 in
theorem bn_turnOf_115 {Γ : gx_T} {ι : Nat → ClassId} {a : Nat → Nat} {out : Int32 × gx_S} (hx : gx_std vwCl (gty ι) (gx_cl Γ) (gx_ty Γ)) (C : gx_ok Γ cX8_turnOf RX8 gx_U 6) (F : gx_finI Γ ((Option.some Jvm.ClassFile.FieldType.int)) (wM a ι) out ∧ gx_nL Γ = 4) {x2 : Int32} {s1 : Int32} {S : gx_S} (h : n_turnOf_115 x2 s1 S = some out) : gx_G Γ 0 0 115 [.ref (a 0), .null, .int x2, .null] [.int s1, .ref (a 3)] (wM a ι S) := by
  obtain ⟨F, hnL⟩ := F
  unfold n_turnOf_115 at h
  refine gx_iconst0 C dX8_turnOf_115 ?_
  obtain ⟨hi1, h⟩ := gi_ck h
  obtain ⟨S2, e3, h⟩ := gi_let h
  refine gs_zast (q := 3) C (ac_M_M_isIn hx a) lt_M_M_isIn hi1 e3 dX8_turnOf_116 ?_
  refine gx_iload_2 C dX8_turnOf_117 rfl ?_
  exact gx_iret C F rfl dX8_turnOf_118 (Option.some.inj h)
def n_turnOf_87 (x1 : Int32) (s0 : Int32) (s1 : Int32) (S : gx_S) : Option (Int32 × gx_S) := gx_ck 6 x1 (if (S 1 x1.toNatClampNeg) = 4 then if (S 0 26) = 0 then n_turnOf_115 (s0 + s1) x1 S else gx_let (gx_st S 3 x1.toNatClampNeg (vp_nar .boolean 1)) fun S2 => some (s0 + s1, S2) else n_turnOf_115 (s0 + s1) x1 S)
set_option maxRecDepth 20000 in
set_option maxHeartbeats 1000000 in
theorem bn_turnOf_87 {Γ : gx_T} {ι : Nat → ClassId} {a : Nat → Nat} {out : Int32 × gx_S} (hx : gx_std vwCl (gty ι) (gx_cl Γ) (gx_ty Γ)) (C : gx_ok Γ cX8_turnOf RX8 gx_U 6) (F : gx_finI Γ ((Option.some Jvm.ClassFile.FieldType.int)) (wM a ι) out ∧ gx_nL Γ = 4) {x1 : Int32} {s0 : Int32} {s1 : Int32} {S : gx_S} (h : n_turnOf_87 x1 s0 s1 S = some out) : gx_G Γ 0 0 87 [.ref (a 0), .int x1, .null, .null] [.int s1, .int s0] (wM a ι S) := by
  obtain ⟨F, hnL⟩ := F
  unfold n_turnOf_87 at h
  refine gx_iadd C dX8_turnOf_87 ?_
  refine gx_istore_2 C dX8_turnOf_88 (by rw [hnL]; decide) trivial ?_
  refine gx_aload_0 C dX8_turnOf_89 rfl ?_
  refine gs_getf (q := 0) C fl_X8_16 (cls_X8 hx) lt_M_Model (oc_M_Model a ι _) rfl dX8_turnOf_90 ?_
  refine gx_iload_1 C dX8_turnOf_93 rfl ?_
  refine gx_aload_0 C dX8_turnOf_94 rfl ?_
  refine gs_getf (q := 0) C fl_X8_7 (cls_X8 hx) lt_M_Model (oc_M_Model a ι _) rfl dX8_turnOf_95 ?_
  refine gx_iload_1 C dX8_turnOf_98 rfl ?_
  obtain ⟨hi1, h⟩ := gi_ck h
  refine gs_iald (q := 1) C (ac_M_M_kindOf hx a) lt_M_M_kindOf hi1 dX8_turnOf_99 ?_
  refine gx_iconst4 C dX8_turnOf_100 ?_
  refine gx_icmp_ne (tgt := 115) C dX8_turnOf_101 (by decide) (fun hc5 => ?_) (fun hc5 => ?_)
  · have h := gi_f hc5 h
    exact gx_weak (gx_le_k rfl (gx_le_n (gx_le_k rfl (gx_le_n gx_le_0)))) (bn_turnOf_115 hx C ⟨F, hnL⟩ h)
  · have h := gi_t hc5 h
    refine gx_aload_0 C dX8_turnOf_104 rfl ?_
    refine gs_getf (q := 0) C fl_X8_155 (cls_X8 hx) lt_M_Model (oc_M_Model a ι _) rfl dX8_turnOf_105 ?_
    refine gx_if_eq (tgt := 115) C dX8_turnOf_108 (by decide) (fun hc4 => ?_) (fun hc4 => ?_)
    · have h := gi_t hc4 h
      exact gx_weak (gx_le_k rfl (gx_le_n (gx_le_k rfl (gx_le_n gx_le_0)))) (bn_turnOf_115 hx C ⟨F, hnL⟩ h)
    · have h := gi_f hc4 h
      refine gx_iconst1 C dX8_turnOf_111 ?_
      refine gx_goto (tgt := 116) C dX8_turnOf_112 (by decide) ?_
      obtain ⟨S2, e3, h⟩ := gi_let h
      refine gs_zast (q := 3) C (ac_M_M_isIn hx a) lt_M_M_isIn hi1 e3 dX8_turnOf_116 ?_
      refine gx_iload_2 C dX8_turnOf_117 rfl ?_
      exact gx_iret C F rfl dX8_turnOf_118 (Option.some.inj h)
def n_turnOf_86 (x1 : Int32) (s0 : Int32) (S : gx_S) : Option (Int32 × gx_S) := n_turnOf_87 x1 s0 0 S
set_option maxRecDepth 20000 in
set_option maxHeartbeats 1000000 in
theorem bn_turnOf_86 {Γ : gx_T} {ι : Nat → ClassId} {a : Nat → Nat} {out : Int32 × gx_S} (hx : gx_std vwCl (gty ι) (gx_cl Γ) (gx_ty Γ)) (C : gx_ok Γ cX8_turnOf RX8 gx_U 6) (F : gx_finI Γ ((Option.some Jvm.ClassFile.FieldType.int)) (wM a ι) out ∧ gx_nL Γ = 4) {x1 : Int32} {s0 : Int32} {S : gx_S} (h : n_turnOf_86 x1 s0 S = some out) : gx_G Γ 0 0 86 [.ref (a 0), .int x1, .null, .null] [.int s0] (wM a ι S) := by
  obtain ⟨F, hnL⟩ := F
  unfold n_turnOf_86 at h
  refine gx_iconst0 C dX8_turnOf_86 ?_
  exact gx_weak (gx_le_k rfl (gx_le_k rfl (gx_le_n (gx_le_n gx_le_0)))) (bn_turnOf_87 hx C ⟨F, hnL⟩ h)
def n_turnOf_9 (x1 : Int32) (t : Int32 × Int32 × gx_S) (k9 : Int32 × Int32 × gx_S → Option (Int32 × gx_S)) : Option (Int32 × gx_S) := match t with
  | (x2, x3, S) => if (S 0 4) ≤ x3 then gx_ck 6 x1 (if (S 1 x1.toNatClampNeg) = 4 then if (S 3 x1.toNatClampNeg) = (S 0 26) then n_turnOf_86 x1 x2 S else n_turnOf_87 x1 x2 1 S else n_turnOf_86 x1 x2 S) else gx_ck 6 x3 (if (S 7 x3.toNatClampNeg) = (S 16 x3.toNatClampNeg) then n_turnOf_38 k9 x1 x3 x2 0 S else n_turnOf_38 k9 x1 x3 x2 1 S)
set_option maxRecDepth 20000 in
set_option maxHeartbeats 1000000 in
theorem bn_turnOf_9 {Γ : gx_T} {ι : Nat → ClassId} {a : Nat → Nat} {out : Int32 × gx_S} (hx : gx_std vwCl (gty ι) (gx_cl Γ) (gx_ty Γ)) (C : gx_ok Γ cX8_turnOf RX8 gx_U 6) (F : gx_finI Γ ((Option.some Jvm.ClassFile.FieldType.int)) (wM a ι) out ∧ gx_nL Γ = 4) {k9 : Int32 × Int32 × gx_S → Option (Int32 × gx_S)} {x1 : Int32} {x2 : Int32} {x3 : Int32} {S : gx_S} (hk9 : ∀ (x27 : Int32) (x37 : Int32) (S7 : gx_S), k9 (x27, x37, S7) = some out → gx_G Γ 0 0 9 [.ref (a 0), .int x1, .int x27, .int x37] [] (wM a ι S7)) (h : n_turnOf_9 x1 (x2, x3, S) k9 = some out) : gx_G Γ 0 0 9 [.ref (a 0), .int x1, .int x2, .int x3] [] (wM a ι S) := by
  obtain ⟨F, hnL⟩ := F
  unfold n_turnOf_9 at h
  dsimp only at h
  refine gx_iload_3 C dX8_turnOf_9 rfl ?_
  refine gx_aload_0 C dX8_turnOf_10 rfl ?_
  refine gs_getf (q := 0) C fl_X8_98 (cls_X8 hx) lt_M_Model (oc_M_Model a ι _) rfl dX8_turnOf_11 ?_
  refine gx_icmp_ge (tgt := 58) C dX8_turnOf_14 (by decide) (fun hc6 => ?_) (fun hc6 => ?_)
  · have h := gi_t hc6 h
    refine gx_iload_2 C dX8_turnOf_58 rfl ?_
    refine gx_aload_0 C dX8_turnOf_59 rfl ?_
    refine gs_getf (q := 0) C fl_X8_7 (cls_X8 hx) lt_M_Model (oc_M_Model a ι _) rfl dX8_turnOf_60 ?_
    refine gx_iload_1 C dX8_turnOf_63 rfl ?_
    obtain ⟨hi1, h⟩ := gi_ck h
    refine gs_iald (q := 1) C (ac_M_M_kindOf hx a) lt_M_M_kindOf hi1 dX8_turnOf_64 ?_
    refine gx_iconst4 C dX8_turnOf_65 ?_
    refine gx_icmp_ne (tgt := 86) C dX8_turnOf_66 (by decide) (fun hc3 => ?_) (fun hc3 => ?_)
    · have h := gi_f hc3 h
      exact gx_weak (gx_le_k rfl (gx_le_k rfl (gx_le_n (gx_le_n gx_le_0)))) (bn_turnOf_86 hx C ⟨F, hnL⟩ h)
    · have h := gi_t hc3 h
      refine gx_aload_0 C dX8_turnOf_69 rfl ?_
      refine gs_getf (q := 0) C fl_X8_16 (cls_X8 hx) lt_M_Model (oc_M_Model a ι _) rfl dX8_turnOf_70 ?_
      refine gx_iload_1 C dX8_turnOf_73 rfl ?_
      refine gs_zald (q := 3) C (ac_M_M_isIn hx a) lt_M_M_isIn hi1 dX8_turnOf_74 ?_
      refine gx_aload_0 C dX8_turnOf_75 rfl ?_
      refine gs_getf (q := 0) C fl_X8_155 (cls_X8 hx) lt_M_Model (oc_M_Model a ι _) rfl dX8_turnOf_76 ?_
      refine gx_icmp_eq (tgt := 86) C dX8_turnOf_79 (by decide) (fun hc2 => ?_) (fun hc2 => ?_)
      · have h := gi_t hc2 h
        exact gx_weak (gx_le_k rfl (gx_le_k rfl (gx_le_n (gx_le_n gx_le_0)))) (bn_turnOf_86 hx C ⟨F, hnL⟩ h)
      · have h := gi_f hc2 h
        refine gx_iconst1 C dX8_turnOf_82 ?_
        refine gx_goto (tgt := 87) C dX8_turnOf_83 (by decide) ?_
        exact gx_weak (gx_le_k rfl (gx_le_k rfl (gx_le_n (gx_le_n gx_le_0)))) (bn_turnOf_87 hx C ⟨F, hnL⟩ h)
  · have h := gi_f hc6 h
    refine gx_iload_2 C dX8_turnOf_17 rfl ?_
    refine gx_aload_0 C dX8_turnOf_18 rfl ?_
    refine gs_getf (q := 0) C fl_X8_29 (cls_X8 hx) lt_M_Model (oc_M_Model a ι _) rfl dX8_turnOf_19 ?_
    refine gx_iload_3 C dX8_turnOf_22 rfl ?_
    obtain ⟨hi4, h⟩ := gi_ck h
    refine gs_iald (q := 7) C (ac_M_M_priceOf hx a) lt_M_M_priceOf hi4 dX8_turnOf_23 ?_
    refine gx_aload_0 C dX8_turnOf_24 rfl ?_
    refine gs_getf (q := 0) C fl_X8_61 (cls_X8 hx) lt_M_Model (oc_M_Model a ι _) rfl dX8_turnOf_25 ?_
    refine gx_iload_3 C dX8_turnOf_28 rfl ?_
    refine gs_iald (q := 16) C (ac_M_M_bestPrice hx a) lt_M_M_bestPrice hi4 dX8_turnOf_29 ?_
    refine gx_icmp_ne (tgt := 37) C dX8_turnOf_30 (by decide) (fun hc5 => ?_) (fun hc5 => ?_)
    · have h := gi_f hc5 h
      refine gx_iconst1 C dX8_turnOf_37 ?_
      exact gx_weak (gx_le_k rfl (gx_le_k rfl (gx_le_n (gx_le_k rfl gx_le_0)))) (bn_turnOf_38 hx C ⟨F, hnL⟩ hk9 h)
    · have h := gi_t hc5 h
      refine gx_iconst0 C dX8_turnOf_33 ?_
      refine gx_goto (tgt := 38) C dX8_turnOf_34 (by decide) ?_
      exact gx_weak (gx_le_k rfl (gx_le_k rfl (gx_le_n (gx_le_k rfl gx_le_0)))) (bn_turnOf_38 hx C ⟨F, hnL⟩ hk9 h)
def n_turnOf (x1 : Int32) (S : gx_S) : Option (Int32 × gx_S) := gx_cp (n_layBest x1 S) fun S2 => gx_loop (n_turnOf_9 x1) 5000 (0, 0, S2)
set_option maxRecDepth 20000 in
set_option maxHeartbeats 1000000 in
theorem cn_turnOf (l : Launch) (D : va_G) {cl : List vw_C} {tys : List (ClassId × FieldType)} {ι : Nat → ClassId} (hx : gx_std vwCl (gty ι) cl tys) (a : Nat → Nat) (x1 : Int32) (S : gx_S) {out : Int32 × gx_S} (h : n_turnOf x1 S = some out) : gx_mI l D cl tys yX8_turnOf (.code yX8_turnOf cX8_turnOf 4 ((Option.some Jvm.ClassFile.FieldType.int)) :: gx_U) (gx_rm 6) [.ref (a 0), .int x1] (wM a ι S) (wM a ι) out := by
  unfold n_turnOf at h
  refine gx_startI (V := [.ref (a 0), .int x1, .null, .null]) 2 (by decide +kernel) (Nat.le_of_ble_eq_true rfl) rfl (fun Γ hl hD hcl hty hnL C F => ?_)
  subst hl; subst hD; subst hcl; subst hty
  refine gx_aload_0 C dX8_turnOf_0 rfl ?_
  refine gx_iload_1 C dX8_turnOf_1 rfl ?_
  obtain ⟨S2, e1, h⟩ := gi_cp h
  refine gc_VV C (cn_layBest (gx_l Γ) (gx_D Γ) hx a _ _ e1) (gx_cw C gx_uu lk_X8_159 (by decide) (by decide)) (cls_X8 hx).1 (gs_recv (q := 0) lt_M_Model (oc_M_Model a ι _)) rfl rfl (Nat.le_of_ble_eq_true rfl) ⟨Nat.zero_le _, Nat.zero_le _⟩ dX8_turnOf_2 ?_
  refine gx_iconst0 C dX8_turnOf_5 ?_
  refine gx_istore_2 C dX8_turnOf_6 (by rw [hnL]; decide) trivial ?_
  refine gx_iconst0 C dX8_turnOf_7 ?_
  refine gx_istore_3 C dX8_turnOf_8 (by rw [hnL]; decide) trivial ?_
  refine gx_weak (gx_le_k rfl (gx_le_k rfl (gx_le_k rfl (gx_le_k rfl gx_le_0)))) (gi_loop (P := fun t => gx_G Γ 0 0 9 [.ref (a 0), .int x1, .int t.1, .int t.2.1] [] (wM a ι t.2.2)) (fun kk t hk h => ?_) 5000 _ h)
  obtain ⟨x29, x39, S'9⟩ := t
  exact bn_turnOf_9 hx C ⟨F, hnL⟩ (k9 := kk) (fun x28 x38 S'8 h => hk (x28, x38, S'8) h) h
def n_turn (x1 : Int32) (S : gx_S) : Option (Int32 × gx_S) := gx_cp (n_isOwner x1 S) fun v2 => if v2 = 0 then some ((-101), S) else gx_cs (n_turnOf x1 S) fun v5 S4 => some (v5, S4)
set_option maxRecDepth 20000 in
set_option maxHeartbeats 1000000 in
theorem cn_turn (l : Launch) (D : va_G) {cl : List vw_C} {tys : List (ClassId × FieldType)} {ι : Nat → ClassId} (hx : gx_std vwCl (gty ι) cl tys) (a : Nat → Nat) (x1 : Int32) (S : gx_S) {out : Int32 × gx_S} (h : n_turn x1 S = some out) : gx_mI l D cl tys yX8_turn (.code yX8_turn cX8_turn 2 ((Option.some Jvm.ClassFile.FieldType.int)) :: gx_U) (gx_rm 7) [.ref (a 0), .int x1] (wM a ι S) (wM a ι) out := by
  unfold n_turn at h
  refine gx_startI (V := [.ref (a 0), .int x1]) 0 (by decide +kernel) (Nat.le_of_ble_eq_true rfl) rfl (fun Γ hl hD hcl hty hnL C F => ?_)
  subst hl; subst hD; subst hcl; subst hty
  refine gx_aload_0 C dX8_turn_0 rfl ?_
  refine gx_iload_1 C dX8_turn_1 rfl ?_
  obtain ⟨v2, e1, h⟩ := gi_cp h
  refine gc_IV C (cn_isOwner (gx_l Γ) (gx_D Γ) hx a _ _ e1) (gx_cw C gx_uu lk_X8_104 (by decide) (by decide)) (cls_X8 hx).1 (gs_recv (q := 0) lt_M_Model (oc_M_Model a ι _)) rfl rfl (Nat.le_of_ble_eq_true rfl) ⟨Nat.zero_le _, Nat.zero_le _⟩ dX8_turn_2 ?_
  refine gx_if_eq (tgt := 16) C dX8_turn_5 (by decide) (fun hc6 => ?_) (fun hc6 => ?_)
  · have h := gi_t hc6 h
    refine gx_bipush (v := (-101)) C dX8_turn_16 (by decide) ?_
    exact gx_iret C F rfl dX8_turn_18 (Option.some.inj h)
  · have h := gi_f hc6 h
    refine gx_aload_0 C dX8_turn_8 rfl ?_
    refine gx_iload_1 C dX8_turn_9 rfl ?_
    obtain ⟨v5, S4, e3, h⟩ := gi_cs h
    refine gc_IV C (cn_turnOf (gx_l Γ) (gx_D Γ) hx a _ _ e3) (gx_cw C gx_uu lk_X8_163 (by decide) (by decide)) (cls_X8 hx).1 (gs_recv (q := 0) lt_M_Model (oc_M_Model a ι _)) rfl rfl (Nat.le_of_ble_eq_true rfl) ⟨Nat.zero_le _, Nat.zero_le _⟩ dX8_turn_10 ?_
    refine gx_goto (tgt := 18) C dX8_turn_13 (by decide) ?_
    exact gx_iret C F rfl dX8_turn_18 (Option.some.inj h)
def n_goOn_12 (k2 : Int32 × gx_S → Option (Int32 × gx_S)) (x1 : Int32) (t : Int32 × Int32 × gx_S) (k12 : Int32 × Int32 × gx_S → Option (Int32 × gx_S)) : Option (Int32 × gx_S) := match t with
  | (x2, x3, S) => if (S 0 0) ≤ x3 then if x2 = 0 then some (x1, S) else k2 ((x1 + 1), S) else gx_cs (n_turnOf x3 S) fun v4 S3 => k12 ((x2 + v4), (x3 + 1), S3)
set_option maxRecDepth 20000 in
set_option maxHeartbeats 1000000 in
theorem bn_goOn_12 {Γ : gx_T} {ι : Nat → ClassId} {a : Nat → Nat} {out : Int32 × gx_S} (hx : gx_std vwCl (gty ι) (gx_cl Γ) (gx_ty Γ)) (C : gx_ok Γ cX8_goOn RX8 gx_U 7) (F : gx_finI Γ ((Option.some Jvm.ClassFile.FieldType.int)) (wM a ι) out ∧ gx_nL Γ = 4) {k2 : Int32 × gx_S → Option (Int32 × gx_S)} {k12 : Int32 × Int32 × gx_S → Option (Int32 × gx_S)} {x1 : Int32} {x2 : Int32} {x3 : Int32} {S : gx_S} (hk2 : ∀ (x17 : Int32) (S7 : gx_S), k2 (x17, S7) = some out → gx_G Γ 0 0 2 [.ref (a 0), .int x17, .null, .null] [] (wM a ι S7)) (hk12 : ∀ (x27 : Int32) (x37 : Int32) (S7 : gx_S), k12 (x27, x37, S7) = some out → gx_G Γ 0 0 12 [.ref (a 0), .int x1, .int x27, .int x37] [] (wM a ι S7)) (h : n_goOn_12 k2 x1 (x2, x3, S) k12 = some out) : gx_G Γ 0 0 12 [.ref (a 0), .int x1, .int x2, .int x3] [] (wM a ι S) := by
  obtain ⟨F, hnL⟩ := F
  unfold n_goOn_12 at h
  dsimp only at h
  refine gx_iload_3 C dX8_goOn_12 rfl ?_
  refine gx_aload_0 C dX8_goOn_13 rfl ?_
  refine gs_getf (q := 0) C fl_X8_91 (cls_X8 hx) lt_M_Model (oc_M_Model a ι _) rfl dX8_goOn_14 ?_
  refine gx_icmp_ge (tgt := 34) C dX8_goOn_17 (by decide) (fun hc5 => ?_) (fun hc5 => ?_)
  · have h := gi_t hc5 h
    refine gx_iload_2 C dX8_goOn_34 rfl ?_
    refine gx_if_ne (tgt := 40) C dX8_goOn_35 (by decide) (fun hc1 => ?_) (fun hc1 => ?_)
    · have h := gi_f hc1 h
      refine gx_iinc1 C dX8_goOn_40 rfl (by rw [hnL]; decide) trivial ?_
      refine gx_goto (tgt := 2) C dX8_goOn_43 (by decide) ?_
      exact gx_weak (gx_le_k rfl (gx_le_k rfl (gx_le_n (gx_le_n gx_le_0)))) (hk2 _ _ h)
    · have h := gi_t hc1 h
      refine gx_iload_1 C dX8_goOn_38 rfl ?_
      exact gx_iret C F rfl dX8_goOn_39 (Option.some.inj h)
  · have h := gi_f hc5 h
    refine gx_iload_2 C dX8_goOn_20 rfl ?_
    refine gx_aload_0 C dX8_goOn_21 rfl ?_
    refine gx_iload_3 C dX8_goOn_22 rfl ?_
    obtain ⟨v4, S3, e2, h⟩ := gi_cs h
    refine gc_IV C (cn_turnOf (gx_l Γ) (gx_D Γ) hx a _ _ e2) (gx_cw C gx_uu lk_X8_163 (by decide) (by decide)) (cls_X8 hx).1 (gs_recv (q := 0) lt_M_Model (oc_M_Model a ι _)) rfl rfl (Nat.le_of_ble_eq_true rfl) ⟨Nat.zero_le _, Nat.zero_le _⟩ dX8_goOn_23 ?_
    refine gx_iadd C dX8_goOn_26 ?_
    refine gx_istore_2 C dX8_goOn_27 (by rw [hnL]; decide) trivial ?_
    refine gx_iinc1 C dX8_goOn_28 rfl (by rw [hnL]; decide) trivial ?_
    refine gx_goto (tgt := 12) C dX8_goOn_31 (by decide) ?_
    exact gx_weak (gx_le_k rfl (gx_le_k rfl (gx_le_k rfl (gx_le_k rfl gx_le_0)))) (hk12 _ _ _ h)
def n_goOn_2 (t : Int32 × gx_S) (k2 : Int32 × gx_S → Option (Int32 × gx_S)) : Option (Int32 × gx_S) := match t with
  | (x1, S) => if 20 ≤ x1 then some ((-1), S) else gx_loop (n_goOn_12 k2 x1) 5000 (0, 0, S)
set_option maxRecDepth 20000 in
set_option maxHeartbeats 1000000 in
theorem bn_goOn_2 {Γ : gx_T} {ι : Nat → ClassId} {a : Nat → Nat} {out : Int32 × gx_S} (hx : gx_std vwCl (gty ι) (gx_cl Γ) (gx_ty Γ)) (C : gx_ok Γ cX8_goOn RX8 gx_U 7) (F : gx_finI Γ ((Option.some Jvm.ClassFile.FieldType.int)) (wM a ι) out ∧ gx_nL Γ = 4) {k2 : Int32 × gx_S → Option (Int32 × gx_S)} {x1 : Int32} {S : gx_S} (hk2 : ∀ (x17 : Int32) (S7 : gx_S), k2 (x17, S7) = some out → gx_G Γ 0 0 2 [.ref (a 0), .int x17, .null, .null] [] (wM a ι S7)) (h : n_goOn_2 (x1, S) k2 = some out) : gx_G Γ 0 0 2 [.ref (a 0), .int x1, .null, .null] [] (wM a ι S) := by
  obtain ⟨F, hnL⟩ := F
  unfold n_goOn_2 at h
  dsimp only at h
  refine gx_iload_1 C dX8_goOn_2 rfl ?_
  refine gx_bipush (v := 20) C dX8_goOn_3 (by decide) ?_
  refine gx_icmp_ge (tgt := 46) C dX8_goOn_5 (by decide) (fun hc1 => ?_) (fun hc1 => ?_)
  · have h := gi_t hc1 h
    refine gx_iconstm1 C dX8_goOn_46 ?_
    exact gx_iret C F rfl dX8_goOn_47 (Option.some.inj h)
  · have h := gi_f hc1 h
    refine gx_iconst0 C dX8_goOn_8 ?_
    refine gx_istore_2 C dX8_goOn_9 (by rw [hnL]; decide) trivial ?_
    refine gx_iconst0 C dX8_goOn_10 ?_
    refine gx_istore_3 C dX8_goOn_11 (by rw [hnL]; decide) trivial ?_
    refine gx_weak (gx_le_k rfl (gx_le_k rfl (gx_le_k rfl (gx_le_k rfl gx_le_0)))) (gi_loop (P := fun t => gx_G Γ 0 0 12 [.ref (a 0), .int x1, .int t.1, .int t.2.1] [] (wM a ι t.2.2)) (fun kk t hk h => ?_) 5000 _ h)
    obtain ⟨x29, x39, S'9⟩ := t
    exact bn_goOn_12 hx C ⟨F, hnL⟩ hk2 (k12 := kk) (fun x28 x38 S'8 h => hk (x28, x38, S'8) h) h
def n_goOn (S : gx_S) : Option (Int32 × gx_S) := gx_loop (n_goOn_2) 5000 (0, S)
set_option maxRecDepth 20000 in
set_option maxHeartbeats 1000000 in
theorem cn_goOn (l : Launch) (D : va_G) {cl : List vw_C} {tys : List (ClassId × FieldType)} {ι : Nat → ClassId} (hx : gx_std vwCl (gty ι) cl tys) (a : Nat → Nat) (S : gx_S) {out : Int32 × gx_S} (h : n_goOn  S = some out) : gx_mI l D cl tys yX8_goOn (.code yX8_goOn cX8_goOn 4 ((Option.some Jvm.ClassFile.FieldType.int)) :: gx_U) (gx_rm 7) [.ref (a 0)] (wM a ι S) (wM a ι) out := by
  unfold n_goOn at h
  refine gx_startI (V := [.ref (a 0), .null, .null, .null]) 3 (by decide +kernel) (Nat.le_of_ble_eq_true rfl) rfl (fun Γ hl hD hcl hty hnL C F => ?_)
  subst hl; subst hD; subst hcl; subst hty
  refine gx_iconst0 C dX8_goOn_0 ?_
  refine gx_istore_1 C dX8_goOn_1 (by rw [hnL]; decide) trivial ?_
  refine gx_weak (gx_le_k rfl (gx_le_k rfl (gx_le_n (gx_le_n gx_le_0)))) (gi_loop (P := fun t => gx_G Γ 0 0 2 [.ref (a 0), .int t.1, .null, .null] [] (wM a ι t.2)) (fun kk t hk h => ?_) 5000 _ h)
  obtain ⟨x19, S'9⟩ := t
  exact bn_goOn_2 hx C ⟨F, hnL⟩ (k2 := kk) (fun x18 S'8 h => hk (x18, S'8) h) h
def n_hold_2 (t : Int32 × gx_S) (k2 : Int32 × gx_S → Option (gx_S)) : Option (gx_S) := match t with
  | (x1, S) => if 6 ≤ x1 then some S else gx_ck 6 x1 (gx_let (gx_st S 18 x1.toNatClampNeg (S 7 x1.toNatClampNeg)) fun S2 => gx_let (gx_st S2 19 x1.toNatClampNeg (S2 4 x1.toNatClampNeg)) fun S4 => gx_let (gx_st S4 20 x1.toNatClampNeg (vp_nar .boolean (S4 3 x1.toNatClampNeg))) fun S6 => k2 ((x1 + 1), S6))
set_option maxRecDepth 20000 in
set_option maxHeartbeats 1000000 in
theorem bn_hold_2 {Γ : gx_T} {ι : Nat → ClassId} {a : Nat → Nat} {out : gx_S} (hx : gx_std vwCl (gty ι) (gx_cl Γ) (gx_ty Γ)) (C : gx_ok Γ cX8_hold RX8 gx_U 0) (F : gx_finV Γ ((Option.none : Option Jvm.ClassFile.FieldType)) (wM a ι) out ∧ gx_nL Γ = 2) {k2 : Int32 × gx_S → Option (gx_S)} {x1 : Int32} {S : gx_S} (hk2 : ∀ (x17 : Int32) (S7 : gx_S), k2 (x17, S7) = some out → gx_G Γ 0 0 2 [.ref (a 0), .int x17] [] (wM a ι S7)) (h : n_hold_2 (x1, S) k2 = some out) : gx_G Γ 0 0 2 [.ref (a 0), .int x1] [] (wM a ι S) := by
  obtain ⟨F, hnL⟩ := F
  unfold n_hold_2 at h
  dsimp only at h
  refine gx_iload_1 C dX8_hold_2 rfl ?_
  refine gx_bipush (v := 6) C dX8_hold_3 (by decide) ?_
  refine gx_icmp_ge (tgt := 50) C dX8_hold_5 (by decide) (fun hc8 => ?_) (fun hc8 => ?_)
  · have h := gi_t hc8 h
    exact gx_vret C F dX8_hold_50 (Option.some.inj h)
  · have h := gi_f hc8 h
    refine gx_aload_0 C dX8_hold_8 rfl ?_
    refine gs_getf (q := 0) C fl_X8_67 (cls_X8 hx) lt_M_Model (oc_M_Model a ι _) rfl dX8_hold_9 ?_
    refine gx_iload_1 C dX8_hold_12 rfl ?_
    refine gx_aload_0 C dX8_hold_13 rfl ?_
    refine gs_getf (q := 0) C fl_X8_29 (cls_X8 hx) lt_M_Model (oc_M_Model a ι _) rfl dX8_hold_14 ?_
    refine gx_iload_1 C dX8_hold_17 rfl ?_
    obtain ⟨hi1, h⟩ := gi_ck h
    refine gs_iald (q := 7) C (ac_M_M_priceOf hx a) lt_M_M_priceOf hi1 dX8_hold_18 ?_
    obtain ⟨S2, e3, h⟩ := gi_let h
    refine gs_iast (q := 18) C (ac_M_M_wasPrice hx a) lt_M_M_wasPrice hi1 e3 dX8_hold_19 ?_
    refine gx_aload_0 C dX8_hold_20 rfl ?_
    refine gs_getf (q := 0) C fl_X8_70 (cls_X8 hx) lt_M_Model (oc_M_Model a ι _) rfl dX8_hold_21 ?_
    refine gx_iload_1 C dX8_hold_24 rfl ?_
    refine gx_aload_0 C dX8_hold_25 rfl ?_
    refine gs_getf (q := 0) C fl_X8_20 (cls_X8 hx) lt_M_Model (oc_M_Model a ι _) rfl dX8_hold_26 ?_
    refine gx_iload_1 C dX8_hold_29 rfl ?_
    refine gs_iald (q := 4) C (ac_M_M_ownerOf hx a) lt_M_M_ownerOf hi1 dX8_hold_30 ?_
    obtain ⟨S4, e5, h⟩ := gi_let h
    refine gs_iast (q := 19) C (ac_M_M_wasOwner hx a) lt_M_M_wasOwner hi1 e5 dX8_hold_31 ?_
    refine gx_aload_0 C dX8_hold_32 rfl ?_
    refine gs_getf (q := 0) C fl_X8_73 (cls_X8 hx) lt_M_Model (oc_M_Model a ι _) rfl dX8_hold_33 ?_
    refine gx_iload_1 C dX8_hold_36 rfl ?_
    refine gx_aload_0 C dX8_hold_37 rfl ?_
    refine gs_getf (q := 0) C fl_X8_16 (cls_X8 hx) lt_M_Model (oc_M_Model a ι _) rfl dX8_hold_38 ?_
    refine gx_iload_1 C dX8_hold_41 rfl ?_
    refine gs_zald (q := 3) C (ac_M_M_isIn hx a) lt_M_M_isIn hi1 dX8_hold_42 ?_
    obtain ⟨S6, e7, h⟩ := gi_let h
    refine gs_zast (q := 20) C (ac_M_M_wasIn hx a) lt_M_M_wasIn hi1 e7 dX8_hold_43 ?_
    refine gx_iinc1 C dX8_hold_44 rfl (by rw [hnL]; decide) trivial ?_
    refine gx_goto (tgt := 2) C dX8_hold_47 (by decide) ?_
    exact gx_weak (gx_le_k rfl (gx_le_k rfl gx_le_0)) (hk2 _ _ h)
def n_hold (S : gx_S) : Option (gx_S) := gx_loop (n_hold_2) 5000 (0, S)
set_option maxRecDepth 20000 in
set_option maxHeartbeats 1000000 in
theorem cn_hold (l : Launch) (D : va_G) {cl : List vw_C} {tys : List (ClassId × FieldType)} {ι : Nat → ClassId} (hx : gx_std vwCl (gty ι) cl tys) (a : Nat → Nat) (S : gx_S) {out : gx_S} (h : n_hold  S = some out) : gx_mV l D cl tys yX8_hold (.code yX8_hold cX8_hold 2 ((Option.none : Option Jvm.ClassFile.FieldType)) :: gx_U) (gx_rm 0) [.ref (a 0)] (wM a ι S) (wM a ι) out := by
  unfold n_hold at h
  refine gx_startV (V := [.ref (a 0), .null]) 1 (by decide +kernel) (Nat.le_of_ble_eq_true rfl) rfl (fun Γ hl hD hcl hty hnL C F => ?_)
  subst hl; subst hD; subst hcl; subst hty
  refine gx_iconst0 C dX8_hold_0 ?_
  refine gx_istore_1 C dX8_hold_1 (by rw [hnL]; decide) trivial ?_
  refine gx_weak (gx_le_k rfl (gx_le_k rfl gx_le_0)) (gi_loop (P := fun t => gx_G Γ 0 0 2 [.ref (a 0), .int t.1] [] (wM a ι t.2)) (fun kk t hk h => ?_) 5000 _ h)
  obtain ⟨x19, S'9⟩ := t
  exact bn_hold_2 hx C ⟨F, hnL⟩ (k2 := kk) (fun x18 S'8 h => hk (x18, S'8) h) h
def n_back_2 (t : Int32 × gx_S) (k2 : Int32 × gx_S → Option (gx_S)) : Option (gx_S) := match t with
  | (x1, S) => if 6 ≤ x1 then some S else gx_ck 6 x1 (gx_let (gx_st S 7 x1.toNatClampNeg (S 18 x1.toNatClampNeg)) fun S2 => gx_let (gx_st S2 4 x1.toNatClampNeg (S2 19 x1.toNatClampNeg)) fun S4 => gx_let (gx_st S4 3 x1.toNatClampNeg (vp_nar .boolean (S4 20 x1.toNatClampNeg))) fun S6 => k2 ((x1 + 1), S6))
set_option maxRecDepth 20000 in
set_option maxHeartbeats 1000000 in
theorem bn_back_2 {Γ : gx_T} {ι : Nat → ClassId} {a : Nat → Nat} {out : gx_S} (hx : gx_std vwCl (gty ι) (gx_cl Γ) (gx_ty Γ)) (C : gx_ok Γ cX8_back RX8 gx_U 0) (F : gx_finV Γ ((Option.none : Option Jvm.ClassFile.FieldType)) (wM a ι) out ∧ gx_nL Γ = 2) {k2 : Int32 × gx_S → Option (gx_S)} {x1 : Int32} {S : gx_S} (hk2 : ∀ (x17 : Int32) (S7 : gx_S), k2 (x17, S7) = some out → gx_G Γ 0 0 2 [.ref (a 0), .int x17] [] (wM a ι S7)) (h : n_back_2 (x1, S) k2 = some out) : gx_G Γ 0 0 2 [.ref (a 0), .int x1] [] (wM a ι S) := by
  obtain ⟨F, hnL⟩ := F
  unfold n_back_2 at h
  dsimp only at h
  refine gx_iload_1 C dX8_back_2 rfl ?_
  refine gx_bipush (v := 6) C dX8_back_3 (by decide) ?_
  refine gx_icmp_ge (tgt := 50) C dX8_back_5 (by decide) (fun hc8 => ?_) (fun hc8 => ?_)
  · have h := gi_t hc8 h
    exact gx_vret C F dX8_back_50 (Option.some.inj h)
  · have h := gi_f hc8 h
    refine gx_aload_0 C dX8_back_8 rfl ?_
    refine gs_getf (q := 0) C fl_X8_29 (cls_X8 hx) lt_M_Model (oc_M_Model a ι _) rfl dX8_back_9 ?_
    refine gx_iload_1 C dX8_back_12 rfl ?_
    refine gx_aload_0 C dX8_back_13 rfl ?_
    refine gs_getf (q := 0) C fl_X8_67 (cls_X8 hx) lt_M_Model (oc_M_Model a ι _) rfl dX8_back_14 ?_
    refine gx_iload_1 C dX8_back_17 rfl ?_
    obtain ⟨hi1, h⟩ := gi_ck h
    refine gs_iald (q := 18) C (ac_M_M_wasPrice hx a) lt_M_M_wasPrice hi1 dX8_back_18 ?_
    obtain ⟨S2, e3, h⟩ := gi_let h
    refine gs_iast (q := 7) C (ac_M_M_priceOf hx a) lt_M_M_priceOf hi1 e3 dX8_back_19 ?_
    refine gx_aload_0 C dX8_back_20 rfl ?_
    refine gs_getf (q := 0) C fl_X8_20 (cls_X8 hx) lt_M_Model (oc_M_Model a ι _) rfl dX8_back_21 ?_
    refine gx_iload_1 C dX8_back_24 rfl ?_
    refine gx_aload_0 C dX8_back_25 rfl ?_
    refine gs_getf (q := 0) C fl_X8_70 (cls_X8 hx) lt_M_Model (oc_M_Model a ι _) rfl dX8_back_26 ?_
    refine gx_iload_1 C dX8_back_29 rfl ?_
    refine gs_iald (q := 19) C (ac_M_M_wasOwner hx a) lt_M_M_wasOwner hi1 dX8_back_30 ?_
    obtain ⟨S4, e5, h⟩ := gi_let h
    refine gs_iast (q := 4) C (ac_M_M_ownerOf hx a) lt_M_M_ownerOf hi1 e5 dX8_back_31 ?_
    refine gx_aload_0 C dX8_back_32 rfl ?_
    refine gs_getf (q := 0) C fl_X8_16 (cls_X8 hx) lt_M_Model (oc_M_Model a ι _) rfl dX8_back_33 ?_
    refine gx_iload_1 C dX8_back_36 rfl ?_
    refine gx_aload_0 C dX8_back_37 rfl ?_
    refine gs_getf (q := 0) C fl_X8_73 (cls_X8 hx) lt_M_Model (oc_M_Model a ι _) rfl dX8_back_38 ?_
    refine gx_iload_1 C dX8_back_41 rfl ?_
    refine gs_zald (q := 20) C (ac_M_M_wasIn hx a) lt_M_M_wasIn hi1 dX8_back_42 ?_
    obtain ⟨S6, e7, h⟩ := gi_let h
    refine gs_zast (q := 3) C (ac_M_M_isIn hx a) lt_M_M_isIn hi1 e7 dX8_back_43 ?_
    refine gx_iinc1 C dX8_back_44 rfl (by rw [hnL]; decide) trivial ?_
    refine gx_goto (tgt := 2) C dX8_back_47 (by decide) ?_
    exact gx_weak (gx_le_k rfl (gx_le_k rfl gx_le_0)) (hk2 _ _ h)
def n_back (S : gx_S) : Option (gx_S) := gx_loop (n_back_2) 5000 (0, S)
set_option maxRecDepth 20000 in
set_option maxHeartbeats 1000000 in
theorem cn_back (l : Launch) (D : va_G) {cl : List vw_C} {tys : List (ClassId × FieldType)} {ι : Nat → ClassId} (hx : gx_std vwCl (gty ι) cl tys) (a : Nat → Nat) (S : gx_S) {out : gx_S} (h : n_back  S = some out) : gx_mV l D cl tys yX8_back (.code yX8_back cX8_back 2 ((Option.none : Option Jvm.ClassFile.FieldType)) :: gx_U) (gx_rm 0) [.ref (a 0)] (wM a ι S) (wM a ι) out := by
  unfold n_back at h
  refine gx_startV (V := [.ref (a 0), .null]) 1 (by decide +kernel) (Nat.le_of_ble_eq_true rfl) rfl (fun Γ hl hD hcl hty hnL C F => ?_)
  subst hl; subst hD; subst hcl; subst hty
  refine gx_iconst0 C dX8_back_0 ?_
  refine gx_istore_1 C dX8_back_1 (by rw [hnL]; decide) trivial ?_
  refine gx_weak (gx_le_k rfl (gx_le_k rfl gx_le_0)) (gi_loop (P := fun t => gx_G Γ 0 0 2 [.ref (a 0), .int t.1] [] (wM a ι t.2)) (fun kk t hk h => ?_) 5000 _ h)
  obtain ⟨x19, S'9⟩ := t
  exact bn_back_2 hx C ⟨F, hnL⟩ (k2 := kk) (fun x18 S'8 h => hk (x18, S'8) h) h

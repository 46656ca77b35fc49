def n_within_14 (S : gx_S) : Option (Int32) := some 0
set_option maxRecDepth 20000 in
set_option maxHeartbeats 1000000 in
theorem bn_within_14 {Γ : gx_T} {ι : Nat → ClassId} {a : Nat → Nat} {out : Int32} {S : gx_S} (hx : gx_std vwCl (gty ι) (gx_cl Γ) (gx_ty Γ)) (C : gx_ok Γ cX8_within RX8 gx_U 0) (F : gx_finI Γ ((Option.some Jvm.ClassFile.FieldType.boolean)) (wM a ι) (out, S) ∧ gx_nL Γ = 3) (h : n_within_14 S = some out) : gx_G Γ 0 0 14 [.null, .null, .null] [] (wM a ι S) := by
  obtain ⟨F, hnL⟩ := F
  unfold n_within_14 at h
  refine gx_iconst0 C dX8_within_14 ?_
  exact gx_iret C F (by decide) dX8_within_15 (congrArg (fun z => (z, S)) (Option.some.inj h))
def n_within (x0 : Int32) (x1 : Int32) (x2 : Int32) (S : gx_S) : Option (Int32) := if x0 < x1 then n_within_14 S else if x2 < x0 then n_within_14 S else some 1
set_option maxRecDepth 20000 in
set_option maxHeartbeats 1000000 in
theorem cn_within (l : Launch) (D : va_G) {cl : List vw_C} {tys : List (ClassId × FieldType)} {ι : Nat → ClassId} (hx : gx_std vwCl (gty ι) cl tys) (a : Nat → Nat) (x0 : Int32) (x1 : Int32) (x2 : Int32) (S : gx_S) {out : Int32} (h : n_within x0 x1 x2 S = some out) : gx_mI l D cl tys yX8_within (.code yX8_within cX8_within 3 ((Option.some Jvm.ClassFile.FieldType.boolean)) :: gx_U) (gx_rm 0) [.int x0, .int x1, .int x2] (wM a ι S) (wM a ι) (out, S) := by
  unfold n_within at h
  refine gx_startI (V := [.int x0, .int x1, .int x2]) 0 (by decide +kernel) (Nat.le_of_ble_eq_true rfl) rfl (fun Γ hl hD hcl hty hnL C F => ?_)
  subst hl; subst hD; subst hcl; subst hty
  refine gx_iload_0 C dX8_within_0 rfl ?_
  refine gx_iload_1 C dX8_within_1 rfl ?_
  refine gx_icmp_lt (tgt := 14) C dX8_within_2 (by decide) (fun hc2 => ?_) (fun hc2 => ?_)
  · have h := gi_t hc2 h
    exact gx_weak (gx_le_n (gx_le_n (gx_le_n gx_le_0))) (bn_within_14 hx C ⟨F, hnL⟩ h)
  · have h := gi_f hc2 h
    refine gx_iload_0 C dX8_within_5 rfl ?_
    refine gx_iload_2 C dX8_within_6 rfl ?_
    refine gx_icmp_gt (tgt := 14) C dX8_within_7 (by decide) (fun hc1 => ?_) (fun hc1 => ?_)
    · have h := gi_t hc1 h
      exact gx_weak (gx_le_n (gx_le_n (gx_le_n gx_le_0))) (bn_within_14 hx C ⟨F, hnL⟩ h)
    · have h := gi_f hc1 h
      refine gx_iconst1 C dX8_within_10 ?_
      refine gx_goto (tgt := 15) C dX8_within_11 (by decide) ?_
      exact gx_iret C F (by decide) dX8_within_15 (congrArg (fun z => (z, S)) (Option.some.inj h))
def n_size (x0 : Int32) (S : gx_S) : Option (Int32) := if 0 ≤ x0 then some x0 else some (-x0)
set_option maxRecDepth 20000 in
set_option maxHeartbeats 1000000 in
theorem cn_size (l : Launch) (D : va_G) {cl : List vw_C} {tys : List (ClassId × FieldType)} {ι : Nat → ClassId} (hx : gx_std vwCl (gty ι) cl tys) (a : Nat → Nat) (x0 : Int32) (S : gx_S) {out : Int32} (h : n_size x0 S = some out) : gx_mI l D cl tys yX8_size (.code yX8_size cX8_size 1 ((Option.some Jvm.ClassFile.FieldType.int)) :: gx_U) (gx_rm 0) [.int x0] (wM a ι S) (wM a ι) (out, S) := by
  unfold n_size at h
  refine gx_startI (V := [.int x0]) 0 (by decide +kernel) (Nat.le_of_ble_eq_true rfl) rfl (fun Γ hl hD hcl hty hnL C F => ?_)
  subst hl; subst hD; subst hcl; subst hty
  refine gx_iload_0 C dX8_size_0 rfl ?_
  refine gx_if_ge (tgt := 9) C dX8_size_1 (by decide) (fun hc1 => ?_) (fun hc1 => ?_)
  · have h := gi_t hc1 h
    refine gx_iload_0 C dX8_size_9 rfl ?_
    exact gx_iret C F rfl dX8_size_10 (congrArg (fun z => (z, S)) (Option.some.inj h))
  · have h := gi_f hc1 h
    refine gx_iload_0 C dX8_size_4 rfl ?_
    refine gx_ineg C dX8_size_5 ?_
    refine gx_goto (tgt := 10) C dX8_size_6 (by decide) ?_
    exact gx_iret C F rfl dX8_size_10 (congrArg (fun z => (z, S)) (Option.some.inj h))
def n_isOwner (x1 : Int32) (S : gx_S) : Option (Int32) := gx_cp (n_within x1 0 ((S 0 0) - (1 : Int32)) S) fun v2 => gx_bz v2 (some v2)
set_option maxRecDepth 20000 in
set_option maxHeartbeats 1000000 in
theorem cn_isOwner (l : Launch) (D : va_G) {cl : List vw_C} {tys : List (ClassId × FieldType)} {ι : Nat → ClassId} (hx : gx_std vwCl (gty ι) cl tys) (a : Nat → Nat) (x1 : Int32) (S : gx_S) {out : Int32} (h : n_isOwner x1 S = some out) : gx_mI l D cl tys yX8_isOwner (.code yX8_isOwner cX8_isOwner 2 ((Option.some Jvm.ClassFile.FieldType.boolean)) :: gx_U) (gx_rm 1) [.ref (a 0), .int x1] (wM a ι S) (wM a ι) (out, S) := by
  unfold n_isOwner at h
  refine gx_startI (V := [.ref (a 0), .int x1]) 0 (by decide +kernel) (Nat.le_of_ble_eq_true rfl) rfl (fun Γ hl hD hcl hty hnL C F => ?_)
  subst hl; subst hD; subst hcl; subst hty
  refine gx_iload_1 C dX8_isOwner_0 rfl ?_
  refine gx_iconst0 C dX8_isOwner_1 ?_
  refine gx_aload_0 C dX8_isOwner_2 rfl ?_
  refine gs_getf (q := 0) C fl_X8_91 (cls_X8 hx) lt_M_Model (oc_M_Model a ι _) rfl dX8_isOwner_3 ?_
  refine gx_iconst1 C dX8_isOwner_6 ?_
  refine gx_isub C dX8_isOwner_7 ?_
  obtain ⟨v2, e1, h⟩ := gi_cp h
  refine gc_IS C (cn_within (gx_l Γ) (gx_D Γ) hx a _ _ _ _ e1) (gx_cwS C gx_uu lk_X8_94 (by decide) (by decide)) rfl rfl (Nat.le_of_ble_eq_true rfl) ⟨Nat.zero_le _, Nat.zero_le _⟩ dX8_isOwner_8 ?_
  obtain ⟨hz3, h⟩ := gi_bz h
  exact gx_iret C F hz3.1 dX8_isOwner_11 (congrArg (fun z => (z, S)) (Option.some.inj h))
def n_isShop (x1 : Int32) (S : gx_S) : Option (Int32) := gx_cp (n_within x1 0 ((S 0 4) - (1 : Int32)) S) fun v2 => gx_bz v2 (some v2)
set_option maxRecDepth 20000 in
set_option maxHeartbeats 1000000 in
theorem cn_isShop (l : Launch) (D : va_G) {cl : List vw_C} {tys : List (ClassId × FieldType)} {ι : Nat → ClassId} (hx : gx_std vwCl (gty ι) cl tys) (a : Nat → Nat) (x1 : Int32) (S : gx_S) {out : Int32} (h : n_isShop x1 S = some out) : gx_mI l D cl tys yX8_isShop (.code yX8_isShop cX8_isShop 2 ((Option.some Jvm.ClassFile.FieldType.boolean)) :: gx_U) (gx_rm 1) [.ref (a 0), .int x1] (wM a ι S) (wM a ι) (out, S) := by
  unfold n_isShop at h
  refine gx_startI (V := [.ref (a 0), .int x1]) 0 (by decide +kernel) (Nat.le_of_ble_eq_true rfl) rfl (fun Γ hl hD hcl hty hnL C F => ?_)
  subst hl; subst hD; subst hcl; subst hty
  refine gx_iload_1 C dX8_isShop_0 rfl ?_
  refine gx_iconst0 C dX8_isShop_1 ?_
  refine gx_aload_0 C dX8_isShop_2 rfl ?_
  refine gs_getf (q := 0) C fl_X8_98 (cls_X8 hx) lt_M_Model (oc_M_Model a ι _) rfl dX8_isShop_3 ?_
  refine gx_iconst1 C dX8_isShop_6 ?_
  refine gx_isub C dX8_isShop_7 ?_
  obtain ⟨v2, e1, h⟩ := gi_cp h
  refine gc_IS C (cn_within (gx_l Γ) (gx_D Γ) hx a _ _ _ _ e1) (gx_cwS C gx_uu lk_X8_94 (by decide) (by decide)) rfl rfl (Nat.le_of_ble_eq_true rfl) ⟨Nat.zero_le _, Nat.zero_le _⟩ dX8_isShop_8 ?_
  obtain ⟨hz3, h⟩ := gi_bz h
  exact gx_iret C F hz3.1 dX8_isShop_11 (congrArg (fun z => (z, S)) (Option.some.inj h))
def n_isSort (x1 : Int32) (S : gx_S) : Option (Int32) := gx_cp (n_within x1 0 ((S 0 9) - (1 : Int32)) S) fun v2 => gx_bz v2 (some v2)
set_option maxRecDepth 20000 in
set_option maxHeartbeats 1000000 in
theorem cn_isSort (l : Launch) (D : va_G) {cl : List vw_C} {tys : List (ClassId × FieldType)} {ι : Nat → ClassId} (hx : gx_std vwCl (gty ι) cl tys) (a : Nat → Nat) (x1 : Int32) (S : gx_S) {out : Int32} (h : n_isSort x1 S = some out) : gx_mI l D cl tys yX8_isSort (.code yX8_isSort cX8_isSort 2 ((Option.some Jvm.ClassFile.FieldType.boolean)) :: gx_U) (gx_rm 1) [.ref (a 0), .int x1] (wM a ι S) (wM a ι) (out, S) := by
  unfold n_isSort at h
  refine gx_startI (V := [.ref (a 0), .int x1]) 0 (by decide +kernel) (Nat.le_of_ble_eq_true rfl) rfl (fun Γ hl hD hcl hty hnL C F => ?_)
  subst hl; subst hD; subst hcl; subst hty
  refine gx_iload_1 C dX8_isSort_0 rfl ?_
  refine gx_iconst0 C dX8_isSort_1 ?_
  refine gx_aload_0 C dX8_isSort_2 rfl ?_
  refine gs_getf (q := 0) C fl_X8_101 (cls_X8 hx) lt_M_Model (oc_M_Model a ι _) rfl dX8_isSort_3 ?_
  refine gx_iconst1 C dX8_isSort_6 ?_
  refine gx_isub C dX8_isSort_7 ?_
  obtain ⟨v2, e1, h⟩ := gi_cp h
  refine gc_IS C (cn_within (gx_l Γ) (gx_D Γ) hx a _ _ _ _ e1) (gx_cwS C gx_uu lk_X8_94 (by decide) (by decide)) rfl rfl (Nat.le_of_ble_eq_true rfl) ⟨Nat.zero_le _, Nat.zero_le _⟩ dX8_isSort_8 ?_
  obtain ⟨hz3, h⟩ := gi_bz h
  exact gx_iret C F hz3.1 dX8_isSort_11 (congrArg (fun z => (z, S)) (Option.some.inj h))
def n_owner (x1 : Int32) (x2 : Int32) (S : gx_S) : Option (Int32 × gx_S) := gx_cp (n_within x1 0 4 S) fun v2 => if v2 = 0 then some ((-102), S) else gx_cp (n_within x2 0 99 S) fun v4 => if v4 = 0 then some ((-102), S) else if (S 0 0) = 6 then some ((-104), S) else gx_ck 6 (S 0 0) (gx_let (gx_st S 1 (S 0 0).toNatClampNeg x1) fun S6 => gx_ck 6 (S6 0 0) (gx_let (gx_st S6 2 (S6 0 0).toNatClampNeg x2) fun S9 => gx_ck 6 (S9 0 0) (gx_let (gx_st S9 3 (S9 0 0).toNatClampNeg (vp_nar .boolean 0)) fun S12 => gx_let (gx_st S12 0 0 ((S12 0 0) + (1 : Int32))) fun S14 => some ((S14 0 0) - (1 : Int32), S14))))
set_option maxRecDepth 20000 in
set_option maxHeartbeats 1000000 in
theorem cn_owner (l : Launch) (D : va_G) {cl : List vw_C} {tys : List (ClassId × FieldType)} {ι : Nat → ClassId} (hx : gx_std vwCl (gty ι) cl tys) (a : Nat → Nat) (x1 : Int32) (x2 : Int32) (S : gx_S) {out : Int32 × gx_S} (h : n_owner x1 x2 S = some out) : gx_mI l D cl tys yX8_owner (.code yX8_owner cX8_owner 3 ((Option.some Jvm.ClassFile.FieldType.int)) :: gx_U) (gx_rm 1) [.ref (a 0), .int x1, .int x2] (wM a ι S) (wM a ι) out := by
  unfold n_owner at h
  refine gx_startI (V := [.ref (a 0), .int x1, .int x2]) 0 (by decide +kernel) (Nat.le_of_ble_eq_true rfl) rfl (fun Γ hl hD hcl hty hnL C F => ?_)
  subst hl; subst hD; subst hcl; subst hty
  refine gx_iload_1 C dX8_owner_0 rfl ?_
  refine gx_iconst0 C dX8_owner_1 ?_
  refine gx_iconst4 C dX8_owner_2 ?_
  obtain ⟨v2, e1, h⟩ := gi_cp h
  refine gc_IS C (cn_within (gx_l Γ) (gx_D Γ) hx a _ _ _ _ e1) (gx_cwS C gx_uu lk_X8_94 (by decide) (by decide)) rfl rfl (Nat.le_of_ble_eq_true rfl) ⟨Nat.zero_le _, Nat.zero_le _⟩ dX8_owner_3 ?_
  refine gx_if_eq (tgt := 19) C dX8_owner_6 (by decide) (fun hc18 => ?_) (fun hc18 => ?_)
  · have h := gi_t hc18 h
    refine gx_bipush (v := (-102)) C dX8_owner_19 (by decide) ?_
    exact gx_iret C F rfl dX8_owner_21 (Option.some.inj h)
  · have h := gi_f hc18 h
    refine gx_iload_2 C dX8_owner_9 rfl ?_
    refine gx_iconst0 C dX8_owner_10 ?_
    refine gx_bipush (v := 99) C dX8_owner_11 (by decide) ?_
    obtain ⟨v4, e3, h⟩ := gi_cp h
    refine gc_IS C (cn_within (gx_l Γ) (gx_D Γ) hx a _ _ _ _ e3) (gx_cwS C gx_uu lk_X8_94 (by decide) (by decide)) rfl rfl (Nat.le_of_ble_eq_true rfl) ⟨Nat.zero_le _, Nat.zero_le _⟩ dX8_owner_13 ?_
    refine gx_if_ne (tgt := 22) C dX8_owner_16 (by decide) (fun hc17 => ?_) (fun hc17 => ?_)
    · have h := gi_f hc17 h
      refine gx_aload_0 C dX8_owner_22 rfl ?_
      refine gs_getf (q := 0) C fl_X8_91 (cls_X8 hx) lt_M_Model (oc_M_Model a ι _) rfl dX8_owner_23 ?_
      refine gx_bipush (v := 6) C dX8_owner_26 (by decide) ?_
      refine gx_icmp_ne (tgt := 34) C dX8_owner_28 (by decide) (fun hc16 => ?_) (fun hc16 => ?_)
      · have h := gi_f hc16 h
        refine gx_aload_0 C dX8_owner_34 rfl ?_
        refine gs_getf (q := 0) C fl_X8_7 (cls_X8 hx) lt_M_Model (oc_M_Model a ι _) rfl dX8_owner_35 ?_
        refine gx_aload_0 C dX8_owner_38 rfl ?_
        refine gs_getf (q := 0) C fl_X8_91 (cls_X8 hx) lt_M_Model (oc_M_Model a ι _) rfl dX8_owner_39 ?_
        refine gx_iload_1 C dX8_owner_42 rfl ?_
        obtain ⟨hi5, h⟩ := gi_ck h
        obtain ⟨S6, e7, h⟩ := gi_let h
        refine gs_iast (q := 1) C (ac_M_M_kindOf hx a) lt_M_M_kindOf hi5 e7 dX8_owner_43 ?_
        refine gx_aload_0 C dX8_owner_44 rfl ?_
        refine gs_getf (q := 0) C fl_X8_13 (cls_X8 hx) lt_M_Model (oc_M_Model a ι _) rfl dX8_owner_45 ?_
        refine gx_aload_0 C dX8_owner_48 rfl ?_
        refine gs_getf (q := 0) C fl_X8_91 (cls_X8 hx) lt_M_Model (oc_M_Model a ι _) rfl dX8_owner_49 ?_
        refine gx_iload_2 C dX8_owner_52 rfl ?_
        obtain ⟨hi8, h⟩ := gi_ck h
        obtain ⟨S9, e10, h⟩ := gi_let h
        refine gs_iast (q := 2) C (ac_M_M_nOf hx a) lt_M_M_nOf hi8 e10 dX8_owner_53 ?_
        refine gx_aload_0 C dX8_owner_54 rfl ?_
        refine gs_getf (q := 0) C fl_X8_16 (cls_X8 hx) lt_M_Model (oc_M_Model a ι _) rfl dX8_owner_55 ?_
        refine gx_aload_0 C dX8_owner_58 rfl ?_
        refine gs_getf (q := 0) C fl_X8_91 (cls_X8 hx) lt_M_Model (oc_M_Model a ι _) rfl dX8_owner_59 ?_
        refine gx_iconst0 C dX8_owner_62 ?_
        obtain ⟨hi11, h⟩ := gi_ck h
        obtain ⟨S12, e13, h⟩ := gi_let h
        refine gs_zast (q := 3) C (ac_M_M_isIn hx a) lt_M_M_isIn hi11 e13 dX8_owner_63 ?_
        refine gx_aload_0 C dX8_owner_64 rfl ?_
        refine gx_dup C dX8_owner_65 rfl ?_
        refine gs_getf (q := 0) C fl_X8_91 (cls_X8 hx) lt_M_Model (oc_M_Model a ι _) rfl dX8_owner_66 ?_
        refine gx_iconst1 C dX8_owner_69 ?_
        refine gx_iadd C dX8_owner_70 ?_
        obtain ⟨S14, e15, h⟩ := gi_let h
        refine gs_puti (q := 0) C fl_X8_91 (cls_X8 hx) lt_M_Model (oc_M_Model a ι _) (oc_M_Model a ι _) rfl rfl rfl (Nat.le_of_ble_eq_true rfl) e15 dX8_owner_71 ?_
        refine gx_aload_0 C dX8_owner_74 rfl ?_
        refine gs_getf (q := 0) C fl_X8_91 (cls_X8 hx) lt_M_Model (oc_M_Model a ι _) rfl dX8_owner_75 ?_
        refine gx_iconst1 C dX8_owner_78 ?_
        refine gx_isub C dX8_owner_79 ?_
        exact gx_iret C F rfl dX8_owner_80 (Option.some.inj h)
      · have h := gi_t hc16 h
        refine gx_bipush (v := (-104)) C dX8_owner_31 (by decide) ?_
        exact gx_iret C F rfl dX8_owner_33 (Option.some.inj h)
    · have h := gi_t hc17 h
      refine gx_bipush (v := (-102)) C dX8_owner_19 (by decide) ?_
      exact gx_iret C F rfl dX8_owner_21 (Option.some.inj h)
def n_as_52 (x1 : Int32) (S : gx_S) : Option (Int32) := some x1
set_option maxRecDepth 20000 in
set_option maxHeartbeats 1000000 in
theorem bn_as_52 {Γ : gx_T} {ι : Nat → ClassId} {a : Nat → Nat} {out : Int32} {S : gx_S} (hx : gx_std vwCl (gty ι) (gx_cl Γ) (gx_ty Γ)) (C : gx_ok Γ cX8_as RX8 gx_U 2) (F : gx_finI Γ ((Option.some Jvm.ClassFile.FieldType.int)) (wM a ι) (out, S) ∧ gx_nL Γ = 3) {x1 : Int32} (h : n_as_52 x1 S = some out) : gx_G Γ 0 0 52 [.ref (a 0), .int x1, .null] [] (wM a ι S) := by
  obtain ⟨F, hnL⟩ := F
  unfold n_as_52 at h
  refine gx_iload_1 C dX8_as_52 rfl ?_
  refine gx_goto (tgt := 57) C dX8_as_53 (by decide) ?_
  exact gx_iret C F rfl dX8_as_57 (congrArg (fun z => (z, S)) (Option.some.inj h))
def n_as_56 (S : gx_S) : Option (Int32) := some (-1)
set_option maxRecDepth 20000 in
set_option maxHeartbeats 1000000 in
theorem bn_as_56 {Γ : gx_T} {ι : Nat → ClassId} {a : Nat → Nat} {out : Int32} {S : gx_S} (hx : gx_std vwCl (gty ι) (gx_cl Γ) (gx_ty Γ)) (C : gx_ok Γ cX8_as RX8 gx_U 2) (F : gx_finI Γ ((Option.some Jvm.ClassFile.FieldType.int)) (wM a ι) (out, S) ∧ gx_nL Γ = 3) (h : n_as_56 S = some out) : gx_G Γ 0 0 56 [.ref (a 0), .null, .null] [] (wM a ι S) := by
  obtain ⟨F, hnL⟩ := F
  unfold n_as_56 at h
  refine gx_iconstm1 C dX8_as_56 ?_
  exact gx_iret C F rfl dX8_as_57 (congrArg (fun z => (z, S)) (Option.some.inj h))
def n_as (x1 : Int32) (x2 : Int32) (S : gx_S) : Option (Int32) := gx_cp (n_isOwner x1 S) fun v2 => if v2 = 0 then some (-101) else gx_cp (n_within x2 0 4 S) fun v4 => if v4 = 0 then some (-102) else if x2 = 0 then n_as_52 x1 S else gx_ck 6 x1 (if (S 1 x1.toNatClampNeg) = x2 then n_as_52 x1 S else if x2 = 1 then if (S 1 x1.toNatClampNeg) = 4 then n_as_52 x1 S else n_as_56 S else n_as_56 S)
set_option maxRecDepth 20000 in
set_option maxHeartbeats 1000000 in
theorem cn_as (l : Launch) (D : va_G) {cl : List vw_C} {tys : List (ClassId × FieldType)} {ι : Nat → ClassId} (hx : gx_std vwCl (gty ι) cl tys) (a : Nat → Nat) (x1 : Int32) (x2 : Int32) (S : gx_S) {out : Int32} (h : n_as x1 x2 S = some out) : gx_mI l D cl tys yX8_as (.code yX8_as cX8_as 3 ((Option.some Jvm.ClassFile.FieldType.int)) :: gx_U) (gx_rm 2) [.ref (a 0), .int x1, .int x2] (wM a ι S) (wM a ι) (out, S) := by
  unfold n_as at h
  refine gx_startI (V := [.ref (a 0), .int x1, .int x2]) 0 (by decide +kernel) (Nat.le_of_ble_eq_true rfl) rfl (fun Γ hl hD hcl hty hnL C F => ?_)
  subst hl; subst hD; subst hcl; subst hty
  refine gx_aload_0 C dX8_as_0 rfl ?_
  refine gx_iload_1 C dX8_as_1 rfl ?_
  obtain ⟨v2, e1, h⟩ := gi_cp h
  refine gc_IV C (cn_isOwner (gx_l Γ) (gx_D Γ) hx a _ _ e1) (gx_cw C gx_uu lk_X8_104 (by decide) (by decide)) (cls_X8 hx).1 (gs_recv (q := 0) lt_M_Model (oc_M_Model a ι _)) rfl rfl (Nat.le_of_ble_eq_true rfl) ⟨Nat.zero_le _, Nat.zero_le _⟩ dX8_as_2 ?_
  refine gx_if_ne (tgt := 11) C dX8_as_5 (by decide) (fun hc11 => ?_) (fun hc11 => ?_)
  · have h := gi_f hc11 h
    refine gx_iload_2 C dX8_as_11 rfl ?_
    refine gx_iconst0 C dX8_as_12 ?_
    refine gx_iconst4 C dX8_as_13 ?_
    obtain ⟨v4, e3, h⟩ := gi_cp h
    refine gc_IS C (cn_within (gx_l Γ) (gx_D Γ) hx a _ _ _ _ e3) (gx_cwS C gx_uu lk_X8_94 (by decide) (by decide)) rfl rfl (Nat.le_of_ble_eq_true rfl) ⟨Nat.zero_le _, Nat.zero_le _⟩ dX8_as_14 ?_
    refine gx_if_ne (tgt := 23) C dX8_as_17 (by decide) (fun hc10 => ?_) (fun hc10 => ?_)
    · have h := gi_f hc10 h
      refine gx_iload_2 C dX8_as_23 rfl ?_
      refine gx_if_eq (tgt := 52) C dX8_as_24 (by decide) (fun hc9 => ?_) (fun hc9 => ?_)
      · have h := gi_t hc9 h
        exact gx_weak (gx_le_k rfl (gx_le_k rfl (gx_le_n gx_le_0))) (bn_as_52 hx C ⟨F, hnL⟩ h)
      · have h := gi_f hc9 h
        refine gx_aload_0 C dX8_as_27 rfl ?_
        refine gs_getf (q := 0) C fl_X8_7 (cls_X8 hx) lt_M_Model (oc_M_Model a ι _) rfl dX8_as_28 ?_
        refine gx_iload_1 C dX8_as_31 rfl ?_
        obtain ⟨hi5, h⟩ := gi_ck h
        refine gs_iald (q := 1) C (ac_M_M_kindOf hx a) lt_M_M_kindOf hi5 dX8_as_32 ?_
        refine gx_iload_2 C dX8_as_33 rfl ?_
        refine gx_icmp_eq (tgt := 52) C dX8_as_34 (by decide) (fun hc8 => ?_) (fun hc8 => ?_)
        · have h := gi_t hc8 h
          exact gx_weak (gx_le_k rfl (gx_le_k rfl (gx_le_n gx_le_0))) (bn_as_52 hx C ⟨F, hnL⟩ h)
        · have h := gi_f hc8 h
          refine gx_iload_2 C dX8_as_37 rfl ?_
          refine gx_iconst1 C dX8_as_38 ?_
          refine gx_icmp_ne (tgt := 56) C dX8_as_39 (by decide) (fun hc7 => ?_) (fun hc7 => ?_)
          · have h := gi_f hc7 h
            exact gx_weak (gx_le_k rfl (gx_le_n (gx_le_n gx_le_0))) (bn_as_56 hx C ⟨F, hnL⟩ h)
          · have h := gi_t hc7 h
            refine gx_aload_0 C dX8_as_42 rfl ?_
            refine gs_getf (q := 0) C fl_X8_7 (cls_X8 hx) lt_M_Model (oc_M_Model a ι _) rfl dX8_as_43 ?_
            refine gx_iload_1 C dX8_as_46 rfl ?_
            refine gs_iald (q := 1) C (ac_M_M_kindOf hx a) lt_M_M_kindOf hi5 dX8_as_47 ?_
            refine gx_iconst4 C dX8_as_48 ?_
            refine gx_icmp_ne (tgt := 56) C dX8_as_49 (by decide) (fun hc6 => ?_) (fun hc6 => ?_)
            · have h := gi_f hc6 h
              exact gx_weak (gx_le_k rfl (gx_le_n (gx_le_n gx_le_0))) (bn_as_56 hx C ⟨F, hnL⟩ h)
            · have h := gi_t hc6 h
              exact gx_weak (gx_le_k rfl (gx_le_k rfl (gx_le_n gx_le_0))) (bn_as_52 hx C ⟨F, hnL⟩ h)
    · have h := gi_t hc10 h
      refine gx_bipush (v := (-102)) C dX8_as_20 (by decide) ?_
      exact gx_iret C F rfl dX8_as_22 (congrArg (fun z => (z, S)) (Option.some.inj h))
  · have h := gi_t hc11 h
    refine gx_bipush (v := (-101)) C dX8_as_8 (by decide) ?_
    exact gx_iret C F rfl dX8_as_10 (congrArg (fun z => (z, S)) (Option.some.inj h))
def n_shopsOf_28 (k4 : Int32 × Int32 → Option (Int32)) (x1 : Int32) (x3 : Int32) (s0 : Int32) (s1 : Int32) (S : gx_S) : Option (Int32) := k4 ((s0 + s1), (x3 + 1))
set_option maxRecDepth 20000 in
set_option maxHeartbeats 1000000 in
theorem bn_shopsOf_28 {Γ : gx_T} {ι : Nat → ClassId} {a : Nat → Nat} {out : Int32} {S : gx_S} (hx : gx_std vwCl (gty ι) (gx_cl Γ) (gx_ty Γ)) (C : gx_ok Γ cX8_shopsOf RX8 gx_U 0) (F : gx_finI Γ ((Option.some Jvm.ClassFile.FieldType.int)) (wM a ι) (out, S) ∧ gx_nL Γ = 4) {k4 : Int32 × Int32 → Option (Int32)} {x1 : Int32} {x3 : Int32} {s0 : Int32} {s1 : Int32} (hk4 : ∀ (x27 : Int32) (x37 : Int32), k4 (x27, x37) = some out → gx_G Γ 0 0 4 [.ref (a 0), .int x1, .int x27, .int x37] [] (wM a ι S)) (h : n_shopsOf_28 k4 x1 x3 s0 s1 S = some out) : gx_G Γ 0 0 28 [.ref (a 0), .int x1, .null, .int x3] [.int s1, .int s0] (wM a ι S) := by
  obtain ⟨F, hnL⟩ := F
  unfold n_shopsOf_28 at h
  refine gx_iadd C dX8_shopsOf_28 ?_
  refine gx_istore_2 C dX8_shopsOf_29 (by rw [hnL]; decide) trivial ?_
  refine gx_iinc1 C dX8_shopsOf_30 rfl (by rw [hnL]; decide) trivial ?_
  refine gx_goto (tgt := 4) C dX8_shopsOf_33 (by decide) ?_
  exact gx_weak (gx_le_k rfl (gx_le_k rfl (gx_le_k rfl (gx_le_k rfl gx_le_0)))) (hk4 _ _ h)
def n_shopsOf_4 (x1 : Int32) (S : gx_S) (t : Int32 × Int32) (k4 : Int32 × Int32 → Option (Int32)) : Option (Int32) := match t with
  | (x2, x3) => if (S 0 4) ≤ x3 then some x2 else gx_ck 6 x3 (if (S 4 x3.toNatClampNeg) = x1 then n_shopsOf_28 k4 x1 x3 x2 1 S else n_shopsOf_28 k4 x1 x3 x2 0 S)
set_option maxRecDepth 20000 in
set_option maxHeartbeats 1000000 in
theorem bn_shopsOf_4 {Γ : gx_T} {ι : Nat → ClassId} {a : Nat → Nat} {out : Int32} {S : gx_S} (hx : gx_std vwCl (gty ι) (gx_cl Γ) (gx_ty Γ)) (C : gx_ok Γ cX8_shopsOf RX8 gx_U 0) (F : gx_finI Γ ((Option.some Jvm.ClassFile.FieldType.int)) (wM a ι) (out, S) ∧ gx_nL Γ = 4) {k4 : Int32 × Int32 → Option (Int32)} {x1 : Int32} {x2 : Int32} {x3 : Int32} (hk4 : ∀ (x27 : Int32) (x37 : Int32), k4 (x27, x37) = some out → gx_G Γ 0 0 4 [.ref (a 0), .int x1, .int x27, .int x37] [] (wM a ι S)) (h : n_shopsOf_4 x1 S (x2, x3) k4 = some out) : gx_G Γ 0 0 4 [.ref (a 0), .int x1, .int x2, .int x3] [] (wM a ι S) := by
  obtain ⟨F, hnL⟩ := F
  unfold n_shopsOf_4 at h
  dsimp only at h
  refine gx_iload_3 C dX8_shopsOf_4 rfl ?_
  refine gx_aload_0 C dX8_shopsOf_5 rfl ?_
  refine gs_getf (q := 0) C fl_X8_98 (cls_X8 hx) lt_M_Model (oc_M_Model a ι _) rfl dX8_shopsOf_6 ?_
  refine gx_icmp_ge (tgt := 36) C dX8_shopsOf_9 (by decide) (fun hc3 => ?_) (fun hc3 => ?_)
  · have h := gi_t hc3 h
    refine gx_iload_2 C dX8_shopsOf_36 rfl ?_
    exact gx_iret C F rfl dX8_shopsOf_37 (congrArg (fun z => (z, S)) (Option.some.inj h))
  · have h := gi_f hc3 h
    refine gx_iload_2 C dX8_shopsOf_12 rfl ?_
    refine gx_aload_0 C dX8_shopsOf_13 rfl ?_
    refine gs_getf (q := 0) C fl_X8_20 (cls_X8 hx) lt_M_Model (oc_M_Model a ι _) rfl dX8_shopsOf_14 ?_
    refine gx_iload_3 C dX8_shopsOf_17 rfl ?_
    obtain ⟨hi1, h⟩ := gi_ck h
    refine gs_iald (q := 4) C (ac_M_M_ownerOf hx a) lt_M_M_ownerOf hi1 dX8_shopsOf_18 ?_
    refine gx_iload_1 C dX8_shopsOf_19 rfl ?_
    refine gx_icmp_ne (tgt := 27) C dX8_shopsOf_20 (by decide) (fun hc2 => ?_) (fun hc2 => ?_)
    · have h := gi_f hc2 h
      refine gx_iconst0 C dX8_shopsOf_27 ?_
      exact gx_weak (gx_le_k rfl (gx_le_k rfl (gx_le_n (gx_le_k rfl gx_le_0)))) (bn_shopsOf_28 hx C ⟨F, hnL⟩ hk4 h)
    · have h := gi_t hc2 h
      refine gx_iconst1 C dX8_shopsOf_23 ?_
      refine gx_goto (tgt := 28) C dX8_shopsOf_24 (by decide) ?_
      exact gx_weak (gx_le_k rfl (gx_le_k rfl (gx_le_n (gx_le_k rfl gx_le_0)))) (bn_shopsOf_28 hx C ⟨F, hnL⟩ hk4 h)
def n_shopsOf (x1 : Int32) (S : gx_S) : Option (Int32) := gx_loop (n_shopsOf_4 x1 S) 5000 (0, 0)
set_option maxRecDepth 20000 in
set_option maxHeartbeats 1000000 in
theorem cn_shopsOf (l : Launch) (D : va_G) {cl : List vw_C} {tys : List (ClassId × FieldType)} {ι : Nat → ClassId} (hx : gx_std vwCl (gty ι) cl tys) (a : Nat → Nat) (x1 : Int32) (S : gx_S) {out : Int32} (h : n_shopsOf x1 S = some out) : gx_mI l D cl tys yX8_shopsOf (.code yX8_shopsOf cX8_shopsOf 4 ((Option.some Jvm.ClassFile.FieldType.int)) :: gx_U) (gx_rm 0) [.ref (a 0), .int x1] (wM a ι S) (wM a ι) (out, S) := by
  unfold n_shopsOf at h
  refine gx_startI (V := [.ref (a 0), .int x1, .null, .null]) 2 (by decide +kernel) (Nat.le_of_ble_eq_true rfl) rfl (fun Γ hl hD hcl hty hnL C F => ?_)
  subst hl; subst hD; subst hcl; subst hty
  refine gx_iconst0 C dX8_shopsOf_0 ?_
  refine gx_istore_2 C dX8_shopsOf_1 (by rw [hnL]; decide) trivial ?_
  refine gx_iconst0 C dX8_shopsOf_2 ?_
  refine gx_istore_3 C dX8_shopsOf_3 (by rw [hnL]; decide) trivial ?_
  refine gx_weak (gx_le_k rfl (gx_le_k rfl (gx_le_k rfl (gx_le_k rfl gx_le_0)))) (gi_loop (P := fun t => gx_G Γ 0 0 4 [.ref (a 0), .int x1, .int t.1, .int t.2] [] (wM a ι S)) (fun kk t hk h => ?_) 5000 _ h)
  obtain ⟨x29, x39⟩ := t
  exact bn_shopsOf_4 hx C ⟨F, hnL⟩ (k4 := kk) (fun x28 x38 h => hk (x28, x38) h) h
def n_shop (x1 : Int32) (x2 : Int32) (x3 : Int32) (x4 : Int32) (S : gx_S) : Option (Int32 × gx_S) := gx_cp (n_isOwner x1 S) fun v2 => if v2 = 0 then some ((-101), S) else gx_cp (n_within x2 0 9 S) fun v4 => if v4 = 0 then some ((-102), S) else gx_cp (n_within x3 0 9 S) fun v6 => if v6 = 0 then some ((-102), S) else gx_cp (n_within x4 0 9 S) fun v8 => if v8 = 0 then some ((-102), S) else if (S 0 4) = 6 then some ((-104), S) else gx_cp (n_shopsOf x1 S) fun v10 => if v10 = 3 then some ((-104), S) else gx_ck 6 (S 0 4) (gx_let (gx_st S 4 (S 0 4).toNatClampNeg x1) fun S12 => gx_ck 6 (S12 0 4) (gx_let (gx_st S12 5 (S12 0 4).toNatClampNeg x2) fun S15 => gx_ck 6 (S15 0 4) (gx_let (gx_st S15 6 (S15 0 4).toNatClampNeg x3) fun S18 => gx_ck 6 (S18 0 4) (gx_let (gx_st S18 7 (S18 0 4).toNatClampNeg x4) fun S21 => gx_let (gx_st S21 0 4 ((S21 0 4) + (1 : Int32))) fun S23 => some ((S23 0 4) - (1 : Int32), S23)))))
set_option maxRecDepth 20000 in
set_option maxHeartbeats 1000000 in
theorem cn_shop (l : Launch) (D : va_G) {cl : List vw_C} {tys : List (ClassId × FieldType)} {ι : Nat → ClassId} (hx : gx_std vwCl (gty ι) cl tys) (a : Nat → Nat) (x1 : Int32) (x2 : Int32) (x3 : Int32) (x4 : Int32) (S : gx_S) {out : Int32 × gx_S} (h : n_shop x1 x2 x3 x4 S = some out) : gx_mI l D cl tys yX8_shop (.code yX8_shop cX8_shop 5 ((Option.some Jvm.ClassFile.FieldType.int)) :: gx_U) (gx_rm 2) [.ref (a 0), .int x1, .int x2, .int x3, .int x4] (wM a ι S) (wM a ι) out := by
  unfold n_shop at h
  refine gx_startI (V := [.ref (a 0), .int x1, .int x2, .int x3, .int x4]) 0 (by decide +kernel) (Nat.le_of_ble_eq_true rfl) rfl (fun Γ hl hD hcl hty hnL C F => ?_)
  subst hl; subst hD; subst hcl; subst hty
  refine gx_aload_0 C dX8_shop_0 rfl ?_
  refine gx_iload_1 C dX8_shop_1 rfl ?_
  obtain ⟨v2, e1, h⟩ := gi_cp h
  refine gc_IV C (cn_isOwner (gx_l Γ) (gx_D Γ) hx a _ _ e1) (gx_cw C gx_uu lk_X8_104 (by decide) (by decide)) (cls_X8 hx).1 (gs_recv (q := 0) lt_M_Model (oc_M_Model a ι _)) rfl rfl (Nat.le_of_ble_eq_true rfl) ⟨Nat.zero_le _, Nat.zero_le _⟩ dX8_shop_2 ?_
  refine gx_if_ne (tgt := 11) C dX8_shop_5 (by decide) (fun hc30 => ?_) (fun hc30 => ?_)
  · have h := gi_f hc30 h
    refine gx_iload_2 C dX8_shop_11 rfl ?_
    refine gx_iconst0 C dX8_shop_12 ?_
    refine gx_bipush (v := 9) C dX8_shop_13 (by decide) ?_
    obtain ⟨v4, e3, h⟩ := gi_cp h
    refine gc_IS C (cn_within (gx_l Γ) (gx_D Γ) hx a _ _ _ _ e3) (gx_cwS C gx_uu lk_X8_94 (by decide) (by decide)) rfl rfl (Nat.le_of_ble_eq_true rfl) ⟨Nat.zero_le _, Nat.zero_le _⟩ dX8_shop_15 ?_
    refine gx_if_eq (tgt := 42) C dX8_shop_18 (by decide) (fun hc29 => ?_) (fun hc29 => ?_)
    · have h := gi_t hc29 h
      refine gx_bipush (v := (-102)) C dX8_shop_42 (by decide) ?_
      exact gx_iret C F rfl dX8_shop_44 (Option.some.inj h)
    · have h := gi_f hc29 h
      refine gx_iload_3 C dX8_shop_21 rfl ?_
      refine gx_iconst0 C dX8_shop_22 ?_
      refine gx_bipush (v := 9) C dX8_shop_23 (by decide) ?_
      obtain ⟨v6, e5, h⟩ := gi_cp h
      refine gc_IS C (cn_within (gx_l Γ) (gx_D Γ) hx a _ _ _ _ e5) (gx_cwS C gx_uu lk_X8_94 (by decide) (by decide)) rfl rfl (Nat.le_of_ble_eq_true rfl) ⟨Nat.zero_le _, Nat.zero_le _⟩ dX8_shop_25 ?_
      refine gx_if_eq (tgt := 42) C dX8_shop_28 (by decide) (fun hc28 => ?_) (fun hc28 => ?_)
      · have h := gi_t hc28 h
        refine gx_bipush (v := (-102)) C dX8_shop_42 (by decide) ?_
        exact gx_iret C F rfl dX8_shop_44 (Option.some.inj h)
      · have h := gi_f hc28 h
        refine gx_iload C dX8_shop_31 rfl ?_
        refine gx_iconst0 C dX8_shop_33 ?_
        refine gx_bipush (v := 9) C dX8_shop_34 (by decide) ?_
        obtain ⟨v8, e7, h⟩ := gi_cp h
        refine gc_IS C (cn_within (gx_l Γ) (gx_D Γ) hx a _ _ _ _ e7) (gx_cwS C gx_uu lk_X8_94 (by decide) (by decide)) rfl rfl (Nat.le_of_ble_eq_true rfl) ⟨Nat.zero_le _, Nat.zero_le _⟩ dX8_shop_36 ?_
        refine gx_if_ne (tgt := 45) C dX8_shop_39 (by decide) (fun hc27 => ?_) (fun hc27 => ?_)
        · have h := gi_f hc27 h
          refine gx_aload_0 C dX8_shop_45 rfl ?_
          refine gs_getf (q := 0) C fl_X8_98 (cls_X8 hx) lt_M_Model (oc_M_Model a ι _) rfl dX8_shop_46 ?_
          refine gx_bipush (v := 6) C dX8_shop_49 (by decide) ?_
          refine gx_icmp_eq (tgt := 63) C dX8_shop_51 (by decide) (fun hc26 => ?_) (fun hc26 => ?_)
          · have h := gi_t hc26 h
            refine gx_bipush (v := (-104)) C dX8_shop_63 (by decide) ?_
            exact gx_iret C F rfl dX8_shop_65 (Option.some.inj h)
          · have h := gi_f hc26 h
            refine gx_aload_0 C dX8_shop_54 rfl ?_
            refine gx_iload_1 C dX8_shop_55 rfl ?_
            obtain ⟨v10, e9, h⟩ := gi_cp h
            refine gc_IV C (cn_shopsOf (gx_l Γ) (gx_D Γ) hx a _ _ e9) (gx_cw C gx_uu lk_X8_108 (by decide) (by decide)) (cls_X8 hx).1 (gs_recv (q := 0) lt_M_Model (oc_M_Model a ι _)) rfl rfl (Nat.le_of_ble_eq_true rfl) ⟨Nat.zero_le _, Nat.zero_le _⟩ dX8_shop_56 ?_
            refine gx_iconst3 C dX8_shop_59 ?_
            refine gx_icmp_ne (tgt := 66) C dX8_shop_60 (by decide) (fun hc25 => ?_) (fun hc25 => ?_)
            · have h := gi_f hc25 h
              refine gx_aload_0 C dX8_shop_66 rfl ?_
              refine gs_getf (q := 0) C fl_X8_20 (cls_X8 hx) lt_M_Model (oc_M_Model a ι _) rfl dX8_shop_67 ?_
              refine gx_aload_0 C dX8_shop_70 rfl ?_
              refine gs_getf (q := 0) C fl_X8_98 (cls_X8 hx) lt_M_Model (oc_M_Model a ι _) rfl dX8_shop_71 ?_
              refine gx_iload_1 C dX8_shop_74 rfl ?_
              obtain ⟨hi11, h⟩ := gi_ck h
              obtain ⟨S12, e13, h⟩ := gi_let h
              refine gs_iast (q := 4) C (ac_M_M_ownerOf hx a) lt_M_M_ownerOf hi11 e13 dX8_shop_75 ?_
              refine gx_aload_0 C dX8_shop_76 rfl ?_
              refine gs_getf (q := 0) C fl_X8_23 (cls_X8 hx) lt_M_Model (oc_M_Model a ι _) rfl dX8_shop_77 ?_
              refine gx_aload_0 C dX8_shop_80 rfl ?_
              refine gs_getf (q := 0) C fl_X8_98 (cls_X8 hx) lt_M_Model (oc_M_Model a ι _) rfl dX8_shop_81 ?_
              refine gx_iload_2 C dX8_shop_84 rfl ?_
              obtain ⟨hi14, h⟩ := gi_ck h
              obtain ⟨S15, e16, h⟩ := gi_let h
              refine gs_iast (q := 5) C (ac_M_M_placeOf hx a) lt_M_M_placeOf hi14 e16 dX8_shop_85 ?_
              refine gx_aload_0 C dX8_shop_86 rfl ?_
              refine gs_getf (q := 0) C fl_X8_26 (cls_X8 hx) lt_M_Model (oc_M_Model a ι _) rfl dX8_shop_87 ?_
              refine gx_aload_0 C dX8_shop_90 rfl ?_
              refine gs_getf (q := 0) C fl_X8_98 (cls_X8 hx) lt_M_Model (oc_M_Model a ι _) rfl dX8_shop_91 ?_
              refine gx_iload_3 C dX8_shop_94 rfl ?_
              obtain ⟨hi17, h⟩ := gi_ck h
              obtain ⟨S18, e19, h⟩ := gi_let h
              refine gs_iast (q := 6) C (ac_M_M_costOf hx a) lt_M_M_costOf hi17 e19 dX8_shop_95 ?_
              refine gx_aload_0 C dX8_shop_96 rfl ?_
              refine gs_getf (q := 0) C fl_X8_29 (cls_X8 hx) lt_M_Model (oc_M_Model a ι _) rfl dX8_shop_97 ?_
              refine gx_aload_0 C dX8_shop_100 rfl ?_
              refine gs_getf (q := 0) C fl_X8_98 (cls_X8 hx) lt_M_Model (oc_M_Model a ι _) rfl dX8_shop_101 ?_
              refine gx_iload C dX8_shop_104 rfl ?_
              obtain ⟨hi20, h⟩ := gi_ck h
              obtain ⟨S21, e22, h⟩ := gi_let h
              refine gs_iast (q := 7) C (ac_M_M_priceOf hx a) lt_M_M_priceOf hi20 e22 dX8_shop_106 ?_
              refine gx_aload_0 C dX8_shop_107 rfl ?_
              refine gx_dup C dX8_shop_108 rfl ?_
              refine gs_getf (q := 0) C fl_X8_98 (cls_X8 hx) lt_M_Model (oc_M_Model a ι _) rfl dX8_shop_109 ?_
              refine gx_iconst1 C dX8_shop_112 ?_
              refine gx_iadd C dX8_shop_113 ?_
              obtain ⟨S23, e24, h⟩ := gi_let h
              refine gs_puti (q := 0) C fl_X8_98 (cls_X8 hx) lt_M_Model (oc_M_Model a ι _) (oc_M_Model a ι _) rfl rfl rfl (Nat.le_of_ble_eq_true rfl) e24 dX8_shop_114 ?_
              refine gx_aload_0 C dX8_shop_117 rfl ?_
              refine gs_getf (q := 0) C fl_X8_98 (cls_X8 hx) lt_M_Model (oc_M_Model a ι _) rfl dX8_shop_118 ?_
              refine gx_iconst1 C dX8_shop_121 ?_
              refine gx_isub C dX8_shop_122 ?_
              exact gx_iret C F rfl dX8_shop_123 (Option.some.inj h)
            · have h := gi_t hc25 h
              refine gx_bipush (v := (-104)) C dX8_shop_63 (by decide) ?_
              exact gx_iret C F rfl dX8_shop_65 (Option.some.inj h)
        · have h := gi_t hc27 h
          refine gx_bipush (v := (-102)) C dX8_shop_42 (by decide) ?_
          exact gx_iret C F rfl dX8_shop_44 (Option.some.inj h)
  · have h := gi_t hc30 h
    refine gx_bipush (v := (-101)) C dX8_shop_8 (by decide) ?_
    exact gx_iret C F rfl dX8_shop_10 (Option.some.inj h)
def n_isOpen_37 (S : gx_S) : Option (Int32) := some 1
set_option maxRecDepth 20000 in
set_option maxHeartbeats 1000000 in
theorem bn_isOpen_37 {Γ : gx_T} {ι : Nat → ClassId} {a : Nat → Nat} {out : Int32} {S : gx_S} (hx : gx_std vwCl (gty ι) (gx_cl Γ) (gx_ty Γ)) (C : gx_ok Γ cX8_isOpen RX8 gx_U 0) (F : gx_finI Γ ((Option.some Jvm.ClassFile.FieldType.boolean)) (wM a ι) (out, S) ∧ gx_nL Γ = 2) (h : n_isOpen_37 S = some out) : gx_G Γ 0 0 37 [.ref (a 0), .null] [] (wM a ι S) := by
  obtain ⟨F, hnL⟩ := F
  unfold n_isOpen_37 at h
  refine gx_iconst1 C dX8_isOpen_37 ?_
  refine gx_goto (tgt := 42) C dX8_isOpen_38 (by decide) ?_
  exact gx_iret C F (by decide) dX8_isOpen_42 (congrArg (fun z => (z, S)) (Option.some.inj h))
def n_isOpen_41 (S : gx_S) : Option (Int32) := some 0
set_option maxRecDepth 20000 in
set_option maxHeartbeats 1000000 in
theorem bn_isOpen_41 {Γ : gx_T} {ι : Nat → ClassId} {a : Nat → Nat} {out : Int32} {S : gx_S} (hx : gx_std vwCl (gty ι) (gx_cl Γ) (gx_ty Γ)) (C : gx_ok Γ cX8_isOpen RX8 gx_U 0) (F : gx_finI Γ ((Option.some Jvm.ClassFile.FieldType.boolean)) (wM a ι) (out, S) ∧ gx_nL Γ = 2) (h : n_isOpen_41 S = some out) : gx_G Γ 0 0 41 [.ref (a 0), .null] [] (wM a ι S) := by
  obtain ⟨F, hnL⟩ := F
  unfold n_isOpen_41 at h
  refine gx_iconst0 C dX8_isOpen_41 ?_
  exact gx_iret C F (by decide) dX8_isOpen_42 (congrArg (fun z => (z, S)) (Option.some.inj h))
def n_isOpen (x1 : Int32) (S : gx_S) : Option (Int32) := if x1 = (S 0 23) then n_isOpen_41 S else gx_ck 6 x1 (gx_ck 6 (S 4 x1.toNatClampNeg) (if (S 1 (S 4 x1.toNatClampNeg).toNatClampNeg) = 4 then if (S 3 (S 4 x1.toNatClampNeg).toNatClampNeg) = 0 then n_isOpen_41 S else n_isOpen_37 S else n_isOpen_37 S))
set_option maxRecDepth 20000 in
set_option maxHeartbeats 1000000 in
theorem cn_isOpen (l : Launch) (D : va_G) {cl : List vw_C} {tys : List (ClassId × FieldType)} {ι : Nat → ClassId} (hx : gx_std vwCl (gty ι) cl tys) (a : Nat → Nat) (x1 : Int32) (S : gx_S) {out : Int32} (h : n_isOpen x1 S = some out) : gx_mI l D cl tys yX8_isOpen (.code yX8_isOpen cX8_isOpen 2 ((Option.some Jvm.ClassFile.FieldType.boolean)) :: gx_U) (gx_rm 0) [.ref (a 0), .int x1] (wM a ι S) (wM a ι) (out, S) := by
  unfold n_isOpen at h
  refine gx_startI (V := [.ref (a 0), .int x1]) 0 (by decide +kernel) (Nat.le_of_ble_eq_true rfl) rfl (fun Γ hl hD hcl hty hnL C F => ?_)
  subst hl; subst hD; subst hcl; subst hty
  refine gx_iload_1 C dX8_isOpen_0 rfl ?_
  refine gx_aload_0 C dX8_isOpen_1 rfl ?_
  refine gs_getf (q := 0) C fl_X8_54 (cls_X8 hx) lt_M_Model (oc_M_Model a ι _) rfl dX8_isOpen_2 ?_
  refine gx_icmp_eq (tgt := 41) C dX8_isOpen_5 (by decide) (fun hc5 => ?_) (fun hc5 => ?_)
  · have h := gi_t hc5 h
    exact gx_weak (gx_le_k rfl (gx_le_n gx_le_0)) (bn_isOpen_41 hx C ⟨F, hnL⟩ h)
  · have h := gi_f hc5 h
    refine gx_aload_0 C dX8_isOpen_8 rfl ?_
    refine gs_getf (q := 0) C fl_X8_7 (cls_X8 hx) lt_M_Model (oc_M_Model a ι _) rfl dX8_isOpen_9 ?_
    refine gx_aload_0 C dX8_isOpen_12 rfl ?_
    refine gs_getf (q := 0) C fl_X8_20 (cls_X8 hx) lt_M_Model (oc_M_Model a ι _) rfl dX8_isOpen_13 ?_
    refine gx_iload_1 C dX8_isOpen_16 rfl ?_
    obtain ⟨hi1, h⟩ := gi_ck h
    refine gs_iald (q := 4) C (ac_M_M_ownerOf hx a) lt_M_M_ownerOf hi1 dX8_isOpen_17 ?_
    obtain ⟨hi2, h⟩ := gi_ck h
    refine gs_iald (q := 1) C (ac_M_M_kindOf hx a) lt_M_M_kindOf hi2 dX8_isOpen_18 ?_
    refine gx_iconst4 C dX8_isOpen_19 ?_
    refine gx_icmp_ne (tgt := 37) C dX8_isOpen_20 (by decide) (fun hc4 => ?_) (fun hc4 => ?_)
    · have h := gi_f hc4 h
      exact gx_weak (gx_le_k rfl (gx_le_n gx_le_0)) (bn_isOpen_37 hx C ⟨F, hnL⟩ h)
    · have h := gi_t hc4 h
      refine gx_aload_0 C dX8_isOpen_23 rfl ?_
      refine gs_getf (q := 0) C fl_X8_16 (cls_X8 hx) lt_M_Model (oc_M_Model a ι _) rfl dX8_isOpen_24 ?_
      refine gx_aload_0 C dX8_isOpen_27 rfl ?_
      refine gs_getf (q := 0) C fl_X8_20 (cls_X8 hx) lt_M_Model (oc_M_Model a ι _) rfl dX8_isOpen_28 ?_
      refine gx_iload_1 C dX8_isOpen_31 rfl ?_
      refine gs_iald (q := 4) C (ac_M_M_ownerOf hx a) lt_M_M_ownerOf hi1 dX8_isOpen_32 ?_
      refine gs_zald (q := 3) C (ac_M_M_isIn hx a) lt_M_M_isIn hi2 dX8_isOpen_33 ?_
      refine gx_if_eq (tgt := 41) C dX8_isOpen_34 (by decide) (fun hc3 => ?_) (fun hc3 => ?_)
      · have h := gi_t hc3 h
        exact gx_weak (gx_le_k rfl (gx_le_n gx_le_0)) (bn_isOpen_41 hx C ⟨F, hnL⟩ h)
      · have h := gi_f hc3 h
        exact gx_weak (gx_le_k rfl (gx_le_n gx_le_0)) (bn_isOpen_37 hx C ⟨F, hnL⟩ h)
def n_told (x1 : Int32) (x2 : Int32) (S : gx_S) : Option (Int32) := gx_ck 48 (((6 : Int32) * x1) + x2) (some (S 8 (((6 : Int32) * x1) + x2).toNatClampNeg))
set_option maxRecDepth 20000 in
set_option maxHeartbeats 1000000 in
theorem cn_told (l : Launch) (D : va_G) {cl : List vw_C} {tys : List (ClassId × FieldType)} {ι : Nat → ClassId} (hx : gx_std vwCl (gty ι) cl tys) (a : Nat → Nat) (x1 : Int32) (x2 : Int32) (S : gx_S) {out : Int32} (h : n_told x1 x2 S = some out) : gx_mI l D cl tys yX8_told (.code yX8_told cX8_told 3 ((Option.some Jvm.ClassFile.FieldType.int)) :: gx_U) (gx_rm 0) [.ref (a 0), .int x1, .int x2] (wM a ι S) (wM a ι) (out, S) := by
  unfold n_told at h
  refine gx_startI (V := [.ref (a 0), .int x1, .int x2]) 0 (by decide +kernel) (Nat.le_of_ble_eq_true rfl) rfl (fun Γ hl hD hcl hty hnL C F => ?_)
  subst hl; subst hD; subst hcl; subst hty
  refine gx_aload_0 C dX8_told_0 rfl ?_
  refine gs_getf (q := 0) C fl_X8_32 (cls_X8 hx) lt_M_Model (oc_M_Model a ι _) rfl dX8_told_1 ?_
  refine gx_bipush (v := 6) C dX8_told_4 (by decide) ?_
  refine gx_iload_1 C dX8_told_6 rfl ?_
  refine gx_imul C dX8_told_7 ?_
  refine gx_iload_2 C dX8_told_8 rfl ?_
  refine gx_iadd C dX8_told_9 ?_
  obtain ⟨hi1, h⟩ := gi_ck h
  refine gs_iald (q := 8) C (ac_M_M_sortOf hx a) lt_M_M_sortOf hi1 dX8_told_10 ?_
  exact gx_iret C F rfl dX8_told_11 (congrArg (fun z => (z, S)) (Option.some.inj h))
def n_isTo (x1 : Int32) (x2 : Int32) (S : gx_S) : Option (Int32) := gx_cp (n_told x1 2 S) fun v2 => gx_ck 6 x2 (gx_cp (n_told x1 0 S) fun v5 => gx_cp (n_size ((S 5 x2.toNatClampNeg) - v5) S) fun v7 => gx_cp (n_told x1 4 S) fun v9 => if v9 = x2 then gx_cp (n_told x1 5 S) fun v11 => some (((S 7 x2.toNatClampNeg) + (v2 * v7)) - v11) else some (((S 7 x2.toNatClampNeg) + (v2 * v7)) - (0 : Int32)))
set_option maxRecDepth 20000 in
set_option maxHeartbeats 1000000 in
theorem cn_isTo (l : Launch) (D : va_G) {cl : List vw_C} {tys : List (ClassId × FieldType)} {ι : Nat → ClassId} (hx : gx_std vwCl (gty ι) cl tys) (a : Nat → Nat) (x1 : Int32) (x2 : Int32) (S : gx_S) {out : Int32} (h : n_isTo x1 x2 S = some out) : gx_mI l D cl tys yX8_isTo (.code yX8_isTo cX8_isTo 4 ((Option.some Jvm.ClassFile.FieldType.int)) :: gx_U) (gx_rm 1) [.ref (a 0), .int x1, .int x2] (wM a ι S) (wM a ι) (out, S) := by
  unfold n_isTo at h
  refine gx_startI (V := [.ref (a 0), .int x1, .int x2, .null]) 1 (by decide +kernel) (Nat.le_of_ble_eq_true rfl) rfl (fun Γ hl hD hcl hty hnL C F => ?_)
  subst hl; subst hD; subst hcl; subst hty
  refine gx_aload_0 C dX8_isTo_0 rfl ?_
  refine gx_iload_1 C dX8_isTo_1 rfl ?_
  refine gx_iconst2 C dX8_isTo_2 ?_
  obtain ⟨v2, e1, h⟩ := gi_cp h
  refine gc_IV C (cn_told (gx_l Γ) (gx_D Γ) hx a _ _ _ e1) (gx_cw C gx_uu lk_X8_112 (by decide) (by decide)) (cls_X8 hx).1 (gs_recv (q := 0) lt_M_Model (oc_M_Model a ι _)) rfl rfl (Nat.le_of_ble_eq_true rfl) ⟨Nat.zero_le _, Nat.zero_le _⟩ dX8_isTo_3 ?_
  refine gx_aload_0 C dX8_isTo_6 rfl ?_
  refine gs_getf (q := 0) C fl_X8_23 (cls_X8 hx) lt_M_Model (oc_M_Model a ι _) rfl dX8_isTo_7 ?_
  refine gx_iload_2 C dX8_isTo_10 rfl ?_
  obtain ⟨hi3, h⟩ := gi_ck h
  refine gs_iald (q := 5) C (ac_M_M_placeOf hx a) lt_M_M_placeOf hi3 dX8_isTo_11 ?_
  refine gx_aload_0 C dX8_isTo_12 rfl ?_
  refine gx_iload_1 C dX8_isTo_13 rfl ?_
  refine gx_iconst0 C dX8_isTo_14 ?_
  obtain ⟨v5, e4, h⟩ := gi_cp h
  refine gc_IV C (cn_told (gx_l Γ) (gx_D Γ) hx a _ _ _ e4) (gx_cw C gx_uu lk_X8_112 (by decide) (by decide)) (cls_X8 hx).1 (gs_recv (q := 0) lt_M_Model (oc_M_Model a ι _)) rfl rfl (Nat.le_of_ble_eq_true rfl) ⟨Nat.zero_le _, Nat.zero_le _⟩ dX8_isTo_15 ?_
  refine gx_isub C dX8_isTo_18 ?_
  obtain ⟨v7, e6, h⟩ := gi_cp h
  refine gc_IS C (cn_size (gx_l Γ) (gx_D Γ) hx a _ _ e6) (gx_cwS C gx_uu lk_X8_116 (by decide) (by decide)) rfl rfl (Nat.le_of_ble_eq_true rfl) ⟨Nat.zero_le _, Nat.zero_le _⟩ dX8_isTo_19 ?_
  refine gx_imul C dX8_isTo_22 ?_
  refine gx_istore_3 C dX8_isTo_23 (by rw [hnL]; decide) trivial ?_
  refine gx_aload_0 C dX8_isTo_24 rfl ?_
  refine gs_getf (q := 0) C fl_X8_29 (cls_X8 hx) lt_M_Model (oc_M_Model a ι _) rfl dX8_isTo_25 ?_
  refine gx_iload_2 C dX8_isTo_28 rfl ?_
  refine gs_iald (q := 7) C (ac_M_M_priceOf hx a) lt_M_M_priceOf hi3 dX8_isTo_29 ?_
  refine gx_iload_3 C dX8_isTo_30 rfl ?_
  refine gx_iadd C dX8_isTo_31 ?_
  refine gx_aload_0 C dX8_isTo_32 rfl ?_
  refine gx_iload_1 C dX8_isTo_33 rfl ?_
  refine gx_iconst4 C dX8_isTo_34 ?_
  obtain ⟨v9, e8, h⟩ := gi_cp h
  refine gc_IV C (cn_told (gx_l Γ) (gx_D Γ) hx a _ _ _ e8) (gx_cw C gx_uu lk_X8_112 (by decide) (by decide)) (cls_X8 hx).1 (gs_recv (q := 0) lt_M_Model (oc_M_Model a ι _)) rfl rfl (Nat.le_of_ble_eq_true rfl) ⟨Nat.zero_le _, Nat.zero_le _⟩ dX8_isTo_35 ?_
  refine gx_iload_2 C dX8_isTo_38 rfl ?_
  refine gx_icmp_ne (tgt := 51) C dX8_isTo_39 (by decide) (fun hc12 => ?_) (fun hc12 => ?_)
  · have h := gi_f hc12 h
    refine gx_iconst0 C dX8_isTo_51 ?_
    refine gx_isub C dX8_isTo_52 ?_
    exact gx_iret C F rfl dX8_isTo_53 (congrArg (fun z => (z, S)) (Option.some.inj h))
  · have h := gi_t hc12 h
    refine gx_aload_0 C dX8_isTo_42 rfl ?_
    refine gx_iload_1 C dX8_isTo_43 rfl ?_
    refine gx_iconst5 C dX8_isTo_44 ?_
    obtain ⟨v11, e10, h⟩ := gi_cp h
    refine gc_IV C (cn_told (gx_l Γ) (gx_D Γ) hx a _ _ _ e10) (gx_cw C gx_uu lk_X8_112 (by decide) (by decide)) (cls_X8 hx).1 (gs_recv (q := 0) lt_M_Model (oc_M_Model a ι _)) rfl rfl (Nat.le_of_ble_eq_true rfl) ⟨Nat.zero_le _, Nat.zero_le _⟩ dX8_isTo_45 ?_
    refine gx_goto (tgt := 52) C dX8_isTo_48 (by decide) ?_
    refine gx_isub C dX8_isTo_52 ?_
    exact gx_iret C F rfl dX8_isTo_53 (congrArg (fun z => (z, S)) (Option.some.inj h))
def n_goesTo_45 (k4 : Int32 × Int32 → Option (Int32)) (x1 : Int32) (x3 : Int32) (s0 : Int32) (S : gx_S) : Option (Int32) := k4 (s0, (x3 + 1))
set_option maxRecDepth 20000 in
set_option maxHeartbeats 1000000 in
theorem bn_goesTo_45 {Γ : gx_T} {ι : Nat → ClassId} {a : Nat → Nat} {out : Int32} {S : gx_S} (hx : gx_std vwCl (gty ι) (gx_cl Γ) (gx_ty Γ)) (C : gx_ok Γ cX8_goesTo RX8 gx_U 2) (F : gx_finI Γ ((Option.some Jvm.ClassFile.FieldType.int)) (wM a ι) (out, S) ∧ gx_nL Γ = 4) {k4 : Int32 × Int32 → Option (Int32)} {x1 : Int32} {x3 : Int32} {s0 : Int32} (hk4 : ∀ (x27 : Int32) (x37 : Int32), k4 (x27, x37) = some out → gx_G Γ 0 0 4 [.ref (a 0), .int x1, .int x27, .int x37] [] (wM a ι S)) (h : n_goesTo_45 k4 x1 x3 s0 S = some out) : gx_G Γ 0 0 45 [.ref (a 0), .int x1, .null, .int x3] [.int s0] (wM a ι S) := by
  obtain ⟨F, hnL⟩ := F
  unfold n_goesTo_45 at h
  refine gx_istore_2 C dX8_goesTo_45 (by rw [hnL]; decide) trivial ?_
  refine gx_iinc1 C dX8_goesTo_46 rfl (by rw [hnL]; decide) trivial ?_
  refine gx_goto (tgt := 4) C dX8_goesTo_49 (by decide) ?_
  exact gx_weak (gx_le_k rfl (gx_le_k rfl (gx_le_k rfl (gx_le_k rfl gx_le_0)))) (hk4 _ _ h)
def n_goesTo_40 (k4 : Int32 × Int32 → Option (Int32)) (x1 : Int32) (x3 : Int32) (S : gx_S) : Option (Int32) := n_goesTo_45 k4 x1 x3 x3 S
set_option maxRecDepth 20000 in
set_option maxHeartbeats 1000000 in
theorem bn_goesTo_40 {Γ : gx_T} {ι : Nat → ClassId} {a : Nat → Nat} {out : Int32} {S : gx_S} (hx : gx_std vwCl (gty ι) (gx_cl Γ) (gx_ty Γ)) (C : gx_ok Γ cX8_goesTo RX8 gx_U 2) (F : gx_finI Γ ((Option.some Jvm.ClassFile.FieldType.int)) (wM a ι) (out, S) ∧ gx_nL Γ = 4) {k4 : Int32 × Int32 → Option (Int32)} {x1 : Int32} {x3 : Int32} (hk4 : ∀ (x27 : Int32) (x37 : Int32), k4 (x27, x37) = some out → gx_G Γ 0 0 4 [.ref (a 0), .int x1, .int x27, .int x37] [] (wM a ι S)) (h : n_goesTo_40 k4 x1 x3 S = some out) : gx_G Γ 0 0 40 [.ref (a 0), .int x1, .null, .int x3] [] (wM a ι S) := by
  obtain ⟨F, hnL⟩ := F
  unfold n_goesTo_40 at h
  refine gx_iload_3 C dX8_goesTo_40 rfl ?_
  refine gx_goto (tgt := 45) C dX8_goesTo_41 (by decide) ?_
  exact gx_weak (gx_le_k rfl (gx_le_k rfl (gx_le_n (gx_le_k rfl gx_le_0)))) (bn_goesTo_45 hx C ⟨F, hnL⟩ hk4 h)
def n_goesTo_44 (k4 : Int32 × Int32 → Option (Int32)) (x1 : Int32) (x2 : Int32) (x3 : Int32) (S : gx_S) : Option (Int32) := n_goesTo_45 k4 x1 x3 x2 S
set_option maxRecDepth 20000 in
set_option maxHeartbeats 1000000 in
theorem bn_goesTo_44 {Γ : gx_T} {ι : Nat → ClassId} {a : Nat → Nat} {out : Int32} {S : gx_S} (hx : gx_std vwCl (gty ι) (gx_cl Γ) (gx_ty Γ)) (C : gx_ok Γ cX8_goesTo RX8 gx_U 2) (F : gx_finI Γ ((Option.some Jvm.ClassFile.FieldType.int)) (wM a ι) (out, S) ∧ gx_nL Γ = 4) {k4 : Int32 × Int32 → Option (Int32)} {x1 : Int32} {x2 : Int32} {x3 : Int32} (hk4 : ∀ (x27 : Int32) (x37 : Int32), k4 (x27, x37) = some out → gx_G Γ 0 0 4 [.ref (a 0), .int x1, .int x27, .int x37] [] (wM a ι S)) (h : n_goesTo_44 k4 x1 x2 x3 S = some out) : gx_G Γ 0 0 44 [.ref (a 0), .int x1, .int x2, .int x3] [] (wM a ι S) := by
  obtain ⟨F, hnL⟩ := F
  unfold n_goesTo_44 at h
  refine gx_iload_2 C dX8_goesTo_44 rfl ?_
  exact gx_weak (gx_le_k rfl (gx_le_k rfl (gx_le_n (gx_le_k rfl gx_le_0)))) (bn_goesTo_45 hx C ⟨F, hnL⟩ hk4 h)
def n_goesTo_72 (S : gx_S) : Option (Int32) := some (-1)
set_option maxRecDepth 20000 in
set_option maxHeartbeats 1000000 in
theorem bn_goesTo_72 {Γ : gx_T} {ι : Nat → ClassId} {a : Nat → Nat} {out : Int32} {S : gx_S} (hx : gx_std vwCl (gty ι) (gx_cl Γ) (gx_ty Γ)) (C : gx_ok Γ cX8_goesTo RX8 gx_U 2) (F : gx_finI Γ ((Option.some Jvm.ClassFile.FieldType.int)) (wM a ι) (out, S) ∧ gx_nL Γ = 4) (h : n_goesTo_72 S = some out) : gx_G Γ 0 0 72 [.ref (a 0), .null, .null, .null] [] (wM a ι S) := by
  obtain ⟨F, hnL⟩ := F
  unfold n_goesTo_72 at h
  refine gx_iconstm1 C dX8_goesTo_72 ?_
  refine gx_goto (tgt := 77) C dX8_goesTo_73 (by decide) ?_
  exact gx_iret C F rfl dX8_goesTo_77 (congrArg (fun z => (z, S)) (Option.some.inj h))
def n_goesTo_4 (x1 : Int32) (S : gx_S) (t : Int32 × Int32) (k4 : Int32 × Int32 → Option (Int32)) : Option (Int32) := match t with
  | (x2, x3) => if (S 0 4) ≤ x3 then if x2 = (-1) then n_goesTo_72 S else gx_cp (n_isTo x1 x2 S) fun v2 => gx_cp (n_told x1 3 S) fun v4 => if v2 ≤ v4 then some x2 else n_goesTo_72 S else gx_cp (n_isOpen x3 S) fun v8 => if v8 = 0 then n_goesTo_44 k4 x1 x2 x3 S else if x2 = (-1) then n_goesTo_40 k4 x1 x3 S else gx_cp (n_isTo x1 x3 S) fun v10 => gx_cp (n_isTo x1 x2 S) fun v12 => if v12 ≤ v10 then n_goesTo_44 k4 x1 x2 x3 S else n_goesTo_40 k4 x1 x3 S
set_option maxRecDepth 20000 in
set_option maxHeartbeats 1000000 in
theorem bn_goesTo_4 {Γ : gx_T} {ι : Nat → ClassId} {a : Nat → Nat} {out : Int32} {S : gx_S} (hx : gx_std vwCl (gty ι) (gx_cl Γ) (gx_ty Γ)) (C : gx_ok Γ cX8_goesTo RX8 gx_U 2) (F : gx_finI Γ ((Option.some Jvm.ClassFile.FieldType.int)) (wM a ι) (out, S) ∧ gx_nL Γ = 4) {k4 : Int32 × Int32 → Option (Int32)} {x1 : Int32} {x2 : Int32} {x3 : Int32} (hk4 : ∀ (x27 : Int32) (x37 : Int32), k4 (x27, x37) = some out → gx_G Γ 0 0 4 [.ref (a 0), .int x1, .int x27, .int x37] [] (wM a ι S)) (h : n_goesTo_4 x1 S (x2, x3) k4 = some out) : gx_G Γ 0 0 4 [.ref (a 0), .int x1, .int x2, .int x3] [] (wM a ι S) := by
  obtain ⟨F, hnL⟩ := F
  unfold n_goesTo_4 at h
  dsimp only at h
  refine gx_iload_3 C dX8_goesTo_4 rfl ?_
  refine gx_aload_0 C dX8_goesTo_5 rfl ?_
  refine gs_getf (q := 0) C fl_X8_98 (cls_X8 hx) lt_M_Model (oc_M_Model a ι _) rfl dX8_goesTo_6 ?_
  refine gx_icmp_ge (tgt := 52) C dX8_goesTo_9 (by decide) (fun hc16 => ?_) (fun hc16 => ?_)
  · have h := gi_t hc16 h
    refine gx_iload_2 C dX8_goesTo_52 rfl ?_
    refine gx_iconstm1 C dX8_goesTo_53 ?_
    refine gx_icmp_eq (tgt := 72) C dX8_goesTo_54 (by decide) (fun hc6 => ?_) (fun hc6 => ?_)
    · have h := gi_t hc6 h
      exact gx_weak (gx_le_k rfl (gx_le_n (gx_le_n (gx_le_n gx_le_0)))) (bn_goesTo_72 hx C ⟨F, hnL⟩ h)
    · have h := gi_f hc6 h
      refine gx_aload_0 C dX8_goesTo_57 rfl ?_
      refine gx_iload_1 C dX8_goesTo_58 rfl ?_
      refine gx_iload_2 C dX8_goesTo_59 rfl ?_
      obtain ⟨v2, e1, h⟩ := gi_cp h
      refine gc_IV C (cn_isTo (gx_l Γ) (gx_D Γ) hx a _ _ _ e1) (gx_cw C gx_uu lk_X8_122 (by decide) (by decide)) (cls_X8 hx).1 (gs_recv (q := 0) lt_M_Model (oc_M_Model a ι _)) rfl rfl (Nat.le_of_ble_eq_true rfl) ⟨Nat.zero_le _, Nat.zero_le _⟩ dX8_goesTo_60 ?_
      refine gx_aload_0 C dX8_goesTo_63 rfl ?_
      refine gx_iload_1 C dX8_goesTo_64 rfl ?_
      refine gx_iconst3 C dX8_goesTo_65 ?_
      obtain ⟨v4, e3, h⟩ := gi_cp h
      refine gc_IV C (cn_told (gx_l Γ) (gx_D Γ) hx a _ _ _ e3) (gx_cw C gx_uu lk_X8_112 (by decide) (by decide)) (cls_X8 hx).1 (gs_recv (q := 0) lt_M_Model (oc_M_Model a ι _)) rfl rfl (Nat.le_of_ble_eq_true rfl) ⟨Nat.zero_le _, Nat.zero_le _⟩ dX8_goesTo_66 ?_
      refine gx_icmp_le (tgt := 76) C dX8_goesTo_69 (by decide) (fun hc5 => ?_) (fun hc5 => ?_)
      · have h := gi_t hc5 h
        refine gx_iload_2 C dX8_goesTo_76 rfl ?_
        exact gx_iret C F rfl dX8_goesTo_77 (congrArg (fun z => (z, S)) (Option.some.inj h))
      · have h := gi_f hc5 h
        exact gx_weak (gx_le_k rfl (gx_le_n (gx_le_n (gx_le_n gx_le_0)))) (bn_goesTo_72 hx C ⟨F, hnL⟩ h)
  · have h := gi_f hc16 h
    refine gx_aload_0 C dX8_goesTo_12 rfl ?_
    refine gx_iload_3 C dX8_goesTo_13 rfl ?_
    obtain ⟨v8, e7, h⟩ := gi_cp h
    refine gc_IV C (cn_isOpen (gx_l Γ) (gx_D Γ) hx a _ _ e7) (gx_cw C gx_uu lk_X8_119 (by decide) (by decide)) (cls_X8 hx).1 (gs_recv (q := 0) lt_M_Model (oc_M_Model a ι _)) rfl rfl (Nat.le_of_ble_eq_true rfl) ⟨Nat.zero_le _, Nat.zero_le _⟩ dX8_goesTo_14 ?_
    refine gx_if_eq (tgt := 44) C dX8_goesTo_17 (by decide) (fun hc15 => ?_) (fun hc15 => ?_)
    · have h := gi_t hc15 h
      exact gx_weak (gx_le_k rfl (gx_le_k rfl (gx_le_k rfl (gx_le_k rfl gx_le_0)))) (bn_goesTo_44 hx C ⟨F, hnL⟩ hk4 h)
    · have h := gi_f hc15 h
      refine gx_iload_2 C dX8_goesTo_20 rfl ?_
      refine gx_iconstm1 C dX8_goesTo_21 ?_
      refine gx_icmp_eq (tgt := 40) C dX8_goesTo_22 (by decide) (fun hc14 => ?_) (fun hc14 => ?_)
      · have h := gi_t hc14 h
        exact gx_weak (gx_le_k rfl (gx_le_k rfl (gx_le_n (gx_le_k rfl gx_le_0)))) (bn_goesTo_40 hx C ⟨F, hnL⟩ hk4 h)
      · have h := gi_f hc14 h
        refine gx_aload_0 C dX8_goesTo_25 rfl ?_
        refine gx_iload_1 C dX8_goesTo_26 rfl ?_
        refine gx_iload_3 C dX8_goesTo_27 rfl ?_
        obtain ⟨v10, e9, h⟩ := gi_cp h
        refine gc_IV C (cn_isTo (gx_l Γ) (gx_D Γ) hx a _ _ _ e9) (gx_cw C gx_uu lk_X8_122 (by decide) (by decide)) (cls_X8 hx).1 (gs_recv (q := 0) lt_M_Model (oc_M_Model a ι _)) rfl rfl (Nat.le_of_ble_eq_true rfl) ⟨Nat.zero_le _, Nat.zero_le _⟩ dX8_goesTo_28 ?_
        refine gx_aload_0 C dX8_goesTo_31 rfl ?_
        refine gx_iload_1 C dX8_goesTo_32 rfl ?_
        refine gx_iload_2 C dX8_goesTo_33 rfl ?_
        obtain ⟨v12, e11, h⟩ := gi_cp h
        refine gc_IV C (cn_isTo (gx_l Γ) (gx_D Γ) hx a _ _ _ e11) (gx_cw C gx_uu lk_X8_122 (by decide) (by decide)) (cls_X8 hx).1 (gs_recv (q := 0) lt_M_Model (oc_M_Model a ι _)) rfl rfl (Nat.le_of_ble_eq_true rfl) ⟨Nat.zero_le _, Nat.zero_le _⟩ dX8_goesTo_34 ?_
        refine gx_icmp_ge (tgt := 44) C dX8_goesTo_37 (by decide) (fun hc13 => ?_) (fun hc13 => ?_)
        · have h := gi_t hc13 h
          exact gx_weak (gx_le_k rfl (gx_le_k rfl (gx_le_k rfl (gx_le_k rfl gx_le_0)))) (bn_goesTo_44 hx C ⟨F, hnL⟩ hk4 h)
        · have h := gi_f hc13 h
          exact gx_weak (gx_le_k rfl (gx_le_k rfl (gx_le_n (gx_le_k rfl gx_le_0)))) (bn_goesTo_40 hx C ⟨F, hnL⟩ hk4 h)
def n_goesTo (x1 : Int32) (S : gx_S) : Option (Int32) := gx_loop (n_goesTo_4 x1 S) 5000 ((-1), 0)
set_option maxRecDepth 20000 in
set_option maxHeartbeats 1000000 in
theorem cn_goesTo (l : Launch) (D : va_G) {cl : List vw_C} {tys : List (ClassId × FieldType)} {ι : Nat → ClassId} (hx : gx_std vwCl (gty ι) cl tys) (a : Nat → Nat) (x1 : Int32) (S : gx_S) {out : Int32} (h : n_goesTo x1 S = some out) : gx_mI l D cl tys yX8_goesTo (.code yX8_goesTo cX8_goesTo 4 ((Option.some Jvm.ClassFile.FieldType.int)) :: gx_U) (gx_rm 2) [.ref (a 0), .int x1] (wM a ι S) (wM a ι) (out, S) := by
  unfold n_goesTo at h
  refine gx_startI (V := [.ref (a 0), .int x1, .null, .null]) 2 (by decide +kernel) (Nat.le_of_ble_eq_true rfl) rfl (fun Γ hl hD hcl hty hnL C F => ?_)
  subst hl; subst hD; subst hcl; subst hty
  refine gx_iconstm1 C dX8_goesTo_0 ?_
  refine gx_istore_2 C dX8_goesTo_1 (by rw [hnL]; decide) trivial ?_
  refine gx_iconst0 C dX8_goesTo_2 ?_
  refine gx_istore_3 C dX8_goesTo_3 (by rw [hnL]; decide) trivial ?_
  refine gx_weak (gx_le_k rfl (gx_le_k rfl (gx_le_k rfl (gx_le_k rfl gx_le_0)))) (gi_loop (P := fun t => gx_G Γ 0 0 4 [.ref (a 0), .int x1, .int t.1, .int t.2] [] (wM a ι S)) (fun kk t hk h => ?_) 5000 _ h)
  obtain ⟨x29, x39⟩ := t
  exact bn_goesTo_4 hx C ⟨F, hnL⟩ (k4 := kk) (fun x28 x38 h => hk (x28, x38) h) h
def n_spareOf (x1 : Int32) (S : gx_S) : Option (Int32) := gx_cp (n_goesTo x1 S) fun v2 => if v2 = (-1) then some 0 else gx_cp (n_told x1 3 S) fun v4 => gx_cp (n_isTo x1 v2 S) fun v6 => some (v4 - v6)
set_option maxRecDepth 20000 in
set_option maxHeartbeats 1000000 in
theorem cn_spareOf (l : Launch) (D : va_G) {cl : List vw_C} {tys : List (ClassId × FieldType)} {ι : Nat → ClassId} (hx : gx_std vwCl (gty ι) cl tys) (a : Nat → Nat) (x1 : Int32) (S : gx_S) {out : Int32} (h : n_spareOf x1 S = some out) : gx_mI l D cl tys yX8_spareOf (.code yX8_spareOf cX8_spareOf 3 ((Option.some Jvm.ClassFile.FieldType.int)) :: gx_U) (gx_rm 3) [.ref (a 0), .int x1] (wM a ι S) (wM a ι) (out, S) := by
  unfold n_spareOf at h
  refine gx_startI (V := [.ref (a 0), .int x1, .null]) 1 (by decide +kernel) (Nat.le_of_ble_eq_true rfl) rfl (fun Γ hl hD hcl hty hnL C F => ?_)
  subst hl; subst hD; subst hcl; subst hty
  refine gx_aload_0 C dX8_spareOf_0 rfl ?_
  refine gx_iload_1 C dX8_spareOf_1 rfl ?_
  obtain ⟨v2, e1, h⟩ := gi_cp h
  refine gc_IV C (cn_goesTo (gx_l Γ) (gx_D Γ) hx a _ _ e1) (gx_cw C gx_uu lk_X8_125 (by decide) (by decide)) (cls_X8 hx).1 (gs_recv (q := 0) lt_M_Model (oc_M_Model a ι _)) rfl rfl (Nat.le_of_ble_eq_true rfl) ⟨Nat.zero_le _, Nat.zero_le _⟩ dX8_spareOf_2 ?_
  refine gx_istore_2 C dX8_spareOf_5 (by rw [hnL]; decide) trivial ?_
  refine gx_iload_2 C dX8_spareOf_6 rfl ?_
  refine gx_iconstm1 C dX8_spareOf_7 ?_
  refine gx_icmp_ne (tgt := 15) C dX8_spareOf_8 (by decide) (fun hc7 => ?_) (fun hc7 => ?_)
  · have h := gi_f hc7 h
    refine gx_aload_0 C dX8_spareOf_15 rfl ?_
    refine gx_iload_1 C dX8_spareOf_16 rfl ?_
    refine gx_iconst3 C dX8_spareOf_17 ?_
    obtain ⟨v4, e3, h⟩ := gi_cp h
    refine gc_IV C (cn_told (gx_l Γ) (gx_D Γ) hx a _ _ _ e3) (gx_cw C gx_uu lk_X8_112 (by decide) (by decide)) (cls_X8 hx).1 (gs_recv (q := 0) lt_M_Model (oc_M_Model a ι _)) rfl rfl (Nat.le_of_ble_eq_true rfl) ⟨Nat.zero_le _, Nat.zero_le _⟩ dX8_spareOf_18 ?_
    refine gx_aload_0 C dX8_spareOf_21 rfl ?_
    refine gx_iload_1 C dX8_spareOf_22 rfl ?_
    refine gx_iload_2 C dX8_spareOf_23 rfl ?_
    obtain ⟨v6, e5, h⟩ := gi_cp h
    refine gc_IV C (cn_isTo (gx_l Γ) (gx_D Γ) hx a _ _ _ e5) (gx_cw C gx_uu lk_X8_122 (by decide) (by decide)) (cls_X8 hx).1 (gs_recv (q := 0) lt_M_Model (oc_M_Model a ι _)) rfl rfl (Nat.le_of_ble_eq_true rfl) ⟨Nat.zero_le _, Nat.zero_le _⟩ dX8_spareOf_24 ?_
    refine gx_isub C dX8_spareOf_27 ?_
    exact gx_iret C F rfl dX8_spareOf_28 (congrArg (fun z => (z, S)) (Option.some.inj h))
  · have h := gi_t hc7 h
    refine gx_iconst0 C dX8_spareOf_11 ?_
    refine gx_goto (tgt := 28) C dX8_spareOf_12 (by decide) ?_
    exact gx_iret C F rfl dX8_spareOf_28 (congrArg (fun z => (z, S)) (Option.some.inj h))
def n_laySold_70 (k27 : Int32 × Int32 × gx_S → Option (Int32 × gx_S)) (x1 : Int32) (x2 : Int32) (S : gx_S) : Option (Int32 × gx_S) := k27 (x1, (x2 + 1), S)
set_option maxRecDepth 20000 in
set_option maxHeartbeats 1000000 in
theorem bn_laySold_70 {Γ : gx_T} {ι : Nat → ClassId} {a : Nat → Nat} {out : Int32 × gx_S} (hx : gx_std vwCl (gty ι) (gx_cl Γ) (gx_ty Γ)) (C : gx_ok Γ cX8_laySold RX8 gx_U 3) (F : gx_finI Γ ((Option.some Jvm.ClassFile.FieldType.int)) (wM a ι) out ∧ gx_nL Γ = 4) {k27 : Int32 × Int32 × gx_S → Option (Int32 × gx_S)} {x1 : Int32} {x2 : Int32} {S : gx_S} (hk27 : ∀ (x17 : Int32) (x27 : Int32) (S7 : gx_S), k27 (x17, x27, S7) = some out → gx_G Γ 0 0 27 [.ref (a 0), .int x17, .int x27, .null] [] (wM a ι S7)) (h : n_laySold_70 k27 x1 x2 S = some out) : gx_G Γ 0 0 70 [.ref (a 0), .int x1, .int x2, .null] [] (wM a ι S) := by
  obtain ⟨F, hnL⟩ := F
  unfold n_laySold_70 at h
  refine gx_iinc1 C dX8_laySold_70 rfl (by rw [hnL]; decide) trivial ?_
  refine gx_goto (tgt := 27) C dX8_laySold_73 (by decide) ?_
  exact gx_weak (gx_le_k rfl (gx_le_k rfl (gx_le_k rfl (gx_le_n gx_le_0)))) (hk27 _ _ _ h)
def n_laySold_27 (t : Int32 × Int32 × gx_S) (k27 : Int32 × Int32 × gx_S → Option (Int32 × gx_S)) : Option (Int32 × gx_S) := match t with
  | (x1, x2, S) => if (S 0 9) ≤ x2 then some (x1, S) else gx_cp (n_goesTo x2 S) fun v2 => if v2 = (-1) then n_laySold_70 k27 x1 x2 S else gx_ck 6 v2 (gx_cp (n_told x2 1 S) fun v5 => gx_let (gx_st S 15 v2.toNatClampNeg ((S 15 v2.toNatClampNeg) + v5)) fun S6 => gx_cp (n_told x2 1 S6) fun v9 => n_laySold_70 k27 (x1 + v9) x2 S6)
set_option maxRecDepth 20000 in
set_option maxHeartbeats 1000000 in
theorem bn_laySold_27 {Γ : gx_T} {ι : Nat → ClassId} {a : Nat → Nat} {out : Int32 × gx_S} (hx : gx_std vwCl (gty ι) (gx_cl Γ) (gx_ty Γ)) (C : gx_ok Γ cX8_laySold RX8 gx_U 3) (F : gx_finI Γ ((Option.some Jvm.ClassFile.FieldType.int)) (wM a ι) out ∧ gx_nL Γ = 4) {k27 : Int32 × Int32 × gx_S → Option (Int32 × gx_S)} {x1 : Int32} {x2 : Int32} {S : gx_S} (hk27 : ∀ (x17 : Int32) (x27 : Int32) (S7 : gx_S), k27 (x17, x27, S7) = some out → gx_G Γ 0 0 27 [.ref (a 0), .int x17, .int x27, .null] [] (wM a ι S7)) (h : n_laySold_27 (x1, x2, S) k27 = some out) : gx_G Γ 0 0 27 [.ref (a 0), .int x1, .int x2, .null] [] (wM a ι S) := by
  obtain ⟨F, hnL⟩ := F
  unfold n_laySold_27 at h
  dsimp only at h
  refine gx_iload_2 C dX8_laySold_27 rfl ?_
  refine gx_aload_0 C dX8_laySold_28 rfl ?_
  refine gs_getf (q := 0) C fl_X8_101 (cls_X8 hx) lt_M_Model (oc_M_Model a ι _) rfl dX8_laySold_29 ?_
  refine gx_icmp_ge (tgt := 76) C dX8_laySold_32 (by decide) (fun hc11 => ?_) (fun hc11 => ?_)
  · have h := gi_t hc11 h
    refine gx_iload_1 C dX8_laySold_76 rfl ?_
    exact gx_iret C F rfl dX8_laySold_77 (Option.some.inj h)
  · have h := gi_f hc11 h
    refine gx_aload_0 C dX8_laySold_35 rfl ?_
    refine gx_iload_2 C dX8_laySold_36 rfl ?_
    obtain ⟨v2, e1, h⟩ := gi_cp h
    refine gc_IV C (cn_goesTo (gx_l Γ) (gx_D Γ) hx a _ _ e1) (gx_cw C gx_uu lk_X8_125 (by decide) (by decide)) (cls_X8 hx).1 (gs_recv (q := 0) lt_M_Model (oc_M_Model a ι _)) rfl rfl (Nat.le_of_ble_eq_true rfl) ⟨Nat.zero_le _, Nat.zero_le _⟩ dX8_laySold_37 ?_
    refine gx_istore_3 C dX8_laySold_40 (by rw [hnL]; decide) trivial ?_
    refine gx_iload_3 C dX8_laySold_41 rfl ?_
    refine gx_iconstm1 C dX8_laySold_42 ?_
    refine gx_icmp_eq (tgt := 70) C dX8_laySold_43 (by decide) (fun hc10 => ?_) (fun hc10 => ?_)
    · have h := gi_t hc10 h
      exact gx_weak (gx_le_k rfl (gx_le_k rfl (gx_le_k rfl (gx_le_n gx_le_0)))) (bn_laySold_70 hx C ⟨F, hnL⟩ hk27 h)
    · have h := gi_f hc10 h
      refine gx_aload_0 C dX8_laySold_46 rfl ?_
      refine gs_getf (q := 0) C fl_X8_58 (cls_X8 hx) lt_M_Model (oc_M_Model a ι _) rfl dX8_laySold_47 ?_
      refine gx_iload_3 C dX8_laySold_50 rfl ?_
      refine gx_dup2 C dX8_laySold_51 rfl rfl ?_
      obtain ⟨hi3, h⟩ := gi_ck h
      refine gs_iald (q := 15) C (ac_M_M_soldNow hx a) lt_M_M_soldNow hi3 dX8_laySold_52 ?_
      refine gx_aload_0 C dX8_laySold_53 rfl ?_
      refine gx_iload_2 C dX8_laySold_54 rfl ?_
      refine gx_iconst1 C dX8_laySold_55 ?_
      obtain ⟨v5, e4, h⟩ := gi_cp h
      refine gc_IV C (cn_told (gx_l Γ) (gx_D Γ) hx a _ _ _ e4) (gx_cw C gx_uu lk_X8_112 (by decide) (by decide)) (cls_X8 hx).1 (gs_recv (q := 0) lt_M_Model (oc_M_Model a ι _)) rfl rfl (Nat.le_of_ble_eq_true rfl) ⟨Nat.zero_le _, Nat.zero_le _⟩ dX8_laySold_56 ?_
      refine gx_iadd C dX8_laySold_59 ?_
      obtain ⟨S6, e7, h⟩ := gi_let h
      refine gs_iast (q := 15) C (ac_M_M_soldNow hx a) lt_M_M_soldNow hi3 e7 dX8_laySold_60 ?_
      refine gx_iload_1 C dX8_laySold_61 rfl ?_
      refine gx_aload_0 C dX8_laySold_62 rfl ?_
      refine gx_iload_2 C dX8_laySold_63 rfl ?_
      refine gx_iconst1 C dX8_laySold_64 ?_
      obtain ⟨v9, e8, h⟩ := gi_cp h
      refine gc_IV C (cn_told (gx_l Γ) (gx_D Γ) hx a _ _ _ e8) (gx_cw C gx_uu lk_X8_112 (by decide) (by decide)) (cls_X8 hx).1 (gs_recv (q := 0) lt_M_Model (oc_M_Model a ι _)) rfl rfl (Nat.le_of_ble_eq_true rfl) ⟨Nat.zero_le _, Nat.zero_le _⟩ dX8_laySold_65 ?_
      refine gx_iadd C dX8_laySold_68 ?_
      refine gx_istore_1 C dX8_laySold_69 (by rw [hnL]; decide) trivial ?_
      exact gx_weak (gx_le_k rfl (gx_le_k rfl (gx_le_k rfl (gx_le_n gx_le_0)))) (bn_laySold_70 hx C ⟨F, hnL⟩ hk27 h)
def n_laySold_2 (t : Int32 × gx_S) (k2 : Int32 × gx_S → Option (Int32 × gx_S)) : Option (Int32 × gx_S) := match t with
  | (x1, S) => if (S 0 4) ≤ x1 then gx_loop (n_laySold_27) 5000 (0, 0, S) else gx_ck 6 x1 (gx_let (gx_st S 15 x1.toNatClampNeg 0) fun S2 => k2 ((x1 + 1), S2))
set_option maxRecDepth 20000 in
set_option maxHeartbeats 1000000 in
theorem bn_laySold_2 {Γ : gx_T} {ι : Nat → ClassId} {a : Nat → Nat} {out : Int32 × gx_S} (hx : gx_std vwCl (gty ι) (gx_cl Γ) (gx_ty Γ)) (C : gx_ok Γ cX8_laySold RX8 gx_U 3) (F : gx_finI Γ ((Option.some Jvm.ClassFile.FieldType.int)) (wM a ι) out ∧ gx_nL Γ = 4) {k2 : Int32 × gx_S → Option (Int32 × gx_S)} {x1 : Int32} {S : gx_S} (hk2 : ∀ (x17 : Int32) (S7 : gx_S), k2 (x17, S7) = some out → gx_G Γ 0 0 2 [.ref (a 0), .int x17, .null, .null] [] (wM a ι S7)) (h : n_laySold_2 (x1, S) k2 = some out) : gx_G Γ 0 0 2 [.ref (a 0), .int x1, .null, .null] [] (wM a ι S) := by
  obtain ⟨F, hnL⟩ := F
  unfold n_laySold_2 at h
  dsimp only at h
  refine gx_iload_1 C dX8_laySold_2 rfl ?_
  refine gx_aload_0 C dX8_laySold_3 rfl ?_
  refine gs_getf (q := 0) C fl_X8_98 (cls_X8 hx) lt_M_Model (oc_M_Model a ι _) rfl dX8_laySold_4 ?_
  refine gx_icmp_ge (tgt := 23) C dX8_laySold_7 (by decide) (fun hc4 => ?_) (fun hc4 => ?_)
  · have h := gi_t hc4 h
    refine gx_iconst0 C dX8_laySold_23 ?_
    refine gx_istore_1 C dX8_laySold_24 (by rw [hnL]; decide) trivial ?_
    refine gx_iconst0 C dX8_laySold_25 ?_
    refine gx_istore_2 C dX8_laySold_26 (by rw [hnL]; decide) trivial ?_
    refine gx_weak (gx_le_k rfl (gx_le_k rfl (gx_le_k rfl (gx_le_n gx_le_0)))) (gi_loop (P := fun t => gx_G Γ 0 0 27 [.ref (a 0), .int t.1, .int t.2.1, .null] [] (wM a ι t.2.2)) (fun kk t hk h => ?_) 5000 _ h)
    obtain ⟨x19, x29, S'9⟩ := t
    exact bn_laySold_27 hx C ⟨F, hnL⟩ (k27 := kk) (fun x18 x28 S'8 h => hk (x18, x28, S'8) h) h
  · have h := gi_f hc4 h
    refine gx_aload_0 C dX8_laySold_10 rfl ?_
    refine gs_getf (q := 0) C fl_X8_58 (cls_X8 hx) lt_M_Model (oc_M_Model a ι _) rfl dX8_laySold_11 ?_
    refine gx_iload_1 C dX8_laySold_14 rfl ?_
    refine gx_iconst0 C dX8_laySold_15 ?_
    obtain ⟨hi1, h⟩ := gi_ck h
    obtain ⟨S2, e3, h⟩ := gi_let h
    refine gs_iast (q := 15) C (ac_M_M_soldNow hx a) lt_M_M_soldNow hi1 e3 dX8_laySold_16 ?_
    refine gx_iinc1 C dX8_laySold_17 rfl (by rw [hnL]; decide) trivial ?_
    refine gx_goto (tgt := 2) C dX8_laySold_20 (by decide) ?_
    exact gx_weak (gx_le_k rfl (gx_le_k rfl (gx_le_n (gx_le_n gx_le_0)))) (hk2 _ _ h)
def n_laySold (S : gx_S) : Option (Int32 × gx_S) := gx_loop (n_laySold_2) 5000 (0, S)
set_option maxRecDepth 20000 in
set_option maxHeartbeats 1000000 in
theorem cn_laySold (l : Launch) (D : va_G) {cl : List vw_C} {tys : List (ClassId × FieldType)} {ι : Nat → ClassId} (hx : gx_std vwCl (gty ι) cl tys) (a : Nat → Nat) (S : gx_S) {out : Int32 × gx_S} (h : n_laySold  S = some out) : gx_mI l D cl tys yX8_laySold (.code yX8_laySold cX8_laySold 4 ((Option.some Jvm.ClassFile.FieldType.int)) :: gx_U) (gx_rm 3) [.ref (a 0)] (wM a ι S) (wM a ι) out := by
  unfold n_laySold at h
  refine gx_startI (V := [.ref (a 0), .null, .null, .null]) 3 (by decide +kernel) (Nat.le_of_ble_eq_true rfl) rfl (fun Γ hl hD hcl hty hnL C F => ?_)
  subst hl; subst hD; subst hcl; subst hty
  refine gx_iconst0 C dX8_laySold_0 ?_
  refine gx_istore_1 C dX8_laySold_1 (by rw [hnL]; decide) trivial ?_
  refine gx_weak (gx_le_k rfl (gx_le_k rfl (gx_le_n (gx_le_n gx_le_0)))) (gi_loop (P := fun t => gx_G Γ 0 0 2 [.ref (a 0), .int t.1, .null, .null] [] (wM a ι t.2)) (fun kk t hk h => ?_) 5000 _ h)
  obtain ⟨x19, S'9⟩ := t
  exact bn_laySold_2 hx C ⟨F, hnL⟩ (k2 := kk) (fun x18 S'8 h => hk (x18, S'8) h) h
def n_profitOf_86 (k9 : Int32 × Int32 → Option (Int32 × gx_S)) (x1 : Int32) (x3 : Int32) (s0 : Int32) (s1 : Int32) (S : gx_S) : Option (Int32 × gx_S) := k9 ((s0 + s1), (x3 + 1))
set_option maxRecDepth 20000 in
set_option maxHeartbeats 1000000 in
theorem bn_profitOf_86 {Γ : gx_T} {ι : Nat → ClassId} {a : Nat → Nat} {out : Int32 × gx_S} (hx : gx_std vwCl (gty ι) (gx_cl Γ) (gx_ty Γ)) (C : gx_ok Γ cX8_profitOf RX8 gx_U 4) (F : gx_finI Γ ((Option.some Jvm.ClassFile.FieldType.int)) (wM a ι) out ∧ gx_nL Γ = 5) {k9 : Int32 × Int32 → Option (Int32 × gx_S)} {x1 : Int32} {x3 : Int32} {s0 : Int32} {s1 : Int32} {S : gx_S} (hk9 : ∀ (x27 : Int32) (x37 : Int32), k9 (x27, x37) = some out → gx_G Γ 0 0 9 [.ref (a 0), .int x1, .int x27, .int x37, .null] [] (wM a ι S)) (h : n_profitOf_86 k9 x1 x3 s0 s1 S = some out) : gx_G Γ 0 0 86 [.ref (a 0), .int x1, .null, .int x3, .null] [.int s1, .int s0] (wM a ι S) := by
  obtain ⟨F, hnL⟩ := F
  unfold n_profitOf_86 at h
  refine gx_iadd C dX8_profitOf_86 ?_
  refine gx_istore_2 C dX8_profitOf_87 (by rw [hnL]; decide) trivial ?_
  refine gx_iinc1 C dX8_profitOf_88 rfl (by rw [hnL]; decide) trivial ?_
  refine gx_goto (tgt := 9) C dX8_profitOf_91 (by decide) ?_
  exact gx_weak (gx_le_k rfl (gx_le_k rfl (gx_le_k rfl (gx_le_k rfl (gx_le_n gx_le_0))))) (hk9 _ _ h)
def n_profitOf_80 (k9 : Int32 × Int32 → Option (Int32 × gx_S)) (x1 : Int32) (x3 : Int32) (s0 : Int32) (s1 : Int32) (s2 : Int32) (s3 : Int32) (S : gx_S) : Option (Int32 × gx_S) := n_profitOf_86 k9 x1 x3 s0 (s1 * (s2 - s3)) S
set_option maxRecDepth 20000 in
set_option maxHeartbeats 1000000 in
theorem bn_profitOf_80 {Γ : gx_T} {ι : Nat → ClassId} {a : Nat → Nat} {out : Int32 × gx_S} (hx : gx_std vwCl (gty ι) (gx_cl Γ) (gx_ty Γ)) (C : gx_ok Γ cX8_profitOf RX8 gx_U 4) (F : gx_finI Γ ((Option.some Jvm.ClassFile.FieldType.int)) (wM a ι) out ∧ gx_nL Γ = 5) {k9 : Int32 × Int32 → Option (Int32 × gx_S)} {x1 : Int32} {x3 : Int32} {s0 : Int32} {s1 : Int32} {s2 : Int32} {s3 : Int32} {S : gx_S} (hk9 : ∀ (x27 : Int32) (x37 : Int32), k9 (x27, x37) = some out → gx_G Γ 0 0 9 [.ref (a 0), .int x1, .int x27, .int x37, .null] [] (wM a ι S)) (h : n_profitOf_80 k9 x1 x3 s0 s1 s2 s3 S = some out) : gx_G Γ 0 0 80 [.ref (a 0), .int x1, .null, .int x3, .null] [.int s3, .int s2, .int s1, .int s0] (wM a ι S) := by
  obtain ⟨F, hnL⟩ := F
  unfold n_profitOf_80 at h
  refine gx_isub C dX8_profitOf_80 ?_
  refine gx_imul C dX8_profitOf_81 ?_
  refine gx_goto (tgt := 86) C dX8_profitOf_82 (by decide) ?_
  exact gx_weak (gx_le_k rfl (gx_le_k rfl (gx_le_n (gx_le_k rfl (gx_le_n gx_le_0))))) (bn_profitOf_86 hx C ⟨F, hnL⟩ hk9 h)
def n_profitOf_43 (k9 : Int32 × Int32 → Option (Int32 × gx_S)) (x1 : Int32) (x2 : Int32) (x3 : Int32) (s0 : Int32) (s1 : Int32) (S : gx_S) : Option (Int32 × gx_S) := gx_ck 6 x3 (if (S 4 x3.toNatClampNeg) = x1 then if 0 ≤ (s0 - s1) then n_profitOf_80 k9 x1 x3 x2 (S 15 x3.toNatClampNeg) (S 7 x3.toNatClampNeg) (s0 - s1) S else n_profitOf_80 k9 x1 x3 x2 (S 15 x3.toNatClampNeg) (S 7 x3.toNatClampNeg) 0 S else n_profitOf_86 k9 x1 x3 x2 0 S)
set_option maxRecDepth 20000 in
set_option maxHeartbeats 1000000 in
theorem bn_profitOf_43 {Γ : gx_T} {ι : Nat → ClassId} {a : Nat → Nat} {out : Int32 × gx_S} (hx : gx_std vwCl (gty ι) (gx_cl Γ) (gx_ty Γ)) (C : gx_ok Γ cX8_profitOf RX8 gx_U 4) (F : gx_finI Γ ((Option.some Jvm.ClassFile.FieldType.int)) (wM a ι) out ∧ gx_nL Γ = 5) {k9 : Int32 × Int32 → Option (Int32 × gx_S)} {x1 : Int32} {x2 : Int32} {x3 : Int32} {s0 : Int32} {s1 : Int32} {S : gx_S} (hk9 : ∀ (x27 : Int32) (x37 : Int32), k9 (x27, x37) = some out → gx_G Γ 0 0 9 [.ref (a 0), .int x1, .int x27, .int x37, .null] [] (wM a ι S)) (h : n_profitOf_43 k9 x1 x2 x3 s0 s1 S = some out) : gx_G Γ 0 0 43 [.ref (a 0), .int x1, .int x2, .int x3, .null] [.int s1, .int s0] (wM a ι S) := by
  obtain ⟨F, hnL⟩ := F
  unfold n_profitOf_43 at h
  refine gx_isub C dX8_profitOf_43 ?_
  refine gx_istore C dX8_profitOf_44 (by rw [hnL]; decide) trivial ?_
  refine gx_iload_2 C dX8_profitOf_46 rfl ?_
  refine gx_aload_0 C dX8_profitOf_47 rfl ?_
  refine gs_getf (q := 0) C fl_X8_20 (cls_X8 hx) lt_M_Model (oc_M_Model a ι _) rfl dX8_profitOf_48 ?_
  refine gx_iload_3 C dX8_profitOf_51 rfl ?_
  obtain ⟨hi1, h⟩ := gi_ck h
  refine gs_iald (q := 4) C (ac_M_M_ownerOf hx a) lt_M_M_ownerOf hi1 dX8_profitOf_52 ?_
  refine gx_iload_1 C dX8_profitOf_53 rfl ?_
  refine gx_icmp_ne (tgt := 85) C dX8_profitOf_54 (by decide) (fun hc3 => ?_) (fun hc3 => ?_)
  · have h := gi_f hc3 h
    refine gx_iconst0 C dX8_profitOf_85 ?_
    exact gx_weak (gx_le_k rfl (gx_le_k rfl (gx_le_n (gx_le_k rfl (gx_le_n gx_le_0))))) (bn_profitOf_86 hx C ⟨F, hnL⟩ hk9 h)
  · have h := gi_t hc3 h
    refine gx_aload_0 C dX8_profitOf_57 rfl ?_
    refine gs_getf (q := 0) C fl_X8_58 (cls_X8 hx) lt_M_Model (oc_M_Model a ι _) rfl dX8_profitOf_58 ?_
    refine gx_iload_3 C dX8_profitOf_61 rfl ?_
    refine gs_iald (q := 15) C (ac_M_M_soldNow hx a) lt_M_M_soldNow hi1 dX8_profitOf_62 ?_
    refine gx_aload_0 C dX8_profitOf_63 rfl ?_
    refine gs_getf (q := 0) C fl_X8_29 (cls_X8 hx) lt_M_Model (oc_M_Model a ι _) rfl dX8_profitOf_64 ?_
    refine gx_iload_3 C dX8_profitOf_67 rfl ?_
    refine gs_iald (q := 7) C (ac_M_M_priceOf hx a) lt_M_M_priceOf hi1 dX8_profitOf_68 ?_
    refine gx_iload C dX8_profitOf_69 rfl ?_
    refine gx_if_ge (tgt := 78) C dX8_profitOf_71 (by decide) (fun hc2 => ?_) (fun hc2 => ?_)
    · have h := gi_t hc2 h
      refine gx_iload C dX8_profitOf_78 rfl ?_
      exact gx_weak (gx_le_k rfl (gx_le_k rfl (gx_le_n (gx_le_k rfl (gx_le_n gx_le_0))))) (bn_profitOf_80 hx C ⟨F, hnL⟩ hk9 h)
    · have h := gi_f hc2 h
      refine gx_iconst0 C dX8_profitOf_74 ?_
      refine gx_goto (tgt := 80) C dX8_profitOf_75 (by decide) ?_
      exact gx_weak (gx_le_k rfl (gx_le_k rfl (gx_le_n (gx_le_k rfl (gx_le_n gx_le_0))))) (bn_profitOf_80 hx C ⟨F, hnL⟩ hk9 h)
def n_profitOf_9 (x1 : Int32) (S : gx_S) (t : Int32 × Int32) (k9 : Int32 × Int32 → Option (Int32 × gx_S)) : Option (Int32 × gx_S) := match t with
  | (x2, x3) => if (S 0 4) ≤ x3 then some (x2, S) else gx_ck 6 x3 (gx_ck 6 x1 (if (S 1 x1.toNatClampNeg) = 3 then n_profitOf_43 k9 x1 x2 x3 (S 6 x3.toNatClampNeg) (S 2 x1.toNatClampNeg) S else n_profitOf_43 k9 x1 x2 x3 (S 6 x3.toNatClampNeg) 0 S))
set_option maxRecDepth 20000 in
set_option maxHeartbeats 1000000 in
theorem bn_profitOf_9 {Γ : gx_T} {ι : Nat → ClassId} {a : Nat → Nat} {out : Int32 × gx_S} (hx : gx_std vwCl (gty ι) (gx_cl Γ) (gx_ty Γ)) (C : gx_ok Γ cX8_profitOf RX8 gx_U 4) (F : gx_finI Γ ((Option.some Jvm.ClassFile.FieldType.int)) (wM a ι) out ∧ gx_nL Γ = 5) {k9 : Int32 × Int32 → Option (Int32 × gx_S)} {x1 : Int32} {x2 : Int32} {x3 : Int32} {S : gx_S} (hk9 : ∀ (x27 : Int32) (x37 : Int32), k9 (x27, x37) = some out → gx_G Γ 0 0 9 [.ref (a 0), .int x1, .int x27, .int x37, .null] [] (wM a ι S)) (h : n_profitOf_9 x1 S (x2, x3) k9 = some out) : gx_G Γ 0 0 9 [.ref (a 0), .int x1, .int x2, .int x3, .null] [] (wM a ι S) := by
  obtain ⟨F, hnL⟩ := F
  unfold n_profitOf_9 at h
  dsimp only at h
  refine gx_iload_3 C dX8_profitOf_9 rfl ?_
  refine gx_aload_0 C dX8_profitOf_10 rfl ?_
  refine gs_getf (q := 0) C fl_X8_98 (cls_X8 hx) lt_M_Model (oc_M_Model a ι _) rfl dX8_profitOf_11 ?_
  refine gx_icmp_ge (tgt := 94) C dX8_profitOf_14 (by decide) (fun hc4 => ?_) (fun hc4 => ?_)
  · have h := gi_t hc4 h
    refine gx_iload_2 C dX8_profitOf_94 rfl ?_
    exact gx_iret C F rfl dX8_profitOf_95 (Option.some.inj h)
  · have h := gi_f hc4 h
    refine gx_aload_0 C dX8_profitOf_17 rfl ?_
    refine gs_getf (q := 0) C fl_X8_26 (cls_X8 hx) lt_M_Model (oc_M_Model a ι _) rfl dX8_profitOf_18 ?_
    refine gx_iload_3 C dX8_profitOf_21 rfl ?_
    obtain ⟨hi1, h⟩ := gi_ck h
    refine gs_iald (q := 6) C (ac_M_M_costOf hx a) lt_M_M_costOf hi1 dX8_profitOf_22 ?_
    refine gx_aload_0 C dX8_profitOf_23 rfl ?_
    refine gs_getf (q := 0) C fl_X8_7 (cls_X8 hx) lt_M_Model (oc_M_Model a ι _) rfl dX8_profitOf_24 ?_
    refine gx_iload_1 C dX8_profitOf_27 rfl ?_
    obtain ⟨hi2, h⟩ := gi_ck h
    refine gs_iald (q := 1) C (ac_M_M_kindOf hx a) lt_M_M_kindOf hi2 dX8_profitOf_28 ?_
    refine gx_iconst3 C dX8_profitOf_29 ?_
    refine gx_icmp_ne (tgt := 42) C dX8_profitOf_30 (by decide) (fun hc3 => ?_) (fun hc3 => ?_)
    · have h := gi_f hc3 h
      refine gx_iconst0 C dX8_profitOf_42 ?_
      exact gx_weak (gx_le_k rfl (gx_le_k rfl (gx_le_k rfl (gx_le_k rfl (gx_le_n gx_le_0))))) (bn_profitOf_43 hx C ⟨F, hnL⟩ hk9 h)
    · have h := gi_t hc3 h
      refine gx_aload_0 C dX8_profitOf_33 rfl ?_
      refine gs_getf (q := 0) C fl_X8_13 (cls_X8 hx) lt_M_Model (oc_M_Model a ι _) rfl dX8_profitOf_34 ?_
      refine gx_iload_1 C dX8_profitOf_37 rfl ?_
      refine gs_iald (q := 2) C (ac_M_M_nOf hx a) lt_M_M_nOf hi2 dX8_profitOf_38 ?_
      refine gx_goto (tgt := 43) C dX8_profitOf_39 (by decide) ?_
      exact gx_weak (gx_le_k rfl (gx_le_k rfl (gx_le_k rfl (gx_le_k rfl (gx_le_n gx_le_0))))) (bn_profitOf_43 hx C ⟨F, hnL⟩ hk9 h)
def n_profitOf (x1 : Int32) (S : gx_S) : Option (Int32 × gx_S) := gx_cs (n_laySold S) fun v3 S2 => gx_loop (n_profitOf_9 x1 S2) 5000 (0, 0)
set_option maxRecDepth 20000 in
set_option maxHeartbeats 1000000 in
theorem cn_profitOf (l : Launch) (D : va_G) {cl : List vw_C} {tys : List (ClassId × FieldType)} {ι : Nat → ClassId} (hx : gx_std vwCl (gty ι) cl tys) (a : Nat → Nat) (x1 : Int32) (S : gx_S) {out : Int32 × gx_S} (h : n_profitOf x1 S = some out) : gx_mI l D cl tys yX8_profitOf (.code yX8_profitOf cX8_profitOf 5 ((Option.some Jvm.ClassFile.FieldType.int)) :: gx_U) (gx_rm 4) [.ref (a 0), .int x1] (wM a ι S) (wM a ι) out := by
  unfold n_profitOf at h
  refine gx_startI (V := [.ref (a 0), .int x1, .null, .null, .null]) 3 (by decide +kernel) (Nat.le_of_ble_eq_true rfl) rfl (fun Γ hl hD hcl hty hnL C F => ?_)
  subst hl; subst hD; subst hcl; subst hty
  refine gx_aload_0 C dX8_profitOf_0 rfl ?_
  obtain ⟨v3, S2, e1, h⟩ := gi_cs h
  refine gc_IV C (cn_laySold (gx_l Γ) (gx_D Γ) hx a _ e1) (gx_cw C gx_uu lk_X8_128 (by decide) (by decide)) (cls_X8 hx).1 (gs_recv (q := 0) lt_M_Model (oc_M_Model a ι _)) rfl rfl (Nat.le_of_ble_eq_true rfl) ⟨Nat.zero_le _, Nat.zero_le _⟩ dX8_profitOf_1 ?_
  refine gx_pop C dX8_profitOf_4 rfl ?_
  refine gx_iconst0 C dX8_profitOf_5 ?_
  refine gx_istore_2 C dX8_profitOf_6 (by rw [hnL]; decide) trivial ?_
  refine gx_iconst0 C dX8_profitOf_7 ?_
  refine gx_istore_3 C dX8_profitOf_8 (by rw [hnL]; decide) trivial ?_
  refine gx_weak (gx_le_k rfl (gx_le_k rfl (gx_le_k rfl (gx_le_k rfl (gx_le_n gx_le_0))))) (gi_loop (P := fun t => gx_G Γ 0 0 9 [.ref (a 0), .int x1, .int t.1, .int t.2, .null] [] (wM a ι S2)) (fun kk t hk h => ?_) 5000 _ h)
  obtain ⟨x29, x39⟩ := t
  exact bn_profitOf_9 hx C ⟨F, hnL⟩ (k9 := kk) (fun x28 x38 h => hk (x28, x38) h) h

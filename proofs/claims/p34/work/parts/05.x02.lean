def m_Bests_priceOf_2 (x1 : Int32) (S : gx_S) (x2 : Int32) (k2 : Int32 → Option (Int32)) : Option (Int32) := if (S 41 5) ≤ x2 then some (-1) else gx_ck 3 x2 (if (S 42 x2.toNatClampNeg) = x1 then some (S 45 x2.toNatClampNeg) else k2 (x2 + 1))
set_option maxRecDepth 20000 in
set_option maxHeartbeats 1000000 in
theorem b_Bests_priceOf_2 {Γ : gx_T} {ι : Nat → ClassId} {a : Nat → Nat} {out : Int32} {S : gx_S} (hx : gx_std vwCl (gty ι) (gx_cl Γ) (gx_ty Γ)) (C : gx_ok Γ cX0_priceOf RX0 gx_U 0) (F : gx_finI Γ ((Option.some Jvm.ClassFile.FieldType.int)) (wX a ι) (out, S) ∧ gx_nL Γ = 3) {k2 : Int32 → Option (Int32)} {x1 : Int32} {x2 : Int32} (hk2 : ∀ (x27 : Int32), k2 x27 = some out → gx_G Γ 0 0 2 [.ref (a 41), .int x1, .int x27] [] (wX a ι S)) (h : m_Bests_priceOf_2 x1 S x2 k2 = some out) : gx_G Γ 0 0 2 [.ref (a 41), .int x1, .int x2] [] (wX a ι S) := by
  obtain ⟨F, hnL⟩ := F
  unfold m_Bests_priceOf_2 at h
  refine gx_iload_2 C dX0_priceOf_2 rfl ?_
  refine gx_aload_0 C dX0_priceOf_3 rfl ?_
  refine gs_getf (q := 41) C fl_X0_59 (cls_X0 hx) lt_X_Bests (oc_X_Bests a ι _) rfl dX0_priceOf_4 ?_
  refine gx_icmp_ge (tgt := 33) C dX0_priceOf_7 (by decide) (fun hc3 => ?_) (fun hc3 => ?_)
  · have h := gi_t hc3 h
    refine gx_iconstm1 C dX0_priceOf_33 ?_
    exact gx_iret C F rfl dX0_priceOf_34 (congrArg (fun z => (z, S)) (Option.some.inj h))
  · have h := gi_f hc3 h
    refine gx_aload_0 C dX0_priceOf_10 rfl ?_
    refine gs_getf (q := 41) C fl_X0_9 (cls_X0 hx) lt_X_Bests (oc_X_Bests a ι _) rfl dX0_priceOf_11 ?_
    refine gx_iload_2 C dX0_priceOf_14 rfl ?_
    obtain ⟨hi1, h⟩ := gi_ck h
    refine gs_iald (q := 42) C (ac_X_Bests_own hx a) lt_X_Bests_own hi1 dX0_priceOf_15 ?_
    refine gx_iload_1 C dX0_priceOf_16 rfl ?_
    refine gx_icmp_ne (tgt := 27) C dX0_priceOf_17 (by decide) (fun hc2 => ?_) (fun hc2 => ?_)
    · have h := gi_f hc2 h
      refine gx_iinc1 C dX0_priceOf_27 rfl (by rw [hnL]; decide) trivial ?_
      refine gx_goto (tgt := 2) C dX0_priceOf_30 (by decide) ?_
      exact gx_weak (gx_le_k rfl (gx_le_k rfl (gx_le_k rfl gx_le_0))) (hk2 _ h)
    · have h := gi_t hc2 h
      refine gx_aload_0 C dX0_priceOf_20 rfl ?_
      refine gs_getf (q := 41) C fl_X0_21 (cls_X0 hx) lt_X_Bests (oc_X_Bests a ι _) rfl dX0_priceOf_21 ?_
      refine gx_iload_2 C dX0_priceOf_24 rfl ?_
      refine gs_iald (q := 45) C (ac_X_Bests_chosen hx a) lt_X_Bests_chosen hi1 dX0_priceOf_25 ?_
      exact gx_iret C F rfl dX0_priceOf_26 (congrArg (fun z => (z, S)) (Option.some.inj h))
def m_Bests_priceOf (x1 : Int32) (S : gx_S) : Option (Int32) := gx_loop (m_Bests_priceOf_2 x1 S) 5000 0
set_option maxRecDepth 20000 in
set_option maxHeartbeats 1000000 in
theorem c_Bests_priceOf (l : Launch) (D : va_G) {cl : List vw_C} {tys : List (ClassId × FieldType)} {ι : Nat → ClassId} (hx : gx_std vwCl (gty ι) cl tys) (a : Nat → Nat) (x1 : Int32) (S : gx_S) {out : Int32} (h : m_Bests_priceOf x1 S = some out) : gx_mI l D cl tys yX0_priceOf (.code yX0_priceOf cX0_priceOf 3 ((Option.some Jvm.ClassFile.FieldType.int)) :: gx_U) (gx_rm 0) [.ref (a 41), .int x1] (wX a ι S) (wX a ι) (out, S) := by
  unfold m_Bests_priceOf at h
  refine gx_startI (V := [.ref (a 41), .int x1, .null]) 1 (by decide +kernel) (Nat.le_of_ble_eq_true rfl) rfl (fun Γ hl hD hcl hty hnL C F => ?_)
  subst hl; subst hD; subst hcl; subst hty
  refine gx_iconst0 C dX0_priceOf_0 ?_
  refine gx_istore_2 C dX0_priceOf_1 (by rw [hnL]; decide) trivial ?_
  refine gx_weak (gx_le_k rfl (gx_le_k rfl (gx_le_k rfl gx_le_0))) (gi_loop (P := fun t => gx_G Γ 0 0 2 [.ref (a 41), .int x1, .int t] [] (wX a ι S)) (fun kk t hk h => ?_) 5000 _ h)
  exact b_Bests_priceOf_2 hx C ⟨F, hnL⟩ (k2 := kk) (fun x28 h => hk x28 h) h
def m_Text_at_21 (r : Nat) (S : gx_S) : Option (Int32) := some 0
set_option maxRecDepth 20000 in
set_option maxHeartbeats 1000000 in
theorem b_Text_at_21 {Γ : gx_T} {ι : Nat → ClassId} {a : Nat → Nat} {r : Nat} {out : Int32} {S : gx_S} (hx : gx_std vwCl (gty ι) (gx_cl Γ) (gx_ty Γ)) (hr : r < 5) (C : gx_ok Γ cX6_at RX6 gx_U 0) (F : gx_finI Γ ((Option.some Jvm.ClassFile.FieldType.char)) (wX a ι) (out, S) ∧ gx_nL Γ = 2) (h : m_Text_at_21 r S = some out) : gx_G Γ 0 0 21 [.ref (a (66 + 2 * r)), .null] [] (wX a ι S) := by
  obtain ⟨F, hnL⟩ := F
  unfold m_Text_at_21 at h
  refine gx_iconst0 C dX6_at_21 ?_
  exact gx_iret C F (by decide) dX6_at_22 (congrArg (fun z => (z, S)) (Option.some.inj h))
def m_Text_at (r : Nat) (x1 : Int32) (S : gx_S) : Option (Int32) := if x1 < 0 then m_Text_at_21 r S else if (S (66 + 2 * r) 1) ≤ x1 then m_Text_at_21 r S else gx_ck 50 x1 (gx_bc (S (66 + 2 * r + 1) x1.toNatClampNeg) (some (S (66 + 2 * r + 1) x1.toNatClampNeg)))
set_option maxRecDepth 20000 in
set_option maxHeartbeats 1000000 in
theorem c_Text_at (l : Launch) (D : va_G) {cl : List vw_C} {tys : List (ClassId × FieldType)} {ι : Nat → ClassId} (hx : gx_std vwCl (gty ι) cl tys) (a : Nat → Nat) {r : Nat} (hr : r < 5) (x1 : Int32) (S : gx_S) {out : Int32} (h : m_Text_at r x1 S = some out) : gx_mI l D cl tys yX6_at (.code yX6_at cX6_at 2 ((Option.some Jvm.ClassFile.FieldType.char)) :: gx_U) (gx_rm 0) [.ref (a (66 + 2 * r)), .int x1] (wX a ι S) (wX a ι) (out, S) := by
  unfold m_Text_at at h
  refine gx_startI (V := [.ref (a (66 + 2 * r)), .int x1]) 0 (by decide +kernel) (Nat.le_of_ble_eq_true rfl) rfl (fun Γ hl hD hcl hty hnL C F => ?_)
  subst hl; subst hD; subst hcl; subst hty
  refine gx_iload_1 C dX6_at_0 rfl ?_
  refine gx_if_lt (tgt := 21) C dX6_at_1 (by decide) (fun hc4 => ?_) (fun hc4 => ?_)
  · have h := gi_t hc4 h
    exact gx_weak (gx_le_k rfl (gx_le_n gx_le_0)) (b_Text_at_21 hx hr C ⟨F, hnL⟩ h)
  · have h := gi_f hc4 h
    refine gx_iload_1 C dX6_at_4 rfl ?_
    refine gx_aload_0 C dX6_at_5 rfl ?_
    refine gs_getf (q := (66 + 2 * r)) C fl_X6_15 (cls_X6 hx) (lt_X_Text (q := r) hr) (oc_X_Text a ι _ (q := r) hr) rfl dX6_at_6 ?_
    refine gx_icmp_ge (tgt := 21) C dX6_at_9 (by decide) (fun hc3 => ?_) (fun hc3 => ?_)
    · have h := gi_t hc3 h
      exact gx_weak (gx_le_k rfl (gx_le_n gx_le_0)) (b_Text_at_21 hx hr C ⟨F, hnL⟩ h)
    · have h := gi_f hc3 h
      refine gx_aload_0 C dX6_at_12 rfl ?_
      refine gs_getf (q := (66 + 2 * r)) C fl_X6_9 (cls_X6 hx) (lt_X_Text (q := r) hr) (oc_X_Text a ι _ (q := r) hr) rfl dX6_at_13 ?_
      refine gx_iload_1 C dX6_at_16 rfl ?_
      obtain ⟨hi1, h⟩ := gi_ck h
      refine gs_cald (q := (66 + 2 * r + 1)) C (ac_X_Text_letter hx a (q := r) hr) (lt_X_Text_letter (q := r) hr) hi1 dX6_at_17 ?_
      refine gx_goto (tgt := 22) C dX6_at_18 (by decide) ?_
      obtain ⟨hz2, h⟩ := gi_bc h
      exact gx_iret C F hz2 dX6_at_22 (congrArg (fun z => (z, S)) (Option.some.inj h))
def m_Grammar_takesFactor_55 (S : gx_S) : Option (Int32 × gx_S) := some (1, S)
set_option maxRecDepth 20000 in
set_option maxHeartbeats 1000000 in
theorem b_Grammar_takesFactor_55 {Γ : gx_T} {ι : Nat → ClassId} {a : Nat → Nat} {out : Int32 × gx_S} (hx : gx_std vwCl (gty ι) (gx_cl Γ) (gx_ty Γ)) (C : gx_ok Γ cX1_takesFactor RX1 gx_U 0) (F : gx_finI Γ ((Option.some Jvm.ClassFile.FieldType.boolean)) (wX a ι) out ∧ gx_nL Γ = 2) {S : gx_S} (h : m_Grammar_takesFactor_55 S = some out) : gx_G Γ 0 0 55 [.ref (a 76), .null] [] (wX a ι S) := by
  obtain ⟨F, hnL⟩ := F
  unfold m_Grammar_takesFactor_55 at h
  refine gx_iconst1 C dX1_takesFactor_55 ?_
  refine gx_goto (tgt := 60) C dX1_takesFactor_56 (by decide) ?_
  exact gx_iret C F (by decide) dX1_takesFactor_60 (Option.some.inj h)
def m_Grammar_takesFactor (x1 : Int32) (S : gx_S) : Option (Int32 × gx_S) := if x1 = 40 then gx_let (gx_st S 76 1 ((S 76 1) + (1 : Int32))) fun S8 => some (1, S8) else if x1 = 33 then some (1, S) else gx_let (gx_st S 76 0 1) fun S1 => if x1 = 115 then m_Grammar_takesFactor_55 S1 else if x1 = 111 then m_Grammar_takesFactor_55 S1 else if x1 = 114 then m_Grammar_takesFactor_55 S1 else if x1 = 100 then m_Grammar_takesFactor_55 S1 else some (0, S1)
set_option maxRecDepth 20000 in
set_option maxHeartbeats 1000000 in
theorem c_Grammar_takesFactor (l : Launch) (D : va_G) {cl : List vw_C} {tys : List (ClassId × FieldType)} {ι : Nat → ClassId} (hx : gx_std vwCl (gty ι) cl tys) (a : Nat → Nat) (x1 : Int32) (S : gx_S) {out : Int32 × gx_S} (h : m_Grammar_takesFactor x1 S = some out) : gx_mI l D cl tys yX1_takesFactor (.code yX1_takesFactor cX1_takesFactor 2 ((Option.some Jvm.ClassFile.FieldType.boolean)) :: gx_U) (gx_rm 0) [.ref (a 76), .int x1] (wX a ι S) (wX a ι) out := by
  unfold m_Grammar_takesFactor at h
  refine gx_startI (V := [.ref (a 76), .int x1]) 0 (by decide +kernel) (Nat.le_of_ble_eq_true rfl) rfl (fun Γ hl hD hcl hty hnL C F => ?_)
  subst hl; subst hD; subst hcl; subst hty
  refine gx_iload_1 C dX1_takesFactor_0 rfl ?_
  refine gx_bipush (v := 40) C dX1_takesFactor_1 (by decide) ?_
  refine gx_icmp_ne (tgt := 18) C dX1_takesFactor_3 (by decide) (fun hc10 => ?_) (fun hc10 => ?_)
  · have h := gi_f hc10 h
    refine gx_iload_1 C dX1_takesFactor_18 rfl ?_
    refine gx_bipush (v := 33) C dX1_takesFactor_19 (by decide) ?_
    refine gx_icmp_ne (tgt := 26) C dX1_takesFactor_21 (by decide) (fun hc7 => ?_) (fun hc7 => ?_)
    · have h := gi_f hc7 h
      refine gx_aload_0 C dX1_takesFactor_26 rfl ?_
      refine gx_iconst1 C dX1_takesFactor_27 ?_
      obtain ⟨S1, e2, h⟩ := gi_let h
      refine gs_puti (q := 76) C fl_X1_9 (cls_X1 hx) lt_X_Grammar (oc_X_Grammar a ι _) (oc_X_Grammar a ι _) rfl rfl rfl (Nat.le_of_ble_eq_true rfl) e2 dX1_takesFactor_28 ?_
      refine gx_iload_1 C dX1_takesFactor_31 rfl ?_
      refine gx_bipush (v := 115) C dX1_takesFactor_32 (by decide) ?_
      refine gx_icmp_eq (tgt := 55) C dX1_takesFactor_34 (by decide) (fun hc6 => ?_) (fun hc6 => ?_)
      · have h := gi_t hc6 h
        exact gx_weak (gx_le_k rfl (gx_le_n gx_le_0)) (b_Grammar_takesFactor_55 hx C ⟨F, hnL⟩ h)
      · have h := gi_f hc6 h
        refine gx_iload_1 C dX1_takesFactor_37 rfl ?_
        refine gx_bipush (v := 111) C dX1_takesFactor_38 (by decide) ?_
        refine gx_icmp_eq (tgt := 55) C dX1_takesFactor_40 (by decide) (fun hc5 => ?_) (fun hc5 => ?_)
        · have h := gi_t hc5 h
          exact gx_weak (gx_le_k rfl (gx_le_n gx_le_0)) (b_Grammar_takesFactor_55 hx C ⟨F, hnL⟩ h)
        · have h := gi_f hc5 h
          refine gx_iload_1 C dX1_takesFactor_43 rfl ?_
          refine gx_bipush (v := 114) C dX1_takesFactor_44 (by decide) ?_
          refine gx_icmp_eq (tgt := 55) C dX1_takesFactor_46 (by decide) (fun hc4 => ?_) (fun hc4 => ?_)
          · have h := gi_t hc4 h
            exact gx_weak (gx_le_k rfl (gx_le_n gx_le_0)) (b_Grammar_takesFactor_55 hx C ⟨F, hnL⟩ h)
          · have h := gi_f hc4 h
            refine gx_iload_1 C dX1_takesFactor_49 rfl ?_
            refine gx_bipush (v := 100) C dX1_takesFactor_50 (by decide) ?_
            refine gx_icmp_ne (tgt := 59) C dX1_takesFactor_52 (by decide) (fun hc3 => ?_) (fun hc3 => ?_)
            · have h := gi_f hc3 h
              refine gx_iconst0 C dX1_takesFactor_59 ?_
              exact gx_iret C F (by decide) dX1_takesFactor_60 (Option.some.inj h)
            · have h := gi_t hc3 h
              exact gx_weak (gx_le_k rfl (gx_le_n gx_le_0)) (b_Grammar_takesFactor_55 hx C ⟨F, hnL⟩ h)
    · have h := gi_t hc7 h
      refine gx_iconst1 C dX1_takesFactor_24 ?_
      exact gx_iret C F (by decide) dX1_takesFactor_25 (Option.some.inj h)
  · have h := gi_t hc10 h
    refine gx_aload_0 C dX1_takesFactor_6 rfl ?_
    refine gx_dup C dX1_takesFactor_7 rfl ?_
    refine gs_getf (q := 76) C fl_X1_13 (cls_X1 hx) lt_X_Grammar (oc_X_Grammar a ι _) rfl dX1_takesFactor_8 ?_
    refine gx_iconst1 C dX1_takesFactor_11 ?_
    refine gx_iadd C dX1_takesFactor_12 ?_
    obtain ⟨S8, e9, h⟩ := gi_let h
    refine gs_puti (q := 76) C fl_X1_13 (cls_X1 hx) lt_X_Grammar (oc_X_Grammar a ι _) (oc_X_Grammar a ι _) rfl rfl rfl (Nat.le_of_ble_eq_true rfl) e9 dX1_takesFactor_13 ?_
    refine gx_iconst1 C dX1_takesFactor_16 ?_
    exact gx_iret C F (by decide) dX1_takesFactor_17 (Option.some.inj h)
def m_Text_isDigit_16 (S : gx_S) : Option (Int32) := some 0
set_option maxRecDepth 20000 in
set_option maxHeartbeats 1000000 in
theorem b_Text_isDigit_16 {Γ : gx_T} {ι : Nat → ClassId} {a : Nat → Nat} {out : Int32} {S : gx_S} (hx : gx_std vwCl (gty ι) (gx_cl Γ) (gx_ty Γ)) (C : gx_ok Γ cX6_isDigit RX6 gx_U 0) (F : gx_finI Γ ((Option.some Jvm.ClassFile.FieldType.boolean)) (wX a ι) (out, S) ∧ gx_nL Γ = 1) (h : m_Text_isDigit_16 S = some out) : gx_G Γ 0 0 16 [.null] [] (wX a ι S) := by
  obtain ⟨F, hnL⟩ := F
  unfold m_Text_isDigit_16 at h
  refine gx_iconst0 C dX6_isDigit_16 ?_
  exact gx_iret C F (by decide) dX6_isDigit_17 (congrArg (fun z => (z, S)) (Option.some.inj h))
def m_Text_isDigit (x0 : Int32) (S : gx_S) : Option (Int32) := if x0 < 48 then m_Text_isDigit_16 S else if 57 < x0 then m_Text_isDigit_16 S else some 1
set_option maxRecDepth 20000 in
set_option maxHeartbeats 1000000 in
theorem c_Text_isDigit (l : Launch) (D : va_G) {cl : List vw_C} {tys : List (ClassId × FieldType)} {ι : Nat → ClassId} (hx : gx_std vwCl (gty ι) cl tys) (a : Nat → Nat) (x0 : Int32) (S : gx_S) {out : Int32} (h : m_Text_isDigit x0 S = some out) : gx_mI l D cl tys yX6_isDigit (.code yX6_isDigit cX6_isDigit 1 ((Option.some Jvm.ClassFile.FieldType.boolean)) :: gx_U) (gx_rm 0) [.int x0] (wX a ι S) (wX a ι) (out, S) := by
  unfold m_Text_isDigit at h
  refine gx_startI (V := [.int x0]) 0 (by decide +kernel) (Nat.le_of_ble_eq_true rfl) rfl (fun Γ hl hD hcl hty hnL C F => ?_)
  subst hl; subst hD; subst hcl; subst hty
  refine gx_iload_0 C dX6_isDigit_0 rfl ?_
  refine gx_bipush (v := 48) C dX6_isDigit_1 (by decide) ?_
  refine gx_icmp_lt (tgt := 16) C dX6_isDigit_3 (by decide) (fun hc2 => ?_) (fun hc2 => ?_)
  · have h := gi_t hc2 h
    exact gx_weak (gx_le_n gx_le_0) (b_Text_isDigit_16 hx C ⟨F, hnL⟩ h)
  · have h := gi_f hc2 h
    refine gx_iload_0 C dX6_isDigit_6 rfl ?_
    refine gx_bipush (v := 57) C dX6_isDigit_7 (by decide) ?_
    refine gx_icmp_gt (tgt := 16) C dX6_isDigit_9 (by decide) (fun hc1 => ?_) (fun hc1 => ?_)
    · have h := gi_t hc1 h
      exact gx_weak (gx_le_n gx_le_0) (b_Text_isDigit_16 hx C ⟨F, hnL⟩ h)
    · have h := gi_f hc1 h
      refine gx_iconst1 C dX6_isDigit_12 ?_
      refine gx_goto (tgt := 17) C dX6_isDigit_13 (by decide) ?_
      exact gx_iret C F (by decide) dX6_isDigit_17 (congrArg (fun z => (z, S)) (Option.some.inj h))
def m_Grammar_takesDigit (x1 : Int32) (S : gx_S) : Option (Int32 × gx_S) := gx_cp (m_Text_isDigit x1 S) fun v2 => if v2 = 0 then some (0, S) else if (S 76 2) < 4 then gx_let (gx_st S 76 0 3) fun S3 => gx_let (gx_st S3 76 2 ((S3 76 2) + (1 : Int32))) fun S5 => some (1, S5) else some (0, S)
set_option maxRecDepth 20000 in
set_option maxHeartbeats 1000000 in
theorem c_Grammar_takesDigit (l : Launch) (D : va_G) {cl : List vw_C} {tys : List (ClassId × FieldType)} {ι : Nat → ClassId} (hx : gx_std vwCl (gty ι) cl tys) (a : Nat → Nat) (x1 : Int32) (S : gx_S) {out : Int32 × gx_S} (h : m_Grammar_takesDigit x1 S = some out) : gx_mI l D cl tys yX1_takesDigit (.code yX1_takesDigit cX1_takesDigit 2 ((Option.some Jvm.ClassFile.FieldType.boolean)) :: gx_U) (gx_rm 1) [.ref (a 76), .int x1] (wX a ι S) (wX a ι) out := by
  unfold m_Grammar_takesDigit at h
  refine gx_startI (V := [.ref (a 76), .int x1]) 0 (by decide +kernel) (Nat.le_of_ble_eq_true rfl) rfl (fun Γ hl hD hcl hty hnL C F => ?_)
  subst hl; subst hD; subst hcl; subst hty
  refine gx_iload_1 C dX1_takesDigit_0 rfl ?_
  obtain ⟨v2, e1, h⟩ := gi_cp h
  refine gc_IS C (c_Text_isDigit (gx_l Γ) (gx_D Γ) hx a _ _ e1) (gx_cwS C gx_uu lk_X1_45 (by decide) (by decide)) rfl rfl (Nat.le_of_ble_eq_true rfl) ⟨Nat.zero_le _, Nat.zero_le _⟩ dX1_takesDigit_1 ?_
  refine gx_if_eq (tgt := 15) C dX1_takesDigit_4 (by decide) (fun hc8 => ?_) (fun hc8 => ?_)
  · have h := gi_t hc8 h
    refine gx_iconst0 C dX1_takesDigit_15 ?_
    exact gx_iret C F (by decide) dX1_takesDigit_16 (Option.some.inj h)
  · have h := gi_f hc8 h
    refine gx_aload_0 C dX1_takesDigit_7 rfl ?_
    refine gs_getf (q := 76) C fl_X1_36 (cls_X1 hx) lt_X_Grammar (oc_X_Grammar a ι _) rfl dX1_takesDigit_8 ?_
    refine gx_iconst4 C dX1_takesDigit_11 ?_
    refine gx_icmp_lt (tgt := 17) C dX1_takesDigit_12 (by decide) (fun hc7 => ?_) (fun hc7 => ?_)
    · have h := gi_t hc7 h
      refine gx_aload_0 C dX1_takesDigit_17 rfl ?_
      refine gx_iconst3 C dX1_takesDigit_18 ?_
      obtain ⟨S3, e4, h⟩ := gi_let h
      refine gs_puti (q := 76) C fl_X1_9 (cls_X1 hx) lt_X_Grammar (oc_X_Grammar a ι _) (oc_X_Grammar a ι _) rfl rfl rfl (Nat.le_of_ble_eq_true rfl) e4 dX1_takesDigit_19 ?_
      refine gx_aload_0 C dX1_takesDigit_22 rfl ?_
      refine gx_dup C dX1_takesDigit_23 rfl ?_
      refine gs_getf (q := 76) C fl_X1_36 (cls_X1 hx) lt_X_Grammar (oc_X_Grammar a ι _) rfl dX1_takesDigit_24 ?_
      refine gx_iconst1 C dX1_takesDigit_27 ?_
      refine gx_iadd C dX1_takesDigit_28 ?_
      obtain ⟨S5, e6, h⟩ := gi_let h
      refine gs_puti (q := 76) C fl_X1_36 (cls_X1 hx) lt_X_Grammar (oc_X_Grammar a ι _) (oc_X_Grammar a ι _) rfl rfl rfl (Nat.le_of_ble_eq_true rfl) e6 dX1_takesDigit_29 ?_
      refine gx_iconst1 C dX1_takesDigit_32 ?_
      exact gx_iret C F (by decide) dX1_takesDigit_33 (Option.some.inj h)
    · have h := gi_f hc7 h
      refine gx_iconst0 C dX1_takesDigit_15 ?_
      exact gx_iret C F (by decide) dX1_takesDigit_16 (Option.some.inj h)
def m_Grammar_takesBehind_47 (S : gx_S) : Option (Int32 × gx_S) := some (1, S)
set_option maxRecDepth 20000 in
set_option maxHeartbeats 1000000 in
theorem b_Grammar_takesBehind_47 {Γ : gx_T} {ι : Nat → ClassId} {a : Nat → Nat} {out : Int32 × gx_S} (hx : gx_std vwCl (gty ι) (gx_cl Γ) (gx_ty Γ)) (C : gx_ok Γ cX1_takesBehind RX1 gx_U 0) (F : gx_finI Γ ((Option.some Jvm.ClassFile.FieldType.boolean)) (wX a ι) out ∧ gx_nL Γ = 2) {S : gx_S} (h : m_Grammar_takesBehind_47 S = some out) : gx_G Γ 0 0 47 [.ref (a 76), .null] [] (wX a ι S) := by
  obtain ⟨F, hnL⟩ := F
  unfold m_Grammar_takesBehind_47 at h
  refine gx_iconst1 C dX1_takesBehind_47 ?_
  refine gx_goto (tgt := 52) C dX1_takesBehind_48 (by decide) ?_
  exact gx_iret C F (by decide) dX1_takesBehind_52 (Option.some.inj h)
def m_Grammar_takesBehind_30 (x1 : Int32) (S : gx_S) : Option (Int32 × gx_S) := gx_let (gx_st S 76 0 0) fun S1 => if x1 = 124 then m_Grammar_takesBehind_47 S1 else if x1 = 38 then m_Grammar_takesBehind_47 S1 else some (0, S1)
set_option maxRecDepth 20000 in
set_option maxHeartbeats 1000000 in
theorem b_Grammar_takesBehind_30 {Γ : gx_T} {ι : Nat → ClassId} {a : Nat → Nat} {out : Int32 × gx_S} (hx : gx_std vwCl (gty ι) (gx_cl Γ) (gx_ty Γ)) (C : gx_ok Γ cX1_takesBehind RX1 gx_U 0) (F : gx_finI Γ ((Option.some Jvm.ClassFile.FieldType.boolean)) (wX a ι) out ∧ gx_nL Γ = 2) {x1 : Int32} {S : gx_S} (h : m_Grammar_takesBehind_30 x1 S = some out) : gx_G Γ 0 0 30 [.ref (a 76), .int x1] [] (wX a ι S) := by
  obtain ⟨F, hnL⟩ := F
  unfold m_Grammar_takesBehind_30 at h
  refine gx_aload_0 C dX1_takesBehind_30 rfl ?_
  refine gx_iconst0 C dX1_takesBehind_31 ?_
  obtain ⟨S1, e2, h⟩ := gi_let h
  refine gs_puti (q := 76) C fl_X1_9 (cls_X1 hx) lt_X_Grammar (oc_X_Grammar a ι _) (oc_X_Grammar a ι _) rfl rfl rfl (Nat.le_of_ble_eq_true rfl) e2 dX1_takesBehind_32 ?_
  refine gx_iload_1 C dX1_takesBehind_35 rfl ?_
  refine gx_bipush (v := 124) C dX1_takesBehind_36 (by decide) ?_
  refine gx_icmp_eq (tgt := 47) C dX1_takesBehind_38 (by decide) (fun hc4 => ?_) (fun hc4 => ?_)
  · have h := gi_t hc4 h
    exact gx_weak (gx_le_k rfl (gx_le_n gx_le_0)) (b_Grammar_takesBehind_47 hx C ⟨F, hnL⟩ h)
  · have h := gi_f hc4 h
    refine gx_iload_1 C dX1_takesBehind_41 rfl ?_
    refine gx_bipush (v := 38) C dX1_takesBehind_42 (by decide) ?_
    refine gx_icmp_ne (tgt := 51) C dX1_takesBehind_44 (by decide) (fun hc3 => ?_) (fun hc3 => ?_)
    · have h := gi_f hc3 h
      refine gx_iconst0 C dX1_takesBehind_51 ?_
      exact gx_iret C F (by decide) dX1_takesBehind_52 (Option.some.inj h)
    · have h := gi_t hc3 h
      exact gx_weak (gx_le_k rfl (gx_le_n gx_le_0)) (b_Grammar_takesBehind_47 hx C ⟨F, hnL⟩ h)
def m_Grammar_takesBehind (x1 : Int32) (S : gx_S) : Option (Int32 × gx_S) := if x1 = 41 then if (S 76 1) ≤ 0 then m_Grammar_takesBehind_30 x1 S else gx_let (gx_st S 76 1 ((S 76 1) - (1 : Int32))) fun S1 => gx_let (gx_st S1 76 0 4) fun S3 => some (1, S3) else m_Grammar_takesBehind_30 x1 S
set_option maxRecDepth 20000 in
set_option maxHeartbeats 1000000 in
theorem c_Grammar_takesBehind (l : Launch) (D : va_G) {cl : List vw_C} {tys : List (ClassId × FieldType)} {ι : Nat → ClassId} (hx : gx_std vwCl (gty ι) cl tys) (a : Nat → Nat) (x1 : Int32) (S : gx_S) {out : Int32 × gx_S} (h : m_Grammar_takesBehind x1 S = some out) : gx_mI l D cl tys yX1_takesBehind (.code yX1_takesBehind cX1_takesBehind 2 ((Option.some Jvm.ClassFile.FieldType.boolean)) :: gx_U) (gx_rm 0) [.ref (a 76), .int x1] (wX a ι S) (wX a ι) out := by
  unfold m_Grammar_takesBehind at h
  refine gx_startI (V := [.ref (a 76), .int x1]) 0 (by decide +kernel) (Nat.le_of_ble_eq_true rfl) rfl (fun Γ hl hD hcl hty hnL C F => ?_)
  subst hl; subst hD; subst hcl; subst hty
  refine gx_iload_1 C dX1_takesBehind_0 rfl ?_
  refine gx_bipush (v := 41) C dX1_takesBehind_1 (by decide) ?_
  refine gx_icmp_ne (tgt := 30) C dX1_takesBehind_3 (by decide) (fun hc6 => ?_) (fun hc6 => ?_)
  · have h := gi_f hc6 h
    exact gx_weak (gx_le_k rfl (gx_le_k rfl gx_le_0)) (b_Grammar_takesBehind_30 hx C ⟨F, hnL⟩ h)
  · have h := gi_t hc6 h
    refine gx_aload_0 C dX1_takesBehind_6 rfl ?_
    refine gs_getf (q := 76) C fl_X1_13 (cls_X1 hx) lt_X_Grammar (oc_X_Grammar a ι _) rfl dX1_takesBehind_7 ?_
    refine gx_if_le (tgt := 30) C dX1_takesBehind_10 (by decide) (fun hc5 => ?_) (fun hc5 => ?_)
    · have h := gi_t hc5 h
      exact gx_weak (gx_le_k rfl (gx_le_k rfl gx_le_0)) (b_Grammar_takesBehind_30 hx C ⟨F, hnL⟩ h)
    · have h := gi_f hc5 h
      refine gx_aload_0 C dX1_takesBehind_13 rfl ?_
      refine gx_dup C dX1_takesBehind_14 rfl ?_
      refine gs_getf (q := 76) C fl_X1_13 (cls_X1 hx) lt_X_Grammar (oc_X_Grammar a ι _) rfl dX1_takesBehind_15 ?_
      refine gx_iconst1 C dX1_takesBehind_18 ?_
      refine gx_isub C dX1_takesBehind_19 ?_
      obtain ⟨S1, e2, h⟩ := gi_let h
      refine gs_puti (q := 76) C fl_X1_13 (cls_X1 hx) lt_X_Grammar (oc_X_Grammar a ι _) (oc_X_Grammar a ι _) rfl rfl rfl (Nat.le_of_ble_eq_true rfl) e2 dX1_takesBehind_20 ?_
      refine gx_aload_0 C dX1_takesBehind_23 rfl ?_
      refine gx_iconst4 C dX1_takesBehind_24 ?_
      obtain ⟨S3, e4, h⟩ := gi_let h
      refine gs_puti (q := 76) C fl_X1_9 (cls_X1 hx) lt_X_Grammar (oc_X_Grammar a ι _) (oc_X_Grammar a ι _) rfl rfl rfl (Nat.le_of_ble_eq_true rfl) e4 dX1_takesBehind_25 ?_
      refine gx_iconst1 C dX1_takesBehind_28 ?_
      exact gx_iret C F (by decide) dX1_takesBehind_29 (Option.some.inj h)
def m_Grammar_takes_70 (S : gx_S) : Option (Int32 × gx_S) := some (1, S)
set_option maxRecDepth 20000 in
set_option maxHeartbeats 1000000 in
theorem b_Grammar_takes_70 {Γ : gx_T} {ι : Nat → ClassId} {a : Nat → Nat} {out : Int32 × gx_S} (hx : gx_std vwCl (gty ι) (gx_cl Γ) (gx_ty Γ)) (C : gx_ok Γ cX1_takes RX1 gx_U 2) (F : gx_finI Γ ((Option.some Jvm.ClassFile.FieldType.boolean)) (wX a ι) out ∧ gx_nL Γ = 2) {S : gx_S} (h : m_Grammar_takes_70 S = some out) : gx_G Γ 0 0 70 [.ref (a 76), .null] [] (wX a ι S) := by
  obtain ⟨F, hnL⟩ := F
  unfold m_Grammar_takes_70 at h
  refine gx_iconst1 C dX1_takes_70 ?_
  refine gx_goto (tgt := 75) C dX1_takes_71 (by decide) ?_
  exact gx_iret C F (by decide) dX1_takes_75 (Option.some.inj h)
def m_Grammar_takes_98 (S : gx_S) : Option (Int32 × gx_S) := some (1, S)
set_option maxRecDepth 20000 in
set_option maxHeartbeats 1000000 in
theorem b_Grammar_takes_98 {Γ : gx_T} {ι : Nat → ClassId} {a : Nat → Nat} {out : Int32 × gx_S} (hx : gx_std vwCl (gty ι) (gx_cl Γ) (gx_ty Γ)) (C : gx_ok Γ cX1_takes RX1 gx_U 2) (F : gx_finI Γ ((Option.some Jvm.ClassFile.FieldType.boolean)) (wX a ι) out ∧ gx_nL Γ = 2) {S : gx_S} (h : m_Grammar_takes_98 S = some out) : gx_G Γ 0 0 98 [.ref (a 76), .null] [] (wX a ι S) := by
  obtain ⟨F, hnL⟩ := F
  unfold m_Grammar_takes_98 at h
  refine gx_iconst1 C dX1_takes_98 ?_
  refine gx_goto (tgt := 103) C dX1_takes_99 (by decide) ?_
  exact gx_iret C F (by decide) dX1_takes_103 (Option.some.inj h)
def m_Grammar_takes (x1 : Int32) (S : gx_S) : Option (Int32 × gx_S) := if (S 76 0) = 0 then gx_cs (m_Grammar_takesFactor x1 S) fun v53 S52 => gx_bz v53 (some (v53, S52)) else if (S 76 0) = 1 then gx_let (gx_st S 76 0 2) fun S44 => gx_let (gx_st S44 76 2 0) fun S46 => if x1 = 60 then m_Grammar_takes_70 S46 else if x1 = 61 then m_Grammar_takes_70 S46 else if x1 = 62 then m_Grammar_takes_70 S46 else some (0, S46) else if (S 76 0) = 2 then gx_cs (m_Grammar_takesDigit x1 S) fun v42 S41 => gx_bz v42 (some (v42, S41)) else if (S 76 0) = 3 then gx_cs (m_Grammar_takesDigit x1 S) fun v34 S33 => if v34 = 0 then gx_cs (m_Grammar_takesBehind x1 S33) fun v37 S36 => if v37 = 0 then some (0, S36) else m_Grammar_takes_98 S36 else m_Grammar_takes_98 S33 else gx_cs (m_Grammar_takesBehind x1 S) fun v3 S2 => gx_bz v3 (some (v3, S2))
set_option maxRecDepth 20000 in
set_option maxHeartbeats 1000000 in
theorem c_Grammar_takes (l : Launch) (D : va_G) {cl : List vw_C} {tys : List (ClassId × FieldType)} {ι : Nat → ClassId} (hx : gx_std vwCl (gty ι) cl tys) (a : Nat → Nat) (x1 : Int32) (S : gx_S) {out : Int32 × gx_S} (h : m_Grammar_takes x1 S = some out) : gx_mI l D cl tys yX1_takes (.code yX1_takes cX1_takes 2 ((Option.some Jvm.ClassFile.FieldType.boolean)) :: gx_U) (gx_rm 2) [.ref (a 76), .int x1] (wX a ι S) (wX a ι) out := by
  unfold m_Grammar_takes at h
  refine gx_startI (V := [.ref (a 76), .int x1]) 0 (by decide +kernel) (Nat.le_of_ble_eq_true rfl) rfl (fun Γ hl hD hcl hty hnL C F => ?_)
  subst hl; subst hD; subst hcl; subst hty
  refine gx_aload_0 C dX1_takes_0 rfl ?_
  refine gs_getf (q := 76) C fl_X1_9 (cls_X1 hx) lt_X_Grammar (oc_X_Grammar a ι _) rfl dX1_takes_1 ?_
  by_cases hc5 : (S 76 0) = 0
  · have h := gi_t hc5 h
    refine gx_tin (tgt := 36) C dX1_takes_4 (by rw [hc5]; decide) (by rw [hc5]; decide) (by rw [hc5]; rfl) (by decide) ?_
    refine gx_aload_0 C dX1_takes_36 rfl ?_
    refine gx_iload_1 C dX1_takes_37 rfl ?_
    obtain ⟨v11, S10, e9, h⟩ := gi_cs h
    refine gc_IV C (c_Grammar_takesFactor (gx_l Γ) (gx_D Γ) hx a _ _ e9) (gx_cw C gx_uu lk_X1_33 (by decide) (by decide)) (cls_X1 hx).1 (gs_recv (q := 76) lt_X_Grammar (oc_X_Grammar a ι _)) rfl rfl (Nat.le_of_ble_eq_true rfl) ⟨Nat.zero_le _, Nat.zero_le _⟩ dX1_takes_38 ?_
    obtain ⟨hz12, h⟩ := gi_bz h
    exact gx_iret C F hz12.1 dX1_takes_41 (Option.some.inj h)
  · have h := gi_f hc5 h
    by_cases hc6 : (S 76 0) = 1
    · have h := gi_t hc6 h
      refine gx_tin (tgt := 42) C dX1_takes_4 (by rw [hc6]; decide) (by rw [hc6]; decide) (by rw [hc6]; rfl) (by decide) ?_
      refine gx_aload_0 C dX1_takes_42 rfl ?_
      refine gx_iconst2 C dX1_takes_43 ?_
      obtain ⟨S13, e14, h⟩ := gi_let h
      refine gs_puti (q := 76) C fl_X1_9 (cls_X1 hx) lt_X_Grammar (oc_X_Grammar a ι _) (oc_X_Grammar a ι _) rfl rfl rfl (Nat.le_of_ble_eq_true rfl) e14 dX1_takes_44 ?_
      refine gx_aload_0 C dX1_takes_47 rfl ?_
      refine gx_iconst0 C dX1_takes_48 ?_
      obtain ⟨S15, e16, h⟩ := gi_let h
      refine gs_puti (q := 76) C fl_X1_36 (cls_X1 hx) lt_X_Grammar (oc_X_Grammar a ι _) (oc_X_Grammar a ι _) rfl rfl rfl (Nat.le_of_ble_eq_true rfl) e16 dX1_takes_49 ?_
      refine gx_iload_1 C dX1_takes_52 rfl ?_
      refine gx_bipush (v := 60) C dX1_takes_53 (by decide) ?_
      refine gx_icmp_eq (tgt := 70) C dX1_takes_55 (by decide) (fun hc19 => ?_) (fun hc19 => ?_)
      · have h := gi_t hc19 h
        exact gx_weak (gx_le_k rfl (gx_le_n gx_le_0)) (b_Grammar_takes_70 hx C ⟨F, hnL⟩ h)
      · have h := gi_f hc19 h
        refine gx_iload_1 C dX1_takes_58 rfl ?_
        refine gx_bipush (v := 61) C dX1_takes_59 (by decide) ?_
        refine gx_icmp_eq (tgt := 70) C dX1_takes_61 (by decide) (fun hc18 => ?_) (fun hc18 => ?_)
        · have h := gi_t hc18 h
          exact gx_weak (gx_le_k rfl (gx_le_n gx_le_0)) (b_Grammar_takes_70 hx C ⟨F, hnL⟩ h)
        · have h := gi_f hc18 h
          refine gx_iload_1 C dX1_takes_64 rfl ?_
          refine gx_bipush (v := 62) C dX1_takes_65 (by decide) ?_
          refine gx_icmp_ne (tgt := 74) C dX1_takes_67 (by decide) (fun hc17 => ?_) (fun hc17 => ?_)
          · have h := gi_f hc17 h
            refine gx_iconst0 C dX1_takes_74 ?_
            exact gx_iret C F (by decide) dX1_takes_75 (Option.some.inj h)
          · have h := gi_t hc17 h
            exact gx_weak (gx_le_k rfl (gx_le_n gx_le_0)) (b_Grammar_takes_70 hx C ⟨F, hnL⟩ h)
    · have h := gi_f hc6 h
      by_cases hc7 : (S 76 0) = 2
      · have h := gi_t hc7 h
        refine gx_tin (tgt := 76) C dX1_takes_4 (by rw [hc7]; decide) (by rw [hc7]; decide) (by rw [hc7]; rfl) (by decide) ?_
        refine gx_aload_0 C dX1_takes_76 rfl ?_
        refine gx_iload_1 C dX1_takes_77 rfl ?_
        obtain ⟨v22, S21, e20, h⟩ := gi_cs h
        refine gc_IV C (c_Grammar_takesDigit (gx_l Γ) (gx_D Γ) hx a _ _ e20) (gx_cw C gx_uu lk_X1_39 (by decide) (by decide)) (cls_X1 hx).1 (gs_recv (q := 76) lt_X_Grammar (oc_X_Grammar a ι _)) rfl rfl (Nat.le_of_ble_eq_true rfl) ⟨Nat.zero_le _, Nat.zero_le _⟩ dX1_takes_78 ?_
        obtain ⟨hz23, h⟩ := gi_bz h
        exact gx_iret C F hz23.1 dX1_takes_81 (Option.some.inj h)
      · have h := gi_f hc7 h
        by_cases hc8 : (S 76 0) = 3
        · have h := gi_t hc8 h
          refine gx_tin (tgt := 82) C dX1_takes_4 (by rw [hc8]; decide) (by rw [hc8]; decide) (by rw [hc8]; rfl) (by decide) ?_
          refine gx_aload_0 C dX1_takes_82 rfl ?_
          refine gx_iload_1 C dX1_takes_83 rfl ?_
          obtain ⟨v26, S25, e24, h⟩ := gi_cs h
          refine gc_IV C (c_Grammar_takesDigit (gx_l Γ) (gx_D Γ) hx a _ _ e24) (gx_cw C gx_uu lk_X1_39 (by decide) (by decide)) (cls_X1 hx).1 (gs_recv (q := 76) lt_X_Grammar (oc_X_Grammar a ι _)) rfl rfl (Nat.le_of_ble_eq_true rfl) ⟨Nat.zero_le _, Nat.zero_le _⟩ dX1_takes_84 ?_
          refine gx_if_ne (tgt := 98) C dX1_takes_87 (by decide) (fun hc31 => ?_) (fun hc31 => ?_)
          · have h := gi_f hc31 h
            exact gx_weak (gx_le_k rfl (gx_le_n gx_le_0)) (b_Grammar_takes_98 hx C ⟨F, hnL⟩ h)
          · have h := gi_t hc31 h
            refine gx_aload_0 C dX1_takes_90 rfl ?_
            refine gx_iload_1 C dX1_takes_91 rfl ?_
            obtain ⟨v29, S28, e27, h⟩ := gi_cs h
            refine gc_IV C (c_Grammar_takesBehind (gx_l Γ) (gx_D Γ) hx a _ _ e27) (gx_cw C gx_uu lk_X1_42 (by decide) (by decide)) (cls_X1 hx).1 (gs_recv (q := 76) lt_X_Grammar (oc_X_Grammar a ι _)) rfl rfl (Nat.le_of_ble_eq_true rfl) ⟨Nat.zero_le _, Nat.zero_le _⟩ dX1_takes_92 ?_
            refine gx_if_eq (tgt := 102) C dX1_takes_95 (by decide) (fun hc30 => ?_) (fun hc30 => ?_)
            · have h := gi_t hc30 h
              refine gx_iconst0 C dX1_takes_102 ?_
              exact gx_iret C F (by decide) dX1_takes_103 (Option.some.inj h)
            · have h := gi_f hc30 h
              exact gx_weak (gx_le_k rfl (gx_le_n gx_le_0)) (b_Grammar_takes_98 hx C ⟨F, hnL⟩ h)
        · have h := gi_f hc8 h
          refine gx_tout (tgt := 104) C dX1_takes_4 (by have := lv_neT hc5 (a := 0) (by decide); have := lv_neT hc6 (a := 1) (by decide); have := lv_neT hc7 (a := 2) (by decide); have := lv_neT hc8 (a := 3) (by decide); omega) (by decide) ?_
          refine gx_aload_0 C dX1_takes_104 rfl ?_
          refine gx_iload_1 C dX1_takes_105 rfl ?_
          obtain ⟨v3, S2, e1, h⟩ := gi_cs h
          refine gc_IV C (c_Grammar_takesBehind (gx_l Γ) (gx_D Γ) hx a _ _ e1) (gx_cw C gx_uu lk_X1_42 (by decide) (by decide)) (cls_X1 hx).1 (gs_recv (q := 76) lt_X_Grammar (oc_X_Grammar a ι _)) rfl rfl (Nat.le_of_ble_eq_true rfl) ⟨Nat.zero_le _, Nat.zero_le _⟩ dX1_takes_106 ?_
          obtain ⟨hz4, h⟩ := gi_bz h
          exact gx_iret C F hz4.1 dX1_takes_109 (Option.some.inj h)
def m_Grammar_firstFault_12 (r1 : Nat) (t : Int32 × gx_S) (k12 : Int32 × gx_S → Option (Int32 × gx_S)) : Option (Int32 × gx_S) := match t with
  | (x2, S) => if (S (66 + 2 * r1) 1) ≤ x2 then some (S (66 + 2 * r1) 1, S) else gx_cp (m_Text_at r1 x2 S) fun v2 => gx_cs (m_Grammar_takes v2 S) fun v5 S4 => if v5 = 0 then some (x2, S4) else k12 ((x2 + 1), S4)
set_option maxRecDepth 20000 in
set_option maxHeartbeats 1000000 in
theorem b_Grammar_firstFault_12 {Γ : gx_T} {ι : Nat → ClassId} {a : Nat → Nat} {r1 : Nat} {out : Int32 × gx_S} (hx : gx_std vwCl (gty ι) (gx_cl Γ) (gx_ty Γ)) (hr1 : r1 < 5) (C : gx_ok Γ cX1_firstFault RX1 gx_U 3) (F : gx_finI Γ ((Option.some Jvm.ClassFile.FieldType.int)) (wX a ι) out ∧ gx_nL Γ = 3) {k12 : Int32 × gx_S → Option (Int32 × gx_S)} {x2 : Int32} {S : gx_S} (hk12 : ∀ (x27 : Int32) (S7 : gx_S), k12 (x27, S7) = some out → gx_G Γ 0 0 12 [.ref (a 76), .ref (a (66 + 2 * r1)), .int x27] [] (wX a ι S7)) (h : m_Grammar_firstFault_12 r1 (x2, S) k12 = some out) : gx_G Γ 0 0 12 [.ref (a 76), .ref (a (66 + 2 * r1)), .int x2] [] (wX a ι S) := by
  obtain ⟨F, hnL⟩ := F
  unfold m_Grammar_firstFault_12 at h
  dsimp only at h
  refine gx_iload_2 C dX1_firstFault_12 rfl ?_
  refine gx_aload_1 C dX1_firstFault_13 rfl ?_
  refine gs_getf (q := (66 + 2 * r1)) C fl_X1_16 (cls_X6 hx) (lt_X_Text (q := r1) hr1) (oc_X_Text a ι _ (q := r1) hr1) rfl dX1_firstFault_14 ?_
  refine gx_icmp_ge (tgt := 40) C dX1_firstFault_17 (by decide) (fun hc7 => ?_) (fun hc7 => ?_)
  · have h := gi_t hc7 h
    refine gx_aload_1 C dX1_firstFault_40 rfl ?_
    refine gs_getf (q := (66 + 2 * r1)) C fl_X1_16 (cls_X6 hx) (lt_X_Text (q := r1) hr1) (oc_X_Text a ι _ (q := r1) hr1) rfl dX1_firstFault_41 ?_
    exact gx_iret C F rfl dX1_firstFault_44 (Option.some.inj h)
  · have h := gi_f hc7 h
    refine gx_aload_0 C dX1_firstFault_20 rfl ?_
    refine gx_aload_1 C dX1_firstFault_21 rfl ?_
    refine gx_iload_2 C dX1_firstFault_22 rfl ?_
    obtain ⟨v2, e1, h⟩ := gi_cp h
    refine gc_IV C (c_Text_at (gx_l Γ) (gx_D Γ) hx a (r := r1) hr1 _ _ e1) (gx_cw C gx_uu lk_X1_21 (by decide) (by decide)) (cls_X6 hx).1 (gs_recv (q := (66 + 2 * r1)) (lt_X_Text (q := r1) hr1) (oc_X_Text a ι _ (q := r1) hr1)) rfl rfl (Nat.le_of_ble_eq_true rfl) ⟨Nat.zero_le _, Nat.zero_le _⟩ dX1_firstFault_23 ?_
    obtain ⟨v5, S4, e3, h⟩ := gi_cs h
    refine gc_IV C (c_Grammar_takes (gx_l Γ) (gx_D Γ) hx a _ _ e3) (gx_cw C gx_uu lk_X1_25 (by decide) (by decide)) (cls_X1 hx).1 (gs_recv (q := 76) lt_X_Grammar (oc_X_Grammar a ι _)) rfl rfl (Nat.le_of_ble_eq_true rfl) ⟨Nat.zero_le _, Nat.zero_le _⟩ dX1_firstFault_26 ?_
    refine gx_if_ne (tgt := 34) C dX1_firstFault_29 (by decide) (fun hc6 => ?_) (fun hc6 => ?_)
    · have h := gi_f hc6 h
      refine gx_iinc1 C dX1_firstFault_34 rfl (by rw [hnL]; decide) trivial ?_
      refine gx_goto (tgt := 12) C dX1_firstFault_37 (by decide) ?_
      exact gx_weak (gx_le_k rfl (gx_le_k rfl (gx_le_k rfl gx_le_0))) (hk12 _ _ h)
    · have h := gi_t hc6 h
      refine gx_iload_2 C dX1_firstFault_32 rfl ?_
      exact gx_iret C F rfl dX1_firstFault_33 (Option.some.inj h)
def m_Grammar_firstFault (r1 : Nat) (S : gx_S) : Option (Int32 × gx_S) := gx_let (gx_st S 76 0 0) fun S1 => gx_let (gx_st S1 76 1 0) fun S3 => gx_loop (m_Grammar_firstFault_12 r1) 5000 (0, S3)
set_option maxRecDepth 20000 in
set_option maxHeartbeats 1000000 in
theorem c_Grammar_firstFault (l : Launch) (D : va_G) {cl : List vw_C} {tys : List (ClassId × FieldType)} {ι : Nat → ClassId} (hx : gx_std vwCl (gty ι) cl tys) (a : Nat → Nat) {r1 : Nat} (hr1 : r1 < 5) (S : gx_S) {out : Int32 × gx_S} (h : m_Grammar_firstFault r1  S = some out) : gx_mI l D cl tys yX1_firstFault (.code yX1_firstFault cX1_firstFault 3 ((Option.some Jvm.ClassFile.FieldType.int)) :: gx_U) (gx_rm 3) [.ref (a 76), .ref (a (66 + 2 * r1))] (wX a ι S) (wX a ι) out := by
  unfold m_Grammar_firstFault at h
  refine gx_startI (V := [.ref (a 76), .ref (a (66 + 2 * r1)), .null]) 1 (by decide +kernel) (Nat.le_of_ble_eq_true rfl) rfl (fun Γ hl hD hcl hty hnL C F => ?_)
  subst hl; subst hD; subst hcl; subst hty
  refine gx_aload_0 C dX1_firstFault_0 rfl ?_
  refine gx_iconst0 C dX1_firstFault_1 ?_
  obtain ⟨S1, e2, h⟩ := gi_let h
  refine gs_puti (q := 76) C fl_X1_9 (cls_X1 hx) lt_X_Grammar (oc_X_Grammar a ι _) (oc_X_Grammar a ι _) rfl rfl rfl (Nat.le_of_ble_eq_true rfl) e2 dX1_firstFault_2 ?_
  refine gx_aload_0 C dX1_firstFault_5 rfl ?_
  refine gx_iconst0 C dX1_firstFault_6 ?_
  obtain ⟨S3, e4, h⟩ := gi_let h
  refine gs_puti (q := 76) C fl_X1_13 (cls_X1 hx) lt_X_Grammar (oc_X_Grammar a ι _) (oc_X_Grammar a ι _) rfl rfl rfl (Nat.le_of_ble_eq_true rfl) e4 dX1_firstFault_7 ?_
  refine gx_iconst0 C dX1_firstFault_10 ?_
  refine gx_istore_2 C dX1_firstFault_11 (by rw [hnL]; decide) trivial ?_
  refine gx_weak (gx_le_k rfl (gx_le_k rfl (gx_le_k rfl gx_le_0))) (gi_loop (P := fun t => gx_G Γ 0 0 12 [.ref (a 76), .ref (a (66 + 2 * r1)), .int t.1] [] (wX a ι t.2)) (fun kk t hk h => ?_) 5000 _ h)
  obtain ⟨x29, S'9⟩ := t
  exact b_Grammar_firstFault_12 hx hr1 C ⟨F, hnL⟩ (k12 := kk) (fun x28 S'8 h => hk (x28, S'8) h) h
def m_Grammar_isTest_39 (r1 : Nat) (S : gx_S) : Option (Int32 × gx_S) := some (0, S)
set_option maxRecDepth 20000 in
set_option maxHeartbeats 1000000 in
theorem b_Grammar_isTest_39 {Γ : gx_T} {ι : Nat → ClassId} {a : Nat → Nat} {r1 : Nat} {out : Int32 × gx_S} (hx : gx_std vwCl (gty ι) (gx_cl Γ) (gx_ty Γ)) (hr1 : r1 < 5) (C : gx_ok Γ cX1_isTest RX1 gx_U 4) (F : gx_finI Γ ((Option.some Jvm.ClassFile.FieldType.boolean)) (wX a ι) out ∧ gx_nL Γ = 2) {S : gx_S} (h : m_Grammar_isTest_39 r1 S = some out) : gx_G Γ 0 0 39 [.ref (a 76), .ref (a (66 + 2 * r1))] [] (wX a ι S) := by
  obtain ⟨F, hnL⟩ := F
  unfold m_Grammar_isTest_39 at h
  refine gx_iconst0 C dX1_isTest_39 ?_
  exact gx_iret C F (by decide) dX1_isTest_40 (Option.some.inj h)
def m_Grammar_isTest_28 (r1 : Nat) (S : gx_S) : Option (Int32 × gx_S) := if (S 76 1) = 0 then some (1, S) else m_Grammar_isTest_39 r1 S
set_option maxRecDepth 20000 in
set_option maxHeartbeats 1000000 in
theorem b_Grammar_isTest_28 {Γ : gx_T} {ι : Nat → ClassId} {a : Nat → Nat} {r1 : Nat} {out : Int32 × gx_S} (hx : gx_std vwCl (gty ι) (gx_cl Γ) (gx_ty Γ)) (hr1 : r1 < 5) (C : gx_ok Γ cX1_isTest RX1 gx_U 4) (F : gx_finI Γ ((Option.some Jvm.ClassFile.FieldType.boolean)) (wX a ι) out ∧ gx_nL Γ = 2) {S : gx_S} (h : m_Grammar_isTest_28 r1 S = some out) : gx_G Γ 0 0 28 [.ref (a 76), .ref (a (66 + 2 * r1))] [] (wX a ι S) := by
  obtain ⟨F, hnL⟩ := F
  unfold m_Grammar_isTest_28 at h
  refine gx_aload_0 C dX1_isTest_28 rfl ?_
  refine gs_getf (q := 76) C fl_X1_13 (cls_X1 hx) lt_X_Grammar (oc_X_Grammar a ι _) rfl dX1_isTest_29 ?_
  refine gx_if_ne (tgt := 39) C dX1_isTest_32 (by decide) (fun hc1 => ?_) (fun hc1 => ?_)
  · have h := gi_f hc1 h
    exact gx_weak (gx_le_k rfl (gx_le_k rfl gx_le_0)) (b_Grammar_isTest_39 hx hr1 C ⟨F, hnL⟩ h)
  · have h := gi_t hc1 h
    refine gx_iconst1 C dX1_isTest_35 ?_
    refine gx_goto (tgt := 40) C dX1_isTest_36 (by decide) ?_
    exact gx_iret C F (by decide) dX1_isTest_40 (Option.some.inj h)
def m_Grammar_isTest (r1 : Nat) (S : gx_S) : Option (Int32 × gx_S) := gx_cs (m_Grammar_firstFault r1 S) fun v3 S2 => if v3 = (S2 (66 + 2 * r1) 1) then if (S2 76 0) = 3 then m_Grammar_isTest_28 r1 S2 else if (S2 76 0) = 4 then m_Grammar_isTest_28 r1 S2 else m_Grammar_isTest_39 r1 S2 else m_Grammar_isTest_39 r1 S2
set_option maxRecDepth 20000 in
set_option maxHeartbeats 1000000 in
theorem c_Grammar_isTest (l : Launch) (D : va_G) {cl : List vw_C} {tys : List (ClassId × FieldType)} {ι : Nat → ClassId} (hx : gx_std vwCl (gty ι) cl tys) (a : Nat → Nat) {r1 : Nat} (hr1 : r1 < 5) (S : gx_S) {out : Int32 × gx_S} (h : m_Grammar_isTest r1  S = some out) : gx_mI l D cl tys yX1_isTest (.code yX1_isTest cX1_isTest 2 ((Option.some Jvm.ClassFile.FieldType.boolean)) :: gx_U) (gx_rm 4) [.ref (a 76), .ref (a (66 + 2 * r1))] (wX a ι S) (wX a ι) out := by
  unfold m_Grammar_isTest at h
  refine gx_startI (V := [.ref (a 76), .ref (a (66 + 2 * r1))]) 0 (by decide +kernel) (Nat.le_of_ble_eq_true rfl) rfl (fun Γ hl hD hcl hty hnL C F => ?_)
  subst hl; subst hD; subst hcl; subst hty
  refine gx_aload_0 C dX1_isTest_0 rfl ?_
  refine gx_aload_1 C dX1_isTest_1 rfl ?_
  obtain ⟨v3, S2, e1, h⟩ := gi_cs h
  refine gc_IV C (c_Grammar_firstFault (gx_l Γ) (gx_D Γ) hx a (r1 := r1) hr1 _ e1) (gx_cw C gx_uu lk_X1_29 (by decide) (by decide)) (cls_X1 hx).1 (gs_recv (q := 76) lt_X_Grammar (oc_X_Grammar a ι _)) rfl rfl (Nat.le_of_ble_eq_true rfl) ⟨Nat.zero_le _, Nat.zero_le _⟩ dX1_isTest_2 ?_
  refine gx_aload_1 C dX1_isTest_5 rfl ?_
  refine gs_getf (q := (66 + 2 * r1)) C fl_X1_16 (cls_X6 hx) (lt_X_Text (q := r1) hr1) (oc_X_Text a ι _ (q := r1) hr1) rfl dX1_isTest_6 ?_
  refine gx_icmp_ne (tgt := 39) C dX1_isTest_9 (by decide) (fun hc6 => ?_) (fun hc6 => ?_)
  · have h := gi_f hc6 h
    exact gx_weak (gx_le_k rfl (gx_le_k rfl gx_le_0)) (b_Grammar_isTest_39 hx hr1 C ⟨F, hnL⟩ h)
  · have h := gi_t hc6 h
    refine gx_aload_0 C dX1_isTest_12 rfl ?_
    refine gs_getf (q := 76) C fl_X1_9 (cls_X1 hx) lt_X_Grammar (oc_X_Grammar a ι _) rfl dX1_isTest_13 ?_
    refine gx_iconst3 C dX1_isTest_16 ?_
    refine gx_icmp_eq (tgt := 28) C dX1_isTest_17 (by decide) (fun hc5 => ?_) (fun hc5 => ?_)
    · have h := gi_t hc5 h
      exact gx_weak (gx_le_k rfl (gx_le_k rfl gx_le_0)) (b_Grammar_isTest_28 hx hr1 C ⟨F, hnL⟩ h)
    · have h := gi_f hc5 h
      refine gx_aload_0 C dX1_isTest_20 rfl ?_
      refine gs_getf (q := 76) C fl_X1_9 (cls_X1 hx) lt_X_Grammar (oc_X_Grammar a ι _) rfl dX1_isTest_21 ?_
      refine gx_iconst4 C dX1_isTest_24 ?_
      refine gx_icmp_ne (tgt := 39) C dX1_isTest_25 (by decide) (fun hc4 => ?_) (fun hc4 => ?_)
      · have h := gi_f hc4 h
        exact gx_weak (gx_le_k rfl (gx_le_k rfl gx_le_0)) (b_Grammar_isTest_39 hx hr1 C ⟨F, hnL⟩ h)
      · have h := gi_t hc4 h
        exact gx_weak (gx_le_k rfl (gx_le_k rfl gx_le_0)) (b_Grammar_isTest_28 hx hr1 C ⟨F, hnL⟩ h)
def m_Standing_become_40 (r : Nat) (r1 : Nat) (t : Int32 × gx_S) (k40 : Int32 × gx_S → Option (gx_S)) : Option (gx_S) := match t with
  | (x2, S) => if 6 ≤ x2 then some S else gx_ck 6 x2 (gx_let (gx_st S (21 + 4 * r + 3) x2.toNatClampNeg (vp_nar .boolean (S (21 + 4 * r1 + 3) x2.toNatClampNeg))) fun S2 => k40 ((x2 + 1), S2))
set_option maxRecDepth 20000 in
set_option maxHeartbeats 1000000 in
theorem b_Standing_become_40 {Γ : gx_T} {ι : Nat → ClassId} {a : Nat → Nat} {r : Nat} {r1 : Nat} {out : gx_S} (hx : gx_std vwCl (gty ι) (gx_cl Γ) (gx_ty Γ)) (hr : r < 5) (hr1 : r1 < 5) (C : gx_ok Γ cX4_become RX4 gx_U 0) (F : gx_finV Γ ((Option.none : Option Jvm.ClassFile.FieldType)) (wX a ι) out ∧ gx_nL Γ = 3) {k40 : Int32 × gx_S → Option (gx_S)} {x2 : Int32} {S : gx_S} (hk40 : ∀ (x27 : Int32) (S7 : gx_S), k40 (x27, S7) = some out → gx_G Γ 0 0 40 [.ref (a (21 + 4 * r)), .ref (a (21 + 4 * r1)), .int x27] [] (wX a ι S7)) (h : m_Standing_become_40 r r1 (x2, S) k40 = some out) : gx_G Γ 0 0 40 [.ref (a (21 + 4 * r)), .ref (a (21 + 4 * r1)), .int x2] [] (wX a ι S) := by
  obtain ⟨F, hnL⟩ := F
  unfold m_Standing_become_40 at h
  dsimp only at h
  refine gx_iload_2 C dX4_become_40 rfl ?_
  refine gx_bipush (v := 6) C dX4_become_41 (by decide) ?_
  refine gx_icmp_ge (tgt := 64) C dX4_become_43 (by decide) (fun hc4 => ?_) (fun hc4 => ?_)
  · have h := gi_t hc4 h
    exact gx_vret C F dX4_become_64 (Option.some.inj h)
  · have h := gi_f hc4 h
    refine gx_aload_0 C dX4_become_46 rfl ?_
    refine gs_getf (q := (21 + 4 * r)) C fl_X4_18 (cls_X4 hx) (lt_X_Standing (q := r) hr) (oc_X_Standing a ι _ (q := r) hr) rfl dX4_become_47 ?_
    refine gx_iload_2 C dX4_become_50 rfl ?_
    refine gx_aload_1 C dX4_become_51 rfl ?_
    refine gs_getf (q := (21 + 4 * r1)) C fl_X4_18 (cls_X4 hx) (lt_X_Standing (q := r1) hr1) (oc_X_Standing a ι _ (q := r1) hr1) rfl dX4_become_52 ?_
    refine gx_iload_2 C dX4_become_55 rfl ?_
    obtain ⟨hi1, h⟩ := gi_ck h
    refine gs_zald (q := (21 + 4 * r1 + 3)) C (ac_X_Standing_in hx a (q := r1) hr1) (lt_X_Standing_in (q := r1) hr1) hi1 dX4_become_56 ?_
    obtain ⟨S2, e3, h⟩ := gi_let h
    refine gs_zast (q := (21 + 4 * r + 3)) C (ac_X_Standing_in hx a (q := r) hr) (lt_X_Standing_in (q := r) hr) hi1 e3 dX4_become_57 ?_
    refine gx_iinc1 C dX4_become_58 rfl (by rw [hnL]; decide) trivial ?_
    refine gx_goto (tgt := 40) C dX4_become_61 (by decide) ?_
    exact gx_weak (gx_le_k rfl (gx_le_k rfl (gx_le_k rfl gx_le_0))) (hk40 _ _ h)
def m_Standing_become_2 (r : Nat) (r1 : Nat) (t : Int32 × gx_S) (k2 : Int32 × gx_S → Option (gx_S)) : Option (gx_S) := match t with
  | (x2, S) => if 6 ≤ x2 then gx_loop (m_Standing_become_40 r r1) 5000 (0, S) else gx_ck 6 x2 (gx_let (gx_st S (21 + 4 * r + 1) x2.toNatClampNeg (S (21 + 4 * r1 + 1) x2.toNatClampNeg)) fun S2 => gx_let (gx_st S2 (21 + 4 * r + 2) x2.toNatClampNeg (S2 (21 + 4 * r1 + 2) x2.toNatClampNeg)) fun S4 => k2 ((x2 + 1), S4))
set_option maxRecDepth 20000 in
set_option maxHeartbeats 1000000 in
theorem b_Standing_become_2 {Γ : gx_T} {ι : Nat → ClassId} {a : Nat → Nat} {r : Nat} {r1 : Nat} {out : gx_S} (hx : gx_std vwCl (gty ι) (gx_cl Γ) (gx_ty Γ)) (hr : r < 5) (hr1 : r1 < 5) (C : gx_ok Γ cX4_become RX4 gx_U 0) (F : gx_finV Γ ((Option.none : Option Jvm.ClassFile.FieldType)) (wX a ι) out ∧ gx_nL Γ = 3) {k2 : Int32 × gx_S → Option (gx_S)} {x2 : Int32} {S : gx_S} (hk2 : ∀ (x27 : Int32) (S7 : gx_S), k2 (x27, S7) = some out → gx_G Γ 0 0 2 [.ref (a (21 + 4 * r)), .ref (a (21 + 4 * r1)), .int x27] [] (wX a ι S7)) (h : m_Standing_become_2 r r1 (x2, S) k2 = some out) : gx_G Γ 0 0 2 [.ref (a (21 + 4 * r)), .ref (a (21 + 4 * r1)), .int x2] [] (wX a ι S) := by
  obtain ⟨F, hnL⟩ := F
  unfold m_Standing_become_2 at h
  dsimp only at h
  refine gx_iload_2 C dX4_become_2 rfl ?_
  refine gx_bipush (v := 6) C dX4_become_3 (by decide) ?_
  refine gx_icmp_ge (tgt := 38) C dX4_become_5 (by decide) (fun hc6 => ?_) (fun hc6 => ?_)
  · have h := gi_t hc6 h
    refine gx_iconst0 C dX4_become_38 ?_
    refine gx_istore_2 C dX4_become_39 (by rw [hnL]; decide) trivial ?_
    refine gx_weak (gx_le_k rfl (gx_le_k rfl (gx_le_k rfl gx_le_0))) (gi_loop (P := fun t => gx_G Γ 0 0 40 [.ref (a (21 + 4 * r)), .ref (a (21 + 4 * r1)), .int t.1] [] (wX a ι t.2)) (fun kk t hk h => ?_) 5000 _ h)
    obtain ⟨x29, S'9⟩ := t
    exact b_Standing_become_40 hx hr hr1 C ⟨F, hnL⟩ (k40 := kk) (fun x28 S'8 h => hk (x28, S'8) h) h
  · have h := gi_f hc6 h
    refine gx_aload_0 C dX4_become_8 rfl ?_
    refine gs_getf (q := (21 + 4 * r)) C fl_X4_9 (cls_X4 hx) (lt_X_Standing (q := r) hr) (oc_X_Standing a ι _ (q := r) hr) rfl dX4_become_9 ?_
    refine gx_iload_2 C dX4_become_12 rfl ?_
    refine gx_aload_1 C dX4_become_13 rfl ?_
    refine gs_getf (q := (21 + 4 * r1)) C fl_X4_9 (cls_X4 hx) (lt_X_Standing (q := r1) hr1) (oc_X_Standing a ι _ (q := r1) hr1) rfl dX4_become_14 ?_
    refine gx_iload_2 C dX4_become_17 rfl ?_
    obtain ⟨hi1, h⟩ := gi_ck h
    refine gs_iald (q := (21 + 4 * r1 + 1)) C (ac_X_Standing_price hx a (q := r1) hr1) (lt_X_Standing_price (q := r1) hr1) hi1 dX4_become_18 ?_
    obtain ⟨S2, e3, h⟩ := gi_let h
    refine gs_iast (q := (21 + 4 * r + 1)) C (ac_X_Standing_price hx a (q := r) hr) (lt_X_Standing_price (q := r) hr) hi1 e3 dX4_become_19 ?_
    refine gx_aload_0 C dX4_become_20 rfl ?_
    refine gs_getf (q := (21 + 4 * r)) C fl_X4_15 (cls_X4 hx) (lt_X_Standing (q := r) hr) (oc_X_Standing a ι _ (q := r) hr) rfl dX4_become_21 ?_
    refine gx_iload_2 C dX4_become_24 rfl ?_
    refine gx_aload_1 C dX4_become_25 rfl ?_
    refine gs_getf (q := (21 + 4 * r1)) C fl_X4_15 (cls_X4 hx) (lt_X_Standing (q := r1) hr1) (oc_X_Standing a ι _ (q := r1) hr1) rfl dX4_become_26 ?_
    refine gx_iload_2 C dX4_become_29 rfl ?_
    refine gs_iald (q := (21 + 4 * r1 + 2)) C (ac_X_Standing_whose hx a (q := r1) hr1) (lt_X_Standing_whose (q := r1) hr1) hi1 dX4_become_30 ?_
    obtain ⟨S4, e5, h⟩ := gi_let h
    refine gs_iast (q := (21 + 4 * r + 2)) C (ac_X_Standing_whose hx a (q := r) hr) (lt_X_Standing_whose (q := r) hr) hi1 e5 dX4_become_31 ?_
    refine gx_iinc1 C dX4_become_32 rfl (by rw [hnL]; decide) trivial ?_
    refine gx_goto (tgt := 2) C dX4_become_35 (by decide) ?_
    exact gx_weak (gx_le_k rfl (gx_le_k rfl (gx_le_k rfl gx_le_0))) (hk2 _ _ h)
def m_Standing_become (r : Nat) (r1 : Nat) (S : gx_S) : Option (gx_S) := gx_loop (m_Standing_become_2 r r1) 5000 (0, S)
set_option maxRecDepth 20000 in
set_option maxHeartbeats 1000000 in
theorem c_Standing_become (l : Launch) (D : va_G) {cl : List vw_C} {tys : List (ClassId × FieldType)} {ι : Nat → ClassId} (hx : gx_std vwCl (gty ι) cl tys) (a : Nat → Nat) {r : Nat} {r1 : Nat} (hr : r < 5) (hr1 : r1 < 5) (S : gx_S) {out : gx_S} (h : m_Standing_become r r1  S = some out) : gx_mV l D cl tys yX4_become (.code yX4_become cX4_become 3 ((Option.none : Option Jvm.ClassFile.FieldType)) :: gx_U) (gx_rm 0) [.ref (a (21 + 4 * r)), .ref (a (21 + 4 * r1))] (wX a ι S) (wX a ι) out := by
  unfold m_Standing_become at h
  refine gx_startV (V := [.ref (a (21 + 4 * r)), .ref (a (21 + 4 * r1)), .null]) 1 (by decide +kernel) (Nat.le_of_ble_eq_true rfl) rfl (fun Γ hl hD hcl hty hnL C F => ?_)
  subst hl; subst hD; subst hcl; subst hty
  refine gx_iconst0 C dX4_become_0 ?_
  refine gx_istore_2 C dX4_become_1 (by rw [hnL]; decide) trivial ?_
  refine gx_weak (gx_le_k rfl (gx_le_k rfl (gx_le_k rfl gx_le_0))) (gi_loop (P := fun t => gx_G Γ 0 0 2 [.ref (a (21 + 4 * r)), .ref (a (21 + 4 * r1)), .int t.1] [] (wX a ι t.2)) (fun kk t hk h => ?_) 5000 _ h)
  obtain ⟨x29, S'9⟩ := t
  exact b_Standing_become_2 hx hr hr1 C ⟨F, hnL⟩ (k2 := kk) (fun x28 S'8 h => hk (x28, S'8) h) h
def m_Standing_spareOf (r : Nat) (x1 : Int32) (S : gx_S) : Option (Int32) := gx_cp (m_Standing_choice r x1 (-1) S) fun v2 => if v2 = (-1) then some 0 else gx_ck 8 x1 (gx_cp (m_Standing_whatIs r x1 v2 S) fun v5 => some ((S 9 x1.toNatClampNeg) - v5))
set_option maxRecDepth 20000 in
set_option maxHeartbeats 1000000 in
theorem c_Standing_spareOf (l : Launch) (D : va_G) {cl : List vw_C} {tys : List (ClassId × FieldType)} {ι : Nat → ClassId} (hx : gx_std vwCl (gty ι) cl tys) (a : Nat → Nat) {r : Nat} (hr : r < 5) (x1 : Int32) (S : gx_S) {out : Int32} (h : m_Standing_spareOf r x1 S = some out) : gx_mI l D cl tys yX4_spareOf (.code yX4_spareOf cX4_spareOf 3 ((Option.some Jvm.ClassFile.FieldType.int)) :: gx_U) (gx_rm 2) [.ref (a (21 + 4 * r)), .int x1] (wX a ι S) (wX a ι) (out, S) := by
  unfold m_Standing_spareOf at h
  refine gx_startI (V := [.ref (a (21 + 4 * r)), .int x1, .null]) 1 (by decide +kernel) (Nat.le_of_ble_eq_true rfl) rfl (fun Γ hl hD hcl hty hnL C F => ?_)
  subst hl; subst hD; subst hcl; subst hty
  refine gx_aload_0 C dX4_spareOf_0 rfl ?_
  refine gx_iload_1 C dX4_spareOf_1 rfl ?_
  refine gx_iconstm1 C dX4_spareOf_2 ?_
  obtain ⟨v2, e1, h⟩ := gi_cp h
  refine gc_IV C (c_Standing_choice (gx_l Γ) (gx_D Γ) hx a (r := r) hr _ _ _ e1) (gx_cw C gx_uu lk_X4_67 (by decide) (by decide)) (cls_X4 hx).1 (gs_recv (q := (21 + 4 * r)) (lt_X_Standing (q := r) hr) (oc_X_Standing a ι _ (q := r) hr)) rfl rfl (Nat.le_of_ble_eq_true rfl) ⟨Nat.zero_le _, Nat.zero_le _⟩ dX4_spareOf_3 ?_
  refine gx_istore_2 C dX4_spareOf_6 (by rw [hnL]; decide) trivial ?_
  refine gx_iload_2 C dX4_spareOf_7 rfl ?_
  refine gx_iconstm1 C dX4_spareOf_8 ?_
  refine gx_icmp_ne (tgt := 16) C dX4_spareOf_9 (by decide) (fun hc6 => ?_) (fun hc6 => ?_)
  · have h := gi_f hc6 h
    refine gx_aload_0 C dX4_spareOf_16 rfl ?_
    refine gs_getf (q := (21 + 4 * r)) C fl_X4_22 (cls_X4 hx) (lt_X_Standing (q := r) hr) (oc_X_Standing a ι _ (q := r) hr) rfl dX4_spareOf_17 ?_
    refine gs_getf (q := 1) C fl_X4_60 (cls_X5 hx) lt_X_Street (oc_X_Street a ι _) rfl dX4_spareOf_20 ?_
    refine gx_iload_1 C dX4_spareOf_23 rfl ?_
    obtain ⟨hi3, h⟩ := gi_ck h
    refine gs_iald (q := 9) C (ac_X_Street_worth hx a) lt_X_Street_worth hi3 dX4_spareOf_24 ?_
    refine gx_aload_0 C dX4_spareOf_25 rfl ?_
    refine gx_iload_1 C dX4_spareOf_26 rfl ?_
    refine gx_iload_2 C dX4_spareOf_27 rfl ?_
    obtain ⟨v5, e4, h⟩ := gi_cp h
    refine gc_IV C (c_Standing_whatIs (gx_l Γ) (gx_D Γ) hx a (r := r) hr _ _ _ e4) (gx_cw C gx_uu lk_X4_63 (by decide) (by decide)) (cls_X4 hx).1 (gs_recv (q := (21 + 4 * r)) (lt_X_Standing (q := r) hr) (oc_X_Standing a ι _ (q := r) hr)) rfl rfl (Nat.le_of_ble_eq_true rfl) ⟨Nat.zero_le _, Nat.zero_le _⟩ dX4_spareOf_28 ?_
    refine gx_isub C dX4_spareOf_31 ?_
    exact gx_iret C F rfl dX4_spareOf_32 (congrArg (fun z => (z, S)) (Option.some.inj h))
  · have h := gi_t hc6 h
    refine gx_iconst0 C dX4_spareOf_12 ?_
    refine gx_goto (tgt := 32) C dX4_spareOf_13 (by decide) ?_
    exact gx_iret C F rfl dX4_spareOf_32 (congrArg (fun z => (z, S)) (Option.some.inj h))
def m_Joining_restsBefore_27 (r1 : Nat) (t : Int32 × gx_S) (k27 : Int32 × gx_S → Option (Int32 × gx_S)) : Option (Int32 × gx_S) := match t with
  | (x2, S) => if (S 1 2) ≤ x2 then some (1, S) else gx_cp (m_Standing_spareOf 3 x2 S) fun v2 => gx_ck 8 x2 (gx_let (gx_st S 64 x2.toNatClampNeg v2) fun S4 => k27 ((x2 + 1), S4))
set_option maxRecDepth 20000 in
set_option maxHeartbeats 1000000 in
theorem b_Joining_restsBefore_27 {Γ : gx_T} {ι : Nat → ClassId} {a : Nat → Nat} {r1 : Nat} {out : Int32 × gx_S} (hx : gx_std vwCl (gty ι) (gx_cl Γ) (gx_ty Γ)) (hr1 : r1 < 5) (C : gx_ok Γ cX2_restsBefore RX2 gx_U 10) (F : gx_finI Γ ((Option.some Jvm.ClassFile.FieldType.boolean)) (wX a ι) out ∧ gx_nL Γ = 3) {k27 : Int32 × gx_S → Option (Int32 × gx_S)} {x2 : Int32} {S : gx_S} (hk27 : ∀ (x27 : Int32) (S7 : gx_S), k27 (x27, S7) = some out → gx_G Γ 0 0 27 [.ref (a 63), .ref (a (21 + 4 * r1)), .int x27] [] (wX a ι S7)) (h : m_Joining_restsBefore_27 r1 (x2, S) k27 = some out) : gx_G Γ 0 0 27 [.ref (a 63), .ref (a (21 + 4 * r1)), .int x2] [] (wX a ι S) := by
  obtain ⟨F, hnL⟩ := F
  unfold m_Joining_restsBefore_27 at h
  dsimp only at h
  refine gx_iload_2 C dX2_restsBefore_27 rfl ?_
  refine gx_aload_0 C dX2_restsBefore_28 rfl ?_
  refine gs_getf (q := 63) C fl_X2_15 (cls_X2 hx) lt_X_Joining (oc_X_Joining a ι _) rfl dX2_restsBefore_29 ?_
  refine gs_getf (q := 1) C fl_X2_45 (cls_X5 hx) lt_X_Street (oc_X_Street a ι _) rfl dX2_restsBefore_32 ?_
  refine gx_icmp_ge (tgt := 58) C dX2_restsBefore_35 (by decide) (fun hc6 => ?_) (fun hc6 => ?_)
  · have h := gi_t hc6 h
    refine gx_iconst1 C dX2_restsBefore_58 ?_
    exact gx_iret C F (by decide) dX2_restsBefore_59 (Option.some.inj h)
  · have h := gi_f hc6 h
    refine gx_aload_0 C dX2_restsBefore_38 rfl ?_
    refine gs_getf (q := 63) C fl_X2_9 (cls_X2 hx) lt_X_Joining (oc_X_Joining a ι _) rfl dX2_restsBefore_39 ?_
    refine gx_iload_2 C dX2_restsBefore_42 rfl ?_
    refine gx_aload_0 C dX2_restsBefore_43 rfl ?_
    refine gs_getf (q := 63) C fl_X2_28 (cls_X2 hx) lt_X_Joining (oc_X_Joining a ι _) rfl dX2_restsBefore_44 ?_
    refine gx_iload_2 C dX2_restsBefore_47 rfl ?_
    obtain ⟨v2, e1, h⟩ := gi_cp h
    refine gc_IV C (c_Standing_spareOf (gx_l Γ) (gx_D Γ) hx a (r := 3) (by decide) _ _ e1) (gx_cw C gx_uu lk_X2_51 (by decide) (by decide)) (cls_X4 hx).1 (gs_recv (q := 33) (lt_X_Standing (q := 3) (by decide)) (oc_X_Standing a ι _ (q := 3) (by decide))) rfl rfl (Nat.le_of_ble_eq_true rfl) ⟨Nat.zero_le _, Nat.zero_le _⟩ dX2_restsBefore_48 ?_
    obtain ⟨hi3, h⟩ := gi_ck h
    obtain ⟨S4, e5, h⟩ := gi_let h
    refine gs_iast (q := 64) C (ac_X_Joining_spareBefore hx a) lt_X_Joining_spareBefore hi3 e5 dX2_restsBefore_51 ?_
    refine gx_iinc1 C dX2_restsBefore_52 rfl (by rw [hnL]; decide) trivial ?_
    refine gx_goto (tgt := 27) C dX2_restsBefore_55 (by decide) ?_
    exact gx_weak (gx_le_k rfl (gx_le_k rfl (gx_le_k rfl gx_le_0))) (hk27 _ _ h)
def m_Joining_restsBefore (r1 : Nat) (S : gx_S) : Option (Int32 × gx_S) := gx_cp (m_Standing_become 3 r1 S) fun S2 => gx_cs (m_Bests_settle 3 S2) fun v5 S4 => if v5 = (-1) then some (0, S4) else gx_loop (m_Joining_restsBefore_27 r1) 5000 (0, S4)
set_option maxRecDepth 20000 in
set_option maxHeartbeats 1000000 in
theorem c_Joining_restsBefore (l : Launch) (D : va_G) {cl : List vw_C} {tys : List (ClassId × FieldType)} {ι : Nat → ClassId} (hx : gx_std vwCl (gty ι) cl tys) (a : Nat → Nat) {r1 : Nat} (hr1 : r1 < 5) (S : gx_S) {out : Int32 × gx_S} (h : m_Joining_restsBefore r1  S = some out) : gx_mI l D cl tys yX2_restsBefore (.code yX2_restsBefore cX2_restsBefore 3 ((Option.some Jvm.ClassFile.FieldType.boolean)) :: gx_U) (gx_rm 10) [.ref (a 63), .ref (a (21 + 4 * r1))] (wX a ι S) (wX a ι) out := by
  unfold m_Joining_restsBefore at h
  refine gx_startI (V := [.ref (a 63), .ref (a (21 + 4 * r1)), .null]) 1 (by decide +kernel) (Nat.le_of_ble_eq_true rfl) rfl (fun Γ hl hD hcl hty hnL C F => ?_)
  subst hl; subst hD; subst hcl; subst hty
  refine gx_aload_0 C dX2_restsBefore_0 rfl ?_
  refine gs_getf (q := 63) C fl_X2_28 (cls_X2 hx) lt_X_Joining (oc_X_Joining a ι _) rfl dX2_restsBefore_1 ?_
  refine gx_aload_1 C dX2_restsBefore_4 rfl ?_
  obtain ⟨S2, e1, h⟩ := gi_cp h
  refine gc_VV C (c_Standing_become (gx_l Γ) (gx_D Γ) hx a (r := 3) (r1 := r1) (by decide) hr1 _ e1) (gx_cw C gx_uu lk_X2_35 (by decide) (by decide)) (cls_X4 hx).1 (gs_recv (q := 33) (lt_X_Standing (q := 3) (by decide)) (oc_X_Standing a ι _ (q := 3) (by decide))) rfl rfl (Nat.le_of_ble_eq_true rfl) ⟨Nat.zero_le _, Nat.zero_le _⟩ dX2_restsBefore_5 ?_
  refine gx_aload_0 C dX2_restsBefore_8 rfl ?_
  refine gs_getf (q := 63) C fl_X2_19 (cls_X2 hx) lt_X_Joining (oc_X_Joining a ι _) rfl dX2_restsBefore_9 ?_
  refine gx_aload_0 C dX2_restsBefore_12 rfl ?_
  refine gs_getf (q := 63) C fl_X2_28 (cls_X2 hx) lt_X_Joining (oc_X_Joining a ι _) rfl dX2_restsBefore_13 ?_
  obtain ⟨v5, S4, e3, h⟩ := gi_cs h
  refine gc_IV C (c_Bests_settle (gx_l Γ) (gx_D Γ) hx a (r1 := 3) (by decide) _ e3) (gx_cw C gx_uu lk_X2_39 (by decide) (by decide)) (cls_X0 hx).1 (gs_recv (q := 41) lt_X_Bests (oc_X_Bests a ι _)) rfl rfl (Nat.le_of_ble_eq_true rfl) ⟨Nat.zero_le _, Nat.zero_le _⟩ dX2_restsBefore_16 ?_
  refine gx_iconstm1 C dX2_restsBefore_19 ?_
  refine gx_icmp_ne (tgt := 25) C dX2_restsBefore_20 (by decide) (fun hc6 => ?_) (fun hc6 => ?_)
  · have h := gi_f hc6 h
    refine gx_iconst0 C dX2_restsBefore_25 ?_
    refine gx_istore_2 C dX2_restsBefore_26 (by rw [hnL]; decide) trivial ?_
    refine gx_weak (gx_le_k rfl (gx_le_k rfl (gx_le_k rfl gx_le_0))) (gi_loop (P := fun t => gx_G Γ 0 0 27 [.ref (a 63), .ref (a (21 + 4 * r1)), .int t.1] [] (wX a ι t.2)) (fun kk t hk h => ?_) 5000 _ h)
    obtain ⟨x29, S'9⟩ := t
    exact b_Joining_restsBefore_27 hx hr1 C ⟨F, hnL⟩ (k27 := kk) (fun x28 S'8 h => hk (x28, S'8) h) h
  · have h := gi_t hc6 h
    refine gx_iconst0 C dX2_restsBefore_23 ?_
    exact gx_iret C F (by decide) dX2_restsBefore_24 (Option.some.inj h)
def m_Standing_give_30 (r : Nat) (k2 : Int32 × gx_S → Option (gx_S)) (x1 : Int32) (x2 : Int32) (x3 : Int32) (S : gx_S) : Option (gx_S) := k2 ((x3 + 1), S)
set_option maxRecDepth 20000 in
set_option maxHeartbeats 1000000 in
theorem b_Standing_give_30 {Γ : gx_T} {ι : Nat → ClassId} {a : Nat → Nat} {r : Nat} {out : gx_S} (hx : gx_std vwCl (gty ι) (gx_cl Γ) (gx_ty Γ)) (hr : r < 5) (C : gx_ok Γ cX4_give RX4 gx_U 0) (F : gx_finV Γ ((Option.none : Option Jvm.ClassFile.FieldType)) (wX a ι) out ∧ gx_nL Γ = 4) {k2 : Int32 × gx_S → Option (gx_S)} {x1 : Int32} {x2 : Int32} {x3 : Int32} {S : gx_S} (hk2 : ∀ (x37 : Int32) (S7 : gx_S), k2 (x37, S7) = some out → gx_G Γ 0 0 2 [.ref (a (21 + 4 * r)), .int x1, .int x2, .int x37] [] (wX a ι S7)) (h : m_Standing_give_30 r k2 x1 x2 x3 S = some out) : gx_G Γ 0 0 30 [.ref (a (21 + 4 * r)), .int x1, .int x2, .int x3] [] (wX a ι S) := by
  obtain ⟨F, hnL⟩ := F
  unfold m_Standing_give_30 at h
  refine gx_iinc1 C dX4_give_30 rfl (by rw [hnL]; decide) trivial ?_
  refine gx_goto (tgt := 2) C dX4_give_33 (by decide) ?_
  exact gx_weak (gx_le_k rfl (gx_le_k rfl (gx_le_k rfl (gx_le_k rfl gx_le_0)))) (hk2 _ _ h)
def m_Standing_give_2 (r : Nat) (x1 : Int32) (x2 : Int32) (t : Int32 × gx_S) (k2 : Int32 × gx_S → Option (gx_S)) : Option (gx_S) := match t with
  | (x3, S) => if (S 1 1) ≤ x3 then some S else gx_ck 6 x3 (if (S (21 + 4 * r + 2) x3.toNatClampNeg) = x1 then gx_let (gx_st S (21 + 4 * r + 2) x3.toNatClampNeg x2) fun S2 => m_Standing_give_30 r k2 x1 x2 x3 S2 else m_Standing_give_30 r k2 x1 x2 x3 S)
set_option maxRecDepth 20000 in
set_option maxHeartbeats 1000000 in
theorem b_Standing_give_2 {Γ : gx_T} {ι : Nat → ClassId} {a : Nat → Nat} {r : Nat} {out : gx_S} (hx : gx_std vwCl (gty ι) (gx_cl Γ) (gx_ty Γ)) (hr : r < 5) (C : gx_ok Γ cX4_give RX4 gx_U 0) (F : gx_finV Γ ((Option.none : Option Jvm.ClassFile.FieldType)) (wX a ι) out ∧ gx_nL Γ = 4) {k2 : Int32 × gx_S → Option (gx_S)} {x1 : Int32} {x2 : Int32} {x3 : Int32} {S : gx_S} (hk2 : ∀ (x37 : Int32) (S7 : gx_S), k2 (x37, S7) = some out → gx_G Γ 0 0 2 [.ref (a (21 + 4 * r)), .int x1, .int x2, .int x37] [] (wX a ι S7)) (h : m_Standing_give_2 r x1 x2 (x3, S) k2 = some out) : gx_G Γ 0 0 2 [.ref (a (21 + 4 * r)), .int x1, .int x2, .int x3] [] (wX a ι S) := by
  obtain ⟨F, hnL⟩ := F
  unfold m_Standing_give_2 at h
  dsimp only at h
  refine gx_iload_3 C dX4_give_2 rfl ?_
  refine gx_aload_0 C dX4_give_3 rfl ?_
  refine gs_getf (q := (21 + 4 * r)) C fl_X4_22 (cls_X4 hx) (lt_X_Standing (q := r) hr) (oc_X_Standing a ι _ (q := r) hr) rfl dX4_give_4 ?_
  refine gs_getf (q := 1) C fl_X4_26 (cls_X5 hx) lt_X_Street (oc_X_Street a ι _) rfl dX4_give_7 ?_
  refine gx_icmp_ge (tgt := 36) C dX4_give_10 (by decide) (fun hc5 => ?_) (fun hc5 => ?_)
  · have h := gi_t hc5 h
    exact gx_vret C F dX4_give_36 (Option.some.inj h)
  · have h := gi_f hc5 h
    refine gx_aload_0 C dX4_give_13 rfl ?_
    refine gs_getf (q := (21 + 4 * r)) C fl_X4_15 (cls_X4 hx) (lt_X_Standing (q := r) hr) (oc_X_Standing a ι _ (q := r) hr) rfl dX4_give_14 ?_
    refine gx_iload_3 C dX4_give_17 rfl ?_
    obtain ⟨hi1, h⟩ := gi_ck h
    refine gs_iald (q := (21 + 4 * r + 2)) C (ac_X_Standing_whose hx a (q := r) hr) (lt_X_Standing_whose (q := r) hr) hi1 dX4_give_18 ?_
    refine gx_iload_1 C dX4_give_19 rfl ?_
    refine gx_icmp_ne (tgt := 30) C dX4_give_20 (by decide) (fun hc4 => ?_) (fun hc4 => ?_)
    · have h := gi_f hc4 h
      exact gx_weak (gx_le_k rfl (gx_le_k rfl (gx_le_k rfl (gx_le_k rfl gx_le_0)))) (b_Standing_give_30 hx hr C ⟨F, hnL⟩ hk2 h)
    · have h := gi_t hc4 h
      refine gx_aload_0 C dX4_give_23 rfl ?_
      refine gs_getf (q := (21 + 4 * r)) C fl_X4_15 (cls_X4 hx) (lt_X_Standing (q := r) hr) (oc_X_Standing a ι _ (q := r) hr) rfl dX4_give_24 ?_
      refine gx_iload_3 C dX4_give_27 rfl ?_
      refine gx_iload_2 C dX4_give_28 rfl ?_
      obtain ⟨S2, e3, h⟩ := gi_let h
      refine gs_iast (q := (21 + 4 * r + 2)) C (ac_X_Standing_whose hx a (q := r) hr) (lt_X_Standing_whose (q := r) hr) hi1 e3 dX4_give_29 ?_
      exact gx_weak (gx_le_k rfl (gx_le_k rfl (gx_le_k rfl (gx_le_k rfl gx_le_0)))) (b_Standing_give_30 hx hr C ⟨F, hnL⟩ hk2 h)
def m_Standing_give (r : Nat) (x1 : Int32) (x2 : Int32) (S : gx_S) : Option (gx_S) := gx_loop (m_Standing_give_2 r x1 x2) 5000 (0, S)
set_option maxRecDepth 20000 in
set_option maxHeartbeats 1000000 in
theorem c_Standing_give (l : Launch) (D : va_G) {cl : List vw_C} {tys : List (ClassId × FieldType)} {ι : Nat → ClassId} (hx : gx_std vwCl (gty ι) cl tys) (a : Nat → Nat) {r : Nat} (hr : r < 5) (x1 : Int32) (x2 : Int32) (S : gx_S) {out : gx_S} (h : m_Standing_give r x1 x2 S = some out) : gx_mV l D cl tys yX4_give (.code yX4_give cX4_give 4 ((Option.none : Option Jvm.ClassFile.FieldType)) :: gx_U) (gx_rm 0) [.ref (a (21 + 4 * r)), .int x1, .int x2] (wX a ι S) (wX a ι) out := by
  unfold m_Standing_give at h
  refine gx_startV (V := [.ref (a (21 + 4 * r)), .int x1, .int x2, .null]) 1 (by decide +kernel) (Nat.le_of_ble_eq_true rfl) rfl (fun Γ hl hD hcl hty hnL C F => ?_)
  subst hl; subst hD; subst hcl; subst hty
  refine gx_iconst0 C dX4_give_0 ?_
  refine gx_istore_3 C dX4_give_1 (by rw [hnL]; decide) trivial ?_
  refine gx_weak (gx_le_k rfl (gx_le_k rfl (gx_le_k rfl (gx_le_k rfl gx_le_0)))) (gi_loop (P := fun t => gx_G Γ 0 0 2 [.ref (a (21 + 4 * r)), .int x1, .int x2, .int t.1] [] (wX a ι t.2)) (fun kk t hk h => ?_) 5000 _ h)
  obtain ⟨x39, S'9⟩ := t
  exact b_Standing_give_2 hx hr C ⟨F, hnL⟩ (k2 := kk) (fun x38 S'8 h => hk (x38, S'8) h) h
def m_Joining_roundsBehind (r1 : Nat) (x2 : Int32) (x3 : Int32) (S : gx_S) : Option (Int32 × gx_S) := gx_cp (m_Standing_become 4 r1 S) fun S2 => gx_cp (m_Standing_give 4 x3 x2 S2) fun S4 => gx_cs (m_Bests_settle 4 S4) fun v7 S6 => some (v7, S6)
set_option maxRecDepth 20000 in
set_option maxHeartbeats 1000000 in
theorem c_Joining_roundsBehind (l : Launch) (D : va_G) {cl : List vw_C} {tys : List (ClassId × FieldType)} {ι : Nat → ClassId} (hx : gx_std vwCl (gty ι) cl tys) (a : Nat → Nat) {r1 : Nat} (hr1 : r1 < 5) (x2 : Int32) (x3 : Int32) (S : gx_S) {out : Int32 × gx_S} (h : m_Joining_roundsBehind r1 x2 x3 S = some out) : gx_mI l D cl tys yX2_roundsBehind (.code yX2_roundsBehind cX2_roundsBehind 4 ((Option.some Jvm.ClassFile.FieldType.int)) :: gx_U) (gx_rm 10) [.ref (a 63), .ref (a (21 + 4 * r1)), .int x2, .int x3] (wX a ι S) (wX a ι) out := by
  unfold m_Joining_roundsBehind at h
  refine gx_startI (V := [.ref (a 63), .ref (a (21 + 4 * r1)), .int x2, .int x3]) 0 (by decide +kernel) (Nat.le_of_ble_eq_true rfl) rfl (fun Γ hl hD hcl hty hnL C F => ?_)
  subst hl; subst hD; subst hcl; subst hty
  refine gx_aload_0 C dX2_roundsBehind_0 rfl ?_
  refine gs_getf (q := 63) C fl_X2_32 (cls_X2 hx) lt_X_Joining (oc_X_Joining a ι _) rfl dX2_roundsBehind_1 ?_
  refine gx_aload_1 C dX2_roundsBehind_4 rfl ?_
  obtain ⟨S2, e1, h⟩ := gi_cp h
  refine gc_VV C (c_Standing_become (gx_l Γ) (gx_D Γ) hx a (r := 4) (r1 := r1) (by decide) hr1 _ e1) (gx_cw C gx_uu lk_X2_35 (by decide) (by decide)) (cls_X4 hx).1 (gs_recv (q := 37) (lt_X_Standing (q := 4) (by decide)) (oc_X_Standing a ι _ (q := 4) (by decide))) rfl rfl (Nat.le_of_ble_eq_true rfl) ⟨Nat.zero_le _, Nat.zero_le _⟩ dX2_roundsBehind_5 ?_
  refine gx_aload_0 C dX2_roundsBehind_8 rfl ?_
  refine gs_getf (q := 63) C fl_X2_32 (cls_X2 hx) lt_X_Joining (oc_X_Joining a ι _) rfl dX2_roundsBehind_9 ?_
  refine gx_iload_3 C dX2_roundsBehind_12 rfl ?_
  refine gx_iload_2 C dX2_roundsBehind_13 rfl ?_
  obtain ⟨S4, e3, h⟩ := gi_cp h
  refine gc_VV C (c_Standing_give (gx_l Γ) (gx_D Γ) hx a (r := 4) (by decide) _ _ _ e3) (gx_cw C gx_uu lk_X2_55 (by decide) (by decide)) (cls_X4 hx).1 (gs_recv (q := 37) (lt_X_Standing (q := 4) (by decide)) (oc_X_Standing a ι _ (q := 4) (by decide))) rfl rfl (Nat.le_of_ble_eq_true rfl) ⟨Nat.zero_le _, Nat.zero_le _⟩ dX2_roundsBehind_14 ?_
  refine gx_aload_0 C dX2_roundsBehind_17 rfl ?_
  refine gs_getf (q := 63) C fl_X2_19 (cls_X2 hx) lt_X_Joining (oc_X_Joining a ι _) rfl dX2_roundsBehind_18 ?_
  refine gx_aload_0 C dX2_roundsBehind_21 rfl ?_
  refine gs_getf (q := 63) C fl_X2_32 (cls_X2 hx) lt_X_Joining (oc_X_Joining a ι _) rfl dX2_roundsBehind_22 ?_
  obtain ⟨v7, S6, e5, h⟩ := gi_cs h
  refine gc_IV C (c_Bests_settle (gx_l Γ) (gx_D Γ) hx a (r1 := 4) (by decide) _ e5) (gx_cw C gx_uu lk_X2_39 (by decide) (by decide)) (cls_X0 hx).1 (gs_recv (q := 41) lt_X_Bests (oc_X_Bests a ι _)) rfl rfl (Nat.le_of_ble_eq_true rfl) ⟨Nat.zero_le _, Nat.zero_le _⟩ dX2_roundsBehind_25 ?_
  exact gx_iret C F rfl dX2_roundsBehind_28 (Option.some.inj h)
def m_Joining_dearerFor (x1 : Int32) (S : gx_S) : Option (Int32) := gx_ck 8 x1 (gx_cp (m_Standing_spareOf 4 x1 S) fun v3 => some ((S 64 x1.toNatClampNeg) - v3))
set_option maxRecDepth 20000 in
set_option maxHeartbeats 1000000 in
theorem c_Joining_dearerFor (l : Launch) (D : va_G) {cl : List vw_C} {tys : List (ClassId × FieldType)} {ι : Nat → ClassId} (hx : gx_std vwCl (gty ι) cl tys) (a : Nat → Nat) (x1 : Int32) (S : gx_S) {out : Int32} (h : m_Joining_dearerFor x1 S = some out) : gx_mI l D cl tys yX2_dearerFor (.code yX2_dearerFor cX2_dearerFor 2 ((Option.some Jvm.ClassFile.FieldType.int)) :: gx_U) (gx_rm 3) [.ref (a 63), .int x1] (wX a ι S) (wX a ι) (out, S) := by
  unfold m_Joining_dearerFor at h
  refine gx_startI (V := [.ref (a 63), .int x1]) 0 (by decide +kernel) (Nat.le_of_ble_eq_true rfl) rfl (fun Γ hl hD hcl hty hnL C F => ?_)
  subst hl; subst hD; subst hcl; subst hty
  refine gx_aload_0 C dX2_dearerFor_0 rfl ?_
  refine gs_getf (q := 63) C fl_X2_9 (cls_X2 hx) lt_X_Joining (oc_X_Joining a ι _) rfl dX2_dearerFor_1 ?_
  refine gx_iload_1 C dX2_dearerFor_4 rfl ?_
  obtain ⟨hi1, h⟩ := gi_ck h
  refine gs_iald (q := 64) C (ac_X_Joining_spareBefore hx a) lt_X_Joining_spareBefore hi1 dX2_dearerFor_5 ?_
  refine gx_aload_0 C dX2_dearerFor_6 rfl ?_
  refine gs_getf (q := 63) C fl_X2_32 (cls_X2 hx) lt_X_Joining (oc_X_Joining a ι _) rfl dX2_dearerFor_7 ?_
  refine gx_iload_1 C dX2_dearerFor_10 rfl ?_
  obtain ⟨v3, e2, h⟩ := gi_cp h
  refine gc_IV C (c_Standing_spareOf (gx_l Γ) (gx_D Γ) hx a (r := 4) (by decide) _ _ e2) (gx_cw C gx_uu lk_X2_51 (by decide) (by decide)) (cls_X4 hx).1 (gs_recv (q := 37) (lt_X_Standing (q := 4) (by decide)) (oc_X_Standing a ι _ (q := 4) (by decide))) rfl rfl (Nat.le_of_ble_eq_true rfl) ⟨Nat.zero_le _, Nat.zero_le _⟩ dX2_dearerFor_11 ?_
  refine gx_isub C dX2_dearerFor_14 ?_
  exact gx_iret C F rfl dX2_dearerFor_15 (congrArg (fun z => (z, S)) (Option.some.inj h))
def m_Joining_harmInAll_4 (S : gx_S) (t : Int32 × Int32) (k4 : Int32 × Int32 → Option (Int32)) : Option (Int32) := match t with
  | (x1, x2) => if (S 1 2) ≤ x2 then some x1 else gx_cp (m_Joining_dearerFor x2 S) fun v2 => gx_ck 8 x2 (k4 ((x1 + ((if (0 : Int32) < v2 then v2 else (0 : Int32)) * (S 7 x2.toNatClampNeg))), (x2 + 1)))
set_option maxRecDepth 20000 in
set_option maxHeartbeats 1000000 in
theorem b_Joining_harmInAll_4 {Γ : gx_T} {ι : Nat → ClassId} {a : Nat → Nat} {out : Int32} {S : gx_S} (hx : gx_std vwCl (gty ι) (gx_cl Γ) (gx_ty Γ)) (C : gx_ok Γ cX2_harmInAll RX2 gx_U 4) (F : gx_finI Γ ((Option.some Jvm.ClassFile.FieldType.int)) (wX a ι) (out, S) ∧ gx_nL Γ = 3) {k4 : Int32 × Int32 → Option (Int32)} {x1 : Int32} {x2 : Int32} (hk4 : ∀ (x17 : Int32) (x27 : Int32), k4 (x17, x27) = some out → gx_G Γ 0 0 4 [.ref (a 63), .int x17, .int x27] [] (wX a ι S)) (h : m_Joining_harmInAll_4 S (x1, x2) k4 = some out) : gx_G Γ 0 0 4 [.ref (a 63), .int x1, .int x2] [] (wX a ι S) := by
  obtain ⟨F, hnL⟩ := F
  unfold m_Joining_harmInAll_4 at h
  dsimp only at h
  refine gx_iload_2 C dX2_harmInAll_4 rfl ?_
  refine gx_aload_0 C dX2_harmInAll_5 rfl ?_
  refine gs_getf (q := 63) C fl_X2_15 (cls_X2 hx) lt_X_Joining (oc_X_Joining a ι _) rfl dX2_harmInAll_6 ?_
  refine gs_getf (q := 1) C fl_X2_45 (cls_X5 hx) lt_X_Street (oc_X_Street a ι _) rfl dX2_harmInAll_9 ?_
  refine gx_icmp_ge (tgt := 43) C dX2_harmInAll_12 (by decide) (fun hc4 => ?_) (fun hc4 => ?_)
  · have h := gi_t hc4 h
    refine gx_iload_1 C dX2_harmInAll_43 rfl ?_
    exact gx_iret C F rfl dX2_harmInAll_44 (congrArg (fun z => (z, S)) (Option.some.inj h))
  · have h := gi_f hc4 h
    refine gx_iload_1 C dX2_harmInAll_15 rfl ?_
    refine gx_iconst0 C dX2_harmInAll_16 ?_
    refine gx_aload_0 C dX2_harmInAll_17 rfl ?_
    refine gx_iload_2 C dX2_harmInAll_18 rfl ?_
    obtain ⟨v2, e1, h⟩ := gi_cp h
    refine gc_IV C (c_Joining_dearerFor (gx_l Γ) (gx_D Γ) hx a _ _ e1) (gx_cw C gx_uu lk_X2_59 (by decide) (by decide)) (cls_X2 hx).1 (gs_recv (q := 63) lt_X_Joining (oc_X_Joining a ι _)) rfl rfl (Nat.le_of_ble_eq_true rfl) ⟨Nat.zero_le _, Nat.zero_le _⟩ dX2_harmInAll_19 ?_
    refine gx_mmax C (by decide) lk_X2_62 (Nat.le_of_ble_eq_true rfl) ⟨Nat.zero_le _, Nat.zero_le _⟩ dX2_harmInAll_22 ?_
    refine gx_aload_0 C dX2_harmInAll_25 rfl ?_
    refine gs_getf (q := 63) C fl_X2_15 (cls_X2 hx) lt_X_Joining (oc_X_Joining a ι _) rfl dX2_harmInAll_26 ?_
    refine gs_getf (q := 1) C fl_X2_68 (cls_X5 hx) lt_X_Street (oc_X_Street a ι _) rfl dX2_harmInAll_29 ?_
    refine gx_iload_2 C dX2_harmInAll_32 rfl ?_
    obtain ⟨hi3, h⟩ := gi_ck h
    refine gs_iald (q := 7) C (ac_X_Street_many hx a) lt_X_Street_many hi3 dX2_harmInAll_33 ?_
    refine gx_imul C dX2_harmInAll_34 ?_
    refine gx_iadd C dX2_harmInAll_35 ?_
    refine gx_istore_1 C dX2_harmInAll_36 (by rw [hnL]; decide) trivial ?_
    refine gx_iinc1 C dX2_harmInAll_37 rfl (by rw [hnL]; decide) trivial ?_
    refine gx_goto (tgt := 4) C dX2_harmInAll_40 (by decide) ?_
    exact gx_weak (gx_le_k rfl (gx_le_k rfl (gx_le_k rfl gx_le_0))) (hk4 _ _ h)
def m_Joining_harmInAll (S : gx_S) : Option (Int32) := gx_loop (m_Joining_harmInAll_4 S) 5000 (0, 0)
set_option maxRecDepth 20000 in
set_option maxHeartbeats 1000000 in
theorem c_Joining_harmInAll (l : Launch) (D : va_G) {cl : List vw_C} {tys : List (ClassId × FieldType)} {ι : Nat → ClassId} (hx : gx_std vwCl (gty ι) cl tys) (a : Nat → Nat) (S : gx_S) {out : Int32} (h : m_Joining_harmInAll  S = some out) : gx_mI l D cl tys yX2_harmInAll (.code yX2_harmInAll cX2_harmInAll 3 ((Option.some Jvm.ClassFile.FieldType.int)) :: gx_U) (gx_rm 4) [.ref (a 63)] (wX a ι S) (wX a ι) (out, S) := by
  unfold m_Joining_harmInAll at h
  refine gx_startI (V := [.ref (a 63), .null, .null]) 2 (by decide +kernel) (Nat.le_of_ble_eq_true rfl) rfl (fun Γ hl hD hcl hty hnL C F => ?_)
  subst hl; subst hD; subst hcl; subst hty
  refine gx_iconst0 C dX2_harmInAll_0 ?_
  refine gx_istore_1 C dX2_harmInAll_1 (by rw [hnL]; decide) trivial ?_
  refine gx_iconst0 C dX2_harmInAll_2 ?_
  refine gx_istore_2 C dX2_harmInAll_3 (by rw [hnL]; decide) trivial ?_
  refine gx_weak (gx_le_k rfl (gx_le_k rfl (gx_le_k rfl gx_le_0))) (gi_loop (P := fun t => gx_G Γ 0 0 4 [.ref (a 63), .int t.1, .int t.2] [] (wX a ι S)) (fun kk t hk h => ?_) 5000 _ h)
  obtain ⟨x19, x29⟩ := t
  exact b_Joining_harmInAll_4 hx C ⟨F, hnL⟩ (k4 := kk) (fun x18 x28 h => hk (x18, x28) h) h

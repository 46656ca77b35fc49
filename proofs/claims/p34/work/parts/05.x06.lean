def m_ShopsAsOne_nearMarket_7 (x1 : Int32) (x2 : Int32) (t : Int32 × Int32 × gx_S) (k7 : Int32 × Int32 × gx_S → Option (Int32 × gx_S)) : Option (Int32 × gx_S) := match t with
  | (x3, x4, S) => if (S 1 1) < x4 then some ((-1), S) else gx_cs (m_ShopsAsOne_wouldPay x3 x2 S) fun v3 S2 => if v3 = 0 then gx_cp (m_Standing_nearestOpen 0 x1 x3 S2) fun v5 => if v5 = (-1) then some ((-1), S2) else k7 ((x3 ||| ((1 : Int32) <<< (v5 &&& 31))), (x4 + 1), S2) else some (x3, S2)
set_option maxRecDepth 20000 in
set_option maxHeartbeats 1000000 in
theorem b_ShopsAsOne_nearMarket_7 {Γ : gx_T} {ι : Nat → ClassId} {a : Nat → Nat} {out : Int32 × gx_S} (hx : gx_std vwCl (gty ι) (gx_cl Γ) (gx_ty Γ)) (C : gx_ok Γ cX7_nearMarket RX7 gx_U 4) (F : gx_finI Γ ((Option.some Jvm.ClassFile.FieldType.int)) (wX a ι) out ∧ gx_nL Γ = 6) {k7 : Int32 × Int32 × gx_S → Option (Int32 × gx_S)} {x1 : Int32} {x2 : Int32} {x3 : Int32} {x4 : Int32} {S : gx_S} (hk7 : ∀ (x37 : Int32) (x47 : Int32) (S7 : gx_S), k7 (x37, x47, S7) = some out → gx_G Γ 0 0 7 [.ref (a 0), .int x1, .int x2, .int x37, .int x47, .null] [] (wX a ι S7)) (h : m_ShopsAsOne_nearMarket_7 x1 x2 (x3, x4, S) k7 = some out) : gx_G Γ 0 0 7 [.ref (a 0), .int x1, .int x2, .int x3, .int x4, .null] [] (wX a ι S) := by
  obtain ⟨F, hnL⟩ := F
  unfold m_ShopsAsOne_nearMarket_7 at h
  dsimp only at h
  refine gx_iload C dX7_nearMarket_7 rfl ?_
  refine gx_aload_0 C dX7_nearMarket_9 rfl ?_
  refine gs_getf (q := 0) C fl_X7_10 (cls_X7 hx) lt_X_ShopsAsOne (oc_X_ShopsAsOne a ι _) rfl dX7_nearMarket_10 ?_
  refine gs_getf (q := 1) C fl_X7_175 (cls_X5 hx) lt_X_Street (oc_X_Street a ι _) rfl dX7_nearMarket_13 ?_
  refine gx_icmp_gt (tgt := 62) C dX7_nearMarket_16 (by decide) (fun hc8 => ?_) (fun hc8 => ?_)
  · have h := gi_t hc8 h
    refine gx_iconstm1 C dX7_nearMarket_62 ?_
    exact gx_iret C F rfl dX7_nearMarket_63 (Option.some.inj h)
  · have h := gi_f hc8 h
    refine gx_aload_0 C dX7_nearMarket_19 rfl ?_
    refine gx_iload_3 C dX7_nearMarket_20 rfl ?_
    refine gx_iload_2 C dX7_nearMarket_21 rfl ?_
    obtain ⟨v3, S2, e1, h⟩ := gi_cs h
    refine gc_IV C (c_ShopsAsOne_wouldPay (gx_l Γ) (gx_D Γ) hx a _ _ _ e1) (gx_cw C gx_uu lk_X7_178 (by decide) (by decide)) (cls_X7 hx).1 (gs_recv (q := 0) lt_X_ShopsAsOne (oc_X_ShopsAsOne a ι _)) rfl rfl (Nat.le_of_ble_eq_true rfl) ⟨Nat.zero_le _, Nat.zero_le _⟩ dX7_nearMarket_22 ?_
    refine gx_if_eq (tgt := 30) C dX7_nearMarket_25 (by decide) (fun hc7 => ?_) (fun hc7 => ?_)
    · have h := gi_t hc7 h
      refine gx_aload_0 C dX7_nearMarket_30 rfl ?_
      refine gs_getf (q := 0) C fl_X7_21 (cls_X7 hx) lt_X_ShopsAsOne (oc_X_ShopsAsOne a ι _) rfl dX7_nearMarket_31 ?_
      refine gx_iload_1 C dX7_nearMarket_34 rfl ?_
      refine gx_iload_3 C dX7_nearMarket_35 rfl ?_
      obtain ⟨v5, e4, h⟩ := gi_cp h
      refine gc_IV C (c_Standing_nearestOpen (gx_l Γ) (gx_D Γ) hx a (r := 0) (by decide) _ _ _ e4) (gx_cw C gx_uu lk_X7_182 (by decide) (by decide)) (cls_X4 hx).1 (gs_recv (q := 21) (lt_X_Standing (q := 0) (by decide)) (oc_X_Standing a ι _ (q := 0) (by decide))) rfl rfl (Nat.le_of_ble_eq_true rfl) ⟨Nat.zero_le _, Nat.zero_le _⟩ dX7_nearMarket_36 ?_
      refine gx_istore C dX7_nearMarket_39 (by rw [hnL]; decide) trivial ?_
      refine gx_iload C dX7_nearMarket_41 rfl ?_
      refine gx_iconstm1 C dX7_nearMarket_43 ?_
      refine gx_icmp_ne (tgt := 49) C dX7_nearMarket_44 (by decide) (fun hc6 => ?_) (fun hc6 => ?_)
      · have h := gi_f hc6 h
        refine gx_iload_3 C dX7_nearMarket_49 rfl ?_
        refine gx_iconst1 C dX7_nearMarket_50 ?_
        refine gx_iload C dX7_nearMarket_51 rfl ?_
        refine gx_ishl C dX7_nearMarket_53 ?_
        refine gx_ior C dX7_nearMarket_54 ?_
        refine gx_istore_3 C dX7_nearMarket_55 (by rw [hnL]; decide) trivial ?_
        refine gx_iinc1 C dX7_nearMarket_56 rfl (by rw [hnL]; decide) trivial ?_
        refine gx_goto (tgt := 7) C dX7_nearMarket_59 (by decide) ?_
        exact gx_weak (gx_le_k rfl (gx_le_k rfl (gx_le_k rfl (gx_le_k rfl (gx_le_k rfl (gx_le_n gx_le_0)))))) (hk7 _ _ _ h)
      · have h := gi_t hc6 h
        refine gx_iconstm1 C dX7_nearMarket_47 ?_
        exact gx_iret C F rfl dX7_nearMarket_48 (Option.some.inj h)
    · have h := gi_f hc7 h
      refine gx_iload_3 C dX7_nearMarket_28 rfl ?_
      exact gx_iret C F rfl dX7_nearMarket_29 (Option.some.inj h)
def m_ShopsAsOne_nearMarket (x1 : Int32) (x2 : Int32) (S : gx_S) : Option (Int32 × gx_S) := gx_loop (m_ShopsAsOne_nearMarket_7 x1 x2) 5000 (((1 : Int32) <<< (x1 &&& 31)), 1, S)
set_option maxRecDepth 20000 in
set_option maxHeartbeats 1000000 in
theorem c_ShopsAsOne_nearMarket (l : Launch) (D : va_G) {cl : List vw_C} {tys : List (ClassId × FieldType)} {ι : Nat → ClassId} (hx : gx_std vwCl (gty ι) cl tys) (a : Nat → Nat) (x1 : Int32) (x2 : Int32) (S : gx_S) {out : Int32 × gx_S} (h : m_ShopsAsOne_nearMarket x1 x2 S = some out) : gx_mI l D cl tys yX7_nearMarket (.code yX7_nearMarket cX7_nearMarket 6 ((Option.some Jvm.ClassFile.FieldType.int)) :: gx_U) (gx_rm 4) [.ref (a 0), .int x1, .int x2] (wX a ι S) (wX a ι) out := by
  unfold m_ShopsAsOne_nearMarket at h
  refine gx_startI (V := [.ref (a 0), .int x1, .int x2, .null, .null, .null]) 3 (by decide +kernel) (Nat.le_of_ble_eq_true rfl) rfl (fun Γ hl hD hcl hty hnL C F => ?_)
  subst hl; subst hD; subst hcl; subst hty
  refine gx_iconst1 C dX7_nearMarket_0 ?_
  refine gx_iload_1 C dX7_nearMarket_1 rfl ?_
  refine gx_ishl C dX7_nearMarket_2 ?_
  refine gx_istore_3 C dX7_nearMarket_3 (by rw [hnL]; decide) trivial ?_
  refine gx_iconst1 C dX7_nearMarket_4 ?_
  refine gx_istore C dX7_nearMarket_5 (by rw [hnL]; decide) trivial ?_
  refine gx_weak (gx_le_k rfl (gx_le_k rfl (gx_le_k rfl (gx_le_k rfl (gx_le_k rfl (gx_le_n gx_le_0)))))) (gi_loop (P := fun t => gx_G Γ 0 0 7 [.ref (a 0), .int x1, .int x2, .int t.1, .int t.2.1, .null] [] (wX a ι t.2.2)) (fun kk t hk h => ?_) 5000 _ h)
  obtain ⟨x39, x49, S'9⟩ := t
  exact b_ShopsAsOne_nearMarket_7 hx C ⟨F, hnL⟩ (k7 := kk) (fun x38 x48 S'8 h => hk (x38, x48, S'8) h) h
def m_ShopsAsOne_market (x1 : Int32) (x2 : Int32) (x3 : Int32) (S : gx_S) : Option (Int32 × gx_S) := gx_cp (m_ShopsAsOne_isNoShop x1 S) fun v2 => if v2 = 0 then gx_cp (m_ShopsAsOne_isNot x2 1 5 S) fun v4 => if v4 = 0 then gx_cp (m_Standing_isOpen 0 x1 S) fun v6 => if v6 = 0 then some ((-103), S) else if x3 = 0 then gx_cs (m_ShopsAsOne_nearMarket x1 x2 S) fun v9 S8 => some (v9, S8) else gx_cs (m_ShopsAsOne_leastMarket x1 x2 S) fun v12 S11 => some (v12, S11) else some ((-102), S) else some ((-101), S)
set_option maxRecDepth 20000 in
set_option maxHeartbeats 1000000 in
theorem c_ShopsAsOne_market (l : Launch) (D : va_G) {cl : List vw_C} {tys : List (ClassId × FieldType)} {ι : Nat → ClassId} (hx : gx_std vwCl (gty ι) cl tys) (a : Nat → Nat) (x1 : Int32) (x2 : Int32) (x3 : Int32) (S : gx_S) {out : Int32 × gx_S} (h : m_ShopsAsOne_market x1 x2 x3 S = some out) : gx_mI l D cl tys yX7_market (.code yX7_market cX7_market 4 ((Option.some Jvm.ClassFile.FieldType.int)) :: gx_U) (gx_rm 5) [.ref (a 0), .int x1, .int x2, .int x3] (wX a ι S) (wX a ι) out := by
  unfold m_ShopsAsOne_market at h
  refine gx_startI (V := [.ref (a 0), .int x1, .int x2, .int x3]) 0 (by decide +kernel) (Nat.le_of_ble_eq_true rfl) rfl (fun Γ hl hD hcl hty hnL C F => ?_)
  subst hl; subst hD; subst hcl; subst hty
  refine gx_aload_0 C dX7_market_0 rfl ?_
  refine gx_iload_1 C dX7_market_1 rfl ?_
  obtain ⟨v2, e1, h⟩ := gi_cp h
  refine gc_IV C (c_ShopsAsOne_isNoShop (gx_l Γ) (gx_D Γ) hx a _ _ e1) (gx_cw C gx_uu lk_X7_101 (by decide) (by decide)) (cls_X7 hx).1 (gs_recv (q := 0) lt_X_ShopsAsOne (oc_X_ShopsAsOne a ι _)) rfl rfl (Nat.le_of_ble_eq_true rfl) ⟨Nat.zero_le _, Nat.zero_le _⟩ dX7_market_2 ?_
  refine gx_if_eq (tgt := 11) C dX7_market_5 (by decide) (fun hc16 => ?_) (fun hc16 => ?_)
  · have h := gi_t hc16 h
    refine gx_iload_2 C dX7_market_11 rfl ?_
    refine gx_iconst1 C dX7_market_12 ?_
    refine gx_iconst5 C dX7_market_13 ?_
    obtain ⟨v4, e3, h⟩ := gi_cp h
    refine gc_IS C (c_ShopsAsOne_isNot (gx_l Γ) (gx_D Γ) hx a _ _ _ _ e3) (gx_cwS C gx_uu lk_X7_72 (by decide) (by decide)) rfl rfl (Nat.le_of_ble_eq_true rfl) ⟨Nat.zero_le _, Nat.zero_le _⟩ dX7_market_14 ?_
    refine gx_if_eq (tgt := 23) C dX7_market_17 (by decide) (fun hc15 => ?_) (fun hc15 => ?_)
    · have h := gi_t hc15 h
      refine gx_aload_0 C dX7_market_23 rfl ?_
      refine gs_getf (q := 0) C fl_X7_21 (cls_X7 hx) lt_X_ShopsAsOne (oc_X_ShopsAsOne a ι _) rfl dX7_market_24 ?_
      refine gx_iload_1 C dX7_market_27 rfl ?_
      obtain ⟨v6, e5, h⟩ := gi_cp h
      refine gc_IV C (c_Standing_isOpen (gx_l Γ) (gx_D Γ) hx a (r := 0) (by decide) _ _ e5) (gx_cw C gx_uu lk_X7_110 (by decide) (by decide)) (cls_X4 hx).1 (gs_recv (q := 21) (lt_X_Standing (q := 0) (by decide)) (oc_X_Standing a ι _ (q := 0) (by decide))) rfl rfl (Nat.le_of_ble_eq_true rfl) ⟨Nat.zero_le _, Nat.zero_le _⟩ dX7_market_28 ?_
      refine gx_if_ne (tgt := 37) C dX7_market_31 (by decide) (fun hc14 => ?_) (fun hc14 => ?_)
      · have h := gi_f hc14 h
        refine gx_iload_3 C dX7_market_37 rfl ?_
        refine gx_if_eq (tgt := 50) C dX7_market_38 (by decide) (fun hc13 => ?_) (fun hc13 => ?_)
        · have h := gi_t hc13 h
          refine gx_aload_0 C dX7_market_50 rfl ?_
          refine gx_iload_1 C dX7_market_51 rfl ?_
          refine gx_iload_2 C dX7_market_52 rfl ?_
          obtain ⟨v9, S8, e7, h⟩ := gi_cs h
          refine gc_IV C (c_ShopsAsOne_nearMarket (gx_l Γ) (gx_D Γ) hx a _ _ _ e7) (gx_cw C gx_uu lk_X7_172 (by decide) (by decide)) (cls_X7 hx).1 (gs_recv (q := 0) lt_X_ShopsAsOne (oc_X_ShopsAsOne a ι _)) rfl rfl (Nat.le_of_ble_eq_true rfl) ⟨Nat.zero_le _, Nat.zero_le _⟩ dX7_market_53 ?_
          exact gx_iret C F rfl dX7_market_56 (Option.some.inj h)
        · have h := gi_f hc13 h
          refine gx_aload_0 C dX7_market_41 rfl ?_
          refine gx_iload_1 C dX7_market_42 rfl ?_
          refine gx_iload_2 C dX7_market_43 rfl ?_
          obtain ⟨v12, S11, e10, h⟩ := gi_cs h
          refine gc_IV C (c_ShopsAsOne_leastMarket (gx_l Γ) (gx_D Γ) hx a _ _ _ e10) (gx_cw C gx_uu lk_X7_169 (by decide) (by decide)) (cls_X7 hx).1 (gs_recv (q := 0) lt_X_ShopsAsOne (oc_X_ShopsAsOne a ι _)) rfl rfl (Nat.le_of_ble_eq_true rfl) ⟨Nat.zero_le _, Nat.zero_le _⟩ dX7_market_44 ?_
          refine gx_goto (tgt := 56) C dX7_market_47 (by decide) ?_
          exact gx_iret C F rfl dX7_market_56 (Option.some.inj h)
      · have h := gi_t hc14 h
        refine gx_bipush (v := (-103)) C dX7_market_34 (by decide) ?_
        exact gx_iret C F rfl dX7_market_36 (Option.some.inj h)
    · have h := gi_f hc15 h
      refine gx_bipush (v := (-102)) C dX7_market_20 (by decide) ?_
      exact gx_iret C F rfl dX7_market_22 (Option.some.inj h)
  · have h := gi_f hc16 h
    refine gx_bipush (v := (-101)) C dX7_market_8 (by decide) ?_
    exact gx_iret C F rfl dX7_market_10 (Option.some.inj h)
def m_ShopsAsOne_instead_16 (S : gx_S) : Option (Int32) := some (-101)
set_option maxRecDepth 20000 in
set_option maxHeartbeats 1000000 in
theorem b_ShopsAsOne_instead_16 {Γ : gx_T} {ι : Nat → ClassId} {a : Nat → Nat} {out : Int32} {S : gx_S} (hx : gx_std vwCl (gty ι) (gx_cl Γ) (gx_ty Γ)) (C : gx_ok Γ cX7_instead RX7 gx_U 2) (F : gx_finI Γ ((Option.some Jvm.ClassFile.FieldType.int)) (wX a ι) (out, S) ∧ gx_nL Γ = 3) (h : m_ShopsAsOne_instead_16 S = some out) : gx_G Γ 0 0 16 [.ref (a 0), .null, .null] [] (wX a ι S) := by
  obtain ⟨F, hnL⟩ := F
  unfold m_ShopsAsOne_instead_16 at h
  refine gx_bipush (v := (-101)) C dX7_instead_16 (by decide) ?_
  refine gx_goto (tgt := 30) C dX7_instead_18 (by decide) ?_
  exact gx_iret C F rfl dX7_instead_30 (congrArg (fun z => (z, S)) (Option.some.inj h))
def m_ShopsAsOne_instead (x1 : Int32) (x2 : Int32) (S : gx_S) : Option (Int32) := gx_cp (m_ShopsAsOne_isNoSort x1 S) fun v2 => if v2 = 0 then gx_cp (m_ShopsAsOne_isNoShop x2 S) fun v4 => if v4 = 0 then gx_cp (m_Standing_choice 0 x1 x2 S) fun v6 => some v6 else m_ShopsAsOne_instead_16 S else m_ShopsAsOne_instead_16 S
set_option maxRecDepth 20000 in
set_option maxHeartbeats 1000000 in
theorem c_ShopsAsOne_instead (l : Launch) (D : va_G) {cl : List vw_C} {tys : List (ClassId × FieldType)} {ι : Nat → ClassId} (hx : gx_std vwCl (gty ι) cl tys) (a : Nat → Nat) (x1 : Int32) (x2 : Int32) (S : gx_S) {out : Int32} (h : m_ShopsAsOne_instead x1 x2 S = some out) : gx_mI l D cl tys yX7_instead (.code yX7_instead cX7_instead 3 ((Option.some Jvm.ClassFile.FieldType.int)) :: gx_U) (gx_rm 2) [.ref (a 0), .int x1, .int x2] (wX a ι S) (wX a ι) (out, S) := by
  unfold m_ShopsAsOne_instead at h
  refine gx_startI (V := [.ref (a 0), .int x1, .int x2]) 0 (by decide +kernel) (Nat.le_of_ble_eq_true rfl) rfl (fun Γ hl hD hcl hty hnL C F => ?_)
  subst hl; subst hD; subst hcl; subst hty
  refine gx_aload_0 C dX7_instead_0 rfl ?_
  refine gx_iload_1 C dX7_instead_1 rfl ?_
  obtain ⟨v2, e1, h⟩ := gi_cp h
  refine gc_IV C (c_ShopsAsOne_isNoSort (gx_l Γ) (gx_D Γ) hx a _ _ e1) (gx_cw C gx_uu lk_X7_120 (by decide) (by decide)) (cls_X7 hx).1 (gs_recv (q := 0) lt_X_ShopsAsOne (oc_X_ShopsAsOne a ι _)) rfl rfl (Nat.le_of_ble_eq_true rfl) ⟨Nat.zero_le _, Nat.zero_le _⟩ dX7_instead_2 ?_
  refine gx_if_ne (tgt := 16) C dX7_instead_5 (by decide) (fun hc8 => ?_) (fun hc8 => ?_)
  · have h := gi_f hc8 h
    exact gx_weak (gx_le_k rfl (gx_le_n (gx_le_n gx_le_0))) (b_ShopsAsOne_instead_16 hx C ⟨F, hnL⟩ h)
  · have h := gi_t hc8 h
    refine gx_aload_0 C dX7_instead_8 rfl ?_
    refine gx_iload_2 C dX7_instead_9 rfl ?_
    obtain ⟨v4, e3, h⟩ := gi_cp h
    refine gc_IV C (c_ShopsAsOne_isNoShop (gx_l Γ) (gx_D Γ) hx a _ _ e3) (gx_cw C gx_uu lk_X7_101 (by decide) (by decide)) (cls_X7 hx).1 (gs_recv (q := 0) lt_X_ShopsAsOne (oc_X_ShopsAsOne a ι _)) rfl rfl (Nat.le_of_ble_eq_true rfl) ⟨Nat.zero_le _, Nat.zero_le _⟩ dX7_instead_10 ?_
    refine gx_if_eq (tgt := 21) C dX7_instead_13 (by decide) (fun hc7 => ?_) (fun hc7 => ?_)
    · have h := gi_t hc7 h
      refine gx_aload_0 C dX7_instead_21 rfl ?_
      refine gs_getf (q := 0) C fl_X7_21 (cls_X7 hx) lt_X_ShopsAsOne (oc_X_ShopsAsOne a ι _) rfl dX7_instead_22 ?_
      refine gx_iload_1 C dX7_instead_25 rfl ?_
      refine gx_iload_2 C dX7_instead_26 rfl ?_
      obtain ⟨v6, e5, h⟩ := gi_cp h
      refine gc_IV C (c_Standing_choice (gx_l Γ) (gx_D Γ) hx a (r := 0) (by decide) _ _ _ e5) (gx_cw C gx_uu lk_X7_126 (by decide) (by decide)) (cls_X4 hx).1 (gs_recv (q := 21) (lt_X_Standing (q := 0) (by decide)) (oc_X_Standing a ι _ (q := 0) (by decide))) rfl rfl (Nat.le_of_ble_eq_true rfl) ⟨Nat.zero_le _, Nat.zero_le _⟩ dX7_instead_27 ?_
      exact gx_iret C F rfl dX7_instead_30 (congrArg (fun z => (z, S)) (Option.some.inj h))
    · have h := gi_f hc7 h
      exact gx_weak (gx_le_k rfl (gx_le_n (gx_le_n gx_le_0))) (b_ShopsAsOne_instead_16 hx C ⟨F, hnL⟩ h)
def m_ShopsAsOne_from_82 (k29 : Int32 × Int32 → Option (Int32)) (x1 : Int32) (x2 : Int32) (x3 : Int32) (x4 : Int32) (S : gx_S) : Option (Int32) := k29 (x3, (x4 + 1))
set_option maxRecDepth 20000 in
set_option maxHeartbeats 1000000 in
theorem b_ShopsAsOne_from_82 {Γ : gx_T} {ι : Nat → ClassId} {a : Nat → Nat} {out : Int32} {S : gx_S} (hx : gx_std vwCl (gty ι) (gx_cl Γ) (gx_ty Γ)) (C : gx_ok Γ cX7_from RX7 gx_U 2) (F : gx_finI Γ ((Option.some Jvm.ClassFile.FieldType.int)) (wX a ι) (out, S) ∧ gx_nL Γ = 5) {k29 : Int32 × Int32 → Option (Int32)} {x1 : Int32} {x2 : Int32} {x3 : Int32} {x4 : Int32} (hk29 : ∀ (x37 : Int32) (x47 : Int32), k29 (x37, x47) = some out → gx_G Γ 0 0 29 [.ref (a 0), .int x1, .int x2, .int x37, .int x47] [] (wX a ι S)) (h : m_ShopsAsOne_from_82 k29 x1 x2 x3 x4 S = some out) : gx_G Γ 0 0 82 [.ref (a 0), .int x1, .int x2, .int x3, .int x4] [] (wX a ι S) := by
  obtain ⟨F, hnL⟩ := F
  unfold m_ShopsAsOne_from_82 at h
  refine gx_iinc1 C dX7_from_82 rfl (by rw [hnL]; decide) trivial ?_
  refine gx_goto (tgt := 29) C dX7_from_85 (by decide) ?_
  exact gx_weak (gx_le_k rfl (gx_le_k rfl (gx_le_k rfl (gx_le_k rfl (gx_le_k rfl gx_le_0))))) (hk29 _ _ h)
def m_ShopsAsOne_from_29 (x1 : Int32) (x2 : Int32) (S : gx_S) (t : Int32 × Int32) (k29 : Int32 × Int32 → Option (Int32)) : Option (Int32) := match t with
  | (x3, x4) => if (S 1 2) ≤ x4 then some x3 else gx_cp (m_Standing_choice 0 x4 (-1) S) fun v2 => if v2 = x1 then gx_cp (m_Standing_choice 0 x4 x1 S) fun v4 => if v4 = x2 then gx_ck 8 x4 (m_ShopsAsOne_from_82 k29 x1 x2 (x3 + (S 7 x4.toNatClampNeg)) x4 S) else m_ShopsAsOne_from_82 k29 x1 x2 x3 x4 S else m_ShopsAsOne_from_82 k29 x1 x2 x3 x4 S
set_option maxRecDepth 20000 in
set_option maxHeartbeats 1000000 in
theorem b_ShopsAsOne_from_29 {Γ : gx_T} {ι : Nat → ClassId} {a : Nat → Nat} {out : Int32} {S : gx_S} (hx : gx_std vwCl (gty ι) (gx_cl Γ) (gx_ty Γ)) (C : gx_ok Γ cX7_from RX7 gx_U 2) (F : gx_finI Γ ((Option.some Jvm.ClassFile.FieldType.int)) (wX a ι) (out, S) ∧ gx_nL Γ = 5) {k29 : Int32 × Int32 → Option (Int32)} {x1 : Int32} {x2 : Int32} {x3 : Int32} {x4 : Int32} (hk29 : ∀ (x37 : Int32) (x47 : Int32), k29 (x37, x47) = some out → gx_G Γ 0 0 29 [.ref (a 0), .int x1, .int x2, .int x37, .int x47] [] (wX a ι S)) (h : m_ShopsAsOne_from_29 x1 x2 S (x3, x4) k29 = some out) : gx_G Γ 0 0 29 [.ref (a 0), .int x1, .int x2, .int x3, .int x4] [] (wX a ι S) := by
  obtain ⟨F, hnL⟩ := F
  unfold m_ShopsAsOne_from_29 at h
  dsimp only at h
  refine gx_iload C dX7_from_29 rfl ?_
  refine gx_aload_0 C dX7_from_31 rfl ?_
  refine gs_getf (q := 0) C fl_X7_10 (cls_X7 hx) lt_X_ShopsAsOne (oc_X_ShopsAsOne a ι _) rfl dX7_from_32 ?_
  refine gs_getf (q := 1) C fl_X7_202 (cls_X5 hx) lt_X_Street (oc_X_Street a ι _) rfl dX7_from_35 ?_
  refine gx_icmp_ge (tgt := 88) C dX7_from_38 (by decide) (fun hc8 => ?_) (fun hc8 => ?_)
  · have h := gi_t hc8 h
    refine gx_iload_3 C dX7_from_88 rfl ?_
    exact gx_iret C F rfl dX7_from_89 (congrArg (fun z => (z, S)) (Option.some.inj h))
  · have h := gi_f hc8 h
    refine gx_aload_0 C dX7_from_41 rfl ?_
    refine gs_getf (q := 0) C fl_X7_21 (cls_X7 hx) lt_X_ShopsAsOne (oc_X_ShopsAsOne a ι _) rfl dX7_from_42 ?_
    refine gx_iload C dX7_from_45 rfl ?_
    refine gx_iconstm1 C dX7_from_47 ?_
    obtain ⟨v2, e1, h⟩ := gi_cp h
    refine gc_IV C (c_Standing_choice (gx_l Γ) (gx_D Γ) hx a (r := 0) (by decide) _ _ _ e1) (gx_cw C gx_uu lk_X7_126 (by decide) (by decide)) (cls_X4 hx).1 (gs_recv (q := 21) (lt_X_Standing (q := 0) (by decide)) (oc_X_Standing a ι _ (q := 0) (by decide))) rfl rfl (Nat.le_of_ble_eq_true rfl) ⟨Nat.zero_le _, Nat.zero_le _⟩ dX7_from_48 ?_
    refine gx_iload_1 C dX7_from_51 rfl ?_
    refine gx_icmp_ne (tgt := 82) C dX7_from_52 (by decide) (fun hc7 => ?_) (fun hc7 => ?_)
    · have h := gi_f hc7 h
      exact gx_weak (gx_le_k rfl (gx_le_k rfl (gx_le_k rfl (gx_le_k rfl (gx_le_k rfl gx_le_0))))) (b_ShopsAsOne_from_82 hx C ⟨F, hnL⟩ hk29 h)
    · have h := gi_t hc7 h
      refine gx_aload_0 C dX7_from_55 rfl ?_
      refine gs_getf (q := 0) C fl_X7_21 (cls_X7 hx) lt_X_ShopsAsOne (oc_X_ShopsAsOne a ι _) rfl dX7_from_56 ?_
      refine gx_iload C dX7_from_59 rfl ?_
      refine gx_iload_1 C dX7_from_61 rfl ?_
      obtain ⟨v4, e3, h⟩ := gi_cp h
      refine gc_IV C (c_Standing_choice (gx_l Γ) (gx_D Γ) hx a (r := 0) (by decide) _ _ _ e3) (gx_cw C gx_uu lk_X7_126 (by decide) (by decide)) (cls_X4 hx).1 (gs_recv (q := 21) (lt_X_Standing (q := 0) (by decide)) (oc_X_Standing a ι _ (q := 0) (by decide))) rfl rfl (Nat.le_of_ble_eq_true rfl) ⟨Nat.zero_le _, Nat.zero_le _⟩ dX7_from_62 ?_
      refine gx_iload_2 C dX7_from_65 rfl ?_
      refine gx_icmp_ne (tgt := 82) C dX7_from_66 (by decide) (fun hc6 => ?_) (fun hc6 => ?_)
      · have h := gi_f hc6 h
        exact gx_weak (gx_le_k rfl (gx_le_k rfl (gx_le_k rfl (gx_le_k rfl (gx_le_k rfl gx_le_0))))) (b_ShopsAsOne_from_82 hx C ⟨F, hnL⟩ hk29 h)
      · have h := gi_t hc6 h
        refine gx_iload_3 C dX7_from_69 rfl ?_
        refine gx_aload_0 C dX7_from_70 rfl ?_
        refine gs_getf (q := 0) C fl_X7_10 (cls_X7 hx) lt_X_ShopsAsOne (oc_X_ShopsAsOne a ι _) rfl dX7_from_71 ?_
        refine gs_getf (q := 1) C fl_X7_205 (cls_X5 hx) lt_X_Street (oc_X_Street a ι _) rfl dX7_from_74 ?_
        refine gx_iload C dX7_from_77 rfl ?_
        obtain ⟨hi5, h⟩ := gi_ck h
        refine gs_iald (q := 7) C (ac_X_Street_many hx a) lt_X_Street_many hi5 dX7_from_79 ?_
        refine gx_iadd C dX7_from_80 ?_
        refine gx_istore_3 C dX7_from_81 (by rw [hnL]; decide) trivial ?_
        exact gx_weak (gx_le_k rfl (gx_le_k rfl (gx_le_k rfl (gx_le_k rfl (gx_le_k rfl gx_le_0))))) (b_ShopsAsOne_from_82 hx C ⟨F, hnL⟩ hk29 h)
def m_ShopsAsOne_from (x1 : Int32) (x2 : Int32) (S : gx_S) : Option (Int32) := gx_cp (m_ShopsAsOne_isNoShop x1 S) fun v2 => if v2 = 0 then gx_cp (m_ShopsAsOne_isNoShop x2 S) fun v4 => if v4 = 0 then if x1 = x2 then some (-101) else gx_loop (m_ShopsAsOne_from_29 x1 x2 S) 5000 (0, 0) else some (-101) else some (-101)
set_option maxRecDepth 20000 in
set_option maxHeartbeats 1000000 in
theorem c_ShopsAsOne_from (l : Launch) (D : va_G) {cl : List vw_C} {tys : List (ClassId × FieldType)} {ι : Nat → ClassId} (hx : gx_std vwCl (gty ι) cl tys) (a : Nat → Nat) (x1 : Int32) (x2 : Int32) (S : gx_S) {out : Int32} (h : m_ShopsAsOne_from x1 x2 S = some out) : gx_mI l D cl tys yX7_from (.code yX7_from cX7_from 5 ((Option.some Jvm.ClassFile.FieldType.int)) :: gx_U) (gx_rm 2) [.ref (a 0), .int x1, .int x2] (wX a ι S) (wX a ι) (out, S) := by
  unfold m_ShopsAsOne_from at h
  refine gx_startI (V := [.ref (a 0), .int x1, .int x2, .null, .null]) 2 (by decide +kernel) (Nat.le_of_ble_eq_true rfl) rfl (fun Γ hl hD hcl hty hnL C F => ?_)
  subst hl; subst hD; subst hcl; subst hty
  refine gx_aload_0 C dX7_from_0 rfl ?_
  refine gx_iload_1 C dX7_from_1 rfl ?_
  obtain ⟨v2, e1, h⟩ := gi_cp h
  refine gc_IV C (c_ShopsAsOne_isNoShop (gx_l Γ) (gx_D Γ) hx a _ _ e1) (gx_cw C gx_uu lk_X7_101 (by decide) (by decide)) (cls_X7 hx).1 (gs_recv (q := 0) lt_X_ShopsAsOne (oc_X_ShopsAsOne a ι _)) rfl rfl (Nat.le_of_ble_eq_true rfl) ⟨Nat.zero_le _, Nat.zero_le _⟩ dX7_from_2 ?_
  refine gx_if_ne (tgt := 21) C dX7_from_5 (by decide) (fun hc7 => ?_) (fun hc7 => ?_)
  · have h := gi_f hc7 h
    refine gx_bipush (v := (-101)) C dX7_from_21 (by decide) ?_
    exact gx_iret C F rfl dX7_from_23 (congrArg (fun z => (z, S)) (Option.some.inj h))
  · have h := gi_t hc7 h
    refine gx_aload_0 C dX7_from_8 rfl ?_
    refine gx_iload_2 C dX7_from_9 rfl ?_
    obtain ⟨v4, e3, h⟩ := gi_cp h
    refine gc_IV C (c_ShopsAsOne_isNoShop (gx_l Γ) (gx_D Γ) hx a _ _ e3) (gx_cw C gx_uu lk_X7_101 (by decide) (by decide)) (cls_X7 hx).1 (gs_recv (q := 0) lt_X_ShopsAsOne (oc_X_ShopsAsOne a ι _)) rfl rfl (Nat.le_of_ble_eq_true rfl) ⟨Nat.zero_le _, Nat.zero_le _⟩ dX7_from_10 ?_
    refine gx_if_ne (tgt := 21) C dX7_from_13 (by decide) (fun hc6 => ?_) (fun hc6 => ?_)
    · have h := gi_f hc6 h
      refine gx_bipush (v := (-101)) C dX7_from_21 (by decide) ?_
      exact gx_iret C F rfl dX7_from_23 (congrArg (fun z => (z, S)) (Option.some.inj h))
    · have h := gi_t hc6 h
      refine gx_iload_1 C dX7_from_16 rfl ?_
      refine gx_iload_2 C dX7_from_17 rfl ?_
      refine gx_icmp_ne (tgt := 24) C dX7_from_18 (by decide) (fun hc5 => ?_) (fun hc5 => ?_)
      · have h := gi_f hc5 h
        refine gx_iconst0 C dX7_from_24 ?_
        refine gx_istore_3 C dX7_from_25 (by rw [hnL]; decide) trivial ?_
        refine gx_iconst0 C dX7_from_26 ?_
        refine gx_istore C dX7_from_27 (by rw [hnL]; decide) trivial ?_
        refine gx_weak (gx_le_k rfl (gx_le_k rfl (gx_le_k rfl (gx_le_k rfl (gx_le_k rfl gx_le_0))))) (gi_loop (P := fun t => gx_G Γ 0 0 29 [.ref (a 0), .int x1, .int x2, .int t.1, .int t.2] [] (wX a ι S)) (fun kk t hk h => ?_) 5000 _ h)
        obtain ⟨x39, x49⟩ := t
        exact b_ShopsAsOne_from_29 hx C ⟨F, hnL⟩ (k29 := kk) (fun x38 x48 h => hk (x38, x48) h) h
      · have h := gi_t hc5 h
        refine gx_bipush (v := (-101)) C dX7_from_21 (by decide) ?_
        exact gx_iret C F rfl dX7_from_23 (congrArg (fun z => (z, S)) (Option.some.inj h))
def m_ShopsAsOne_areNotTwo_21 (S : gx_S) : Option (Int32) := some 1
set_option maxRecDepth 20000 in
set_option maxHeartbeats 1000000 in
theorem b_ShopsAsOne_areNotTwo_21 {Γ : gx_T} {ι : Nat → ClassId} {a : Nat → Nat} {out : Int32} {S : gx_S} (hx : gx_std vwCl (gty ι) (gx_cl Γ) (gx_ty Γ)) (C : gx_ok Γ cX7_areNotTwo RX7 gx_U 2) (F : gx_finI Γ ((Option.some Jvm.ClassFile.FieldType.boolean)) (wX a ι) (out, S) ∧ gx_nL Γ = 3) (h : m_ShopsAsOne_areNotTwo_21 S = some out) : gx_G Γ 0 0 21 [.ref (a 0), .null, .null] [] (wX a ι S) := by
  obtain ⟨F, hnL⟩ := F
  unfold m_ShopsAsOne_areNotTwo_21 at h
  refine gx_iconst1 C dX7_areNotTwo_21 ?_
  refine gx_goto (tgt := 26) C dX7_areNotTwo_22 (by decide) ?_
  exact gx_iret C F (by decide) dX7_areNotTwo_26 (congrArg (fun z => (z, S)) (Option.some.inj h))
def m_ShopsAsOne_areNotTwo (x1 : Int32) (x2 : Int32) (S : gx_S) : Option (Int32) := gx_cp (m_ShopsAsOne_isNoOwner x1 S) fun v2 => if v2 = 0 then gx_cp (m_ShopsAsOne_isNoOwner x2 S) fun v4 => if v4 = 0 then if x1 = x2 then m_ShopsAsOne_areNotTwo_21 S else some 0 else m_ShopsAsOne_areNotTwo_21 S else m_ShopsAsOne_areNotTwo_21 S
set_option maxRecDepth 20000 in
set_option maxHeartbeats 1000000 in
theorem c_ShopsAsOne_areNotTwo (l : Launch) (D : va_G) {cl : List vw_C} {tys : List (ClassId × FieldType)} {ι : Nat → ClassId} (hx : gx_std vwCl (gty ι) cl tys) (a : Nat → Nat) (x1 : Int32) (x2 : Int32) (S : gx_S) {out : Int32} (h : m_ShopsAsOne_areNotTwo x1 x2 S = some out) : gx_mI l D cl tys yX7_areNotTwo (.code yX7_areNotTwo cX7_areNotTwo 3 ((Option.some Jvm.ClassFile.FieldType.boolean)) :: gx_U) (gx_rm 2) [.ref (a 0), .int x1, .int x2] (wX a ι S) (wX a ι) (out, S) := by
  unfold m_ShopsAsOne_areNotTwo at h
  refine gx_startI (V := [.ref (a 0), .int x1, .int x2]) 0 (by decide +kernel) (Nat.le_of_ble_eq_true rfl) rfl (fun Γ hl hD hcl hty hnL C F => ?_)
  subst hl; subst hD; subst hcl; subst hty
  refine gx_aload_0 C dX7_areNotTwo_0 rfl ?_
  refine gx_iload_1 C dX7_areNotTwo_1 rfl ?_
  obtain ⟨v2, e1, h⟩ := gi_cp h
  refine gc_IV C (c_ShopsAsOne_isNoOwner (gx_l Γ) (gx_D Γ) hx a _ _ e1) (gx_cw C gx_uu lk_X7_80 (by decide) (by decide)) (cls_X7 hx).1 (gs_recv (q := 0) lt_X_ShopsAsOne (oc_X_ShopsAsOne a ι _)) rfl rfl (Nat.le_of_ble_eq_true rfl) ⟨Nat.zero_le _, Nat.zero_le _⟩ dX7_areNotTwo_2 ?_
  refine gx_if_ne (tgt := 21) C dX7_areNotTwo_5 (by decide) (fun hc7 => ?_) (fun hc7 => ?_)
  · have h := gi_f hc7 h
    exact gx_weak (gx_le_k rfl (gx_le_n (gx_le_n gx_le_0))) (b_ShopsAsOne_areNotTwo_21 hx C ⟨F, hnL⟩ h)
  · have h := gi_t hc7 h
    refine gx_aload_0 C dX7_areNotTwo_8 rfl ?_
    refine gx_iload_2 C dX7_areNotTwo_9 rfl ?_
    obtain ⟨v4, e3, h⟩ := gi_cp h
    refine gc_IV C (c_ShopsAsOne_isNoOwner (gx_l Γ) (gx_D Γ) hx a _ _ e3) (gx_cw C gx_uu lk_X7_80 (by decide) (by decide)) (cls_X7 hx).1 (gs_recv (q := 0) lt_X_ShopsAsOne (oc_X_ShopsAsOne a ι _)) rfl rfl (Nat.le_of_ble_eq_true rfl) ⟨Nat.zero_le _, Nat.zero_le _⟩ dX7_areNotTwo_10 ?_
    refine gx_if_ne (tgt := 21) C dX7_areNotTwo_13 (by decide) (fun hc6 => ?_) (fun hc6 => ?_)
    · have h := gi_f hc6 h
      exact gx_weak (gx_le_k rfl (gx_le_n (gx_le_n gx_le_0))) (b_ShopsAsOne_areNotTwo_21 hx C ⟨F, hnL⟩ h)
    · have h := gi_t hc6 h
      refine gx_iload_1 C dX7_areNotTwo_16 rfl ?_
      refine gx_iload_2 C dX7_areNotTwo_17 rfl ?_
      refine gx_icmp_ne (tgt := 25) C dX7_areNotTwo_18 (by decide) (fun hc5 => ?_) (fun hc5 => ?_)
      · have h := gi_f hc5 h
        refine gx_iconst0 C dX7_areNotTwo_25 ?_
        exact gx_iret C F (by decide) dX7_areNotTwo_26 (congrArg (fun z => (z, S)) (Option.some.inj h))
      · have h := gi_t hc5 h
        exact gx_weak (gx_le_k rfl (gx_le_n (gx_le_n gx_le_0))) (b_ShopsAsOne_areNotTwo_21 hx C ⟨F, hnL⟩ h)
def m_ShopsAsOne_areTooMany (x1 : Int32) (x2 : Int32) (S : gx_S) : Option (Int32) := gx_cp (m_Standing_shopsOf 0 x1 S) fun v2 => gx_cp (m_Standing_shopsOf 0 x2 S) fun v4 => if (v2 + v4) ≤ 3 then some 0 else some 1
set_option maxRecDepth 20000 in
set_option maxHeartbeats 1000000 in
theorem c_ShopsAsOne_areTooMany (l : Launch) (D : va_G) {cl : List vw_C} {tys : List (ClassId × FieldType)} {ι : Nat → ClassId} (hx : gx_std vwCl (gty ι) cl tys) (a : Nat → Nat) (x1 : Int32) (x2 : Int32) (S : gx_S) {out : Int32} (h : m_ShopsAsOne_areTooMany x1 x2 S = some out) : gx_mI l D cl tys yX7_areTooMany (.code yX7_areTooMany cX7_areTooMany 3 ((Option.some Jvm.ClassFile.FieldType.boolean)) :: gx_U) (gx_rm 2) [.ref (a 0), .int x1, .int x2] (wX a ι S) (wX a ι) (out, S) := by
  unfold m_ShopsAsOne_areTooMany at h
  refine gx_startI (V := [.ref (a 0), .int x1, .int x2]) 0 (by decide +kernel) (Nat.le_of_ble_eq_true rfl) rfl (fun Γ hl hD hcl hty hnL C F => ?_)
  subst hl; subst hD; subst hcl; subst hty
  refine gx_aload_0 C dX7_areTooMany_0 rfl ?_
  refine gs_getf (q := 0) C fl_X7_21 (cls_X7 hx) lt_X_ShopsAsOne (oc_X_ShopsAsOne a ι _) rfl dX7_areTooMany_1 ?_
  refine gx_iload_1 C dX7_areTooMany_4 rfl ?_
  obtain ⟨v2, e1, h⟩ := gi_cp h
  refine gc_IV C (c_Standing_shopsOf (gx_l Γ) (gx_D Γ) hx a (r := 0) (by decide) _ _ e1) (gx_cw C gx_uu lk_X7_88 (by decide) (by decide)) (cls_X4 hx).1 (gs_recv (q := 21) (lt_X_Standing (q := 0) (by decide)) (oc_X_Standing a ι _ (q := 0) (by decide))) rfl rfl (Nat.le_of_ble_eq_true rfl) ⟨Nat.zero_le _, Nat.zero_le _⟩ dX7_areTooMany_5 ?_
  refine gx_aload_0 C dX7_areTooMany_8 rfl ?_
  refine gs_getf (q := 0) C fl_X7_21 (cls_X7 hx) lt_X_ShopsAsOne (oc_X_ShopsAsOne a ι _) rfl dX7_areTooMany_9 ?_
  refine gx_iload_2 C dX7_areTooMany_12 rfl ?_
  obtain ⟨v4, e3, h⟩ := gi_cp h
  refine gc_IV C (c_Standing_shopsOf (gx_l Γ) (gx_D Γ) hx a (r := 0) (by decide) _ _ e3) (gx_cw C gx_uu lk_X7_88 (by decide) (by decide)) (cls_X4 hx).1 (gs_recv (q := 21) (lt_X_Standing (q := 0) (by decide)) (oc_X_Standing a ι _ (q := 0) (by decide))) rfl rfl (Nat.le_of_ble_eq_true rfl) ⟨Nat.zero_le _, Nat.zero_le _⟩ dX7_areTooMany_13 ?_
  refine gx_iadd C dX7_areTooMany_16 ?_
  refine gx_iconst3 C dX7_areTooMany_17 ?_
  refine gx_icmp_le (tgt := 25) C dX7_areTooMany_18 (by decide) (fun hc5 => ?_) (fun hc5 => ?_)
  · have h := gi_t hc5 h
    refine gx_iconst0 C dX7_areTooMany_25 ?_
    exact gx_iret C F (by decide) dX7_areTooMany_26 (congrArg (fun z => (z, S)) (Option.some.inj h))
  · have h := gi_f hc5 h
    refine gx_iconst1 C dX7_areTooMany_21 ?_
    refine gx_goto (tgt := 26) C dX7_areTooMany_22 (by decide) ?_
    exact gx_iret C F (by decide) dX7_areTooMany_26 (congrArg (fun z => (z, S)) (Option.some.inj h))
def m_ShopsAsOne_merge (x1 : Int32) (x2 : Int32) (S : gx_S) : Option (Int32 × gx_S) := gx_cp (m_ShopsAsOne_areNotTwo x1 x2 S) fun v2 => if v2 = 0 then gx_cp (m_ShopsAsOne_areTooMany x1 x2 S) fun v4 => if v4 = 0 then gx_cp (m_Standing_give 0 x2 x1 S) fun S6 => gx_cp (m_Standing_shopsOf 0 x1 S6) fun v8 => some (v8, S6) else some ((-103), S) else some ((-101), S)
set_option maxRecDepth 20000 in
set_option maxHeartbeats 1000000 in
theorem c_ShopsAsOne_merge (l : Launch) (D : va_G) {cl : List vw_C} {tys : List (ClassId × FieldType)} {ι : Nat → ClassId} (hx : gx_std vwCl (gty ι) cl tys) (a : Nat → Nat) (x1 : Int32) (x2 : Int32) (S : gx_S) {out : Int32 × gx_S} (h : m_ShopsAsOne_merge x1 x2 S = some out) : gx_mI l D cl tys yX7_merge (.code yX7_merge cX7_merge 3 ((Option.some Jvm.ClassFile.FieldType.int)) :: gx_U) (gx_rm 3) [.ref (a 0), .int x1, .int x2] (wX a ι S) (wX a ι) out := by
  unfold m_ShopsAsOne_merge at h
  refine gx_startI (V := [.ref (a 0), .int x1, .int x2]) 0 (by decide +kernel) (Nat.le_of_ble_eq_true rfl) rfl (fun Γ hl hD hcl hty hnL C F => ?_)
  subst hl; subst hD; subst hcl; subst hty
  refine gx_aload_0 C dX7_merge_0 rfl ?_
  refine gx_iload_1 C dX7_merge_1 rfl ?_
  refine gx_iload_2 C dX7_merge_2 rfl ?_
  obtain ⟨v2, e1, h⟩ := gi_cp h
  refine gc_IV C (c_ShopsAsOne_areNotTwo (gx_l Γ) (gx_D Γ) hx a _ _ _ e1) (gx_cw C gx_uu lk_X7_208 (by decide) (by decide)) (cls_X7 hx).1 (gs_recv (q := 0) lt_X_ShopsAsOne (oc_X_ShopsAsOne a ι _)) rfl rfl (Nat.le_of_ble_eq_true rfl) ⟨Nat.zero_le _, Nat.zero_le _⟩ dX7_merge_3 ?_
  refine gx_if_eq (tgt := 12) C dX7_merge_6 (by decide) (fun hc10 => ?_) (fun hc10 => ?_)
  · have h := gi_t hc10 h
    refine gx_aload_0 C dX7_merge_12 rfl ?_
    refine gx_iload_1 C dX7_merge_13 rfl ?_
    refine gx_iload_2 C dX7_merge_14 rfl ?_
    obtain ⟨v4, e3, h⟩ := gi_cp h
    refine gc_IV C (c_ShopsAsOne_areTooMany (gx_l Γ) (gx_D Γ) hx a _ _ _ e3) (gx_cw C gx_uu lk_X7_211 (by decide) (by decide)) (cls_X7 hx).1 (gs_recv (q := 0) lt_X_ShopsAsOne (oc_X_ShopsAsOne a ι _)) rfl rfl (Nat.le_of_ble_eq_true rfl) ⟨Nat.zero_le _, Nat.zero_le _⟩ dX7_merge_15 ?_
    refine gx_if_eq (tgt := 24) C dX7_merge_18 (by decide) (fun hc9 => ?_) (fun hc9 => ?_)
    · have h := gi_t hc9 h
      refine gx_aload_0 C dX7_merge_24 rfl ?_
      refine gs_getf (q := 0) C fl_X7_21 (cls_X7 hx) lt_X_ShopsAsOne (oc_X_ShopsAsOne a ι _) rfl dX7_merge_25 ?_
      refine gx_iload_2 C dX7_merge_28 rfl ?_
      refine gx_iload_1 C dX7_merge_29 rfl ?_
      obtain ⟨S6, e5, h⟩ := gi_cp h
      refine gc_VV C (c_Standing_give (gx_l Γ) (gx_D Γ) hx a (r := 0) (by decide) _ _ _ e5) (gx_cw C gx_uu lk_X7_214 (by decide) (by decide)) (cls_X4 hx).1 (gs_recv (q := 21) (lt_X_Standing (q := 0) (by decide)) (oc_X_Standing a ι _ (q := 0) (by decide))) rfl rfl (Nat.le_of_ble_eq_true rfl) ⟨Nat.zero_le _, Nat.zero_le _⟩ dX7_merge_30 ?_
      refine gx_aload_0 C dX7_merge_33 rfl ?_
      refine gs_getf (q := 0) C fl_X7_21 (cls_X7 hx) lt_X_ShopsAsOne (oc_X_ShopsAsOne a ι _) rfl dX7_merge_34 ?_
      refine gx_iload_1 C dX7_merge_37 rfl ?_
      obtain ⟨v8, e7, h⟩ := gi_cp h
      refine gc_IV C (c_Standing_shopsOf (gx_l Γ) (gx_D Γ) hx a (r := 0) (by decide) _ _ e7) (gx_cw C gx_uu lk_X7_88 (by decide) (by decide)) (cls_X4 hx).1 (gs_recv (q := 21) (lt_X_Standing (q := 0) (by decide)) (oc_X_Standing a ι _ (q := 0) (by decide))) rfl rfl (Nat.le_of_ble_eq_true rfl) ⟨Nat.zero_le _, Nat.zero_le _⟩ dX7_merge_38 ?_
      exact gx_iret C F rfl dX7_merge_41 (Option.some.inj h)
    · have h := gi_f hc9 h
      refine gx_bipush (v := (-103)) C dX7_merge_21 (by decide) ?_
      exact gx_iret C F rfl dX7_merge_23 (Option.some.inj h)
  · have h := gi_f hc10 h
    refine gx_bipush (v := (-101)) C dX7_merge_9 (by decide) ?_
    exact gx_iret C F rfl dX7_merge_11 (Option.some.inj h)
def m_ShopsAsOne_dearer (x1 : Int32) (x2 : Int32) (x3 : Int32) (S : gx_S) : Option (Int32 × gx_S) := gx_cp (m_ShopsAsOne_areNotTwo x1 x2 S) fun v2 => if v2 = 0 then gx_cp (m_ShopsAsOne_isNoSort x3 S) fun v4 => if v4 = 0 then gx_cp (m_ShopsAsOne_areTooMany x1 x2 S) fun v6 => if v6 = 0 then gx_cs (m_Joining_restsBefore 0 S) fun v9 S8 => if v9 = 0 then some ((-1002), S8) else gx_cs (m_Joining_roundsBehind 0 x1 x2 S8) fun v12 S11 => if v12 = (-1) then some ((-1002), S11) else gx_cp (m_Joining_dearerFor x3 S11) fun v14 => some (v14, S11) else some ((-1002), S) else some ((-1001), S) else some ((-1001), S)
set_option maxRecDepth 20000 in
set_option maxHeartbeats 1000000 in
theorem c_ShopsAsOne_dearer (l : Launch) (D : va_G) {cl : List vw_C} {tys : List (ClassId × FieldType)} {ι : Nat → ClassId} (hx : gx_std vwCl (gty ι) cl tys) (a : Nat → Nat) (x1 : Int32) (x2 : Int32) (x3 : Int32) (S : gx_S) {out : Int32 × gx_S} (h : m_ShopsAsOne_dearer x1 x2 x3 S = some out) : gx_mI l D cl tys yX7_dearer (.code yX7_dearer cX7_dearer 4 ((Option.some Jvm.ClassFile.FieldType.int)) :: gx_U) (gx_rm 11) [.ref (a 0), .int x1, .int x2, .int x3] (wX a ι S) (wX a ι) out := by
  unfold m_ShopsAsOne_dearer at h
  refine gx_startI (V := [.ref (a 0), .int x1, .int x2, .int x3]) 0 (by decide +kernel) (Nat.le_of_ble_eq_true rfl) rfl (fun Γ hl hD hcl hty hnL C F => ?_)
  subst hl; subst hD; subst hcl; subst hty
  refine gx_aload_0 C dX7_dearer_0 rfl ?_
  refine gx_iload_1 C dX7_dearer_1 rfl ?_
  refine gx_iload_2 C dX7_dearer_2 rfl ?_
  obtain ⟨v2, e1, h⟩ := gi_cp h
  refine gc_IV C (c_ShopsAsOne_areNotTwo (gx_l Γ) (gx_D Γ) hx a _ _ _ e1) (gx_cw C gx_uu lk_X7_208 (by decide) (by decide)) (cls_X7 hx).1 (gs_recv (q := 0) lt_X_ShopsAsOne (oc_X_ShopsAsOne a ι _)) rfl rfl (Nat.le_of_ble_eq_true rfl) ⟨Nat.zero_le _, Nat.zero_le _⟩ dX7_dearer_3 ?_
  refine gx_if_ne (tgt := 17) C dX7_dearer_6 (by decide) (fun hc19 => ?_) (fun hc19 => ?_)
  · have h := gi_f hc19 h
    refine gx_sipush (v := (-1001)) C dX7_dearer_17 (by decide) ?_
    exact gx_iret C F rfl dX7_dearer_20 (Option.some.inj h)
  · have h := gi_t hc19 h
    refine gx_aload_0 C dX7_dearer_9 rfl ?_
    refine gx_iload_3 C dX7_dearer_10 rfl ?_
    obtain ⟨v4, e3, h⟩ := gi_cp h
    refine gc_IV C (c_ShopsAsOne_isNoSort (gx_l Γ) (gx_D Γ) hx a _ _ e3) (gx_cw C gx_uu lk_X7_120 (by decide) (by decide)) (cls_X7 hx).1 (gs_recv (q := 0) lt_X_ShopsAsOne (oc_X_ShopsAsOne a ι _)) rfl rfl (Nat.le_of_ble_eq_true rfl) ⟨Nat.zero_le _, Nat.zero_le _⟩ dX7_dearer_11 ?_
    refine gx_if_eq (tgt := 21) C dX7_dearer_14 (by decide) (fun hc18 => ?_) (fun hc18 => ?_)
    · have h := gi_t hc18 h
      refine gx_aload_0 C dX7_dearer_21 rfl ?_
      refine gx_iload_1 C dX7_dearer_22 rfl ?_
      refine gx_iload_2 C dX7_dearer_23 rfl ?_
      obtain ⟨v6, e5, h⟩ := gi_cp h
      refine gc_IV C (c_ShopsAsOne_areTooMany (gx_l Γ) (gx_D Γ) hx a _ _ _ e5) (gx_cw C gx_uu lk_X7_211 (by decide) (by decide)) (cls_X7 hx).1 (gs_recv (q := 0) lt_X_ShopsAsOne (oc_X_ShopsAsOne a ι _)) rfl rfl (Nat.le_of_ble_eq_true rfl) ⟨Nat.zero_le _, Nat.zero_le _⟩ dX7_dearer_24 ?_
      refine gx_if_ne (tgt := 61) C dX7_dearer_27 (by decide) (fun hc17 => ?_) (fun hc17 => ?_)
      · have h := gi_f hc17 h
        refine gx_sipush (v := (-1002)) C dX7_dearer_61 (by decide) ?_
        exact gx_iret C F rfl dX7_dearer_64 (Option.some.inj h)
      · have h := gi_t hc17 h
        refine gx_aload_0 C dX7_dearer_30 rfl ?_
        refine gs_getf (q := 0) C fl_X7_43 (cls_X7 hx) lt_X_ShopsAsOne (oc_X_ShopsAsOne a ι _) rfl dX7_dearer_31 ?_
        refine gx_aload_0 C dX7_dearer_34 rfl ?_
        refine gs_getf (q := 0) C fl_X7_21 (cls_X7 hx) lt_X_ShopsAsOne (oc_X_ShopsAsOne a ι _) rfl dX7_dearer_35 ?_
        obtain ⟨v9, S8, e7, h⟩ := gi_cs h
        refine gc_IV C (c_Joining_restsBefore (gx_l Γ) (gx_D Γ) hx a (r1 := 0) (by decide) _ e7) (gx_cw C gx_uu lk_X7_218 (by decide) (by decide)) (cls_X2 hx).1 (gs_recv (q := 63) lt_X_Joining (oc_X_Joining a ι _)) rfl rfl (Nat.le_of_ble_eq_true rfl) ⟨Nat.zero_le _, Nat.zero_le _⟩ dX7_dearer_38 ?_
        refine gx_if_eq (tgt := 61) C dX7_dearer_41 (by decide) (fun hc16 => ?_) (fun hc16 => ?_)
        · have h := gi_t hc16 h
          refine gx_sipush (v := (-1002)) C dX7_dearer_61 (by decide) ?_
          exact gx_iret C F rfl dX7_dearer_64 (Option.some.inj h)
        · have h := gi_f hc16 h
          refine gx_aload_0 C dX7_dearer_44 rfl ?_
          refine gs_getf (q := 0) C fl_X7_43 (cls_X7 hx) lt_X_ShopsAsOne (oc_X_ShopsAsOne a ι _) rfl dX7_dearer_45 ?_
          refine gx_aload_0 C dX7_dearer_48 rfl ?_
          refine gs_getf (q := 0) C fl_X7_21 (cls_X7 hx) lt_X_ShopsAsOne (oc_X_ShopsAsOne a ι _) rfl dX7_dearer_49 ?_
          refine gx_iload_1 C dX7_dearer_52 rfl ?_
          refine gx_iload_2 C dX7_dearer_53 rfl ?_
          obtain ⟨v12, S11, e10, h⟩ := gi_cs h
          refine gc_IV C (c_Joining_roundsBehind (gx_l Γ) (gx_D Γ) hx a (r1 := 0) (by decide) _ _ _ e10) (gx_cw C gx_uu lk_X7_222 (by decide) (by decide)) (cls_X2 hx).1 (gs_recv (q := 63) lt_X_Joining (oc_X_Joining a ι _)) rfl rfl (Nat.le_of_ble_eq_true rfl) ⟨Nat.zero_le _, Nat.zero_le _⟩ dX7_dearer_54 ?_
          refine gx_iconstm1 C dX7_dearer_57 ?_
          refine gx_icmp_ne (tgt := 65) C dX7_dearer_58 (by decide) (fun hc15 => ?_) (fun hc15 => ?_)
          · have h := gi_f hc15 h
            refine gx_aload_0 C dX7_dearer_65 rfl ?_
            refine gs_getf (q := 0) C fl_X7_43 (cls_X7 hx) lt_X_ShopsAsOne (oc_X_ShopsAsOne a ι _) rfl dX7_dearer_66 ?_
            refine gx_iload_3 C dX7_dearer_69 rfl ?_
            obtain ⟨v14, e13, h⟩ := gi_cp h
            refine gc_IV C (c_Joining_dearerFor (gx_l Γ) (gx_D Γ) hx a _ _ e13) (gx_cw C gx_uu lk_X7_226 (by decide) (by decide)) (cls_X2 hx).1 (gs_recv (q := 63) lt_X_Joining (oc_X_Joining a ι _)) rfl rfl (Nat.le_of_ble_eq_true rfl) ⟨Nat.zero_le _, Nat.zero_le _⟩ dX7_dearer_70 ?_
            exact gx_iret C F rfl dX7_dearer_73 (Option.some.inj h)
          · have h := gi_t hc15 h
            refine gx_sipush (v := (-1002)) C dX7_dearer_61 (by decide) ?_
            exact gx_iret C F rfl dX7_dearer_64 (Option.some.inj h)
    · have h := gi_f hc18 h
      refine gx_sipush (v := (-1001)) C dX7_dearer_17 (by decide) ?_
      exact gx_iret C F rfl dX7_dearer_20 (Option.some.inj h)
def m_ShopsAsOne_harm (x1 : Int32) (x2 : Int32) (x3 : Int32) (S : gx_S) : Option (Int32 × gx_S) := gx_cp (m_ShopsAsOne_areNotTwo x1 x2 S) fun v2 => if v2 = 0 then gx_cp (m_ShopsAsOne_isNot x3 0 2 S) fun v4 => if v4 = 0 then gx_cp (m_ShopsAsOne_areTooMany x1 x2 S) fun v6 => if v6 = 0 then gx_cs (m_Joining_restsBefore 0 S) fun v9 S8 => if v9 = 0 then some ((-1), S8) else gx_cs (m_Joining_roundsBehind 0 x1 x2 S8) fun v12 S11 => if v12 = (-1) then some (v12, S11) else if x3 = 2 then some (v12, S11) else if x3 = 0 then gx_cp (m_Joining_harmInAll S11) fun v16 => some (v16, S11) else gx_cp (m_Joining_sortsHarmed S11) fun v14 => some (v14, S11) else some ((-103), S) else some ((-102), S) else some ((-101), S)
set_option maxRecDepth 20000 in
set_option maxHeartbeats 1000000 in
theorem c_ShopsAsOne_harm (l : Launch) (D : va_G) {cl : List vw_C} {tys : List (ClassId × FieldType)} {ι : Nat → ClassId} (hx : gx_std vwCl (gty ι) cl tys) (a : Nat → Nat) (x1 : Int32) (x2 : Int32) (x3 : Int32) (S : gx_S) {out : Int32 × gx_S} (h : m_ShopsAsOne_harm x1 x2 x3 S = some out) : gx_mI l D cl tys yX7_harm (.code yX7_harm cX7_harm 5 ((Option.some Jvm.ClassFile.FieldType.int)) :: gx_U) (gx_rm 11) [.ref (a 0), .int x1, .int x2, .int x3] (wX a ι S) (wX a ι) out := by
  unfold m_ShopsAsOne_harm at h
  refine gx_startI (V := [.ref (a 0), .int x1, .int x2, .int x3, .null]) 1 (by decide +kernel) (Nat.le_of_ble_eq_true rfl) rfl (fun Γ hl hD hcl hty hnL C F => ?_)
  subst hl; subst hD; subst hcl; subst hty
  refine gx_aload_0 C dX7_harm_0 rfl ?_
  refine gx_iload_1 C dX7_harm_1 rfl ?_
  refine gx_iload_2 C dX7_harm_2 rfl ?_
  obtain ⟨v2, e1, h⟩ := gi_cp h
  refine gc_IV C (c_ShopsAsOne_areNotTwo (gx_l Γ) (gx_D Γ) hx a _ _ _ e1) (gx_cw C gx_uu lk_X7_208 (by decide) (by decide)) (cls_X7 hx).1 (gs_recv (q := 0) lt_X_ShopsAsOne (oc_X_ShopsAsOne a ι _)) rfl rfl (Nat.le_of_ble_eq_true rfl) ⟨Nat.zero_le _, Nat.zero_le _⟩ dX7_harm_3 ?_
  refine gx_if_eq (tgt := 12) C dX7_harm_6 (by decide) (fun hc23 => ?_) (fun hc23 => ?_)
  · have h := gi_t hc23 h
    refine gx_iload_3 C dX7_harm_12 rfl ?_
    refine gx_iconst0 C dX7_harm_13 ?_
    refine gx_iconst2 C dX7_harm_14 ?_
    obtain ⟨v4, e3, h⟩ := gi_cp h
    refine gc_IS C (c_ShopsAsOne_isNot (gx_l Γ) (gx_D Γ) hx a _ _ _ _ e3) (gx_cwS C gx_uu lk_X7_72 (by decide) (by decide)) rfl rfl (Nat.le_of_ble_eq_true rfl) ⟨Nat.zero_le _, Nat.zero_le _⟩ dX7_harm_15 ?_
    refine gx_if_eq (tgt := 24) C dX7_harm_18 (by decide) (fun hc22 => ?_) (fun hc22 => ?_)
    · have h := gi_t hc22 h
      refine gx_aload_0 C dX7_harm_24 rfl ?_
      refine gx_iload_1 C dX7_harm_25 rfl ?_
      refine gx_iload_2 C dX7_harm_26 rfl ?_
      obtain ⟨v6, e5, h⟩ := gi_cp h
      refine gc_IV C (c_ShopsAsOne_areTooMany (gx_l Γ) (gx_D Γ) hx a _ _ _ e5) (gx_cw C gx_uu lk_X7_211 (by decide) (by decide)) (cls_X7 hx).1 (gs_recv (q := 0) lt_X_ShopsAsOne (oc_X_ShopsAsOne a ι _)) rfl rfl (Nat.le_of_ble_eq_true rfl) ⟨Nat.zero_le _, Nat.zero_le _⟩ dX7_harm_27 ?_
      refine gx_if_eq (tgt := 36) C dX7_harm_30 (by decide) (fun hc21 => ?_) (fun hc21 => ?_)
      · have h := gi_t hc21 h
        refine gx_aload_0 C dX7_harm_36 rfl ?_
        refine gs_getf (q := 0) C fl_X7_43 (cls_X7 hx) lt_X_ShopsAsOne (oc_X_ShopsAsOne a ι _) rfl dX7_harm_37 ?_
        refine gx_aload_0 C dX7_harm_40 rfl ?_
        refine gs_getf (q := 0) C fl_X7_21 (cls_X7 hx) lt_X_ShopsAsOne (oc_X_ShopsAsOne a ι _) rfl dX7_harm_41 ?_
        obtain ⟨v9, S8, e7, h⟩ := gi_cs h
        refine gc_IV C (c_Joining_restsBefore (gx_l Γ) (gx_D Γ) hx a (r1 := 0) (by decide) _ e7) (gx_cw C gx_uu lk_X7_218 (by decide) (by decide)) (cls_X2 hx).1 (gs_recv (q := 63) lt_X_Joining (oc_X_Joining a ι _)) rfl rfl (Nat.le_of_ble_eq_true rfl) ⟨Nat.zero_le _, Nat.zero_le _⟩ dX7_harm_44 ?_
        refine gx_if_ne (tgt := 52) C dX7_harm_47 (by decide) (fun hc20 => ?_) (fun hc20 => ?_)
        · have h := gi_f hc20 h
          refine gx_aload_0 C dX7_harm_52 rfl ?_
          refine gs_getf (q := 0) C fl_X7_43 (cls_X7 hx) lt_X_ShopsAsOne (oc_X_ShopsAsOne a ι _) rfl dX7_harm_53 ?_
          refine gx_aload_0 C dX7_harm_56 rfl ?_
          refine gs_getf (q := 0) C fl_X7_21 (cls_X7 hx) lt_X_ShopsAsOne (oc_X_ShopsAsOne a ι _) rfl dX7_harm_57 ?_
          refine gx_iload_1 C dX7_harm_60 rfl ?_
          refine gx_iload_2 C dX7_harm_61 rfl ?_
          obtain ⟨v12, S11, e10, h⟩ := gi_cs h
          refine gc_IV C (c_Joining_roundsBehind (gx_l Γ) (gx_D Γ) hx a (r1 := 0) (by decide) _ _ _ e10) (gx_cw C gx_uu lk_X7_222 (by decide) (by decide)) (cls_X2 hx).1 (gs_recv (q := 63) lt_X_Joining (oc_X_Joining a ι _)) rfl rfl (Nat.le_of_ble_eq_true rfl) ⟨Nat.zero_le _, Nat.zero_le _⟩ dX7_harm_62 ?_
          refine gx_istore C dX7_harm_65 (by rw [hnL]; decide) trivial ?_
          refine gx_iload C dX7_harm_67 rfl ?_
          refine gx_iconstm1 C dX7_harm_69 ?_
          refine gx_icmp_eq (tgt := 78) C dX7_harm_70 (by decide) (fun hc19 => ?_) (fun hc19 => ?_)
          · have h := gi_t hc19 h
            refine gx_iload C dX7_harm_78 rfl ?_
            exact gx_iret C F rfl dX7_harm_80 (Option.some.inj h)
          · have h := gi_f hc19 h
            refine gx_iload_3 C dX7_harm_73 rfl ?_
            refine gx_iconst2 C dX7_harm_74 ?_
            refine gx_icmp_ne (tgt := 81) C dX7_harm_75 (by decide) (fun hc18 => ?_) (fun hc18 => ?_)
            · have h := gi_f hc18 h
              refine gx_iload_3 C dX7_harm_81 rfl ?_
              refine gx_if_ne (tgt := 95) C dX7_harm_82 (by decide) (fun hc17 => ?_) (fun hc17 => ?_)
              · have h := gi_f hc17 h
                refine gx_aload_0 C dX7_harm_95 rfl ?_
                refine gs_getf (q := 0) C fl_X7_43 (cls_X7 hx) lt_X_ShopsAsOne (oc_X_ShopsAsOne a ι _) rfl dX7_harm_96 ?_
                obtain ⟨v14, e13, h⟩ := gi_cp h
                refine gc_IV C (c_Joining_sortsHarmed (gx_l Γ) (gx_D Γ) hx a _ e13) (gx_cw C gx_uu lk_X7_232 (by decide) (by decide)) (cls_X2 hx).1 (gs_recv (q := 63) lt_X_Joining (oc_X_Joining a ι _)) rfl rfl (Nat.le_of_ble_eq_true rfl) ⟨Nat.zero_le _, Nat.zero_le _⟩ dX7_harm_99 ?_
                exact gx_iret C F rfl dX7_harm_102 (Option.some.inj h)
              · have h := gi_t hc17 h
                refine gx_aload_0 C dX7_harm_85 rfl ?_
                refine gs_getf (q := 0) C fl_X7_43 (cls_X7 hx) lt_X_ShopsAsOne (oc_X_ShopsAsOne a ι _) rfl dX7_harm_86 ?_
                obtain ⟨v16, e15, h⟩ := gi_cp h
                refine gc_IV C (c_Joining_harmInAll (gx_l Γ) (gx_D Γ) hx a _ e15) (gx_cw C gx_uu lk_X7_229 (by decide) (by decide)) (cls_X2 hx).1 (gs_recv (q := 63) lt_X_Joining (oc_X_Joining a ι _)) rfl rfl (Nat.le_of_ble_eq_true rfl) ⟨Nat.zero_le _, Nat.zero_le _⟩ dX7_harm_89 ?_
                refine gx_goto (tgt := 102) C dX7_harm_92 (by decide) ?_
                exact gx_iret C F rfl dX7_harm_102 (Option.some.inj h)
            · have h := gi_t hc18 h
              refine gx_iload C dX7_harm_78 rfl ?_
              exact gx_iret C F rfl dX7_harm_80 (Option.some.inj h)
        · have h := gi_t hc20 h
          refine gx_iconstm1 C dX7_harm_50 ?_
          exact gx_iret C F rfl dX7_harm_51 (Option.some.inj h)
      · have h := gi_f hc21 h
        refine gx_bipush (v := (-103)) C dX7_harm_33 (by decide) ?_
        exact gx_iret C F rfl dX7_harm_35 (Option.some.inj h)
    · have h := gi_f hc22 h
      refine gx_bipush (v := (-102)) C dX7_harm_21 (by decide) ?_
      exact gx_iret C F rfl dX7_harm_23 (Option.some.inj h)
  · have h := gi_f hc23 h
    refine gx_bipush (v := (-101)) C dX7_harm_9 (by decide) ?_
    exact gx_iret C F rfl dX7_harm_11 (Option.some.inj h)
def m_ShopsAsOne_soldOff_179 (k106 : Int32 × gx_S → Option (Int32 × gx_S)) (k116 : Int32 × gx_S → Option (Int32 × gx_S)) (x1 : Int32) (x2 : Int32) (x3 : Int32) (x4 : Int32) (x5 : Int32) (x6 : Int32) (x7 : Int32) (x8 : Int32) (S : gx_S) : Option (Int32 × gx_S) := k116 ((x8 + 1), S)
set_option maxRecDepth 20000 in
set_option maxHeartbeats 1000000 in
theorem b_ShopsAsOne_soldOff_179 {Γ : gx_T} {ι : Nat → ClassId} {a : Nat → Nat} {out : Int32 × gx_S} (hx : gx_std vwCl (gty ι) (gx_cl Γ) (gx_ty Γ)) (C : gx_ok Γ cX7_soldOff RX7 gx_U 11) (F : gx_finI Γ ((Option.some Jvm.ClassFile.FieldType.int)) (wX a ι) out ∧ gx_nL Γ = 10) {k106 : Int32 × gx_S → Option (Int32 × gx_S)} {k116 : Int32 × gx_S → Option (Int32 × gx_S)} {x1 : Int32} {x2 : Int32} {x3 : Int32} {x4 : Int32} {x5 : Int32} {x6 : Int32} {x7 : Int32} {x8 : Int32} {S : gx_S} (hk106 : ∀ (x77 : Int32) (S7 : gx_S), k106 (x77, S7) = some out → gx_G Γ 0 0 106 [.ref (a 0), .int x1, .int x2, .int x3, .int x4, .int x5, .int x6, .int x77, .null, .null] [] (wX a ι S7)) (hk116 : ∀ (x87 : Int32) (S7 : gx_S), k116 (x87, S7) = some out → gx_G Γ 0 0 116 [.ref (a 0), .int x1, .int x2, .int x3, .int x4, .int x5, .int x6, .int x7, .int x87, .null] [] (wX a ι S7)) (h : m_ShopsAsOne_soldOff_179 k106 k116 x1 x2 x3 x4 x5 x6 x7 x8 S = some out) : gx_G Γ 0 0 179 [.ref (a 0), .int x1, .int x2, .int x3, .int x4, .int x5, .int x6, .int x7, .int x8, .null] [] (wX a ι S) := by
  obtain ⟨F, hnL⟩ := F
  unfold m_ShopsAsOne_soldOff_179 at h
  refine gx_iinc1 C dX7_soldOff_179 rfl (by rw [hnL]; decide) trivial ?_
  refine gx_goto (tgt := 116) C dX7_soldOff_182 (by decide) ?_
  exact gx_weak (gx_le_k rfl (gx_le_k rfl (gx_le_k rfl (gx_le_k rfl (gx_le_k rfl (gx_le_k rfl (gx_le_k rfl (gx_le_k rfl (gx_le_k rfl (gx_le_n gx_le_0)))))))))) (hk116 _ _ h)
def m_ShopsAsOne_soldOff_148 (k106 : Int32 × gx_S → Option (Int32 × gx_S)) (k116 : Int32 × gx_S → Option (Int32 × gx_S)) (x1 : Int32) (x2 : Int32) (x3 : Int32) (x4 : Int32) (x5 : Int32) (x6 : Int32) (x7 : Int32) (x8 : Int32) (s0 : Int32) (S : gx_S) : Option (Int32 × gx_S) := if s0 = 0 then m_ShopsAsOne_soldOff_179 k106 k116 x1 x2 x3 x4 x5 x6 x7 x8 S else gx_cs (m_Joining_dearestWhenSold 0 x1 x2 x3 x8 S) fun v3 S2 => if x4 < v3 then m_ShopsAsOne_soldOff_179 k106 k116 x1 x2 x3 x4 x5 x6 x7 x8 S2 else some (x8, S2)
set_option maxRecDepth 20000 in
set_option maxHeartbeats 1000000 in
theorem b_ShopsAsOne_soldOff_148 {Γ : gx_T} {ι : Nat → ClassId} {a : Nat → Nat} {out : Int32 × gx_S} (hx : gx_std vwCl (gty ι) (gx_cl Γ) (gx_ty Γ)) (C : gx_ok Γ cX7_soldOff RX7 gx_U 11) (F : gx_finI Γ ((Option.some Jvm.ClassFile.FieldType.int)) (wX a ι) out ∧ gx_nL Γ = 10) {k106 : Int32 × gx_S → Option (Int32 × gx_S)} {k116 : Int32 × gx_S → Option (Int32 × gx_S)} {x1 : Int32} {x2 : Int32} {x3 : Int32} {x4 : Int32} {x5 : Int32} {x6 : Int32} {x7 : Int32} {x8 : Int32} {s0 : Int32} {S : gx_S} (hk106 : ∀ (x77 : Int32) (S7 : gx_S), k106 (x77, S7) = some out → gx_G Γ 0 0 106 [.ref (a 0), .int x1, .int x2, .int x3, .int x4, .int x5, .int x6, .int x77, .null, .null] [] (wX a ι S7)) (hk116 : ∀ (x87 : Int32) (S7 : gx_S), k116 (x87, S7) = some out → gx_G Γ 0 0 116 [.ref (a 0), .int x1, .int x2, .int x3, .int x4, .int x5, .int x6, .int x7, .int x87, .null] [] (wX a ι S7)) (h : m_ShopsAsOne_soldOff_148 k106 k116 x1 x2 x3 x4 x5 x6 x7 x8 s0 S = some out) : gx_G Γ 0 0 148 [.ref (a 0), .int x1, .int x2, .int x3, .int x4, .int x5, .int x6, .int x7, .int x8, .null] [.int s0] (wX a ι S) := by
  obtain ⟨F, hnL⟩ := F
  unfold m_ShopsAsOne_soldOff_148 at h
  refine gx_istore C dX7_soldOff_148 (by rw [hnL]; decide) trivial ?_
  refine gx_iload C dX7_soldOff_150 rfl ?_
  refine gx_if_eq (tgt := 179) C dX7_soldOff_152 (by decide) (fun hc5 => ?_) (fun hc5 => ?_)
  · have h := gi_t hc5 h
    exact gx_weak (gx_le_k rfl (gx_le_k rfl (gx_le_k rfl (gx_le_k rfl (gx_le_k rfl (gx_le_k rfl (gx_le_k rfl (gx_le_k rfl (gx_le_k rfl (gx_le_n gx_le_0)))))))))) (b_ShopsAsOne_soldOff_179 hx C ⟨F, hnL⟩ hk106 hk116 h)
  · have h := gi_f hc5 h
    refine gx_aload_0 C dX7_soldOff_155 rfl ?_
    refine gs_getf (q := 0) C fl_X7_43 (cls_X7 hx) lt_X_ShopsAsOne (oc_X_ShopsAsOne a ι _) rfl dX7_soldOff_156 ?_
    refine gx_aload_0 C dX7_soldOff_159 rfl ?_
    refine gs_getf (q := 0) C fl_X7_21 (cls_X7 hx) lt_X_ShopsAsOne (oc_X_ShopsAsOne a ι _) rfl dX7_soldOff_160 ?_
    refine gx_iload_1 C dX7_soldOff_163 rfl ?_
    refine gx_iload_2 C dX7_soldOff_164 rfl ?_
    refine gx_iload_3 C dX7_soldOff_165 rfl ?_
    refine gx_iload C dX7_soldOff_166 rfl ?_
    obtain ⟨v3, S2, e1, h⟩ := gi_cs h
    refine gc_IV C (c_Joining_dearestWhenSold (gx_l Γ) (gx_D Γ) hx a (r1 := 0) (by decide) _ _ _ _ _ e1) (gx_cw C gx_uu lk_X7_238 (by decide) (by decide)) (cls_X2 hx).1 (gs_recv (q := 63) lt_X_Joining (oc_X_Joining a ι _)) rfl rfl (Nat.le_of_ble_eq_true rfl) ⟨Nat.zero_le _, Nat.zero_le _⟩ dX7_soldOff_168 ?_
    refine gx_iload C dX7_soldOff_171 rfl ?_
    refine gx_icmp_gt (tgt := 179) C dX7_soldOff_173 (by decide) (fun hc4 => ?_) (fun hc4 => ?_)
    · have h := gi_t hc4 h
      exact gx_weak (gx_le_k rfl (gx_le_k rfl (gx_le_k rfl (gx_le_k rfl (gx_le_k rfl (gx_le_k rfl (gx_le_k rfl (gx_le_k rfl (gx_le_k rfl (gx_le_n gx_le_0)))))))))) (b_ShopsAsOne_soldOff_179 hx C ⟨F, hnL⟩ hk106 hk116 h)
    · have h := gi_f hc4 h
      refine gx_iload C dX7_soldOff_176 rfl ?_
      exact gx_iret C F rfl dX7_soldOff_178 (Option.some.inj h)
def m_ShopsAsOne_soldOff_147 (k106 : Int32 × gx_S → Option (Int32 × gx_S)) (k116 : Int32 × gx_S → Option (Int32 × gx_S)) (x1 : Int32) (x2 : Int32) (x3 : Int32) (x4 : Int32) (x5 : Int32) (x6 : Int32) (x7 : Int32) (x8 : Int32) (S : gx_S) : Option (Int32 × gx_S) := m_ShopsAsOne_soldOff_148 k106 k116 x1 x2 x3 x4 x5 x6 x7 x8 0 S
set_option maxRecDepth 20000 in
set_option maxHeartbeats 1000000 in
theorem b_ShopsAsOne_soldOff_147 {Γ : gx_T} {ι : Nat → ClassId} {a : Nat → Nat} {out : Int32 × gx_S} (hx : gx_std vwCl (gty ι) (gx_cl Γ) (gx_ty Γ)) (C : gx_ok Γ cX7_soldOff RX7 gx_U 11) (F : gx_finI Γ ((Option.some Jvm.ClassFile.FieldType.int)) (wX a ι) out ∧ gx_nL Γ = 10) {k106 : Int32 × gx_S → Option (Int32 × gx_S)} {k116 : Int32 × gx_S → Option (Int32 × gx_S)} {x1 : Int32} {x2 : Int32} {x3 : Int32} {x4 : Int32} {x5 : Int32} {x6 : Int32} {x7 : Int32} {x8 : Int32} {S : gx_S} (hk106 : ∀ (x77 : Int32) (S7 : gx_S), k106 (x77, S7) = some out → gx_G Γ 0 0 106 [.ref (a 0), .int x1, .int x2, .int x3, .int x4, .int x5, .int x6, .int x77, .null, .null] [] (wX a ι S7)) (hk116 : ∀ (x87 : Int32) (S7 : gx_S), k116 (x87, S7) = some out → gx_G Γ 0 0 116 [.ref (a 0), .int x1, .int x2, .int x3, .int x4, .int x5, .int x6, .int x7, .int x87, .null] [] (wX a ι S7)) (h : m_ShopsAsOne_soldOff_147 k106 k116 x1 x2 x3 x4 x5 x6 x7 x8 S = some out) : gx_G Γ 0 0 147 [.ref (a 0), .int x1, .int x2, .int x3, .int x4, .int x5, .int x6, .int x7, .int x8, .null] [] (wX a ι S) := by
  obtain ⟨F, hnL⟩ := F
  unfold m_ShopsAsOne_soldOff_147 at h
  refine gx_iconst0 C dX7_soldOff_147 ?_
  exact gx_weak (gx_le_k rfl (gx_le_k rfl (gx_le_k rfl (gx_le_k rfl (gx_le_k rfl (gx_le_k rfl (gx_le_k rfl (gx_le_k rfl (gx_le_k rfl (gx_le_n gx_le_0)))))))))) (b_ShopsAsOne_soldOff_148 hx C ⟨F, hnL⟩ hk106 hk116 h)
def m_ShopsAsOne_soldOff_116 (k106 : Int32 × gx_S → Option (Int32 × gx_S)) (x1 : Int32) (x2 : Int32) (x3 : Int32) (x4 : Int32) (x5 : Int32) (x6 : Int32) (x7 : Int32) (t : Int32 × gx_S) (k116 : Int32 × gx_S → Option (Int32 × gx_S)) : Option (Int32 × gx_S) := match t with
  | (x8, S) => if x5 < x8 then k106 ((x7 + 1), S) else gx_cp (m_Integer_bitCount x8 S) fun v2 => if v2 = x7 then if (x8 &&& (x5 ^^^ ((-1) : Int32))) = 0 then m_ShopsAsOne_soldOff_148 k106 k116 x1 x2 x3 x4 x5 x6 x7 x8 1 S else m_ShopsAsOne_soldOff_147 k106 k116 x1 x2 x3 x4 x5 x6 x7 x8 S else m_ShopsAsOne_soldOff_147 k106 k116 x1 x2 x3 x4 x5 x6 x7 x8 S
set_option maxRecDepth 20000 in
set_option maxHeartbeats 1000000 in
theorem b_ShopsAsOne_soldOff_116 {Γ : gx_T} {ι : Nat → ClassId} {a : Nat → Nat} {out : Int32 × gx_S} (hx : gx_std vwCl (gty ι) (gx_cl Γ) (gx_ty Γ)) (C : gx_ok Γ cX7_soldOff RX7 gx_U 11) (F : gx_finI Γ ((Option.some Jvm.ClassFile.FieldType.int)) (wX a ι) out ∧ gx_nL Γ = 10) {k106 : Int32 × gx_S → Option (Int32 × gx_S)} {k116 : Int32 × gx_S → Option (Int32 × gx_S)} {x1 : Int32} {x2 : Int32} {x3 : Int32} {x4 : Int32} {x5 : Int32} {x6 : Int32} {x7 : Int32} {x8 : Int32} {S : gx_S} (hk106 : ∀ (x77 : Int32) (S7 : gx_S), k106 (x77, S7) = some out → gx_G Γ 0 0 106 [.ref (a 0), .int x1, .int x2, .int x3, .int x4, .int x5, .int x6, .int x77, .null, .null] [] (wX a ι S7)) (hk116 : ∀ (x87 : Int32) (S7 : gx_S), k116 (x87, S7) = some out → gx_G Γ 0 0 116 [.ref (a 0), .int x1, .int x2, .int x3, .int x4, .int x5, .int x6, .int x7, .int x87, .null] [] (wX a ι S7)) (h : m_ShopsAsOne_soldOff_116 k106 x1 x2 x3 x4 x5 x6 x7 (x8, S) k116 = some out) : gx_G Γ 0 0 116 [.ref (a 0), .int x1, .int x2, .int x3, .int x4, .int x5, .int x6, .int x7, .int x8, .null] [] (wX a ι S) := by
  obtain ⟨F, hnL⟩ := F
  unfold m_ShopsAsOne_soldOff_116 at h
  dsimp only at h
  refine gx_iload C dX7_soldOff_116 rfl ?_
  refine gx_iload C dX7_soldOff_118 rfl ?_
  refine gx_icmp_gt (tgt := 185) C dX7_soldOff_120 (by decide) (fun hc5 => ?_) (fun hc5 => ?_)
  · have h := gi_t hc5 h
    refine gx_iinc1 C dX7_soldOff_185 rfl (by rw [hnL]; decide) trivial ?_
    refine gx_goto (tgt := 106) C dX7_soldOff_188 (by decide) ?_
    exact gx_weak (gx_le_k rfl (gx_le_k rfl (gx_le_k rfl (gx_le_k rfl (gx_le_k rfl (gx_le_k rfl (gx_le_k rfl (gx_le_k rfl (gx_le_n (gx_le_n gx_le_0)))))))))) (hk106 _ _ h)
  · have h := gi_f hc5 h
    refine gx_iload C dX7_soldOff_123 rfl ?_
    obtain ⟨v2, e1, h⟩ := gi_cp h
    refine gc_IS C (c_Integer_bitCount (gx_l Γ) (gx_D Γ) hx a _ _ e1) (gx_cwS C gx_uu lk_X7_189 (by decide) (by decide)) rfl rfl (Nat.le_of_ble_eq_true rfl) ⟨Nat.zero_le _, Nat.zero_le _⟩ dX7_soldOff_125 ?_
    refine gx_iload C dX7_soldOff_128 rfl ?_
    refine gx_icmp_ne (tgt := 147) C dX7_soldOff_130 (by decide) (fun hc4 => ?_) (fun hc4 => ?_)
    · have h := gi_f hc4 h
      exact gx_weak (gx_le_k rfl (gx_le_k rfl (gx_le_k rfl (gx_le_k rfl (gx_le_k rfl (gx_le_k rfl (gx_le_k rfl (gx_le_k rfl (gx_le_k rfl (gx_le_n gx_le_0)))))))))) (b_ShopsAsOne_soldOff_147 hx C ⟨F, hnL⟩ hk106 hk116 h)
    · have h := gi_t hc4 h
      refine gx_iload C dX7_soldOff_133 rfl ?_
      refine gx_iload C dX7_soldOff_135 rfl ?_
      refine gx_iconstm1 C dX7_soldOff_137 ?_
      refine gx_ixor C dX7_soldOff_138 ?_
      refine gx_iand C dX7_soldOff_139 ?_
      refine gx_if_ne (tgt := 147) C dX7_soldOff_140 (by decide) (fun hc3 => ?_) (fun hc3 => ?_)
      · have h := gi_f hc3 h
        exact gx_weak (gx_le_k rfl (gx_le_k rfl (gx_le_k rfl (gx_le_k rfl (gx_le_k rfl (gx_le_k rfl (gx_le_k rfl (gx_le_k rfl (gx_le_k rfl (gx_le_n gx_le_0)))))))))) (b_ShopsAsOne_soldOff_147 hx C ⟨F, hnL⟩ hk106 hk116 h)
      · have h := gi_t hc3 h
        refine gx_iconst1 C dX7_soldOff_143 ?_
        refine gx_goto (tgt := 148) C dX7_soldOff_144 (by decide) ?_
        exact gx_weak (gx_le_k rfl (gx_le_k rfl (gx_le_k rfl (gx_le_k rfl (gx_le_k rfl (gx_le_k rfl (gx_le_k rfl (gx_le_k rfl (gx_le_k rfl (gx_le_n gx_le_0)))))))))) (b_ShopsAsOne_soldOff_148 hx C ⟨F, hnL⟩ hk106 hk116 h)
def m_ShopsAsOne_soldOff_106 (x1 : Int32) (x2 : Int32) (x3 : Int32) (x4 : Int32) (x5 : Int32) (x6 : Int32) (t : Int32 × gx_S) (k106 : Int32 × gx_S → Option (Int32 × gx_S)) : Option (Int32 × gx_S) := match t with
  | (x7, S) => if x6 < x7 then some ((-1), S) else gx_loop (m_ShopsAsOne_soldOff_116 k106 x1 x2 x3 x4 x5 x6 x7) 5000 (0, S)
set_option maxRecDepth 20000 in
set_option maxHeartbeats 1000000 in
theorem b_ShopsAsOne_soldOff_106 {Γ : gx_T} {ι : Nat → ClassId} {a : Nat → Nat} {out : Int32 × gx_S} (hx : gx_std vwCl (gty ι) (gx_cl Γ) (gx_ty Γ)) (C : gx_ok Γ cX7_soldOff RX7 gx_U 11) (F : gx_finI Γ ((Option.some Jvm.ClassFile.FieldType.int)) (wX a ι) out ∧ gx_nL Γ = 10) {k106 : Int32 × gx_S → Option (Int32 × gx_S)} {x1 : Int32} {x2 : Int32} {x3 : Int32} {x4 : Int32} {x5 : Int32} {x6 : Int32} {x7 : Int32} {S : gx_S} (hk106 : ∀ (x77 : Int32) (S7 : gx_S), k106 (x77, S7) = some out → gx_G Γ 0 0 106 [.ref (a 0), .int x1, .int x2, .int x3, .int x4, .int x5, .int x6, .int x77, .null, .null] [] (wX a ι S7)) (h : m_ShopsAsOne_soldOff_106 x1 x2 x3 x4 x5 x6 (x7, S) k106 = some out) : gx_G Γ 0 0 106 [.ref (a 0), .int x1, .int x2, .int x3, .int x4, .int x5, .int x6, .int x7, .null, .null] [] (wX a ι S) := by
  obtain ⟨F, hnL⟩ := F
  unfold m_ShopsAsOne_soldOff_106 at h
  dsimp only at h
  refine gx_iload C dX7_soldOff_106 rfl ?_
  refine gx_iload C dX7_soldOff_108 rfl ?_
  refine gx_icmp_gt (tgt := 191) C dX7_soldOff_110 (by decide) (fun hc1 => ?_) (fun hc1 => ?_)
  · have h := gi_t hc1 h
    refine gx_iconstm1 C dX7_soldOff_191 ?_
    exact gx_iret C F rfl dX7_soldOff_192 (Option.some.inj h)
  · have h := gi_f hc1 h
    refine gx_iconst0 C dX7_soldOff_113 ?_
    refine gx_istore C dX7_soldOff_114 (by rw [hnL]; decide) trivial ?_
    refine gx_weak (gx_le_k rfl (gx_le_k rfl (gx_le_k rfl (gx_le_k rfl (gx_le_k rfl (gx_le_k rfl (gx_le_k rfl (gx_le_k rfl (gx_le_k rfl (gx_le_n gx_le_0)))))))))) (gi_loop (P := fun t => gx_G Γ 0 0 116 [.ref (a 0), .int x1, .int x2, .int x3, .int x4, .int x5, .int x6, .int x7, .int t.1, .null] [] (wX a ι t.2)) (fun kk t hk h => ?_) 5000 _ h)
    obtain ⟨x89, S'9⟩ := t
    exact b_ShopsAsOne_soldOff_116 hx C ⟨F, hnL⟩ hk106 (k116 := kk) (fun x88 S'8 h => hk (x88, S'8) h) h
def m_ShopsAsOne_soldOff (x1 : Int32) (x2 : Int32) (x3 : Int32) (x4 : Int32) (S : gx_S) : Option (Int32 × gx_S) := gx_cp (m_ShopsAsOne_areNotTwo x1 x2 S) fun v2 => if v2 = 0 then gx_cp (m_ShopsAsOne_areNotTwo x1 x3 S) fun v4 => if v4 = 0 then gx_cp (m_ShopsAsOne_areNotTwo x2 x3 S) fun v6 => if v6 = 0 then gx_cp (m_ShopsAsOne_isNot x4 0 9 S) fun v8 => if v8 = 0 then gx_cp (m_ShopsAsOne_areTooMany x1 x2 S) fun v10 => if v10 = 0 then gx_cs (m_Joining_restsBefore 0 S) fun v13 S12 => if v13 = 0 then some ((-1), S12) else gx_cp (m_Standing_setOf 0 x1 S12) fun v15 => gx_cp (m_Standing_setOf 0 x2 S12) fun v17 => gx_cp (m_Standing_shopsOf 0 x3 S12) fun v19 => gx_loop (m_ShopsAsOne_soldOff_106 x1 x2 x3 x4 (v15 ||| v17) ((3 : Int32) - v19)) 5000 (0, S12) else some ((-103), S) else some ((-102), S) else some ((-101), S) else some ((-101), S) else some ((-101), S)
set_option maxRecDepth 20000 in
set_option maxHeartbeats 1000000 in
theorem c_ShopsAsOne_soldOff (l : Launch) (D : va_G) {cl : List vw_C} {tys : List (ClassId × FieldType)} {ι : Nat → ClassId} (hx : gx_std vwCl (gty ι) cl tys) (a : Nat → Nat) (x1 : Int32) (x2 : Int32) (x3 : Int32) (x4 : Int32) (S : gx_S) {out : Int32 × gx_S} (h : m_ShopsAsOne_soldOff x1 x2 x3 x4 S = some out) : gx_mI l D cl tys yX7_soldOff (.code yX7_soldOff cX7_soldOff 10 ((Option.some Jvm.ClassFile.FieldType.int)) :: gx_U) (gx_rm 11) [.ref (a 0), .int x1, .int x2, .int x3, .int x4] (wX a ι S) (wX a ι) out := by
  unfold m_ShopsAsOne_soldOff at h
  refine gx_startI (V := [.ref (a 0), .int x1, .int x2, .int x3, .int x4, .null, .null, .null, .null, .null]) 5 (by decide +kernel) (Nat.le_of_ble_eq_true rfl) rfl (fun Γ hl hD hcl hty hnL C F => ?_)
  subst hl; subst hD; subst hcl; subst hty
  refine gx_aload_0 C dX7_soldOff_0 rfl ?_
  refine gx_iload_1 C dX7_soldOff_1 rfl ?_
  refine gx_iload_2 C dX7_soldOff_2 rfl ?_
  obtain ⟨v2, e1, h⟩ := gi_cp h
  refine gc_IV C (c_ShopsAsOne_areNotTwo (gx_l Γ) (gx_D Γ) hx a _ _ _ e1) (gx_cw C gx_uu lk_X7_208 (by decide) (by decide)) (cls_X7 hx).1 (gs_recv (q := 0) lt_X_ShopsAsOne (oc_X_ShopsAsOne a ι _)) rfl rfl (Nat.le_of_ble_eq_true rfl) ⟨Nat.zero_le _, Nat.zero_le _⟩ dX7_soldOff_3 ?_
  refine gx_if_ne (tgt := 27) C dX7_soldOff_6 (by decide) (fun hc25 => ?_) (fun hc25 => ?_)
  · have h := gi_f hc25 h
    refine gx_bipush (v := (-101)) C dX7_soldOff_27 (by decide) ?_
    exact gx_iret C F rfl dX7_soldOff_29 (Option.some.inj h)
  · have h := gi_t hc25 h
    refine gx_aload_0 C dX7_soldOff_9 rfl ?_
    refine gx_iload_1 C dX7_soldOff_10 rfl ?_
    refine gx_iload_3 C dX7_soldOff_11 rfl ?_
    obtain ⟨v4, e3, h⟩ := gi_cp h
    refine gc_IV C (c_ShopsAsOne_areNotTwo (gx_l Γ) (gx_D Γ) hx a _ _ _ e3) (gx_cw C gx_uu lk_X7_208 (by decide) (by decide)) (cls_X7 hx).1 (gs_recv (q := 0) lt_X_ShopsAsOne (oc_X_ShopsAsOne a ι _)) rfl rfl (Nat.le_of_ble_eq_true rfl) ⟨Nat.zero_le _, Nat.zero_le _⟩ dX7_soldOff_12 ?_
    refine gx_if_ne (tgt := 27) C dX7_soldOff_15 (by decide) (fun hc24 => ?_) (fun hc24 => ?_)
    · have h := gi_f hc24 h
      refine gx_bipush (v := (-101)) C dX7_soldOff_27 (by decide) ?_
      exact gx_iret C F rfl dX7_soldOff_29 (Option.some.inj h)
    · have h := gi_t hc24 h
      refine gx_aload_0 C dX7_soldOff_18 rfl ?_
      refine gx_iload_2 C dX7_soldOff_19 rfl ?_
      refine gx_iload_3 C dX7_soldOff_20 rfl ?_
      obtain ⟨v6, e5, h⟩ := gi_cp h
      refine gc_IV C (c_ShopsAsOne_areNotTwo (gx_l Γ) (gx_D Γ) hx a _ _ _ e5) (gx_cw C gx_uu lk_X7_208 (by decide) (by decide)) (cls_X7 hx).1 (gs_recv (q := 0) lt_X_ShopsAsOne (oc_X_ShopsAsOne a ι _)) rfl rfl (Nat.le_of_ble_eq_true rfl) ⟨Nat.zero_le _, Nat.zero_le _⟩ dX7_soldOff_21 ?_
      refine gx_if_eq (tgt := 30) C dX7_soldOff_24 (by decide) (fun hc23 => ?_) (fun hc23 => ?_)
      · have h := gi_t hc23 h
        refine gx_iload C dX7_soldOff_30 rfl ?_
        refine gx_iconst0 C dX7_soldOff_32 ?_
        refine gx_bipush (v := 9) C dX7_soldOff_33 (by decide) ?_
        obtain ⟨v8, e7, h⟩ := gi_cp h
        refine gc_IS C (c_ShopsAsOne_isNot (gx_l Γ) (gx_D Γ) hx a _ _ _ _ e7) (gx_cwS C gx_uu lk_X7_72 (by decide) (by decide)) rfl rfl (Nat.le_of_ble_eq_true rfl) ⟨Nat.zero_le _, Nat.zero_le _⟩ dX7_soldOff_35 ?_
        refine gx_if_eq (tgt := 44) C dX7_soldOff_38 (by decide) (fun hc22 => ?_) (fun hc22 => ?_)
        · have h := gi_t hc22 h
          refine gx_aload_0 C dX7_soldOff_44 rfl ?_
          refine gx_iload_1 C dX7_soldOff_45 rfl ?_
          refine gx_iload_2 C dX7_soldOff_46 rfl ?_
          obtain ⟨v10, e9, h⟩ := gi_cp h
          refine gc_IV C (c_ShopsAsOne_areTooMany (gx_l Γ) (gx_D Γ) hx a _ _ _ e9) (gx_cw C gx_uu lk_X7_211 (by decide) (by decide)) (cls_X7 hx).1 (gs_recv (q := 0) lt_X_ShopsAsOne (oc_X_ShopsAsOne a ι _)) rfl rfl (Nat.le_of_ble_eq_true rfl) ⟨Nat.zero_le _, Nat.zero_le _⟩ dX7_soldOff_47 ?_
          refine gx_if_eq (tgt := 56) C dX7_soldOff_50 (by decide) (fun hc21 => ?_) (fun hc21 => ?_)
          · have h := gi_t hc21 h
            refine gx_aload_0 C dX7_soldOff_56 rfl ?_
            refine gs_getf (q := 0) C fl_X7_43 (cls_X7 hx) lt_X_ShopsAsOne (oc_X_ShopsAsOne a ι _) rfl dX7_soldOff_57 ?_
            refine gx_aload_0 C dX7_soldOff_60 rfl ?_
            refine gs_getf (q := 0) C fl_X7_21 (cls_X7 hx) lt_X_ShopsAsOne (oc_X_ShopsAsOne a ι _) rfl dX7_soldOff_61 ?_
            obtain ⟨v13, S12, e11, h⟩ := gi_cs h
            refine gc_IV C (c_Joining_restsBefore (gx_l Γ) (gx_D Γ) hx a (r1 := 0) (by decide) _ e11) (gx_cw C gx_uu lk_X7_218 (by decide) (by decide)) (cls_X2 hx).1 (gs_recv (q := 63) lt_X_Joining (oc_X_Joining a ι _)) rfl rfl (Nat.le_of_ble_eq_true rfl) ⟨Nat.zero_le _, Nat.zero_le _⟩ dX7_soldOff_64 ?_
            refine gx_if_ne (tgt := 72) C dX7_soldOff_67 (by decide) (fun hc20 => ?_) (fun hc20 => ?_)
            · have h := gi_f hc20 h
              refine gx_aload_0 C dX7_soldOff_72 rfl ?_
              refine gs_getf (q := 0) C fl_X7_21 (cls_X7 hx) lt_X_ShopsAsOne (oc_X_ShopsAsOne a ι _) rfl dX7_soldOff_73 ?_
              refine gx_iload_1 C dX7_soldOff_76 rfl ?_
              obtain ⟨v15, e14, h⟩ := gi_cp h
              refine gc_IV C (c_Standing_setOf (gx_l Γ) (gx_D Γ) hx a (r := 0) (by decide) _ _ e14) (gx_cw C gx_uu lk_X7_235 (by decide) (by decide)) (cls_X4 hx).1 (gs_recv (q := 21) (lt_X_Standing (q := 0) (by decide)) (oc_X_Standing a ι _ (q := 0) (by decide))) rfl rfl (Nat.le_of_ble_eq_true rfl) ⟨Nat.zero_le _, Nat.zero_le _⟩ dX7_soldOff_77 ?_
              refine gx_aload_0 C dX7_soldOff_80 rfl ?_
              refine gs_getf (q := 0) C fl_X7_21 (cls_X7 hx) lt_X_ShopsAsOne (oc_X_ShopsAsOne a ι _) rfl dX7_soldOff_81 ?_
              refine gx_iload_2 C dX7_soldOff_84 rfl ?_
              obtain ⟨v17, e16, h⟩ := gi_cp h
              refine gc_IV C (c_Standing_setOf (gx_l Γ) (gx_D Γ) hx a (r := 0) (by decide) _ _ e16) (gx_cw C gx_uu lk_X7_235 (by decide) (by decide)) (cls_X4 hx).1 (gs_recv (q := 21) (lt_X_Standing (q := 0) (by decide)) (oc_X_Standing a ι _ (q := 0) (by decide))) rfl rfl (Nat.le_of_ble_eq_true rfl) ⟨Nat.zero_le _, Nat.zero_le _⟩ dX7_soldOff_85 ?_
              refine gx_ior C dX7_soldOff_88 ?_
              refine gx_istore C dX7_soldOff_89 (by rw [hnL]; decide) trivial ?_
              refine gx_iconst3 C dX7_soldOff_91 ?_
              refine gx_aload_0 C dX7_soldOff_92 rfl ?_
              refine gs_getf (q := 0) C fl_X7_21 (cls_X7 hx) lt_X_ShopsAsOne (oc_X_ShopsAsOne a ι _) rfl dX7_soldOff_93 ?_
              refine gx_iload_3 C dX7_soldOff_96 rfl ?_
              obtain ⟨v19, e18, h⟩ := gi_cp h
              refine gc_IV C (c_Standing_shopsOf (gx_l Γ) (gx_D Γ) hx a (r := 0) (by decide) _ _ e18) (gx_cw C gx_uu lk_X7_88 (by decide) (by decide)) (cls_X4 hx).1 (gs_recv (q := 21) (lt_X_Standing (q := 0) (by decide)) (oc_X_Standing a ι _ (q := 0) (by decide))) rfl rfl (Nat.le_of_ble_eq_true rfl) ⟨Nat.zero_le _, Nat.zero_le _⟩ dX7_soldOff_97 ?_
              refine gx_isub C dX7_soldOff_100 ?_
              refine gx_istore C dX7_soldOff_101 (by rw [hnL]; decide) trivial ?_
              refine gx_iconst0 C dX7_soldOff_103 ?_
              refine gx_istore C dX7_soldOff_104 (by rw [hnL]; decide) trivial ?_
              refine gx_weak (gx_le_k rfl (gx_le_k rfl (gx_le_k rfl (gx_le_k rfl (gx_le_k rfl (gx_le_k rfl (gx_le_k rfl (gx_le_k rfl (gx_le_n (gx_le_n gx_le_0)))))))))) (gi_loop (P := fun t => gx_G Γ 0 0 106 [.ref (a 0), .int x1, .int x2, .int x3, .int x4, .int (v15 ||| v17), .int ((3 : Int32) - v19), .int t.1, .null, .null] [] (wX a ι t.2)) (fun kk t hk h => ?_) 5000 _ h)
              obtain ⟨x79, S'9⟩ := t
              exact b_ShopsAsOne_soldOff_106 hx C ⟨F, hnL⟩ (k106 := kk) (fun x78 S'8 h => hk (x78, S'8) h) h
            · have h := gi_t hc20 h
              refine gx_iconstm1 C dX7_soldOff_70 ?_
              exact gx_iret C F rfl dX7_soldOff_71 (Option.some.inj h)
          · have h := gi_f hc21 h
            refine gx_bipush (v := (-103)) C dX7_soldOff_53 (by decide) ?_
            exact gx_iret C F rfl dX7_soldOff_55 (Option.some.inj h)
        · have h := gi_f hc22 h
          refine gx_bipush (v := (-102)) C dX7_soldOff_41 (by decide) ?_
          exact gx_iret C F rfl dX7_soldOff_43 (Option.some.inj h)
      · have h := gi_f hc23 h
        refine gx_bipush (v := (-101)) C dX7_soldOff_27 (by decide) ?_
        exact gx_iret C F rfl dX7_soldOff_29 (Option.some.inj h)
def m_ShopsAsOne_twice (x1 : Int32) (x2 : Int32) (x3 : Int32) (x4 : Int32) (x5 : Int32) (S : gx_S) : Option (Int32 × gx_S) := gx_cp (m_ShopsAsOne_areNotTwo x1 x2 S) fun v2 => if v2 = 0 then gx_cp (m_ShopsAsOne_areNotTwo x3 x4 S) fun v4 => if v4 = 0 then gx_cp (m_ShopsAsOne_areNotTwo x1 x3 S) fun v6 => if v6 = 0 then gx_cp (m_ShopsAsOne_areNotTwo x1 x4 S) fun v8 => if v8 = 0 then gx_cp (m_ShopsAsOne_areNotTwo x2 x3 S) fun v10 => if v10 = 0 then gx_cp (m_ShopsAsOne_areNotTwo x2 x4 S) fun v12 => if v12 = 0 then gx_cp (m_ShopsAsOne_isNot x5 0 2 S) fun v14 => if v14 = 0 then gx_cp (m_ShopsAsOne_areTooMany x1 x2 S) fun v16 => if v16 = 0 then gx_cp (m_ShopsAsOne_areTooMany x3 x4 S) fun v18 => if v18 = 0 then gx_cs (m_Joining_restsBefore 0 S) fun v21 S20 => if v21 = 0 then some ((-1), S20) else gx_cs (m_Joining_harmOf 0 x1 x2 S20) fun v24 S23 => gx_cs (m_Joining_harmOf 0 x3 x4 S23) fun v27 S26 => gx_cp (m_Standing_become 1 0 S26) fun S29 => gx_cp (m_Standing_give 1 x2 x1 S29) fun S31 => gx_cs (m_Joining_harmOf 1 x3 x4 S31) fun v34 S33 => if v24 = (-1) then some ((-1), S33) else if v27 = (-1) then some ((-1), S33) else if v34 = (-1) then some ((-1), S33) else if x5 = 0 then some (v24, S33) else if x5 = 1 then some (v27, S33) else some (v34, S33) else some ((-103), S) else some ((-103), S) else some ((-102), S) else some ((-101), S) else some ((-101), S) else some ((-101), S) else some ((-101), S) else some ((-101), S) else some ((-101), S)
set_option maxRecDepth 20000 in
set_option maxHeartbeats 1000000 in
theorem c_ShopsAsOne_twice (l : Launch) (D : va_G) {cl : List vw_C} {tys : List (ClassId × FieldType)} {ι : Nat → ClassId} (hx : gx_std vwCl (gty ι) cl tys) (a : Nat → Nat) (x1 : Int32) (x2 : Int32) (x3 : Int32) (x4 : Int32) (x5 : Int32) (S : gx_S) {out : Int32 × gx_S} (h : m_ShopsAsOne_twice x1 x2 x3 x4 x5 S = some out) : gx_mI l D cl tys yX7_twice (.code yX7_twice cX7_twice 9 ((Option.some Jvm.ClassFile.FieldType.int)) :: gx_U) (gx_rm 11) [.ref (a 0), .int x1, .int x2, .int x3, .int x4, .int x5] (wX a ι S) (wX a ι) out := by
  unfold m_ShopsAsOne_twice at h
  refine gx_startI (V := [.ref (a 0), .int x1, .int x2, .int x3, .int x4, .int x5, .null, .null, .null]) 3 (by decide +kernel) (Nat.le_of_ble_eq_true rfl) rfl (fun Γ hl hD hcl hty hnL C F => ?_)
  subst hl; subst hD; subst hcl; subst hty
  refine gx_aload_0 C dX7_twice_0 rfl ?_
  refine gx_iload_1 C dX7_twice_1 rfl ?_
  refine gx_iload_2 C dX7_twice_2 rfl ?_
  obtain ⟨v2, e1, h⟩ := gi_cp h
  refine gc_IV C (c_ShopsAsOne_areNotTwo (gx_l Γ) (gx_D Γ) hx a _ _ _ e1) (gx_cw C gx_uu lk_X7_208 (by decide) (by decide)) (cls_X7 hx).1 (gs_recv (q := 0) lt_X_ShopsAsOne (oc_X_ShopsAsOne a ι _)) rfl rfl (Nat.le_of_ble_eq_true rfl) ⟨Nat.zero_le _, Nat.zero_le _⟩ dX7_twice_3 ?_
  refine gx_if_ne (tgt := 57) C dX7_twice_6 (by decide) (fun hc49 => ?_) (fun hc49 => ?_)
  · have h := gi_f hc49 h
    refine gx_bipush (v := (-101)) C dX7_twice_57 (by decide) ?_
    exact gx_iret C F rfl dX7_twice_59 (Option.some.inj h)
  · have h := gi_t hc49 h
    refine gx_aload_0 C dX7_twice_9 rfl ?_
    refine gx_iload_3 C dX7_twice_10 rfl ?_
    refine gx_iload C dX7_twice_11 rfl ?_
    obtain ⟨v4, e3, h⟩ := gi_cp h
    refine gc_IV C (c_ShopsAsOne_areNotTwo (gx_l Γ) (gx_D Γ) hx a _ _ _ e3) (gx_cw C gx_uu lk_X7_208 (by decide) (by decide)) (cls_X7 hx).1 (gs_recv (q := 0) lt_X_ShopsAsOne (oc_X_ShopsAsOne a ι _)) rfl rfl (Nat.le_of_ble_eq_true rfl) ⟨Nat.zero_le _, Nat.zero_le _⟩ dX7_twice_13 ?_
    refine gx_if_ne (tgt := 57) C dX7_twice_16 (by decide) (fun hc48 => ?_) (fun hc48 => ?_)
    · have h := gi_f hc48 h
      refine gx_bipush (v := (-101)) C dX7_twice_57 (by decide) ?_
      exact gx_iret C F rfl dX7_twice_59 (Option.some.inj h)
    · have h := gi_t hc48 h
      refine gx_aload_0 C dX7_twice_19 rfl ?_
      refine gx_iload_1 C dX7_twice_20 rfl ?_
      refine gx_iload_3 C dX7_twice_21 rfl ?_
      obtain ⟨v6, e5, h⟩ := gi_cp h
      refine gc_IV C (c_ShopsAsOne_areNotTwo (gx_l Γ) (gx_D Γ) hx a _ _ _ e5) (gx_cw C gx_uu lk_X7_208 (by decide) (by decide)) (cls_X7 hx).1 (gs_recv (q := 0) lt_X_ShopsAsOne (oc_X_ShopsAsOne a ι _)) rfl rfl (Nat.le_of_ble_eq_true rfl) ⟨Nat.zero_le _, Nat.zero_le _⟩ dX7_twice_22 ?_
      refine gx_if_ne (tgt := 57) C dX7_twice_25 (by decide) (fun hc47 => ?_) (fun hc47 => ?_)
      · have h := gi_f hc47 h
        refine gx_bipush (v := (-101)) C dX7_twice_57 (by decide) ?_
        exact gx_iret C F rfl dX7_twice_59 (Option.some.inj h)
      · have h := gi_t hc47 h
        refine gx_aload_0 C dX7_twice_28 rfl ?_
        refine gx_iload_1 C dX7_twice_29 rfl ?_
        refine gx_iload C dX7_twice_30 rfl ?_
        obtain ⟨v8, e7, h⟩ := gi_cp h
        refine gc_IV C (c_ShopsAsOne_areNotTwo (gx_l Γ) (gx_D Γ) hx a _ _ _ e7) (gx_cw C gx_uu lk_X7_208 (by decide) (by decide)) (cls_X7 hx).1 (gs_recv (q := 0) lt_X_ShopsAsOne (oc_X_ShopsAsOne a ι _)) rfl rfl (Nat.le_of_ble_eq_true rfl) ⟨Nat.zero_le _, Nat.zero_le _⟩ dX7_twice_32 ?_
        refine gx_if_ne (tgt := 57) C dX7_twice_35 (by decide) (fun hc46 => ?_) (fun hc46 => ?_)
        · have h := gi_f hc46 h
          refine gx_bipush (v := (-101)) C dX7_twice_57 (by decide) ?_
          exact gx_iret C F rfl dX7_twice_59 (Option.some.inj h)
        · have h := gi_t hc46 h
          refine gx_aload_0 C dX7_twice_38 rfl ?_
          refine gx_iload_2 C dX7_twice_39 rfl ?_
          refine gx_iload_3 C dX7_twice_40 rfl ?_
          obtain ⟨v10, e9, h⟩ := gi_cp h
          refine gc_IV C (c_ShopsAsOne_areNotTwo (gx_l Γ) (gx_D Γ) hx a _ _ _ e9) (gx_cw C gx_uu lk_X7_208 (by decide) (by decide)) (cls_X7 hx).1 (gs_recv (q := 0) lt_X_ShopsAsOne (oc_X_ShopsAsOne a ι _)) rfl rfl (Nat.le_of_ble_eq_true rfl) ⟨Nat.zero_le _, Nat.zero_le _⟩ dX7_twice_41 ?_
          refine gx_if_ne (tgt := 57) C dX7_twice_44 (by decide) (fun hc45 => ?_) (fun hc45 => ?_)
          · have h := gi_f hc45 h
            refine gx_bipush (v := (-101)) C dX7_twice_57 (by decide) ?_
            exact gx_iret C F rfl dX7_twice_59 (Option.some.inj h)
          · have h := gi_t hc45 h
            refine gx_aload_0 C dX7_twice_47 rfl ?_
            refine gx_iload_2 C dX7_twice_48 rfl ?_
            refine gx_iload C dX7_twice_49 rfl ?_
            obtain ⟨v12, e11, h⟩ := gi_cp h
            refine gc_IV C (c_ShopsAsOne_areNotTwo (gx_l Γ) (gx_D Γ) hx a _ _ _ e11) (gx_cw C gx_uu lk_X7_208 (by decide) (by decide)) (cls_X7 hx).1 (gs_recv (q := 0) lt_X_ShopsAsOne (oc_X_ShopsAsOne a ι _)) rfl rfl (Nat.le_of_ble_eq_true rfl) ⟨Nat.zero_le _, Nat.zero_le _⟩ dX7_twice_51 ?_
            refine gx_if_eq (tgt := 60) C dX7_twice_54 (by decide) (fun hc44 => ?_) (fun hc44 => ?_)
            · have h := gi_t hc44 h
              refine gx_iload C dX7_twice_60 rfl ?_
              refine gx_iconst0 C dX7_twice_62 ?_
              refine gx_iconst2 C dX7_twice_63 ?_
              obtain ⟨v14, e13, h⟩ := gi_cp h
              refine gc_IS C (c_ShopsAsOne_isNot (gx_l Γ) (gx_D Γ) hx a _ _ _ _ e13) (gx_cwS C gx_uu lk_X7_72 (by decide) (by decide)) rfl rfl (Nat.le_of_ble_eq_true rfl) ⟨Nat.zero_le _, Nat.zero_le _⟩ dX7_twice_64 ?_
              refine gx_if_eq (tgt := 73) C dX7_twice_67 (by decide) (fun hc43 => ?_) (fun hc43 => ?_)
              · have h := gi_t hc43 h
                refine gx_aload_0 C dX7_twice_73 rfl ?_
                refine gx_iload_1 C dX7_twice_74 rfl ?_
                refine gx_iload_2 C dX7_twice_75 rfl ?_
                obtain ⟨v16, e15, h⟩ := gi_cp h
                refine gc_IV C (c_ShopsAsOne_areTooMany (gx_l Γ) (gx_D Γ) hx a _ _ _ e15) (gx_cw C gx_uu lk_X7_211 (by decide) (by decide)) (cls_X7 hx).1 (gs_recv (q := 0) lt_X_ShopsAsOne (oc_X_ShopsAsOne a ι _)) rfl rfl (Nat.le_of_ble_eq_true rfl) ⟨Nat.zero_le _, Nat.zero_le _⟩ dX7_twice_76 ?_
                refine gx_if_ne (tgt := 92) C dX7_twice_79 (by decide) (fun hc42 => ?_) (fun hc42 => ?_)
                · have h := gi_f hc42 h
                  refine gx_bipush (v := (-103)) C dX7_twice_92 (by decide) ?_
                  exact gx_iret C F rfl dX7_twice_94 (Option.some.inj h)
                · have h := gi_t hc42 h
                  refine gx_aload_0 C dX7_twice_82 rfl ?_
                  refine gx_iload_3 C dX7_twice_83 rfl ?_
                  refine gx_iload C dX7_twice_84 rfl ?_
                  obtain ⟨v18, e17, h⟩ := gi_cp h
                  refine gc_IV C (c_ShopsAsOne_areTooMany (gx_l Γ) (gx_D Γ) hx a _ _ _ e17) (gx_cw C gx_uu lk_X7_211 (by decide) (by decide)) (cls_X7 hx).1 (gs_recv (q := 0) lt_X_ShopsAsOne (oc_X_ShopsAsOne a ι _)) rfl rfl (Nat.le_of_ble_eq_true rfl) ⟨Nat.zero_le _, Nat.zero_le _⟩ dX7_twice_86 ?_
                  refine gx_if_eq (tgt := 95) C dX7_twice_89 (by decide) (fun hc41 => ?_) (fun hc41 => ?_)
                  · have h := gi_t hc41 h
                    refine gx_aload_0 C dX7_twice_95 rfl ?_
                    refine gs_getf (q := 0) C fl_X7_43 (cls_X7 hx) lt_X_ShopsAsOne (oc_X_ShopsAsOne a ι _) rfl dX7_twice_96 ?_
                    refine gx_aload_0 C dX7_twice_99 rfl ?_
                    refine gs_getf (q := 0) C fl_X7_21 (cls_X7 hx) lt_X_ShopsAsOne (oc_X_ShopsAsOne a ι _) rfl dX7_twice_100 ?_
                    obtain ⟨v21, S20, e19, h⟩ := gi_cs h
                    refine gc_IV C (c_Joining_restsBefore (gx_l Γ) (gx_D Γ) hx a (r1 := 0) (by decide) _ e19) (gx_cw C gx_uu lk_X7_218 (by decide) (by decide)) (cls_X2 hx).1 (gs_recv (q := 63) lt_X_Joining (oc_X_Joining a ι _)) rfl rfl (Nat.le_of_ble_eq_true rfl) ⟨Nat.zero_le _, Nat.zero_le _⟩ dX7_twice_103 ?_
                    refine gx_if_ne (tgt := 111) C dX7_twice_106 (by decide) (fun hc40 => ?_) (fun hc40 => ?_)
                    · have h := gi_f hc40 h
                      refine gx_aload_0 C dX7_twice_111 rfl ?_
                      refine gs_getf (q := 0) C fl_X7_43 (cls_X7 hx) lt_X_ShopsAsOne (oc_X_ShopsAsOne a ι _) rfl dX7_twice_112 ?_
                      refine gx_aload_0 C dX7_twice_115 rfl ?_
                      refine gs_getf (q := 0) C fl_X7_21 (cls_X7 hx) lt_X_ShopsAsOne (oc_X_ShopsAsOne a ι _) rfl dX7_twice_116 ?_
                      refine gx_iload_1 C dX7_twice_119 rfl ?_
                      refine gx_iload_2 C dX7_twice_120 rfl ?_
                      obtain ⟨v24, S23, e22, h⟩ := gi_cs h
                      refine gc_IV C (c_Joining_harmOf (gx_l Γ) (gx_D Γ) hx a (r1 := 0) (by decide) _ _ _ e22) (gx_cw C gx_uu lk_X7_242 (by decide) (by decide)) (cls_X2 hx).1 (gs_recv (q := 63) lt_X_Joining (oc_X_Joining a ι _)) rfl rfl (Nat.le_of_ble_eq_true rfl) ⟨Nat.zero_le _, Nat.zero_le _⟩ dX7_twice_121 ?_
                      refine gx_istore C dX7_twice_124 (by rw [hnL]; decide) trivial ?_
                      refine gx_aload_0 C dX7_twice_126 rfl ?_
                      refine gs_getf (q := 0) C fl_X7_43 (cls_X7 hx) lt_X_ShopsAsOne (oc_X_ShopsAsOne a ι _) rfl dX7_twice_127 ?_
                      refine gx_aload_0 C dX7_twice_130 rfl ?_
                      refine gs_getf (q := 0) C fl_X7_21 (cls_X7 hx) lt_X_ShopsAsOne (oc_X_ShopsAsOne a ι _) rfl dX7_twice_131 ?_
                      refine gx_iload_3 C dX7_twice_134 rfl ?_
                      refine gx_iload C dX7_twice_135 rfl ?_
                      obtain ⟨v27, S26, e25, h⟩ := gi_cs h
                      refine gc_IV C (c_Joining_harmOf (gx_l Γ) (gx_D Γ) hx a (r1 := 0) (by decide) _ _ _ e25) (gx_cw C gx_uu lk_X7_242 (by decide) (by decide)) (cls_X2 hx).1 (gs_recv (q := 63) lt_X_Joining (oc_X_Joining a ι _)) rfl rfl (Nat.le_of_ble_eq_true rfl) ⟨Nat.zero_le _, Nat.zero_le _⟩ dX7_twice_137 ?_
                      refine gx_istore C dX7_twice_140 (by rw [hnL]; decide) trivial ?_
                      refine gx_aload_0 C dX7_twice_142 rfl ?_
                      refine gs_getf (q := 0) C fl_X7_25 (cls_X7 hx) lt_X_ShopsAsOne (oc_X_ShopsAsOne a ι _) rfl dX7_twice_143 ?_
                      refine gx_aload_0 C dX7_twice_146 rfl ?_
                      refine gs_getf (q := 0) C fl_X7_21 (cls_X7 hx) lt_X_ShopsAsOne (oc_X_ShopsAsOne a ι _) rfl dX7_twice_147 ?_
                      obtain ⟨S29, e28, h⟩ := gi_cp h
                      refine gc_VV C (c_Standing_become (gx_l Γ) (gx_D Γ) hx a (r := 1) (r1 := 0) (by decide) (by decide) _ e28) (gx_cw C gx_uu lk_X7_151 (by decide) (by decide)) (cls_X4 hx).1 (gs_recv (q := 25) (lt_X_Standing (q := 1) (by decide)) (oc_X_Standing a ι _ (q := 1) (by decide))) rfl rfl (Nat.le_of_ble_eq_true rfl) ⟨Nat.zero_le _, Nat.zero_le _⟩ dX7_twice_150 ?_
                      refine gx_aload_0 C dX7_twice_153 rfl ?_
                      refine gs_getf (q := 0) C fl_X7_25 (cls_X7 hx) lt_X_ShopsAsOne (oc_X_ShopsAsOne a ι _) rfl dX7_twice_154 ?_
                      refine gx_iload_2 C dX7_twice_157 rfl ?_
                      refine gx_iload_1 C dX7_twice_158 rfl ?_
                      obtain ⟨S31, e30, h⟩ := gi_cp h
                      refine gc_VV C (c_Standing_give (gx_l Γ) (gx_D Γ) hx a (r := 1) (by decide) _ _ _ e30) (gx_cw C gx_uu lk_X7_214 (by decide) (by decide)) (cls_X4 hx).1 (gs_recv (q := 25) (lt_X_Standing (q := 1) (by decide)) (oc_X_Standing a ι _ (q := 1) (by decide))) rfl rfl (Nat.le_of_ble_eq_true rfl) ⟨Nat.zero_le _, Nat.zero_le _⟩ dX7_twice_159 ?_
                      refine gx_aload_0 C dX7_twice_162 rfl ?_
                      refine gs_getf (q := 0) C fl_X7_43 (cls_X7 hx) lt_X_ShopsAsOne (oc_X_ShopsAsOne a ι _) rfl dX7_twice_163 ?_
                      refine gx_aload_0 C dX7_twice_166 rfl ?_
                      refine gs_getf (q := 0) C fl_X7_25 (cls_X7 hx) lt_X_ShopsAsOne (oc_X_ShopsAsOne a ι _) rfl dX7_twice_167 ?_
                      refine gx_iload_3 C dX7_twice_170 rfl ?_
                      refine gx_iload C dX7_twice_171 rfl ?_
                      obtain ⟨v34, S33, e32, h⟩ := gi_cs h
                      refine gc_IV C (c_Joining_harmOf (gx_l Γ) (gx_D Γ) hx a (r1 := 1) (by decide) _ _ _ e32) (gx_cw C gx_uu lk_X7_242 (by decide) (by decide)) (cls_X2 hx).1 (gs_recv (q := 63) lt_X_Joining (oc_X_Joining a ι _)) rfl rfl (Nat.le_of_ble_eq_true rfl) ⟨Nat.zero_le _, Nat.zero_le _⟩ dX7_twice_173 ?_
                      refine gx_istore C dX7_twice_176 (by rw [hnL]; decide) trivial ?_
                      refine gx_iload C dX7_twice_178 rfl ?_
                      refine gx_iconstm1 C dX7_twice_180 ?_
                      refine gx_icmp_eq (tgt := 196) C dX7_twice_181 (by decide) (fun hc39 => ?_) (fun hc39 => ?_)
                      · have h := gi_t hc39 h
                        refine gx_iconstm1 C dX7_twice_196 ?_
                        exact gx_iret C F rfl dX7_twice_197 (Option.some.inj h)
                      · have h := gi_f hc39 h
                        refine gx_iload C dX7_twice_184 rfl ?_
                        refine gx_iconstm1 C dX7_twice_186 ?_
                        refine gx_icmp_eq (tgt := 196) C dX7_twice_187 (by decide) (fun hc38 => ?_) (fun hc38 => ?_)
                        · have h := gi_t hc38 h
                          refine gx_iconstm1 C dX7_twice_196 ?_
                          exact gx_iret C F rfl dX7_twice_197 (Option.some.inj h)
                        · have h := gi_f hc38 h
                          refine gx_iload C dX7_twice_190 rfl ?_
                          refine gx_iconstm1 C dX7_twice_192 ?_
                          refine gx_icmp_ne (tgt := 198) C dX7_twice_193 (by decide) (fun hc37 => ?_) (fun hc37 => ?_)
                          · have h := gi_f hc37 h
                            refine gx_iload C dX7_twice_198 rfl ?_
                            refine gx_if_ne (tgt := 208) C dX7_twice_200 (by decide) (fun hc36 => ?_) (fun hc36 => ?_)
                            · have h := gi_f hc36 h
                              refine gx_iload C dX7_twice_208 rfl ?_
                              refine gx_iconst1 C dX7_twice_210 ?_
                              refine gx_icmp_ne (tgt := 219) C dX7_twice_211 (by decide) (fun hc35 => ?_) (fun hc35 => ?_)
                              · have h := gi_f hc35 h
                                refine gx_iload C dX7_twice_219 rfl ?_
                                exact gx_iret C F rfl dX7_twice_221 (Option.some.inj h)
                              · have h := gi_t hc35 h
                                refine gx_iload C dX7_twice_214 rfl ?_
                                refine gx_goto (tgt := 221) C dX7_twice_216 (by decide) ?_
                                exact gx_iret C F rfl dX7_twice_221 (Option.some.inj h)
                            · have h := gi_t hc36 h
                              refine gx_iload C dX7_twice_203 rfl ?_
                              refine gx_goto (tgt := 221) C dX7_twice_205 (by decide) ?_
                              exact gx_iret C F rfl dX7_twice_221 (Option.some.inj h)
                          · have h := gi_t hc37 h
                            refine gx_iconstm1 C dX7_twice_196 ?_
                            exact gx_iret C F rfl dX7_twice_197 (Option.some.inj h)
                    · have h := gi_t hc40 h
                      refine gx_iconstm1 C dX7_twice_109 ?_
                      exact gx_iret C F rfl dX7_twice_110 (Option.some.inj h)
                  · have h := gi_f hc41 h
                    refine gx_bipush (v := (-103)) C dX7_twice_92 (by decide) ?_
                    exact gx_iret C F rfl dX7_twice_94 (Option.some.inj h)
              · have h := gi_f hc43 h
                refine gx_bipush (v := (-102)) C dX7_twice_70 (by decide) ?_
                exact gx_iret C F rfl dX7_twice_72 (Option.some.inj h)
            · have h := gi_f hc44 h
              refine gx_bipush (v := (-101)) C dX7_twice_57 (by decide) ?_
              exact gx_iret C F rfl dX7_twice_59 (Option.some.inj h)
def m_ShopsAsOne_codeAt (x0 : Int64) (x2 : Int32) (S : gx_S) : Option (Int32) := some ((((x0.toUInt64 >>> (((8 : Int32) * x2).toInt64.toUInt64 &&& Int64.toUInt64 63)).toInt64) &&& (255 : Int64)).toInt32)
set_option maxRecDepth 20000 in
set_option maxHeartbeats 1000000 in
theorem c_ShopsAsOne_codeAt (l : Launch) (D : va_G) {cl : List vw_C} {tys : List (ClassId × FieldType)} {ι : Nat → ClassId} (hx : gx_std vwCl (gty ι) cl tys) (a : Nat → Nat) (x0 : Int64) (x2 : Int32) (S : gx_S) {out : Int32} (h : m_ShopsAsOne_codeAt x0 x2 S = some out) : gx_mI l D cl tys yX7_codeAt (.code yX7_codeAt cX7_codeAt 3 ((Option.some Jvm.ClassFile.FieldType.int)) :: gx_U) (gx_rm 0) [.long x0, .int x2] (wX a ι S) (wX a ι) (out, S) := by
  unfold m_ShopsAsOne_codeAt at h
  refine gx_startI (V := [.long x0, .null, .int x2]) 0 (by decide +kernel) (Nat.le_of_ble_eq_true rfl) rfl (fun Γ hl hD hcl hty hnL C F => ?_)
  subst hl; subst hD; subst hcl; subst hty
  refine gx_lload_0 C dX7_codeAt_0 rfl ?_
  refine gx_bipush (v := 8) C dX7_codeAt_1 (by decide) ?_
  refine gx_iload_2 C dX7_codeAt_3 rfl ?_
  refine gx_imul C dX7_codeAt_4 ?_
  refine gx_lushr C dX7_codeAt_5 ?_
  refine gx_ldc2 (v := 255) C dX7_codeAt_6 kX7_256 ?_
  refine gx_land C dX7_codeAt_9 ?_
  refine gx_l2i C dX7_codeAt_10 ?_
  exact gx_iret C F rfl dX7_codeAt_11 (congrArg (fun z => (z, S)) (Option.some.inj h))
def m_ShopsAsOne_letters_66 (k8 : Int32 × Int32 × Int32 → Option (Int32 × gx_S)) (x1 : Int64) (x4 : Int32) (x5 : Int32) (s0 : Int32) (s1 : Int32) (S : gx_S) : Option (Int32 × gx_S) := k8 ((s0 + s1), x4, (x5 + 1))
set_option maxRecDepth 20000 in
set_option maxHeartbeats 1000000 in
theorem b_ShopsAsOne_letters_66 {Γ : gx_T} {ι : Nat → ClassId} {a : Nat → Nat} {out : Int32 × gx_S} (hx : gx_std vwCl (gty ι) (gx_cl Γ) (gx_ty Γ)) (C : gx_ok Γ cX7_letters RX7 gx_U 1) (F : gx_finI Γ ((Option.some Jvm.ClassFile.FieldType.int)) (wX a ι) out ∧ gx_nL Γ = 7) {k8 : Int32 × Int32 × Int32 → Option (Int32 × gx_S)} {x1 : Int64} {x4 : Int32} {x5 : Int32} {s0 : Int32} {s1 : Int32} {S : gx_S} (hk8 : ∀ (x37 : Int32) (x47 : Int32) (x57 : Int32), k8 (x37, x47, x57) = some out → gx_G Γ 0 0 8 [.ref (a 0), .long x1, .null, .int x37, .int x47, .int x57, .null] [] (wX a ι S)) (h : m_ShopsAsOne_letters_66 k8 x1 x4 x5 s0 s1 S = some out) : gx_G Γ 0 0 66 [.ref (a 0), .long x1, .null, .null, .int x4, .int x5, .null] [.int s1, .int s0] (wX a ι S) := by
  obtain ⟨F, hnL⟩ := F
  unfold m_ShopsAsOne_letters_66 at h
  refine gx_iadd C dX7_letters_66 ?_
  refine gx_istore_3 C dX7_letters_67 (by rw [hnL]; decide) trivial ?_
  refine gx_iinc1 C dX7_letters_68 rfl (by rw [hnL]; decide) trivial ?_
  refine gx_goto (tgt := 8) C dX7_letters_71 (by decide) ?_
  exact gx_weak (gx_le_k rfl (gx_le_k rfl (gx_le_n (gx_le_k rfl (gx_le_k rfl (gx_le_k rfl (gx_le_n gx_le_0))))))) (hk8 _ _ _ h)
def m_ShopsAsOne_letters_53 (k8 : Int32 × Int32 × Int32 → Option (Int32 × gx_S)) (x1 : Int64) (x3 : Int32) (x5 : Int32) (s0 : Int32) (S : gx_S) : Option (Int32 × gx_S) := if s0 = 0 then m_ShopsAsOne_letters_66 k8 x1 s0 x5 x3 1 S else m_ShopsAsOne_letters_66 k8 x1 s0 x5 x3 0 S
set_option maxRecDepth 20000 in
set_option maxHeartbeats 1000000 in
theorem b_ShopsAsOne_letters_53 {Γ : gx_T} {ι : Nat → ClassId} {a : Nat → Nat} {out : Int32 × gx_S} (hx : gx_std vwCl (gty ι) (gx_cl Γ) (gx_ty Γ)) (C : gx_ok Γ cX7_letters RX7 gx_U 1) (F : gx_finI Γ ((Option.some Jvm.ClassFile.FieldType.int)) (wX a ι) out ∧ gx_nL Γ = 7) {k8 : Int32 × Int32 × Int32 → Option (Int32 × gx_S)} {x1 : Int64} {x3 : Int32} {x5 : Int32} {s0 : Int32} {S : gx_S} (hk8 : ∀ (x37 : Int32) (x47 : Int32) (x57 : Int32), k8 (x37, x47, x57) = some out → gx_G Γ 0 0 8 [.ref (a 0), .long x1, .null, .int x37, .int x47, .int x57, .null] [] (wX a ι S)) (h : m_ShopsAsOne_letters_53 k8 x1 x3 x5 s0 S = some out) : gx_G Γ 0 0 53 [.ref (a 0), .long x1, .null, .int x3, .null, .int x5, .null] [.int s0] (wX a ι S) := by
  obtain ⟨F, hnL⟩ := F
  unfold m_ShopsAsOne_letters_53 at h
  refine gx_istore C dX7_letters_53 (by rw [hnL]; decide) trivial ?_
  refine gx_iload_3 C dX7_letters_55 rfl ?_
  refine gx_iload C dX7_letters_56 rfl ?_
  refine gx_if_eq (tgt := 65) C dX7_letters_58 (by decide) (fun hc1 => ?_) (fun hc1 => ?_)
  · have h := gi_t hc1 h
    refine gx_iconst1 C dX7_letters_65 ?_
    exact gx_weak (gx_le_k rfl (gx_le_k rfl (gx_le_n (gx_le_n (gx_le_k rfl (gx_le_k rfl (gx_le_n gx_le_0))))))) (b_ShopsAsOne_letters_66 hx C ⟨F, hnL⟩ hk8 h)
  · have h := gi_f hc1 h
    refine gx_iconst0 C dX7_letters_61 ?_
    refine gx_goto (tgt := 66) C dX7_letters_62 (by decide) ?_
    exact gx_weak (gx_le_k rfl (gx_le_k rfl (gx_le_n (gx_le_n (gx_le_k rfl (gx_le_k rfl (gx_le_n gx_le_0))))))) (b_ShopsAsOne_letters_66 hx C ⟨F, hnL⟩ hk8 h)
def m_ShopsAsOne_letters_43 (k8 : Int32 × Int32 × Int32 → Option (Int32 × gx_S)) (x1 : Int64) (x3 : Int32) (x5 : Int32) (x6 : Int32) (S : gx_S) : Option (Int32 × gx_S) := if x6 = 0 then m_ShopsAsOne_letters_53 k8 x1 x3 x5 1 S else m_ShopsAsOne_letters_53 k8 x1 x3 x5 0 S
set_option maxRecDepth 20000 in
set_option maxHeartbeats 1000000 in
theorem b_ShopsAsOne_letters_43 {Γ : gx_T} {ι : Nat → ClassId} {a : Nat → Nat} {out : Int32 × gx_S} (hx : gx_std vwCl (gty ι) (gx_cl Γ) (gx_ty Γ)) (C : gx_ok Γ cX7_letters RX7 gx_U 1) (F : gx_finI Γ ((Option.some Jvm.ClassFile.FieldType.int)) (wX a ι) out ∧ gx_nL Γ = 7) {k8 : Int32 × Int32 × Int32 → Option (Int32 × gx_S)} {x1 : Int64} {x3 : Int32} {x5 : Int32} {x6 : Int32} {S : gx_S} (hk8 : ∀ (x37 : Int32) (x47 : Int32) (x57 : Int32), k8 (x37, x47, x57) = some out → gx_G Γ 0 0 8 [.ref (a 0), .long x1, .null, .int x37, .int x47, .int x57, .null] [] (wX a ι S)) (h : m_ShopsAsOne_letters_43 k8 x1 x3 x5 x6 S = some out) : gx_G Γ 0 0 43 [.ref (a 0), .long x1, .null, .int x3, .null, .int x5, .int x6] [] (wX a ι S) := by
  obtain ⟨F, hnL⟩ := F
  unfold m_ShopsAsOne_letters_43 at h
  refine gx_iload C dX7_letters_43 rfl ?_
  refine gx_if_ne (tgt := 52) C dX7_letters_45 (by decide) (fun hc1 => ?_) (fun hc1 => ?_)
  · have h := gi_f hc1 h
    refine gx_iconst0 C dX7_letters_52 ?_
    exact gx_weak (gx_le_k rfl (gx_le_k rfl (gx_le_n (gx_le_k rfl (gx_le_n (gx_le_k rfl (gx_le_n gx_le_0))))))) (b_ShopsAsOne_letters_53 hx C ⟨F, hnL⟩ hk8 h)
  · have h := gi_t hc1 h
    refine gx_iconst1 C dX7_letters_48 ?_
    refine gx_goto (tgt := 53) C dX7_letters_49 (by decide) ?_
    exact gx_weak (gx_le_k rfl (gx_le_k rfl (gx_le_n (gx_le_k rfl (gx_le_n (gx_le_k rfl (gx_le_n gx_le_0))))))) (b_ShopsAsOne_letters_53 hx C ⟨F, hnL⟩ hk8 h)
def m_ShopsAsOne_letters_94 (x1 : Int64) (x3 : Int32) (t : Int32 × gx_S) (k94 : Int32 × gx_S → Option (Int32 × gx_S)) : Option (Int32 × gx_S) := match t with
  | (x5, S) => if x3 ≤ x5 then some (S 66 1, S) else gx_cp (m_ShopsAsOne_codeAt x1 x5 S) fun v2 => gx_cp (m_Text_append 0 ((v2.toUInt32 % 65536).toInt32) S) fun S4 => k94 ((x5 + 1), S4)
set_option maxRecDepth 20000 in
set_option maxHeartbeats 1000000 in
theorem b_ShopsAsOne_letters_94 {Γ : gx_T} {ι : Nat → ClassId} {a : Nat → Nat} {out : Int32 × gx_S} (hx : gx_std vwCl (gty ι) (gx_cl Γ) (gx_ty Γ)) (C : gx_ok Γ cX7_letters RX7 gx_U 1) (F : gx_finI Γ ((Option.some Jvm.ClassFile.FieldType.int)) (wX a ι) out ∧ gx_nL Γ = 7) {k94 : Int32 × gx_S → Option (Int32 × gx_S)} {x1 : Int64} {x3 : Int32} {x5 : Int32} {S : gx_S} (hk94 : ∀ (x57 : Int32) (S7 : gx_S), k94 (x57, S7) = some out → gx_G Γ 0 0 94 [.ref (a 0), .long x1, .null, .int x3, .null, .int x57, .null] [] (wX a ι S7)) (h : m_ShopsAsOne_letters_94 x1 x3 (x5, S) k94 = some out) : gx_G Γ 0 0 94 [.ref (a 0), .long x1, .null, .int x3, .null, .int x5, .null] [] (wX a ι S) := by
  obtain ⟨F, hnL⟩ := F
  unfold m_ShopsAsOne_letters_94 at h
  dsimp only at h
  refine gx_iload C dX7_letters_94 rfl ?_
  refine gx_iload_3 C dX7_letters_96 rfl ?_
  refine gx_icmp_ge (tgt := 120) C dX7_letters_97 (by decide) (fun hc5 => ?_) (fun hc5 => ?_)
  · have h := gi_t hc5 h
    refine gx_aload_0 C dX7_letters_120 rfl ?_
    refine gs_getf (q := 0) C fl_X7_50 (cls_X7 hx) lt_X_ShopsAsOne (oc_X_ShopsAsOne a ι _) rfl dX7_letters_121 ?_
    refine gs_getf (q := 66) C fl_X7_249 (cls_X6 hx) (lt_X_Text (q := 0) (by decide)) (oc_X_Text a ι _ (q := 0) (by decide)) rfl dX7_letters_124 ?_
    exact gx_iret C F rfl dX7_letters_127 (Option.some.inj h)
  · have h := gi_f hc5 h
    refine gx_aload_0 C dX7_letters_100 rfl ?_
    refine gs_getf (q := 0) C fl_X7_50 (cls_X7 hx) lt_X_ShopsAsOne (oc_X_ShopsAsOne a ι _) rfl dX7_letters_101 ?_
    refine gx_lload_1 C dX7_letters_104 rfl ?_
    refine gx_iload C dX7_letters_105 rfl ?_
    obtain ⟨v2, e1, h⟩ := gi_cp h
    refine gc_IS C (c_ShopsAsOne_codeAt (gx_l Γ) (gx_D Γ) hx a _ _ _ e1) (gx_cwS C gx_uu lk_X7_245 (by decide) (by decide)) rfl rfl (Nat.le_of_ble_eq_true rfl) ⟨Nat.zero_le _, Nat.zero_le _⟩ dX7_letters_107 ?_
    refine gx_i2c C dX7_letters_110 ?_
    obtain ⟨S4, e3, h⟩ := gi_cp h
    refine gc_VV C (c_Text_append (gx_l Γ) (gx_D Γ) hx a (r := 0) (by decide) _ _ e3) (gx_cw C gx_uu lk_X7_252 (by decide) (by decide)) (cls_X6 hx).1 (gs_recv (q := 66) (lt_X_Text (q := 0) (by decide)) (oc_X_Text a ι _ (q := 0) (by decide))) rfl rfl (Nat.le_of_ble_eq_true rfl) ⟨Nat.zero_le _, Nat.zero_le _⟩ dX7_letters_111 ?_
    refine gx_iinc1 C dX7_letters_114 rfl (by rw [hnL]; decide) trivial ?_
    refine gx_goto (tgt := 94) C dX7_letters_117 (by decide) ?_
    exact gx_weak (gx_le_k rfl (gx_le_k rfl (gx_le_n (gx_le_k rfl (gx_le_n (gx_le_k rfl (gx_le_n gx_le_0))))))) (hk94 _ _ h)
def m_ShopsAsOne_letters_8 (x1 : Int64) (S : gx_S) (t : Int32 × Int32 × Int32) (k8 : Int32 × Int32 × Int32 → Option (Int32 × gx_S)) : Option (Int32 × gx_S) := match t with
  | (x3, x4, x5) => if 8 ≤ x5 then if ((S 66 1) + x3) ≤ 50 then gx_loop (m_ShopsAsOne_letters_94 x1 x3) 5000 (0, S) else some ((-104), S) else gx_cp (m_ShopsAsOne_codeAt x1 x5 S) fun v3 => if 126 < v3 then some ((-102), S) else if x4 = 0 then m_ShopsAsOne_letters_43 k8 x1 x3 x5 v3 S else if v3 = 0 then m_ShopsAsOne_letters_43 k8 x1 x3 x5 v3 S else some ((-102), S)
set_option maxRecDepth 20000 in
set_option maxHeartbeats 1000000 in
theorem b_ShopsAsOne_letters_8 {Γ : gx_T} {ι : Nat → ClassId} {a : Nat → Nat} {out : Int32 × gx_S} (hx : gx_std vwCl (gty ι) (gx_cl Γ) (gx_ty Γ)) (C : gx_ok Γ cX7_letters RX7 gx_U 1) (F : gx_finI Γ ((Option.some Jvm.ClassFile.FieldType.int)) (wX a ι) out ∧ gx_nL Γ = 7) {k8 : Int32 × Int32 × Int32 → Option (Int32 × gx_S)} {x1 : Int64} {x3 : Int32} {x4 : Int32} {x5 : Int32} {S : gx_S} (hk8 : ∀ (x37 : Int32) (x47 : Int32) (x57 : Int32), k8 (x37, x47, x57) = some out → gx_G Γ 0 0 8 [.ref (a 0), .long x1, .null, .int x37, .int x47, .int x57, .null] [] (wX a ι S)) (h : m_ShopsAsOne_letters_8 x1 S (x3, x4, x5) k8 = some out) : gx_G Γ 0 0 8 [.ref (a 0), .long x1, .null, .int x3, .int x4, .int x5, .null] [] (wX a ι S) := by
  obtain ⟨F, hnL⟩ := F
  unfold m_ShopsAsOne_letters_8 at h
  dsimp only at h
  refine gx_iload C dX7_letters_8 rfl ?_
  refine gx_bipush (v := 8) C dX7_letters_10 (by decide) ?_
  refine gx_icmp_ge (tgt := 74) C dX7_letters_12 (by decide) (fun hc7 => ?_) (fun hc7 => ?_)
  · have h := gi_t hc7 h
    refine gx_aload_0 C dX7_letters_74 rfl ?_
    refine gs_getf (q := 0) C fl_X7_50 (cls_X7 hx) lt_X_ShopsAsOne (oc_X_ShopsAsOne a ι _) rfl dX7_letters_75 ?_
    refine gs_getf (q := 66) C fl_X7_249 (cls_X6 hx) (lt_X_Text (q := 0) (by decide)) (oc_X_Text a ι _ (q := 0) (by decide)) rfl dX7_letters_78 ?_
    refine gx_iload_3 C dX7_letters_81 rfl ?_
    refine gx_iadd C dX7_letters_82 ?_
    refine gx_bipush (v := 50) C dX7_letters_83 (by decide) ?_
    refine gx_icmp_le (tgt := 91) C dX7_letters_85 (by decide) (fun hc1 => ?_) (fun hc1 => ?_)
    · have h := gi_t hc1 h
      refine gx_iconst0 C dX7_letters_91 ?_
      refine gx_istore C dX7_letters_92 (by rw [hnL]; decide) trivial ?_
      refine gx_weak (gx_le_k rfl (gx_le_k rfl (gx_le_n (gx_le_k rfl (gx_le_n (gx_le_k rfl (gx_le_n gx_le_0))))))) (gi_loop (P := fun t => gx_G Γ 0 0 94 [.ref (a 0), .long x1, .null, .int x3, .null, .int t.1, .null] [] (wX a ι t.2)) (fun kk t hk h => ?_) 5000 _ h)
      obtain ⟨x59, S'9⟩ := t
      exact b_ShopsAsOne_letters_94 hx C ⟨F, hnL⟩ (k94 := kk) (fun x58 S'8 h => hk (x58, S'8) h) h
    · have h := gi_f hc1 h
      refine gx_bipush (v := (-104)) C dX7_letters_88 (by decide) ?_
      exact gx_iret C F rfl dX7_letters_90 (Option.some.inj h)
  · have h := gi_f hc7 h
    refine gx_lload_1 C dX7_letters_15 rfl ?_
    refine gx_iload C dX7_letters_16 rfl ?_
    obtain ⟨v3, e2, h⟩ := gi_cp h
    refine gc_IS C (c_ShopsAsOne_codeAt (gx_l Γ) (gx_D Γ) hx a _ _ _ e2) (gx_cwS C gx_uu lk_X7_245 (by decide) (by decide)) rfl rfl (Nat.le_of_ble_eq_true rfl) ⟨Nat.zero_le _, Nat.zero_le _⟩ dX7_letters_18 ?_
    refine gx_istore C dX7_letters_21 (by rw [hnL]; decide) trivial ?_
    refine gx_iload C dX7_letters_23 rfl ?_
    refine gx_bipush (v := 126) C dX7_letters_25 (by decide) ?_
    refine gx_icmp_gt (tgt := 40) C dX7_letters_27 (by decide) (fun hc6 => ?_) (fun hc6 => ?_)
    · have h := gi_t hc6 h
      refine gx_bipush (v := (-102)) C dX7_letters_40 (by decide) ?_
      exact gx_iret C F rfl dX7_letters_42 (Option.some.inj h)
    · have h := gi_f hc6 h
      refine gx_iload C dX7_letters_30 rfl ?_
      refine gx_if_eq (tgt := 43) C dX7_letters_32 (by decide) (fun hc5 => ?_) (fun hc5 => ?_)
      · have h := gi_t hc5 h
        exact gx_weak (gx_le_k rfl (gx_le_k rfl (gx_le_n (gx_le_k rfl (gx_le_n (gx_le_k rfl (gx_le_k rfl gx_le_0))))))) (b_ShopsAsOne_letters_43 hx C ⟨F, hnL⟩ hk8 h)
      · have h := gi_f hc5 h
        refine gx_iload C dX7_letters_35 rfl ?_
        refine gx_if_eq (tgt := 43) C dX7_letters_37 (by decide) (fun hc4 => ?_) (fun hc4 => ?_)
        · have h := gi_t hc4 h
          exact gx_weak (gx_le_k rfl (gx_le_k rfl (gx_le_n (gx_le_k rfl (gx_le_n (gx_le_k rfl (gx_le_k rfl gx_le_0))))))) (b_ShopsAsOne_letters_43 hx C ⟨F, hnL⟩ hk8 h)
        · have h := gi_f hc4 h
          refine gx_bipush (v := (-102)) C dX7_letters_40 (by decide) ?_
          exact gx_iret C F rfl dX7_letters_42 (Option.some.inj h)
def m_ShopsAsOne_letters (x1 : Int64) (S : gx_S) : Option (Int32 × gx_S) := gx_loop (m_ShopsAsOne_letters_8 x1 S) 5000 (0, 0, 0)
set_option maxRecDepth 20000 in
set_option maxHeartbeats 1000000 in
theorem c_ShopsAsOne_letters (l : Launch) (D : va_G) {cl : List vw_C} {tys : List (ClassId × FieldType)} {ι : Nat → ClassId} (hx : gx_std vwCl (gty ι) cl tys) (a : Nat → Nat) (x1 : Int64) (S : gx_S) {out : Int32 × gx_S} (h : m_ShopsAsOne_letters x1 S = some out) : gx_mI l D cl tys yX7_letters (.code yX7_letters cX7_letters 7 ((Option.some Jvm.ClassFile.FieldType.int)) :: gx_U) (gx_rm 1) [.ref (a 0), .long x1] (wX a ι S) (wX a ι) out := by
  unfold m_ShopsAsOne_letters at h
  refine gx_startI (V := [.ref (a 0), .long x1, .null, .null, .null, .null, .null]) 4 (by decide +kernel) (Nat.le_of_ble_eq_true rfl) rfl (fun Γ hl hD hcl hty hnL C F => ?_)
  subst hl; subst hD; subst hcl; subst hty
  refine gx_iconst0 C dX7_letters_0 ?_
  refine gx_istore_3 C dX7_letters_1 (by rw [hnL]; decide) trivial ?_
  refine gx_iconst0 C dX7_letters_2 ?_
  refine gx_istore C dX7_letters_3 (by rw [hnL]; decide) trivial ?_
  refine gx_iconst0 C dX7_letters_5 ?_
  refine gx_istore C dX7_letters_6 (by rw [hnL]; decide) trivial ?_
  refine gx_weak (gx_le_k rfl (gx_le_k rfl (gx_le_n (gx_le_k rfl (gx_le_k rfl (gx_le_k rfl (gx_le_n gx_le_0))))))) (gi_loop (P := fun t => gx_G Γ 0 0 8 [.ref (a 0), .long x1, .null, .int t.1, .int t.2.1, .int t.2.2, .null] [] (wX a ι S)) (fun kk t hk h => ?_) 5000 _ h)
  obtain ⟨x39, x49, x59⟩ := t
  exact b_ShopsAsOne_letters_8 hx C ⟨F, hnL⟩ (k8 := kk) (fun x38 x48 x58 h => hk (x38, x48, x58) h) h
def m_ShopsAsOne_blank (S : gx_S) : Option (Int32 × gx_S) := gx_let (gx_st S 66 1 0) fun S1 => some (S 66 1, S1)
set_option maxRecDepth 20000 in
set_option maxHeartbeats 1000000 in
theorem c_ShopsAsOne_blank (l : Launch) (D : va_G) {cl : List vw_C} {tys : List (ClassId × FieldType)} {ι : Nat → ClassId} (hx : gx_std vwCl (gty ι) cl tys) (a : Nat → Nat) (S : gx_S) {out : Int32 × gx_S} (h : m_ShopsAsOne_blank  S = some out) : gx_mI l D cl tys yX7_blank (.code yX7_blank cX7_blank 2 ((Option.some Jvm.ClassFile.FieldType.int)) :: gx_U) (gx_rm 0) [.ref (a 0)] (wX a ι S) (wX a ι) out := by
  unfold m_ShopsAsOne_blank at h
  refine gx_startI (V := [.ref (a 0), .null]) 1 (by decide +kernel) (Nat.le_of_ble_eq_true rfl) rfl (fun Γ hl hD hcl hty hnL C F => ?_)
  subst hl; subst hD; subst hcl; subst hty
  refine gx_aload_0 C dX7_blank_0 rfl ?_
  refine gs_getf (q := 0) C fl_X7_50 (cls_X7 hx) lt_X_ShopsAsOne (oc_X_ShopsAsOne a ι _) rfl dX7_blank_1 ?_
  refine gs_getf (q := 66) C fl_X7_249 (cls_X6 hx) (lt_X_Text (q := 0) (by decide)) (oc_X_Text a ι _ (q := 0) (by decide)) rfl dX7_blank_4 ?_
  refine gx_istore_1 C dX7_blank_7 (by rw [hnL]; decide) trivial ?_
  refine gx_aload_0 C dX7_blank_8 rfl ?_
  refine gs_getf (q := 0) C fl_X7_50 (cls_X7 hx) lt_X_ShopsAsOne (oc_X_ShopsAsOne a ι _) rfl dX7_blank_9 ?_
  refine gx_iconst0 C dX7_blank_12 ?_
  obtain ⟨S1, e2, h⟩ := gi_let h
  refine gs_puti (q := 66) C fl_X7_249 (cls_X6 hx) (lt_X_Text (q := 0) (by decide)) (oc_X_Text a ι _ (q := 0) (by decide)) (oc_X_Text a ι _ (q := 0) (by decide)) rfl rfl rfl (Nat.le_of_ble_eq_true rfl) e2 dX7_blank_13 ?_
  refine gx_iload_1 C dX7_blank_16 rfl ?_
  exact gx_iret C F rfl dX7_blank_17 (Option.some.inj h)
def m_ShopsAsOne_fault (S : gx_S) : Option (Int32 × gx_S) := gx_cs (m_Grammar_firstFault 0 S) fun v3 S2 => some (v3, S2)
set_option maxRecDepth 20000 in
set_option maxHeartbeats 1000000 in
theorem c_ShopsAsOne_fault (l : Launch) (D : va_G) {cl : List vw_C} {tys : List (ClassId × FieldType)} {ι : Nat → ClassId} (hx : gx_std vwCl (gty ι) cl tys) (a : Nat → Nat) (S : gx_S) {out : Int32 × gx_S} (h : m_ShopsAsOne_fault  S = some out) : gx_mI l D cl tys yX7_fault (.code yX7_fault cX7_fault 1 ((Option.some Jvm.ClassFile.FieldType.int)) :: gx_U) (gx_rm 4) [.ref (a 0)] (wX a ι S) (wX a ι) out := by
  unfold m_ShopsAsOne_fault at h
  refine gx_startI (V := [.ref (a 0)]) 0 (by decide +kernel) (Nat.le_of_ble_eq_true rfl) rfl (fun Γ hl hD hcl hty hnL C F => ?_)
  subst hl; subst hD; subst hcl; subst hty
  refine gx_aload_0 C dX7_fault_0 rfl ?_
  refine gs_getf (q := 0) C fl_X7_61 (cls_X7 hx) lt_X_ShopsAsOne (oc_X_ShopsAsOne a ι _) rfl dX7_fault_1 ?_
  refine gx_aload_0 C dX7_fault_4 rfl ?_
  refine gs_getf (q := 0) C fl_X7_50 (cls_X7 hx) lt_X_ShopsAsOne (oc_X_ShopsAsOne a ι _) rfl dX7_fault_5 ?_
  obtain ⟨v3, S2, e1, h⟩ := gi_cs h
  refine gc_IV C (c_Grammar_firstFault (gx_l Γ) (gx_D Γ) hx a (r1 := 0) (by decide) _ e1) (gx_cw C gx_uu lk_X7_258 (by decide) (by decide)) (cls_X1 hx).1 (gs_recv (q := 76) lt_X_Grammar (oc_X_Grammar a ι _)) rfl rfl (Nat.le_of_ble_eq_true rfl) ⟨Nat.zero_le _, Nat.zero_le _⟩ dX7_fault_8 ?_
  exact gx_iret C F rfl dX7_fault_11 (Option.some.inj h)
def m_ShopsAsOne_test (S : gx_S) : Option (Int32 × gx_S) := gx_cs (m_Grammar_isTest 0 S) fun v3 S2 => if v3 = 0 then some ((-103), S2) else if (S2 0 10) < 4 then gx_ck 4 (S2 0 10) (gx_cp (m_Text_become (1 + (S2 0 10).toNatClampNeg) 0 S2) fun S6 => gx_let (gx_st S6 66 1 0) fun S7 => gx_let (gx_st S7 0 10 ((S7 0 10) + (1 : Int32))) fun S9 => some ((S9 0 10) - (1 : Int32), S9)) else some ((-104), S2)
set_option maxRecDepth 20000 in
set_option maxHeartbeats 1000000 in
theorem c_ShopsAsOne_test (l : Launch) (D : va_G) {cl : List vw_C} {tys : List (ClassId × FieldType)} {ι : Nat → ClassId} (hx : gx_std vwCl (gty ι) cl tys) (a : Nat → Nat) (S : gx_S) {out : Int32 × gx_S} (h : m_ShopsAsOne_test  S = some out) : gx_mI l D cl tys yX7_test (.code yX7_test cX7_test 1 ((Option.some Jvm.ClassFile.FieldType.int)) :: gx_U) (gx_rm 5) [.ref (a 0)] (wX a ι S) (wX a ι) out := by
  unfold m_ShopsAsOne_test at h
  refine gx_startI (V := [.ref (a 0)]) 0 (by decide +kernel) (Nat.le_of_ble_eq_true rfl) rfl (fun Γ hl hD hcl hty hnL C F => ?_)
  subst hl; subst hD; subst hcl; subst hty
  refine gx_aload_0 C dX7_test_0 rfl ?_
  refine gs_getf (q := 0) C fl_X7_61 (cls_X7 hx) lt_X_ShopsAsOne (oc_X_ShopsAsOne a ι _) rfl dX7_test_1 ?_
  refine gx_aload_0 C dX7_test_4 rfl ?_
  refine gs_getf (q := 0) C fl_X7_50 (cls_X7 hx) lt_X_ShopsAsOne (oc_X_ShopsAsOne a ι _) rfl dX7_test_5 ?_
  obtain ⟨v3, S2, e1, h⟩ := gi_cs h
  refine gc_IV C (c_Grammar_isTest (gx_l Γ) (gx_D Γ) hx a (r1 := 0) (by decide) _ e1) (gx_cw C gx_uu lk_X7_262 (by decide) (by decide)) (cls_X1 hx).1 (gs_recv (q := 76) lt_X_Grammar (oc_X_Grammar a ι _)) rfl rfl (Nat.le_of_ble_eq_true rfl) ⟨Nat.zero_le _, Nat.zero_le _⟩ dX7_test_8 ?_
  refine gx_if_ne (tgt := 17) C dX7_test_11 (by decide) (fun hc12 => ?_) (fun hc12 => ?_)
  · have h := gi_f hc12 h
    refine gx_aload_0 C dX7_test_17 rfl ?_
    refine gs_getf (q := 0) C fl_X7_266 (cls_X7 hx) lt_X_ShopsAsOne (oc_X_ShopsAsOne a ι _) rfl dX7_test_18 ?_
    refine gx_aload_0 C dX7_test_21 rfl ?_
    refine gs_getf (q := 0) C fl_X7_54 (cls_X7 hx) lt_X_ShopsAsOne (oc_X_ShopsAsOne a ι _) rfl dX7_test_22 ?_
    refine gs_alenq (q := 65) (v := 4) C (aq_X_tests hx a) lt_X_tests (by decide) dX7_test_25 ?_
    refine gx_icmp_lt (tgt := 32) C dX7_test_26 (by decide) (fun hc11 => ?_) (fun hc11 => ?_)
    · have h := gi_t hc11 h
      refine gx_aload_0 C dX7_test_32 rfl ?_
      refine gs_getf (q := 0) C fl_X7_54 (cls_X7 hx) lt_X_ShopsAsOne (oc_X_ShopsAsOne a ι _) rfl dX7_test_33 ?_
      refine gx_aload_0 C dX7_test_36 rfl ?_
      refine gs_getf (q := 0) C fl_X7_266 (cls_X7 hx) lt_X_ShopsAsOne (oc_X_ShopsAsOne a ι _) rfl dX7_test_37 ?_
      obtain ⟨hi4, h⟩ := gi_ck h
      refine gs_aald (q := 65) C (aq_X_tests hx a) rfl lt_X_tests hi4 (aqf_X_tests a (gx_in_lt hi4)) dX7_test_40 ?_
      refine gx_aload_0 C dX7_test_41 rfl ?_
      refine gs_getf (q := 0) C fl_X7_50 (cls_X7 hx) lt_X_ShopsAsOne (oc_X_ShopsAsOne a ι _) rfl dX7_test_42 ?_
      obtain ⟨S6, e5, h⟩ := gi_cp h
      refine gc_VV C (c_Text_become (gx_l Γ) (gx_D Γ) hx a (r := (1 + (S2 0 10).toNatClampNeg)) (r1 := 0) (Nat.add_lt_add_left (gx_in_lt hi4) 1) (by decide) _ e5) (gx_cw C gx_uu lk_X7_269 (by decide) (by decide)) (cls_X6 hx).1 (gs_recv (q := (66 + 2 * (1 + (S2 0 10).toNatClampNeg))) (lt_X_Text (q := (1 + (S2 0 10).toNatClampNeg)) (Nat.add_lt_add_left (gx_in_lt hi4) 1)) (oc_X_Text a ι _ (q := (1 + (S2 0 10).toNatClampNeg)) (Nat.add_lt_add_left (gx_in_lt hi4) 1))) rfl rfl (Nat.le_of_ble_eq_true rfl) ⟨Nat.zero_le _, Nat.zero_le _⟩ dX7_test_45 ?_
      refine gx_aload_0 C dX7_test_48 rfl ?_
      refine gs_getf (q := 0) C fl_X7_50 (cls_X7 hx) lt_X_ShopsAsOne (oc_X_ShopsAsOne a ι _) rfl dX7_test_49 ?_
      refine gx_iconst0 C dX7_test_52 ?_
      obtain ⟨S7, e8, h⟩ := gi_let h
      refine gs_puti (q := 66) C fl_X7_249 (cls_X6 hx) (lt_X_Text (q := 0) (by decide)) (oc_X_Text a ι _ (q := 0) (by decide)) (oc_X_Text a ι _ (q := 0) (by decide)) rfl rfl rfl (Nat.le_of_ble_eq_true rfl) e8 dX7_test_53 ?_
      refine gx_aload_0 C dX7_test_56 rfl ?_
      refine gx_dup C dX7_test_57 rfl ?_
      refine gs_getf (q := 0) C fl_X7_266 (cls_X7 hx) lt_X_ShopsAsOne (oc_X_ShopsAsOne a ι _) rfl dX7_test_58 ?_
      refine gx_iconst1 C dX7_test_61 ?_
      refine gx_iadd C dX7_test_62 ?_
      obtain ⟨S9, e10, h⟩ := gi_let h
      refine gs_puti (q := 0) C fl_X7_266 (cls_X7 hx) lt_X_ShopsAsOne (oc_X_ShopsAsOne a ι _) (oc_X_ShopsAsOne a ι _) rfl rfl rfl (Nat.le_of_ble_eq_true rfl) e10 dX7_test_63 ?_
      refine gx_aload_0 C dX7_test_66 rfl ?_
      refine gs_getf (q := 0) C fl_X7_266 (cls_X7 hx) lt_X_ShopsAsOne (oc_X_ShopsAsOne a ι _) rfl dX7_test_67 ?_
      refine gx_iconst1 C dX7_test_70 ?_
      refine gx_isub C dX7_test_71 ?_
      exact gx_iret C F rfl dX7_test_72 (Option.some.inj h)
    · have h := gi_f hc11 h
      refine gx_bipush (v := (-104)) C dX7_test_29 (by decide) ?_
      exact gx_iret C F rfl dX7_test_31 (Option.some.inj h)
  · have h := gi_t hc12 h
    refine gx_bipush (v := (-103)) C dX7_test_14 (by decide) ?_
    exact gx_iret C F rfl dX7_test_16 (Option.some.inj h)

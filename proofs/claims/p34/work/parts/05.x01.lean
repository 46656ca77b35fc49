def m_Street_costTo (x1 : Int32) (x2 : Int32) (S : gx_S) : Option (Int32) := gx_ck 6 x1 (if (S 2 x1.toNatClampNeg) = 3 then gx_ck 6 x2 (some (if (0 : Int32) < ((S 5 x2.toNatClampNeg) - (S 3 x1.toNatClampNeg)) then ((S 5 x2.toNatClampNeg) - (S 3 x1.toNatClampNeg)) else (0 : Int32))) else gx_ck 6 x2 (some (S 5 x2.toNatClampNeg)))
set_option maxRecDepth 20000 in
set_option maxHeartbeats 1000000 in
theorem c_Street_costTo (l : Launch) (D : va_G) {cl : List vw_C} {tys : List (ClassId × FieldType)} {ι : Nat → ClassId} (hx : gx_std vwCl (gty ι) cl tys) (a : Nat → Nat) (x1 : Int32) (x2 : Int32) (S : gx_S) {out : Int32} (h : m_Street_costTo x1 x2 S = some out) : gx_mI l D cl tys yX5_costTo (.code yX5_costTo cX5_costTo 3 ((Option.some Jvm.ClassFile.FieldType.int)) :: gx_U) (gx_rm 1) [.ref (a 1), .int x1, .int x2] (wX a ι S) (wX a ι) (out, S) := by
  unfold m_Street_costTo at h
  refine gx_startI (V := [.ref (a 1), .int x1, .int x2]) 0 (by decide +kernel) (Nat.le_of_ble_eq_true rfl) rfl (fun Γ hl hD hcl hty hnL C F => ?_)
  subst hl; subst hD; subst hcl; subst hty
  refine gx_aload_0 C dX5_costTo_0 rfl ?_
  refine gs_getf (q := 1) C fl_X5_9 (cls_X5 hx) lt_X_Street (oc_X_Street a ι _) rfl dX5_costTo_1 ?_
  refine gx_iload_1 C dX5_costTo_4 rfl ?_
  obtain ⟨hi1, h⟩ := gi_ck h
  refine gs_iald (q := 2) C (ac_X_Street_kind hx a) lt_X_Street_kind hi1 dX5_costTo_5 ?_
  refine gx_iconst3 C dX5_costTo_6 ?_
  refine gx_icmp_ne (tgt := 30) C dX5_costTo_7 (by decide) (fun hc4 => ?_) (fun hc4 => ?_)
  · have h := gi_f hc4 h
    refine gx_aload_0 C dX5_costTo_30 rfl ?_
    refine gs_getf (q := 1) C fl_X5_21 (cls_X5 hx) lt_X_Street (oc_X_Street a ι _) rfl dX5_costTo_31 ?_
    refine gx_iload_2 C dX5_costTo_34 rfl ?_
    obtain ⟨hi2, h⟩ := gi_ck h
    refine gs_iald (q := 5) C (ac_X_Street_cost hx a) lt_X_Street_cost hi2 dX5_costTo_35 ?_
    exact gx_iret C F rfl dX5_costTo_36 (congrArg (fun z => (z, S)) (Option.some.inj h))
  · have h := gi_t hc4 h
    refine gx_iconst0 C dX5_costTo_10 ?_
    refine gx_aload_0 C dX5_costTo_11 rfl ?_
    refine gs_getf (q := 1) C fl_X5_21 (cls_X5 hx) lt_X_Street (oc_X_Street a ι _) rfl dX5_costTo_12 ?_
    refine gx_iload_2 C dX5_costTo_15 rfl ?_
    obtain ⟨hi3, h⟩ := gi_ck h
    refine gs_iald (q := 5) C (ac_X_Street_cost hx a) lt_X_Street_cost hi3 dX5_costTo_16 ?_
    refine gx_aload_0 C dX5_costTo_17 rfl ?_
    refine gs_getf (q := 1) C fl_X5_15 (cls_X5 hx) lt_X_Street (oc_X_Street a ι _) rfl dX5_costTo_18 ?_
    refine gx_iload_1 C dX5_costTo_21 rfl ?_
    refine gs_iald (q := 3) C (ac_X_Street_n hx a) lt_X_Street_n hi1 dX5_costTo_22 ?_
    refine gx_isub C dX5_costTo_23 ?_
    refine gx_mmax C (by decide) lk_X5_67 (Nat.le_of_ble_eq_true rfl) ⟨Nat.zero_le _, Nat.zero_le _⟩ dX5_costTo_24 ?_
    refine gx_goto (tgt := 36) C dX5_costTo_27 (by decide) ?_
    exact gx_iret C F rfl dX5_costTo_36 (congrArg (fun z => (z, S)) (Option.some.inj h))
def m_Bests_listShops_89 (r1 : Nat) (k7 : Int32 × gx_S → Option (gx_S)) (x2 : Int32) (x3 : Int32) (S : gx_S) : Option (gx_S) := k7 ((x3 + 1), S)
set_option maxRecDepth 20000 in
set_option maxHeartbeats 1000000 in
theorem b_Bests_listShops_89 {Γ : gx_T} {ι : Nat → ClassId} {a : Nat → Nat} {r1 : Nat} {out : gx_S} (hx : gx_std vwCl (gty ι) (gx_cl Γ) (gx_ty Γ)) (hr1 : r1 < 5) (C : gx_ok Γ cX0_listShops RX0 gx_U 2) (F : gx_finV Γ ((Option.none : Option Jvm.ClassFile.FieldType)) (wX a ι) out ∧ gx_nL Γ = 4) {k7 : Int32 × gx_S → Option (gx_S)} {x2 : Int32} {x3 : Int32} {S : gx_S} (hk7 : ∀ (x37 : Int32) (S7 : gx_S), k7 (x37, S7) = some out → gx_G Γ 0 0 7 [.ref (a 41), .ref (a (21 + 4 * r1)), .int x2, .int x37] [] (wX a ι S7)) (h : m_Bests_listShops_89 r1 k7 x2 x3 S = some out) : gx_G Γ 0 0 89 [.ref (a 41), .ref (a (21 + 4 * r1)), .int x2, .int x3] [] (wX a ι S) := by
  obtain ⟨F, hnL⟩ := F
  unfold m_Bests_listShops_89 at h
  refine gx_iinc1 C dX0_listShops_89 rfl (by rw [hnL]; decide) trivial ?_
  refine gx_goto (tgt := 7) C dX0_listShops_92 (by decide) ?_
  exact gx_weak (gx_le_k rfl (gx_le_k rfl (gx_le_k rfl (gx_le_k rfl gx_le_0)))) (hk7 _ _ h)
def m_Bests_listShops_7 (r1 : Nat) (x2 : Int32) (t : Int32 × gx_S) (k7 : Int32 × gx_S → Option (gx_S)) : Option (gx_S) := match t with
  | (x3, S) => if (S 1 1) ≤ x3 then some S else if 3 ≤ (S 41 5) then some S else gx_ck 6 x3 (if (S (21 + 4 * r1 + 2) x3.toNatClampNeg) = x2 then gx_ck 3 (S 41 5) (gx_let (gx_st S 42 (S 41 5).toNatClampNeg x3) fun S3 => gx_cp (m_Street_costTo x2 x3 S3) fun v6 => gx_ck 3 (S3 41 5) (gx_let (gx_st S3 43 (S3 41 5).toNatClampNeg v6) fun S8 => gx_ck 3 (S8 41 5) (gx_let (gx_st S8 45 (S8 41 5).toNatClampNeg (S8 (21 + 4 * r1 + 1) x3.toNatClampNeg)) fun S11 => gx_let (gx_st S11 41 5 ((S11 41 5) + (1 : Int32))) fun S13 => m_Bests_listShops_89 r1 k7 x2 x3 S13))) else m_Bests_listShops_89 r1 k7 x2 x3 S)
set_option maxRecDepth 20000 in
set_option maxHeartbeats 1000000 in
theorem b_Bests_listShops_7 {Γ : gx_T} {ι : Nat → ClassId} {a : Nat → Nat} {r1 : Nat} {out : gx_S} (hx : gx_std vwCl (gty ι) (gx_cl Γ) (gx_ty Γ)) (hr1 : r1 < 5) (C : gx_ok Γ cX0_listShops RX0 gx_U 2) (F : gx_finV Γ ((Option.none : Option Jvm.ClassFile.FieldType)) (wX a ι) out ∧ gx_nL Γ = 4) {k7 : Int32 × gx_S → Option (gx_S)} {x2 : Int32} {x3 : Int32} {S : gx_S} (hk7 : ∀ (x37 : Int32) (S7 : gx_S), k7 (x37, S7) = some out → gx_G Γ 0 0 7 [.ref (a 41), .ref (a (21 + 4 * r1)), .int x2, .int x37] [] (wX a ι S7)) (h : m_Bests_listShops_7 r1 x2 (x3, S) k7 = some out) : gx_G Γ 0 0 7 [.ref (a 41), .ref (a (21 + 4 * r1)), .int x2, .int x3] [] (wX a ι S) := by
  obtain ⟨F, hnL⟩ := F
  unfold m_Bests_listShops_7 at h
  dsimp only at h
  refine gx_iload_3 C dX0_listShops_7 rfl ?_
  refine gx_aload_0 C dX0_listShops_8 rfl ?_
  refine gs_getf (q := 41) C fl_X0_41 (cls_X0 hx) lt_X_Bests (oc_X_Bests a ι _) rfl dX0_listShops_9 ?_
  refine gs_getf (q := 1) C fl_X0_102 (cls_X5 hx) lt_X_Street (oc_X_Street a ι _) rfl dX0_listShops_12 ?_
  refine gx_icmp_ge (tgt := 95) C dX0_listShops_15 (by decide) (fun hc17 => ?_) (fun hc17 => ?_)
  · have h := gi_t hc17 h
    exact gx_vret C F dX0_listShops_95 (Option.some.inj h)
  · have h := gi_f hc17 h
    refine gx_aload_0 C dX0_listShops_18 rfl ?_
    refine gs_getf (q := 41) C fl_X0_59 (cls_X0 hx) lt_X_Bests (oc_X_Bests a ι _) rfl dX0_listShops_19 ?_
    refine gx_iconst3 C dX0_listShops_22 ?_
    refine gx_icmp_ge (tgt := 95) C dX0_listShops_23 (by decide) (fun hc16 => ?_) (fun hc16 => ?_)
    · have h := gi_t hc16 h
      exact gx_vret C F dX0_listShops_95 (Option.some.inj h)
    · have h := gi_f hc16 h
      refine gx_aload_1 C dX0_listShops_26 rfl ?_
      refine gs_getf (q := (21 + 4 * r1)) C fl_X0_105 (cls_X4 hx) (lt_X_Standing (q := r1) hr1) (oc_X_Standing a ι _ (q := r1) hr1) rfl dX0_listShops_27 ?_
      refine gx_iload_3 C dX0_listShops_30 rfl ?_
      obtain ⟨hi1, h⟩ := gi_ck h
      refine gs_iald (q := (21 + 4 * r1 + 2)) C (ac_X_Standing_whose hx a (q := r1) hr1) (lt_X_Standing_whose (q := r1) hr1) hi1 dX0_listShops_31 ?_
      refine gx_iload_2 C dX0_listShops_32 rfl ?_
      refine gx_icmp_ne (tgt := 89) C dX0_listShops_33 (by decide) (fun hc15 => ?_) (fun hc15 => ?_)
      · have h := gi_f hc15 h
        exact gx_weak (gx_le_k rfl (gx_le_k rfl (gx_le_k rfl (gx_le_k rfl gx_le_0)))) (b_Bests_listShops_89 hx hr1 C ⟨F, hnL⟩ hk7 h)
      · have h := gi_t hc15 h
        refine gx_aload_0 C dX0_listShops_36 rfl ?_
        refine gs_getf (q := 41) C fl_X0_9 (cls_X0 hx) lt_X_Bests (oc_X_Bests a ι _) rfl dX0_listShops_37 ?_
        refine gx_aload_0 C dX0_listShops_40 rfl ?_
        refine gs_getf (q := 41) C fl_X0_59 (cls_X0 hx) lt_X_Bests (oc_X_Bests a ι _) rfl dX0_listShops_41 ?_
        refine gx_iload_3 C dX0_listShops_44 rfl ?_
        obtain ⟨hi2, h⟩ := gi_ck h
        obtain ⟨S3, e4, h⟩ := gi_let h
        refine gs_iast (q := 42) C (ac_X_Bests_own hx a) lt_X_Bests_own hi2 e4 dX0_listShops_45 ?_
        refine gx_aload_0 C dX0_listShops_46 rfl ?_
        refine gs_getf (q := 41) C fl_X0_15 (cls_X0 hx) lt_X_Bests (oc_X_Bests a ι _) rfl dX0_listShops_47 ?_
        refine gx_aload_0 C dX0_listShops_50 rfl ?_
        refine gs_getf (q := 41) C fl_X0_59 (cls_X0 hx) lt_X_Bests (oc_X_Bests a ι _) rfl dX0_listShops_51 ?_
        refine gx_aload_0 C dX0_listShops_54 rfl ?_
        refine gs_getf (q := 41) C fl_X0_41 (cls_X0 hx) lt_X_Bests (oc_X_Bests a ι _) rfl dX0_listShops_55 ?_
        refine gx_iload_2 C dX0_listShops_58 rfl ?_
        refine gx_iload_3 C dX0_listShops_59 rfl ?_
        obtain ⟨v6, e5, h⟩ := gi_cp h
        refine gc_IV C (c_Street_costTo (gx_l Γ) (gx_D Γ) hx a _ _ _ e5) (gx_cw C gx_uu lk_X0_108 (by decide) (by decide)) (cls_X5 hx).1 (gs_recv (q := 1) lt_X_Street (oc_X_Street a ι _)) rfl rfl (Nat.le_of_ble_eq_true rfl) ⟨Nat.zero_le _, Nat.zero_le _⟩ dX0_listShops_60 ?_
        obtain ⟨hi7, h⟩ := gi_ck h
        obtain ⟨S8, e9, h⟩ := gi_let h
        refine gs_iast (q := 43) C (ac_X_Bests_ownCost hx a) lt_X_Bests_ownCost hi7 e9 dX0_listShops_63 ?_
        refine gx_aload_0 C dX0_listShops_64 rfl ?_
        refine gs_getf (q := 41) C fl_X0_21 (cls_X0 hx) lt_X_Bests (oc_X_Bests a ι _) rfl dX0_listShops_65 ?_
        refine gx_aload_0 C dX0_listShops_68 rfl ?_
        refine gs_getf (q := 41) C fl_X0_59 (cls_X0 hx) lt_X_Bests (oc_X_Bests a ι _) rfl dX0_listShops_69 ?_
        refine gx_aload_1 C dX0_listShops_72 rfl ?_
        refine gs_getf (q := (21 + 4 * r1)) C fl_X0_62 (cls_X4 hx) (lt_X_Standing (q := r1) hr1) (oc_X_Standing a ι _ (q := r1) hr1) rfl dX0_listShops_73 ?_
        refine gx_iload_3 C dX0_listShops_76 rfl ?_
        refine gs_iald (q := (21 + 4 * r1 + 1)) C (ac_X_Standing_price hx a (q := r1) hr1) (lt_X_Standing_price (q := r1) hr1) hi1 dX0_listShops_77 ?_
        obtain ⟨hi10, h⟩ := gi_ck h
        obtain ⟨S11, e12, h⟩ := gi_let h
        refine gs_iast (q := 45) C (ac_X_Bests_chosen hx a) lt_X_Bests_chosen hi10 e12 dX0_listShops_78 ?_
        refine gx_aload_0 C dX0_listShops_79 rfl ?_
        refine gx_dup C dX0_listShops_80 rfl ?_
        refine gs_getf (q := 41) C fl_X0_59 (cls_X0 hx) lt_X_Bests (oc_X_Bests a ι _) rfl dX0_listShops_81 ?_
        refine gx_iconst1 C dX0_listShops_84 ?_
        refine gx_iadd C dX0_listShops_85 ?_
        obtain ⟨S13, e14, h⟩ := gi_let h
        refine gs_puti (q := 41) C fl_X0_59 (cls_X0 hx) lt_X_Bests (oc_X_Bests a ι _) (oc_X_Bests a ι _) rfl rfl rfl (Nat.le_of_ble_eq_true rfl) e14 dX0_listShops_86 ?_
        exact gx_weak (gx_le_k rfl (gx_le_k rfl (gx_le_k rfl (gx_le_k rfl gx_le_0)))) (b_Bests_listShops_89 hx hr1 C ⟨F, hnL⟩ hk7 h)
def m_Bests_listShops (r1 : Nat) (x2 : Int32) (S : gx_S) : Option (gx_S) := gx_let (gx_st S 41 5 0) fun S1 => gx_loop (m_Bests_listShops_7 r1 x2) 5000 (0, S1)
set_option maxRecDepth 20000 in
set_option maxHeartbeats 1000000 in
theorem c_Bests_listShops (l : Launch) (D : va_G) {cl : List vw_C} {tys : List (ClassId × FieldType)} {ι : Nat → ClassId} (hx : gx_std vwCl (gty ι) cl tys) (a : Nat → Nat) {r1 : Nat} (hr1 : r1 < 5) (x2 : Int32) (S : gx_S) {out : gx_S} (h : m_Bests_listShops r1 x2 S = some out) : gx_mV l D cl tys yX0_listShops (.code yX0_listShops cX0_listShops 4 ((Option.none : Option Jvm.ClassFile.FieldType)) :: gx_U) (gx_rm 2) [.ref (a 41), .ref (a (21 + 4 * r1)), .int x2] (wX a ι S) (wX a ι) out := by
  unfold m_Bests_listShops at h
  refine gx_startV (V := [.ref (a 41), .ref (a (21 + 4 * r1)), .int x2, .null]) 1 (by decide +kernel) (Nat.le_of_ble_eq_true rfl) rfl (fun Γ hl hD hcl hty hnL C F => ?_)
  subst hl; subst hD; subst hcl; subst hty
  refine gx_aload_0 C dX0_listShops_0 rfl ?_
  refine gx_iconst0 C dX0_listShops_1 ?_
  obtain ⟨S1, e2, h⟩ := gi_let h
  refine gs_puti (q := 41) C fl_X0_59 (cls_X0 hx) lt_X_Bests (oc_X_Bests a ι _) (oc_X_Bests a ι _) rfl rfl rfl (Nat.le_of_ble_eq_true rfl) e2 dX0_listShops_2 ?_
  refine gx_iconst0 C dX0_listShops_5 ?_
  refine gx_istore_3 C dX0_listShops_6 (by rw [hnL]; decide) trivial ?_
  refine gx_weak (gx_le_k rfl (gx_le_k rfl (gx_le_k rfl (gx_le_k rfl gx_le_0)))) (gi_loop (P := fun t => gx_G Γ 0 0 7 [.ref (a 41), .ref (a (21 + 4 * r1)), .int x2, .int t.1] [] (wX a ι t.2)) (fun kk t hk h => ?_) 5000 _ h)
  obtain ⟨x39, S'9⟩ := t
  exact b_Bests_listShops_7 hx hr1 C ⟨F, hnL⟩ (k7 := kk) (fun x38 S'8 h => hk (x38, S'8) h) h
def m_Standing_whatIs (r : Nat) (x1 : Int32) (x2 : Int32) (S : gx_S) : Option (Int32) := gx_ck 6 x2 (gx_ck 8 x1 (some ((S (21 + 4 * r + 1) x2.toNatClampNeg) + (S (13 + x1.toNatClampNeg) x2.toNatClampNeg))))
set_option maxRecDepth 20000 in
set_option maxHeartbeats 1000000 in
theorem c_Standing_whatIs (l : Launch) (D : va_G) {cl : List vw_C} {tys : List (ClassId × FieldType)} {ι : Nat → ClassId} (hx : gx_std vwCl (gty ι) cl tys) (a : Nat → Nat) {r : Nat} (hr : r < 5) (x1 : Int32) (x2 : Int32) (S : gx_S) {out : Int32} (h : m_Standing_whatIs r x1 x2 S = some out) : gx_mI l D cl tys yX4_whatIs (.code yX4_whatIs cX4_whatIs 3 ((Option.some Jvm.ClassFile.FieldType.int)) :: gx_U) (gx_rm 0) [.ref (a (21 + 4 * r)), .int x1, .int x2] (wX a ι S) (wX a ι) (out, S) := by
  unfold m_Standing_whatIs at h
  refine gx_startI (V := [.ref (a (21 + 4 * r)), .int x1, .int x2]) 0 (by decide +kernel) (Nat.le_of_ble_eq_true rfl) rfl (fun Γ hl hD hcl hty hnL C F => ?_)
  subst hl; subst hD; subst hcl; subst hty
  refine gx_aload_0 C dX4_whatIs_0 rfl ?_
  refine gs_getf (q := (21 + 4 * r)) C fl_X4_9 (cls_X4 hx) (lt_X_Standing (q := r) hr) (oc_X_Standing a ι _ (q := r) hr) rfl dX4_whatIs_1 ?_
  refine gx_iload_2 C dX4_whatIs_4 rfl ?_
  obtain ⟨hi1, h⟩ := gi_ck h
  refine gs_iald (q := (21 + 4 * r + 1)) C (ac_X_Standing_price hx a (q := r) hr) (lt_X_Standing_price (q := r) hr) hi1 dX4_whatIs_5 ?_
  refine gx_aload_0 C dX4_whatIs_6 rfl ?_
  refine gs_getf (q := (21 + 4 * r)) C fl_X4_22 (cls_X4 hx) (lt_X_Standing (q := r) hr) (oc_X_Standing a ι _ (q := r) hr) rfl dX4_whatIs_7 ?_
  refine gs_getf (q := 1) C fl_X4_56 (cls_X5 hx) lt_X_Street (oc_X_Street a ι _) rfl dX4_whatIs_10 ?_
  refine gx_iload_1 C dX4_whatIs_13 rfl ?_
  obtain ⟨hi2, h⟩ := gi_ck h
  refine gs_aald (q := 12) C (aq_X_Street_beside hx a) rfl lt_X_Street_beside hi2 (aqf_X_Street_beside a (gx_in_lt hi2)) dX4_whatIs_14 ?_
  refine gx_iload_2 C dX4_whatIs_15 rfl ?_
  refine gs_iald (q := (13 + x1.toNatClampNeg)) C (ac_X_Street_beside_row hx a (q := x1.toNatClampNeg) (gx_in_lt hi2)) (lt_X_Street_beside_row (q := x1.toNatClampNeg) (gx_in_lt hi2)) hi1 dX4_whatIs_16 ?_
  refine gx_iadd C dX4_whatIs_17 ?_
  exact gx_iret C F rfl dX4_whatIs_18 (congrArg (fun z => (z, S)) (Option.some.inj h))
def m_Standing_isOpen_29 (r : Nat) (S : gx_S) : Option (Int32) := some 1
set_option maxRecDepth 20000 in
set_option maxHeartbeats 1000000 in
theorem b_Standing_isOpen_29 {Γ : gx_T} {ι : Nat → ClassId} {a : Nat → Nat} {r : Nat} {out : Int32} {S : gx_S} (hx : gx_std vwCl (gty ι) (gx_cl Γ) (gx_ty Γ)) (hr : r < 5) (C : gx_ok Γ cX4_isOpen RX4 gx_U 0) (F : gx_finI Γ ((Option.some Jvm.ClassFile.FieldType.boolean)) (wX a ι) (out, S) ∧ gx_nL Γ = 3) (h : m_Standing_isOpen_29 r S = some out) : gx_G Γ 0 0 29 [.ref (a (21 + 4 * r)), .null, .null] [] (wX a ι S) := by
  obtain ⟨F, hnL⟩ := F
  unfold m_Standing_isOpen_29 at h
  refine gx_iconst1 C dX4_isOpen_29 ?_
  refine gx_goto (tgt := 34) C dX4_isOpen_30 (by decide) ?_
  exact gx_iret C F (by decide) dX4_isOpen_34 (congrArg (fun z => (z, S)) (Option.some.inj h))
def m_Standing_isOpen (r : Nat) (x1 : Int32) (S : gx_S) : Option (Int32) := gx_ck 6 x1 (gx_ck 6 (S (21 + 4 * r + 2) x1.toNatClampNeg) (if (S 2 (S (21 + 4 * r + 2) x1.toNatClampNeg).toNatClampNeg) = 4 then if (S (21 + 4 * r + 3) (S (21 + 4 * r + 2) x1.toNatClampNeg).toNatClampNeg) = 0 then some 0 else m_Standing_isOpen_29 r S else m_Standing_isOpen_29 r S))
set_option maxRecDepth 20000 in
set_option maxHeartbeats 1000000 in
theorem c_Standing_isOpen (l : Launch) (D : va_G) {cl : List vw_C} {tys : List (ClassId × FieldType)} {ι : Nat → ClassId} (hx : gx_std vwCl (gty ι) cl tys) (a : Nat → Nat) {r : Nat} (hr : r < 5) (x1 : Int32) (S : gx_S) {out : Int32} (h : m_Standing_isOpen r x1 S = some out) : gx_mI l D cl tys yX4_isOpen (.code yX4_isOpen cX4_isOpen 3 ((Option.some Jvm.ClassFile.FieldType.boolean)) :: gx_U) (gx_rm 0) [.ref (a (21 + 4 * r)), .int x1] (wX a ι S) (wX a ι) (out, S) := by
  unfold m_Standing_isOpen at h
  refine gx_startI (V := [.ref (a (21 + 4 * r)), .int x1, .null]) 1 (by decide +kernel) (Nat.le_of_ble_eq_true rfl) rfl (fun Γ hl hD hcl hty hnL C F => ?_)
  subst hl; subst hD; subst hcl; subst hty
  refine gx_aload_0 C dX4_isOpen_0 rfl ?_
  refine gs_getf (q := (21 + 4 * r)) C fl_X4_15 (cls_X4 hx) (lt_X_Standing (q := r) hr) (oc_X_Standing a ι _ (q := r) hr) rfl dX4_isOpen_1 ?_
  refine gx_iload_1 C dX4_isOpen_4 rfl ?_
  obtain ⟨hi1, h⟩ := gi_ck h
  refine gs_iald (q := (21 + 4 * r + 2)) C (ac_X_Standing_whose hx a (q := r) hr) (lt_X_Standing_whose (q := r) hr) hi1 dX4_isOpen_5 ?_
  refine gx_istore_2 C dX4_isOpen_6 (by rw [hnL]; decide) trivial ?_
  refine gx_aload_0 C dX4_isOpen_7 rfl ?_
  refine gs_getf (q := (21 + 4 * r)) C fl_X4_22 (cls_X4 hx) (lt_X_Standing (q := r) hr) (oc_X_Standing a ι _ (q := r) hr) rfl dX4_isOpen_8 ?_
  refine gs_getf (q := 1) C fl_X4_41 (cls_X5 hx) lt_X_Street (oc_X_Street a ι _) rfl dX4_isOpen_11 ?_
  refine gx_iload_2 C dX4_isOpen_14 rfl ?_
  obtain ⟨hi2, h⟩ := gi_ck h
  refine gs_iald (q := 2) C (ac_X_Street_kind hx a) lt_X_Street_kind hi2 dX4_isOpen_15 ?_
  refine gx_iconst4 C dX4_isOpen_16 ?_
  refine gx_icmp_ne (tgt := 29) C dX4_isOpen_17 (by decide) (fun hc4 => ?_) (fun hc4 => ?_)
  · have h := gi_f hc4 h
    exact gx_weak (gx_le_k rfl (gx_le_n (gx_le_n gx_le_0))) (b_Standing_isOpen_29 hx hr C ⟨F, hnL⟩ h)
  · have h := gi_t hc4 h
    refine gx_aload_0 C dX4_isOpen_20 rfl ?_
    refine gs_getf (q := (21 + 4 * r)) C fl_X4_18 (cls_X4 hx) (lt_X_Standing (q := r) hr) (oc_X_Standing a ι _ (q := r) hr) rfl dX4_isOpen_21 ?_
    refine gx_iload_2 C dX4_isOpen_24 rfl ?_
    refine gs_zald (q := (21 + 4 * r + 3)) C (ac_X_Standing_in hx a (q := r) hr) (lt_X_Standing_in (q := r) hr) hi2 dX4_isOpen_25 ?_
    refine gx_if_eq (tgt := 33) C dX4_isOpen_26 (by decide) (fun hc3 => ?_) (fun hc3 => ?_)
    · have h := gi_t hc3 h
      refine gx_iconst0 C dX4_isOpen_33 ?_
      exact gx_iret C F (by decide) dX4_isOpen_34 (congrArg (fun z => (z, S)) (Option.some.inj h))
    · have h := gi_f hc3 h
      exact gx_weak (gx_le_k rfl (gx_le_n (gx_le_n gx_le_0))) (b_Standing_isOpen_29 hx hr C ⟨F, hnL⟩ h)
def m_Standing_choice_68 (r : Nat) (k18 : Int32 × Int32 × Int32 → Option (Int32)) (x1 : Int32) (x2 : Int32) (x3 : Int32) (x4 : Int32) (x5 : Int32) (S : gx_S) : Option (Int32) := k18 (x3, x4, (x5 + 1))
set_option maxRecDepth 20000 in
set_option maxHeartbeats 1000000 in
theorem b_Standing_choice_68 {Γ : gx_T} {ι : Nat → ClassId} {a : Nat → Nat} {r : Nat} {out : Int32} {S : gx_S} (hx : gx_std vwCl (gty ι) (gx_cl Γ) (gx_ty Γ)) (hr : r < 5) (C : gx_ok Γ cX4_choice RX4 gx_U 1) (F : gx_finI Γ ((Option.some Jvm.ClassFile.FieldType.int)) (wX a ι) (out, S) ∧ gx_nL Γ = 7) {k18 : Int32 × Int32 × Int32 → Option (Int32)} {x1 : Int32} {x2 : Int32} {x3 : Int32} {x4 : Int32} {x5 : Int32} (hk18 : ∀ (x37 : Int32) (x47 : Int32) (x57 : Int32), k18 (x37, x47, x57) = some out → gx_G Γ 0 0 18 [.ref (a (21 + 4 * r)), .int x1, .int x2, .int x37, .int x47, .int x57, .null] [] (wX a ι S)) (h : m_Standing_choice_68 r k18 x1 x2 x3 x4 x5 S = some out) : gx_G Γ 0 0 68 [.ref (a (21 + 4 * r)), .int x1, .int x2, .int x3, .int x4, .int x5, .null] [] (wX a ι S) := by
  obtain ⟨F, hnL⟩ := F
  unfold m_Standing_choice_68 at h
  refine gx_iinc1 C dX4_choice_68 rfl (by rw [hnL]; decide) trivial ?_
  refine gx_goto (tgt := 18) C dX4_choice_71 (by decide) ?_
  exact gx_weak (gx_le_k rfl (gx_le_k rfl (gx_le_k rfl (gx_le_k rfl (gx_le_k rfl (gx_le_k rfl (gx_le_n gx_le_0))))))) (hk18 _ _ _ h)
def m_Standing_choice_18 (r : Nat) (x1 : Int32) (x2 : Int32) (S : gx_S) (t : Int32 × Int32 × Int32) (k18 : Int32 × Int32 × Int32 → Option (Int32)) : Option (Int32) := match t with
  | (x3, x4, x5) => if (S 1 1) ≤ x5 then some x3 else gx_cp (m_Standing_whatIs r x1 x5 S) fun v2 => if x4 ≤ v2 then m_Standing_choice_68 r k18 x1 x2 x3 x4 x5 S else if x5 = x2 then m_Standing_choice_68 r k18 x1 x2 x3 x4 x5 S else gx_cp (m_Standing_isOpen r x5 S) fun v4 => if v4 = 0 then m_Standing_choice_68 r k18 x1 x2 x3 x4 x5 S else m_Standing_choice_68 r k18 x1 x2 x5 v2 x5 S
set_option maxRecDepth 20000 in
set_option maxHeartbeats 1000000 in
theorem b_Standing_choice_18 {Γ : gx_T} {ι : Nat → ClassId} {a : Nat → Nat} {r : Nat} {out : Int32} {S : gx_S} (hx : gx_std vwCl (gty ι) (gx_cl Γ) (gx_ty Γ)) (hr : r < 5) (C : gx_ok Γ cX4_choice RX4 gx_U 1) (F : gx_finI Γ ((Option.some Jvm.ClassFile.FieldType.int)) (wX a ι) (out, S) ∧ gx_nL Γ = 7) {k18 : Int32 × Int32 × Int32 → Option (Int32)} {x1 : Int32} {x2 : Int32} {x3 : Int32} {x4 : Int32} {x5 : Int32} (hk18 : ∀ (x37 : Int32) (x47 : Int32) (x57 : Int32), k18 (x37, x47, x57) = some out → gx_G Γ 0 0 18 [.ref (a (21 + 4 * r)), .int x1, .int x2, .int x37, .int x47, .int x57, .null] [] (wX a ι S)) (h : m_Standing_choice_18 r x1 x2 S (x3, x4, x5) k18 = some out) : gx_G Γ 0 0 18 [.ref (a (21 + 4 * r)), .int x1, .int x2, .int x3, .int x4, .int x5, .null] [] (wX a ι S) := by
  obtain ⟨F, hnL⟩ := F
  unfold m_Standing_choice_18 at h
  dsimp only at h
  refine gx_iload C dX4_choice_18 rfl ?_
  refine gx_aload_0 C dX4_choice_20 rfl ?_
  refine gs_getf (q := (21 + 4 * r)) C fl_X4_22 (cls_X4 hx) (lt_X_Standing (q := r) hr) (oc_X_Standing a ι _ (q := r) hr) rfl dX4_choice_21 ?_
  refine gs_getf (q := 1) C fl_X4_26 (cls_X5 hx) lt_X_Street (oc_X_Street a ι _) rfl dX4_choice_24 ?_
  refine gx_icmp_ge (tgt := 74) C dX4_choice_27 (by decide) (fun hc8 => ?_) (fun hc8 => ?_)
  · have h := gi_t hc8 h
    refine gx_iload_3 C dX4_choice_74 rfl ?_
    exact gx_iret C F rfl dX4_choice_75 (congrArg (fun z => (z, S)) (Option.some.inj h))
  · have h := gi_f hc8 h
    refine gx_aload_0 C dX4_choice_30 rfl ?_
    refine gx_iload_1 C dX4_choice_31 rfl ?_
    refine gx_iload C dX4_choice_32 rfl ?_
    obtain ⟨v2, e1, h⟩ := gi_cp h
    refine gc_IV C (c_Standing_whatIs (gx_l Γ) (gx_D Γ) hx a (r := r) hr _ _ _ e1) (gx_cw C gx_uu lk_X4_63 (by decide) (by decide)) (cls_X4 hx).1 (gs_recv (q := (21 + 4 * r)) (lt_X_Standing (q := r) hr) (oc_X_Standing a ι _ (q := r) hr)) rfl rfl (Nat.le_of_ble_eq_true rfl) ⟨Nat.zero_le _, Nat.zero_le _⟩ dX4_choice_34 ?_
    refine gx_istore C dX4_choice_37 (by rw [hnL]; decide) trivial ?_
    refine gx_iload C dX4_choice_39 rfl ?_
    refine gx_iload C dX4_choice_41 rfl ?_
    refine gx_icmp_ge (tgt := 68) C dX4_choice_43 (by decide) (fun hc7 => ?_) (fun hc7 => ?_)
    · have h := gi_t hc7 h
      exact gx_weak (gx_le_k rfl (gx_le_k rfl (gx_le_k rfl (gx_le_k rfl (gx_le_k rfl (gx_le_k rfl (gx_le_n gx_le_0))))))) (b_Standing_choice_68 hx hr C ⟨F, hnL⟩ hk18 h)
    · have h := gi_f hc7 h
      refine gx_iload C dX4_choice_46 rfl ?_
      refine gx_iload_2 C dX4_choice_48 rfl ?_
      refine gx_icmp_eq (tgt := 68) C dX4_choice_49 (by decide) (fun hc6 => ?_) (fun hc6 => ?_)
      · have h := gi_t hc6 h
        exact gx_weak (gx_le_k rfl (gx_le_k rfl (gx_le_k rfl (gx_le_k rfl (gx_le_k rfl (gx_le_k rfl (gx_le_n gx_le_0))))))) (b_Standing_choice_68 hx hr C ⟨F, hnL⟩ hk18 h)
      · have h := gi_f hc6 h
        refine gx_aload_0 C dX4_choice_52 rfl ?_
        refine gx_iload C dX4_choice_53 rfl ?_
        obtain ⟨v4, e3, h⟩ := gi_cp h
        refine gc_IV C (c_Standing_isOpen (gx_l Γ) (gx_D Γ) hx a (r := r) hr _ _ e3) (gx_cw C gx_uu lk_X4_44 (by decide) (by decide)) (cls_X4 hx).1 (gs_recv (q := (21 + 4 * r)) (lt_X_Standing (q := r) hr) (oc_X_Standing a ι _ (q := r) hr)) rfl rfl (Nat.le_of_ble_eq_true rfl) ⟨Nat.zero_le _, Nat.zero_le _⟩ dX4_choice_55 ?_
        refine gx_if_eq (tgt := 68) C dX4_choice_58 (by decide) (fun hc5 => ?_) (fun hc5 => ?_)
        · have h := gi_t hc5 h
          exact gx_weak (gx_le_k rfl (gx_le_k rfl (gx_le_k rfl (gx_le_k rfl (gx_le_k rfl (gx_le_k rfl (gx_le_n gx_le_0))))))) (b_Standing_choice_68 hx hr C ⟨F, hnL⟩ hk18 h)
        · have h := gi_f hc5 h
          refine gx_iload C dX4_choice_61 rfl ?_
          refine gx_istore_3 C dX4_choice_63 (by rw [hnL]; decide) trivial ?_
          refine gx_iload C dX4_choice_64 rfl ?_
          refine gx_istore C dX4_choice_66 (by rw [hnL]; decide) trivial ?_
          exact gx_weak (gx_le_k rfl (gx_le_k rfl (gx_le_k rfl (gx_le_k rfl (gx_le_k rfl (gx_le_k rfl (gx_le_n gx_le_0))))))) (b_Standing_choice_68 hx hr C ⟨F, hnL⟩ hk18 h)
def m_Standing_choice (r : Nat) (x1 : Int32) (x2 : Int32) (S : gx_S) : Option (Int32) := gx_ck 8 x1 (gx_loop (m_Standing_choice_18 r x1 x2 S) 5000 ((-1), ((S 9 x1.toNatClampNeg) + (1 : Int32)), 0))
set_option maxRecDepth 20000 in
set_option maxHeartbeats 1000000 in
theorem c_Standing_choice (l : Launch) (D : va_G) {cl : List vw_C} {tys : List (ClassId × FieldType)} {ι : Nat → ClassId} (hx : gx_std vwCl (gty ι) cl tys) (a : Nat → Nat) {r : Nat} (hr : r < 5) (x1 : Int32) (x2 : Int32) (S : gx_S) {out : Int32} (h : m_Standing_choice r x1 x2 S = some out) : gx_mI l D cl tys yX4_choice (.code yX4_choice cX4_choice 7 ((Option.some Jvm.ClassFile.FieldType.int)) :: gx_U) (gx_rm 1) [.ref (a (21 + 4 * r)), .int x1, .int x2] (wX a ι S) (wX a ι) (out, S) := by
  unfold m_Standing_choice at h
  refine gx_startI (V := [.ref (a (21 + 4 * r)), .int x1, .int x2, .null, .null, .null, .null]) 4 (by decide +kernel) (Nat.le_of_ble_eq_true rfl) rfl (fun Γ hl hD hcl hty hnL C F => ?_)
  subst hl; subst hD; subst hcl; subst hty
  refine gx_iconstm1 C dX4_choice_0 ?_
  refine gx_istore_3 C dX4_choice_1 (by rw [hnL]; decide) trivial ?_
  refine gx_aload_0 C dX4_choice_2 rfl ?_
  refine gs_getf (q := (21 + 4 * r)) C fl_X4_22 (cls_X4 hx) (lt_X_Standing (q := r) hr) (oc_X_Standing a ι _ (q := r) hr) rfl dX4_choice_3 ?_
  refine gs_getf (q := 1) C fl_X4_60 (cls_X5 hx) lt_X_Street (oc_X_Street a ι _) rfl dX4_choice_6 ?_
  refine gx_iload_1 C dX4_choice_9 rfl ?_
  obtain ⟨hi1, h⟩ := gi_ck h
  refine gs_iald (q := 9) C (ac_X_Street_worth hx a) lt_X_Street_worth hi1 dX4_choice_10 ?_
  refine gx_iconst1 C dX4_choice_11 ?_
  refine gx_iadd C dX4_choice_12 ?_
  refine gx_istore C dX4_choice_13 (by rw [hnL]; decide) trivial ?_
  refine gx_iconst0 C dX4_choice_15 ?_
  refine gx_istore C dX4_choice_16 (by rw [hnL]; decide) trivial ?_
  refine gx_weak (gx_le_k rfl (gx_le_k rfl (gx_le_k rfl (gx_le_k rfl (gx_le_k rfl (gx_le_k rfl (gx_le_n gx_le_0))))))) (gi_loop (P := fun t => gx_G Γ 0 0 18 [.ref (a (21 + 4 * r)), .int x1, .int x2, .int t.1, .int t.2.1, .int t.2.2, .null] [] (wX a ι S)) (fun kk t hk h => ?_) 5000 _ h)
  obtain ⟨x39, x49, x59⟩ := t
  exact b_Standing_choice_18 hx hr C ⟨F, hnL⟩ (k18 := kk) (fun x38 x48 x58 h => hk (x38, x48, x58) h) h
def m_Standing_profitOf_71 (r : Nat) (k4 : Int32 × Int32 → Option (Int32)) (x1 : Int32) (x2 : Int32) (x3 : Int32) (S : gx_S) : Option (Int32) := k4 (x2, (x3 + 1))
set_option maxRecDepth 20000 in
set_option maxHeartbeats 1000000 in
theorem b_Standing_profitOf_71 {Γ : gx_T} {ι : Nat → ClassId} {a : Nat → Nat} {r : Nat} {out : Int32} {S : gx_S} (hx : gx_std vwCl (gty ι) (gx_cl Γ) (gx_ty Γ)) (hr : r < 5) (C : gx_ok Γ cX4_profitOf RX4 gx_U 2) (F : gx_finI Γ ((Option.some Jvm.ClassFile.FieldType.int)) (wX a ι) (out, S) ∧ gx_nL Γ = 5) {k4 : Int32 × Int32 → Option (Int32)} {x1 : Int32} {x2 : Int32} {x3 : Int32} (hk4 : ∀ (x27 : Int32) (x37 : Int32), k4 (x27, x37) = some out → gx_G Γ 0 0 4 [.ref (a (21 + 4 * r)), .int x1, .int x27, .int x37, .null] [] (wX a ι S)) (h : m_Standing_profitOf_71 r k4 x1 x2 x3 S = some out) : gx_G Γ 0 0 71 [.ref (a (21 + 4 * r)), .int x1, .int x2, .int x3, .null] [] (wX a ι S) := by
  obtain ⟨F, hnL⟩ := F
  unfold m_Standing_profitOf_71 at h
  refine gx_iinc1 C dX4_profitOf_71 rfl (by rw [hnL]; decide) trivial ?_
  refine gx_goto (tgt := 4) C dX4_profitOf_74 (by decide) ?_
  exact gx_weak (gx_le_k rfl (gx_le_k rfl (gx_le_k rfl (gx_le_k rfl (gx_le_n gx_le_0))))) (hk4 _ _ h)
def m_Standing_profitOf_4 (r : Nat) (x1 : Int32) (S : gx_S) (t : Int32 × Int32) (k4 : Int32 × Int32 → Option (Int32)) : Option (Int32) := match t with
  | (x2, x3) => if (S 1 2) ≤ x3 then some x2 else gx_cp (m_Standing_choice r x3 (-1) S) fun v2 => if v2 = (-1) then m_Standing_profitOf_71 r k4 x1 x2 x3 S else gx_ck 6 v2 (if (S (21 + 4 * r + 2) v2.toNatClampNeg) = x1 then gx_ck 8 x3 (gx_cp (m_Street_costTo x1 v2 S) fun v6 => m_Standing_profitOf_71 r k4 x1 (x2 + ((S 7 x3.toNatClampNeg) * ((S (21 + 4 * r + 1) v2.toNatClampNeg) - v6))) x3 S) else m_Standing_profitOf_71 r k4 x1 x2 x3 S)
set_option maxRecDepth 20000 in
set_option maxHeartbeats 1000000 in
theorem b_Standing_profitOf_4 {Γ : gx_T} {ι : Nat → ClassId} {a : Nat → Nat} {r : Nat} {out : Int32} {S : gx_S} (hx : gx_std vwCl (gty ι) (gx_cl Γ) (gx_ty Γ)) (hr : r < 5) (C : gx_ok Γ cX4_profitOf RX4 gx_U 2) (F : gx_finI Γ ((Option.some Jvm.ClassFile.FieldType.int)) (wX a ι) (out, S) ∧ gx_nL Γ = 5) {k4 : Int32 × Int32 → Option (Int32)} {x1 : Int32} {x2 : Int32} {x3 : Int32} (hk4 : ∀ (x27 : Int32) (x37 : Int32), k4 (x27, x37) = some out → gx_G Γ 0 0 4 [.ref (a (21 + 4 * r)), .int x1, .int x27, .int x37, .null] [] (wX a ι S)) (h : m_Standing_profitOf_4 r x1 S (x2, x3) k4 = some out) : gx_G Γ 0 0 4 [.ref (a (21 + 4 * r)), .int x1, .int x2, .int x3, .null] [] (wX a ι S) := by
  obtain ⟨F, hnL⟩ := F
  unfold m_Standing_profitOf_4 at h
  dsimp only at h
  refine gx_iload_3 C dX4_profitOf_4 rfl ?_
  refine gx_aload_0 C dX4_profitOf_5 rfl ?_
  refine gs_getf (q := (21 + 4 * r)) C fl_X4_22 (cls_X4 hx) (lt_X_Standing (q := r) hr) (oc_X_Standing a ι _ (q := r) hr) rfl dX4_profitOf_6 ?_
  refine gs_getf (q := 1) C fl_X4_70 (cls_X5 hx) lt_X_Street (oc_X_Street a ι _) rfl dX4_profitOf_9 ?_
  refine gx_icmp_ge (tgt := 77) C dX4_profitOf_12 (by decide) (fun hc9 => ?_) (fun hc9 => ?_)
  · have h := gi_t hc9 h
    refine gx_iload_2 C dX4_profitOf_77 rfl ?_
    exact gx_iret C F rfl dX4_profitOf_78 (congrArg (fun z => (z, S)) (Option.some.inj h))
  · have h := gi_f hc9 h
    refine gx_aload_0 C dX4_profitOf_15 rfl ?_
    refine gx_iload_3 C dX4_profitOf_16 rfl ?_
    refine gx_iconstm1 C dX4_profitOf_17 ?_
    obtain ⟨v2, e1, h⟩ := gi_cp h
    refine gc_IV C (c_Standing_choice (gx_l Γ) (gx_D Γ) hx a (r := r) hr _ _ _ e1) (gx_cw C gx_uu lk_X4_67 (by decide) (by decide)) (cls_X4 hx).1 (gs_recv (q := (21 + 4 * r)) (lt_X_Standing (q := r) hr) (oc_X_Standing a ι _ (q := r) hr)) rfl rfl (Nat.le_of_ble_eq_true rfl) ⟨Nat.zero_le _, Nat.zero_le _⟩ dX4_profitOf_18 ?_
    refine gx_istore C dX4_profitOf_21 (by rw [hnL]; decide) trivial ?_
    refine gx_iload C dX4_profitOf_23 rfl ?_
    refine gx_iconstm1 C dX4_profitOf_25 ?_
    refine gx_icmp_eq (tgt := 71) C dX4_profitOf_26 (by decide) (fun hc8 => ?_) (fun hc8 => ?_)
    · have h := gi_t hc8 h
      exact gx_weak (gx_le_k rfl (gx_le_k rfl (gx_le_k rfl (gx_le_k rfl (gx_le_n gx_le_0))))) (b_Standing_profitOf_71 hx hr C ⟨F, hnL⟩ hk4 h)
    · have h := gi_f hc8 h
      refine gx_aload_0 C dX4_profitOf_29 rfl ?_
      refine gs_getf (q := (21 + 4 * r)) C fl_X4_15 (cls_X4 hx) (lt_X_Standing (q := r) hr) (oc_X_Standing a ι _ (q := r) hr) rfl dX4_profitOf_30 ?_
      refine gx_iload C dX4_profitOf_33 rfl ?_
      obtain ⟨hi3, h⟩ := gi_ck h
      refine gs_iald (q := (21 + 4 * r + 2)) C (ac_X_Standing_whose hx a (q := r) hr) (lt_X_Standing_whose (q := r) hr) hi3 dX4_profitOf_35 ?_
      refine gx_iload_1 C dX4_profitOf_36 rfl ?_
      refine gx_icmp_ne (tgt := 71) C dX4_profitOf_37 (by decide) (fun hc7 => ?_) (fun hc7 => ?_)
      · have h := gi_f hc7 h
        exact gx_weak (gx_le_k rfl (gx_le_k rfl (gx_le_k rfl (gx_le_k rfl (gx_le_n gx_le_0))))) (b_Standing_profitOf_71 hx hr C ⟨F, hnL⟩ hk4 h)
      · have h := gi_t hc7 h
        refine gx_iload_2 C dX4_profitOf_40 rfl ?_
        refine gx_aload_0 C dX4_profitOf_41 rfl ?_
        refine gs_getf (q := (21 + 4 * r)) C fl_X4_22 (cls_X4 hx) (lt_X_Standing (q := r) hr) (oc_X_Standing a ι _ (q := r) hr) rfl dX4_profitOf_42 ?_
        refine gs_getf (q := 1) C fl_X4_73 (cls_X5 hx) lt_X_Street (oc_X_Street a ι _) rfl dX4_profitOf_45 ?_
        refine gx_iload_3 C dX4_profitOf_48 rfl ?_
        obtain ⟨hi4, h⟩ := gi_ck h
        refine gs_iald (q := 7) C (ac_X_Street_many hx a) lt_X_Street_many hi4 dX4_profitOf_49 ?_
        refine gx_aload_0 C dX4_profitOf_50 rfl ?_
        refine gs_getf (q := (21 + 4 * r)) C fl_X4_9 (cls_X4 hx) (lt_X_Standing (q := r) hr) (oc_X_Standing a ι _ (q := r) hr) rfl dX4_profitOf_51 ?_
        refine gx_iload C dX4_profitOf_54 rfl ?_
        refine gs_iald (q := (21 + 4 * r + 1)) C (ac_X_Standing_price hx a (q := r) hr) (lt_X_Standing_price (q := r) hr) hi3 dX4_profitOf_56 ?_
        refine gx_aload_0 C dX4_profitOf_57 rfl ?_
        refine gs_getf (q := (21 + 4 * r)) C fl_X4_22 (cls_X4 hx) (lt_X_Standing (q := r) hr) (oc_X_Standing a ι _ (q := r) hr) rfl dX4_profitOf_58 ?_
        refine gx_iload_1 C dX4_profitOf_61 rfl ?_
        refine gx_iload C dX4_profitOf_62 rfl ?_
        obtain ⟨v6, e5, h⟩ := gi_cp h
        refine gc_IV C (c_Street_costTo (gx_l Γ) (gx_D Γ) hx a _ _ _ e5) (gx_cw C gx_uu lk_X4_76 (by decide) (by decide)) (cls_X5 hx).1 (gs_recv (q := 1) lt_X_Street (oc_X_Street a ι _)) rfl rfl (Nat.le_of_ble_eq_true rfl) ⟨Nat.zero_le _, Nat.zero_le _⟩ dX4_profitOf_64 ?_
        refine gx_isub C dX4_profitOf_67 ?_
        refine gx_imul C dX4_profitOf_68 ?_
        refine gx_iadd C dX4_profitOf_69 ?_
        refine gx_istore_2 C dX4_profitOf_70 (by rw [hnL]; decide) trivial ?_
        exact gx_weak (gx_le_k rfl (gx_le_k rfl (gx_le_k rfl (gx_le_k rfl (gx_le_n gx_le_0))))) (b_Standing_profitOf_71 hx hr C ⟨F, hnL⟩ hk4 h)
def m_Standing_profitOf (r : Nat) (x1 : Int32) (S : gx_S) : Option (Int32) := gx_loop (m_Standing_profitOf_4 r x1 S) 5000 (0, 0)
set_option maxRecDepth 20000 in
set_option maxHeartbeats 1000000 in
theorem c_Standing_profitOf (l : Launch) (D : va_G) {cl : List vw_C} {tys : List (ClassId × FieldType)} {ι : Nat → ClassId} (hx : gx_std vwCl (gty ι) cl tys) (a : Nat → Nat) {r : Nat} (hr : r < 5) (x1 : Int32) (S : gx_S) {out : Int32} (h : m_Standing_profitOf r x1 S = some out) : gx_mI l D cl tys yX4_profitOf (.code yX4_profitOf cX4_profitOf 5 ((Option.some Jvm.ClassFile.FieldType.int)) :: gx_U) (gx_rm 2) [.ref (a (21 + 4 * r)), .int x1] (wX a ι S) (wX a ι) (out, S) := by
  unfold m_Standing_profitOf at h
  refine gx_startI (V := [.ref (a (21 + 4 * r)), .int x1, .null, .null, .null]) 3 (by decide +kernel) (Nat.le_of_ble_eq_true rfl) rfl (fun Γ hl hD hcl hty hnL C F => ?_)
  subst hl; subst hD; subst hcl; subst hty
  refine gx_iconst0 C dX4_profitOf_0 ?_
  refine gx_istore_2 C dX4_profitOf_1 (by rw [hnL]; decide) trivial ?_
  refine gx_iconst0 C dX4_profitOf_2 ?_
  refine gx_istore_3 C dX4_profitOf_3 (by rw [hnL]; decide) trivial ?_
  refine gx_weak (gx_le_k rfl (gx_le_k rfl (gx_le_k rfl (gx_le_k rfl (gx_le_n gx_le_0))))) (gi_loop (P := fun t => gx_G Γ 0 0 4 [.ref (a (21 + 4 * r)), .int x1, .int t.1, .int t.2, .null] [] (wX a ι S)) (fun kk t hk h => ?_) 5000 _ h)
  obtain ⟨x29, x39⟩ := t
  exact b_Standing_profitOf_4 hx hr C ⟨F, hnL⟩ (k4 := kk) (fun x28 x38 h => hk (x28, x38) h) h
def m_Bests_layOthers_127 (r1 : Nat) (k2 : Int32 × gx_S → Option (gx_S)) (k53 : Int32 × gx_S → Option (gx_S)) (x2 : Int32) (x3 : Int32) (x4 : Int32) (S : gx_S) : Option (gx_S) := k53 ((x4 + 1), S)
set_option maxRecDepth 20000 in
set_option maxHeartbeats 1000000 in
theorem b_Bests_layOthers_127 {Γ : gx_T} {ι : Nat → ClassId} {a : Nat → Nat} {r1 : Nat} {out : gx_S} (hx : gx_std vwCl (gty ι) (gx_cl Γ) (gx_ty Γ)) (hr1 : r1 < 5) (C : gx_ok Γ cX0_layOthers RX0 gx_U 1) (F : gx_finV Γ ((Option.none : Option Jvm.ClassFile.FieldType)) (wX a ι) out ∧ gx_nL Γ = 6) {k2 : Int32 × gx_S → Option (gx_S)} {k53 : Int32 × gx_S → Option (gx_S)} {x2 : Int32} {x3 : Int32} {x4 : Int32} {S : gx_S} (hk2 : ∀ (x37 : Int32) (S7 : gx_S), k2 (x37, S7) = some out → gx_G Γ 0 0 2 [.ref (a 41), .ref (a (21 + 4 * r1)), .int x2, .int x37, .null, .null] [] (wX a ι S7)) (hk53 : ∀ (x47 : Int32) (S7 : gx_S), k53 (x47, S7) = some out → gx_G Γ 0 0 53 [.ref (a 41), .ref (a (21 + 4 * r1)), .int x2, .int x3, .int x47, .null] [] (wX a ι S7)) (h : m_Bests_layOthers_127 r1 k2 k53 x2 x3 x4 S = some out) : gx_G Γ 0 0 127 [.ref (a 41), .ref (a (21 + 4 * r1)), .int x2, .int x3, .int x4, .null] [] (wX a ι S) := by
  obtain ⟨F, hnL⟩ := F
  unfold m_Bests_layOthers_127 at h
  refine gx_iinc1 C dX0_layOthers_127 rfl (by rw [hnL]; decide) trivial ?_
  refine gx_goto (tgt := 53) C dX0_layOthers_130 (by decide) ?_
  exact gx_weak (gx_le_k rfl (gx_le_k rfl (gx_le_k rfl (gx_le_k rfl (gx_le_k rfl (gx_le_n gx_le_0)))))) (hk53 _ _ h)
def m_Bests_layOthers_53 (r1 : Nat) (k2 : Int32 × gx_S → Option (gx_S)) (x2 : Int32) (x3 : Int32) (t : Int32 × gx_S) (k53 : Int32 × gx_S → Option (gx_S)) : Option (gx_S) := match t with
  | (x4, S) => if (S 1 1) ≤ x4 then k2 ((x3 + 1), S) else gx_cp (m_Standing_whatIs r1 x3 x4 S) fun v2 => gx_ck 4 (0 : Int32) (gx_ck 8 x3 (if (S (47 + (0 : Int32).toNatClampNeg) x3.toNatClampNeg) ≤ v2 then m_Bests_layOthers_127 r1 k2 k53 x2 x3 x4 S else gx_ck 6 x4 (if (S (21 + 4 * r1 + 2) x4.toNatClampNeg) = x2 then m_Bests_layOthers_127 r1 k2 k53 x2 x3 x4 S else gx_cp (m_Standing_isOpen r1 x4 S) fun v7 => if v7 = 0 then m_Bests_layOthers_127 r1 k2 k53 x2 x3 x4 S else gx_let (gx_st S (47 + (0 : Int32).toNatClampNeg) x3.toNatClampNeg v2) fun S8 => gx_let (gx_st S8 (52 + (0 : Int32).toNatClampNeg) x3.toNatClampNeg x4) fun S10 => m_Bests_layOthers_127 r1 k2 k53 x2 x3 x4 S10)))
set_option maxRecDepth 20000 in
set_option maxHeartbeats 1000000 in
theorem b_Bests_layOthers_53 {Γ : gx_T} {ι : Nat → ClassId} {a : Nat → Nat} {r1 : Nat} {out : gx_S} (hx : gx_std vwCl (gty ι) (gx_cl Γ) (gx_ty Γ)) (hr1 : r1 < 5) (C : gx_ok Γ cX0_layOthers RX0 gx_U 1) (F : gx_finV Γ ((Option.none : Option Jvm.ClassFile.FieldType)) (wX a ι) out ∧ gx_nL Γ = 6) {k2 : Int32 × gx_S → Option (gx_S)} {k53 : Int32 × gx_S → Option (gx_S)} {x2 : Int32} {x3 : Int32} {x4 : Int32} {S : gx_S} (hk2 : ∀ (x37 : Int32) (S7 : gx_S), k2 (x37, S7) = some out → gx_G Γ 0 0 2 [.ref (a 41), .ref (a (21 + 4 * r1)), .int x2, .int x37, .null, .null] [] (wX a ι S7)) (hk53 : ∀ (x47 : Int32) (S7 : gx_S), k53 (x47, S7) = some out → gx_G Γ 0 0 53 [.ref (a 41), .ref (a (21 + 4 * r1)), .int x2, .int x3, .int x47, .null] [] (wX a ι S7)) (h : m_Bests_layOthers_53 r1 k2 x2 x3 (x4, S) k53 = some out) : gx_G Γ 0 0 53 [.ref (a 41), .ref (a (21 + 4 * r1)), .int x2, .int x3, .int x4, .null] [] (wX a ι S) := by
  obtain ⟨F, hnL⟩ := F
  unfold m_Bests_layOthers_53 at h
  dsimp only at h
  refine gx_iload C dX0_layOthers_53 rfl ?_
  refine gx_aload_0 C dX0_layOthers_55 rfl ?_
  refine gs_getf (q := 41) C fl_X0_41 (cls_X0 hx) lt_X_Bests (oc_X_Bests a ι _) rfl dX0_layOthers_56 ?_
  refine gs_getf (q := 1) C fl_X0_102 (cls_X5 hx) lt_X_Street (oc_X_Street a ι _) rfl dX0_layOthers_59 ?_
  refine gx_icmp_ge (tgt := 133) C dX0_layOthers_62 (by decide) (fun hc15 => ?_) (fun hc15 => ?_)
  · have h := gi_t hc15 h
    refine gx_iinc1 C dX0_layOthers_133 rfl (by rw [hnL]; decide) trivial ?_
    refine gx_goto (tgt := 2) C dX0_layOthers_136 (by decide) ?_
    exact gx_weak (gx_le_k rfl (gx_le_k rfl (gx_le_k rfl (gx_le_k rfl (gx_le_n (gx_le_n gx_le_0)))))) (hk2 _ _ h)
  · have h := gi_f hc15 h
    refine gx_aload_1 C dX0_layOthers_65 rfl ?_
    refine gx_iload_3 C dX0_layOthers_66 rfl ?_
    refine gx_iload C dX0_layOthers_67 rfl ?_
    obtain ⟨v2, e1, h⟩ := gi_cp h
    refine gc_IV C (c_Standing_whatIs (gx_l Γ) (gx_D Γ) hx a (r := r1) hr1 _ _ _ e1) (gx_cw C gx_uu lk_X0_118 (by decide) (by decide)) (cls_X4 hx).1 (gs_recv (q := (21 + 4 * r1)) (lt_X_Standing (q := r1) hr1) (oc_X_Standing a ι _ (q := r1) hr1)) rfl rfl (Nat.le_of_ble_eq_true rfl) ⟨Nat.zero_le _, Nat.zero_le _⟩ dX0_layOthers_69 ?_
    refine gx_istore C dX0_layOthers_72 (by rw [hnL]; decide) trivial ?_
    refine gx_iload C dX0_layOthers_74 rfl ?_
    refine gx_aload_0 C dX0_layOthers_76 rfl ?_
    refine gs_getf (q := 41) C fl_X0_26 (cls_X0 hx) lt_X_Bests (oc_X_Bests a ι _) rfl dX0_layOthers_77 ?_
    refine gx_iconst0 C dX0_layOthers_80 ?_
    obtain ⟨hi3, h⟩ := gi_ck h
    refine gs_aald (q := 46) C (aq_X_Bests_least hx a) rfl lt_X_Bests_least hi3 (aqf_X_Bests_least a (gx_in_lt hi3)) dX0_layOthers_81 ?_
    refine gx_iload_3 C dX0_layOthers_82 rfl ?_
    obtain ⟨hi4, h⟩ := gi_ck h
    refine gs_iald (q := (47 + (0 : Int32).toNatClampNeg)) C (ac_X_Bests_least_row hx a (q := (0 : Int32).toNatClampNeg) (gx_in_lt hi3)) (lt_X_Bests_least_row (q := (0 : Int32).toNatClampNeg) (gx_in_lt hi3)) hi4 dX0_layOthers_83 ?_
    refine gx_icmp_ge (tgt := 127) C dX0_layOthers_84 (by decide) (fun hc14 => ?_) (fun hc14 => ?_)
    · have h := gi_t hc14 h
      exact gx_weak (gx_le_k rfl (gx_le_k rfl (gx_le_k rfl (gx_le_k rfl (gx_le_k rfl (gx_le_n gx_le_0)))))) (b_Bests_layOthers_127 hx hr1 C ⟨F, hnL⟩ hk2 hk53 h)
    · have h := gi_f hc14 h
      refine gx_aload_1 C dX0_layOthers_87 rfl ?_
      refine gs_getf (q := (21 + 4 * r1)) C fl_X0_105 (cls_X4 hx) (lt_X_Standing (q := r1) hr1) (oc_X_Standing a ι _ (q := r1) hr1) rfl dX0_layOthers_88 ?_
      refine gx_iload C dX0_layOthers_91 rfl ?_
      obtain ⟨hi5, h⟩ := gi_ck h
      refine gs_iald (q := (21 + 4 * r1 + 2)) C (ac_X_Standing_whose hx a (q := r1) hr1) (lt_X_Standing_whose (q := r1) hr1) hi5 dX0_layOthers_93 ?_
      refine gx_iload_2 C dX0_layOthers_94 rfl ?_
      refine gx_icmp_eq (tgt := 127) C dX0_layOthers_95 (by decide) (fun hc13 => ?_) (fun hc13 => ?_)
      · have h := gi_t hc13 h
        exact gx_weak (gx_le_k rfl (gx_le_k rfl (gx_le_k rfl (gx_le_k rfl (gx_le_k rfl (gx_le_n gx_le_0)))))) (b_Bests_layOthers_127 hx hr1 C ⟨F, hnL⟩ hk2 hk53 h)
      · have h := gi_f hc13 h
        refine gx_aload_1 C dX0_layOthers_98 rfl ?_
        refine gx_iload C dX0_layOthers_99 rfl ?_
        obtain ⟨v7, e6, h⟩ := gi_cp h
        refine gc_IV C (c_Standing_isOpen (gx_l Γ) (gx_D Γ) hx a (r := r1) hr1 _ _ e6) (gx_cw C gx_uu lk_X0_121 (by decide) (by decide)) (cls_X4 hx).1 (gs_recv (q := (21 + 4 * r1)) (lt_X_Standing (q := r1) hr1) (oc_X_Standing a ι _ (q := r1) hr1)) rfl rfl (Nat.le_of_ble_eq_true rfl) ⟨Nat.zero_le _, Nat.zero_le _⟩ dX0_layOthers_101 ?_
        refine gx_if_eq (tgt := 127) C dX0_layOthers_104 (by decide) (fun hc12 => ?_) (fun hc12 => ?_)
        · have h := gi_t hc12 h
          exact gx_weak (gx_le_k rfl (gx_le_k rfl (gx_le_k rfl (gx_le_k rfl (gx_le_k rfl (gx_le_n gx_le_0)))))) (b_Bests_layOthers_127 hx hr1 C ⟨F, hnL⟩ hk2 hk53 h)
        · have h := gi_f hc12 h
          refine gx_aload_0 C dX0_layOthers_107 rfl ?_
          refine gs_getf (q := 41) C fl_X0_26 (cls_X0 hx) lt_X_Bests (oc_X_Bests a ι _) rfl dX0_layOthers_108 ?_
          refine gx_iconst0 C dX0_layOthers_111 ?_
          refine gs_aald (q := 46) C (aq_X_Bests_least hx a) rfl lt_X_Bests_least hi3 (aqf_X_Bests_least a (gx_in_lt hi3)) dX0_layOthers_112 ?_
          refine gx_iload_3 C dX0_layOthers_113 rfl ?_
          refine gx_iload C dX0_layOthers_114 rfl ?_
          obtain ⟨S8, e9, h⟩ := gi_let h
          refine gs_iast (q := (47 + (0 : Int32).toNatClampNeg)) C (ac_X_Bests_least_row hx a (q := (0 : Int32).toNatClampNeg) (gx_in_lt hi3)) (lt_X_Bests_least_row (q := (0 : Int32).toNatClampNeg) (gx_in_lt hi3)) hi4 e9 dX0_layOthers_116 ?_
          refine gx_aload_0 C dX0_layOthers_117 rfl ?_
          refine gs_getf (q := 41) C fl_X0_29 (cls_X0 hx) lt_X_Bests (oc_X_Bests a ι _) rfl dX0_layOthers_118 ?_
          refine gx_iconst0 C dX0_layOthers_121 ?_
          refine gs_aald (q := 51) C (aq_X_Bests_choice hx a) rfl lt_X_Bests_choice hi3 (aqf_X_Bests_choice a (gx_in_lt hi3)) dX0_layOthers_122 ?_
          refine gx_iload_3 C dX0_layOthers_123 rfl ?_
          refine gx_iload C dX0_layOthers_124 rfl ?_
          obtain ⟨S10, e11, h⟩ := gi_let h
          refine gs_iast (q := (52 + (0 : Int32).toNatClampNeg)) C (ac_X_Bests_choice_row hx a (q := (0 : Int32).toNatClampNeg) (gx_in_lt hi3)) (lt_X_Bests_choice_row (q := (0 : Int32).toNatClampNeg) (gx_in_lt hi3)) hi4 e11 dX0_layOthers_126 ?_
          exact gx_weak (gx_le_k rfl (gx_le_k rfl (gx_le_k rfl (gx_le_k rfl (gx_le_k rfl (gx_le_n gx_le_0)))))) (b_Bests_layOthers_127 hx hr1 C ⟨F, hnL⟩ hk2 hk53 h)
def m_Bests_layOthers_2 (r1 : Nat) (x2 : Int32) (t : Int32 × gx_S) (k2 : Int32 × gx_S → Option (gx_S)) : Option (gx_S) := match t with
  | (x3, S) => if (S 1 2) ≤ x3 then some S else gx_ck 4 (0 : Int32) (gx_ck 8 x3 (gx_let (gx_st S (47 + (0 : Int32).toNatClampNeg) x3.toNatClampNeg ((S 9 x3.toNatClampNeg) + (1 : Int32))) fun S3 => gx_let (gx_st S3 (52 + (0 : Int32).toNatClampNeg) x3.toNatClampNeg (-1)) fun S5 => gx_let (gx_st S5 (57 + (0 : Int32).toNatClampNeg) x3.toNatClampNeg 0) fun S7 => gx_loop (m_Bests_layOthers_53 r1 k2 x2 x3) 5000 (0, S7)))
set_option maxRecDepth 20000 in
set_option maxHeartbeats 1000000 in
theorem b_Bests_layOthers_2 {Γ : gx_T} {ι : Nat → ClassId} {a : Nat → Nat} {r1 : Nat} {out : gx_S} (hx : gx_std vwCl (gty ι) (gx_cl Γ) (gx_ty Γ)) (hr1 : r1 < 5) (C : gx_ok Γ cX0_layOthers RX0 gx_U 1) (F : gx_finV Γ ((Option.none : Option Jvm.ClassFile.FieldType)) (wX a ι) out ∧ gx_nL Γ = 6) {k2 : Int32 × gx_S → Option (gx_S)} {x2 : Int32} {x3 : Int32} {S : gx_S} (hk2 : ∀ (x37 : Int32) (S7 : gx_S), k2 (x37, S7) = some out → gx_G Γ 0 0 2 [.ref (a 41), .ref (a (21 + 4 * r1)), .int x2, .int x37, .null, .null] [] (wX a ι S7)) (h : m_Bests_layOthers_2 r1 x2 (x3, S) k2 = some out) : gx_G Γ 0 0 2 [.ref (a 41), .ref (a (21 + 4 * r1)), .int x2, .int x3, .null, .null] [] (wX a ι S) := by
  obtain ⟨F, hnL⟩ := F
  unfold m_Bests_layOthers_2 at h
  dsimp only at h
  refine gx_iload_3 C dX0_layOthers_2 rfl ?_
  refine gx_aload_0 C dX0_layOthers_3 rfl ?_
  refine gs_getf (q := 41) C fl_X0_41 (cls_X0 hx) lt_X_Bests (oc_X_Bests a ι _) rfl dX0_layOthers_4 ?_
  refine gs_getf (q := 1) C fl_X0_112 (cls_X5 hx) lt_X_Street (oc_X_Street a ι _) rfl dX0_layOthers_7 ?_
  refine gx_icmp_ge (tgt := 139) C dX0_layOthers_10 (by decide) (fun hc9 => ?_) (fun hc9 => ?_)
  · have h := gi_t hc9 h
    exact gx_vret C F dX0_layOthers_139 (Option.some.inj h)
  · have h := gi_f hc9 h
    refine gx_aload_0 C dX0_layOthers_13 rfl ?_
    refine gs_getf (q := 41) C fl_X0_26 (cls_X0 hx) lt_X_Bests (oc_X_Bests a ι _) rfl dX0_layOthers_14 ?_
    refine gx_iconst0 C dX0_layOthers_17 ?_
    obtain ⟨hi1, h⟩ := gi_ck h
    refine gs_aald (q := 46) C (aq_X_Bests_least hx a) rfl lt_X_Bests_least hi1 (aqf_X_Bests_least a (gx_in_lt hi1)) dX0_layOthers_18 ?_
    refine gx_iload_3 C dX0_layOthers_19 rfl ?_
    refine gx_aload_0 C dX0_layOthers_20 rfl ?_
    refine gs_getf (q := 41) C fl_X0_41 (cls_X0 hx) lt_X_Bests (oc_X_Bests a ι _) rfl dX0_layOthers_21 ?_
    refine gs_getf (q := 1) C fl_X0_115 (cls_X5 hx) lt_X_Street (oc_X_Street a ι _) rfl dX0_layOthers_24 ?_
    refine gx_iload_3 C dX0_layOthers_27 rfl ?_
    obtain ⟨hi2, h⟩ := gi_ck h
    refine gs_iald (q := 9) C (ac_X_Street_worth hx a) lt_X_Street_worth hi2 dX0_layOthers_28 ?_
    refine gx_iconst1 C dX0_layOthers_29 ?_
    refine gx_iadd C dX0_layOthers_30 ?_
    obtain ⟨S3, e4, h⟩ := gi_let h
    refine gs_iast (q := (47 + (0 : Int32).toNatClampNeg)) C (ac_X_Bests_least_row hx a (q := (0 : Int32).toNatClampNeg) (gx_in_lt hi1)) (lt_X_Bests_least_row (q := (0 : Int32).toNatClampNeg) (gx_in_lt hi1)) hi2 e4 dX0_layOthers_31 ?_
    refine gx_aload_0 C dX0_layOthers_32 rfl ?_
    refine gs_getf (q := 41) C fl_X0_29 (cls_X0 hx) lt_X_Bests (oc_X_Bests a ι _) rfl dX0_layOthers_33 ?_
    refine gx_iconst0 C dX0_layOthers_36 ?_
    refine gs_aald (q := 51) C (aq_X_Bests_choice hx a) rfl lt_X_Bests_choice hi1 (aqf_X_Bests_choice a (gx_in_lt hi1)) dX0_layOthers_37 ?_
    refine gx_iload_3 C dX0_layOthers_38 rfl ?_
    refine gx_iconstm1 C dX0_layOthers_39 ?_
    obtain ⟨S5, e6, h⟩ := gi_let h
    refine gs_iast (q := (52 + (0 : Int32).toNatClampNeg)) C (ac_X_Bests_choice_row hx a (q := (0 : Int32).toNatClampNeg) (gx_in_lt hi1)) (lt_X_Bests_choice_row (q := (0 : Int32).toNatClampNeg) (gx_in_lt hi1)) hi2 e6 dX0_layOthers_40 ?_
    refine gx_aload_0 C dX0_layOthers_41 rfl ?_
    refine gs_getf (q := 41) C fl_X0_32 (cls_X0 hx) lt_X_Bests (oc_X_Bests a ι _) rfl dX0_layOthers_42 ?_
    refine gx_iconst0 C dX0_layOthers_45 ?_
    refine gs_aald (q := 56) C (aq_X_Bests_earns hx a) rfl lt_X_Bests_earns hi1 (aqf_X_Bests_earns a (gx_in_lt hi1)) dX0_layOthers_46 ?_
    refine gx_iload_3 C dX0_layOthers_47 rfl ?_
    refine gx_iconst0 C dX0_layOthers_48 ?_
    obtain ⟨S7, e8, h⟩ := gi_let h
    refine gs_iast (q := (57 + (0 : Int32).toNatClampNeg)) C (ac_X_Bests_earns_row hx a (q := (0 : Int32).toNatClampNeg) (gx_in_lt hi1)) (lt_X_Bests_earns_row (q := (0 : Int32).toNatClampNeg) (gx_in_lt hi1)) hi2 e8 dX0_layOthers_49 ?_
    refine gx_iconst0 C dX0_layOthers_50 ?_
    refine gx_istore C dX0_layOthers_51 (by rw [hnL]; decide) trivial ?_
    refine gx_weak (gx_le_k rfl (gx_le_k rfl (gx_le_k rfl (gx_le_k rfl (gx_le_k rfl (gx_le_n gx_le_0)))))) (gi_loop (P := fun t => gx_G Γ 0 0 53 [.ref (a 41), .ref (a (21 + 4 * r1)), .int x2, .int x3, .int t.1, .null] [] (wX a ι t.2)) (fun kk t hk h => ?_) 5000 _ h)
    obtain ⟨x49, S'9⟩ := t
    exact b_Bests_layOthers_53 hx hr1 C ⟨F, hnL⟩ hk2 (k53 := kk) (fun x48 S'8 h => hk (x48, S'8) h) h
def m_Bests_layOthers (r1 : Nat) (x2 : Int32) (S : gx_S) : Option (gx_S) := gx_loop (m_Bests_layOthers_2 r1 x2) 5000 (0, S)
set_option maxRecDepth 20000 in
set_option maxHeartbeats 1000000 in
theorem c_Bests_layOthers (l : Launch) (D : va_G) {cl : List vw_C} {tys : List (ClassId × FieldType)} {ι : Nat → ClassId} (hx : gx_std vwCl (gty ι) cl tys) (a : Nat → Nat) {r1 : Nat} (hr1 : r1 < 5) (x2 : Int32) (S : gx_S) {out : gx_S} (h : m_Bests_layOthers r1 x2 S = some out) : gx_mV l D cl tys yX0_layOthers (.code yX0_layOthers cX0_layOthers 6 ((Option.none : Option Jvm.ClassFile.FieldType)) :: gx_U) (gx_rm 1) [.ref (a 41), .ref (a (21 + 4 * r1)), .int x2] (wX a ι S) (wX a ι) out := by
  unfold m_Bests_layOthers at h
  refine gx_startV (V := [.ref (a 41), .ref (a (21 + 4 * r1)), .int x2, .null, .null, .null]) 3 (by decide +kernel) (Nat.le_of_ble_eq_true rfl) rfl (fun Γ hl hD hcl hty hnL C F => ?_)
  subst hl; subst hD; subst hcl; subst hty
  refine gx_iconst0 C dX0_layOthers_0 ?_
  refine gx_istore_3 C dX0_layOthers_1 (by rw [hnL]; decide) trivial ?_
  refine gx_weak (gx_le_k rfl (gx_le_k rfl (gx_le_k rfl (gx_le_k rfl (gx_le_n (gx_le_n gx_le_0)))))) (gi_loop (P := fun t => gx_G Γ 0 0 2 [.ref (a 41), .ref (a (21 + 4 * r1)), .int x2, .int t.1, .null, .null] [] (wX a ι t.2)) (fun kk t hk h => ?_) 5000 _ h)
  obtain ⟨x39, S'9⟩ := t
  exact b_Bests_layOthers_2 hx hr1 C ⟨F, hnL⟩ (k2 := kk) (fun x38 S'8 h => hk (x38, S'8) h) h
def m_Bests_highestFor (x1 : Int32) (x2 : Int32) (S : gx_S) : Option (Int32) := gx_ck 3 x1 (gx_ck 4 x1 (gx_ck 8 x2 (gx_ck 6 (S 42 x1.toNatClampNeg) (if (S (52 + x1.toNatClampNeg) x2.toNatClampNeg) ≤ (S 42 x1.toNatClampNeg) then some (((S (47 + x1.toNatClampNeg) x2.toNatClampNeg) - (S (13 + x2.toNatClampNeg) (S 42 x1.toNatClampNeg).toNatClampNeg)) - (1 : Int32)) else some ((S (47 + x1.toNatClampNeg) x2.toNatClampNeg) - (S (13 + x2.toNatClampNeg) (S 42 x1.toNatClampNeg).toNatClampNeg))))))
set_option maxRecDepth 20000 in
set_option maxHeartbeats 1000000 in
theorem c_Bests_highestFor (l : Launch) (D : va_G) {cl : List vw_C} {tys : List (ClassId × FieldType)} {ι : Nat → ClassId} (hx : gx_std vwCl (gty ι) cl tys) (a : Nat → Nat) (x1 : Int32) (x2 : Int32) (S : gx_S) {out : Int32} (h : m_Bests_highestFor x1 x2 S = some out) : gx_mI l D cl tys yX0_highestFor (.code yX0_highestFor cX0_highestFor 5 ((Option.some Jvm.ClassFile.FieldType.int)) :: gx_U) (gx_rm 0) [.ref (a 41), .int x1, .int x2] (wX a ι S) (wX a ι) (out, S) := by
  unfold m_Bests_highestFor at h
  refine gx_startI (V := [.ref (a 41), .int x1, .int x2, .null, .null]) 2 (by decide +kernel) (Nat.le_of_ble_eq_true rfl) rfl (fun Γ hl hD hcl hty hnL C F => ?_)
  subst hl; subst hD; subst hcl; subst hty
  refine gx_aload_0 C dX0_highestFor_0 rfl ?_
  refine gs_getf (q := 41) C fl_X0_9 (cls_X0 hx) lt_X_Bests (oc_X_Bests a ι _) rfl dX0_highestFor_1 ?_
  refine gx_iload_1 C dX0_highestFor_4 rfl ?_
  obtain ⟨hi1, h⟩ := gi_ck h
  refine gs_iald (q := 42) C (ac_X_Bests_own hx a) lt_X_Bests_own hi1 dX0_highestFor_5 ?_
  refine gx_istore_3 C dX0_highestFor_6 (by rw [hnL]; decide) trivial ?_
  refine gx_aload_0 C dX0_highestFor_7 rfl ?_
  refine gs_getf (q := 41) C fl_X0_26 (cls_X0 hx) lt_X_Bests (oc_X_Bests a ι _) rfl dX0_highestFor_8 ?_
  refine gx_iload_1 C dX0_highestFor_11 rfl ?_
  obtain ⟨hi2, h⟩ := gi_ck h
  refine gs_aald (q := 46) C (aq_X_Bests_least hx a) rfl lt_X_Bests_least hi2 (aqf_X_Bests_least a (gx_in_lt hi2)) dX0_highestFor_12 ?_
  refine gx_iload_2 C dX0_highestFor_13 rfl ?_
  obtain ⟨hi3, h⟩ := gi_ck h
  refine gs_iald (q := (47 + x1.toNatClampNeg)) C (ac_X_Bests_least_row hx a (q := x1.toNatClampNeg) (gx_in_lt hi2)) (lt_X_Bests_least_row (q := x1.toNatClampNeg) (gx_in_lt hi2)) hi3 dX0_highestFor_14 ?_
  refine gx_aload_0 C dX0_highestFor_15 rfl ?_
  refine gs_getf (q := 41) C fl_X0_41 (cls_X0 hx) lt_X_Bests (oc_X_Bests a ι _) rfl dX0_highestFor_16 ?_
  refine gs_getf (q := 1) C fl_X0_141 (cls_X5 hx) lt_X_Street (oc_X_Street a ι _) rfl dX0_highestFor_19 ?_
  refine gx_iload_2 C dX0_highestFor_22 rfl ?_
  refine gs_aald (q := 12) C (aq_X_Street_beside hx a) rfl lt_X_Street_beside hi3 (aqf_X_Street_beside a (gx_in_lt hi3)) dX0_highestFor_23 ?_
  refine gx_iload_3 C dX0_highestFor_24 rfl ?_
  obtain ⟨hi4, h⟩ := gi_ck h
  refine gs_iald (q := (13 + x2.toNatClampNeg)) C (ac_X_Street_beside_row hx a (q := x2.toNatClampNeg) (gx_in_lt hi3)) (lt_X_Street_beside_row (q := x2.toNatClampNeg) (gx_in_lt hi3)) hi4 dX0_highestFor_25 ?_
  refine gx_isub C dX0_highestFor_26 ?_
  refine gx_istore C dX0_highestFor_27 (by rw [hnL]; decide) trivial ?_
  refine gx_iload_3 C dX0_highestFor_29 rfl ?_
  refine gx_aload_0 C dX0_highestFor_30 rfl ?_
  refine gs_getf (q := 41) C fl_X0_29 (cls_X0 hx) lt_X_Bests (oc_X_Bests a ι _) rfl dX0_highestFor_31 ?_
  refine gx_iload_1 C dX0_highestFor_34 rfl ?_
  refine gs_aald (q := 51) C (aq_X_Bests_choice hx a) rfl lt_X_Bests_choice hi2 (aqf_X_Bests_choice a (gx_in_lt hi2)) dX0_highestFor_35 ?_
  refine gx_iload_2 C dX0_highestFor_36 rfl ?_
  refine gs_iald (q := (52 + x1.toNatClampNeg)) C (ac_X_Bests_choice_row hx a (q := x1.toNatClampNeg) (gx_in_lt hi2)) (lt_X_Bests_choice_row (q := x1.toNatClampNeg) (gx_in_lt hi2)) hi3 dX0_highestFor_37 ?_
  refine gx_icmp_ge (tgt := 46) C dX0_highestFor_38 (by decide) (fun hc5 => ?_) (fun hc5 => ?_)
  · have h := gi_t hc5 h
    refine gx_iload C dX0_highestFor_46 rfl ?_
    refine gx_iconst1 C dX0_highestFor_48 ?_
    refine gx_isub C dX0_highestFor_49 ?_
    exact gx_iret C F rfl dX0_highestFor_50 (congrArg (fun z => (z, S)) (Option.some.inj h))
  · have h := gi_f hc5 h
    refine gx_iload C dX0_highestFor_41 rfl ?_
    refine gx_goto (tgt := 50) C dX0_highestFor_43 (by decide) ?_
    exact gx_iret C F rfl dX0_highestFor_50 (congrArg (fun z => (z, S)) (Option.some.inj h))
def m_Bests_putPrice_153 (k17 : Int32 × gx_S → Option (gx_S)) (x1 : Int32) (x2 : Int32) (x3 : Int32) (x4 : Int32) (q0 : Nat) (s1 : Int32) (s2 : Int32) (S : gx_S) : Option (gx_S) := gx_ck 8 s1 (gx_let (gx_st S (57 + q0) s1.toNatClampNeg s2) fun S2 => k17 ((x4 + 1), S2))
set_option maxRecDepth 20000 in
set_option maxHeartbeats 1000000 in
theorem b_Bests_putPrice_153 {Γ : gx_T} {ι : Nat → ClassId} {a : Nat → Nat} {out : gx_S} (hx : gx_std vwCl (gty ι) (gx_cl Γ) (gx_ty Γ)) (C : gx_ok Γ cX0_putPrice RX0 gx_U 1) (F : gx_finV Γ ((Option.none : Option Jvm.ClassFile.FieldType)) (wX a ι) out ∧ gx_nL Γ = 6) {k17 : Int32 × gx_S → Option (gx_S)} {x1 : Int32} {x2 : Int32} {x3 : Int32} {x4 : Int32} {q0 : Nat} {s1 : Int32} {s2 : Int32} {S : gx_S} (hk17 : ∀ (x47 : Int32) (S7 : gx_S), k17 (x47, S7) = some out → gx_G Γ 0 0 17 [.ref (a 41), .int x1, .int x2, .int x3, .int x47, .null] [] (wX a ι S7)) (hq0 : q0 < 4) (h : m_Bests_putPrice_153 k17 x1 x2 x3 x4 q0 s1 s2 S = some out) : gx_G Γ 0 0 153 [.ref (a 41), .int x1, .int x2, .int x3, .int x4, .null] [.int s2, .int s1, .ref (a (57 + q0))] (wX a ι S) := by
  obtain ⟨F, hnL⟩ := F
  unfold m_Bests_putPrice_153 at h
  obtain ⟨hi1, h⟩ := gi_ck h
  obtain ⟨S2, e3, h⟩ := gi_let h
  refine gs_iast (q := (57 + q0)) C (ac_X_Bests_earns_row hx a (q := q0) hq0) (lt_X_Bests_earns_row (q := q0) hq0) hi1 e3 dX0_putPrice_153 ?_
  refine gx_iinc1 C dX0_putPrice_154 rfl (by rw [hnL]; decide) trivial ?_
  refine gx_goto (tgt := 17) C dX0_putPrice_157 (by decide) ?_
  exact gx_weak (gx_le_k rfl (gx_le_k rfl (gx_le_k rfl (gx_le_k rfl (gx_le_k rfl (gx_le_n gx_le_0)))))) (hk17 _ _ h)
def m_Bests_putPrice_117 (k17 : Int32 × gx_S → Option (gx_S)) (x1 : Int32) (x2 : Int32) (x3 : Int32) (x4 : Int32) (x5 : Int32) (q0 : Nat) (s1 : Int32) (s2 : Int32) (S : gx_S) : Option (gx_S) := gx_ck 8 s1 (gx_let (gx_st S (52 + q0) s1.toNatClampNeg s2) fun S2 => gx_ck 4 (x1 + (1 : Int32)) (if x5 = 0 then gx_ck 4 x1 (gx_ck 8 x4 (m_Bests_putPrice_153 k17 x1 x2 x3 x4 ((x1 + (1 : Int32)).toNatClampNeg) x4 (S2 (57 + x1.toNatClampNeg) x4.toNatClampNeg) S2)) else gx_ck 3 x1 (m_Bests_putPrice_153 k17 x1 x2 x3 x4 ((x1 + (1 : Int32)).toNatClampNeg) x4 (x2 - (S2 43 x1.toNatClampNeg)) S2)))
set_option maxRecDepth 20000 in
set_option maxHeartbeats 1000000 in
theorem b_Bests_putPrice_117 {Γ : gx_T} {ι : Nat → ClassId} {a : Nat → Nat} {out : gx_S} (hx : gx_std vwCl (gty ι) (gx_cl Γ) (gx_ty Γ)) (C : gx_ok Γ cX0_putPrice RX0 gx_U 1) (F : gx_finV Γ ((Option.none : Option Jvm.ClassFile.FieldType)) (wX a ι) out ∧ gx_nL Γ = 6) {k17 : Int32 × gx_S → Option (gx_S)} {x1 : Int32} {x2 : Int32} {x3 : Int32} {x4 : Int32} {x5 : Int32} {q0 : Nat} {s1 : Int32} {s2 : Int32} {S : gx_S} (hk17 : ∀ (x47 : Int32) (S7 : gx_S), k17 (x47, S7) = some out → gx_G Γ 0 0 17 [.ref (a 41), .int x1, .int x2, .int x3, .int x47, .null] [] (wX a ι S7)) (hq0 : q0 < 4) (h : m_Bests_putPrice_117 k17 x1 x2 x3 x4 x5 q0 s1 s2 S = some out) : gx_G Γ 0 0 117 [.ref (a 41), .int x1, .int x2, .int x3, .int x4, .int x5] [.int s2, .int s1, .ref (a (52 + q0))] (wX a ι S) := by
  obtain ⟨F, hnL⟩ := F
  unfold m_Bests_putPrice_117 at h
  obtain ⟨hi1, h⟩ := gi_ck h
  obtain ⟨S2, e3, h⟩ := gi_let h
  refine gs_iast (q := (52 + q0)) C (ac_X_Bests_choice_row hx a (q := q0) hq0) (lt_X_Bests_choice_row (q := q0) hq0) hi1 e3 dX0_putPrice_117 ?_
  refine gx_aload_0 C dX0_putPrice_118 rfl ?_
  refine gs_getf (q := 41) C fl_X0_32 (cls_X0 hx) lt_X_Bests (oc_X_Bests a ι _) rfl dX0_putPrice_119 ?_
  refine gx_iload_1 C dX0_putPrice_122 rfl ?_
  refine gx_iconst1 C dX0_putPrice_123 ?_
  refine gx_iadd C dX0_putPrice_124 ?_
  obtain ⟨hi4, h⟩ := gi_ck h
  refine gs_aald (q := 56) C (aq_X_Bests_earns hx a) rfl lt_X_Bests_earns hi4 (aqf_X_Bests_earns a (gx_in_lt hi4)) dX0_putPrice_125 ?_
  refine gx_iload C dX0_putPrice_126 rfl ?_
  refine gx_iload C dX0_putPrice_128 rfl ?_
  refine gx_if_eq (tgt := 144) C dX0_putPrice_130 (by decide) (fun hc8 => ?_) (fun hc8 => ?_)
  · have h := gi_t hc8 h
    refine gx_aload_0 C dX0_putPrice_144 rfl ?_
    refine gs_getf (q := 41) C fl_X0_32 (cls_X0 hx) lt_X_Bests (oc_X_Bests a ι _) rfl dX0_putPrice_145 ?_
    refine gx_iload_1 C dX0_putPrice_148 rfl ?_
    obtain ⟨hi5, h⟩ := gi_ck h
    refine gs_aald (q := 56) C (aq_X_Bests_earns hx a) rfl lt_X_Bests_earns hi5 (aqf_X_Bests_earns a (gx_in_lt hi5)) dX0_putPrice_149 ?_
    refine gx_iload C dX0_putPrice_150 rfl ?_
    obtain ⟨hi6, h⟩ := gi_ck h
    refine gs_iald (q := (57 + x1.toNatClampNeg)) C (ac_X_Bests_earns_row hx a (q := x1.toNatClampNeg) (gx_in_lt hi5)) (lt_X_Bests_earns_row (q := x1.toNatClampNeg) (gx_in_lt hi5)) hi6 dX0_putPrice_152 ?_
    exact gx_weak (gx_le_k rfl (gx_le_k rfl (gx_le_k rfl (gx_le_k rfl (gx_le_k rfl (gx_le_n gx_le_0)))))) (b_Bests_putPrice_153 hx C ⟨F, hnL⟩ hk17 (gx_in_lt hi4) h)
  · have h := gi_f hc8 h
    refine gx_iload_2 C dX0_putPrice_133 rfl ?_
    refine gx_aload_0 C dX0_putPrice_134 rfl ?_
    refine gs_getf (q := 41) C fl_X0_15 (cls_X0 hx) lt_X_Bests (oc_X_Bests a ι _) rfl dX0_putPrice_135 ?_
    refine gx_iload_1 C dX0_putPrice_138 rfl ?_
    obtain ⟨hi7, h⟩ := gi_ck h
    refine gs_iald (q := 43) C (ac_X_Bests_ownCost hx a) lt_X_Bests_ownCost hi7 dX0_putPrice_139 ?_
    refine gx_isub C dX0_putPrice_140 ?_
    refine gx_goto (tgt := 153) C dX0_putPrice_141 (by decide) ?_
    exact gx_weak (gx_le_k rfl (gx_le_k rfl (gx_le_k rfl (gx_le_k rfl (gx_le_k rfl (gx_le_n gx_le_0)))))) (b_Bests_putPrice_153 hx C ⟨F, hnL⟩ hk17 (gx_in_lt hi4) h)
def m_Bests_putPrice_88 (k17 : Int32 × gx_S → Option (gx_S)) (x1 : Int32) (x2 : Int32) (x3 : Int32) (x4 : Int32) (x5 : Int32) (q0 : Nat) (s1 : Int32) (s2 : Int32) (S : gx_S) : Option (gx_S) := gx_ck 8 s1 (gx_let (gx_st S (47 + q0) s1.toNatClampNeg s2) fun S2 => gx_ck 4 (x1 + (1 : Int32)) (if x5 = 0 then gx_ck 4 x1 (gx_ck 8 x4 (m_Bests_putPrice_117 k17 x1 x2 x3 x4 x5 ((x1 + (1 : Int32)).toNatClampNeg) x4 (S2 (52 + x1.toNatClampNeg) x4.toNatClampNeg) S2)) else m_Bests_putPrice_117 k17 x1 x2 x3 x4 x5 ((x1 + (1 : Int32)).toNatClampNeg) x4 x3 S2))
set_option maxRecDepth 20000 in
set_option maxHeartbeats 1000000 in
theorem b_Bests_putPrice_88 {Γ : gx_T} {ι : Nat → ClassId} {a : Nat → Nat} {out : gx_S} (hx : gx_std vwCl (gty ι) (gx_cl Γ) (gx_ty Γ)) (C : gx_ok Γ cX0_putPrice RX0 gx_U 1) (F : gx_finV Γ ((Option.none : Option Jvm.ClassFile.FieldType)) (wX a ι) out ∧ gx_nL Γ = 6) {k17 : Int32 × gx_S → Option (gx_S)} {x1 : Int32} {x2 : Int32} {x3 : Int32} {x4 : Int32} {x5 : Int32} {q0 : Nat} {s1 : Int32} {s2 : Int32} {S : gx_S} (hk17 : ∀ (x47 : Int32) (S7 : gx_S), k17 (x47, S7) = some out → gx_G Γ 0 0 17 [.ref (a 41), .int x1, .int x2, .int x3, .int x47, .null] [] (wX a ι S7)) (hq0 : q0 < 4) (h : m_Bests_putPrice_88 k17 x1 x2 x3 x4 x5 q0 s1 s2 S = some out) : gx_G Γ 0 0 88 [.ref (a 41), .int x1, .int x2, .int x3, .int x4, .int x5] [.int s2, .int s1, .ref (a (47 + q0))] (wX a ι S) := by
  obtain ⟨F, hnL⟩ := F
  unfold m_Bests_putPrice_88 at h
  obtain ⟨hi1, h⟩ := gi_ck h
  obtain ⟨S2, e3, h⟩ := gi_let h
  refine gs_iast (q := (47 + q0)) C (ac_X_Bests_least_row hx a (q := q0) hq0) (lt_X_Bests_least_row (q := q0) hq0) hi1 e3 dX0_putPrice_88 ?_
  refine gx_aload_0 C dX0_putPrice_89 rfl ?_
  refine gs_getf (q := 41) C fl_X0_29 (cls_X0 hx) lt_X_Bests (oc_X_Bests a ι _) rfl dX0_putPrice_90 ?_
  refine gx_iload_1 C dX0_putPrice_93 rfl ?_
  refine gx_iconst1 C dX0_putPrice_94 ?_
  refine gx_iadd C dX0_putPrice_95 ?_
  obtain ⟨hi4, h⟩ := gi_ck h
  refine gs_aald (q := 51) C (aq_X_Bests_choice hx a) rfl lt_X_Bests_choice hi4 (aqf_X_Bests_choice a (gx_in_lt hi4)) dX0_putPrice_96 ?_
  refine gx_iload C dX0_putPrice_97 rfl ?_
  refine gx_iload C dX0_putPrice_99 rfl ?_
  refine gx_if_eq (tgt := 108) C dX0_putPrice_101 (by decide) (fun hc7 => ?_) (fun hc7 => ?_)
  · have h := gi_t hc7 h
    refine gx_aload_0 C dX0_putPrice_108 rfl ?_
    refine gs_getf (q := 41) C fl_X0_29 (cls_X0 hx) lt_X_Bests (oc_X_Bests a ι _) rfl dX0_putPrice_109 ?_
    refine gx_iload_1 C dX0_putPrice_112 rfl ?_
    obtain ⟨hi5, h⟩ := gi_ck h
    refine gs_aald (q := 51) C (aq_X_Bests_choice hx a) rfl lt_X_Bests_choice hi5 (aqf_X_Bests_choice a (gx_in_lt hi5)) dX0_putPrice_113 ?_
    refine gx_iload C dX0_putPrice_114 rfl ?_
    obtain ⟨hi6, h⟩ := gi_ck h
    refine gs_iald (q := (52 + x1.toNatClampNeg)) C (ac_X_Bests_choice_row hx a (q := x1.toNatClampNeg) (gx_in_lt hi5)) (lt_X_Bests_choice_row (q := x1.toNatClampNeg) (gx_in_lt hi5)) hi6 dX0_putPrice_116 ?_
    exact gx_weak (gx_le_k rfl (gx_le_k rfl (gx_le_k rfl (gx_le_k rfl (gx_le_k rfl (gx_le_k rfl gx_le_0)))))) (b_Bests_putPrice_117 hx C ⟨F, hnL⟩ hk17 (gx_in_lt hi4) h)
  · have h := gi_f hc7 h
    refine gx_iload_3 C dX0_putPrice_104 rfl ?_
    refine gx_goto (tgt := 117) C dX0_putPrice_105 (by decide) ?_
    exact gx_weak (gx_le_k rfl (gx_le_k rfl (gx_le_k rfl (gx_le_k rfl (gx_le_k rfl (gx_le_k rfl gx_le_0)))))) (b_Bests_putPrice_117 hx C ⟨F, hnL⟩ hk17 (gx_in_lt hi4) h)
def m_Bests_putPrice_45 (k17 : Int32 × gx_S → Option (gx_S)) (x1 : Int32) (x2 : Int32) (x3 : Int32) (x4 : Int32) (s0 : Int32) (S : gx_S) : Option (gx_S) := gx_ck 4 (x1 + (1 : Int32)) (if s0 = 0 then gx_ck 4 x1 (gx_ck 8 x4 (m_Bests_putPrice_88 k17 x1 x2 x3 x4 s0 ((x1 + (1 : Int32)).toNatClampNeg) x4 (S (47 + x1.toNatClampNeg) x4.toNatClampNeg) S)) else gx_ck 8 x4 (gx_ck 6 x3 (m_Bests_putPrice_88 k17 x1 x2 x3 x4 s0 ((x1 + (1 : Int32)).toNatClampNeg) x4 (x2 + (S (13 + x4.toNatClampNeg) x3.toNatClampNeg)) S)))
set_option maxRecDepth 20000 in
set_option maxHeartbeats 1000000 in
theorem b_Bests_putPrice_45 {Γ : gx_T} {ι : Nat → ClassId} {a : Nat → Nat} {out : gx_S} (hx : gx_std vwCl (gty ι) (gx_cl Γ) (gx_ty Γ)) (C : gx_ok Γ cX0_putPrice RX0 gx_U 1) (F : gx_finV Γ ((Option.none : Option Jvm.ClassFile.FieldType)) (wX a ι) out ∧ gx_nL Γ = 6) {k17 : Int32 × gx_S → Option (gx_S)} {x1 : Int32} {x2 : Int32} {x3 : Int32} {x4 : Int32} {s0 : Int32} {S : gx_S} (hk17 : ∀ (x47 : Int32) (S7 : gx_S), k17 (x47, S7) = some out → gx_G Γ 0 0 17 [.ref (a 41), .int x1, .int x2, .int x3, .int x47, .null] [] (wX a ι S7)) (h : m_Bests_putPrice_45 k17 x1 x2 x3 x4 s0 S = some out) : gx_G Γ 0 0 45 [.ref (a 41), .int x1, .int x2, .int x3, .int x4, .null] [.int s0] (wX a ι S) := by
  obtain ⟨F, hnL⟩ := F
  unfold m_Bests_putPrice_45 at h
  refine gx_istore C dX0_putPrice_45 (by rw [hnL]; decide) trivial ?_
  refine gx_aload_0 C dX0_putPrice_47 rfl ?_
  refine gs_getf (q := 41) C fl_X0_26 (cls_X0 hx) lt_X_Bests (oc_X_Bests a ι _) rfl dX0_putPrice_48 ?_
  refine gx_iload_1 C dX0_putPrice_51 rfl ?_
  refine gx_iconst1 C dX0_putPrice_52 ?_
  refine gx_iadd C dX0_putPrice_53 ?_
  obtain ⟨hi1, h⟩ := gi_ck h
  refine gs_aald (q := 46) C (aq_X_Bests_least hx a) rfl lt_X_Bests_least hi1 (aqf_X_Bests_least a (gx_in_lt hi1)) dX0_putPrice_54 ?_
  refine gx_iload C dX0_putPrice_55 rfl ?_
  refine gx_iload C dX0_putPrice_57 rfl ?_
  refine gx_if_eq (tgt := 79) C dX0_putPrice_59 (by decide) (fun hc6 => ?_) (fun hc6 => ?_)
  · have h := gi_t hc6 h
    refine gx_aload_0 C dX0_putPrice_79 rfl ?_
    refine gs_getf (q := 41) C fl_X0_26 (cls_X0 hx) lt_X_Bests (oc_X_Bests a ι _) rfl dX0_putPrice_80 ?_
    refine gx_iload_1 C dX0_putPrice_83 rfl ?_
    obtain ⟨hi2, h⟩ := gi_ck h
    refine gs_aald (q := 46) C (aq_X_Bests_least hx a) rfl lt_X_Bests_least hi2 (aqf_X_Bests_least a (gx_in_lt hi2)) dX0_putPrice_84 ?_
    refine gx_iload C dX0_putPrice_85 rfl ?_
    obtain ⟨hi3, h⟩ := gi_ck h
    refine gs_iald (q := (47 + x1.toNatClampNeg)) C (ac_X_Bests_least_row hx a (q := x1.toNatClampNeg) (gx_in_lt hi2)) (lt_X_Bests_least_row (q := x1.toNatClampNeg) (gx_in_lt hi2)) hi3 dX0_putPrice_87 ?_
    exact gx_weak (gx_le_k rfl (gx_le_k rfl (gx_le_k rfl (gx_le_k rfl (gx_le_k rfl (gx_le_k rfl gx_le_0)))))) (b_Bests_putPrice_88 hx C ⟨F, hnL⟩ hk17 (gx_in_lt hi1) h)
  · have h := gi_f hc6 h
    refine gx_iload_2 C dX0_putPrice_62 rfl ?_
    refine gx_aload_0 C dX0_putPrice_63 rfl ?_
    refine gs_getf (q := 41) C fl_X0_41 (cls_X0 hx) lt_X_Bests (oc_X_Bests a ι _) rfl dX0_putPrice_64 ?_
    refine gs_getf (q := 1) C fl_X0_141 (cls_X5 hx) lt_X_Street (oc_X_Street a ι _) rfl dX0_putPrice_67 ?_
    refine gx_iload C dX0_putPrice_70 rfl ?_
    obtain ⟨hi4, h⟩ := gi_ck h
    refine gs_aald (q := 12) C (aq_X_Street_beside hx a) rfl lt_X_Street_beside hi4 (aqf_X_Street_beside a (gx_in_lt hi4)) dX0_putPrice_72 ?_
    refine gx_iload_3 C dX0_putPrice_73 rfl ?_
    obtain ⟨hi5, h⟩ := gi_ck h
    refine gs_iald (q := (13 + x4.toNatClampNeg)) C (ac_X_Street_beside_row hx a (q := x4.toNatClampNeg) (gx_in_lt hi4)) (lt_X_Street_beside_row (q := x4.toNatClampNeg) (gx_in_lt hi4)) hi5 dX0_putPrice_74 ?_
    refine gx_iadd C dX0_putPrice_75 ?_
    refine gx_goto (tgt := 88) C dX0_putPrice_76 (by decide) ?_
    exact gx_weak (gx_le_k rfl (gx_le_k rfl (gx_le_k rfl (gx_le_k rfl (gx_le_k rfl (gx_le_k rfl gx_le_0)))))) (b_Bests_putPrice_88 hx C ⟨F, hnL⟩ hk17 (gx_in_lt hi1) h)
def m_Bests_putPrice_17 (x1 : Int32) (x2 : Int32) (x3 : Int32) (t : Int32 × gx_S) (k17 : Int32 × gx_S → Option (gx_S)) : Option (gx_S) := match t with
  | (x4, S) => if (S 1 2) ≤ x4 then some S else gx_cp (m_Bests_highestFor x1 x4 S) fun v2 => if v2 < x2 then m_Bests_putPrice_45 k17 x1 x2 x3 x4 0 S else m_Bests_putPrice_45 k17 x1 x2 x3 x4 1 S
set_option maxRecDepth 20000 in
set_option maxHeartbeats 1000000 in
theorem b_Bests_putPrice_17 {Γ : gx_T} {ι : Nat → ClassId} {a : Nat → Nat} {out : gx_S} (hx : gx_std vwCl (gty ι) (gx_cl Γ) (gx_ty Γ)) (C : gx_ok Γ cX0_putPrice RX0 gx_U 1) (F : gx_finV Γ ((Option.none : Option Jvm.ClassFile.FieldType)) (wX a ι) out ∧ gx_nL Γ = 6) {k17 : Int32 × gx_S → Option (gx_S)} {x1 : Int32} {x2 : Int32} {x3 : Int32} {x4 : Int32} {S : gx_S} (hk17 : ∀ (x47 : Int32) (S7 : gx_S), k17 (x47, S7) = some out → gx_G Γ 0 0 17 [.ref (a 41), .int x1, .int x2, .int x3, .int x47, .null] [] (wX a ι S7)) (h : m_Bests_putPrice_17 x1 x2 x3 (x4, S) k17 = some out) : gx_G Γ 0 0 17 [.ref (a 41), .int x1, .int x2, .int x3, .int x4, .null] [] (wX a ι S) := by
  obtain ⟨F, hnL⟩ := F
  unfold m_Bests_putPrice_17 at h
  dsimp only at h
  refine gx_iload C dX0_putPrice_17 rfl ?_
  refine gx_aload_0 C dX0_putPrice_19 rfl ?_
  refine gs_getf (q := 41) C fl_X0_41 (cls_X0 hx) lt_X_Bests (oc_X_Bests a ι _) rfl dX0_putPrice_20 ?_
  refine gs_getf (q := 1) C fl_X0_112 (cls_X5 hx) lt_X_Street (oc_X_Street a ι _) rfl dX0_putPrice_23 ?_
  refine gx_icmp_ge (tgt := 160) C dX0_putPrice_26 (by decide) (fun hc4 => ?_) (fun hc4 => ?_)
  · have h := gi_t hc4 h
    exact gx_vret C F dX0_putPrice_160 (Option.some.inj h)
  · have h := gi_f hc4 h
    refine gx_iload_2 C dX0_putPrice_29 rfl ?_
    refine gx_aload_0 C dX0_putPrice_30 rfl ?_
    refine gx_iload_1 C dX0_putPrice_31 rfl ?_
    refine gx_iload C dX0_putPrice_32 rfl ?_
    obtain ⟨v2, e1, h⟩ := gi_cp h
    refine gc_IV C (c_Bests_highestFor (gx_l Γ) (gx_D Γ) hx a _ _ _ e1) (gx_cw C gx_uu lk_X0_138 (by decide) (by decide)) (cls_X0 hx).1 (gs_recv (q := 41) lt_X_Bests (oc_X_Bests a ι _)) rfl rfl (Nat.le_of_ble_eq_true rfl) ⟨Nat.zero_le _, Nat.zero_le _⟩ dX0_putPrice_34 ?_
    refine gx_icmp_gt (tgt := 44) C dX0_putPrice_37 (by decide) (fun hc3 => ?_) (fun hc3 => ?_)
    · have h := gi_t hc3 h
      refine gx_iconst0 C dX0_putPrice_44 ?_
      exact gx_weak (gx_le_k rfl (gx_le_k rfl (gx_le_k rfl (gx_le_k rfl (gx_le_k rfl (gx_le_n gx_le_0)))))) (b_Bests_putPrice_45 hx C ⟨F, hnL⟩ hk17 h)
    · have h := gi_f hc3 h
      refine gx_iconst1 C dX0_putPrice_40 ?_
      refine gx_goto (tgt := 45) C dX0_putPrice_41 (by decide) ?_
      exact gx_weak (gx_le_k rfl (gx_le_k rfl (gx_le_k rfl (gx_le_k rfl (gx_le_k rfl (gx_le_n gx_le_0)))))) (b_Bests_putPrice_45 hx C ⟨F, hnL⟩ hk17 h)
def m_Bests_putPrice (x1 : Int32) (x2 : Int32) (S : gx_S) : Option (gx_S) := gx_ck 3 x1 (gx_let (gx_st S 44 x1.toNatClampNeg x2) fun S2 => gx_loop (m_Bests_putPrice_17 x1 x2 (S2 42 x1.toNatClampNeg)) 5000 (0, S2))
set_option maxRecDepth 20000 in
set_option maxHeartbeats 1000000 in
theorem c_Bests_putPrice (l : Launch) (D : va_G) {cl : List vw_C} {tys : List (ClassId × FieldType)} {ι : Nat → ClassId} (hx : gx_std vwCl (gty ι) cl tys) (a : Nat → Nat) (x1 : Int32) (x2 : Int32) (S : gx_S) {out : gx_S} (h : m_Bests_putPrice x1 x2 S = some out) : gx_mV l D cl tys yX0_putPrice (.code yX0_putPrice cX0_putPrice 6 ((Option.none : Option Jvm.ClassFile.FieldType)) :: gx_U) (gx_rm 1) [.ref (a 41), .int x1, .int x2] (wX a ι S) (wX a ι) out := by
  unfold m_Bests_putPrice at h
  refine gx_startV (V := [.ref (a 41), .int x1, .int x2, .null, .null, .null]) 3 (by decide +kernel) (Nat.le_of_ble_eq_true rfl) rfl (fun Γ hl hD hcl hty hnL C F => ?_)
  subst hl; subst hD; subst hcl; subst hty
  refine gx_aload_0 C dX0_putPrice_0 rfl ?_
  refine gs_getf (q := 41) C fl_X0_18 (cls_X0 hx) lt_X_Bests (oc_X_Bests a ι _) rfl dX0_putPrice_1 ?_
  refine gx_iload_1 C dX0_putPrice_4 rfl ?_
  refine gx_iload_2 C dX0_putPrice_5 rfl ?_
  obtain ⟨hi1, h⟩ := gi_ck h
  obtain ⟨S2, e3, h⟩ := gi_let h
  refine gs_iast (q := 44) C (ac_X_Bests_tried hx a) lt_X_Bests_tried hi1 e3 dX0_putPrice_6 ?_
  refine gx_aload_0 C dX0_putPrice_7 rfl ?_
  refine gs_getf (q := 41) C fl_X0_9 (cls_X0 hx) lt_X_Bests (oc_X_Bests a ι _) rfl dX0_putPrice_8 ?_
  refine gx_iload_1 C dX0_putPrice_11 rfl ?_
  refine gs_iald (q := 42) C (ac_X_Bests_own hx a) lt_X_Bests_own hi1 dX0_putPrice_12 ?_
  refine gx_istore_3 C dX0_putPrice_13 (by rw [hnL]; decide) trivial ?_
  refine gx_iconst0 C dX0_putPrice_14 ?_
  refine gx_istore C dX0_putPrice_15 (by rw [hnL]; decide) trivial ?_
  refine gx_weak (gx_le_k rfl (gx_le_k rfl (gx_le_k rfl (gx_le_k rfl (gx_le_k rfl (gx_le_n gx_le_0)))))) (gi_loop (P := fun t => gx_G Γ 0 0 17 [.ref (a 41), .int x1, .int x2, .int (S2 42 x1.toNatClampNeg), .int t.1, .null] [] (wX a ι t.2)) (fun kk t hk h => ?_) 5000 _ h)
  obtain ⟨x49, S'9⟩ := t
  exact b_Bests_putPrice_17 hx C ⟨F, hnL⟩ (k17 := kk) (fun x48 S'8 h => hk (x48, S'8) h) h
def m_Bests_keepIfBetter_15 (t : Int32 × gx_S) (k15 : Int32 × gx_S → Option (gx_S)) : Option (gx_S) := match t with
  | (x2, S) => if (S 41 5) ≤ x2 then some S else gx_ck 3 x2 (gx_let (gx_st S 45 x2.toNatClampNeg (S 44 x2.toNatClampNeg)) fun S2 => k15 ((x2 + 1), S2))
set_option maxRecDepth 20000 in
set_option maxHeartbeats 1000000 in
theorem b_Bests_keepIfBetter_15 {Γ : gx_T} {ι : Nat → ClassId} {a : Nat → Nat} {out : gx_S} (hx : gx_std vwCl (gty ι) (gx_cl Γ) (gx_ty Γ)) (C : gx_ok Γ cX0_keepIfBetter RX0 gx_U 0) (F : gx_finV Γ ((Option.none : Option Jvm.ClassFile.FieldType)) (wX a ι) out ∧ gx_nL Γ = 3) {k15 : Int32 × gx_S → Option (gx_S)} {x2 : Int32} {S : gx_S} (hk15 : ∀ (x27 : Int32) (S7 : gx_S), k15 (x27, S7) = some out → gx_G Γ 0 0 15 [.ref (a 41), .null, .int x27] [] (wX a ι S7)) (h : m_Bests_keepIfBetter_15 (x2, S) k15 = some out) : gx_G Γ 0 0 15 [.ref (a 41), .null, .int x2] [] (wX a ι S) := by
  obtain ⟨F, hnL⟩ := F
  unfold m_Bests_keepIfBetter_15 at h
  dsimp only at h
  refine gx_iload_2 C dX0_keepIfBetter_15 rfl ?_
  refine gx_aload_0 C dX0_keepIfBetter_16 rfl ?_
  refine gs_getf (q := 41) C fl_X0_59 (cls_X0 hx) lt_X_Bests (oc_X_Bests a ι _) rfl dX0_keepIfBetter_17 ?_
  refine gx_icmp_ge (tgt := 41) C dX0_keepIfBetter_20 (by decide) (fun hc4 => ?_) (fun hc4 => ?_)
  · have h := gi_t hc4 h
    exact gx_vret C F dX0_keepIfBetter_41 (Option.some.inj h)
  · have h := gi_f hc4 h
    refine gx_aload_0 C dX0_keepIfBetter_23 rfl ?_
    refine gs_getf (q := 41) C fl_X0_21 (cls_X0 hx) lt_X_Bests (oc_X_Bests a ι _) rfl dX0_keepIfBetter_24 ?_
    refine gx_iload_2 C dX0_keepIfBetter_27 rfl ?_
    refine gx_aload_0 C dX0_keepIfBetter_28 rfl ?_
    refine gs_getf (q := 41) C fl_X0_18 (cls_X0 hx) lt_X_Bests (oc_X_Bests a ι _) rfl dX0_keepIfBetter_29 ?_
    refine gx_iload_2 C dX0_keepIfBetter_32 rfl ?_
    obtain ⟨hi1, h⟩ := gi_ck h
    refine gs_iald (q := 44) C (ac_X_Bests_tried hx a) lt_X_Bests_tried hi1 dX0_keepIfBetter_33 ?_
    obtain ⟨S2, e3, h⟩ := gi_let h
    refine gs_iast (q := 45) C (ac_X_Bests_chosen hx a) lt_X_Bests_chosen hi1 e3 dX0_keepIfBetter_34 ?_
    refine gx_iinc1 C dX0_keepIfBetter_35 rfl (by rw [hnL]; decide) trivial ?_
    refine gx_goto (tgt := 15) C dX0_keepIfBetter_38 (by decide) ?_
    exact gx_weak (gx_le_k rfl (gx_le_n (gx_le_k rfl gx_le_0))) (hk15 _ _ h)
def m_Bests_keepIfBetter (x1 : Int32) (S : gx_S) : Option (gx_S) := if x1 ≤ (S 41 11) then some S else gx_let (gx_st S 41 11 x1) fun S1 => gx_loop (m_Bests_keepIfBetter_15) 5000 (0, S1)
set_option maxRecDepth 20000 in
set_option maxHeartbeats 1000000 in
theorem c_Bests_keepIfBetter (l : Launch) (D : va_G) {cl : List vw_C} {tys : List (ClassId × FieldType)} {ι : Nat → ClassId} (hx : gx_std vwCl (gty ι) cl tys) (a : Nat → Nat) (x1 : Int32) (S : gx_S) {out : gx_S} (h : m_Bests_keepIfBetter x1 S = some out) : gx_mV l D cl tys yX0_keepIfBetter (.code yX0_keepIfBetter cX0_keepIfBetter 3 ((Option.none : Option Jvm.ClassFile.FieldType)) :: gx_U) (gx_rm 0) [.ref (a 41), .int x1] (wX a ι S) (wX a ι) out := by
  unfold m_Bests_keepIfBetter at h
  refine gx_startV (V := [.ref (a 41), .int x1, .null]) 1 (by decide +kernel) (Nat.le_of_ble_eq_true rfl) rfl (fun Γ hl hD hcl hty hnL C F => ?_)
  subst hl; subst hD; subst hcl; subst hty
  refine gx_iload_1 C dX0_keepIfBetter_0 rfl ?_
  refine gx_aload_0 C dX0_keepIfBetter_1 rfl ?_
  refine gs_getf (q := 41) C fl_X0_85 (cls_X0 hx) lt_X_Bests (oc_X_Bests a ι _) rfl dX0_keepIfBetter_2 ?_
  refine gx_icmp_le (tgt := 41) C dX0_keepIfBetter_5 (by decide) (fun hc3 => ?_) (fun hc3 => ?_)
  · have h := gi_t hc3 h
    exact gx_vret C F dX0_keepIfBetter_41 (Option.some.inj h)
  · have h := gi_f hc3 h
    refine gx_aload_0 C dX0_keepIfBetter_8 rfl ?_
    refine gx_iload_1 C dX0_keepIfBetter_9 rfl ?_
    obtain ⟨S1, e2, h⟩ := gi_let h
    refine gs_puti (q := 41) C fl_X0_85 (cls_X0 hx) lt_X_Bests (oc_X_Bests a ι _) (oc_X_Bests a ι _) rfl rfl rfl (Nat.le_of_ble_eq_true rfl) e2 dX0_keepIfBetter_10 ?_
    refine gx_iconst0 C dX0_keepIfBetter_13 ?_
    refine gx_istore_2 C dX0_keepIfBetter_14 (by rw [hnL]; decide) trivial ?_
    refine gx_weak (gx_le_k rfl (gx_le_n (gx_le_k rfl gx_le_0))) (gi_loop (P := fun t => gx_G Γ 0 0 15 [.ref (a 41), .null, .int t.1] [] (wX a ι t.2)) (fun kk t hk h => ?_) 5000 _ h)
    obtain ⟨x29, S'9⟩ := t
    exact b_Bests_keepIfBetter_15 hx C ⟨F, hnL⟩ (k15 := kk) (fun x28 S'8 h => hk (x28, S'8) h) h
def m_Bests_tryOnePrice_34 (k2 : Int32 × gx_S → Option (gx_S)) (x1 : Int32) (S : gx_S) (t : Int32 × Int32) (k34 : Int32 × Int32 → Option (gx_S)) : Option (gx_S) := match t with
  | (x2, x3) => if (S 1 2) ≤ x3 then gx_cp (m_Bests_keepIfBetter x2 S) fun S2 => k2 ((x1 + 1), S2) else gx_ck 8 x3 (gx_ck 4 (S 41 5) (k34 ((x2 + ((S 7 x3.toNatClampNeg) * (S (57 + (S 41 5).toNatClampNeg) x3.toNatClampNeg))), (x3 + 1))))
set_option maxRecDepth 20000 in
set_option maxHeartbeats 1000000 in
theorem b_Bests_tryOnePrice_34 {Γ : gx_T} {ι : Nat → ClassId} {a : Nat → Nat} {out : gx_S} (hx : gx_std vwCl (gty ι) (gx_cl Γ) (gx_ty Γ)) (C : gx_ok Γ cX0_tryOnePrice RX0 gx_U 2) (F : gx_finV Γ ((Option.none : Option Jvm.ClassFile.FieldType)) (wX a ι) out ∧ gx_nL Γ = 4) {k2 : Int32 × gx_S → Option (gx_S)} {k34 : Int32 × Int32 → Option (gx_S)} {x1 : Int32} {x2 : Int32} {x3 : Int32} {S : gx_S} (hk2 : ∀ (x17 : Int32) (S7 : gx_S), k2 (x17, S7) = some out → gx_G Γ 0 0 2 [.ref (a 41), .int x17, .null, .null] [] (wX a ι S7)) (hk34 : ∀ (x27 : Int32) (x37 : Int32), k34 (x27, x37) = some out → gx_G Γ 0 0 34 [.ref (a 41), .int x1, .int x27, .int x37] [] (wX a ι S)) (h : m_Bests_tryOnePrice_34 k2 x1 S (x2, x3) k34 = some out) : gx_G Γ 0 0 34 [.ref (a 41), .int x1, .int x2, .int x3] [] (wX a ι S) := by
  obtain ⟨F, hnL⟩ := F
  unfold m_Bests_tryOnePrice_34 at h
  dsimp only at h
  refine gx_iload_3 C dX0_tryOnePrice_34 rfl ?_
  refine gx_aload_0 C dX0_tryOnePrice_35 rfl ?_
  refine gs_getf (q := 41) C fl_X0_41 (cls_X0 hx) lt_X_Bests (oc_X_Bests a ι _) rfl dX0_tryOnePrice_36 ?_
  refine gs_getf (q := 1) C fl_X0_112 (cls_X5 hx) lt_X_Street (oc_X_Street a ι _) rfl dX0_tryOnePrice_39 ?_
  refine gx_icmp_ge (tgt := 75) C dX0_tryOnePrice_42 (by decide) (fun hc5 => ?_) (fun hc5 => ?_)
  · have h := gi_t hc5 h
    refine gx_aload_0 C dX0_tryOnePrice_75 rfl ?_
    refine gx_iload_2 C dX0_tryOnePrice_76 rfl ?_
    obtain ⟨S2, e1, h⟩ := gi_cp h
    refine gc_VV C (c_Bests_keepIfBetter (gx_l Γ) (gx_D Γ) hx a _ _ e1) (gx_cw C gx_uu lk_X0_132 (by decide) (by decide)) (cls_X0 hx).1 (gs_recv (q := 41) lt_X_Bests (oc_X_Bests a ι _)) rfl rfl (Nat.le_of_ble_eq_true rfl) ⟨Nat.zero_le _, Nat.zero_le _⟩ dX0_tryOnePrice_77 ?_
    refine gx_iinc1 C dX0_tryOnePrice_80 rfl (by rw [hnL]; decide) trivial ?_
    refine gx_goto (tgt := 2) C dX0_tryOnePrice_83 (by decide) ?_
    exact gx_weak (gx_le_k rfl (gx_le_k rfl (gx_le_n (gx_le_n gx_le_0)))) (hk2 _ _ h)
  · have h := gi_f hc5 h
    refine gx_iload_2 C dX0_tryOnePrice_45 rfl ?_
    refine gx_aload_0 C dX0_tryOnePrice_46 rfl ?_
    refine gs_getf (q := 41) C fl_X0_41 (cls_X0 hx) lt_X_Bests (oc_X_Bests a ι _) rfl dX0_tryOnePrice_47 ?_
    refine gs_getf (q := 1) C fl_X0_129 (cls_X5 hx) lt_X_Street (oc_X_Street a ι _) rfl dX0_tryOnePrice_50 ?_
    refine gx_iload_3 C dX0_tryOnePrice_53 rfl ?_
    obtain ⟨hi3, h⟩ := gi_ck h
    refine gs_iald (q := 7) C (ac_X_Street_many hx a) lt_X_Street_many hi3 dX0_tryOnePrice_54 ?_
    refine gx_aload_0 C dX0_tryOnePrice_55 rfl ?_
    refine gs_getf (q := 41) C fl_X0_32 (cls_X0 hx) lt_X_Bests (oc_X_Bests a ι _) rfl dX0_tryOnePrice_56 ?_
    refine gx_aload_0 C dX0_tryOnePrice_59 rfl ?_
    refine gs_getf (q := 41) C fl_X0_59 (cls_X0 hx) lt_X_Bests (oc_X_Bests a ι _) rfl dX0_tryOnePrice_60 ?_
    obtain ⟨hi4, h⟩ := gi_ck h
    refine gs_aald (q := 56) C (aq_X_Bests_earns hx a) rfl lt_X_Bests_earns hi4 (aqf_X_Bests_earns a (gx_in_lt hi4)) dX0_tryOnePrice_63 ?_
    refine gx_iload_3 C dX0_tryOnePrice_64 rfl ?_
    refine gs_iald (q := (57 + (S 41 5).toNatClampNeg)) C (ac_X_Bests_earns_row hx a (q := (S 41 5).toNatClampNeg) (gx_in_lt hi4)) (lt_X_Bests_earns_row (q := (S 41 5).toNatClampNeg) (gx_in_lt hi4)) hi3 dX0_tryOnePrice_65 ?_
    refine gx_imul C dX0_tryOnePrice_66 ?_
    refine gx_iadd C dX0_tryOnePrice_67 ?_
    refine gx_istore_2 C dX0_tryOnePrice_68 (by rw [hnL]; decide) trivial ?_
    refine gx_iinc1 C dX0_tryOnePrice_69 rfl (by rw [hnL]; decide) trivial ?_
    refine gx_goto (tgt := 34) C dX0_tryOnePrice_72 (by decide) ?_
    exact gx_weak (gx_le_k rfl (gx_le_k rfl (gx_le_k rfl (gx_le_k rfl gx_le_0)))) (hk34 _ _ h)
def m_Bests_tryOnePrice_10 (k2 : Int32 × gx_S → Option (gx_S)) (x1 : Int32) (t : Int32 × gx_S) (k10 : Int32 × gx_S → Option (gx_S)) : Option (gx_S) := match t with
  | (x2, S) => if (S 41 5) ≤ x2 then gx_loop (m_Bests_tryOnePrice_34 k2 x1 S) 5000 (0, 0) else gx_cp (m_Bests_putPrice x2 x1 S) fun S2 => k10 ((x2 + 1), S2)
set_option maxRecDepth 20000 in
set_option maxHeartbeats 1000000 in
theorem b_Bests_tryOnePrice_10 {Γ : gx_T} {ι : Nat → ClassId} {a : Nat → Nat} {out : gx_S} (hx : gx_std vwCl (gty ι) (gx_cl Γ) (gx_ty Γ)) (C : gx_ok Γ cX0_tryOnePrice RX0 gx_U 2) (F : gx_finV Γ ((Option.none : Option Jvm.ClassFile.FieldType)) (wX a ι) out ∧ gx_nL Γ = 4) {k2 : Int32 × gx_S → Option (gx_S)} {k10 : Int32 × gx_S → Option (gx_S)} {x1 : Int32} {x2 : Int32} {S : gx_S} (hk2 : ∀ (x17 : Int32) (S7 : gx_S), k2 (x17, S7) = some out → gx_G Γ 0 0 2 [.ref (a 41), .int x17, .null, .null] [] (wX a ι S7)) (hk10 : ∀ (x27 : Int32) (S7 : gx_S), k10 (x27, S7) = some out → gx_G Γ 0 0 10 [.ref (a 41), .int x1, .int x27, .null] [] (wX a ι S7)) (h : m_Bests_tryOnePrice_10 k2 x1 (x2, S) k10 = some out) : gx_G Γ 0 0 10 [.ref (a 41), .int x1, .int x2, .null] [] (wX a ι S) := by
  obtain ⟨F, hnL⟩ := F
  unfold m_Bests_tryOnePrice_10 at h
  dsimp only at h
  refine gx_iload_2 C dX0_tryOnePrice_10 rfl ?_
  refine gx_aload_0 C dX0_tryOnePrice_11 rfl ?_
  refine gs_getf (q := 41) C fl_X0_59 (cls_X0 hx) lt_X_Bests (oc_X_Bests a ι _) rfl dX0_tryOnePrice_12 ?_
  refine gx_icmp_ge (tgt := 30) C dX0_tryOnePrice_15 (by decide) (fun hc3 => ?_) (fun hc3 => ?_)
  · have h := gi_t hc3 h
    refine gx_iconst0 C dX0_tryOnePrice_30 ?_
    refine gx_istore_2 C dX0_tryOnePrice_31 (by rw [hnL]; decide) trivial ?_
    refine gx_iconst0 C dX0_tryOnePrice_32 ?_
    refine gx_istore_3 C dX0_tryOnePrice_33 (by rw [hnL]; decide) trivial ?_
    refine gx_weak (gx_le_k rfl (gx_le_k rfl (gx_le_k rfl (gx_le_k rfl gx_le_0)))) (gi_loop (P := fun t => gx_G Γ 0 0 34 [.ref (a 41), .int x1, .int t.1, .int t.2] [] (wX a ι S)) (fun kk t hk h => ?_) 5000 _ h)
    obtain ⟨x29, x39⟩ := t
    exact b_Bests_tryOnePrice_34 hx C ⟨F, hnL⟩ hk2 (k34 := kk) (fun x28 x38 h => hk (x28, x38) h) h
  · have h := gi_f hc3 h
    refine gx_aload_0 C dX0_tryOnePrice_18 rfl ?_
    refine gx_iload_2 C dX0_tryOnePrice_19 rfl ?_
    refine gx_iload_1 C dX0_tryOnePrice_20 rfl ?_
    obtain ⟨S2, e1, h⟩ := gi_cp h
    refine gc_VV C (c_Bests_putPrice (gx_l Γ) (gx_D Γ) hx a _ _ _ e1) (gx_cw C gx_uu lk_X0_125 (by decide) (by decide)) (cls_X0 hx).1 (gs_recv (q := 41) lt_X_Bests (oc_X_Bests a ι _)) rfl rfl (Nat.le_of_ble_eq_true rfl) ⟨Nat.zero_le _, Nat.zero_le _⟩ dX0_tryOnePrice_21 ?_
    refine gx_iinc1 C dX0_tryOnePrice_24 rfl (by rw [hnL]; decide) trivial ?_
    refine gx_goto (tgt := 10) C dX0_tryOnePrice_27 (by decide) ?_
    exact gx_weak (gx_le_k rfl (gx_le_k rfl (gx_le_k rfl (gx_le_n gx_le_0)))) (hk10 _ _ h)
def m_Bests_tryOnePrice_2 (t : Int32 × gx_S) (k2 : Int32 × gx_S → Option (gx_S)) : Option (gx_S) := match t with
  | (x1, S) => if 9 < x1 then some S else gx_loop (m_Bests_tryOnePrice_10 k2 x1) 5000 (0, S)
set_option maxRecDepth 20000 in
set_option maxHeartbeats 1000000 in
theorem b_Bests_tryOnePrice_2 {Γ : gx_T} {ι : Nat → ClassId} {a : Nat → Nat} {out : gx_S} (hx : gx_std vwCl (gty ι) (gx_cl Γ) (gx_ty Γ)) (C : gx_ok Γ cX0_tryOnePrice RX0 gx_U 2) (F : gx_finV Γ ((Option.none : Option Jvm.ClassFile.FieldType)) (wX a ι) out ∧ gx_nL Γ = 4) {k2 : Int32 × gx_S → Option (gx_S)} {x1 : Int32} {S : gx_S} (hk2 : ∀ (x17 : Int32) (S7 : gx_S), k2 (x17, S7) = some out → gx_G Γ 0 0 2 [.ref (a 41), .int x17, .null, .null] [] (wX a ι S7)) (h : m_Bests_tryOnePrice_2 (x1, S) k2 = some out) : gx_G Γ 0 0 2 [.ref (a 41), .int x1, .null, .null] [] (wX a ι S) := by
  obtain ⟨F, hnL⟩ := F
  unfold m_Bests_tryOnePrice_2 at h
  dsimp only at h
  refine gx_iload_1 C dX0_tryOnePrice_2 rfl ?_
  refine gx_bipush (v := 9) C dX0_tryOnePrice_3 (by decide) ?_
  refine gx_icmp_gt (tgt := 86) C dX0_tryOnePrice_5 (by decide) (fun hc1 => ?_) (fun hc1 => ?_)
  · have h := gi_t hc1 h
    exact gx_vret C F dX0_tryOnePrice_86 (Option.some.inj h)
  · have h := gi_f hc1 h
    refine gx_iconst0 C dX0_tryOnePrice_8 ?_
    refine gx_istore_2 C dX0_tryOnePrice_9 (by rw [hnL]; decide) trivial ?_
    refine gx_weak (gx_le_k rfl (gx_le_k rfl (gx_le_k rfl (gx_le_n gx_le_0)))) (gi_loop (P := fun t => gx_G Γ 0 0 10 [.ref (a 41), .int x1, .int t.1, .null] [] (wX a ι t.2)) (fun kk t hk h => ?_) 5000 _ h)
    obtain ⟨x29, S'9⟩ := t
    exact b_Bests_tryOnePrice_10 hx C ⟨F, hnL⟩ hk2 (k10 := kk) (fun x28 S'8 h => hk (x28, S'8) h) h
def m_Bests_tryOnePrice (S : gx_S) : Option (gx_S) := gx_loop (m_Bests_tryOnePrice_2) 5000 (0, S)
set_option maxRecDepth 20000 in
set_option maxHeartbeats 1000000 in
theorem c_Bests_tryOnePrice (l : Launch) (D : va_G) {cl : List vw_C} {tys : List (ClassId × FieldType)} {ι : Nat → ClassId} (hx : gx_std vwCl (gty ι) cl tys) (a : Nat → Nat) (S : gx_S) {out : gx_S} (h : m_Bests_tryOnePrice  S = some out) : gx_mV l D cl tys yX0_tryOnePrice (.code yX0_tryOnePrice cX0_tryOnePrice 4 ((Option.none : Option Jvm.ClassFile.FieldType)) :: gx_U) (gx_rm 2) [.ref (a 41)] (wX a ι S) (wX a ι) out := by
  unfold m_Bests_tryOnePrice at h
  refine gx_startV (V := [.ref (a 41), .null, .null, .null]) 3 (by decide +kernel) (Nat.le_of_ble_eq_true rfl) rfl (fun Γ hl hD hcl hty hnL C F => ?_)
  subst hl; subst hD; subst hcl; subst hty
  refine gx_iconst0 C dX0_tryOnePrice_0 ?_
  refine gx_istore_1 C dX0_tryOnePrice_1 (by rw [hnL]; decide) trivial ?_
  refine gx_weak (gx_le_k rfl (gx_le_k rfl (gx_le_n (gx_le_n gx_le_0)))) (gi_loop (P := fun t => gx_G Γ 0 0 2 [.ref (a 41), .int t.1, .null, .null] [] (wX a ι t.2)) (fun kk t hk h => ?_) 5000 _ h)
  obtain ⟨x19, S'9⟩ := t
  exact b_Bests_tryOnePrice_2 hx C ⟨F, hnL⟩ (k2 := kk) (fun x18 S'8 h => hk (x18, S'8) h) h
def m_Bests_tryLastPrice_141 (k35 : Int32 × Int32 × Int32 × gx_S → Option (gx_S)) (x1 : Int32) (x2 : Int32) (x3 : Int32) (x4 : Int32) (S : gx_S) : Option (gx_S) := k35 (x2, x3, (x4 + 1), S)
set_option maxRecDepth 20000 in
set_option maxHeartbeats 1000000 in
theorem b_Bests_tryLastPrice_141 {Γ : gx_T} {ι : Nat → ClassId} {a : Nat → Nat} {out : gx_S} (hx : gx_std vwCl (gty ι) (gx_cl Γ) (gx_ty Γ)) (C : gx_ok Γ cX0_tryLastPrice RX0 gx_U 1) (F : gx_finV Γ ((Option.none : Option Jvm.ClassFile.FieldType)) (wX a ι) out ∧ gx_nL Γ = 7) {k35 : Int32 × Int32 × Int32 × gx_S → Option (gx_S)} {x1 : Int32} {x2 : Int32} {x3 : Int32} {x4 : Int32} {S : gx_S} (hk35 : ∀ (x27 : Int32) (x37 : Int32) (x47 : Int32) (S7 : gx_S), k35 (x27, x37, x47, S7) = some out → gx_G Γ 0 0 35 [.ref (a 41), .int x1, .int x27, .int x37, .int x47, .null, .null] [] (wX a ι S7)) (h : m_Bests_tryLastPrice_141 k35 x1 x2 x3 x4 S = some out) : gx_G Γ 0 0 141 [.ref (a 41), .int x1, .int x2, .int x3, .int x4, .null, .null] [] (wX a ι S) := by
  obtain ⟨F, hnL⟩ := F
  unfold m_Bests_tryLastPrice_141 at h
  refine gx_iinc1 C dX0_tryLastPrice_141 rfl (by rw [hnL]; decide) trivial ?_
  refine gx_goto (tgt := 35) C dX0_tryLastPrice_144 (by decide) ?_
  exact gx_weak (gx_le_k rfl (gx_le_k rfl (gx_le_k rfl (gx_le_k rfl (gx_le_k rfl (gx_le_n (gx_le_n gx_le_0))))))) (hk35 _ _ _ _ h)
def m_Bests_tryLastPrice_150 (x1 : Int32) (t : Int32 × Int32 × Int32 × gx_S) (k150 : Int32 × Int32 × Int32 × gx_S → Option (gx_S)) : Option (gx_S) := match t with
  | (x2, x3, x4, S) => if 9 < x4 then some S else gx_ck 3 x1 (gx_let (gx_st S 44 x1.toNatClampNeg x4) fun S2 => gx_cp (m_Bests_keepIfBetter (x3 + (x2 * (x4 - (S2 43 x1.toNatClampNeg)))) S2) fun S5 => gx_ck 10 x4 (k150 ((x2 - (S5 61 x4.toNatClampNeg)), (x3 + (S5 62 x4.toNatClampNeg)), (x4 + 1), S5)))
set_option maxRecDepth 20000 in
set_option maxHeartbeats 1000000 in
theorem b_Bests_tryLastPrice_150 {Γ : gx_T} {ι : Nat → ClassId} {a : Nat → Nat} {out : gx_S} (hx : gx_std vwCl (gty ι) (gx_cl Γ) (gx_ty Γ)) (C : gx_ok Γ cX0_tryLastPrice RX0 gx_U 1) (F : gx_finV Γ ((Option.none : Option Jvm.ClassFile.FieldType)) (wX a ι) out ∧ gx_nL Γ = 7) {k150 : Int32 × Int32 × Int32 × gx_S → Option (gx_S)} {x1 : Int32} {x2 : Int32} {x3 : Int32} {x4 : Int32} {S : gx_S} (hk150 : ∀ (x27 : Int32) (x37 : Int32) (x47 : Int32) (S7 : gx_S), k150 (x27, x37, x47, S7) = some out → gx_G Γ 0 0 150 [.ref (a 41), .int x1, .int x27, .int x37, .int x47, .null, .null] [] (wX a ι S7)) (h : m_Bests_tryLastPrice_150 x1 (x2, x3, x4, S) k150 = some out) : gx_G Γ 0 0 150 [.ref (a 41), .int x1, .int x2, .int x3, .int x4, .null, .null] [] (wX a ι S) := by
  obtain ⟨F, hnL⟩ := F
  unfold m_Bests_tryLastPrice_150 at h
  dsimp only at h
  refine gx_iload C dX0_tryLastPrice_150 rfl ?_
  refine gx_bipush (v := 9) C dX0_tryLastPrice_152 (by decide) ?_
  refine gx_icmp_gt (tgt := 208) C dX0_tryLastPrice_154 (by decide) (fun hc7 => ?_) (fun hc7 => ?_)
  · have h := gi_t hc7 h
    exact gx_vret C F dX0_tryLastPrice_208 (Option.some.inj h)
  · have h := gi_f hc7 h
    refine gx_aload_0 C dX0_tryLastPrice_157 rfl ?_
    refine gs_getf (q := 41) C fl_X0_18 (cls_X0 hx) lt_X_Bests (oc_X_Bests a ι _) rfl dX0_tryLastPrice_158 ?_
    refine gx_iload_1 C dX0_tryLastPrice_161 rfl ?_
    refine gx_iload C dX0_tryLastPrice_162 rfl ?_
    obtain ⟨hi1, h⟩ := gi_ck h
    obtain ⟨S2, e3, h⟩ := gi_let h
    refine gs_iast (q := 44) C (ac_X_Bests_tried hx a) lt_X_Bests_tried hi1 e3 dX0_tryLastPrice_164 ?_
    refine gx_aload_0 C dX0_tryLastPrice_165 rfl ?_
    refine gx_iload_3 C dX0_tryLastPrice_166 rfl ?_
    refine gx_iload_2 C dX0_tryLastPrice_167 rfl ?_
    refine gx_iload C dX0_tryLastPrice_168 rfl ?_
    refine gx_aload_0 C dX0_tryLastPrice_170 rfl ?_
    refine gs_getf (q := 41) C fl_X0_15 (cls_X0 hx) lt_X_Bests (oc_X_Bests a ι _) rfl dX0_tryLastPrice_171 ?_
    refine gx_iload_1 C dX0_tryLastPrice_174 rfl ?_
    refine gs_iald (q := 43) C (ac_X_Bests_ownCost hx a) lt_X_Bests_ownCost hi1 dX0_tryLastPrice_175 ?_
    refine gx_isub C dX0_tryLastPrice_176 ?_
    refine gx_imul C dX0_tryLastPrice_177 ?_
    refine gx_iadd C dX0_tryLastPrice_178 ?_
    obtain ⟨S5, e4, h⟩ := gi_cp h
    refine gc_VV C (c_Bests_keepIfBetter (gx_l Γ) (gx_D Γ) hx a _ _ e4) (gx_cw C gx_uu lk_X0_132 (by decide) (by decide)) (cls_X0 hx).1 (gs_recv (q := 41) lt_X_Bests (oc_X_Bests a ι _)) rfl rfl (Nat.le_of_ble_eq_true rfl) ⟨Nat.zero_le _, Nat.zero_le _⟩ dX0_tryLastPrice_179 ?_
    refine gx_iload_2 C dX0_tryLastPrice_182 rfl ?_
    refine gx_aload_0 C dX0_tryLastPrice_183 rfl ?_
    refine gs_getf (q := 41) C fl_X0_35 (cls_X0 hx) lt_X_Bests (oc_X_Bests a ι _) rfl dX0_tryLastPrice_184 ?_
    refine gx_iload C dX0_tryLastPrice_187 rfl ?_
    obtain ⟨hi6, h⟩ := gi_ck h
    refine gs_iald (q := 61) C (ac_X_Bests_comers hx a) lt_X_Bests_comers hi6 dX0_tryLastPrice_189 ?_
    refine gx_isub C dX0_tryLastPrice_190 ?_
    refine gx_istore_2 C dX0_tryLastPrice_191 (by rw [hnL]; decide) trivial ?_
    refine gx_iload_3 C dX0_tryLastPrice_192 rfl ?_
    refine gx_aload_0 C dX0_tryLastPrice_193 rfl ?_
    refine gs_getf (q := 41) C fl_X0_38 (cls_X0 hx) lt_X_Bests (oc_X_Bests a ι _) rfl dX0_tryLastPrice_194 ?_
    refine gx_iload C dX0_tryLastPrice_197 rfl ?_
    refine gs_iald (q := 62) C (ac_X_Bests_elsewhere hx a) lt_X_Bests_elsewhere hi6 dX0_tryLastPrice_199 ?_
    refine gx_iadd C dX0_tryLastPrice_200 ?_
    refine gx_istore_3 C dX0_tryLastPrice_201 (by rw [hnL]; decide) trivial ?_
    refine gx_iinc1 C dX0_tryLastPrice_202 rfl (by rw [hnL]; decide) trivial ?_
    refine gx_goto (tgt := 150) C dX0_tryLastPrice_205 (by decide) ?_
    exact gx_weak (gx_le_k rfl (gx_le_k rfl (gx_le_k rfl (gx_le_k rfl (gx_le_k rfl (gx_le_n (gx_le_n gx_le_0))))))) (hk150 _ _ _ _ h)
def m_Bests_tryLastPrice_35 (x1 : Int32) (t : Int32 × Int32 × Int32 × gx_S) (k35 : Int32 × Int32 × Int32 × gx_S → Option (gx_S)) : Option (gx_S) := match t with
  | (x2, x3, x4, S) => if (S 1 2) ≤ x4 then gx_loop (m_Bests_tryLastPrice_150 x1) 5000 (x2, x3, 0, S) else gx_ck 8 x4 (gx_ck 4 x1 (gx_cp (m_Bests_highestFor x1 x4 S) fun v4 => if 0 ≤ (if v4 < (9 : Int32) then v4 else (9 : Int32)) then gx_ck 10 (if v4 < (9 : Int32) then v4 else (9 : Int32)) (gx_let (gx_st S 61 (if v4 < (9 : Int32) then v4 else (9 : Int32)).toNatClampNeg ((S 61 (if v4 < (9 : Int32) then v4 else (9 : Int32)).toNatClampNeg) + (S 7 x4.toNatClampNeg))) fun S6 => gx_let (gx_st S6 62 (if v4 < (9 : Int32) then v4 else (9 : Int32)).toNatClampNeg ((S6 62 (if v4 < (9 : Int32) then v4 else (9 : Int32)).toNatClampNeg) + ((S 7 x4.toNatClampNeg) * (S (57 + x1.toNatClampNeg) x4.toNatClampNeg)))) fun S8 => m_Bests_tryLastPrice_141 k35 x1 (x2 + (S 7 x4.toNatClampNeg)) x3 x4 S8) else m_Bests_tryLastPrice_141 k35 x1 x2 (x3 + ((S 7 x4.toNatClampNeg) * (S (57 + x1.toNatClampNeg) x4.toNatClampNeg))) x4 S))
set_option maxRecDepth 20000 in
set_option maxHeartbeats 1000000 in
theorem b_Bests_tryLastPrice_35 {Γ : gx_T} {ι : Nat → ClassId} {a : Nat → Nat} {out : gx_S} (hx : gx_std vwCl (gty ι) (gx_cl Γ) (gx_ty Γ)) (C : gx_ok Γ cX0_tryLastPrice RX0 gx_U 1) (F : gx_finV Γ ((Option.none : Option Jvm.ClassFile.FieldType)) (wX a ι) out ∧ gx_nL Γ = 7) {k35 : Int32 × Int32 × Int32 × gx_S → Option (gx_S)} {x1 : Int32} {x2 : Int32} {x3 : Int32} {x4 : Int32} {S : gx_S} (hk35 : ∀ (x27 : Int32) (x37 : Int32) (x47 : Int32) (S7 : gx_S), k35 (x27, x37, x47, S7) = some out → gx_G Γ 0 0 35 [.ref (a 41), .int x1, .int x27, .int x37, .int x47, .null, .null] [] (wX a ι S7)) (h : m_Bests_tryLastPrice_35 x1 (x2, x3, x4, S) k35 = some out) : gx_G Γ 0 0 35 [.ref (a 41), .int x1, .int x2, .int x3, .int x4, .null, .null] [] (wX a ι S) := by
  obtain ⟨F, hnL⟩ := F
  unfold m_Bests_tryLastPrice_35 at h
  dsimp only at h
  refine gx_iload C dX0_tryLastPrice_35 rfl ?_
  refine gx_aload_0 C dX0_tryLastPrice_37 rfl ?_
  refine gs_getf (q := 41) C fl_X0_41 (cls_X0 hx) lt_X_Bests (oc_X_Bests a ι _) rfl dX0_tryLastPrice_38 ?_
  refine gs_getf (q := 1) C fl_X0_112 (cls_X5 hx) lt_X_Street (oc_X_Street a ι _) rfl dX0_tryLastPrice_41 ?_
  refine gx_icmp_ge (tgt := 147) C dX0_tryLastPrice_44 (by decide) (fun hc11 => ?_) (fun hc11 => ?_)
  · have h := gi_t hc11 h
    refine gx_iconst0 C dX0_tryLastPrice_147 ?_
    refine gx_istore C dX0_tryLastPrice_148 (by rw [hnL]; decide) trivial ?_
    refine gx_weak (gx_le_k rfl (gx_le_k rfl (gx_le_k rfl (gx_le_k rfl (gx_le_k rfl (gx_le_n (gx_le_n gx_le_0))))))) (gi_loop (P := fun t => gx_G Γ 0 0 150 [.ref (a 41), .int x1, .int t.1, .int t.2.1, .int t.2.2.1, .null, .null] [] (wX a ι t.2.2.2)) (fun kk t hk h => ?_) 5000 _ h)
    obtain ⟨x29, x39, x49, S'9⟩ := t
    exact b_Bests_tryLastPrice_150 hx C ⟨F, hnL⟩ (k150 := kk) (fun x28 x38 x48 S'8 h => hk (x28, x38, x48, S'8) h) h
  · have h := gi_f hc11 h
    refine gx_aload_0 C dX0_tryLastPrice_47 rfl ?_
    refine gs_getf (q := 41) C fl_X0_41 (cls_X0 hx) lt_X_Bests (oc_X_Bests a ι _) rfl dX0_tryLastPrice_48 ?_
    refine gs_getf (q := 1) C fl_X0_129 (cls_X5 hx) lt_X_Street (oc_X_Street a ι _) rfl dX0_tryLastPrice_51 ?_
    refine gx_iload C dX0_tryLastPrice_54 rfl ?_
    obtain ⟨hi1, h⟩ := gi_ck h
    refine gs_iald (q := 7) C (ac_X_Street_many hx a) lt_X_Street_many hi1 dX0_tryLastPrice_56 ?_
    refine gx_aload_0 C dX0_tryLastPrice_57 rfl ?_
    refine gs_getf (q := 41) C fl_X0_32 (cls_X0 hx) lt_X_Bests (oc_X_Bests a ι _) rfl dX0_tryLastPrice_58 ?_
    refine gx_iload_1 C dX0_tryLastPrice_61 rfl ?_
    obtain ⟨hi2, h⟩ := gi_ck h
    refine gs_aald (q := 56) C (aq_X_Bests_earns hx a) rfl lt_X_Bests_earns hi2 (aqf_X_Bests_earns a (gx_in_lt hi2)) dX0_tryLastPrice_62 ?_
    refine gx_iload C dX0_tryLastPrice_63 rfl ?_
    refine gs_iald (q := (57 + x1.toNatClampNeg)) C (ac_X_Bests_earns_row hx a (q := x1.toNatClampNeg) (gx_in_lt hi2)) (lt_X_Bests_earns_row (q := x1.toNatClampNeg) (gx_in_lt hi2)) hi1 dX0_tryLastPrice_65 ?_
    refine gx_imul C dX0_tryLastPrice_66 ?_
    refine gx_istore C dX0_tryLastPrice_67 (by rw [hnL]; decide) trivial ?_
    refine gx_bipush (v := 9) C dX0_tryLastPrice_69 (by decide) ?_
    refine gx_aload_0 C dX0_tryLastPrice_71 rfl ?_
    refine gx_iload_1 C dX0_tryLastPrice_72 rfl ?_
    refine gx_iload C dX0_tryLastPrice_73 rfl ?_
    obtain ⟨v4, e3, h⟩ := gi_cp h
    refine gc_IV C (c_Bests_highestFor (gx_l Γ) (gx_D Γ) hx a _ _ _ e3) (gx_cw C gx_uu lk_X0_138 (by decide) (by decide)) (cls_X0 hx).1 (gs_recv (q := 41) lt_X_Bests (oc_X_Bests a ι _)) rfl rfl (Nat.le_of_ble_eq_true rfl) ⟨Nat.zero_le _, Nat.zero_le _⟩ dX0_tryLastPrice_75 ?_
    refine gx_mmin C (by decide) lk_X0_144 (Nat.le_of_ble_eq_true rfl) ⟨Nat.zero_le _, Nat.zero_le _⟩ dX0_tryLastPrice_78 ?_
    refine gx_istore C dX0_tryLastPrice_81 (by rw [hnL]; decide) trivial ?_
    refine gx_iload C dX0_tryLastPrice_83 rfl ?_
    refine gx_if_ge (tgt := 96) C dX0_tryLastPrice_85 (by decide) (fun hc10 => ?_) (fun hc10 => ?_)
    · have h := gi_t hc10 h
      refine gx_iload_2 C dX0_tryLastPrice_96 rfl ?_
      refine gx_aload_0 C dX0_tryLastPrice_97 rfl ?_
      refine gs_getf (q := 41) C fl_X0_41 (cls_X0 hx) lt_X_Bests (oc_X_Bests a ι _) rfl dX0_tryLastPrice_98 ?_
      refine gs_getf (q := 1) C fl_X0_129 (cls_X5 hx) lt_X_Street (oc_X_Street a ι _) rfl dX0_tryLastPrice_101 ?_
      refine gx_iload C dX0_tryLastPrice_104 rfl ?_
      refine gs_iald (q := 7) C (ac_X_Street_many hx a) lt_X_Street_many hi1 dX0_tryLastPrice_106 ?_
      refine gx_iadd C dX0_tryLastPrice_107 ?_
      refine gx_istore_2 C dX0_tryLastPrice_108 (by rw [hnL]; decide) trivial ?_
      refine gx_aload_0 C dX0_tryLastPrice_109 rfl ?_
      refine gs_getf (q := 41) C fl_X0_35 (cls_X0 hx) lt_X_Bests (oc_X_Bests a ι _) rfl dX0_tryLastPrice_110 ?_
      refine gx_iload C dX0_tryLastPrice_113 rfl ?_
      refine gx_dup2 C dX0_tryLastPrice_115 rfl rfl ?_
      obtain ⟨hi5, h⟩ := gi_ck h
      refine gs_iald (q := 61) C (ac_X_Bests_comers hx a) lt_X_Bests_comers hi5 dX0_tryLastPrice_116 ?_
      refine gx_aload_0 C dX0_tryLastPrice_117 rfl ?_
      refine gs_getf (q := 41) C fl_X0_41 (cls_X0 hx) lt_X_Bests (oc_X_Bests a ι _) rfl dX0_tryLastPrice_118 ?_
      refine gs_getf (q := 1) C fl_X0_129 (cls_X5 hx) lt_X_Street (oc_X_Street a ι _) rfl dX0_tryLastPrice_121 ?_
      refine gx_iload C dX0_tryLastPrice_124 rfl ?_
      refine gs_iald (q := 7) C (ac_X_Street_many hx a) lt_X_Street_many hi1 dX0_tryLastPrice_126 ?_
      refine gx_iadd C dX0_tryLastPrice_127 ?_
      obtain ⟨S6, e7, h⟩ := gi_let h
      refine gs_iast (q := 61) C (ac_X_Bests_comers hx a) lt_X_Bests_comers hi5 e7 dX0_tryLastPrice_128 ?_
      refine gx_aload_0 C dX0_tryLastPrice_129 rfl ?_
      refine gs_getf (q := 41) C fl_X0_38 (cls_X0 hx) lt_X_Bests (oc_X_Bests a ι _) rfl dX0_tryLastPrice_130 ?_
      refine gx_iload C dX0_tryLastPrice_133 rfl ?_
      refine gx_dup2 C dX0_tryLastPrice_135 rfl rfl ?_
      refine gs_iald (q := 62) C (ac_X_Bests_elsewhere hx a) lt_X_Bests_elsewhere hi5 dX0_tryLastPrice_136 ?_
      refine gx_iload C dX0_tryLastPrice_137 rfl ?_
      refine gx_iadd C dX0_tryLastPrice_139 ?_
      obtain ⟨S8, e9, h⟩ := gi_let h
      refine gs_iast (q := 62) C (ac_X_Bests_elsewhere hx a) lt_X_Bests_elsewhere hi5 e9 dX0_tryLastPrice_140 ?_
      exact gx_weak (gx_le_k rfl (gx_le_k rfl (gx_le_k rfl (gx_le_k rfl (gx_le_k rfl (gx_le_n (gx_le_n gx_le_0))))))) (b_Bests_tryLastPrice_141 hx C ⟨F, hnL⟩ hk35 h)
    · have h := gi_f hc10 h
      refine gx_iload_3 C dX0_tryLastPrice_88 rfl ?_
      refine gx_iload C dX0_tryLastPrice_89 rfl ?_
      refine gx_iadd C dX0_tryLastPrice_91 ?_
      refine gx_istore_3 C dX0_tryLastPrice_92 (by rw [hnL]; decide) trivial ?_
      refine gx_goto (tgt := 141) C dX0_tryLastPrice_93 (by decide) ?_
      exact gx_weak (gx_le_k rfl (gx_le_k rfl (gx_le_k rfl (gx_le_k rfl (gx_le_k rfl (gx_le_n (gx_le_n gx_le_0))))))) (b_Bests_tryLastPrice_141 hx C ⟨F, hnL⟩ hk35 h)
def m_Bests_tryLastPrice_2 (x1 : Int32) (t : Int32 × gx_S) (k2 : Int32 × gx_S → Option (gx_S)) : Option (gx_S) := match t with
  | (x2, S) => if 9 < x2 then gx_loop (m_Bests_tryLastPrice_35 x1) 5000 (0, 0, 0, S) else gx_ck 10 x2 (gx_let (gx_st S 61 x2.toNatClampNeg 0) fun S2 => gx_let (gx_st S2 62 x2.toNatClampNeg 0) fun S4 => k2 ((x2 + 1), S4))
set_option maxRecDepth 20000 in
set_option maxHeartbeats 1000000 in
theorem b_Bests_tryLastPrice_2 {Γ : gx_T} {ι : Nat → ClassId} {a : Nat → Nat} {out : gx_S} (hx : gx_std vwCl (gty ι) (gx_cl Γ) (gx_ty Γ)) (C : gx_ok Γ cX0_tryLastPrice RX0 gx_U 1) (F : gx_finV Γ ((Option.none : Option Jvm.ClassFile.FieldType)) (wX a ι) out ∧ gx_nL Γ = 7) {k2 : Int32 × gx_S → Option (gx_S)} {x1 : Int32} {x2 : Int32} {S : gx_S} (hk2 : ∀ (x27 : Int32) (S7 : gx_S), k2 (x27, S7) = some out → gx_G Γ 0 0 2 [.ref (a 41), .int x1, .int x27, .null, .null, .null, .null] [] (wX a ι S7)) (h : m_Bests_tryLastPrice_2 x1 (x2, S) k2 = some out) : gx_G Γ 0 0 2 [.ref (a 41), .int x1, .int x2, .null, .null, .null, .null] [] (wX a ι S) := by
  obtain ⟨F, hnL⟩ := F
  unfold m_Bests_tryLastPrice_2 at h
  dsimp only at h
  refine gx_iload_2 C dX0_tryLastPrice_2 rfl ?_
  refine gx_bipush (v := 9) C dX0_tryLastPrice_3 (by decide) ?_
  refine gx_icmp_gt (tgt := 28) C dX0_tryLastPrice_5 (by decide) (fun hc6 => ?_) (fun hc6 => ?_)
  · have h := gi_t hc6 h
    refine gx_iconst0 C dX0_tryLastPrice_28 ?_
    refine gx_istore_2 C dX0_tryLastPrice_29 (by rw [hnL]; decide) trivial ?_
    refine gx_iconst0 C dX0_tryLastPrice_30 ?_
    refine gx_istore_3 C dX0_tryLastPrice_31 (by rw [hnL]; decide) trivial ?_
    refine gx_iconst0 C dX0_tryLastPrice_32 ?_
    refine gx_istore C dX0_tryLastPrice_33 (by rw [hnL]; decide) trivial ?_
    refine gx_weak (gx_le_k rfl (gx_le_k rfl (gx_le_k rfl (gx_le_k rfl (gx_le_k rfl (gx_le_n (gx_le_n gx_le_0))))))) (gi_loop (P := fun t => gx_G Γ 0 0 35 [.ref (a 41), .int x1, .int t.1, .int t.2.1, .int t.2.2.1, .null, .null] [] (wX a ι t.2.2.2)) (fun kk t hk h => ?_) 5000 _ h)
    obtain ⟨x29, x39, x49, S'9⟩ := t
    exact b_Bests_tryLastPrice_35 hx C ⟨F, hnL⟩ (k35 := kk) (fun x28 x38 x48 S'8 h => hk (x28, x38, x48, S'8) h) h
  · have h := gi_f hc6 h
    refine gx_aload_0 C dX0_tryLastPrice_8 rfl ?_
    refine gs_getf (q := 41) C fl_X0_35 (cls_X0 hx) lt_X_Bests (oc_X_Bests a ι _) rfl dX0_tryLastPrice_9 ?_
    refine gx_iload_2 C dX0_tryLastPrice_12 rfl ?_
    refine gx_iconst0 C dX0_tryLastPrice_13 ?_
    obtain ⟨hi1, h⟩ := gi_ck h
    obtain ⟨S2, e3, h⟩ := gi_let h
    refine gs_iast (q := 61) C (ac_X_Bests_comers hx a) lt_X_Bests_comers hi1 e3 dX0_tryLastPrice_14 ?_
    refine gx_aload_0 C dX0_tryLastPrice_15 rfl ?_
    refine gs_getf (q := 41) C fl_X0_38 (cls_X0 hx) lt_X_Bests (oc_X_Bests a ι _) rfl dX0_tryLastPrice_16 ?_
    refine gx_iload_2 C dX0_tryLastPrice_19 rfl ?_
    refine gx_iconst0 C dX0_tryLastPrice_20 ?_
    obtain ⟨S4, e5, h⟩ := gi_let h
    refine gs_iast (q := 62) C (ac_X_Bests_elsewhere hx a) lt_X_Bests_elsewhere hi1 e5 dX0_tryLastPrice_21 ?_
    refine gx_iinc1 C dX0_tryLastPrice_22 rfl (by rw [hnL]; decide) trivial ?_
    refine gx_goto (tgt := 2) C dX0_tryLastPrice_25 (by decide) ?_
    exact gx_weak (gx_le_k rfl (gx_le_k rfl (gx_le_k rfl (gx_le_n (gx_le_n (gx_le_n (gx_le_n gx_le_0))))))) (hk2 _ _ h)
def m_Bests_tryLastPrice (x1 : Int32) (S : gx_S) : Option (gx_S) := gx_loop (m_Bests_tryLastPrice_2 x1) 5000 (0, S)
set_option maxRecDepth 20000 in
set_option maxHeartbeats 1000000 in
theorem c_Bests_tryLastPrice (l : Launch) (D : va_G) {cl : List vw_C} {tys : List (ClassId × FieldType)} {ι : Nat → ClassId} (hx : gx_std vwCl (gty ι) cl tys) (a : Nat → Nat) (x1 : Int32) (S : gx_S) {out : gx_S} (h : m_Bests_tryLastPrice x1 S = some out) : gx_mV l D cl tys yX0_tryLastPrice (.code yX0_tryLastPrice cX0_tryLastPrice 7 ((Option.none : Option Jvm.ClassFile.FieldType)) :: gx_U) (gx_rm 1) [.ref (a 41), .int x1] (wX a ι S) (wX a ι) out := by
  unfold m_Bests_tryLastPrice at h
  refine gx_startV (V := [.ref (a 41), .int x1, .null, .null, .null, .null, .null]) 5 (by decide +kernel) (Nat.le_of_ble_eq_true rfl) rfl (fun Γ hl hD hcl hty hnL C F => ?_)
  subst hl; subst hD; subst hcl; subst hty
  refine gx_iconst0 C dX0_tryLastPrice_0 ?_
  refine gx_istore_2 C dX0_tryLastPrice_1 (by rw [hnL]; decide) trivial ?_
  refine gx_weak (gx_le_k rfl (gx_le_k rfl (gx_le_k rfl (gx_le_n (gx_le_n (gx_le_n (gx_le_n gx_le_0))))))) (gi_loop (P := fun t => gx_G Γ 0 0 2 [.ref (a 41), .int x1, .int t.1, .null, .null, .null, .null] [] (wX a ι t.2)) (fun kk t hk h => ?_) 5000 _ h)
  obtain ⟨x29, S'9⟩ := t
  exact b_Bests_tryLastPrice_2 hx C ⟨F, hnL⟩ (k2 := kk) (fun x28 S'8 h => hk (x28, S'8) h) h
def m_Bests_tryPrices_23 (rec : Int32 → gx_S → Option (gx_S)) (x1 : Int32) (t : Int32 × gx_S) (k23 : Int32 × gx_S → Option (gx_S)) : Option (gx_S) := match t with
  | (x2, S) => if 9 < x2 then some S else gx_cp (m_Bests_putPrice x1 x2 S) fun S2 => gx_cp (rec (x1 + (1 : Int32)) S2) fun S4 => k23 ((x2 + 1), S4)
set_option maxRecDepth 20000 in
set_option maxHeartbeats 1000000 in
theorem b_Bests_tryPrices_23 {Γ : gx_T} {ι : Nat → ClassId} {a : Nat → Nat} {out : gx_S} {n : Nat} {rec : Int32 → gx_S → Option (gx_S)} (hx : gx_std vwCl (gty ι) (gx_cl Γ) (gx_ty Γ)) (C : gx_ok Γ cX0_tryPrices RX0 gx_U (2 + n + 1)) (F : gx_finV Γ ((Option.none : Option Jvm.ClassFile.FieldType)) (wX a ι) out ∧ gx_nL Γ = 3) (hrec : ∀ (x16 : Int32) (S6 : gx_S) (o6 : gx_S), rec x16 S6 = some o6 → gx_mV (gx_l Γ) (gx_D Γ) (gx_cl Γ) (gx_ty Γ) yX0_tryPrices (.code yX0_tryPrices cX0_tryPrices 3 ((Option.none : Option Jvm.ClassFile.FieldType)) :: gx_U) (gx_rm (2 + n)) ([.ref (a 41), .int x16]) (wX a ι S6) (wX a ι) o6) {k23 : Int32 × gx_S → Option (gx_S)} {x1 : Int32} {x2 : Int32} {S : gx_S} (hk23 : ∀ (x27 : Int32) (S7 : gx_S), k23 (x27, S7) = some out → gx_G Γ 0 0 23 [.ref (a 41), .int x1, .int x27] [] (wX a ι S7)) (h : m_Bests_tryPrices_23 rec x1 (x2, S) k23 = some out) : gx_G Γ 0 0 23 [.ref (a 41), .int x1, .int x2] [] (wX a ι S) := by
  obtain ⟨F, hnL⟩ := F
  unfold m_Bests_tryPrices_23 at h
  dsimp only at h
  refine gx_iload_2 C dX0_tryPrices_23 rfl ?_
  refine gx_bipush (v := 9) C dX0_tryPrices_24 (by decide) ?_
  refine gx_icmp_gt (tgt := 48) C dX0_tryPrices_26 (by decide) (fun hc5 => ?_) (fun hc5 => ?_)
  · have h := gi_t hc5 h
    exact gx_vret C F dX0_tryPrices_48 (Option.some.inj h)
  · have h := gi_f hc5 h
    refine gx_aload_0 C dX0_tryPrices_29 rfl ?_
    refine gx_iload_1 C dX0_tryPrices_30 rfl ?_
    refine gx_iload_2 C dX0_tryPrices_31 rfl ?_
    obtain ⟨S2, e1, h⟩ := gi_cp h
    refine gc_VV C (c_Bests_putPrice (gx_l Γ) (gx_D Γ) hx a _ _ _ e1) (gx_cw C gx_uu lk_X0_125 (by omega) (by decide)) (cls_X0 hx).1 (gs_recv (q := 41) lt_X_Bests (oc_X_Bests a ι _)) rfl rfl (Nat.le_of_ble_eq_true rfl) ⟨Nat.zero_le _, Nat.zero_le _⟩ dX0_tryPrices_32 ?_
    refine gx_aload_0 C dX0_tryPrices_35 rfl ?_
    refine gx_iload_1 C dX0_tryPrices_36 rfl ?_
    refine gx_iconst1 C dX0_tryPrices_37 ?_
    refine gx_iadd C dX0_tryPrices_38 ?_
    obtain ⟨S4, e3, h⟩ := gi_cp h
    refine gc_VV C (hrec _ _ _ e3) (gx_cw C gx_uu lk_X0_95 (by omega) (by decide)) (cls_X0 hx).1 (gs_recv (q := 41) lt_X_Bests (oc_X_Bests a ι _)) rfl rfl (Nat.le_of_ble_eq_true rfl) ⟨Nat.zero_le _, Nat.zero_le _⟩ dX0_tryPrices_39 ?_
    refine gx_iinc1 C dX0_tryPrices_42 rfl (by rw [hnL]; decide) trivial ?_
    refine gx_goto (tgt := 23) C dX0_tryPrices_45 (by decide) ?_
    exact gx_weak (gx_le_k rfl (gx_le_k rfl (gx_le_k rfl gx_le_0))) (hk23 _ _ h)
def m_Bests_tryPrices_b (rec : Int32 → gx_S → Option (gx_S)) (x1 : Int32) (S : gx_S) : Option (gx_S) := if x1 < ((S 41 5) - (1 : Int32)) then gx_loop (m_Bests_tryPrices_23 rec x1) 5000 (0, S) else gx_cp (m_Bests_tryLastPrice ((S 41 5) - (1 : Int32)) S) fun S2 => some S2
def m_Bests_tryPrices : Nat → Int32 → gx_S → Option (gx_S)
  | 0 => fun _ _ => none
  | n + 1 => fun x1 S => m_Bests_tryPrices_b (m_Bests_tryPrices n) x1 S
set_option maxRecDepth 20000 in
set_option maxHeartbeats 1000000 in
theorem c_Bests_tryPrices (l : Launch) (D : va_G) {cl : List vw_C} {tys : List (ClassId × FieldType)} {ι : Nat → ClassId} (hx : gx_std vwCl (gty ι) cl tys) (a : Nat → Nat) : ∀ {n : Nat} (x1 : Int32) (S : gx_S) {out : gx_S} (h : m_Bests_tryPrices n x1 S = some out), gx_mV l D cl tys yX0_tryPrices (.code yX0_tryPrices cX0_tryPrices 3 ((Option.none : Option Jvm.ClassFile.FieldType)) :: gx_U) (gx_rm (2 + n)) [.ref (a 41), .int x1] (wX a ι S) (wX a ι) out
  | 0, _, _, _, h => by cases h
  | n + 1, x1, S, out, h => by
    have hrec := fun x16 (S6 : gx_S) (o6 : gx_S) (h6 : m_Bests_tryPrices n x16 S6 = some o6) => c_Bests_tryPrices l D hx a x16 S6 h6
    have h : m_Bests_tryPrices_b (m_Bests_tryPrices n) x1 S = some out := h
    unfold m_Bests_tryPrices_b at h
    refine gx_startV (V := [.ref (a 41), .int x1, .null]) 1 (by decide +kernel) (Nat.le_of_ble_eq_true rfl) rfl (fun Γ hl hD hcl hty hnL C F => ?_)
    subst hl; subst hD; subst hcl; subst hty
    refine gx_iload_1 C dX0_tryPrices_0 rfl ?_
    refine gx_aload_0 C dX0_tryPrices_1 rfl ?_
    refine gs_getf (q := 41) C fl_X0_59 (cls_X0 hx) lt_X_Bests (oc_X_Bests a ι _) rfl dX0_tryPrices_2 ?_
    refine gx_iconst1 C dX0_tryPrices_5 ?_
    refine gx_isub C dX0_tryPrices_6 ?_
    refine gx_icmp_lt (tgt := 21) C dX0_tryPrices_7 (by decide) (fun hc3 => ?_) (fun hc3 => ?_)
    · have h := gi_t hc3 h
      refine gx_iconst0 C dX0_tryPrices_21 ?_
      refine gx_istore_2 C dX0_tryPrices_22 (by rw [hnL]; decide) trivial ?_
      refine gx_weak (gx_le_k rfl (gx_le_k rfl (gx_le_k rfl gx_le_0))) (gi_loop (P := fun t => gx_G Γ 0 0 23 [.ref (a 41), .int x1, .int t.1] [] (wX a ι t.2)) (fun kk t hk h => ?_) 5000 _ h)
      obtain ⟨x29, S'9⟩ := t
      exact b_Bests_tryPrices_23 hx C ⟨F, hnL⟩ hrec (k23 := kk) (fun x28 S'8 h => hk (x28, S'8) h) h
    · have h := gi_f hc3 h
      refine gx_aload_0 C dX0_tryPrices_10 rfl ?_
      refine gx_aload_0 C dX0_tryPrices_11 rfl ?_
      refine gs_getf (q := 41) C fl_X0_59 (cls_X0 hx) lt_X_Bests (oc_X_Bests a ι _) rfl dX0_tryPrices_12 ?_
      refine gx_iconst1 C dX0_tryPrices_15 ?_
      refine gx_isub C dX0_tryPrices_16 ?_
      obtain ⟨S2, e1, h⟩ := gi_cp h
      refine gc_VV C (c_Bests_tryLastPrice (gx_l Γ) (gx_D Γ) hx a _ _ e1) (gx_cw C gx_uu lk_X0_135 (by omega) (by decide)) (cls_X0 hx).1 (gs_recv (q := 41) lt_X_Bests (oc_X_Bests a ι _)) rfl rfl (Nat.le_of_ble_eq_true rfl) ⟨Nat.zero_le _, Nat.zero_le _⟩ dX0_tryPrices_17 ?_
      exact gx_vret C F dX0_tryPrices_20 (Option.some.inj h)
def m_Bests_look_109 (r1 : Nat) (x2 : Int32) (s1 : Int32) (S : gx_S) : Option (gx_S) := gx_bz s1 (gx_let (gx_st S 41 12 s1) fun S1 => if (S1 41 12) = 0 then gx_cp (m_Bests_listShops r1 x2 S1) fun S5 => gx_let (gx_st S5 41 11 0) fun S6 => some S6 else some S1)
set_option maxRecDepth 20000 in
set_option maxHeartbeats 1000000 in
theorem b_Bests_look_109 {Γ : gx_T} {ι : Nat → ClassId} {a : Nat → Nat} {r1 : Nat} {out : gx_S} (hx : gx_std vwCl (gty ι) (gx_cl Γ) (gx_ty Γ)) (hr1 : r1 < 5) (C : gx_ok Γ cX0_look RX0 gx_U 8) (F : gx_finV Γ ((Option.none : Option Jvm.ClassFile.FieldType)) (wX a ι) out ∧ gx_nL Γ = 4) {x2 : Int32} {s1 : Int32} {S : gx_S} (h : m_Bests_look_109 r1 x2 s1 S = some out) : gx_G Γ 0 0 109 [.ref (a 41), .ref (a (21 + 4 * r1)), .int x2, .null] [.int s1, .ref (a 41)] (wX a ι S) := by
  obtain ⟨F, hnL⟩ := F
  unfold m_Bests_look_109 at h
  obtain ⟨hz3, h⟩ := gi_bz h
  obtain ⟨S1, e2, h⟩ := gi_let h
  refine gs_puti (q := 41) C fl_X0_71 (cls_X0 hx) lt_X_Bests (oc_X_Bests a ι _) (oc_X_Bests a ι _) rfl hz3.1 hz3.2 (Nat.le_of_ble_eq_true rfl) e2 dX0_look_109 ?_
  refine gx_aload_0 C dX0_look_112 rfl ?_
  refine gs_getf (q := 41) C fl_X0_71 (cls_X0 hx) lt_X_Bests (oc_X_Bests a ι _) rfl dX0_look_113 ?_
  refine gx_if_ne (tgt := 130) C dX0_look_116 (by decide) (fun hc8 => ?_) (fun hc8 => ?_)
  · have h := gi_f hc8 h
    exact gx_vret C F dX0_look_130 (Option.some.inj h)
  · have h := gi_t hc8 h
    refine gx_aload_0 C dX0_look_119 rfl ?_
    refine gx_aload_1 C dX0_look_120 rfl ?_
    refine gx_iload_2 C dX0_look_121 rfl ?_
    obtain ⟨S5, e4, h⟩ := gi_cp h
    refine gc_VV C (c_Bests_listShops (gx_l Γ) (gx_D Γ) hx a (r1 := r1) hr1 _ _ e4) (gx_cw C gx_uu lk_X0_75 (by decide) (by decide)) (cls_X0 hx).1 (gs_recv (q := 41) lt_X_Bests (oc_X_Bests a ι _)) rfl rfl (Nat.le_of_ble_eq_true rfl) ⟨Nat.zero_le _, Nat.zero_le _⟩ dX0_look_122 ?_
    refine gx_aload_0 C dX0_look_125 rfl ?_
    refine gx_iconst0 C dX0_look_126 ?_
    obtain ⟨S6, e7, h⟩ := gi_let h
    refine gs_puti (q := 41) C fl_X0_85 (cls_X0 hx) lt_X_Bests (oc_X_Bests a ι _) (oc_X_Bests a ι _) rfl rfl rfl (Nat.le_of_ble_eq_true rfl) e7 dX0_look_127 ?_
    exact gx_vret C F dX0_look_130 (Option.some.inj h)
def m_Bests_look_82 (r1 : Nat) (x2 : Int32) (x3 : Int32) (S : gx_S) : Option (gx_S) := if x3 = 4 then gx_ck 6 x2 (if (S 41 11) ≤ (S 3 x2.toNatClampNeg) then m_Bests_look_109 r1 x2 0 S else m_Bests_look_109 r1 x2 1 S) else some S
set_option maxRecDepth 20000 in
set_option maxHeartbeats 1000000 in
theorem b_Bests_look_82 {Γ : gx_T} {ι : Nat → ClassId} {a : Nat → Nat} {r1 : Nat} {out : gx_S} (hx : gx_std vwCl (gty ι) (gx_cl Γ) (gx_ty Γ)) (hr1 : r1 < 5) (C : gx_ok Γ cX0_look RX0 gx_U 8) (F : gx_finV Γ ((Option.none : Option Jvm.ClassFile.FieldType)) (wX a ι) out ∧ gx_nL Γ = 4) {x2 : Int32} {x3 : Int32} {S : gx_S} (h : m_Bests_look_82 r1 x2 x3 S = some out) : gx_G Γ 0 0 82 [.ref (a 41), .ref (a (21 + 4 * r1)), .int x2, .int x3] [] (wX a ι S) := by
  obtain ⟨F, hnL⟩ := F
  unfold m_Bests_look_82 at h
  refine gx_iload_3 C dX0_look_82 rfl ?_
  refine gx_iconst4 C dX0_look_83 ?_
  refine gx_icmp_ne (tgt := 130) C dX0_look_84 (by decide) (fun hc3 => ?_) (fun hc3 => ?_)
  · have h := gi_f hc3 h
    exact gx_vret C F dX0_look_130 (Option.some.inj h)
  · have h := gi_t hc3 h
    refine gx_aload_0 C dX0_look_87 rfl ?_
    refine gx_aload_0 C dX0_look_88 rfl ?_
    refine gs_getf (q := 41) C fl_X0_85 (cls_X0 hx) lt_X_Bests (oc_X_Bests a ι _) rfl dX0_look_89 ?_
    refine gx_aload_0 C dX0_look_92 rfl ?_
    refine gs_getf (q := 41) C fl_X0_41 (cls_X0 hx) lt_X_Bests (oc_X_Bests a ι _) rfl dX0_look_93 ?_
    refine gs_getf (q := 1) C fl_X0_99 (cls_X5 hx) lt_X_Street (oc_X_Street a ι _) rfl dX0_look_96 ?_
    refine gx_iload_2 C dX0_look_99 rfl ?_
    obtain ⟨hi1, h⟩ := gi_ck h
    refine gs_iald (q := 3) C (ac_X_Street_n hx a) lt_X_Street_n hi1 dX0_look_100 ?_
    refine gx_icmp_le (tgt := 108) C dX0_look_101 (by decide) (fun hc2 => ?_) (fun hc2 => ?_)
    · have h := gi_t hc2 h
      refine gx_iconst0 C dX0_look_108 ?_
      exact gx_weak (gx_le_k rfl (gx_le_k rfl (gx_le_k rfl (gx_le_n gx_le_0)))) (b_Bests_look_109 hx hr1 C ⟨F, hnL⟩ h)
    · have h := gi_f hc2 h
      refine gx_iconst1 C dX0_look_104 ?_
      refine gx_goto (tgt := 109) C dX0_look_105 (by decide) ?_
      exact gx_weak (gx_le_k rfl (gx_le_k rfl (gx_le_k rfl (gx_le_n gx_le_0)))) (b_Bests_look_109 hx hr1 C ⟨F, hnL⟩ h)
def m_Bests_look_70 (r1 : Nat) (x2 : Int32) (x3 : Int32) (S : gx_S) : Option (gx_S) := gx_cp (m_Bests_tryOnePrice S) fun S2 => m_Bests_look_82 r1 x2 x3 S2
set_option maxRecDepth 20000 in
set_option maxHeartbeats 1000000 in
theorem b_Bests_look_70 {Γ : gx_T} {ι : Nat → ClassId} {a : Nat → Nat} {r1 : Nat} {out : gx_S} (hx : gx_std vwCl (gty ι) (gx_cl Γ) (gx_ty Γ)) (hr1 : r1 < 5) (C : gx_ok Γ cX0_look RX0 gx_U 8) (F : gx_finV Γ ((Option.none : Option Jvm.ClassFile.FieldType)) (wX a ι) out ∧ gx_nL Γ = 4) {x2 : Int32} {x3 : Int32} {S : gx_S} (h : m_Bests_look_70 r1 x2 x3 S = some out) : gx_G Γ 0 0 70 [.ref (a 41), .ref (a (21 + 4 * r1)), .int x2, .int x3] [] (wX a ι S) := by
  obtain ⟨F, hnL⟩ := F
  unfold m_Bests_look_70 at h
  refine gx_aload_0 C dX0_look_70 rfl ?_
  obtain ⟨S2, e1, h⟩ := gi_cp h
  refine gc_VV C (c_Bests_tryOnePrice (gx_l Γ) (gx_D Γ) hx a _ e1) (gx_cw C gx_uu lk_X0_92 (by decide) (by decide)) (cls_X0 hx).1 (gs_recv (q := 41) lt_X_Bests (oc_X_Bests a ι _)) rfl rfl (Nat.le_of_ble_eq_true rfl) ⟨Nat.zero_le _, Nat.zero_le _⟩ dX0_look_71 ?_
  refine gx_goto (tgt := 82) C dX0_look_74 (by decide) ?_
  exact gx_weak (gx_le_k rfl (gx_le_k rfl (gx_le_k rfl (gx_le_k rfl gx_le_0)))) (b_Bests_look_82 hx hr1 C ⟨F, hnL⟩ h)
def m_Bests_look (r1 : Nat) (x2 : Int32) (S : gx_S) : Option (gx_S) := gx_cp (m_Bests_listShops r1 x2 S) fun S2 => gx_ck 6 x2 (gx_let (gx_st S2 41 12 0) fun S4 => if (S2 2 x2.toNatClampNeg) = 2 then gx_cp (m_Standing_profitOf r1 x2 S4) fun v18 => gx_let (gx_st S4 41 11 v18) fun S19 => some S19 else gx_let (gx_st S4 41 11 0) fun S6 => if (S6 41 5) ≤ 0 then m_Bests_look_82 r1 x2 (S2 2 x2.toNatClampNeg) S6 else gx_let (gx_st S6 41 11 (-1000000)) fun S8 => gx_cp (m_Bests_layOthers r1 x2 S8) fun S11 => if (S2 2 x2.toNatClampNeg) = 1 then m_Bests_look_70 r1 x2 (S2 2 x2.toNatClampNeg) S11 else if (S2 2 x2.toNatClampNeg) = 4 then m_Bests_look_70 r1 x2 (S2 2 x2.toNatClampNeg) S11 else gx_cp (m_Bests_tryPrices 5 0 S11) fun S13 => m_Bests_look_82 r1 x2 (S2 2 x2.toNatClampNeg) S13)
set_option maxRecDepth 20000 in
set_option maxHeartbeats 1000000 in
theorem c_Bests_look (l : Launch) (D : va_G) {cl : List vw_C} {tys : List (ClassId × FieldType)} {ι : Nat → ClassId} (hx : gx_std vwCl (gty ι) cl tys) (a : Nat → Nat) {r1 : Nat} (hr1 : r1 < 5) (x2 : Int32) (S : gx_S) {out : gx_S} (h : m_Bests_look r1 x2 S = some out) : gx_mV l D cl tys yX0_look (.code yX0_look cX0_look 4 ((Option.none : Option Jvm.ClassFile.FieldType)) :: gx_U) (gx_rm 8) [.ref (a 41), .ref (a (21 + 4 * r1)), .int x2] (wX a ι S) (wX a ι) out := by
  unfold m_Bests_look at h
  refine gx_startV (V := [.ref (a 41), .ref (a (21 + 4 * r1)), .int x2, .null]) 1 (by decide +kernel) (Nat.le_of_ble_eq_true rfl) rfl (fun Γ hl hD hcl hty hnL C F => ?_)
  subst hl; subst hD; subst hcl; subst hty
  refine gx_aload_0 C dX0_look_0 rfl ?_
  refine gx_aload_1 C dX0_look_1 rfl ?_
  refine gx_iload_2 C dX0_look_2 rfl ?_
  obtain ⟨S2, e1, h⟩ := gi_cp h
  refine gc_VV C (c_Bests_listShops (gx_l Γ) (gx_D Γ) hx a (r1 := r1) hr1 _ _ e1) (gx_cw C gx_uu lk_X0_75 (by decide) (by decide)) (cls_X0 hx).1 (gs_recv (q := 41) lt_X_Bests (oc_X_Bests a ι _)) rfl rfl (Nat.le_of_ble_eq_true rfl) ⟨Nat.zero_le _, Nat.zero_le _⟩ dX0_look_3 ?_
  refine gx_aload_0 C dX0_look_6 rfl ?_
  refine gs_getf (q := 41) C fl_X0_41 (cls_X0 hx) lt_X_Bests (oc_X_Bests a ι _) rfl dX0_look_7 ?_
  refine gs_getf (q := 1) C fl_X0_78 (cls_X5 hx) lt_X_Street (oc_X_Street a ι _) rfl dX0_look_10 ?_
  refine gx_iload_2 C dX0_look_13 rfl ?_
  obtain ⟨hi3, h⟩ := gi_ck h
  refine gs_iald (q := 2) C (ac_X_Street_kind hx a) lt_X_Street_kind hi3 dX0_look_14 ?_
  refine gx_istore_3 C dX0_look_15 (by rw [hnL]; decide) trivial ?_
  refine gx_aload_0 C dX0_look_16 rfl ?_
  refine gx_iconst0 C dX0_look_17 ?_
  obtain ⟨S4, e5, h⟩ := gi_let h
  refine gs_puti (q := 41) C fl_X0_71 (cls_X0 hx) lt_X_Bests (oc_X_Bests a ι _) (oc_X_Bests a ι _) rfl (by decide) (by decide) (Nat.le_of_ble_eq_true rfl) e5 dX0_look_18 ?_
  refine gx_iload_3 C dX0_look_21 rfl ?_
  refine gx_iconst2 C dX0_look_22 ?_
  refine gx_icmp_ne (tgt := 36) C dX0_look_23 (by decide) (fun hc21 => ?_) (fun hc21 => ?_)
  · have h := gi_f hc21 h
    refine gx_aload_0 C dX0_look_36 rfl ?_
    refine gx_iconst0 C dX0_look_37 ?_
    obtain ⟨S6, e7, h⟩ := gi_let h
    refine gs_puti (q := 41) C fl_X0_85 (cls_X0 hx) lt_X_Bests (oc_X_Bests a ι _) (oc_X_Bests a ι _) rfl rfl rfl (Nat.le_of_ble_eq_true rfl) e7 dX0_look_38 ?_
    refine gx_aload_0 C dX0_look_41 rfl ?_
    refine gs_getf (q := 41) C fl_X0_59 (cls_X0 hx) lt_X_Bests (oc_X_Bests a ι _) rfl dX0_look_42 ?_
    refine gx_if_le (tgt := 82) C dX0_look_45 (by decide) (fun hc16 => ?_) (fun hc16 => ?_)
    · have h := gi_t hc16 h
      exact gx_weak (gx_le_k rfl (gx_le_k rfl (gx_le_k rfl (gx_le_k rfl gx_le_0)))) (b_Bests_look_82 hx hr1 C ⟨F, hnL⟩ h)
    · have h := gi_f hc16 h
      refine gx_aload_0 C dX0_look_48 rfl ?_
      refine gx_ldc (v := (-1000000)) C dX0_look_49 kX0_88 ?_
      obtain ⟨S8, e9, h⟩ := gi_let h
      refine gs_puti (q := 41) C fl_X0_85 (cls_X0 hx) lt_X_Bests (oc_X_Bests a ι _) (oc_X_Bests a ι _) rfl rfl rfl (Nat.le_of_ble_eq_true rfl) e9 dX0_look_51 ?_
      refine gx_aload_0 C dX0_look_54 rfl ?_
      refine gx_aload_1 C dX0_look_55 rfl ?_
      refine gx_iload_2 C dX0_look_56 rfl ?_
      obtain ⟨S11, e10, h⟩ := gi_cp h
      refine gc_VV C (c_Bests_layOthers (gx_l Γ) (gx_D Γ) hx a (r1 := r1) hr1 _ _ e10) (gx_cw C gx_uu lk_X0_89 (by decide) (by decide)) (cls_X0 hx).1 (gs_recv (q := 41) lt_X_Bests (oc_X_Bests a ι _)) rfl rfl (Nat.le_of_ble_eq_true rfl) ⟨Nat.zero_le _, Nat.zero_le _⟩ dX0_look_57 ?_
      refine gx_iload_3 C dX0_look_60 rfl ?_
      refine gx_iconst1 C dX0_look_61 ?_
      refine gx_icmp_eq (tgt := 70) C dX0_look_62 (by decide) (fun hc15 => ?_) (fun hc15 => ?_)
      · have h := gi_t hc15 h
        exact gx_weak (gx_le_k rfl (gx_le_k rfl (gx_le_k rfl (gx_le_k rfl gx_le_0)))) (b_Bests_look_70 hx hr1 C ⟨F, hnL⟩ h)
      · have h := gi_f hc15 h
        refine gx_iload_3 C dX0_look_65 rfl ?_
        refine gx_iconst4 C dX0_look_66 ?_
        refine gx_icmp_ne (tgt := 77) C dX0_look_67 (by decide) (fun hc14 => ?_) (fun hc14 => ?_)
        · have h := gi_f hc14 h
          refine gx_aload_0 C dX0_look_77 rfl ?_
          refine gx_iconst0 C dX0_look_78 ?_
          obtain ⟨S13, e12, h⟩ := gi_cp h
          refine gc_VV C (c_Bests_tryPrices (gx_l Γ) (gx_D Γ) hx a (n := 5) _ _ e12) (gx_cw C gx_uu lk_X0_95 (by decide) (by decide)) (cls_X0 hx).1 (gs_recv (q := 41) lt_X_Bests (oc_X_Bests a ι _)) rfl rfl (Nat.le_of_ble_eq_true rfl) ⟨Nat.zero_le _, Nat.zero_le _⟩ dX0_look_79 ?_
          exact gx_weak (gx_le_k rfl (gx_le_k rfl (gx_le_k rfl (gx_le_k rfl gx_le_0)))) (b_Bests_look_82 hx hr1 C ⟨F, hnL⟩ h)
        · have h := gi_t hc14 h
          exact gx_weak (gx_le_k rfl (gx_le_k rfl (gx_le_k rfl (gx_le_k rfl gx_le_0)))) (b_Bests_look_70 hx hr1 C ⟨F, hnL⟩ h)
  · have h := gi_t hc21 h
    refine gx_aload_0 C dX0_look_26 rfl ?_
    refine gx_aload_1 C dX0_look_27 rfl ?_
    refine gx_iload_2 C dX0_look_28 rfl ?_
    obtain ⟨v18, e17, h⟩ := gi_cp h
    refine gc_IV C (c_Standing_profitOf (gx_l Γ) (gx_D Γ) hx a (r := r1) hr1 _ _ e17) (gx_cw C gx_uu lk_X0_81 (by decide) (by decide)) (cls_X4 hx).1 (gs_recv (q := (21 + 4 * r1)) (lt_X_Standing (q := r1) hr1) (oc_X_Standing a ι _ (q := r1) hr1)) rfl rfl (Nat.le_of_ble_eq_true rfl) ⟨Nat.zero_le _, Nat.zero_le _⟩ dX0_look_29 ?_
    obtain ⟨S19, e20, h⟩ := gi_let h
    refine gs_puti (q := 41) C fl_X0_85 (cls_X0 hx) lt_X_Bests (oc_X_Bests a ι _) (oc_X_Bests a ι _) rfl rfl rfl (Nat.le_of_ble_eq_true rfl) e20 dX0_look_32 ?_
    exact gx_vret C F dX0_look_35 (Option.some.inj h)
def m_Bests_take_58 (r1 : Nat) (k5 : Int32 × Int32 × gx_S → Option (Int32 × gx_S)) (x2 : Int32) (x3 : Int32) (x4 : Int32) (S : gx_S) : Option (Int32 × gx_S) := k5 (x3, (x4 + 1), S)
set_option maxRecDepth 20000 in
set_option maxHeartbeats 1000000 in
theorem b_Bests_take_58 {Γ : gx_T} {ι : Nat → ClassId} {a : Nat → Nat} {r1 : Nat} {out : Int32 × gx_S} (hx : gx_std vwCl (gty ι) (gx_cl Γ) (gx_ty Γ)) (hr1 : r1 < 5) (C : gx_ok Γ cX0_take RX0 gx_U 0) (F : gx_finI Γ ((Option.some Jvm.ClassFile.FieldType.int)) (wX a ι) out ∧ gx_nL Γ = 5) {k5 : Int32 × Int32 × gx_S → Option (Int32 × gx_S)} {x2 : Int32} {x3 : Int32} {x4 : Int32} {S : gx_S} (hk5 : ∀ (x37 : Int32) (x47 : Int32) (S7 : gx_S), k5 (x37, x47, S7) = some out → gx_G Γ 0 0 5 [.ref (a 41), .ref (a (21 + 4 * r1)), .int x2, .int x37, .int x47] [] (wX a ι S7)) (h : m_Bests_take_58 r1 k5 x2 x3 x4 S = some out) : gx_G Γ 0 0 58 [.ref (a 41), .ref (a (21 + 4 * r1)), .int x2, .int x3, .int x4] [] (wX a ι S) := by
  obtain ⟨F, hnL⟩ := F
  unfold m_Bests_take_58 at h
  refine gx_iinc1 C dX0_take_58 rfl (by rw [hnL]; decide) trivial ?_
  refine gx_goto (tgt := 5) C dX0_take_61 (by decide) ?_
  exact gx_weak (gx_le_k rfl (gx_le_k rfl (gx_le_k rfl (gx_le_k rfl (gx_le_k rfl gx_le_0))))) (hk5 _ _ _ h)
def m_Bests_take_5 (r1 : Nat) (x2 : Int32) (t : Int32 × Int32 × gx_S) (k5 : Int32 × Int32 × gx_S → Option (Int32 × gx_S)) : Option (Int32 × gx_S) := match t with
  | (x3, x4, S) => if (S 41 5) ≤ x4 then gx_ck 6 x2 (if (S (21 + 4 * r1 + 3) x2.toNatClampNeg) = (S 41 12) then some (x3, S) else gx_let (gx_st S (21 + 4 * r1 + 3) x2.toNatClampNeg (vp_nar .boolean (S 41 12))) fun S2 => some (x3 + 1, S2)) else gx_ck 3 x4 (gx_ck 6 (S 42 x4.toNatClampNeg) (if (S (21 + 4 * r1 + 1) (S 42 x4.toNatClampNeg).toNatClampNeg) = (S 45 x4.toNatClampNeg) then m_Bests_take_58 r1 k5 x2 x3 x4 S else gx_let (gx_st S (21 + 4 * r1 + 1) (S 42 x4.toNatClampNeg).toNatClampNeg (S 45 x4.toNatClampNeg)) fun S7 => m_Bests_take_58 r1 k5 x2 (x3 + 1) x4 S7))
set_option maxRecDepth 20000 in
set_option maxHeartbeats 1000000 in
theorem b_Bests_take_5 {Γ : gx_T} {ι : Nat → ClassId} {a : Nat → Nat} {r1 : Nat} {out : Int32 × gx_S} (hx : gx_std vwCl (gty ι) (gx_cl Γ) (gx_ty Γ)) (hr1 : r1 < 5) (C : gx_ok Γ cX0_take RX0 gx_U 0) (F : gx_finI Γ ((Option.some Jvm.ClassFile.FieldType.int)) (wX a ι) out ∧ gx_nL Γ = 5) {k5 : Int32 × Int32 × gx_S → Option (Int32 × gx_S)} {x2 : Int32} {x3 : Int32} {x4 : Int32} {S : gx_S} (hk5 : ∀ (x37 : Int32) (x47 : Int32) (S7 : gx_S), k5 (x37, x47, S7) = some out → gx_G Γ 0 0 5 [.ref (a 41), .ref (a (21 + 4 * r1)), .int x2, .int x37, .int x47] [] (wX a ι S7)) (h : m_Bests_take_5 r1 x2 (x3, x4, S) k5 = some out) : gx_G Γ 0 0 5 [.ref (a 41), .ref (a (21 + 4 * r1)), .int x2, .int x3, .int x4] [] (wX a ι S) := by
  obtain ⟨F, hnL⟩ := F
  unfold m_Bests_take_5 at h
  dsimp only at h
  refine gx_iload C dX0_take_5 rfl ?_
  refine gx_aload_0 C dX0_take_7 rfl ?_
  refine gs_getf (q := 41) C fl_X0_59 (cls_X0 hx) lt_X_Bests (oc_X_Bests a ι _) rfl dX0_take_8 ?_
  refine gx_icmp_ge (tgt := 64) C dX0_take_11 (by decide) (fun hc10 => ?_) (fun hc10 => ?_)
  · have h := gi_t hc10 h
    refine gx_aload_1 C dX0_take_64 rfl ?_
    refine gs_getf (q := (21 + 4 * r1)) C fl_X0_67 (cls_X4 hx) (lt_X_Standing (q := r1) hr1) (oc_X_Standing a ι _ (q := r1) hr1) rfl dX0_take_65 ?_
    refine gx_iload_2 C dX0_take_68 rfl ?_
    obtain ⟨hi1, h⟩ := gi_ck h
    refine gs_zald (q := (21 + 4 * r1 + 3)) C (ac_X_Standing_in hx a (q := r1) hr1) (lt_X_Standing_in (q := r1) hr1) hi1 dX0_take_69 ?_
    refine gx_aload_0 C dX0_take_70 rfl ?_
    refine gs_getf (q := 41) C fl_X0_71 (cls_X0 hx) lt_X_Bests (oc_X_Bests a ι _) rfl dX0_take_71 ?_
    refine gx_icmp_eq (tgt := 90) C dX0_take_74 (by decide) (fun hc4 => ?_) (fun hc4 => ?_)
    · have h := gi_t hc4 h
      refine gx_iload_3 C dX0_take_90 rfl ?_
      exact gx_iret C F rfl dX0_take_91 (Option.some.inj h)
    · have h := gi_f hc4 h
      refine gx_aload_1 C dX0_take_77 rfl ?_
      refine gs_getf (q := (21 + 4 * r1)) C fl_X0_67 (cls_X4 hx) (lt_X_Standing (q := r1) hr1) (oc_X_Standing a ι _ (q := r1) hr1) rfl dX0_take_78 ?_
      refine gx_iload_2 C dX0_take_81 rfl ?_
      refine gx_aload_0 C dX0_take_82 rfl ?_
      refine gs_getf (q := 41) C fl_X0_71 (cls_X0 hx) lt_X_Bests (oc_X_Bests a ι _) rfl dX0_take_83 ?_
      obtain ⟨S2, e3, h⟩ := gi_let h
      refine gs_zast (q := (21 + 4 * r1 + 3)) C (ac_X_Standing_in hx a (q := r1) hr1) (lt_X_Standing_in (q := r1) hr1) hi1 e3 dX0_take_86 ?_
      refine gx_iinc1 C dX0_take_87 rfl (by rw [hnL]; decide) trivial ?_
      refine gx_iload_3 C dX0_take_90 rfl ?_
      exact gx_iret C F rfl dX0_take_91 (Option.some.inj h)
  · have h := gi_f hc10 h
    refine gx_aload_1 C dX0_take_14 rfl ?_
    refine gs_getf (q := (21 + 4 * r1)) C fl_X0_62 (cls_X4 hx) (lt_X_Standing (q := r1) hr1) (oc_X_Standing a ι _ (q := r1) hr1) rfl dX0_take_15 ?_
    refine gx_aload_0 C dX0_take_18 rfl ?_
    refine gs_getf (q := 41) C fl_X0_9 (cls_X0 hx) lt_X_Bests (oc_X_Bests a ι _) rfl dX0_take_19 ?_
    refine gx_iload C dX0_take_22 rfl ?_
    obtain ⟨hi5, h⟩ := gi_ck h
    refine gs_iald (q := 42) C (ac_X_Bests_own hx a) lt_X_Bests_own hi5 dX0_take_24 ?_
    obtain ⟨hi6, h⟩ := gi_ck h
    refine gs_iald (q := (21 + 4 * r1 + 1)) C (ac_X_Standing_price hx a (q := r1) hr1) (lt_X_Standing_price (q := r1) hr1) hi6 dX0_take_25 ?_
    refine gx_aload_0 C dX0_take_26 rfl ?_
    refine gs_getf (q := 41) C fl_X0_21 (cls_X0 hx) lt_X_Bests (oc_X_Bests a ι _) rfl dX0_take_27 ?_
    refine gx_iload C dX0_take_30 rfl ?_
    refine gs_iald (q := 45) C (ac_X_Bests_chosen hx a) lt_X_Bests_chosen hi5 dX0_take_32 ?_
    refine gx_icmp_eq (tgt := 58) C dX0_take_33 (by decide) (fun hc9 => ?_) (fun hc9 => ?_)
    · have h := gi_t hc9 h
      exact gx_weak (gx_le_k rfl (gx_le_k rfl (gx_le_k rfl (gx_le_k rfl (gx_le_k rfl gx_le_0))))) (b_Bests_take_58 hx hr1 C ⟨F, hnL⟩ hk5 h)
    · have h := gi_f hc9 h
      refine gx_aload_1 C dX0_take_36 rfl ?_
      refine gs_getf (q := (21 + 4 * r1)) C fl_X0_62 (cls_X4 hx) (lt_X_Standing (q := r1) hr1) (oc_X_Standing a ι _ (q := r1) hr1) rfl dX0_take_37 ?_
      refine gx_aload_0 C dX0_take_40 rfl ?_
      refine gs_getf (q := 41) C fl_X0_9 (cls_X0 hx) lt_X_Bests (oc_X_Bests a ι _) rfl dX0_take_41 ?_
      refine gx_iload C dX0_take_44 rfl ?_
      refine gs_iald (q := 42) C (ac_X_Bests_own hx a) lt_X_Bests_own hi5 dX0_take_46 ?_
      refine gx_aload_0 C dX0_take_47 rfl ?_
      refine gs_getf (q := 41) C fl_X0_21 (cls_X0 hx) lt_X_Bests (oc_X_Bests a ι _) rfl dX0_take_48 ?_
      refine gx_iload C dX0_take_51 rfl ?_
      refine gs_iald (q := 45) C (ac_X_Bests_chosen hx a) lt_X_Bests_chosen hi5 dX0_take_53 ?_
      obtain ⟨S7, e8, h⟩ := gi_let h
      refine gs_iast (q := (21 + 4 * r1 + 1)) C (ac_X_Standing_price hx a (q := r1) hr1) (lt_X_Standing_price (q := r1) hr1) hi6 e8 dX0_take_54 ?_
      refine gx_iinc1 C dX0_take_55 rfl (by rw [hnL]; decide) trivial ?_
      exact gx_weak (gx_le_k rfl (gx_le_k rfl (gx_le_k rfl (gx_le_k rfl (gx_le_k rfl gx_le_0))))) (b_Bests_take_58 hx hr1 C ⟨F, hnL⟩ hk5 h)
def m_Bests_take (r1 : Nat) (x2 : Int32) (S : gx_S) : Option (Int32 × gx_S) := gx_loop (m_Bests_take_5 r1 x2) 5000 (0, 0, S)
set_option maxRecDepth 20000 in
set_option maxHeartbeats 1000000 in
theorem c_Bests_take (l : Launch) (D : va_G) {cl : List vw_C} {tys : List (ClassId × FieldType)} {ι : Nat → ClassId} (hx : gx_std vwCl (gty ι) cl tys) (a : Nat → Nat) {r1 : Nat} (hr1 : r1 < 5) (x2 : Int32) (S : gx_S) {out : Int32 × gx_S} (h : m_Bests_take r1 x2 S = some out) : gx_mI l D cl tys yX0_take (.code yX0_take cX0_take 5 ((Option.some Jvm.ClassFile.FieldType.int)) :: gx_U) (gx_rm 0) [.ref (a 41), .ref (a (21 + 4 * r1)), .int x2] (wX a ι S) (wX a ι) out := by
  unfold m_Bests_take at h
  refine gx_startI (V := [.ref (a 41), .ref (a (21 + 4 * r1)), .int x2, .null, .null]) 2 (by decide +kernel) (Nat.le_of_ble_eq_true rfl) rfl (fun Γ hl hD hcl hty hnL C F => ?_)
  subst hl; subst hD; subst hcl; subst hty
  refine gx_iconst0 C dX0_take_0 ?_
  refine gx_istore_3 C dX0_take_1 (by rw [hnL]; decide) trivial ?_
  refine gx_iconst0 C dX0_take_2 ?_
  refine gx_istore C dX0_take_3 (by rw [hnL]; decide) trivial ?_
  refine gx_weak (gx_le_k rfl (gx_le_k rfl (gx_le_k rfl (gx_le_k rfl (gx_le_k rfl gx_le_0))))) (gi_loop (P := fun t => gx_G Γ 0 0 5 [.ref (a 41), .ref (a (21 + 4 * r1)), .int x2, .int t.1, .int t.2.1] [] (wX a ι t.2.2)) (fun kk t hk h => ?_) 5000 _ h)
  obtain ⟨x39, x49, S'9⟩ := t
  exact b_Bests_take_5 hx hr1 C ⟨F, hnL⟩ (k5 := kk) (fun x38 x48 S'8 h => hk (x38, x48, S'8) h) h
def m_Bests_settle_13 (r1 : Nat) (k2 : Int32 × gx_S → Option (Int32 × gx_S)) (x2 : Int32) (t : Int32 × Int32 × gx_S) (k13 : Int32 × Int32 × gx_S → Option (Int32 × gx_S)) : Option (Int32 × gx_S) := match t with
  | (x3, x4, S) => if (S 1 0) ≤ x4 then if x3 = 0 then some (x2, S) else k2 ((x2 + 1), S) else gx_cp (m_Bests_look r1 x4 S) fun S3 => gx_cs (m_Bests_take r1 x4 S3) fun v6 S5 => k13 ((x3 + v6), (x4 + 1), S5)
set_option maxRecDepth 20000 in
set_option maxHeartbeats 1000000 in
theorem b_Bests_settle_13 {Γ : gx_T} {ι : Nat → ClassId} {a : Nat → Nat} {r1 : Nat} {out : Int32 × gx_S} (hx : gx_std vwCl (gty ι) (gx_cl Γ) (gx_ty Γ)) (hr1 : r1 < 5) (C : gx_ok Γ cX0_settle RX0 gx_U 9) (F : gx_finI Γ ((Option.some Jvm.ClassFile.FieldType.int)) (wX a ι) out ∧ gx_nL Γ = 5) {k2 : Int32 × gx_S → Option (Int32 × gx_S)} {k13 : Int32 × Int32 × gx_S → Option (Int32 × gx_S)} {x2 : Int32} {x3 : Int32} {x4 : Int32} {S : gx_S} (hk2 : ∀ (x27 : Int32) (S7 : gx_S), k2 (x27, S7) = some out → gx_G Γ 0 0 2 [.ref (a 41), .ref (a (21 + 4 * r1)), .int x27, .null, .null] [] (wX a ι S7)) (hk13 : ∀ (x37 : Int32) (x47 : Int32) (S7 : gx_S), k13 (x37, x47, S7) = some out → gx_G Γ 0 0 13 [.ref (a 41), .ref (a (21 + 4 * r1)), .int x2, .int x37, .int x47] [] (wX a ι S7)) (h : m_Bests_settle_13 r1 k2 x2 (x3, x4, S) k13 = some out) : gx_G Γ 0 0 13 [.ref (a 41), .ref (a (21 + 4 * r1)), .int x2, .int x3, .int x4] [] (wX a ι S) := by
  obtain ⟨F, hnL⟩ := F
  unfold m_Bests_settle_13 at h
  dsimp only at h
  refine gx_iload C dX0_settle_13 rfl ?_
  refine gx_aload_0 C dX0_settle_15 rfl ?_
  refine gs_getf (q := 41) C fl_X0_41 (cls_X0 hx) lt_X_Bests (oc_X_Bests a ι _) rfl dX0_settle_16 ?_
  refine gs_getf (q := 1) C fl_X0_45 (cls_X5 hx) lt_X_Street (oc_X_Street a ι _) rfl dX0_settle_19 ?_
  refine gx_icmp_ge (tgt := 48) C dX0_settle_22 (by decide) (fun hc7 => ?_) (fun hc7 => ?_)
  · have h := gi_t hc7 h
    refine gx_iload_3 C dX0_settle_48 rfl ?_
    refine gx_if_ne (tgt := 54) C dX0_settle_49 (by decide) (fun hc1 => ?_) (fun hc1 => ?_)
    · have h := gi_f hc1 h
      refine gx_iinc1 C dX0_settle_54 rfl (by rw [hnL]; decide) trivial ?_
      refine gx_goto (tgt := 2) C dX0_settle_57 (by decide) ?_
      exact gx_weak (gx_le_k rfl (gx_le_k rfl (gx_le_k rfl (gx_le_n (gx_le_n gx_le_0))))) (hk2 _ _ h)
    · have h := gi_t hc1 h
      refine gx_iload_2 C dX0_settle_52 rfl ?_
      exact gx_iret C F rfl dX0_settle_53 (Option.some.inj h)
  · have h := gi_f hc7 h
    refine gx_aload_0 C dX0_settle_25 rfl ?_
    refine gx_aload_1 C dX0_settle_26 rfl ?_
    refine gx_iload C dX0_settle_27 rfl ?_
    obtain ⟨S3, e2, h⟩ := gi_cp h
    refine gc_VV C (c_Bests_look (gx_l Γ) (gx_D Γ) hx a (r1 := r1) hr1 _ _ e2) (gx_cw C gx_uu lk_X0_51 (by decide) (by decide)) (cls_X0 hx).1 (gs_recv (q := 41) lt_X_Bests (oc_X_Bests a ι _)) rfl rfl (Nat.le_of_ble_eq_true rfl) ⟨Nat.zero_le _, Nat.zero_le _⟩ dX0_settle_29 ?_
    refine gx_iload_3 C dX0_settle_32 rfl ?_
    refine gx_aload_0 C dX0_settle_33 rfl ?_
    refine gx_aload_1 C dX0_settle_34 rfl ?_
    refine gx_iload C dX0_settle_35 rfl ?_
    obtain ⟨v6, S5, e4, h⟩ := gi_cs h
    refine gc_IV C (c_Bests_take (gx_l Γ) (gx_D Γ) hx a (r1 := r1) hr1 _ _ e4) (gx_cw C gx_uu lk_X0_55 (by decide) (by decide)) (cls_X0 hx).1 (gs_recv (q := 41) lt_X_Bests (oc_X_Bests a ι _)) rfl rfl (Nat.le_of_ble_eq_true rfl) ⟨Nat.zero_le _, Nat.zero_le _⟩ dX0_settle_37 ?_
    refine gx_iadd C dX0_settle_40 ?_
    refine gx_istore_3 C dX0_settle_41 (by rw [hnL]; decide) trivial ?_
    refine gx_iinc1 C dX0_settle_42 rfl (by rw [hnL]; decide) trivial ?_
    refine gx_goto (tgt := 13) C dX0_settle_45 (by decide) ?_
    exact gx_weak (gx_le_k rfl (gx_le_k rfl (gx_le_k rfl (gx_le_k rfl (gx_le_k rfl gx_le_0))))) (hk13 _ _ _ h)
def m_Bests_settle_2 (r1 : Nat) (t : Int32 × gx_S) (k2 : Int32 × gx_S → Option (Int32 × gx_S)) : Option (Int32 × gx_S) := match t with
  | (x2, S) => if 20 ≤ x2 then some ((-1), S) else gx_loop (m_Bests_settle_13 r1 k2 x2) 5000 (0, 0, S)
set_option maxRecDepth 20000 in
set_option maxHeartbeats 1000000 in
theorem b_Bests_settle_2 {Γ : gx_T} {ι : Nat → ClassId} {a : Nat → Nat} {r1 : Nat} {out : Int32 × gx_S} (hx : gx_std vwCl (gty ι) (gx_cl Γ) (gx_ty Γ)) (hr1 : r1 < 5) (C : gx_ok Γ cX0_settle RX0 gx_U 9) (F : gx_finI Γ ((Option.some Jvm.ClassFile.FieldType.int)) (wX a ι) out ∧ gx_nL Γ = 5) {k2 : Int32 × gx_S → Option (Int32 × gx_S)} {x2 : Int32} {S : gx_S} (hk2 : ∀ (x27 : Int32) (S7 : gx_S), k2 (x27, S7) = some out → gx_G Γ 0 0 2 [.ref (a 41), .ref (a (21 + 4 * r1)), .int x27, .null, .null] [] (wX a ι S7)) (h : m_Bests_settle_2 r1 (x2, S) k2 = some out) : gx_G Γ 0 0 2 [.ref (a 41), .ref (a (21 + 4 * r1)), .int x2, .null, .null] [] (wX a ι S) := by
  obtain ⟨F, hnL⟩ := F
  unfold m_Bests_settle_2 at h
  dsimp only at h
  refine gx_iload_2 C dX0_settle_2 rfl ?_
  refine gx_bipush (v := 20) C dX0_settle_3 (by decide) ?_
  refine gx_icmp_ge (tgt := 60) C dX0_settle_5 (by decide) (fun hc1 => ?_) (fun hc1 => ?_)
  · have h := gi_t hc1 h
    refine gx_iconstm1 C dX0_settle_60 ?_
    exact gx_iret C F rfl dX0_settle_61 (Option.some.inj h)
  · have h := gi_f hc1 h
    refine gx_iconst0 C dX0_settle_8 ?_
    refine gx_istore_3 C dX0_settle_9 (by rw [hnL]; decide) trivial ?_
    refine gx_iconst0 C dX0_settle_10 ?_
    refine gx_istore C dX0_settle_11 (by rw [hnL]; decide) trivial ?_
    refine gx_weak (gx_le_k rfl (gx_le_k rfl (gx_le_k rfl (gx_le_k rfl (gx_le_k rfl gx_le_0))))) (gi_loop (P := fun t => gx_G Γ 0 0 13 [.ref (a 41), .ref (a (21 + 4 * r1)), .int x2, .int t.1, .int t.2.1] [] (wX a ι t.2.2)) (fun kk t hk h => ?_) 5000 _ h)
    obtain ⟨x39, x49, S'9⟩ := t
    exact b_Bests_settle_13 hx hr1 C ⟨F, hnL⟩ hk2 (k13 := kk) (fun x38 x48 S'8 h => hk (x38, x48, S'8) h) h
def m_Bests_settle (r1 : Nat) (S : gx_S) : Option (Int32 × gx_S) := gx_loop (m_Bests_settle_2 r1) 5000 (0, S)
set_option maxRecDepth 20000 in
set_option maxHeartbeats 1000000 in
theorem c_Bests_settle (l : Launch) (D : va_G) {cl : List vw_C} {tys : List (ClassId × FieldType)} {ι : Nat → ClassId} (hx : gx_std vwCl (gty ι) cl tys) (a : Nat → Nat) {r1 : Nat} (hr1 : r1 < 5) (S : gx_S) {out : Int32 × gx_S} (h : m_Bests_settle r1  S = some out) : gx_mI l D cl tys yX0_settle (.code yX0_settle cX0_settle 5 ((Option.some Jvm.ClassFile.FieldType.int)) :: gx_U) (gx_rm 9) [.ref (a 41), .ref (a (21 + 4 * r1))] (wX a ι S) (wX a ι) out := by
  unfold m_Bests_settle at h
  refine gx_startI (V := [.ref (a 41), .ref (a (21 + 4 * r1)), .null, .null, .null]) 3 (by decide +kernel) (Nat.le_of_ble_eq_true rfl) rfl (fun Γ hl hD hcl hty hnL C F => ?_)
  subst hl; subst hD; subst hcl; subst hty
  refine gx_iconst0 C dX0_settle_0 ?_
  refine gx_istore_2 C dX0_settle_1 (by rw [hnL]; decide) trivial ?_
  refine gx_weak (gx_le_k rfl (gx_le_k rfl (gx_le_k rfl (gx_le_n (gx_le_n gx_le_0))))) (gi_loop (P := fun t => gx_G Γ 0 0 2 [.ref (a 41), .ref (a (21 + 4 * r1)), .int t.1, .null, .null] [] (wX a ι t.2)) (fun kk t hk h => ?_) 5000 _ h)
  obtain ⟨x29, S'9⟩ := t
  exact b_Bests_settle_2 hx hr1 C ⟨F, hnL⟩ (k2 := kk) (fun x28 S'8 h => hk (x28, S'8) h) h

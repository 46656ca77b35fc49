def m_Standing_openShops_29 (r : Nat) (k4 : Int32 × Int32 → Option (Int32)) (x1 : Int32) (x2 : Int32) (S : gx_S) : Option (Int32) := k4 (x1, (x2 + 1))
set_option maxRecDepth 20000 in
set_option maxHeartbeats 1000000 in
theorem b_Standing_openShops_29 {Γ : gx_T} {ι : Nat → ClassId} {a : Nat → Nat} {r : Nat} {out : Int32} {S : gx_S} (hx : gx_std vwCl (gty ι) (gx_cl Γ) (gx_ty Γ)) (hr : r < 5) (C : gx_ok Γ cX4_openShops RX4 gx_U 1) (F : gx_finI Γ ((Option.some Jvm.ClassFile.FieldType.int)) (wX a ι) (out, S) ∧ gx_nL Γ = 3) {k4 : Int32 × Int32 → Option (Int32)} {x1 : Int32} {x2 : Int32} (hk4 : ∀ (x17 : Int32) (x27 : Int32), k4 (x17, x27) = some out → gx_G Γ 0 0 4 [.ref (a (21 + 4 * r)), .int x17, .int x27] [] (wX a ι S)) (h : m_Standing_openShops_29 r k4 x1 x2 S = some out) : gx_G Γ 0 0 29 [.ref (a (21 + 4 * r)), .int x1, .int x2] [] (wX a ι S) := by
  obtain ⟨F, hnL⟩ := F
  unfold m_Standing_openShops_29 at h
  refine gx_iinc1 C dX4_openShops_29 rfl (by rw [hnL]; decide) trivial ?_
  refine gx_goto (tgt := 4) C dX4_openShops_32 (by decide) ?_
  exact gx_weak (gx_le_k rfl (gx_le_k rfl (gx_le_k rfl gx_le_0))) (hk4 _ _ h)
def m_Standing_openShops_4 (r : Nat) (S : gx_S) (t : Int32 × Int32) (k4 : Int32 × Int32 → Option (Int32)) : Option (Int32) := match t with
  | (x1, x2) => if (S 1 1) ≤ x2 then some x1 else gx_cp (m_Standing_isOpen r x2 S) fun v2 => if v2 = 0 then m_Standing_openShops_29 r k4 x1 x2 S else m_Standing_openShops_29 r k4 (x1 ||| ((1 : Int32) <<< (x2 &&& 31))) x2 S
set_option maxRecDepth 20000 in
set_option maxHeartbeats 1000000 in
theorem b_Standing_openShops_4 {Γ : gx_T} {ι : Nat → ClassId} {a : Nat → Nat} {r : Nat} {out : Int32} {S : gx_S} (hx : gx_std vwCl (gty ι) (gx_cl Γ) (gx_ty Γ)) (hr : r < 5) (C : gx_ok Γ cX4_openShops RX4 gx_U 1) (F : gx_finI Γ ((Option.some Jvm.ClassFile.FieldType.int)) (wX a ι) (out, S) ∧ gx_nL Γ = 3) {k4 : Int32 × Int32 → Option (Int32)} {x1 : Int32} {x2 : Int32} (hk4 : ∀ (x17 : Int32) (x27 : Int32), k4 (x17, x27) = some out → gx_G Γ 0 0 4 [.ref (a (21 + 4 * r)), .int x17, .int x27] [] (wX a ι S)) (h : m_Standing_openShops_4 r S (x1, x2) k4 = some out) : gx_G Γ 0 0 4 [.ref (a (21 + 4 * r)), .int x1, .int x2] [] (wX a ι S) := by
  obtain ⟨F, hnL⟩ := F
  unfold m_Standing_openShops_4 at h
  dsimp only at h
  refine gx_iload_2 C dX4_openShops_4 rfl ?_
  refine gx_aload_0 C dX4_openShops_5 rfl ?_
  refine gs_getf (q := (21 + 4 * r)) C fl_X4_22 (cls_X4 hx) (lt_X_Standing (q := r) hr) (oc_X_Standing a ι _ (q := r) hr) rfl dX4_openShops_6 ?_
  refine gs_getf (q := 1) C fl_X4_26 (cls_X5 hx) lt_X_Street (oc_X_Street a ι _) rfl dX4_openShops_9 ?_
  refine gx_icmp_ge (tgt := 35) C dX4_openShops_12 (by decide) (fun hc4 => ?_) (fun hc4 => ?_)
  · have h := gi_t hc4 h
    refine gx_iload_1 C dX4_openShops_35 rfl ?_
    exact gx_iret C F rfl dX4_openShops_36 (congrArg (fun z => (z, S)) (Option.some.inj h))
  · have h := gi_f hc4 h
    refine gx_aload_0 C dX4_openShops_15 rfl ?_
    refine gx_iload_2 C dX4_openShops_16 rfl ?_
    obtain ⟨v2, e1, h⟩ := gi_cp h
    refine gc_IV C (c_Standing_isOpen (gx_l Γ) (gx_D Γ) hx a (r := r) hr _ _ e1) (gx_cw C gx_uu lk_X4_44 (by decide) (by decide)) (cls_X4 hx).1 (gs_recv (q := (21 + 4 * r)) (lt_X_Standing (q := r) hr) (oc_X_Standing a ι _ (q := r) hr)) rfl rfl (Nat.le_of_ble_eq_true rfl) ⟨Nat.zero_le _, Nat.zero_le _⟩ dX4_openShops_17 ?_
    refine gx_if_eq (tgt := 29) C dX4_openShops_20 (by decide) (fun hc3 => ?_) (fun hc3 => ?_)
    · have h := gi_t hc3 h
      exact gx_weak (gx_le_k rfl (gx_le_k rfl (gx_le_k rfl gx_le_0))) (b_Standing_openShops_29 hx hr C ⟨F, hnL⟩ hk4 h)
    · have h := gi_f hc3 h
      refine gx_iload_1 C dX4_openShops_23 rfl ?_
      refine gx_iconst1 C dX4_openShops_24 ?_
      refine gx_iload_2 C dX4_openShops_25 rfl ?_
      refine gx_ishl C dX4_openShops_26 ?_
      refine gx_ior C dX4_openShops_27 ?_
      refine gx_istore_1 C dX4_openShops_28 (by rw [hnL]; decide) trivial ?_
      exact gx_weak (gx_le_k rfl (gx_le_k rfl (gx_le_k rfl gx_le_0))) (b_Standing_openShops_29 hx hr C ⟨F, hnL⟩ hk4 h)
def m_Standing_openShops (r : Nat) (S : gx_S) : Option (Int32) := gx_loop (m_Standing_openShops_4 r S) 5000 (0, 0)
set_option maxRecDepth 20000 in
set_option maxHeartbeats 1000000 in
theorem c_Standing_openShops (l : Launch) (D : va_G) {cl : List vw_C} {tys : List (ClassId × FieldType)} {ι : Nat → ClassId} (hx : gx_std vwCl (gty ι) cl tys) (a : Nat → Nat) {r : Nat} (hr : r < 5) (S : gx_S) {out : Int32} (h : m_Standing_openShops r  S = some out) : gx_mI l D cl tys yX4_openShops (.code yX4_openShops cX4_openShops 3 ((Option.some Jvm.ClassFile.FieldType.int)) :: gx_U) (gx_rm 1) [.ref (a (21 + 4 * r))] (wX a ι S) (wX a ι) (out, S) := by
  unfold m_Standing_openShops at h
  refine gx_startI (V := [.ref (a (21 + 4 * r)), .null, .null]) 2 (by decide +kernel) (Nat.le_of_ble_eq_true rfl) rfl (fun Γ hl hD hcl hty hnL C F => ?_)
  subst hl; subst hD; subst hcl; subst hty
  refine gx_iconst0 C dX4_openShops_0 ?_
  refine gx_istore_1 C dX4_openShops_1 (by rw [hnL]; decide) trivial ?_
  refine gx_iconst0 C dX4_openShops_2 ?_
  refine gx_istore_2 C dX4_openShops_3 (by rw [hnL]; decide) trivial ?_
  refine gx_weak (gx_le_k rfl (gx_le_k rfl (gx_le_k rfl gx_le_0))) (gi_loop (P := fun t => gx_G Γ 0 0 4 [.ref (a (21 + 4 * r)), .int t.1, .int t.2] [] (wX a ι S)) (fun kk t hk h => ?_) 5000 _ h)
  obtain ⟨x19, x29⟩ := t
  exact b_Standing_openShops_4 hx hr C ⟨F, hnL⟩ (k4 := kk) (fun x18 x28 h => hk (x18, x28) h) h
def m_Standing_nearestOpen_78 (r : Nat) (k9 : Int32 × Int32 × Int32 → Option (Int32)) (x1 : Int32) (x2 : Int32) (x3 : Int32) (x4 : Int32) (x5 : Int32) (S : gx_S) : Option (Int32) := k9 (x3, x4, (x5 + 1))
set_option maxRecDepth 20000 in
set_option maxHeartbeats 1000000 in
theorem b_Standing_nearestOpen_78 {Γ : gx_T} {ι : Nat → ClassId} {a : Nat → Nat} {r : Nat} {out : Int32} {S : gx_S} (hx : gx_std vwCl (gty ι) (gx_cl Γ) (gx_ty Γ)) (hr : r < 5) (C : gx_ok Γ cX4_nearestOpen RX4 gx_U 1) (F : gx_finI Γ ((Option.some Jvm.ClassFile.FieldType.int)) (wX a ι) (out, S) ∧ gx_nL Γ = 7) {k9 : Int32 × Int32 × Int32 → Option (Int32)} {x1 : Int32} {x2 : Int32} {x3 : Int32} {x4 : Int32} {x5 : Int32} (hk9 : ∀ (x37 : Int32) (x47 : Int32) (x57 : Int32), k9 (x37, x47, x57) = some out → gx_G Γ 0 0 9 [.ref (a (21 + 4 * r)), .int x1, .int x2, .int x37, .int x47, .int x57, .null] [] (wX a ι S)) (h : m_Standing_nearestOpen_78 r k9 x1 x2 x3 x4 x5 S = some out) : gx_G Γ 0 0 78 [.ref (a (21 + 4 * r)), .int x1, .int x2, .int x3, .int x4, .int x5, .null] [] (wX a ι S) := by
  obtain ⟨F, hnL⟩ := F
  unfold m_Standing_nearestOpen_78 at h
  refine gx_iinc1 C dX4_nearestOpen_78 rfl (by rw [hnL]; decide) trivial ?_
  refine gx_goto (tgt := 9) C dX4_nearestOpen_81 (by decide) ?_
  exact gx_weak (gx_le_k rfl (gx_le_k rfl (gx_le_k rfl (gx_le_k rfl (gx_le_k rfl (gx_le_k rfl (gx_le_n gx_le_0))))))) (hk9 _ _ _ h)
def m_Standing_nearestOpen_9 (r : Nat) (x1 : Int32) (x2 : Int32) (S : gx_S) (t : Int32 × Int32 × Int32) (k9 : Int32 × Int32 × Int32 → Option (Int32)) : Option (Int32) := match t with
  | (x3, x4, x5) => if (S 1 1) ≤ x5 then some x3 else gx_ck 6 x5 (gx_ck 6 x1 (if ((x2 >>> (x5 &&& 31)) &&& (1 : Int32)) = 0 then gx_cp (m_Standing_isOpen r x5 S) fun v4 => if v4 = 0 then m_Standing_nearestOpen_78 r k9 x1 x2 x3 x4 x5 S else if x4 ≤ (if 0 ≤ ((S 4 x5.toNatClampNeg) - (S 4 x1.toNatClampNeg)) then ((S 4 x5.toNatClampNeg) - (S 4 x1.toNatClampNeg)) else 0 - ((S 4 x5.toNatClampNeg) - (S 4 x1.toNatClampNeg))) then m_Standing_nearestOpen_78 r k9 x1 x2 x3 x4 x5 S else m_Standing_nearestOpen_78 r k9 x1 x2 x5 (if 0 ≤ ((S 4 x5.toNatClampNeg) - (S 4 x1.toNatClampNeg)) then ((S 4 x5.toNatClampNeg) - (S 4 x1.toNatClampNeg)) else 0 - ((S 4 x5.toNatClampNeg) - (S 4 x1.toNatClampNeg))) x5 S else m_Standing_nearestOpen_78 r k9 x1 x2 x3 x4 x5 S))
set_option maxRecDepth 20000 in
set_option maxHeartbeats 1000000 in
theorem b_Standing_nearestOpen_9 {Γ : gx_T} {ι : Nat → ClassId} {a : Nat → Nat} {r : Nat} {out : Int32} {S : gx_S} (hx : gx_std vwCl (gty ι) (gx_cl Γ) (gx_ty Γ)) (hr : r < 5) (C : gx_ok Γ cX4_nearestOpen RX4 gx_U 1) (F : gx_finI Γ ((Option.some Jvm.ClassFile.FieldType.int)) (wX a ι) (out, S) ∧ gx_nL Γ = 7) {k9 : Int32 × Int32 × Int32 → Option (Int32)} {x1 : Int32} {x2 : Int32} {x3 : Int32} {x4 : Int32} {x5 : Int32} (hk9 : ∀ (x37 : Int32) (x47 : Int32) (x57 : Int32), k9 (x37, x47, x57) = some out → gx_G Γ 0 0 9 [.ref (a (21 + 4 * r)), .int x1, .int x2, .int x37, .int x47, .int x57, .null] [] (wX a ι S)) (h : m_Standing_nearestOpen_9 r x1 x2 S (x3, x4, x5) k9 = some out) : gx_G Γ 0 0 9 [.ref (a (21 + 4 * r)), .int x1, .int x2, .int x3, .int x4, .int x5, .null] [] (wX a ι S) := by
  obtain ⟨F, hnL⟩ := F
  unfold m_Standing_nearestOpen_9 at h
  dsimp only at h
  refine gx_iload C dX4_nearestOpen_9 rfl ?_
  refine gx_aload_0 C dX4_nearestOpen_11 rfl ?_
  refine gs_getf (q := (21 + 4 * r)) C fl_X4_22 (cls_X4 hx) (lt_X_Standing (q := r) hr) (oc_X_Standing a ι _ (q := r) hr) rfl dX4_nearestOpen_12 ?_
  refine gs_getf (q := 1) C fl_X4_26 (cls_X5 hx) lt_X_Street (oc_X_Street a ι _) rfl dX4_nearestOpen_15 ?_
  refine gx_icmp_ge (tgt := 84) C dX4_nearestOpen_18 (by decide) (fun hc8 => ?_) (fun hc8 => ?_)
  · have h := gi_t hc8 h
    refine gx_iload_3 C dX4_nearestOpen_84 rfl ?_
    exact gx_iret C F rfl dX4_nearestOpen_85 (congrArg (fun z => (z, S)) (Option.some.inj h))
  · have h := gi_f hc8 h
    refine gx_aload_0 C dX4_nearestOpen_21 rfl ?_
    refine gs_getf (q := (21 + 4 * r)) C fl_X4_22 (cls_X4 hx) (lt_X_Standing (q := r) hr) (oc_X_Standing a ι _ (q := r) hr) rfl dX4_nearestOpen_22 ?_
    refine gs_getf (q := 1) C fl_X4_48 (cls_X5 hx) lt_X_Street (oc_X_Street a ι _) rfl dX4_nearestOpen_25 ?_
    refine gx_iload C dX4_nearestOpen_28 rfl ?_
    obtain ⟨hi1, h⟩ := gi_ck h
    refine gs_iald (q := 4) C (ac_X_Street_place hx a) lt_X_Street_place hi1 dX4_nearestOpen_30 ?_
    refine gx_aload_0 C dX4_nearestOpen_31 rfl ?_
    refine gs_getf (q := (21 + 4 * r)) C fl_X4_22 (cls_X4 hx) (lt_X_Standing (q := r) hr) (oc_X_Standing a ι _ (q := r) hr) rfl dX4_nearestOpen_32 ?_
    refine gs_getf (q := 1) C fl_X4_48 (cls_X5 hx) lt_X_Street (oc_X_Street a ι _) rfl dX4_nearestOpen_35 ?_
    refine gx_iload_1 C dX4_nearestOpen_38 rfl ?_
    obtain ⟨hi2, h⟩ := gi_ck h
    refine gs_iald (q := 4) C (ac_X_Street_place hx a) lt_X_Street_place hi2 dX4_nearestOpen_39 ?_
    refine gx_isub C dX4_nearestOpen_40 ?_
    refine gx_mabs C (by decide) lk_X4_51 (Nat.le_of_ble_eq_true rfl) ⟨Nat.zero_le _, Nat.zero_le _⟩ dX4_nearestOpen_41 ?_
    refine gx_istore C dX4_nearestOpen_44 (by rw [hnL]; decide) trivial ?_
    refine gx_iload_2 C dX4_nearestOpen_46 rfl ?_
    refine gx_iload C dX4_nearestOpen_47 rfl ?_
    refine gx_ishr C dX4_nearestOpen_49 ?_
    refine gx_iconst1 C dX4_nearestOpen_50 ?_
    refine gx_iand C dX4_nearestOpen_51 ?_
    refine gx_if_ne (tgt := 78) C dX4_nearestOpen_52 (by decide) (fun hc7 => ?_) (fun hc7 => ?_)
    · have h := gi_f hc7 h
      exact gx_weak (gx_le_k rfl (gx_le_k rfl (gx_le_k rfl (gx_le_k rfl (gx_le_k rfl (gx_le_k rfl (gx_le_n gx_le_0))))))) (b_Standing_nearestOpen_78 hx hr C ⟨F, hnL⟩ hk9 h)
    · have h := gi_t hc7 h
      refine gx_aload_0 C dX4_nearestOpen_55 rfl ?_
      refine gx_iload C dX4_nearestOpen_56 rfl ?_
      obtain ⟨v4, e3, h⟩ := gi_cp h
      refine gc_IV C (c_Standing_isOpen (gx_l Γ) (gx_D Γ) hx a (r := r) hr _ _ e3) (gx_cw C gx_uu lk_X4_44 (by decide) (by decide)) (cls_X4 hx).1 (gs_recv (q := (21 + 4 * r)) (lt_X_Standing (q := r) hr) (oc_X_Standing a ι _ (q := r) hr)) rfl rfl (Nat.le_of_ble_eq_true rfl) ⟨Nat.zero_le _, Nat.zero_le _⟩ dX4_nearestOpen_58 ?_
      refine gx_if_eq (tgt := 78) C dX4_nearestOpen_61 (by decide) (fun hc6 => ?_) (fun hc6 => ?_)
      · have h := gi_t hc6 h
        exact gx_weak (gx_le_k rfl (gx_le_k rfl (gx_le_k rfl (gx_le_k rfl (gx_le_k rfl (gx_le_k rfl (gx_le_n gx_le_0))))))) (b_Standing_nearestOpen_78 hx hr C ⟨F, hnL⟩ hk9 h)
      · have h := gi_f hc6 h
        refine gx_iload C dX4_nearestOpen_64 rfl ?_
        refine gx_iload C dX4_nearestOpen_66 rfl ?_
        refine gx_icmp_ge (tgt := 78) C dX4_nearestOpen_68 (by decide) (fun hc5 => ?_) (fun hc5 => ?_)
        · have h := gi_t hc5 h
          exact gx_weak (gx_le_k rfl (gx_le_k rfl (gx_le_k rfl (gx_le_k rfl (gx_le_k rfl (gx_le_k rfl (gx_le_n gx_le_0))))))) (b_Standing_nearestOpen_78 hx hr C ⟨F, hnL⟩ hk9 h)
        · have h := gi_f hc5 h
          refine gx_iload C dX4_nearestOpen_71 rfl ?_
          refine gx_istore_3 C dX4_nearestOpen_73 (by rw [hnL]; decide) trivial ?_
          refine gx_iload C dX4_nearestOpen_74 rfl ?_
          refine gx_istore C dX4_nearestOpen_76 (by rw [hnL]; decide) trivial ?_
          exact gx_weak (gx_le_k rfl (gx_le_k rfl (gx_le_k rfl (gx_le_k rfl (gx_le_k rfl (gx_le_k rfl (gx_le_n gx_le_0))))))) (b_Standing_nearestOpen_78 hx hr C ⟨F, hnL⟩ hk9 h)
def m_Standing_nearestOpen (r : Nat) (x1 : Int32) (x2 : Int32) (S : gx_S) : Option (Int32) := gx_loop (m_Standing_nearestOpen_9 r x1 x2 S) 5000 ((-1), 99, 0)
set_option maxRecDepth 20000 in
set_option maxHeartbeats 1000000 in
theorem c_Standing_nearestOpen (l : Launch) (D : va_G) {cl : List vw_C} {tys : List (ClassId × FieldType)} {ι : Nat → ClassId} (hx : gx_std vwCl (gty ι) cl tys) (a : Nat → Nat) {r : Nat} (hr : r < 5) (x1 : Int32) (x2 : Int32) (S : gx_S) {out : Int32} (h : m_Standing_nearestOpen r x1 x2 S = some out) : gx_mI l D cl tys yX4_nearestOpen (.code yX4_nearestOpen cX4_nearestOpen 7 ((Option.some Jvm.ClassFile.FieldType.int)) :: gx_U) (gx_rm 1) [.ref (a (21 + 4 * r)), .int x1, .int x2] (wX a ι S) (wX a ι) (out, S) := by
  unfold m_Standing_nearestOpen at h
  refine gx_startI (V := [.ref (a (21 + 4 * r)), .int x1, .int x2, .null, .null, .null, .null]) 4 (by decide +kernel) (Nat.le_of_ble_eq_true rfl) rfl (fun Γ hl hD hcl hty hnL C F => ?_)
  subst hl; subst hD; subst hcl; subst hty
  refine gx_iconstm1 C dX4_nearestOpen_0 ?_
  refine gx_istore_3 C dX4_nearestOpen_1 (by rw [hnL]; decide) trivial ?_
  refine gx_bipush (v := 99) C dX4_nearestOpen_2 (by decide) ?_
  refine gx_istore C dX4_nearestOpen_4 (by rw [hnL]; decide) trivial ?_
  refine gx_iconst0 C dX4_nearestOpen_6 ?_
  refine gx_istore C dX4_nearestOpen_7 (by rw [hnL]; decide) trivial ?_
  refine gx_weak (gx_le_k rfl (gx_le_k rfl (gx_le_k rfl (gx_le_k rfl (gx_le_k rfl (gx_le_k rfl (gx_le_n gx_le_0))))))) (gi_loop (P := fun t => gx_G Γ 0 0 9 [.ref (a (21 + 4 * r)), .int x1, .int x2, .int t.1, .int t.2.1, .int t.2.2, .null] [] (wX a ι S)) (fun kk t hk h => ?_) 5000 _ h)
  obtain ⟨x39, x49, x59⟩ := t
  exact b_Standing_nearestOpen_9 hx hr C ⟨F, hnL⟩ (k9 := kk) (fun x38 x48 x58 h => hk (x38, x48, x58) h) h
def m_Standing_soldBy_51 (r : Nat) (k4 : Int32 × Int32 → Option (Int32)) (x1 : Int32) (x2 : Int32) (x3 : Int32) (S : gx_S) : Option (Int32) := k4 (x2, (x3 + 1))
set_option maxRecDepth 20000 in
set_option maxHeartbeats 1000000 in
theorem b_Standing_soldBy_51 {Γ : gx_T} {ι : Nat → ClassId} {a : Nat → Nat} {r : Nat} {out : Int32} {S : gx_S} (hx : gx_std vwCl (gty ι) (gx_cl Γ) (gx_ty Γ)) (hr : r < 5) (C : gx_ok Γ cX4_soldBy RX4 gx_U 2) (F : gx_finI Γ ((Option.some Jvm.ClassFile.FieldType.int)) (wX a ι) (out, S) ∧ gx_nL Γ = 5) {k4 : Int32 × Int32 → Option (Int32)} {x1 : Int32} {x2 : Int32} {x3 : Int32} (hk4 : ∀ (x27 : Int32) (x37 : Int32), k4 (x27, x37) = some out → gx_G Γ 0 0 4 [.ref (a (21 + 4 * r)), .int x1, .int x27, .int x37, .null] [] (wX a ι S)) (h : m_Standing_soldBy_51 r k4 x1 x2 x3 S = some out) : gx_G Γ 0 0 51 [.ref (a (21 + 4 * r)), .int x1, .int x2, .int x3, .null] [] (wX a ι S) := by
  obtain ⟨F, hnL⟩ := F
  unfold m_Standing_soldBy_51 at h
  refine gx_iinc1 C dX4_soldBy_51 rfl (by rw [hnL]; decide) trivial ?_
  refine gx_goto (tgt := 4) C dX4_soldBy_54 (by decide) ?_
  exact gx_weak (gx_le_k rfl (gx_le_k rfl (gx_le_k rfl (gx_le_k rfl (gx_le_n gx_le_0))))) (hk4 _ _ h)
def m_Standing_soldBy_4 (r : Nat) (x1 : Int32) (S : gx_S) (t : Int32 × Int32) (k4 : Int32 × Int32 → Option (Int32)) : Option (Int32) := match t with
  | (x2, x3) => if (S 1 2) ≤ x3 then some x2 else gx_cp (m_Standing_choice r x3 (-1) S) fun v2 => if v2 = (-1) then m_Standing_soldBy_51 r k4 x1 x2 x3 S else if ((x1 >>> (v2 &&& 31)) &&& (1 : Int32)) = 1 then gx_ck 8 x3 (m_Standing_soldBy_51 r k4 x1 (x2 + (S 7 x3.toNatClampNeg)) x3 S) else m_Standing_soldBy_51 r k4 x1 x2 x3 S
set_option maxRecDepth 20000 in
set_option maxHeartbeats 1000000 in
theorem b_Standing_soldBy_4 {Γ : gx_T} {ι : Nat → ClassId} {a : Nat → Nat} {r : Nat} {out : Int32} {S : gx_S} (hx : gx_std vwCl (gty ι) (gx_cl Γ) (gx_ty Γ)) (hr : r < 5) (C : gx_ok Γ cX4_soldBy RX4 gx_U 2) (F : gx_finI Γ ((Option.some Jvm.ClassFile.FieldType.int)) (wX a ι) (out, S) ∧ gx_nL Γ = 5) {k4 : Int32 × Int32 → Option (Int32)} {x1 : Int32} {x2 : Int32} {x3 : Int32} (hk4 : ∀ (x27 : Int32) (x37 : Int32), k4 (x27, x37) = some out → gx_G Γ 0 0 4 [.ref (a (21 + 4 * r)), .int x1, .int x27, .int x37, .null] [] (wX a ι S)) (h : m_Standing_soldBy_4 r x1 S (x2, x3) k4 = some out) : gx_G Γ 0 0 4 [.ref (a (21 + 4 * r)), .int x1, .int x2, .int x3, .null] [] (wX a ι S) := by
  obtain ⟨F, hnL⟩ := F
  unfold m_Standing_soldBy_4 at h
  dsimp only at h
  refine gx_iload_3 C dX4_soldBy_4 rfl ?_
  refine gx_aload_0 C dX4_soldBy_5 rfl ?_
  refine gs_getf (q := (21 + 4 * r)) C fl_X4_22 (cls_X4 hx) (lt_X_Standing (q := r) hr) (oc_X_Standing a ι _ (q := r) hr) rfl dX4_soldBy_6 ?_
  refine gs_getf (q := 1) C fl_X4_70 (cls_X5 hx) lt_X_Street (oc_X_Street a ι _) rfl dX4_soldBy_9 ?_
  refine gx_icmp_ge (tgt := 57) C dX4_soldBy_12 (by decide) (fun hc6 => ?_) (fun hc6 => ?_)
  · have h := gi_t hc6 h
    refine gx_iload_2 C dX4_soldBy_57 rfl ?_
    exact gx_iret C F rfl dX4_soldBy_58 (congrArg (fun z => (z, S)) (Option.some.inj h))
  · have h := gi_f hc6 h
    refine gx_aload_0 C dX4_soldBy_15 rfl ?_
    refine gx_iload_3 C dX4_soldBy_16 rfl ?_
    refine gx_iconstm1 C dX4_soldBy_17 ?_
    obtain ⟨v2, e1, h⟩ := gi_cp h
    refine gc_IV C (c_Standing_choice (gx_l Γ) (gx_D Γ) hx a (r := r) hr _ _ _ e1) (gx_cw C gx_uu lk_X4_67 (by decide) (by decide)) (cls_X4 hx).1 (gs_recv (q := (21 + 4 * r)) (lt_X_Standing (q := r) hr) (oc_X_Standing a ι _ (q := r) hr)) rfl rfl (Nat.le_of_ble_eq_true rfl) ⟨Nat.zero_le _, Nat.zero_le _⟩ dX4_soldBy_18 ?_
    refine gx_istore C dX4_soldBy_21 (by rw [hnL]; decide) trivial ?_
    refine gx_iload C dX4_soldBy_23 rfl ?_
    refine gx_iconstm1 C dX4_soldBy_25 ?_
    refine gx_icmp_eq (tgt := 51) C dX4_soldBy_26 (by decide) (fun hc5 => ?_) (fun hc5 => ?_)
    · have h := gi_t hc5 h
      exact gx_weak (gx_le_k rfl (gx_le_k rfl (gx_le_k rfl (gx_le_k rfl (gx_le_n gx_le_0))))) (b_Standing_soldBy_51 hx hr C ⟨F, hnL⟩ hk4 h)
    · have h := gi_f hc5 h
      refine gx_iload_1 C dX4_soldBy_29 rfl ?_
      refine gx_iload C dX4_soldBy_30 rfl ?_
      refine gx_ishr C dX4_soldBy_32 ?_
      refine gx_iconst1 C dX4_soldBy_33 ?_
      refine gx_iand C dX4_soldBy_34 ?_
      refine gx_iconst1 C dX4_soldBy_35 ?_
      refine gx_icmp_ne (tgt := 51) C dX4_soldBy_36 (by decide) (fun hc4 => ?_) (fun hc4 => ?_)
      · have h := gi_f hc4 h
        exact gx_weak (gx_le_k rfl (gx_le_k rfl (gx_le_k rfl (gx_le_k rfl (gx_le_n gx_le_0))))) (b_Standing_soldBy_51 hx hr C ⟨F, hnL⟩ hk4 h)
      · have h := gi_t hc4 h
        refine gx_iload_2 C dX4_soldBy_39 rfl ?_
        refine gx_aload_0 C dX4_soldBy_40 rfl ?_
        refine gs_getf (q := (21 + 4 * r)) C fl_X4_22 (cls_X4 hx) (lt_X_Standing (q := r) hr) (oc_X_Standing a ι _ (q := r) hr) rfl dX4_soldBy_41 ?_
        refine gs_getf (q := 1) C fl_X4_73 (cls_X5 hx) lt_X_Street (oc_X_Street a ι _) rfl dX4_soldBy_44 ?_
        refine gx_iload_3 C dX4_soldBy_47 rfl ?_
        obtain ⟨hi3, h⟩ := gi_ck h
        refine gs_iald (q := 7) C (ac_X_Street_many hx a) lt_X_Street_many hi3 dX4_soldBy_48 ?_
        refine gx_iadd C dX4_soldBy_49 ?_
        refine gx_istore_2 C dX4_soldBy_50 (by rw [hnL]; decide) trivial ?_
        exact gx_weak (gx_le_k rfl (gx_le_k rfl (gx_le_k rfl (gx_le_k rfl (gx_le_n gx_le_0))))) (b_Standing_soldBy_51 hx hr C ⟨F, hnL⟩ hk4 h)
def m_Standing_soldBy (r : Nat) (x1 : Int32) (S : gx_S) : Option (Int32) := gx_loop (m_Standing_soldBy_4 r x1 S) 5000 (0, 0)
set_option maxRecDepth 20000 in
set_option maxHeartbeats 1000000 in
theorem c_Standing_soldBy (l : Launch) (D : va_G) {cl : List vw_C} {tys : List (ClassId × FieldType)} {ι : Nat → ClassId} (hx : gx_std vwCl (gty ι) cl tys) (a : Nat → Nat) {r : Nat} (hr : r < 5) (x1 : Int32) (S : gx_S) {out : Int32} (h : m_Standing_soldBy r x1 S = some out) : gx_mI l D cl tys yX4_soldBy (.code yX4_soldBy cX4_soldBy 5 ((Option.some Jvm.ClassFile.FieldType.int)) :: gx_U) (gx_rm 2) [.ref (a (21 + 4 * r)), .int x1] (wX a ι S) (wX a ι) (out, S) := by
  unfold m_Standing_soldBy at h
  refine gx_startI (V := [.ref (a (21 + 4 * r)), .int x1, .null, .null, .null]) 3 (by decide +kernel) (Nat.le_of_ble_eq_true rfl) rfl (fun Γ hl hD hcl hty hnL C F => ?_)
  subst hl; subst hD; subst hcl; subst hty
  refine gx_iconst0 C dX4_soldBy_0 ?_
  refine gx_istore_2 C dX4_soldBy_1 (by rw [hnL]; decide) trivial ?_
  refine gx_iconst0 C dX4_soldBy_2 ?_
  refine gx_istore_3 C dX4_soldBy_3 (by rw [hnL]; decide) trivial ?_
  refine gx_weak (gx_le_k rfl (gx_le_k rfl (gx_le_k rfl (gx_le_k rfl (gx_le_n gx_le_0))))) (gi_loop (P := fun t => gx_G Γ 0 0 4 [.ref (a (21 + 4 * r)), .int x1, .int t.1, .int t.2, .null] [] (wX a ι S)) (fun kk t hk h => ?_) 5000 _ h)
  obtain ⟨x29, x39⟩ := t
  exact b_Standing_soldBy_4 hx hr C ⟨F, hnL⟩ (k4 := kk) (fun x28 x38 h => hk (x28, x38) h) h
def m_Standing_marginOf_70 (r : Nat) (k4 : Int32 × Int32 → Option (Int32)) (x1 : Int32) (x2 : Int32) (x3 : Int32) (S : gx_S) : Option (Int32) := k4 (x2, (x3 + 1))
set_option maxRecDepth 20000 in
set_option maxHeartbeats 1000000 in
theorem b_Standing_marginOf_70 {Γ : gx_T} {ι : Nat → ClassId} {a : Nat → Nat} {r : Nat} {out : Int32} {S : gx_S} (hx : gx_std vwCl (gty ι) (gx_cl Γ) (gx_ty Γ)) (hr : r < 5) (C : gx_ok Γ cX4_marginOf RX4 gx_U 2) (F : gx_finI Γ ((Option.some Jvm.ClassFile.FieldType.int)) (wX a ι) (out, S) ∧ gx_nL Γ = 5) {k4 : Int32 × Int32 → Option (Int32)} {x1 : Int32} {x2 : Int32} {x3 : Int32} (hk4 : ∀ (x27 : Int32) (x37 : Int32), k4 (x27, x37) = some out → gx_G Γ 0 0 4 [.ref (a (21 + 4 * r)), .int x1, .int x27, .int x37, .null] [] (wX a ι S)) (h : m_Standing_marginOf_70 r k4 x1 x2 x3 S = some out) : gx_G Γ 0 0 70 [.ref (a (21 + 4 * r)), .int x1, .int x2, .int x3, .null] [] (wX a ι S) := by
  obtain ⟨F, hnL⟩ := F
  unfold m_Standing_marginOf_70 at h
  refine gx_iinc1 C dX4_marginOf_70 rfl (by rw [hnL]; decide) trivial ?_
  refine gx_goto (tgt := 4) C dX4_marginOf_73 (by decide) ?_
  exact gx_weak (gx_le_k rfl (gx_le_k rfl (gx_le_k rfl (gx_le_k rfl (gx_le_n gx_le_0))))) (hk4 _ _ h)
def m_Standing_marginOf_4 (r : Nat) (x1 : Int32) (S : gx_S) (t : Int32 × Int32) (k4 : Int32 × Int32 → Option (Int32)) : Option (Int32) := match t with
  | (x2, x3) => if (S 1 2) ≤ x3 then some x2 else gx_cp (m_Standing_choice r x3 (-1) S) fun v2 => if v2 = (-1) then m_Standing_marginOf_70 r k4 x1 x2 x3 S else if ((x1 >>> (v2 &&& 31)) &&& (1 : Int32)) = 1 then gx_ck 8 x3 (gx_ck 6 v2 (m_Standing_marginOf_70 r k4 x1 (x2 + ((S 7 x3.toNatClampNeg) * ((S (21 + 4 * r + 1) v2.toNatClampNeg) - (S 5 v2.toNatClampNeg)))) x3 S)) else m_Standing_marginOf_70 r k4 x1 x2 x3 S
set_option maxRecDepth 20000 in
set_option maxHeartbeats 1000000 in
theorem b_Standing_marginOf_4 {Γ : gx_T} {ι : Nat → ClassId} {a : Nat → Nat} {r : Nat} {out : Int32} {S : gx_S} (hx : gx_std vwCl (gty ι) (gx_cl Γ) (gx_ty Γ)) (hr : r < 5) (C : gx_ok Γ cX4_marginOf RX4 gx_U 2) (F : gx_finI Γ ((Option.some Jvm.ClassFile.FieldType.int)) (wX a ι) (out, S) ∧ gx_nL Γ = 5) {k4 : Int32 × Int32 → Option (Int32)} {x1 : Int32} {x2 : Int32} {x3 : Int32} (hk4 : ∀ (x27 : Int32) (x37 : Int32), k4 (x27, x37) = some out → gx_G Γ 0 0 4 [.ref (a (21 + 4 * r)), .int x1, .int x27, .int x37, .null] [] (wX a ι S)) (h : m_Standing_marginOf_4 r x1 S (x2, x3) k4 = some out) : gx_G Γ 0 0 4 [.ref (a (21 + 4 * r)), .int x1, .int x2, .int x3, .null] [] (wX a ι S) := by
  obtain ⟨F, hnL⟩ := F
  unfold m_Standing_marginOf_4 at h
  dsimp only at h
  refine gx_iload_3 C dX4_marginOf_4 rfl ?_
  refine gx_aload_0 C dX4_marginOf_5 rfl ?_
  refine gs_getf (q := (21 + 4 * r)) C fl_X4_22 (cls_X4 hx) (lt_X_Standing (q := r) hr) (oc_X_Standing a ι _ (q := r) hr) rfl dX4_marginOf_6 ?_
  refine gs_getf (q := 1) C fl_X4_70 (cls_X5 hx) lt_X_Street (oc_X_Street a ι _) rfl dX4_marginOf_9 ?_
  refine gx_icmp_ge (tgt := 76) C dX4_marginOf_12 (by decide) (fun hc7 => ?_) (fun hc7 => ?_)
  · have h := gi_t hc7 h
    refine gx_iload_2 C dX4_marginOf_76 rfl ?_
    exact gx_iret C F rfl dX4_marginOf_77 (congrArg (fun z => (z, S)) (Option.some.inj h))
  · have h := gi_f hc7 h
    refine gx_aload_0 C dX4_marginOf_15 rfl ?_
    refine gx_iload_3 C dX4_marginOf_16 rfl ?_
    refine gx_iconstm1 C dX4_marginOf_17 ?_
    obtain ⟨v2, e1, h⟩ := gi_cp h
    refine gc_IV C (c_Standing_choice (gx_l Γ) (gx_D Γ) hx a (r := r) hr _ _ _ e1) (gx_cw C gx_uu lk_X4_67 (by decide) (by decide)) (cls_X4 hx).1 (gs_recv (q := (21 + 4 * r)) (lt_X_Standing (q := r) hr) (oc_X_Standing a ι _ (q := r) hr)) rfl rfl (Nat.le_of_ble_eq_true rfl) ⟨Nat.zero_le _, Nat.zero_le _⟩ dX4_marginOf_18 ?_
    refine gx_istore C dX4_marginOf_21 (by rw [hnL]; decide) trivial ?_
    refine gx_iload C dX4_marginOf_23 rfl ?_
    refine gx_iconstm1 C dX4_marginOf_25 ?_
    refine gx_icmp_eq (tgt := 70) C dX4_marginOf_26 (by decide) (fun hc6 => ?_) (fun hc6 => ?_)
    · have h := gi_t hc6 h
      exact gx_weak (gx_le_k rfl (gx_le_k rfl (gx_le_k rfl (gx_le_k rfl (gx_le_n gx_le_0))))) (b_Standing_marginOf_70 hx hr C ⟨F, hnL⟩ hk4 h)
    · have h := gi_f hc6 h
      refine gx_iload_1 C dX4_marginOf_29 rfl ?_
      refine gx_iload C dX4_marginOf_30 rfl ?_
      refine gx_ishr C dX4_marginOf_32 ?_
      refine gx_iconst1 C dX4_marginOf_33 ?_
      refine gx_iand C dX4_marginOf_34 ?_
      refine gx_iconst1 C dX4_marginOf_35 ?_
      refine gx_icmp_ne (tgt := 70) C dX4_marginOf_36 (by decide) (fun hc5 => ?_) (fun hc5 => ?_)
      · have h := gi_f hc5 h
        exact gx_weak (gx_le_k rfl (gx_le_k rfl (gx_le_k rfl (gx_le_k rfl (gx_le_n gx_le_0))))) (b_Standing_marginOf_70 hx hr C ⟨F, hnL⟩ hk4 h)
      · have h := gi_t hc5 h
        refine gx_iload_2 C dX4_marginOf_39 rfl ?_
        refine gx_aload_0 C dX4_marginOf_40 rfl ?_
        refine gs_getf (q := (21 + 4 * r)) C fl_X4_22 (cls_X4 hx) (lt_X_Standing (q := r) hr) (oc_X_Standing a ι _ (q := r) hr) rfl dX4_marginOf_41 ?_
        refine gs_getf (q := 1) C fl_X4_73 (cls_X5 hx) lt_X_Street (oc_X_Street a ι _) rfl dX4_marginOf_44 ?_
        refine gx_iload_3 C dX4_marginOf_47 rfl ?_
        obtain ⟨hi3, h⟩ := gi_ck h
        refine gs_iald (q := 7) C (ac_X_Street_many hx a) lt_X_Street_many hi3 dX4_marginOf_48 ?_
        refine gx_aload_0 C dX4_marginOf_49 rfl ?_
        refine gs_getf (q := (21 + 4 * r)) C fl_X4_9 (cls_X4 hx) (lt_X_Standing (q := r) hr) (oc_X_Standing a ι _ (q := r) hr) rfl dX4_marginOf_50 ?_
        refine gx_iload C dX4_marginOf_53 rfl ?_
        obtain ⟨hi4, h⟩ := gi_ck h
        refine gs_iald (q := (21 + 4 * r + 1)) C (ac_X_Standing_price hx a (q := r) hr) (lt_X_Standing_price (q := r) hr) hi4 dX4_marginOf_55 ?_
        refine gx_aload_0 C dX4_marginOf_56 rfl ?_
        refine gs_getf (q := (21 + 4 * r)) C fl_X4_22 (cls_X4 hx) (lt_X_Standing (q := r) hr) (oc_X_Standing a ι _ (q := r) hr) rfl dX4_marginOf_57 ?_
        refine gs_getf (q := 1) C fl_X4_79 (cls_X5 hx) lt_X_Street (oc_X_Street a ι _) rfl dX4_marginOf_60 ?_
        refine gx_iload C dX4_marginOf_63 rfl ?_
        refine gs_iald (q := 5) C (ac_X_Street_cost hx a) lt_X_Street_cost hi4 dX4_marginOf_65 ?_
        refine gx_isub C dX4_marginOf_66 ?_
        refine gx_imul C dX4_marginOf_67 ?_
        refine gx_iadd C dX4_marginOf_68 ?_
        refine gx_istore_2 C dX4_marginOf_69 (by rw [hnL]; decide) trivial ?_
        exact gx_weak (gx_le_k rfl (gx_le_k rfl (gx_le_k rfl (gx_le_k rfl (gx_le_n gx_le_0))))) (b_Standing_marginOf_70 hx hr C ⟨F, hnL⟩ hk4 h)
def m_Standing_marginOf (r : Nat) (x1 : Int32) (S : gx_S) : Option (Int32) := gx_loop (m_Standing_marginOf_4 r x1 S) 5000 (0, 0)
set_option maxRecDepth 20000 in
set_option maxHeartbeats 1000000 in
theorem c_Standing_marginOf (l : Launch) (D : va_G) {cl : List vw_C} {tys : List (ClassId × FieldType)} {ι : Nat → ClassId} (hx : gx_std vwCl (gty ι) cl tys) (a : Nat → Nat) {r : Nat} (hr : r < 5) (x1 : Int32) (S : gx_S) {out : Int32} (h : m_Standing_marginOf r x1 S = some out) : gx_mI l D cl tys yX4_marginOf (.code yX4_marginOf cX4_marginOf 5 ((Option.some Jvm.ClassFile.FieldType.int)) :: gx_U) (gx_rm 2) [.ref (a (21 + 4 * r)), .int x1] (wX a ι S) (wX a ι) (out, S) := by
  unfold m_Standing_marginOf at h
  refine gx_startI (V := [.ref (a (21 + 4 * r)), .int x1, .null, .null, .null]) 3 (by decide +kernel) (Nat.le_of_ble_eq_true rfl) rfl (fun Γ hl hD hcl hty hnL C F => ?_)
  subst hl; subst hD; subst hcl; subst hty
  refine gx_iconst0 C dX4_marginOf_0 ?_
  refine gx_istore_2 C dX4_marginOf_1 (by rw [hnL]; decide) trivial ?_
  refine gx_iconst0 C dX4_marginOf_2 ?_
  refine gx_istore_3 C dX4_marginOf_3 (by rw [hnL]; decide) trivial ?_
  refine gx_weak (gx_le_k rfl (gx_le_k rfl (gx_le_k rfl (gx_le_k rfl (gx_le_n gx_le_0))))) (gi_loop (P := fun t => gx_G Γ 0 0 4 [.ref (a (21 + 4 * r)), .int x1, .int t.1, .int t.2, .null] [] (wX a ι S)) (fun kk t hk h => ?_) 5000 _ h)
  obtain ⟨x29, x39⟩ := t
  exact b_Standing_marginOf_4 hx hr C ⟨F, hnL⟩ (k4 := kk) (fun x28 x38 h => hk (x28, x38) h) h
def m_Street_addOwner (x1 : Int32) (x2 : Int32) (S : gx_S) : Option (Int32 × gx_S) := if (S 1 0) < 6 then gx_ck 6 (S 1 0) (gx_let (gx_st S 2 (S 1 0).toNatClampNeg x1) fun S2 => gx_ck 6 (S2 1 0) (gx_let (gx_st S2 3 (S2 1 0).toNatClampNeg x2) fun S5 => gx_let (gx_st S5 1 0 ((S5 1 0) + (1 : Int32))) fun S7 => some ((S7 1 0) - (1 : Int32), S7))) else some ((-104), S)
set_option maxRecDepth 20000 in
set_option maxHeartbeats 1000000 in
theorem c_Street_addOwner (l : Launch) (D : va_G) {cl : List vw_C} {tys : List (ClassId × FieldType)} {ι : Nat → ClassId} (hx : gx_std vwCl (gty ι) cl tys) (a : Nat → Nat) (x1 : Int32) (x2 : Int32) (S : gx_S) {out : Int32 × gx_S} (h : m_Street_addOwner x1 x2 S = some out) : gx_mI l D cl tys yX5_addOwner (.code yX5_addOwner cX5_addOwner 3 ((Option.some Jvm.ClassFile.FieldType.int)) :: gx_U) (gx_rm 0) [.ref (a 1), .int x1, .int x2] (wX a ι S) (wX a ι) out := by
  unfold m_Street_addOwner at h
  refine gx_startI (V := [.ref (a 1), .int x1, .int x2]) 0 (by decide +kernel) (Nat.le_of_ble_eq_true rfl) rfl (fun Γ hl hD hcl hty hnL C F => ?_)
  subst hl; subst hD; subst hcl; subst hty
  refine gx_aload_0 C dX5_addOwner_0 rfl ?_
  refine gs_getf (q := 1) C fl_X5_47 (cls_X5 hx) lt_X_Street (oc_X_Street a ι _) rfl dX5_addOwner_1 ?_
  refine gx_bipush (v := 6) C dX5_addOwner_4 (by decide) ?_
  refine gx_icmp_lt (tgt := 12) C dX5_addOwner_6 (by decide) (fun hc9 => ?_) (fun hc9 => ?_)
  · have h := gi_t hc9 h
    refine gx_aload_0 C dX5_addOwner_12 rfl ?_
    refine gs_getf (q := 1) C fl_X5_9 (cls_X5 hx) lt_X_Street (oc_X_Street a ι _) rfl dX5_addOwner_13 ?_
    refine gx_aload_0 C dX5_addOwner_16 rfl ?_
    refine gs_getf (q := 1) C fl_X5_47 (cls_X5 hx) lt_X_Street (oc_X_Street a ι _) rfl dX5_addOwner_17 ?_
    refine gx_iload_1 C dX5_addOwner_20 rfl ?_
    obtain ⟨hi1, h⟩ := gi_ck h
    obtain ⟨S2, e3, h⟩ := gi_let h
    refine gs_iast (q := 2) C (ac_X_Street_kind hx a) lt_X_Street_kind hi1 e3 dX5_addOwner_21 ?_
    refine gx_aload_0 C dX5_addOwner_22 rfl ?_
    refine gs_getf (q := 1) C fl_X5_15 (cls_X5 hx) lt_X_Street (oc_X_Street a ι _) rfl dX5_addOwner_23 ?_
    refine gx_aload_0 C dX5_addOwner_26 rfl ?_
    refine gs_getf (q := 1) C fl_X5_47 (cls_X5 hx) lt_X_Street (oc_X_Street a ι _) rfl dX5_addOwner_27 ?_
    refine gx_iload_2 C dX5_addOwner_30 rfl ?_
    obtain ⟨hi4, h⟩ := gi_ck h
    obtain ⟨S5, e6, h⟩ := gi_let h
    refine gs_iast (q := 3) C (ac_X_Street_n hx a) lt_X_Street_n hi4 e6 dX5_addOwner_31 ?_
    refine gx_aload_0 C dX5_addOwner_32 rfl ?_
    refine gx_dup C dX5_addOwner_33 rfl ?_
    refine gs_getf (q := 1) C fl_X5_47 (cls_X5 hx) lt_X_Street (oc_X_Street a ι _) rfl dX5_addOwner_34 ?_
    refine gx_iconst1 C dX5_addOwner_37 ?_
    refine gx_iadd C dX5_addOwner_38 ?_
    obtain ⟨S7, e8, h⟩ := gi_let h
    refine gs_puti (q := 1) C fl_X5_47 (cls_X5 hx) lt_X_Street (oc_X_Street a ι _) (oc_X_Street a ι _) rfl rfl rfl (Nat.le_of_ble_eq_true rfl) e8 dX5_addOwner_39 ?_
    refine gx_aload_0 C dX5_addOwner_42 rfl ?_
    refine gs_getf (q := 1) C fl_X5_47 (cls_X5 hx) lt_X_Street (oc_X_Street a ι _) rfl dX5_addOwner_43 ?_
    refine gx_iconst1 C dX5_addOwner_46 ?_
    refine gx_isub C dX5_addOwner_47 ?_
    exact gx_iret C F rfl dX5_addOwner_48 (Option.some.inj h)
  · have h := gi_f hc9 h
    refine gx_bipush (v := (-104)) C dX5_addOwner_9 (by decide) ?_
    exact gx_iret C F rfl dX5_addOwner_11 (Option.some.inj h)
def m_Street_measure (x1 : Int32) (x2 : Int32) (S : gx_S) : Option (gx_S) := gx_ck 8 x1 (gx_ck 6 x2 (if (S 10 x1.toNatClampNeg) = x2 then gx_let (gx_st S (13 + x1.toNatClampNeg) x2.toNatClampNeg (((S 8 x1.toNatClampNeg) * (if 0 ≤ ((S 6 x1.toNatClampNeg) - (S 4 x2.toNatClampNeg)) then ((S 6 x1.toNatClampNeg) - (S 4 x2.toNatClampNeg)) else 0 - ((S 6 x1.toNatClampNeg) - (S 4 x2.toNatClampNeg)))) - (S 11 x1.toNatClampNeg))) fun S5 => some S5 else gx_let (gx_st S (13 + x1.toNatClampNeg) x2.toNatClampNeg (((S 8 x1.toNatClampNeg) * (if 0 ≤ ((S 6 x1.toNatClampNeg) - (S 4 x2.toNatClampNeg)) then ((S 6 x1.toNatClampNeg) - (S 4 x2.toNatClampNeg)) else 0 - ((S 6 x1.toNatClampNeg) - (S 4 x2.toNatClampNeg)))) - (0 : Int32))) fun S3 => some S3))
set_option maxRecDepth 20000 in
set_option maxHeartbeats 1000000 in
theorem c_Street_measure (l : Launch) (D : va_G) {cl : List vw_C} {tys : List (ClassId × FieldType)} {ι : Nat → ClassId} (hx : gx_std vwCl (gty ι) cl tys) (a : Nat → Nat) (x1 : Int32) (x2 : Int32) (S : gx_S) {out : gx_S} (h : m_Street_measure x1 x2 S = some out) : gx_mV l D cl tys yX5_measure (.code yX5_measure cX5_measure 4 ((Option.none : Option Jvm.ClassFile.FieldType)) :: gx_U) (gx_rm 1) [.ref (a 1), .int x1, .int x2] (wX a ι S) (wX a ι) out := by
  unfold m_Street_measure at h
  refine gx_startV (V := [.ref (a 1), .int x1, .int x2, .null]) 1 (by decide +kernel) (Nat.le_of_ble_eq_true rfl) rfl (fun Γ hl hD hcl hty hnL C F => ?_)
  subst hl; subst hD; subst hcl; subst hty
  refine gx_aload_0 C dX5_measure_0 rfl ?_
  refine gs_getf (q := 1) C fl_X5_24 (cls_X5 hx) lt_X_Street (oc_X_Street a ι _) rfl dX5_measure_1 ?_
  refine gx_iload_1 C dX5_measure_4 rfl ?_
  obtain ⟨hi1, h⟩ := gi_ck h
  refine gs_iald (q := 6) C (ac_X_Street_home hx a) lt_X_Street_home hi1 dX5_measure_5 ?_
  refine gx_aload_0 C dX5_measure_6 rfl ?_
  refine gs_getf (q := 1) C fl_X5_18 (cls_X5 hx) lt_X_Street (oc_X_Street a ι _) rfl dX5_measure_7 ?_
  refine gx_iload_2 C dX5_measure_10 rfl ?_
  obtain ⟨hi2, h⟩ := gi_ck h
  refine gs_iald (q := 4) C (ac_X_Street_place hx a) lt_X_Street_place hi2 dX5_measure_11 ?_
  refine gx_isub C dX5_measure_12 ?_
  refine gx_mabs C (by decide) lk_X5_61 (Nat.le_of_ble_eq_true rfl) ⟨Nat.zero_le _, Nat.zero_le _⟩ dX5_measure_13 ?_
  refine gx_istore_3 C dX5_measure_16 (by rw [hnL]; decide) trivial ?_
  refine gx_aload_0 C dX5_measure_17 rfl ?_
  refine gs_getf (q := 1) C fl_X5_44 (cls_X5 hx) lt_X_Street (oc_X_Street a ι _) rfl dX5_measure_18 ?_
  refine gx_iload_1 C dX5_measure_21 rfl ?_
  refine gs_aald (q := 12) C (aq_X_Street_beside hx a) rfl lt_X_Street_beside hi1 (aqf_X_Street_beside a (gx_in_lt hi1)) dX5_measure_22 ?_
  refine gx_iload_2 C dX5_measure_23 rfl ?_
  refine gx_aload_0 C dX5_measure_24 rfl ?_
  refine gs_getf (q := 1) C fl_X5_30 (cls_X5 hx) lt_X_Street (oc_X_Street a ι _) rfl dX5_measure_25 ?_
  refine gx_iload_1 C dX5_measure_28 rfl ?_
  refine gs_iald (q := 8) C (ac_X_Street_way hx a) lt_X_Street_way hi1 dX5_measure_29 ?_
  refine gx_iload_3 C dX5_measure_30 rfl ?_
  refine gx_imul C dX5_measure_31 ?_
  refine gx_aload_0 C dX5_measure_32 rfl ?_
  refine gs_getf (q := 1) C fl_X5_36 (cls_X5 hx) lt_X_Street (oc_X_Street a ι _) rfl dX5_measure_33 ?_
  refine gx_iload_1 C dX5_measure_36 rfl ?_
  refine gs_iald (q := 10) C (ac_X_Street_liked hx a) lt_X_Street_liked hi1 dX5_measure_37 ?_
  refine gx_iload_2 C dX5_measure_38 rfl ?_
  refine gx_icmp_ne (tgt := 51) C dX5_measure_39 (by decide) (fun hc7 => ?_) (fun hc7 => ?_)
  · have h := gi_f hc7 h
    refine gx_iconst0 C dX5_measure_51 ?_
    refine gx_isub C dX5_measure_52 ?_
    obtain ⟨S3, e4, h⟩ := gi_let h
    refine gs_iast (q := (13 + x1.toNatClampNeg)) C (ac_X_Street_beside_row hx a (q := x1.toNatClampNeg) (gx_in_lt hi1)) (lt_X_Street_beside_row (q := x1.toNatClampNeg) (gx_in_lt hi1)) hi2 e4 dX5_measure_53 ?_
    exact gx_vret C F dX5_measure_54 (Option.some.inj h)
  · have h := gi_t hc7 h
    refine gx_aload_0 C dX5_measure_42 rfl ?_
    refine gs_getf (q := 1) C fl_X5_39 (cls_X5 hx) lt_X_Street (oc_X_Street a ι _) rfl dX5_measure_43 ?_
    refine gx_iload_1 C dX5_measure_46 rfl ?_
    refine gs_iald (q := 11) C (ac_X_Street_liking hx a) lt_X_Street_liking hi1 dX5_measure_47 ?_
    refine gx_goto (tgt := 52) C dX5_measure_48 (by decide) ?_
    refine gx_isub C dX5_measure_52 ?_
    obtain ⟨S5, e6, h⟩ := gi_let h
    refine gs_iast (q := (13 + x1.toNatClampNeg)) C (ac_X_Street_beside_row hx a (q := x1.toNatClampNeg) (gx_in_lt hi1)) (lt_X_Street_beside_row (q := x1.toNatClampNeg) (gx_in_lt hi1)) hi2 e6 dX5_measure_53 ?_
    exact gx_vret C F dX5_measure_54 (Option.some.inj h)
def m_Street_addShop_44 (t : Int32 × gx_S) (k44 : Int32 × gx_S → Option (Int32 × gx_S)) : Option (Int32 × gx_S) := match t with
  | (x3, S) => if (S 1 2) ≤ x3 then some ((S 1 1) - (1 : Int32), S) else gx_cp (m_Street_measure x3 ((S 1 1) - (1 : Int32)) S) fun S2 => k44 ((x3 + 1), S2)
set_option maxRecDepth 20000 in
set_option maxHeartbeats 1000000 in
theorem b_Street_addShop_44 {Γ : gx_T} {ι : Nat → ClassId} {a : Nat → Nat} {out : Int32 × gx_S} (hx : gx_std vwCl (gty ι) (gx_cl Γ) (gx_ty Γ)) (C : gx_ok Γ cX5_addShop RX5 gx_U 2) (F : gx_finI Γ ((Option.some Jvm.ClassFile.FieldType.int)) (wX a ι) out ∧ gx_nL Γ = 4) {k44 : Int32 × gx_S → Option (Int32 × gx_S)} {x3 : Int32} {S : gx_S} (hk44 : ∀ (x37 : Int32) (S7 : gx_S), k44 (x37, S7) = some out → gx_G Γ 0 0 44 [.ref (a 1), .null, .null, .int x37] [] (wX a ι S7)) (h : m_Street_addShop_44 (x3, S) k44 = some out) : gx_G Γ 0 0 44 [.ref (a 1), .null, .null, .int x3] [] (wX a ι S) := by
  obtain ⟨F, hnL⟩ := F
  unfold m_Street_addShop_44 at h
  dsimp only at h
  refine gx_iload_3 C dX5_addShop_44 rfl ?_
  refine gx_aload_0 C dX5_addShop_45 rfl ?_
  refine gs_getf (q := 1) C fl_X5_54 (cls_X5 hx) lt_X_Street (oc_X_Street a ι _) rfl dX5_addShop_46 ?_
  refine gx_icmp_ge (tgt := 69) C dX5_addShop_49 (by decide) (fun hc3 => ?_) (fun hc3 => ?_)
  · have h := gi_t hc3 h
    refine gx_aload_0 C dX5_addShop_69 rfl ?_
    refine gs_getf (q := 1) C fl_X5_51 (cls_X5 hx) lt_X_Street (oc_X_Street a ι _) rfl dX5_addShop_70 ?_
    refine gx_iconst1 C dX5_addShop_73 ?_
    refine gx_isub C dX5_addShop_74 ?_
    exact gx_iret C F rfl dX5_addShop_75 (Option.some.inj h)
  · have h := gi_f hc3 h
    refine gx_aload_0 C dX5_addShop_52 rfl ?_
    refine gx_iload_3 C dX5_addShop_53 rfl ?_
    refine gx_aload_0 C dX5_addShop_54 rfl ?_
    refine gs_getf (q := 1) C fl_X5_51 (cls_X5 hx) lt_X_Street (oc_X_Street a ι _) rfl dX5_addShop_55 ?_
    refine gx_iconst1 C dX5_addShop_58 ?_
    refine gx_isub C dX5_addShop_59 ?_
    obtain ⟨S2, e1, h⟩ := gi_cp h
    refine gc_VV C (c_Street_measure (gx_l Γ) (gx_D Γ) hx a _ _ _ e1) (gx_cw C gx_uu lk_X5_57 (by decide) (by decide)) (cls_X5 hx).1 (gs_recv (q := 1) lt_X_Street (oc_X_Street a ι _)) rfl rfl (Nat.le_of_ble_eq_true rfl) ⟨Nat.zero_le _, Nat.zero_le _⟩ dX5_addShop_60 ?_
    refine gx_iinc1 C dX5_addShop_63 rfl (by rw [hnL]; decide) trivial ?_
    refine gx_goto (tgt := 44) C dX5_addShop_66 (by decide) ?_
    exact gx_weak (gx_le_k rfl (gx_le_n (gx_le_n (gx_le_k rfl gx_le_0)))) (hk44 _ _ h)
def m_Street_addShop (x1 : Int32) (x2 : Int32) (S : gx_S) : Option (Int32 × gx_S) := if (S 1 1) < 6 then gx_ck 6 (S 1 1) (gx_let (gx_st S 4 (S 1 1).toNatClampNeg x1) fun S2 => gx_ck 6 (S2 1 1) (gx_let (gx_st S2 5 (S2 1 1).toNatClampNeg x2) fun S5 => gx_let (gx_st S5 1 1 ((S5 1 1) + (1 : Int32))) fun S7 => gx_loop (m_Street_addShop_44) 5000 (0, S7))) else some ((-104), S)
set_option maxRecDepth 20000 in
set_option maxHeartbeats 1000000 in
theorem c_Street_addShop (l : Launch) (D : va_G) {cl : List vw_C} {tys : List (ClassId × FieldType)} {ι : Nat → ClassId} (hx : gx_std vwCl (gty ι) cl tys) (a : Nat → Nat) (x1 : Int32) (x2 : Int32) (S : gx_S) {out : Int32 × gx_S} (h : m_Street_addShop x1 x2 S = some out) : gx_mI l D cl tys yX5_addShop (.code yX5_addShop cX5_addShop 4 ((Option.some Jvm.ClassFile.FieldType.int)) :: gx_U) (gx_rm 2) [.ref (a 1), .int x1, .int x2] (wX a ι S) (wX a ι) out := by
  unfold m_Street_addShop at h
  refine gx_startI (V := [.ref (a 1), .int x1, .int x2, .null]) 1 (by decide +kernel) (Nat.le_of_ble_eq_true rfl) rfl (fun Γ hl hD hcl hty hnL C F => ?_)
  subst hl; subst hD; subst hcl; subst hty
  refine gx_aload_0 C dX5_addShop_0 rfl ?_
  refine gs_getf (q := 1) C fl_X5_51 (cls_X5 hx) lt_X_Street (oc_X_Street a ι _) rfl dX5_addShop_1 ?_
  refine gx_bipush (v := 6) C dX5_addShop_4 (by decide) ?_
  refine gx_icmp_lt (tgt := 12) C dX5_addShop_6 (by decide) (fun hc9 => ?_) (fun hc9 => ?_)
  · have h := gi_t hc9 h
    refine gx_aload_0 C dX5_addShop_12 rfl ?_
    refine gs_getf (q := 1) C fl_X5_18 (cls_X5 hx) lt_X_Street (oc_X_Street a ι _) rfl dX5_addShop_13 ?_
    refine gx_aload_0 C dX5_addShop_16 rfl ?_
    refine gs_getf (q := 1) C fl_X5_51 (cls_X5 hx) lt_X_Street (oc_X_Street a ι _) rfl dX5_addShop_17 ?_
    refine gx_iload_1 C dX5_addShop_20 rfl ?_
    obtain ⟨hi1, h⟩ := gi_ck h
    obtain ⟨S2, e3, h⟩ := gi_let h
    refine gs_iast (q := 4) C (ac_X_Street_place hx a) lt_X_Street_place hi1 e3 dX5_addShop_21 ?_
    refine gx_aload_0 C dX5_addShop_22 rfl ?_
    refine gs_getf (q := 1) C fl_X5_21 (cls_X5 hx) lt_X_Street (oc_X_Street a ι _) rfl dX5_addShop_23 ?_
    refine gx_aload_0 C dX5_addShop_26 rfl ?_
    refine gs_getf (q := 1) C fl_X5_51 (cls_X5 hx) lt_X_Street (oc_X_Street a ι _) rfl dX5_addShop_27 ?_
    refine gx_iload_2 C dX5_addShop_30 rfl ?_
    obtain ⟨hi4, h⟩ := gi_ck h
    obtain ⟨S5, e6, h⟩ := gi_let h
    refine gs_iast (q := 5) C (ac_X_Street_cost hx a) lt_X_Street_cost hi4 e6 dX5_addShop_31 ?_
    refine gx_aload_0 C dX5_addShop_32 rfl ?_
    refine gx_dup C dX5_addShop_33 rfl ?_
    refine gs_getf (q := 1) C fl_X5_51 (cls_X5 hx) lt_X_Street (oc_X_Street a ι _) rfl dX5_addShop_34 ?_
    refine gx_iconst1 C dX5_addShop_37 ?_
    refine gx_iadd C dX5_addShop_38 ?_
    obtain ⟨S7, e8, h⟩ := gi_let h
    refine gs_puti (q := 1) C fl_X5_51 (cls_X5 hx) lt_X_Street (oc_X_Street a ι _) (oc_X_Street a ι _) rfl rfl rfl (Nat.le_of_ble_eq_true rfl) e8 dX5_addShop_39 ?_
    refine gx_iconst0 C dX5_addShop_42 ?_
    refine gx_istore_3 C dX5_addShop_43 (by rw [hnL]; decide) trivial ?_
    refine gx_weak (gx_le_k rfl (gx_le_n (gx_le_n (gx_le_k rfl gx_le_0)))) (gi_loop (P := fun t => gx_G Γ 0 0 44 [.ref (a 1), .null, .null, .int t.1] [] (wX a ι t.2)) (fun kk t hk h => ?_) 5000 _ h)
    obtain ⟨x39, S'9⟩ := t
    exact b_Street_addShop_44 hx C ⟨F, hnL⟩ (k44 := kk) (fun x38 S'8 h => hk (x38, S'8) h) h
  · have h := gi_f hc9 h
    refine gx_bipush (v := (-104)) C dX5_addShop_9 (by decide) ?_
    exact gx_iret C F rfl dX5_addShop_11 (Option.some.inj h)
def m_Street_addSort_88 (t : Int32 × gx_S) (k88 : Int32 × gx_S → Option (Int32 × gx_S)) : Option (Int32 × gx_S) := match t with
  | (x7, S) => if (S 1 1) ≤ x7 then some ((S 1 2) - (1 : Int32), S) else gx_cp (m_Street_measure ((S 1 2) - (1 : Int32)) x7 S) fun S2 => k88 ((x7 + 1), S2)
set_option maxRecDepth 20000 in
set_option maxHeartbeats 1000000 in
theorem b_Street_addSort_88 {Γ : gx_T} {ι : Nat → ClassId} {a : Nat → Nat} {out : Int32 × gx_S} (hx : gx_std vwCl (gty ι) (gx_cl Γ) (gx_ty Γ)) (C : gx_ok Γ cX5_addSort RX5 gx_U 2) (F : gx_finI Γ ((Option.some Jvm.ClassFile.FieldType.int)) (wX a ι) out ∧ gx_nL Γ = 8) {k88 : Int32 × gx_S → Option (Int32 × gx_S)} {x7 : Int32} {S : gx_S} (hk88 : ∀ (x77 : Int32) (S7 : gx_S), k88 (x77, S7) = some out → gx_G Γ 0 0 88 [.ref (a 1), .null, .null, .null, .null, .null, .null, .int x77] [] (wX a ι S7)) (h : m_Street_addSort_88 (x7, S) k88 = some out) : gx_G Γ 0 0 88 [.ref (a 1), .null, .null, .null, .null, .null, .null, .int x7] [] (wX a ι S) := by
  obtain ⟨F, hnL⟩ := F
  unfold m_Street_addSort_88 at h
  dsimp only at h
  refine gx_iload C dX5_addSort_88 rfl ?_
  refine gx_aload_0 C dX5_addSort_90 rfl ?_
  refine gs_getf (q := 1) C fl_X5_51 (cls_X5 hx) lt_X_Street (oc_X_Street a ι _) rfl dX5_addSort_91 ?_
  refine gx_icmp_ge (tgt := 115) C dX5_addSort_94 (by decide) (fun hc3 => ?_) (fun hc3 => ?_)
  · have h := gi_t hc3 h
    refine gx_aload_0 C dX5_addSort_115 rfl ?_
    refine gs_getf (q := 1) C fl_X5_54 (cls_X5 hx) lt_X_Street (oc_X_Street a ι _) rfl dX5_addSort_116 ?_
    refine gx_iconst1 C dX5_addSort_119 ?_
    refine gx_isub C dX5_addSort_120 ?_
    exact gx_iret C F rfl dX5_addSort_121 (Option.some.inj h)
  · have h := gi_f hc3 h
    refine gx_aload_0 C dX5_addSort_97 rfl ?_
    refine gx_aload_0 C dX5_addSort_98 rfl ?_
    refine gs_getf (q := 1) C fl_X5_54 (cls_X5 hx) lt_X_Street (oc_X_Street a ι _) rfl dX5_addSort_99 ?_
    refine gx_iconst1 C dX5_addSort_102 ?_
    refine gx_isub C dX5_addSort_103 ?_
    refine gx_iload C dX5_addSort_104 rfl ?_
    obtain ⟨S2, e1, h⟩ := gi_cp h
    refine gc_VV C (c_Street_measure (gx_l Γ) (gx_D Γ) hx a _ _ _ e1) (gx_cw C gx_uu lk_X5_57 (by decide) (by decide)) (cls_X5 hx).1 (gs_recv (q := 1) lt_X_Street (oc_X_Street a ι _)) rfl rfl (Nat.le_of_ble_eq_true rfl) ⟨Nat.zero_le _, Nat.zero_le _⟩ dX5_addSort_106 ?_
    refine gx_iinc1 C dX5_addSort_109 rfl (by rw [hnL]; decide) trivial ?_
    refine gx_goto (tgt := 88) C dX5_addSort_112 (by decide) ?_
    exact gx_weak (gx_le_k rfl (gx_le_n (gx_le_n (gx_le_n (gx_le_n (gx_le_n (gx_le_n (gx_le_k rfl gx_le_0)))))))) (hk88 _ _ h)
def m_Street_addSort (x1 : Int32) (x2 : Int32) (x3 : Int32) (x4 : Int32) (x5 : Int32) (x6 : Int32) (S : gx_S) : Option (Int32 × gx_S) := if (S 1 2) < 8 then gx_ck 8 (S 1 2) (gx_let (gx_st S 6 (S 1 2).toNatClampNeg x1) fun S2 => gx_ck 8 (S2 1 2) (gx_let (gx_st S2 7 (S2 1 2).toNatClampNeg x2) fun S5 => gx_ck 8 (S5 1 2) (gx_let (gx_st S5 8 (S5 1 2).toNatClampNeg x3) fun S8 => gx_ck 8 (S8 1 2) (gx_let (gx_st S8 9 (S8 1 2).toNatClampNeg x4) fun S11 => gx_ck 8 (S11 1 2) (gx_let (gx_st S11 10 (S11 1 2).toNatClampNeg x5) fun S14 => gx_ck 8 (S14 1 2) (gx_let (gx_st S14 11 (S14 1 2).toNatClampNeg x6) fun S17 => gx_let (gx_st S17 1 2 ((S17 1 2) + (1 : Int32))) fun S19 => gx_loop (m_Street_addSort_88) 5000 (0, S19))))))) else some ((-104), S)
set_option maxRecDepth 20000 in
set_option maxHeartbeats 1000000 in
theorem c_Street_addSort (l : Launch) (D : va_G) {cl : List vw_C} {tys : List (ClassId × FieldType)} {ι : Nat → ClassId} (hx : gx_std vwCl (gty ι) cl tys) (a : Nat → Nat) (x1 : Int32) (x2 : Int32) (x3 : Int32) (x4 : Int32) (x5 : Int32) (x6 : Int32) (S : gx_S) {out : Int32 × gx_S} (h : m_Street_addSort x1 x2 x3 x4 x5 x6 S = some out) : gx_mI l D cl tys yX5_addSort (.code yX5_addSort cX5_addSort 8 ((Option.some Jvm.ClassFile.FieldType.int)) :: gx_U) (gx_rm 2) [.ref (a 1), .int x1, .int x2, .int x3, .int x4, .int x5, .int x6] (wX a ι S) (wX a ι) out := by
  unfold m_Street_addSort at h
  refine gx_startI (V := [.ref (a 1), .int x1, .int x2, .int x3, .int x4, .int x5, .int x6, .null]) 1 (by decide +kernel) (Nat.le_of_ble_eq_true rfl) rfl (fun Γ hl hD hcl hty hnL C F => ?_)
  subst hl; subst hD; subst hcl; subst hty
  refine gx_aload_0 C dX5_addSort_0 rfl ?_
  refine gs_getf (q := 1) C fl_X5_54 (cls_X5 hx) lt_X_Street (oc_X_Street a ι _) rfl dX5_addSort_1 ?_
  refine gx_bipush (v := 8) C dX5_addSort_4 (by decide) ?_
  refine gx_icmp_lt (tgt := 12) C dX5_addSort_6 (by decide) (fun hc21 => ?_) (fun hc21 => ?_)
  · have h := gi_t hc21 h
    refine gx_aload_0 C dX5_addSort_12 rfl ?_
    refine gs_getf (q := 1) C fl_X5_24 (cls_X5 hx) lt_X_Street (oc_X_Street a ι _) rfl dX5_addSort_13 ?_
    refine gx_aload_0 C dX5_addSort_16 rfl ?_
    refine gs_getf (q := 1) C fl_X5_54 (cls_X5 hx) lt_X_Street (oc_X_Street a ι _) rfl dX5_addSort_17 ?_
    refine gx_iload_1 C dX5_addSort_20 rfl ?_
    obtain ⟨hi1, h⟩ := gi_ck h
    obtain ⟨S2, e3, h⟩ := gi_let h
    refine gs_iast (q := 6) C (ac_X_Street_home hx a) lt_X_Street_home hi1 e3 dX5_addSort_21 ?_
    refine gx_aload_0 C dX5_addSort_22 rfl ?_
    refine gs_getf (q := 1) C fl_X5_27 (cls_X5 hx) lt_X_Street (oc_X_Street a ι _) rfl dX5_addSort_23 ?_
    refine gx_aload_0 C dX5_addSort_26 rfl ?_
    refine gs_getf (q := 1) C fl_X5_54 (cls_X5 hx) lt_X_Street (oc_X_Street a ι _) rfl dX5_addSort_27 ?_
    refine gx_iload_2 C dX5_addSort_30 rfl ?_
    obtain ⟨hi4, h⟩ := gi_ck h
    obtain ⟨S5, e6, h⟩ := gi_let h
    refine gs_iast (q := 7) C (ac_X_Street_many hx a) lt_X_Street_many hi4 e6 dX5_addSort_31 ?_
    refine gx_aload_0 C dX5_addSort_32 rfl ?_
    refine gs_getf (q := 1) C fl_X5_30 (cls_X5 hx) lt_X_Street (oc_X_Street a ι _) rfl dX5_addSort_33 ?_
    refine gx_aload_0 C dX5_addSort_36 rfl ?_
    refine gs_getf (q := 1) C fl_X5_54 (cls_X5 hx) lt_X_Street (oc_X_Street a ι _) rfl dX5_addSort_37 ?_
    refine gx_iload_3 C dX5_addSort_40 rfl ?_
    obtain ⟨hi7, h⟩ := gi_ck h
    obtain ⟨S8, e9, h⟩ := gi_let h
    refine gs_iast (q := 8) C (ac_X_Street_way hx a) lt_X_Street_way hi7 e9 dX5_addSort_41 ?_
    refine gx_aload_0 C dX5_addSort_42 rfl ?_
    refine gs_getf (q := 1) C fl_X5_33 (cls_X5 hx) lt_X_Street (oc_X_Street a ι _) rfl dX5_addSort_43 ?_
    refine gx_aload_0 C dX5_addSort_46 rfl ?_
    refine gs_getf (q := 1) C fl_X5_54 (cls_X5 hx) lt_X_Street (oc_X_Street a ι _) rfl dX5_addSort_47 ?_
    refine gx_iload C dX5_addSort_50 rfl ?_
    obtain ⟨hi10, h⟩ := gi_ck h
    obtain ⟨S11, e12, h⟩ := gi_let h
    refine gs_iast (q := 9) C (ac_X_Street_worth hx a) lt_X_Street_worth hi10 e12 dX5_addSort_52 ?_
    refine gx_aload_0 C dX5_addSort_53 rfl ?_
    refine gs_getf (q := 1) C fl_X5_36 (cls_X5 hx) lt_X_Street (oc_X_Street a ι _) rfl dX5_addSort_54 ?_
    refine gx_aload_0 C dX5_addSort_57 rfl ?_
    refine gs_getf (q := 1) C fl_X5_54 (cls_X5 hx) lt_X_Street (oc_X_Street a ι _) rfl dX5_addSort_58 ?_
    refine gx_iload C dX5_addSort_61 rfl ?_
    obtain ⟨hi13, h⟩ := gi_ck h
    obtain ⟨S14, e15, h⟩ := gi_let h
    refine gs_iast (q := 10) C (ac_X_Street_liked hx a) lt_X_Street_liked hi13 e15 dX5_addSort_63 ?_
    refine gx_aload_0 C dX5_addSort_64 rfl ?_
    refine gs_getf (q := 1) C fl_X5_39 (cls_X5 hx) lt_X_Street (oc_X_Street a ι _) rfl dX5_addSort_65 ?_
    refine gx_aload_0 C dX5_addSort_68 rfl ?_
    refine gs_getf (q := 1) C fl_X5_54 (cls_X5 hx) lt_X_Street (oc_X_Street a ι _) rfl dX5_addSort_69 ?_
    refine gx_iload C dX5_addSort_72 rfl ?_
    obtain ⟨hi16, h⟩ := gi_ck h
    obtain ⟨S17, e18, h⟩ := gi_let h
    refine gs_iast (q := 11) C (ac_X_Street_liking hx a) lt_X_Street_liking hi16 e18 dX5_addSort_74 ?_
    refine gx_aload_0 C dX5_addSort_75 rfl ?_
    refine gx_dup C dX5_addSort_76 rfl ?_
    refine gs_getf (q := 1) C fl_X5_54 (cls_X5 hx) lt_X_Street (oc_X_Street a ι _) rfl dX5_addSort_77 ?_
    refine gx_iconst1 C dX5_addSort_80 ?_
    refine gx_iadd C dX5_addSort_81 ?_
    obtain ⟨S19, e20, h⟩ := gi_let h
    refine gs_puti (q := 1) C fl_X5_54 (cls_X5 hx) lt_X_Street (oc_X_Street a ι _) (oc_X_Street a ι _) rfl rfl rfl (Nat.le_of_ble_eq_true rfl) e20 dX5_addSort_82 ?_
    refine gx_iconst0 C dX5_addSort_85 ?_
    refine gx_istore C dX5_addSort_86 (by rw [hnL]; decide) trivial ?_
    refine gx_weak (gx_le_k rfl (gx_le_n (gx_le_n (gx_le_n (gx_le_n (gx_le_n (gx_le_n (gx_le_k rfl gx_le_0)))))))) (gi_loop (P := fun t => gx_G Γ 0 0 88 [.ref (a 1), .null, .null, .null, .null, .null, .null, .int t.1] [] (wX a ι t.2)) (fun kk t hk h => ?_) 5000 _ h)
    obtain ⟨x79, S'9⟩ := t
    exact b_Street_addSort_88 hx C ⟨F, hnL⟩ (k88 := kk) (fun x78 S'8 h => hk (x78, S'8) h) h
  · have h := gi_f hc21 h
    refine gx_bipush (v := (-104)) C dX5_addSort_9 (by decide) ?_
    exact gx_iret C F rfl dX5_addSort_11 (Option.some.inj h)
def m_Text_append (r : Nat) (x1 : Int32) (S : gx_S) : Option (gx_S) := if 50 ≤ (S (66 + 2 * r) 1) then some S else gx_ck 50 (S (66 + 2 * r) 1) (gx_let (gx_st S (66 + 2 * r + 1) (S (66 + 2 * r) 1).toNatClampNeg (vp_nar .char x1)) fun S2 => gx_let (gx_st S2 (66 + 2 * r) 1 ((S2 (66 + 2 * r) 1) + (1 : Int32))) fun S4 => some S4)
set_option maxRecDepth 20000 in
set_option maxHeartbeats 1000000 in
theorem c_Text_append (l : Launch) (D : va_G) {cl : List vw_C} {tys : List (ClassId × FieldType)} {ι : Nat → ClassId} (hx : gx_std vwCl (gty ι) cl tys) (a : Nat → Nat) {r : Nat} (hr : r < 5) (x1 : Int32) (S : gx_S) {out : gx_S} (h : m_Text_append r x1 S = some out) : gx_mV l D cl tys yX6_append (.code yX6_append cX6_append 2 ((Option.none : Option Jvm.ClassFile.FieldType)) :: gx_U) (gx_rm 0) [.ref (a (66 + 2 * r)), .int x1] (wX a ι S) (wX a ι) out := by
  unfold m_Text_append at h
  refine gx_startV (V := [.ref (a (66 + 2 * r)), .int x1]) 0 (by decide +kernel) (Nat.le_of_ble_eq_true rfl) rfl (fun Γ hl hD hcl hty hnL C F => ?_)
  subst hl; subst hD; subst hcl; subst hty
  refine gx_aload_0 C dX6_append_0 rfl ?_
  refine gs_getf (q := (66 + 2 * r)) C fl_X6_15 (cls_X6 hx) (lt_X_Text (q := r) hr) (oc_X_Text a ι _ (q := r) hr) rfl dX6_append_1 ?_
  refine gx_bipush (v := 50) C dX6_append_4 (by decide) ?_
  refine gx_icmp_ge (tgt := 29) C dX6_append_6 (by decide) (fun hc6 => ?_) (fun hc6 => ?_)
  · have h := gi_t hc6 h
    exact gx_vret C F dX6_append_29 (Option.some.inj h)
  · have h := gi_f hc6 h
    refine gx_aload_0 C dX6_append_9 rfl ?_
    refine gs_getf (q := (66 + 2 * r)) C fl_X6_9 (cls_X6 hx) (lt_X_Text (q := r) hr) (oc_X_Text a ι _ (q := r) hr) rfl dX6_append_10 ?_
    refine gx_aload_0 C dX6_append_13 rfl ?_
    refine gs_getf (q := (66 + 2 * r)) C fl_X6_15 (cls_X6 hx) (lt_X_Text (q := r) hr) (oc_X_Text a ι _ (q := r) hr) rfl dX6_append_14 ?_
    refine gx_iload_1 C dX6_append_17 rfl ?_
    obtain ⟨hi1, h⟩ := gi_ck h
    obtain ⟨S2, e3, h⟩ := gi_let h
    refine gs_cast (q := (66 + 2 * r + 1)) C (ac_X_Text_letter hx a (q := r) hr) (lt_X_Text_letter (q := r) hr) hi1 e3 dX6_append_18 ?_
    refine gx_aload_0 C dX6_append_19 rfl ?_
    refine gx_dup C dX6_append_20 rfl ?_
    refine gs_getf (q := (66 + 2 * r)) C fl_X6_15 (cls_X6 hx) (lt_X_Text (q := r) hr) (oc_X_Text a ι _ (q := r) hr) rfl dX6_append_21 ?_
    refine gx_iconst1 C dX6_append_24 ?_
    refine gx_iadd C dX6_append_25 ?_
    obtain ⟨S4, e5, h⟩ := gi_let h
    refine gs_puti (q := (66 + 2 * r)) C fl_X6_15 (cls_X6 hx) (lt_X_Text (q := r) hr) (oc_X_Text a ι _ (q := r) hr) (oc_X_Text a ι _ (q := r) hr) rfl rfl rfl (Nat.le_of_ble_eq_true rfl) e5 dX6_append_26 ?_
    exact gx_vret C F dX6_append_29 (Option.some.inj h)
def m_Text_become_10 (r : Nat) (r1 : Nat) (t : Int32 × gx_S) (k10 : Int32 × gx_S → Option (gx_S)) : Option (gx_S) := match t with
  | (x2, S) => if (S (66 + 2 * r) 1) ≤ x2 then some S else gx_ck 50 x2 (gx_let (gx_st S (66 + 2 * r + 1) x2.toNatClampNeg (vp_nar .char (S (66 + 2 * r1 + 1) x2.toNatClampNeg))) fun S2 => k10 ((x2 + 1), S2))
set_option maxRecDepth 20000 in
set_option maxHeartbeats 1000000 in
theorem b_Text_become_10 {Γ : gx_T} {ι : Nat → ClassId} {a : Nat → Nat} {r : Nat} {r1 : Nat} {out : gx_S} (hx : gx_std vwCl (gty ι) (gx_cl Γ) (gx_ty Γ)) (hr : r < 5) (hr1 : r1 < 5) (C : gx_ok Γ cX6_become RX6 gx_U 0) (F : gx_finV Γ ((Option.none : Option Jvm.ClassFile.FieldType)) (wX a ι) out ∧ gx_nL Γ = 3) {k10 : Int32 × gx_S → Option (gx_S)} {x2 : Int32} {S : gx_S} (hk10 : ∀ (x27 : Int32) (S7 : gx_S), k10 (x27, S7) = some out → gx_G Γ 0 0 10 [.ref (a (66 + 2 * r)), .ref (a (66 + 2 * r1)), .int x27] [] (wX a ι S7)) (h : m_Text_become_10 r r1 (x2, S) k10 = some out) : gx_G Γ 0 0 10 [.ref (a (66 + 2 * r)), .ref (a (66 + 2 * r1)), .int x2] [] (wX a ι S) := by
  obtain ⟨F, hnL⟩ := F
  unfold m_Text_become_10 at h
  dsimp only at h
  refine gx_iload_2 C dX6_become_10 rfl ?_
  refine gx_aload_0 C dX6_become_11 rfl ?_
  refine gs_getf (q := (66 + 2 * r)) C fl_X6_15 (cls_X6 hx) (lt_X_Text (q := r) hr) (oc_X_Text a ι _ (q := r) hr) rfl dX6_become_12 ?_
  refine gx_icmp_ge (tgt := 36) C dX6_become_15 (by decide) (fun hc4 => ?_) (fun hc4 => ?_)
  · have h := gi_t hc4 h
    exact gx_vret C F dX6_become_36 (Option.some.inj h)
  · have h := gi_f hc4 h
    refine gx_aload_0 C dX6_become_18 rfl ?_
    refine gs_getf (q := (66 + 2 * r)) C fl_X6_9 (cls_X6 hx) (lt_X_Text (q := r) hr) (oc_X_Text a ι _ (q := r) hr) rfl dX6_become_19 ?_
    refine gx_iload_2 C dX6_become_22 rfl ?_
    refine gx_aload_1 C dX6_become_23 rfl ?_
    refine gs_getf (q := (66 + 2 * r1)) C fl_X6_9 (cls_X6 hx) (lt_X_Text (q := r1) hr1) (oc_X_Text a ι _ (q := r1) hr1) rfl dX6_become_24 ?_
    refine gx_iload_2 C dX6_become_27 rfl ?_
    obtain ⟨hi1, h⟩ := gi_ck h
    refine gs_cald (q := (66 + 2 * r1 + 1)) C (ac_X_Text_letter hx a (q := r1) hr1) (lt_X_Text_letter (q := r1) hr1) hi1 dX6_become_28 ?_
    obtain ⟨S2, e3, h⟩ := gi_let h
    refine gs_cast (q := (66 + 2 * r + 1)) C (ac_X_Text_letter hx a (q := r) hr) (lt_X_Text_letter (q := r) hr) hi1 e3 dX6_become_29 ?_
    refine gx_iinc1 C dX6_become_30 rfl (by rw [hnL]; decide) trivial ?_
    refine gx_goto (tgt := 10) C dX6_become_33 (by decide) ?_
    exact gx_weak (gx_le_k rfl (gx_le_k rfl (gx_le_k rfl gx_le_0))) (hk10 _ _ h)
def m_Text_become (r : Nat) (r1 : Nat) (S : gx_S) : Option (gx_S) := gx_let (gx_st S (66 + 2 * r) 1 (S (66 + 2 * r1) 1)) fun S1 => gx_loop (m_Text_become_10 r r1) 5000 (0, S1)
set_option maxRecDepth 20000 in
set_option maxHeartbeats 1000000 in
theorem c_Text_become (l : Launch) (D : va_G) {cl : List vw_C} {tys : List (ClassId × FieldType)} {ι : Nat → ClassId} (hx : gx_std vwCl (gty ι) cl tys) (a : Nat → Nat) {r : Nat} {r1 : Nat} (hr : r < 5) (hr1 : r1 < 5) (S : gx_S) {out : gx_S} (h : m_Text_become r r1  S = some out) : gx_mV l D cl tys yX6_become (.code yX6_become cX6_become 3 ((Option.none : Option Jvm.ClassFile.FieldType)) :: gx_U) (gx_rm 0) [.ref (a (66 + 2 * r)), .ref (a (66 + 2 * r1))] (wX a ι S) (wX a ι) out := by
  unfold m_Text_become at h
  refine gx_startV (V := [.ref (a (66 + 2 * r)), .ref (a (66 + 2 * r1)), .null]) 1 (by decide +kernel) (Nat.le_of_ble_eq_true rfl) rfl (fun Γ hl hD hcl hty hnL C F => ?_)
  subst hl; subst hD; subst hcl; subst hty
  refine gx_aload_0 C dX6_become_0 rfl ?_
  refine gx_aload_1 C dX6_become_1 rfl ?_
  refine gs_getf (q := (66 + 2 * r1)) C fl_X6_15 (cls_X6 hx) (lt_X_Text (q := r1) hr1) (oc_X_Text a ι _ (q := r1) hr1) rfl dX6_become_2 ?_
  obtain ⟨S1, e2, h⟩ := gi_let h
  refine gs_puti (q := (66 + 2 * r)) C fl_X6_15 (cls_X6 hx) (lt_X_Text (q := r) hr) (oc_X_Text a ι _ (q := r) hr) (oc_X_Text a ι _ (q := r) hr) rfl rfl rfl (Nat.le_of_ble_eq_true rfl) e2 dX6_become_5 ?_
  refine gx_iconst0 C dX6_become_8 ?_
  refine gx_istore_2 C dX6_become_9 (by rw [hnL]; decide) trivial ?_
  refine gx_weak (gx_le_k rfl (gx_le_k rfl (gx_le_k rfl gx_le_0))) (gi_loop (P := fun t => gx_G Γ 0 0 10 [.ref (a (66 + 2 * r)), .ref (a (66 + 2 * r1)), .int t.1] [] (wX a ι t.2)) (fun kk t hk h => ?_) 5000 _ h)
  obtain ⟨x29, S'9⟩ := t
  exact b_Text_become_10 hx hr hr1 C ⟨F, hnL⟩ (k10 := kk) (fun x28 S'8 h => hk (x28, S'8) h) h
def m_ShopsAsOne_isNot_10 (S : gx_S) : Option (Int32) := some 1
set_option maxRecDepth 20000 in
set_option maxHeartbeats 1000000 in
theorem b_ShopsAsOne_isNot_10 {Γ : gx_T} {ι : Nat → ClassId} {a : Nat → Nat} {out : Int32} {S : gx_S} (hx : gx_std vwCl (gty ι) (gx_cl Γ) (gx_ty Γ)) (C : gx_ok Γ cX7_isNot RX7 gx_U 0) (F : gx_finI Γ ((Option.some Jvm.ClassFile.FieldType.boolean)) (wX a ι) (out, S) ∧ gx_nL Γ = 3) (h : m_ShopsAsOne_isNot_10 S = some out) : gx_G Γ 0 0 10 [.null, .null, .null] [] (wX a ι S) := by
  obtain ⟨F, hnL⟩ := F
  unfold m_ShopsAsOne_isNot_10 at h
  refine gx_iconst1 C dX7_isNot_10 ?_
  refine gx_goto (tgt := 15) C dX7_isNot_11 (by decide) ?_
  exact gx_iret C F (by decide) dX7_isNot_15 (congrArg (fun z => (z, S)) (Option.some.inj h))
def m_ShopsAsOne_isNot (x0 : Int32) (x1 : Int32) (x2 : Int32) (S : gx_S) : Option (Int32) := if x0 < x1 then m_ShopsAsOne_isNot_10 S else if x0 ≤ x2 then some 0 else m_ShopsAsOne_isNot_10 S
set_option maxRecDepth 20000 in
set_option maxHeartbeats 1000000 in
theorem c_ShopsAsOne_isNot (l : Launch) (D : va_G) {cl : List vw_C} {tys : List (ClassId × FieldType)} {ι : Nat → ClassId} (hx : gx_std vwCl (gty ι) cl tys) (a : Nat → Nat) (x0 : Int32) (x1 : Int32) (x2 : Int32) (S : gx_S) {out : Int32} (h : m_ShopsAsOne_isNot x0 x1 x2 S = some out) : gx_mI l D cl tys yX7_isNot (.code yX7_isNot cX7_isNot 3 ((Option.some Jvm.ClassFile.FieldType.boolean)) :: gx_U) (gx_rm 0) [.int x0, .int x1, .int x2] (wX a ι S) (wX a ι) (out, S) := by
  unfold m_ShopsAsOne_isNot at h
  refine gx_startI (V := [.int x0, .int x1, .int x2]) 0 (by decide +kernel) (Nat.le_of_ble_eq_true rfl) rfl (fun Γ hl hD hcl hty hnL C F => ?_)
  subst hl; subst hD; subst hcl; subst hty
  refine gx_iload_0 C dX7_isNot_0 rfl ?_
  refine gx_iload_1 C dX7_isNot_1 rfl ?_
  refine gx_icmp_lt (tgt := 10) C dX7_isNot_2 (by decide) (fun hc2 => ?_) (fun hc2 => ?_)
  · have h := gi_t hc2 h
    exact gx_weak (gx_le_n (gx_le_n (gx_le_n gx_le_0))) (b_ShopsAsOne_isNot_10 hx C ⟨F, hnL⟩ h)
  · have h := gi_f hc2 h
    refine gx_iload_0 C dX7_isNot_5 rfl ?_
    refine gx_iload_2 C dX7_isNot_6 rfl ?_
    refine gx_icmp_le (tgt := 14) C dX7_isNot_7 (by decide) (fun hc1 => ?_) (fun hc1 => ?_)
    · have h := gi_t hc1 h
      refine gx_iconst0 C dX7_isNot_14 ?_
      exact gx_iret C F (by decide) dX7_isNot_15 (congrArg (fun z => (z, S)) (Option.some.inj h))
    · have h := gi_f hc1 h
      exact gx_weak (gx_le_n (gx_le_n (gx_le_n gx_le_0))) (b_ShopsAsOne_isNot_10 hx C ⟨F, hnL⟩ h)
def m_ShopsAsOne_owner (x1 : Int32) (x2 : Int32) (S : gx_S) : Option (Int32 × gx_S) := gx_cp (m_ShopsAsOne_isNot x1 0 4 S) fun v2 => if v2 = 0 then gx_cp (m_ShopsAsOne_isNot x2 0 99 S) fun v4 => if v4 = 0 then gx_cs (m_Street_addOwner x1 x2 S) fun v7 S6 => some (v7, S6) else some ((-102), S) else some ((-102), S)
set_option maxRecDepth 20000 in
set_option maxHeartbeats 1000000 in
theorem c_ShopsAsOne_owner (l : Launch) (D : va_G) {cl : List vw_C} {tys : List (ClassId × FieldType)} {ι : Nat → ClassId} (hx : gx_std vwCl (gty ι) cl tys) (a : Nat → Nat) (x1 : Int32) (x2 : Int32) (S : gx_S) {out : Int32 × gx_S} (h : m_ShopsAsOne_owner x1 x2 S = some out) : gx_mI l D cl tys yX7_owner (.code yX7_owner cX7_owner 3 ((Option.some Jvm.ClassFile.FieldType.int)) :: gx_U) (gx_rm 1) [.ref (a 0), .int x1, .int x2] (wX a ι S) (wX a ι) out := by
  unfold m_ShopsAsOne_owner at h
  refine gx_startI (V := [.ref (a 0), .int x1, .int x2]) 0 (by decide +kernel) (Nat.le_of_ble_eq_true rfl) rfl (fun Γ hl hD hcl hty hnL C F => ?_)
  subst hl; subst hD; subst hcl; subst hty
  refine gx_iload_1 C dX7_owner_0 rfl ?_
  refine gx_iconst0 C dX7_owner_1 ?_
  refine gx_iconst4 C dX7_owner_2 ?_
  obtain ⟨v2, e1, h⟩ := gi_cp h
  refine gc_IS C (c_ShopsAsOne_isNot (gx_l Γ) (gx_D Γ) hx a _ _ _ _ e1) (gx_cwS C gx_uu lk_X7_72 (by decide) (by decide)) rfl rfl (Nat.le_of_ble_eq_true rfl) ⟨Nat.zero_le _, Nat.zero_le _⟩ dX7_owner_3 ?_
  refine gx_if_ne (tgt := 19) C dX7_owner_6 (by decide) (fun hc9 => ?_) (fun hc9 => ?_)
  · have h := gi_f hc9 h
    refine gx_bipush (v := (-102)) C dX7_owner_19 (by decide) ?_
    exact gx_iret C F rfl dX7_owner_21 (Option.some.inj h)
  · have h := gi_t hc9 h
    refine gx_iload_2 C dX7_owner_9 rfl ?_
    refine gx_iconst0 C dX7_owner_10 ?_
    refine gx_bipush (v := 99) C dX7_owner_11 (by decide) ?_
    obtain ⟨v4, e3, h⟩ := gi_cp h
    refine gc_IS C (c_ShopsAsOne_isNot (gx_l Γ) (gx_D Γ) hx a _ _ _ _ e3) (gx_cwS C gx_uu lk_X7_72 (by decide) (by decide)) rfl rfl (Nat.le_of_ble_eq_true rfl) ⟨Nat.zero_le _, Nat.zero_le _⟩ dX7_owner_13 ?_
    refine gx_if_eq (tgt := 22) C dX7_owner_16 (by decide) (fun hc8 => ?_) (fun hc8 => ?_)
    · have h := gi_t hc8 h
      refine gx_aload_0 C dX7_owner_22 rfl ?_
      refine gs_getf (q := 0) C fl_X7_10 (cls_X7 hx) lt_X_ShopsAsOne (oc_X_ShopsAsOne a ι _) rfl dX7_owner_23 ?_
      refine gx_iload_1 C dX7_owner_26 rfl ?_
      refine gx_iload_2 C dX7_owner_27 rfl ?_
      obtain ⟨v7, S6, e5, h⟩ := gi_cs h
      refine gc_IV C (c_Street_addOwner (gx_l Γ) (gx_D Γ) hx a _ _ _ e5) (gx_cw C gx_uu lk_X7_76 (by decide) (by decide)) (cls_X5 hx).1 (gs_recv (q := 1) lt_X_Street (oc_X_Street a ι _)) rfl rfl (Nat.le_of_ble_eq_true rfl) ⟨Nat.zero_le _, Nat.zero_le _⟩ dX7_owner_28 ?_
      exact gx_iret C F rfl dX7_owner_31 (Option.some.inj h)
    · have h := gi_f hc8 h
      refine gx_bipush (v := (-102)) C dX7_owner_19 (by decide) ?_
      exact gx_iret C F rfl dX7_owner_21 (Option.some.inj h)
def m_ShopsAsOne_isNoOwner (x1 : Int32) (S : gx_S) : Option (Int32) := gx_cp (m_ShopsAsOne_isNot x1 0 ((S 1 0) - (1 : Int32)) S) fun v2 => gx_bz v2 (some v2)
set_option maxRecDepth 20000 in
set_option maxHeartbeats 1000000 in
theorem c_ShopsAsOne_isNoOwner (l : Launch) (D : va_G) {cl : List vw_C} {tys : List (ClassId × FieldType)} {ι : Nat → ClassId} (hx : gx_std vwCl (gty ι) cl tys) (a : Nat → Nat) (x1 : Int32) (S : gx_S) {out : Int32} (h : m_ShopsAsOne_isNoOwner x1 S = some out) : gx_mI l D cl tys yX7_isNoOwner (.code yX7_isNoOwner cX7_isNoOwner 2 ((Option.some Jvm.ClassFile.FieldType.boolean)) :: gx_U) (gx_rm 1) [.ref (a 0), .int x1] (wX a ι S) (wX a ι) (out, S) := by
  unfold m_ShopsAsOne_isNoOwner at h
  refine gx_startI (V := [.ref (a 0), .int x1]) 0 (by decide +kernel) (Nat.le_of_ble_eq_true rfl) rfl (fun Γ hl hD hcl hty hnL C F => ?_)
  subst hl; subst hD; subst hcl; subst hty
  refine gx_iload_1 C dX7_isNoOwner_0 rfl ?_
  refine gx_iconst0 C dX7_isNoOwner_1 ?_
  refine gx_aload_0 C dX7_isNoOwner_2 rfl ?_
  refine gs_getf (q := 0) C fl_X7_10 (cls_X7 hx) lt_X_ShopsAsOne (oc_X_ShopsAsOne a ι _) rfl dX7_isNoOwner_3 ?_
  refine gs_getf (q := 1) C fl_X7_159 (cls_X5 hx) lt_X_Street (oc_X_Street a ι _) rfl dX7_isNoOwner_6 ?_
  refine gx_iconst1 C dX7_isNoOwner_9 ?_
  refine gx_isub C dX7_isNoOwner_10 ?_
  obtain ⟨v2, e1, h⟩ := gi_cp h
  refine gc_IS C (c_ShopsAsOne_isNot (gx_l Γ) (gx_D Γ) hx a _ _ _ _ e1) (gx_cwS C gx_uu lk_X7_72 (by decide) (by decide)) rfl rfl (Nat.le_of_ble_eq_true rfl) ⟨Nat.zero_le _, Nat.zero_le _⟩ dX7_isNoOwner_11 ?_
  obtain ⟨hz3, h⟩ := gi_bz h
  exact gx_iret C F hz3.1 dX7_isNoOwner_14 (congrArg (fun z => (z, S)) (Option.some.inj h))
def m_ShopsAsOne_as_57 (x1 : Int32) (s0 : Int32) (S : gx_S) : Option (Int32) := if s0 = 0 then some (-1) else some x1
set_option maxRecDepth 20000 in
set_option maxHeartbeats 1000000 in
theorem b_ShopsAsOne_as_57 {Γ : gx_T} {ι : Nat → ClassId} {a : Nat → Nat} {out : Int32} {S : gx_S} (hx : gx_std vwCl (gty ι) (gx_cl Γ) (gx_ty Γ)) (C : gx_ok Γ cX7_as RX7 gx_U 2) (F : gx_finI Γ ((Option.some Jvm.ClassFile.FieldType.int)) (wX a ι) (out, S) ∧ gx_nL Γ = 5) {x1 : Int32} {s0 : Int32} (h : m_ShopsAsOne_as_57 x1 s0 S = some out) : gx_G Γ 0 0 57 [.ref (a 0), .int x1, .null, .null, .null] [.int s0] (wX a ι S) := by
  obtain ⟨F, hnL⟩ := F
  unfold m_ShopsAsOne_as_57 at h
  refine gx_istore C dX7_as_57 (by rw [hnL]; decide) trivial ?_
  refine gx_iload C dX7_as_59 rfl ?_
  refine gx_if_eq (tgt := 68) C dX7_as_61 (by decide) (fun hc1 => ?_) (fun hc1 => ?_)
  · have h := gi_t hc1 h
    refine gx_iconstm1 C dX7_as_68 ?_
    exact gx_iret C F rfl dX7_as_69 (congrArg (fun z => (z, S)) (Option.some.inj h))
  · have h := gi_f hc1 h
    refine gx_iload_1 C dX7_as_64 rfl ?_
    refine gx_goto (tgt := 69) C dX7_as_65 (by decide) ?_
    exact gx_iret C F rfl dX7_as_69 (congrArg (fun z => (z, S)) (Option.some.inj h))
def m_ShopsAsOne_as_52 (x1 : Int32) (S : gx_S) : Option (Int32) := m_ShopsAsOne_as_57 x1 1 S
set_option maxRecDepth 20000 in
set_option maxHeartbeats 1000000 in
theorem b_ShopsAsOne_as_52 {Γ : gx_T} {ι : Nat → ClassId} {a : Nat → Nat} {out : Int32} {S : gx_S} (hx : gx_std vwCl (gty ι) (gx_cl Γ) (gx_ty Γ)) (C : gx_ok Γ cX7_as RX7 gx_U 2) (F : gx_finI Γ ((Option.some Jvm.ClassFile.FieldType.int)) (wX a ι) (out, S) ∧ gx_nL Γ = 5) {x1 : Int32} (h : m_ShopsAsOne_as_52 x1 S = some out) : gx_G Γ 0 0 52 [.ref (a 0), .int x1, .null, .null, .null] [] (wX a ι S) := by
  obtain ⟨F, hnL⟩ := F
  unfold m_ShopsAsOne_as_52 at h
  refine gx_iconst1 C dX7_as_52 ?_
  refine gx_goto (tgt := 57) C dX7_as_53 (by decide) ?_
  exact gx_weak (gx_le_k rfl (gx_le_k rfl (gx_le_n (gx_le_n (gx_le_n gx_le_0))))) (b_ShopsAsOne_as_57 hx C ⟨F, hnL⟩ h)
def m_ShopsAsOne_as_56 (x1 : Int32) (S : gx_S) : Option (Int32) := m_ShopsAsOne_as_57 x1 0 S
set_option maxRecDepth 20000 in
set_option maxHeartbeats 1000000 in
theorem b_ShopsAsOne_as_56 {Γ : gx_T} {ι : Nat → ClassId} {a : Nat → Nat} {out : Int32} {S : gx_S} (hx : gx_std vwCl (gty ι) (gx_cl Γ) (gx_ty Γ)) (C : gx_ok Γ cX7_as RX7 gx_U 2) (F : gx_finI Γ ((Option.some Jvm.ClassFile.FieldType.int)) (wX a ι) (out, S) ∧ gx_nL Γ = 5) {x1 : Int32} (h : m_ShopsAsOne_as_56 x1 S = some out) : gx_G Γ 0 0 56 [.ref (a 0), .int x1, .null, .null, .null] [] (wX a ι S) := by
  obtain ⟨F, hnL⟩ := F
  unfold m_ShopsAsOne_as_56 at h
  refine gx_iconst0 C dX7_as_56 ?_
  exact gx_weak (gx_le_k rfl (gx_le_k rfl (gx_le_n (gx_le_n (gx_le_n gx_le_0))))) (b_ShopsAsOne_as_57 hx C ⟨F, hnL⟩ h)
def m_ShopsAsOne_as (x1 : Int32) (x2 : Int32) (S : gx_S) : Option (Int32) := gx_cp (m_ShopsAsOne_isNoOwner x1 S) fun v2 => if v2 = 0 then gx_cp (m_ShopsAsOne_isNot x2 0 4 S) fun v4 => if v4 = 0 then gx_ck 6 x1 (if x2 = 0 then m_ShopsAsOne_as_52 x1 S else if x2 = (S 2 x1.toNatClampNeg) then m_ShopsAsOne_as_52 x1 S else if x2 = 1 then if (S 2 x1.toNatClampNeg) = 4 then m_ShopsAsOne_as_52 x1 S else m_ShopsAsOne_as_56 x1 S else m_ShopsAsOne_as_56 x1 S) else some (-102) else some (-101)
set_option maxRecDepth 20000 in
set_option maxHeartbeats 1000000 in
theorem c_ShopsAsOne_as (l : Launch) (D : va_G) {cl : List vw_C} {tys : List (ClassId × FieldType)} {ι : Nat → ClassId} (hx : gx_std vwCl (gty ι) cl tys) (a : Nat → Nat) (x1 : Int32) (x2 : Int32) (S : gx_S) {out : Int32} (h : m_ShopsAsOne_as x1 x2 S = some out) : gx_mI l D cl tys yX7_as (.code yX7_as cX7_as 5 ((Option.some Jvm.ClassFile.FieldType.int)) :: gx_U) (gx_rm 2) [.ref (a 0), .int x1, .int x2] (wX a ι S) (wX a ι) (out, S) := by
  unfold m_ShopsAsOne_as at h
  refine gx_startI (V := [.ref (a 0), .int x1, .int x2, .null, .null]) 2 (by decide +kernel) (Nat.le_of_ble_eq_true rfl) rfl (fun Γ hl hD hcl hty hnL C F => ?_)
  subst hl; subst hD; subst hcl; subst hty
  refine gx_aload_0 C dX7_as_0 rfl ?_
  refine gx_iload_1 C dX7_as_1 rfl ?_
  obtain ⟨v2, e1, h⟩ := gi_cp h
  refine gc_IV C (c_ShopsAsOne_isNoOwner (gx_l Γ) (gx_D Γ) hx a _ _ e1) (gx_cw C gx_uu lk_X7_80 (by decide) (by decide)) (cls_X7 hx).1 (gs_recv (q := 0) lt_X_ShopsAsOne (oc_X_ShopsAsOne a ι _)) rfl rfl (Nat.le_of_ble_eq_true rfl) ⟨Nat.zero_le _, Nat.zero_le _⟩ dX7_as_2 ?_
  refine gx_if_eq (tgt := 11) C dX7_as_5 (by decide) (fun hc11 => ?_) (fun hc11 => ?_)
  · have h := gi_t hc11 h
    refine gx_iload_2 C dX7_as_11 rfl ?_
    refine gx_iconst0 C dX7_as_12 ?_
    refine gx_iconst4 C dX7_as_13 ?_
    obtain ⟨v4, e3, h⟩ := gi_cp h
    refine gc_IS C (c_ShopsAsOne_isNot (gx_l Γ) (gx_D Γ) hx a _ _ _ _ e3) (gx_cwS C gx_uu lk_X7_72 (by decide) (by decide)) rfl rfl (Nat.le_of_ble_eq_true rfl) ⟨Nat.zero_le _, Nat.zero_le _⟩ dX7_as_14 ?_
    refine gx_if_eq (tgt := 23) C dX7_as_17 (by decide) (fun hc10 => ?_) (fun hc10 => ?_)
    · have h := gi_t hc10 h
      refine gx_aload_0 C dX7_as_23 rfl ?_
      refine gs_getf (q := 0) C fl_X7_10 (cls_X7 hx) lt_X_ShopsAsOne (oc_X_ShopsAsOne a ι _) rfl dX7_as_24 ?_
      refine gs_getf (q := 1) C fl_X7_84 (cls_X5 hx) lt_X_Street (oc_X_Street a ι _) rfl dX7_as_27 ?_
      refine gx_iload_1 C dX7_as_30 rfl ?_
      obtain ⟨hi5, h⟩ := gi_ck h
      refine gs_iald (q := 2) C (ac_X_Street_kind hx a) lt_X_Street_kind hi5 dX7_as_31 ?_
      refine gx_istore_3 C dX7_as_32 (by rw [hnL]; decide) trivial ?_
      refine gx_iload_2 C dX7_as_33 rfl ?_
      refine gx_if_eq (tgt := 52) C dX7_as_34 (by decide) (fun hc9 => ?_) (fun hc9 => ?_)
      · have h := gi_t hc9 h
        exact gx_weak (gx_le_k rfl (gx_le_k rfl (gx_le_n (gx_le_n (gx_le_n gx_le_0))))) (b_ShopsAsOne_as_52 hx C ⟨F, hnL⟩ h)
      · have h := gi_f hc9 h
        refine gx_iload_2 C dX7_as_37 rfl ?_
        refine gx_iload_3 C dX7_as_38 rfl ?_
        refine gx_icmp_eq (tgt := 52) C dX7_as_39 (by decide) (fun hc8 => ?_) (fun hc8 => ?_)
        · have h := gi_t hc8 h
          exact gx_weak (gx_le_k rfl (gx_le_k rfl (gx_le_n (gx_le_n (gx_le_n gx_le_0))))) (b_ShopsAsOne_as_52 hx C ⟨F, hnL⟩ h)
        · have h := gi_f hc8 h
          refine gx_iload_2 C dX7_as_42 rfl ?_
          refine gx_iconst1 C dX7_as_43 ?_
          refine gx_icmp_ne (tgt := 56) C dX7_as_44 (by decide) (fun hc7 => ?_) (fun hc7 => ?_)
          · have h := gi_f hc7 h
            exact gx_weak (gx_le_k rfl (gx_le_k rfl (gx_le_n (gx_le_n (gx_le_n gx_le_0))))) (b_ShopsAsOne_as_56 hx C ⟨F, hnL⟩ h)
          · have h := gi_t hc7 h
            refine gx_iload_3 C dX7_as_47 rfl ?_
            refine gx_iconst4 C dX7_as_48 ?_
            refine gx_icmp_ne (tgt := 56) C dX7_as_49 (by decide) (fun hc6 => ?_) (fun hc6 => ?_)
            · have h := gi_f hc6 h
              exact gx_weak (gx_le_k rfl (gx_le_k rfl (gx_le_n (gx_le_n (gx_le_n gx_le_0))))) (b_ShopsAsOne_as_56 hx C ⟨F, hnL⟩ h)
            · have h := gi_t hc6 h
              exact gx_weak (gx_le_k rfl (gx_le_k rfl (gx_le_n (gx_le_n (gx_le_n gx_le_0))))) (b_ShopsAsOne_as_52 hx C ⟨F, hnL⟩ h)
    · have h := gi_f hc10 h
      refine gx_bipush (v := (-102)) C dX7_as_20 (by decide) ?_
      exact gx_iret C F rfl dX7_as_22 (congrArg (fun z => (z, S)) (Option.some.inj h))
  · have h := gi_f hc11 h
    refine gx_bipush (v := (-101)) C dX7_as_8 (by decide) ?_
    exact gx_iret C F rfl dX7_as_10 (congrArg (fun z => (z, S)) (Option.some.inj h))
def m_ShopsAsOne_shop (x1 : Int32) (x2 : Int32) (x3 : Int32) (x4 : Int32) (S : gx_S) : Option (Int32 × gx_S) := gx_cp (m_ShopsAsOne_isNoOwner x1 S) fun v2 => if v2 = 0 then gx_cp (m_ShopsAsOne_isNot x2 0 9 S) fun v4 => if v4 = 0 then gx_cp (m_ShopsAsOne_isNot x3 0 9 S) fun v6 => if v6 = 0 then gx_cp (m_ShopsAsOne_isNot x4 0 9 S) fun v8 => if v8 = 0 then gx_cp (m_Standing_shopsOf 0 x1 S) fun v10 => if v10 < 3 then gx_cs (m_Street_addShop x2 x3 S) fun v13 S12 => if v13 = (-104) then some (v13, S12) else gx_ck 6 v13 (gx_let (gx_st S12 23 v13.toNatClampNeg x1) fun S15 => gx_let (gx_st S15 22 v13.toNatClampNeg x4) fun S17 => some (v13, S17)) else some ((-104), S) else some ((-102), S) else some ((-102), S) else some ((-102), S) else some ((-101), S)
set_option maxRecDepth 20000 in
set_option maxHeartbeats 1000000 in
theorem c_ShopsAsOne_shop (l : Launch) (D : va_G) {cl : List vw_C} {tys : List (ClassId × FieldType)} {ι : Nat → ClassId} (hx : gx_std vwCl (gty ι) cl tys) (a : Nat → Nat) (x1 : Int32) (x2 : Int32) (x3 : Int32) (x4 : Int32) (S : gx_S) {out : Int32 × gx_S} (h : m_ShopsAsOne_shop x1 x2 x3 x4 S = some out) : gx_mI l D cl tys yX7_shop (.code yX7_shop cX7_shop 6 ((Option.some Jvm.ClassFile.FieldType.int)) :: gx_U) (gx_rm 3) [.ref (a 0), .int x1, .int x2, .int x3, .int x4] (wX a ι S) (wX a ι) out := by
  unfold m_ShopsAsOne_shop at h
  refine gx_startI (V := [.ref (a 0), .int x1, .int x2, .int x3, .int x4, .null]) 1 (by decide +kernel) (Nat.le_of_ble_eq_true rfl) rfl (fun Γ hl hD hcl hty hnL C F => ?_)
  subst hl; subst hD; subst hcl; subst hty
  refine gx_aload_0 C dX7_shop_0 rfl ?_
  refine gx_iload_1 C dX7_shop_1 rfl ?_
  obtain ⟨v2, e1, h⟩ := gi_cp h
  refine gc_IV C (c_ShopsAsOne_isNoOwner (gx_l Γ) (gx_D Γ) hx a _ _ e1) (gx_cw C gx_uu lk_X7_80 (by decide) (by decide)) (cls_X7 hx).1 (gs_recv (q := 0) lt_X_ShopsAsOne (oc_X_ShopsAsOne a ι _)) rfl rfl (Nat.le_of_ble_eq_true rfl) ⟨Nat.zero_le _, Nat.zero_le _⟩ dX7_shop_2 ?_
  refine gx_if_eq (tgt := 11) C dX7_shop_5 (by decide) (fun hc24 => ?_) (fun hc24 => ?_)
  · have h := gi_t hc24 h
    refine gx_iload_2 C dX7_shop_11 rfl ?_
    refine gx_iconst0 C dX7_shop_12 ?_
    refine gx_bipush (v := 9) C dX7_shop_13 (by decide) ?_
    obtain ⟨v4, e3, h⟩ := gi_cp h
    refine gc_IS C (c_ShopsAsOne_isNot (gx_l Γ) (gx_D Γ) hx a _ _ _ _ e3) (gx_cwS C gx_uu lk_X7_72 (by decide) (by decide)) rfl rfl (Nat.le_of_ble_eq_true rfl) ⟨Nat.zero_le _, Nat.zero_le _⟩ dX7_shop_15 ?_
    refine gx_if_ne (tgt := 42) C dX7_shop_18 (by decide) (fun hc23 => ?_) (fun hc23 => ?_)
    · have h := gi_f hc23 h
      refine gx_bipush (v := (-102)) C dX7_shop_42 (by decide) ?_
      exact gx_iret C F rfl dX7_shop_44 (Option.some.inj h)
    · have h := gi_t hc23 h
      refine gx_iload_3 C dX7_shop_21 rfl ?_
      refine gx_iconst0 C dX7_shop_22 ?_
      refine gx_bipush (v := 9) C dX7_shop_23 (by decide) ?_
      obtain ⟨v6, e5, h⟩ := gi_cp h
      refine gc_IS C (c_ShopsAsOne_isNot (gx_l Γ) (gx_D Γ) hx a _ _ _ _ e5) (gx_cwS C gx_uu lk_X7_72 (by decide) (by decide)) rfl rfl (Nat.le_of_ble_eq_true rfl) ⟨Nat.zero_le _, Nat.zero_le _⟩ dX7_shop_25 ?_
      refine gx_if_ne (tgt := 42) C dX7_shop_28 (by decide) (fun hc22 => ?_) (fun hc22 => ?_)
      · have h := gi_f hc22 h
        refine gx_bipush (v := (-102)) C dX7_shop_42 (by decide) ?_
        exact gx_iret C F rfl dX7_shop_44 (Option.some.inj h)
      · have h := gi_t hc22 h
        refine gx_iload C dX7_shop_31 rfl ?_
        refine gx_iconst0 C dX7_shop_33 ?_
        refine gx_bipush (v := 9) C dX7_shop_34 (by decide) ?_
        obtain ⟨v8, e7, h⟩ := gi_cp h
        refine gc_IS C (c_ShopsAsOne_isNot (gx_l Γ) (gx_D Γ) hx a _ _ _ _ e7) (gx_cwS C gx_uu lk_X7_72 (by decide) (by decide)) rfl rfl (Nat.le_of_ble_eq_true rfl) ⟨Nat.zero_le _, Nat.zero_le _⟩ dX7_shop_36 ?_
        refine gx_if_eq (tgt := 45) C dX7_shop_39 (by decide) (fun hc21 => ?_) (fun hc21 => ?_)
        · have h := gi_t hc21 h
          refine gx_aload_0 C dX7_shop_45 rfl ?_
          refine gs_getf (q := 0) C fl_X7_21 (cls_X7 hx) lt_X_ShopsAsOne (oc_X_ShopsAsOne a ι _) rfl dX7_shop_46 ?_
          refine gx_iload_1 C dX7_shop_49 rfl ?_
          obtain ⟨v10, e9, h⟩ := gi_cp h
          refine gc_IV C (c_Standing_shopsOf (gx_l Γ) (gx_D Γ) hx a (r := 0) (by decide) _ _ e9) (gx_cw C gx_uu lk_X7_88 (by decide) (by decide)) (cls_X4 hx).1 (gs_recv (q := 21) (lt_X_Standing (q := 0) (by decide)) (oc_X_Standing a ι _ (q := 0) (by decide))) rfl rfl (Nat.le_of_ble_eq_true rfl) ⟨Nat.zero_le _, Nat.zero_le _⟩ dX7_shop_50 ?_
          refine gx_iconst3 C dX7_shop_53 ?_
          refine gx_icmp_lt (tgt := 60) C dX7_shop_54 (by decide) (fun hc20 => ?_) (fun hc20 => ?_)
          · have h := gi_t hc20 h
            refine gx_aload_0 C dX7_shop_60 rfl ?_
            refine gs_getf (q := 0) C fl_X7_10 (cls_X7 hx) lt_X_ShopsAsOne (oc_X_ShopsAsOne a ι _) rfl dX7_shop_61 ?_
            refine gx_iload_2 C dX7_shop_64 rfl ?_
            refine gx_iload_3 C dX7_shop_65 rfl ?_
            obtain ⟨v13, S12, e11, h⟩ := gi_cs h
            refine gc_IV C (c_Street_addShop (gx_l Γ) (gx_D Γ) hx a _ _ _ e11) (gx_cw C gx_uu lk_X7_92 (by decide) (by decide)) (cls_X5 hx).1 (gs_recv (q := 1) lt_X_Street (oc_X_Street a ι _)) rfl rfl (Nat.le_of_ble_eq_true rfl) ⟨Nat.zero_le _, Nat.zero_le _⟩ dX7_shop_66 ?_
            refine gx_istore C dX7_shop_69 (by rw [hnL]; decide) trivial ?_
            refine gx_iload C dX7_shop_71 rfl ?_
            refine gx_bipush (v := (-104)) C dX7_shop_73 (by decide) ?_
            refine gx_icmp_eq (tgt := 101) C dX7_shop_75 (by decide) (fun hc19 => ?_) (fun hc19 => ?_)
            · have h := gi_t hc19 h
              refine gx_iload C dX7_shop_101 rfl ?_
              exact gx_iret C F rfl dX7_shop_103 (Option.some.inj h)
            · have h := gi_f hc19 h
              refine gx_aload_0 C dX7_shop_78 rfl ?_
              refine gs_getf (q := 0) C fl_X7_21 (cls_X7 hx) lt_X_ShopsAsOne (oc_X_ShopsAsOne a ι _) rfl dX7_shop_79 ?_
              refine gs_getf (q := 21) C fl_X7_95 (cls_X4 hx) (lt_X_Standing (q := 0) (by decide)) (oc_X_Standing a ι _ (q := 0) (by decide)) rfl dX7_shop_82 ?_
              refine gx_iload C dX7_shop_85 rfl ?_
              refine gx_iload_1 C dX7_shop_87 rfl ?_
              obtain ⟨hi14, h⟩ := gi_ck h
              obtain ⟨S15, e16, h⟩ := gi_let h
              refine gs_iast (q := 23) C (ac_X_Standing_whose hx a (q := 0) (by decide)) (lt_X_Standing_whose (q := 0) (by decide)) hi14 e16 dX7_shop_88 ?_
              refine gx_aload_0 C dX7_shop_89 rfl ?_
              refine gs_getf (q := 0) C fl_X7_21 (cls_X7 hx) lt_X_ShopsAsOne (oc_X_ShopsAsOne a ι _) rfl dX7_shop_90 ?_
              refine gs_getf (q := 21) C fl_X7_98 (cls_X4 hx) (lt_X_Standing (q := 0) (by decide)) (oc_X_Standing a ι _ (q := 0) (by decide)) rfl dX7_shop_93 ?_
              refine gx_iload C dX7_shop_96 rfl ?_
              refine gx_iload C dX7_shop_98 rfl ?_
              obtain ⟨S17, e18, h⟩ := gi_let h
              refine gs_iast (q := 22) C (ac_X_Standing_price hx a (q := 0) (by decide)) (lt_X_Standing_price (q := 0) (by decide)) hi14 e18 dX7_shop_100 ?_
              refine gx_iload C dX7_shop_101 rfl ?_
              exact gx_iret C F rfl dX7_shop_103 (Option.some.inj h)
          · have h := gi_f hc20 h
            refine gx_bipush (v := (-104)) C dX7_shop_57 (by decide) ?_
            exact gx_iret C F rfl dX7_shop_59 (Option.some.inj h)
        · have h := gi_f hc21 h
          refine gx_bipush (v := (-102)) C dX7_shop_42 (by decide) ?_
          exact gx_iret C F rfl dX7_shop_44 (Option.some.inj h)
  · have h := gi_f hc24 h
    refine gx_bipush (v := (-101)) C dX7_shop_8 (by decide) ?_
    exact gx_iret C F rfl dX7_shop_10 (Option.some.inj h)
def m_ShopsAsOne_isNoShop (x1 : Int32) (S : gx_S) : Option (Int32) := gx_cp (m_ShopsAsOne_isNot x1 0 ((S 1 1) - (1 : Int32)) S) fun v2 => gx_bz v2 (some v2)
set_option maxRecDepth 20000 in
set_option maxHeartbeats 1000000 in
theorem c_ShopsAsOne_isNoShop (l : Launch) (D : va_G) {cl : List vw_C} {tys : List (ClassId × FieldType)} {ι : Nat → ClassId} (hx : gx_std vwCl (gty ι) cl tys) (a : Nat → Nat) (x1 : Int32) (S : gx_S) {out : Int32} (h : m_ShopsAsOne_isNoShop x1 S = some out) : gx_mI l D cl tys yX7_isNoShop (.code yX7_isNoShop cX7_isNoShop 2 ((Option.some Jvm.ClassFile.FieldType.boolean)) :: gx_U) (gx_rm 1) [.ref (a 0), .int x1] (wX a ι S) (wX a ι) (out, S) := by
  unfold m_ShopsAsOne_isNoShop at h
  refine gx_startI (V := [.ref (a 0), .int x1]) 0 (by decide +kernel) (Nat.le_of_ble_eq_true rfl) rfl (fun Γ hl hD hcl hty hnL C F => ?_)
  subst hl; subst hD; subst hcl; subst hty
  refine gx_iload_1 C dX7_isNoShop_0 rfl ?_
  refine gx_iconst0 C dX7_isNoShop_1 ?_
  refine gx_aload_0 C dX7_isNoShop_2 rfl ?_
  refine gs_getf (q := 0) C fl_X7_10 (cls_X7 hx) lt_X_ShopsAsOne (oc_X_ShopsAsOne a ι _) rfl dX7_isNoShop_3 ?_
  refine gs_getf (q := 1) C fl_X7_175 (cls_X5 hx) lt_X_Street (oc_X_Street a ι _) rfl dX7_isNoShop_6 ?_
  refine gx_iconst1 C dX7_isNoShop_9 ?_
  refine gx_isub C dX7_isNoShop_10 ?_
  obtain ⟨v2, e1, h⟩ := gi_cp h
  refine gc_IS C (c_ShopsAsOne_isNot (gx_l Γ) (gx_D Γ) hx a _ _ _ _ e1) (gx_cwS C gx_uu lk_X7_72 (by decide) (by decide)) rfl rfl (Nat.le_of_ble_eq_true rfl) ⟨Nat.zero_le _, Nat.zero_le _⟩ dX7_isNoShop_11 ?_
  obtain ⟨hz3, h⟩ := gi_bz h
  exact gx_iret C F hz3.1 dX7_isNoShop_14 (congrArg (fun z => (z, S)) (Option.some.inj h))

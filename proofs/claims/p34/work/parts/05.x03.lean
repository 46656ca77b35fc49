def m_Joining_sortsHarmed_29 (k4 : Int32 × Int32 → Option (Int32)) (x1 : Int32) (x2 : Int32) (S : gx_S) : Option (Int32) := k4 (x1, (x2 + 1))
set_option maxRecDepth 20000 in
set_option maxHeartbeats 1000000 in
theorem b_Joining_sortsHarmed_29 {Γ : gx_T} {ι : Nat → ClassId} {a : Nat → Nat} {out : Int32} {S : gx_S} (hx : gx_std vwCl (gty ι) (gx_cl Γ) (gx_ty Γ)) (C : gx_ok Γ cX2_sortsHarmed RX2 gx_U 4) (F : gx_finI Γ ((Option.some Jvm.ClassFile.FieldType.int)) (wX a ι) (out, S) ∧ gx_nL Γ = 3) {k4 : Int32 × Int32 → Option (Int32)} {x1 : Int32} {x2 : Int32} (hk4 : ∀ (x17 : Int32) (x27 : Int32), k4 (x17, x27) = some out → gx_G Γ 0 0 4 [.ref (a 63), .int x17, .int x27] [] (wX a ι S)) (h : m_Joining_sortsHarmed_29 k4 x1 x2 S = some out) : gx_G Γ 0 0 29 [.ref (a 63), .int x1, .int x2] [] (wX a ι S) := by
  obtain ⟨F, hnL⟩ := F
  unfold m_Joining_sortsHarmed_29 at h
  refine gx_iinc1 C dX2_sortsHarmed_29 rfl (by rw [hnL]; decide) trivial ?_
  refine gx_goto (tgt := 4) C dX2_sortsHarmed_32 (by decide) ?_
  exact gx_weak (gx_le_k rfl (gx_le_k rfl (gx_le_k rfl gx_le_0))) (hk4 _ _ h)
def m_Joining_sortsHarmed_4 (S : gx_S) (t : Int32 × Int32) (k4 : Int32 × Int32 → Option (Int32)) : Option (Int32) := match t with
  | (x1, x2) => if (S 1 2) ≤ x2 then some x1 else gx_cp (m_Joining_dearerFor x2 S) fun v2 => if v2 ≤ 0 then m_Joining_sortsHarmed_29 k4 x1 x2 S else m_Joining_sortsHarmed_29 k4 (x1 ||| ((1 : Int32) <<< (x2 &&& 31))) x2 S
set_option maxRecDepth 20000 in
set_option maxHeartbeats 1000000 in
theorem b_Joining_sortsHarmed_4 {Γ : gx_T} {ι : Nat → ClassId} {a : Nat → Nat} {out : Int32} {S : gx_S} (hx : gx_std vwCl (gty ι) (gx_cl Γ) (gx_ty Γ)) (C : gx_ok Γ cX2_sortsHarmed RX2 gx_U 4) (F : gx_finI Γ ((Option.some Jvm.ClassFile.FieldType.int)) (wX a ι) (out, S) ∧ gx_nL Γ = 3) {k4 : Int32 × Int32 → Option (Int32)} {x1 : Int32} {x2 : Int32} (hk4 : ∀ (x17 : Int32) (x27 : Int32), k4 (x17, x27) = some out → gx_G Γ 0 0 4 [.ref (a 63), .int x17, .int x27] [] (wX a ι S)) (h : m_Joining_sortsHarmed_4 S (x1, x2) k4 = some out) : gx_G Γ 0 0 4 [.ref (a 63), .int x1, .int x2] [] (wX a ι S) := by
  obtain ⟨F, hnL⟩ := F
  unfold m_Joining_sortsHarmed_4 at h
  dsimp only at h
  refine gx_iload_2 C dX2_sortsHarmed_4 rfl ?_
  refine gx_aload_0 C dX2_sortsHarmed_5 rfl ?_
  refine gs_getf (q := 63) C fl_X2_15 (cls_X2 hx) lt_X_Joining (oc_X_Joining a ι _) rfl dX2_sortsHarmed_6 ?_
  refine gs_getf (q := 1) C fl_X2_45 (cls_X5 hx) lt_X_Street (oc_X_Street a ι _) rfl dX2_sortsHarmed_9 ?_
  refine gx_icmp_ge (tgt := 35) C dX2_sortsHarmed_12 (by decide) (fun hc4 => ?_) (fun hc4 => ?_)
  · have h := gi_t hc4 h
    refine gx_iload_1 C dX2_sortsHarmed_35 rfl ?_
    exact gx_iret C F rfl dX2_sortsHarmed_36 (congrArg (fun z => (z, S)) (Option.some.inj h))
  · have h := gi_f hc4 h
    refine gx_aload_0 C dX2_sortsHarmed_15 rfl ?_
    refine gx_iload_2 C dX2_sortsHarmed_16 rfl ?_
    obtain ⟨v2, e1, h⟩ := gi_cp h
    refine gc_IV C (c_Joining_dearerFor (gx_l Γ) (gx_D Γ) hx a _ _ e1) (gx_cw C gx_uu lk_X2_59 (by decide) (by decide)) (cls_X2 hx).1 (gs_recv (q := 63) lt_X_Joining (oc_X_Joining a ι _)) rfl rfl (Nat.le_of_ble_eq_true rfl) ⟨Nat.zero_le _, Nat.zero_le _⟩ dX2_sortsHarmed_17 ?_
    refine gx_if_le (tgt := 29) C dX2_sortsHarmed_20 (by decide) (fun hc3 => ?_) (fun hc3 => ?_)
    · have h := gi_t hc3 h
      exact gx_weak (gx_le_k rfl (gx_le_k rfl (gx_le_k rfl gx_le_0))) (b_Joining_sortsHarmed_29 hx C ⟨F, hnL⟩ hk4 h)
    · have h := gi_f hc3 h
      refine gx_iload_1 C dX2_sortsHarmed_23 rfl ?_
      refine gx_iconst1 C dX2_sortsHarmed_24 ?_
      refine gx_iload_2 C dX2_sortsHarmed_25 rfl ?_
      refine gx_ishl C dX2_sortsHarmed_26 ?_
      refine gx_ior C dX2_sortsHarmed_27 ?_
      refine gx_istore_1 C dX2_sortsHarmed_28 (by rw [hnL]; decide) trivial ?_
      exact gx_weak (gx_le_k rfl (gx_le_k rfl (gx_le_k rfl gx_le_0))) (b_Joining_sortsHarmed_29 hx C ⟨F, hnL⟩ hk4 h)
def m_Joining_sortsHarmed (S : gx_S) : Option (Int32) := gx_loop (m_Joining_sortsHarmed_4 S) 5000 (0, 0)
set_option maxRecDepth 20000 in
set_option maxHeartbeats 1000000 in
theorem c_Joining_sortsHarmed (l : Launch) (D : va_G) {cl : List vw_C} {tys : List (ClassId × FieldType)} {ι : Nat → ClassId} (hx : gx_std vwCl (gty ι) cl tys) (a : Nat → Nat) (S : gx_S) {out : Int32} (h : m_Joining_sortsHarmed  S = some out) : gx_mI l D cl tys yX2_sortsHarmed (.code yX2_sortsHarmed cX2_sortsHarmed 3 ((Option.some Jvm.ClassFile.FieldType.int)) :: gx_U) (gx_rm 4) [.ref (a 63)] (wX a ι S) (wX a ι) (out, S) := by
  unfold m_Joining_sortsHarmed at h
  refine gx_startI (V := [.ref (a 63), .null, .null]) 2 (by decide +kernel) (Nat.le_of_ble_eq_true rfl) rfl (fun Γ hl hD hcl hty hnL C F => ?_)
  subst hl; subst hD; subst hcl; subst hty
  refine gx_iconst0 C dX2_sortsHarmed_0 ?_
  refine gx_istore_1 C dX2_sortsHarmed_1 (by rw [hnL]; decide) trivial ?_
  refine gx_iconst0 C dX2_sortsHarmed_2 ?_
  refine gx_istore_2 C dX2_sortsHarmed_3 (by rw [hnL]; decide) trivial ?_
  refine gx_weak (gx_le_k rfl (gx_le_k rfl (gx_le_k rfl gx_le_0))) (gi_loop (P := fun t => gx_G Γ 0 0 4 [.ref (a 63), .int t.1, .int t.2] [] (wX a ι S)) (fun kk t hk h => ?_) 5000 _ h)
  obtain ⟨x19, x29⟩ := t
  exact b_Joining_sortsHarmed_4 hx C ⟨F, hnL⟩ (k4 := kk) (fun x18 x28 h => hk (x18, x28) h) h
def m_Joining_harmOf (r1 : Nat) (x2 : Int32) (x3 : Int32) (S : gx_S) : Option (Int32 × gx_S) := gx_cp (m_Standing_become 4 r1 S) fun S2 => gx_cp (m_Standing_give 4 x3 x2 S2) fun S4 => gx_cs (m_Bests_settle 4 S4) fun v7 S6 => if v7 = (-1) then some ((-1), S6) else gx_cp (m_Joining_harmInAll S6) fun v9 => some (v9, S6)
set_option maxRecDepth 20000 in
set_option maxHeartbeats 1000000 in
theorem c_Joining_harmOf (l : Launch) (D : va_G) {cl : List vw_C} {tys : List (ClassId × FieldType)} {ι : Nat → ClassId} (hx : gx_std vwCl (gty ι) cl tys) (a : Nat → Nat) {r1 : Nat} (hr1 : r1 < 5) (x2 : Int32) (x3 : Int32) (S : gx_S) {out : Int32 × gx_S} (h : m_Joining_harmOf r1 x2 x3 S = some out) : gx_mI l D cl tys yX2_harmOf (.code yX2_harmOf cX2_harmOf 4 ((Option.some Jvm.ClassFile.FieldType.int)) :: gx_U) (gx_rm 10) [.ref (a 63), .ref (a (21 + 4 * r1)), .int x2, .int x3] (wX a ι S) (wX a ι) out := by
  unfold m_Joining_harmOf at h
  refine gx_startI (V := [.ref (a 63), .ref (a (21 + 4 * r1)), .int x2, .int x3]) 0 (by decide +kernel) (Nat.le_of_ble_eq_true rfl) rfl (fun Γ hl hD hcl hty hnL C F => ?_)
  subst hl; subst hD; subst hcl; subst hty
  refine gx_aload_0 C dX2_harmOf_0 rfl ?_
  refine gs_getf (q := 63) C fl_X2_32 (cls_X2 hx) lt_X_Joining (oc_X_Joining a ι _) rfl dX2_harmOf_1 ?_
  refine gx_aload_1 C dX2_harmOf_4 rfl ?_
  obtain ⟨S2, e1, h⟩ := gi_cp h
  refine gc_VV C (c_Standing_become (gx_l Γ) (gx_D Γ) hx a (r := 4) (r1 := r1) (by decide) hr1 _ e1) (gx_cw C gx_uu lk_X2_35 (by decide) (by decide)) (cls_X4 hx).1 (gs_recv (q := 37) (lt_X_Standing (q := 4) (by decide)) (oc_X_Standing a ι _ (q := 4) (by decide))) rfl rfl (Nat.le_of_ble_eq_true rfl) ⟨Nat.zero_le _, Nat.zero_le _⟩ dX2_harmOf_5 ?_
  refine gx_aload_0 C dX2_harmOf_8 rfl ?_
  refine gs_getf (q := 63) C fl_X2_32 (cls_X2 hx) lt_X_Joining (oc_X_Joining a ι _) rfl dX2_harmOf_9 ?_
  refine gx_iload_3 C dX2_harmOf_12 rfl ?_
  refine gx_iload_2 C dX2_harmOf_13 rfl ?_
  obtain ⟨S4, e3, h⟩ := gi_cp h
  refine gc_VV C (c_Standing_give (gx_l Γ) (gx_D Γ) hx a (r := 4) (by decide) _ _ _ e3) (gx_cw C gx_uu lk_X2_55 (by decide) (by decide)) (cls_X4 hx).1 (gs_recv (q := 37) (lt_X_Standing (q := 4) (by decide)) (oc_X_Standing a ι _ (q := 4) (by decide))) rfl rfl (Nat.le_of_ble_eq_true rfl) ⟨Nat.zero_le _, Nat.zero_le _⟩ dX2_harmOf_14 ?_
  refine gx_aload_0 C dX2_harmOf_17 rfl ?_
  refine gs_getf (q := 63) C fl_X2_19 (cls_X2 hx) lt_X_Joining (oc_X_Joining a ι _) rfl dX2_harmOf_18 ?_
  refine gx_aload_0 C dX2_harmOf_21 rfl ?_
  refine gs_getf (q := 63) C fl_X2_32 (cls_X2 hx) lt_X_Joining (oc_X_Joining a ι _) rfl dX2_harmOf_22 ?_
  obtain ⟨v7, S6, e5, h⟩ := gi_cs h
  refine gc_IV C (c_Bests_settle (gx_l Γ) (gx_D Γ) hx a (r1 := 4) (by decide) _ e5) (gx_cw C gx_uu lk_X2_39 (by decide) (by decide)) (cls_X0 hx).1 (gs_recv (q := 41) lt_X_Bests (oc_X_Bests a ι _)) rfl rfl (Nat.le_of_ble_eq_true rfl) ⟨Nat.zero_le _, Nat.zero_le _⟩ dX2_harmOf_25 ?_
  refine gx_iconstm1 C dX2_harmOf_28 ?_
  refine gx_icmp_ne (tgt := 36) C dX2_harmOf_29 (by decide) (fun hc10 => ?_) (fun hc10 => ?_)
  · have h := gi_f hc10 h
    refine gx_aload_0 C dX2_harmOf_36 rfl ?_
    obtain ⟨v9, e8, h⟩ := gi_cp h
    refine gc_IV C (c_Joining_harmInAll (gx_l Γ) (gx_D Γ) hx a _ e8) (gx_cw C gx_uu lk_X2_71 (by decide) (by decide)) (cls_X2 hx).1 (gs_recv (q := 63) lt_X_Joining (oc_X_Joining a ι _)) rfl rfl (Nat.le_of_ble_eq_true rfl) ⟨Nat.zero_le _, Nat.zero_le _⟩ dX2_harmOf_37 ?_
    exact gx_iret C F rfl dX2_harmOf_40 (Option.some.inj h)
  · have h := gi_t hc10 h
    refine gx_iconstm1 C dX2_harmOf_32 ?_
    refine gx_goto (tgt := 40) C dX2_harmOf_33 (by decide) ?_
    exact gx_iret C F rfl dX2_harmOf_40 (Option.some.inj h)
def m_Joining_dearestWhenSold_55 (r1 : Nat) (k20 : Int32 × gx_S → Option (Int32 × gx_S)) (x4 : Int32) (x5 : Int32) (x6 : Int32) (S : gx_S) : Option (Int32 × gx_S) := k20 ((x6 + 1), S)
set_option maxRecDepth 20000 in
set_option maxHeartbeats 1000000 in
theorem b_Joining_dearestWhenSold_55 {Γ : gx_T} {ι : Nat → ClassId} {a : Nat → Nat} {r1 : Nat} {out : Int32 × gx_S} (hx : gx_std vwCl (gty ι) (gx_cl Γ) (gx_ty Γ)) (hr1 : r1 < 5) (C : gx_ok Γ cX2_dearestWhenSold RX2 gx_U 10) (F : gx_finI Γ ((Option.some Jvm.ClassFile.FieldType.int)) (wX a ι) out ∧ gx_nL Γ = 8) {k20 : Int32 × gx_S → Option (Int32 × gx_S)} {x4 : Int32} {x5 : Int32} {x6 : Int32} {S : gx_S} (hk20 : ∀ (x67 : Int32) (S7 : gx_S), k20 (x67, S7) = some out → gx_G Γ 0 0 20 [.ref (a 63), .ref (a (21 + 4 * r1)), .null, .null, .int x4, .int x5, .int x67, .null] [] (wX a ι S7)) (h : m_Joining_dearestWhenSold_55 r1 k20 x4 x5 x6 S = some out) : gx_G Γ 0 0 55 [.ref (a 63), .ref (a (21 + 4 * r1)), .null, .null, .int x4, .int x5, .int x6, .null] [] (wX a ι S) := by
  obtain ⟨F, hnL⟩ := F
  unfold m_Joining_dearestWhenSold_55 at h
  refine gx_iinc1 C dX2_dearestWhenSold_55 rfl (by rw [hnL]; decide) trivial ?_
  refine gx_goto (tgt := 20) C dX2_dearestWhenSold_58 (by decide) ?_
  exact gx_weak (gx_le_k rfl (gx_le_k rfl (gx_le_n (gx_le_n (gx_le_k rfl (gx_le_k rfl (gx_le_k rfl (gx_le_n gx_le_0)))))))) (hk20 _ _ h)
def m_Joining_dearestWhenSold_85 (r1 : Nat) (S : gx_S) (t : Int32 × Int32) (k85 : Int32 × Int32 → Option (Int32 × gx_S)) : Option (Int32 × gx_S) := match t with
  | (x6, x7) => if (S 1 2) ≤ x7 then some (x6, S) else gx_cp (m_Joining_dearerFor x7 S) fun v2 => k85 ((if x6 < v2 then v2 else x6), (x7 + 1))
set_option maxRecDepth 20000 in
set_option maxHeartbeats 1000000 in
theorem b_Joining_dearestWhenSold_85 {Γ : gx_T} {ι : Nat → ClassId} {a : Nat → Nat} {r1 : Nat} {out : Int32 × gx_S} (hx : gx_std vwCl (gty ι) (gx_cl Γ) (gx_ty Γ)) (hr1 : r1 < 5) (C : gx_ok Γ cX2_dearestWhenSold RX2 gx_U 10) (F : gx_finI Γ ((Option.some Jvm.ClassFile.FieldType.int)) (wX a ι) out ∧ gx_nL Γ = 8) {k85 : Int32 × Int32 → Option (Int32 × gx_S)} {x6 : Int32} {x7 : Int32} {S : gx_S} (hk85 : ∀ (x67 : Int32) (x77 : Int32), k85 (x67, x77) = some out → gx_G Γ 0 0 85 [.ref (a 63), .ref (a (21 + 4 * r1)), .null, .null, .null, .null, .int x67, .int x77] [] (wX a ι S)) (h : m_Joining_dearestWhenSold_85 r1 S (x6, x7) k85 = some out) : gx_G Γ 0 0 85 [.ref (a 63), .ref (a (21 + 4 * r1)), .null, .null, .null, .null, .int x6, .int x7] [] (wX a ι S) := by
  obtain ⟨F, hnL⟩ := F
  unfold m_Joining_dearestWhenSold_85 at h
  dsimp only at h
  refine gx_iload C dX2_dearestWhenSold_85 rfl ?_
  refine gx_aload_0 C dX2_dearestWhenSold_87 rfl ?_
  refine gs_getf (q := 63) C fl_X2_15 (cls_X2 hx) lt_X_Joining (oc_X_Joining a ι _) rfl dX2_dearestWhenSold_88 ?_
  refine gs_getf (q := 1) C fl_X2_45 (cls_X5 hx) lt_X_Street (oc_X_Street a ι _) rfl dX2_dearestWhenSold_91 ?_
  refine gx_icmp_ge (tgt := 116) C dX2_dearestWhenSold_94 (by decide) (fun hc3 => ?_) (fun hc3 => ?_)
  · have h := gi_t hc3 h
    refine gx_iload C dX2_dearestWhenSold_116 rfl ?_
    exact gx_iret C F rfl dX2_dearestWhenSold_118 (Option.some.inj h)
  · have h := gi_f hc3 h
    refine gx_iload C dX2_dearestWhenSold_97 rfl ?_
    refine gx_aload_0 C dX2_dearestWhenSold_99 rfl ?_
    refine gx_iload C dX2_dearestWhenSold_100 rfl ?_
    obtain ⟨v2, e1, h⟩ := gi_cp h
    refine gc_IV C (c_Joining_dearerFor (gx_l Γ) (gx_D Γ) hx a _ _ e1) (gx_cw C gx_uu lk_X2_59 (by decide) (by decide)) (cls_X2 hx).1 (gs_recv (q := 63) lt_X_Joining (oc_X_Joining a ι _)) rfl rfl (Nat.le_of_ble_eq_true rfl) ⟨Nat.zero_le _, Nat.zero_le _⟩ dX2_dearestWhenSold_102 ?_
    refine gx_mmax C (by decide) lk_X2_62 (Nat.le_of_ble_eq_true rfl) ⟨Nat.zero_le _, Nat.zero_le _⟩ dX2_dearestWhenSold_105 ?_
    refine gx_istore C dX2_dearestWhenSold_108 (by rw [hnL]; decide) trivial ?_
    refine gx_iinc1 C dX2_dearestWhenSold_110 rfl (by rw [hnL]; decide) trivial ?_
    refine gx_goto (tgt := 85) C dX2_dearestWhenSold_113 (by decide) ?_
    exact gx_weak (gx_le_k rfl (gx_le_k rfl (gx_le_n (gx_le_n (gx_le_n (gx_le_n (gx_le_k rfl (gx_le_k rfl gx_le_0)))))))) (hk85 _ _ h)
def m_Joining_dearestWhenSold_20 (r1 : Nat) (x4 : Int32) (x5 : Int32) (t : Int32 × gx_S) (k20 : Int32 × gx_S → Option (Int32 × gx_S)) : Option (Int32 × gx_S) := match t with
  | (x6, S) => if (S 1 1) ≤ x6 then gx_cs (m_Bests_settle 4 S) fun v3 S2 => if v3 = (-1) then some (1000000, S2) else gx_loop (m_Joining_dearestWhenSold_85 r1 S2) 5000 (0, 0) else if ((x5 >>> (x6 &&& 31)) &&& (1 : Int32)) = 1 then gx_ck 6 x6 (gx_let (gx_st S 39 x6.toNatClampNeg x4) fun S6 => m_Joining_dearestWhenSold_55 r1 k20 x4 x5 x6 S6) else m_Joining_dearestWhenSold_55 r1 k20 x4 x5 x6 S
set_option maxRecDepth 20000 in
set_option maxHeartbeats 1000000 in
theorem b_Joining_dearestWhenSold_20 {Γ : gx_T} {ι : Nat → ClassId} {a : Nat → Nat} {r1 : Nat} {out : Int32 × gx_S} (hx : gx_std vwCl (gty ι) (gx_cl Γ) (gx_ty Γ)) (hr1 : r1 < 5) (C : gx_ok Γ cX2_dearestWhenSold RX2 gx_U 10) (F : gx_finI Γ ((Option.some Jvm.ClassFile.FieldType.int)) (wX a ι) out ∧ gx_nL Γ = 8) {k20 : Int32 × gx_S → Option (Int32 × gx_S)} {x4 : Int32} {x5 : Int32} {x6 : Int32} {S : gx_S} (hk20 : ∀ (x67 : Int32) (S7 : gx_S), k20 (x67, S7) = some out → gx_G Γ 0 0 20 [.ref (a 63), .ref (a (21 + 4 * r1)), .null, .null, .int x4, .int x5, .int x67, .null] [] (wX a ι S7)) (h : m_Joining_dearestWhenSold_20 r1 x4 x5 (x6, S) k20 = some out) : gx_G Γ 0 0 20 [.ref (a 63), .ref (a (21 + 4 * r1)), .null, .null, .int x4, .int x5, .int x6, .null] [] (wX a ι S) := by
  obtain ⟨F, hnL⟩ := F
  unfold m_Joining_dearestWhenSold_20 at h
  dsimp only at h
  refine gx_iload C dX2_dearestWhenSold_20 rfl ?_
  refine gx_aload_0 C dX2_dearestWhenSold_22 rfl ?_
  refine gs_getf (q := 63) C fl_X2_15 (cls_X2 hx) lt_X_Joining (oc_X_Joining a ι _) rfl dX2_dearestWhenSold_23 ?_
  refine gs_getf (q := 1) C fl_X2_75 (cls_X5 hx) lt_X_Street (oc_X_Street a ι _) rfl dX2_dearestWhenSold_26 ?_
  refine gx_icmp_ge (tgt := 61) C dX2_dearestWhenSold_29 (by decide) (fun hc9 => ?_) (fun hc9 => ?_)
  · have h := gi_t hc9 h
    refine gx_aload_0 C dX2_dearestWhenSold_61 rfl ?_
    refine gs_getf (q := 63) C fl_X2_19 (cls_X2 hx) lt_X_Joining (oc_X_Joining a ι _) rfl dX2_dearestWhenSold_62 ?_
    refine gx_aload_0 C dX2_dearestWhenSold_65 rfl ?_
    refine gs_getf (q := 63) C fl_X2_32 (cls_X2 hx) lt_X_Joining (oc_X_Joining a ι _) rfl dX2_dearestWhenSold_66 ?_
    obtain ⟨v3, S2, e1, h⟩ := gi_cs h
    refine gc_IV C (c_Bests_settle (gx_l Γ) (gx_D Γ) hx a (r1 := 4) (by decide) _ e1) (gx_cw C gx_uu lk_X2_39 (by decide) (by decide)) (cls_X0 hx).1 (gs_recv (q := 41) lt_X_Bests (oc_X_Bests a ι _)) rfl rfl (Nat.le_of_ble_eq_true rfl) ⟨Nat.zero_le _, Nat.zero_le _⟩ dX2_dearestWhenSold_69 ?_
    refine gx_iconstm1 C dX2_dearestWhenSold_72 ?_
    refine gx_icmp_ne (tgt := 79) C dX2_dearestWhenSold_73 (by decide) (fun hc4 => ?_) (fun hc4 => ?_)
    · have h := gi_f hc4 h
      refine gx_iconst0 C dX2_dearestWhenSold_79 ?_
      refine gx_istore C dX2_dearestWhenSold_80 (by rw [hnL]; decide) trivial ?_
      refine gx_iconst0 C dX2_dearestWhenSold_82 ?_
      refine gx_istore C dX2_dearestWhenSold_83 (by rw [hnL]; decide) trivial ?_
      refine gx_weak (gx_le_k rfl (gx_le_k rfl (gx_le_n (gx_le_n (gx_le_n (gx_le_n (gx_le_k rfl (gx_le_k rfl gx_le_0)))))))) (gi_loop (P := fun t => gx_G Γ 0 0 85 [.ref (a 63), .ref (a (21 + 4 * r1)), .null, .null, .null, .null, .int t.1, .int t.2] [] (wX a ι S2)) (fun kk t hk h => ?_) 5000 _ h)
      obtain ⟨x69, x79⟩ := t
      exact b_Joining_dearestWhenSold_85 hx hr1 C ⟨F, hnL⟩ (k85 := kk) (fun x68 x78 h => hk (x68, x78) h) h
    · have h := gi_t hc4 h
      refine gx_ldc (v := 1000000) C dX2_dearestWhenSold_76 kX2_81 ?_
      exact gx_iret C F rfl dX2_dearestWhenSold_78 (Option.some.inj h)
  · have h := gi_f hc9 h
    refine gx_iload C dX2_dearestWhenSold_32 rfl ?_
    refine gx_iload C dX2_dearestWhenSold_34 rfl ?_
    refine gx_ishr C dX2_dearestWhenSold_36 ?_
    refine gx_iconst1 C dX2_dearestWhenSold_37 ?_
    refine gx_iand C dX2_dearestWhenSold_38 ?_
    refine gx_iconst1 C dX2_dearestWhenSold_39 ?_
    refine gx_icmp_ne (tgt := 55) C dX2_dearestWhenSold_40 (by decide) (fun hc8 => ?_) (fun hc8 => ?_)
    · have h := gi_f hc8 h
      exact gx_weak (gx_le_k rfl (gx_le_k rfl (gx_le_n (gx_le_n (gx_le_k rfl (gx_le_k rfl (gx_le_k rfl (gx_le_n gx_le_0)))))))) (b_Joining_dearestWhenSold_55 hx hr1 C ⟨F, hnL⟩ hk20 h)
    · have h := gi_t hc8 h
      refine gx_aload_0 C dX2_dearestWhenSold_43 rfl ?_
      refine gs_getf (q := 63) C fl_X2_32 (cls_X2 hx) lt_X_Joining (oc_X_Joining a ι _) rfl dX2_dearestWhenSold_44 ?_
      refine gs_getf (q := 37) C fl_X2_78 (cls_X4 hx) (lt_X_Standing (q := 4) (by decide)) (oc_X_Standing a ι _ (q := 4) (by decide)) rfl dX2_dearestWhenSold_47 ?_
      refine gx_iload C dX2_dearestWhenSold_50 rfl ?_
      refine gx_iload C dX2_dearestWhenSold_52 rfl ?_
      obtain ⟨hi5, h⟩ := gi_ck h
      obtain ⟨S6, e7, h⟩ := gi_let h
      refine gs_iast (q := 39) C (ac_X_Standing_whose hx a (q := 4) (by decide)) (lt_X_Standing_whose (q := 4) (by decide)) hi5 e7 dX2_dearestWhenSold_54 ?_
      exact gx_weak (gx_le_k rfl (gx_le_k rfl (gx_le_n (gx_le_n (gx_le_k rfl (gx_le_k rfl (gx_le_k rfl (gx_le_n gx_le_0)))))))) (b_Joining_dearestWhenSold_55 hx hr1 C ⟨F, hnL⟩ hk20 h)
def m_Joining_dearestWhenSold (r1 : Nat) (x2 : Int32) (x3 : Int32) (x4 : Int32) (x5 : Int32) (S : gx_S) : Option (Int32 × gx_S) := gx_cp (m_Standing_become 4 r1 S) fun S2 => gx_cp (m_Standing_give 4 x3 x2 S2) fun S4 => gx_loop (m_Joining_dearestWhenSold_20 r1 x4 x5) 5000 (0, S4)
set_option maxRecDepth 20000 in
set_option maxHeartbeats 1000000 in
theorem c_Joining_dearestWhenSold (l : Launch) (D : va_G) {cl : List vw_C} {tys : List (ClassId × FieldType)} {ι : Nat → ClassId} (hx : gx_std vwCl (gty ι) cl tys) (a : Nat → Nat) {r1 : Nat} (hr1 : r1 < 5) (x2 : Int32) (x3 : Int32) (x4 : Int32) (x5 : Int32) (S : gx_S) {out : Int32 × gx_S} (h : m_Joining_dearestWhenSold r1 x2 x3 x4 x5 S = some out) : gx_mI l D cl tys yX2_dearestWhenSold (.code yX2_dearestWhenSold cX2_dearestWhenSold 8 ((Option.some Jvm.ClassFile.FieldType.int)) :: gx_U) (gx_rm 10) [.ref (a 63), .ref (a (21 + 4 * r1)), .int x2, .int x3, .int x4, .int x5] (wX a ι S) (wX a ι) out := by
  unfold m_Joining_dearestWhenSold at h
  refine gx_startI (V := [.ref (a 63), .ref (a (21 + 4 * r1)), .int x2, .int x3, .int x4, .int x5, .null, .null]) 2 (by decide +kernel) (Nat.le_of_ble_eq_true rfl) rfl (fun Γ hl hD hcl hty hnL C F => ?_)
  subst hl; subst hD; subst hcl; subst hty
  refine gx_aload_0 C dX2_dearestWhenSold_0 rfl ?_
  refine gs_getf (q := 63) C fl_X2_32 (cls_X2 hx) lt_X_Joining (oc_X_Joining a ι _) rfl dX2_dearestWhenSold_1 ?_
  refine gx_aload_1 C dX2_dearestWhenSold_4 rfl ?_
  obtain ⟨S2, e1, h⟩ := gi_cp h
  refine gc_VV C (c_Standing_become (gx_l Γ) (gx_D Γ) hx a (r := 4) (r1 := r1) (by decide) hr1 _ e1) (gx_cw C gx_uu lk_X2_35 (by decide) (by decide)) (cls_X4 hx).1 (gs_recv (q := 37) (lt_X_Standing (q := 4) (by decide)) (oc_X_Standing a ι _ (q := 4) (by decide))) rfl rfl (Nat.le_of_ble_eq_true rfl) ⟨Nat.zero_le _, Nat.zero_le _⟩ dX2_dearestWhenSold_5 ?_
  refine gx_aload_0 C dX2_dearestWhenSold_8 rfl ?_
  refine gs_getf (q := 63) C fl_X2_32 (cls_X2 hx) lt_X_Joining (oc_X_Joining a ι _) rfl dX2_dearestWhenSold_9 ?_
  refine gx_iload_3 C dX2_dearestWhenSold_12 rfl ?_
  refine gx_iload_2 C dX2_dearestWhenSold_13 rfl ?_
  obtain ⟨S4, e3, h⟩ := gi_cp h
  refine gc_VV C (c_Standing_give (gx_l Γ) (gx_D Γ) hx a (r := 4) (by decide) _ _ _ e3) (gx_cw C gx_uu lk_X2_55 (by decide) (by decide)) (cls_X4 hx).1 (gs_recv (q := 37) (lt_X_Standing (q := 4) (by decide)) (oc_X_Standing a ι _ (q := 4) (by decide))) rfl rfl (Nat.le_of_ble_eq_true rfl) ⟨Nat.zero_le _, Nat.zero_le _⟩ dX2_dearestWhenSold_14 ?_
  refine gx_iconst0 C dX2_dearestWhenSold_17 ?_
  refine gx_istore C dX2_dearestWhenSold_18 (by rw [hnL]; decide) trivial ?_
  refine gx_weak (gx_le_k rfl (gx_le_k rfl (gx_le_n (gx_le_n (gx_le_k rfl (gx_le_k rfl (gx_le_k rfl (gx_le_n gx_le_0)))))))) (gi_loop (P := fun t => gx_G Γ 0 0 20 [.ref (a 63), .ref (a (21 + 4 * r1)), .null, .null, .int x4, .int x5, .int t.1, .null] [] (wX a ι t.2)) (fun kk t hk h => ?_) 5000 _ h)
  obtain ⟨x69, S'9⟩ := t
  exact b_Joining_dearestWhenSold_20 hx hr1 C ⟨F, hnL⟩ (k20 := kk) (fun x68 S'8 h => hk (x68, S'8) h) h
def m_Judge_countSold_69 (r1 : Nat) (k23 : Int32 × gx_S → Option (gx_S)) (x2 : Int32) (S : gx_S) : Option (gx_S) := k23 ((x2 + 1), S)
set_option maxRecDepth 20000 in
set_option maxHeartbeats 1000000 in
theorem b_Judge_countSold_69 {Γ : gx_T} {ι : Nat → ClassId} {a : Nat → Nat} {r1 : Nat} {out : gx_S} (hx : gx_std vwCl (gty ι) (gx_cl Γ) (gx_ty Γ)) (hr1 : r1 < 5) (C : gx_ok Γ cX3_countSold RX3 gx_U 2) (F : gx_finV Γ ((Option.none : Option Jvm.ClassFile.FieldType)) (wX a ι) out ∧ gx_nL Γ = 4) {k23 : Int32 × gx_S → Option (gx_S)} {x2 : Int32} {S : gx_S} (hk23 : ∀ (x27 : Int32) (S7 : gx_S), k23 (x27, S7) = some out → gx_G Γ 0 0 23 [.ref (a 77), .ref (a (21 + 4 * r1)), .int x27, .null] [] (wX a ι S7)) (h : m_Judge_countSold_69 r1 k23 x2 S = some out) : gx_G Γ 0 0 69 [.ref (a 77), .ref (a (21 + 4 * r1)), .int x2, .null] [] (wX a ι S) := by
  obtain ⟨F, hnL⟩ := F
  unfold m_Judge_countSold_69 at h
  refine gx_iinc1 C dX3_countSold_69 rfl (by rw [hnL]; decide) trivial ?_
  refine gx_goto (tgt := 23) C dX3_countSold_72 (by decide) ?_
  exact gx_weak (gx_le_k rfl (gx_le_k rfl (gx_le_k rfl (gx_le_n gx_le_0)))) (hk23 _ _ h)
def m_Judge_countSold_23 (r1 : Nat) (t : Int32 × gx_S) (k23 : Int32 × gx_S → Option (gx_S)) : Option (gx_S) := match t with
  | (x2, S) => if (S 1 2) ≤ x2 then some S else gx_cp (m_Standing_choice r1 x2 (-1) S) fun v2 => if v2 = (-1) then m_Judge_countSold_69 r1 k23 x2 S else gx_ck 6 v2 (gx_ck 6 (S (21 + 4 * r1 + 2) v2.toNatClampNeg) (gx_ck 8 x2 (gx_let (gx_st S 78 (S (21 + 4 * r1 + 2) v2.toNatClampNeg).toNatClampNeg ((S 78 (S (21 + 4 * r1 + 2) v2.toNatClampNeg).toNatClampNeg) + (S 7 x2.toNatClampNeg))) fun S6 => m_Judge_countSold_69 r1 k23 x2 S6)))
set_option maxRecDepth 20000 in
set_option maxHeartbeats 1000000 in
theorem b_Judge_countSold_23 {Γ : gx_T} {ι : Nat → ClassId} {a : Nat → Nat} {r1 : Nat} {out : gx_S} (hx : gx_std vwCl (gty ι) (gx_cl Γ) (gx_ty Γ)) (hr1 : r1 < 5) (C : gx_ok Γ cX3_countSold RX3 gx_U 2) (F : gx_finV Γ ((Option.none : Option Jvm.ClassFile.FieldType)) (wX a ι) out ∧ gx_nL Γ = 4) {k23 : Int32 × gx_S → Option (gx_S)} {x2 : Int32} {S : gx_S} (hk23 : ∀ (x27 : Int32) (S7 : gx_S), k23 (x27, S7) = some out → gx_G Γ 0 0 23 [.ref (a 77), .ref (a (21 + 4 * r1)), .int x27, .null] [] (wX a ι S7)) (h : m_Judge_countSold_23 r1 (x2, S) k23 = some out) : gx_G Γ 0 0 23 [.ref (a 77), .ref (a (21 + 4 * r1)), .int x2, .null] [] (wX a ι S) := by
  obtain ⟨F, hnL⟩ := F
  unfold m_Judge_countSold_23 at h
  dsimp only at h
  refine gx_iload_2 C dX3_countSold_23 rfl ?_
  refine gx_aload_0 C dX3_countSold_24 rfl ?_
  refine gs_getf (q := 77) C fl_X3_25 (cls_X3 hx) lt_X_Judge (oc_X_Judge a ι _) rfl dX3_countSold_25 ?_
  refine gs_getf (q := 1) C fl_X3_59 (cls_X5 hx) lt_X_Street (oc_X_Street a ι _) rfl dX3_countSold_28 ?_
  refine gx_icmp_ge (tgt := 75) C dX3_countSold_31 (by decide) (fun hc9 => ?_) (fun hc9 => ?_)
  · have h := gi_t hc9 h
    exact gx_vret C F dX3_countSold_75 (Option.some.inj h)
  · have h := gi_f hc9 h
    refine gx_aload_1 C dX3_countSold_34 rfl ?_
    refine gx_iload_2 C dX3_countSold_35 rfl ?_
    refine gx_iconstm1 C dX3_countSold_36 ?_
    obtain ⟨v2, e1, h⟩ := gi_cp h
    refine gc_IV C (c_Standing_choice (gx_l Γ) (gx_D Γ) hx a (r := r1) hr1 _ _ _ e1) (gx_cw C gx_uu lk_X3_62 (by decide) (by decide)) (cls_X4 hx).1 (gs_recv (q := (21 + 4 * r1)) (lt_X_Standing (q := r1) hr1) (oc_X_Standing a ι _ (q := r1) hr1)) rfl rfl (Nat.le_of_ble_eq_true rfl) ⟨Nat.zero_le _, Nat.zero_le _⟩ dX3_countSold_37 ?_
    refine gx_istore_3 C dX3_countSold_40 (by rw [hnL]; decide) trivial ?_
    refine gx_iload_3 C dX3_countSold_41 rfl ?_
    refine gx_iconstm1 C dX3_countSold_42 ?_
    refine gx_icmp_eq (tgt := 69) C dX3_countSold_43 (by decide) (fun hc8 => ?_) (fun hc8 => ?_)
    · have h := gi_t hc8 h
      exact gx_weak (gx_le_k rfl (gx_le_k rfl (gx_le_k rfl (gx_le_n gx_le_0)))) (b_Judge_countSold_69 hx hr1 C ⟨F, hnL⟩ hk23 h)
    · have h := gi_f hc8 h
      refine gx_aload_0 C dX3_countSold_46 rfl ?_
      refine gs_getf (q := 77) C fl_X3_9 (cls_X3 hx) lt_X_Judge (oc_X_Judge a ι _) rfl dX3_countSold_47 ?_
      refine gx_aload_1 C dX3_countSold_50 rfl ?_
      refine gs_getf (q := (21 + 4 * r1)) C fl_X3_67 (cls_X4 hx) (lt_X_Standing (q := r1) hr1) (oc_X_Standing a ι _ (q := r1) hr1) rfl dX3_countSold_51 ?_
      refine gx_iload_3 C dX3_countSold_54 rfl ?_
      obtain ⟨hi3, h⟩ := gi_ck h
      refine gs_iald (q := (21 + 4 * r1 + 2)) C (ac_X_Standing_whose hx a (q := r1) hr1) (lt_X_Standing_whose (q := r1) hr1) hi3 dX3_countSold_55 ?_
      refine gx_dup2 C dX3_countSold_56 rfl rfl ?_
      obtain ⟨hi4, h⟩ := gi_ck h
      refine gs_iald (q := 78) C (ac_X_Judge_sold hx a) lt_X_Judge_sold hi4 dX3_countSold_57 ?_
      refine gx_aload_0 C dX3_countSold_58 rfl ?_
      refine gs_getf (q := 77) C fl_X3_25 (cls_X3 hx) lt_X_Judge (oc_X_Judge a ι _) rfl dX3_countSold_59 ?_
      refine gs_getf (q := 1) C fl_X3_70 (cls_X5 hx) lt_X_Street (oc_X_Street a ι _) rfl dX3_countSold_62 ?_
      refine gx_iload_2 C dX3_countSold_65 rfl ?_
      obtain ⟨hi5, h⟩ := gi_ck h
      refine gs_iald (q := 7) C (ac_X_Street_many hx a) lt_X_Street_many hi5 dX3_countSold_66 ?_
      refine gx_iadd C dX3_countSold_67 ?_
      obtain ⟨S6, e7, h⟩ := gi_let h
      refine gs_iast (q := 78) C (ac_X_Judge_sold hx a) lt_X_Judge_sold hi4 e7 dX3_countSold_68 ?_
      exact gx_weak (gx_le_k rfl (gx_le_k rfl (gx_le_k rfl (gx_le_n gx_le_0)))) (b_Judge_countSold_69 hx hr1 C ⟨F, hnL⟩ hk23 h)
def m_Judge_countSold_2 (r1 : Nat) (t : Int32 × gx_S) (k2 : Int32 × gx_S → Option (gx_S)) : Option (gx_S) := match t with
  | (x2, S) => if 6 ≤ x2 then gx_loop (m_Judge_countSold_23 r1) 5000 (0, S) else gx_ck 6 x2 (gx_let (gx_st S 78 x2.toNatClampNeg 0) fun S2 => k2 ((x2 + 1), S2))
set_option maxRecDepth 20000 in
set_option maxHeartbeats 1000000 in
theorem b_Judge_countSold_2 {Γ : gx_T} {ι : Nat → ClassId} {a : Nat → Nat} {r1 : Nat} {out : gx_S} (hx : gx_std vwCl (gty ι) (gx_cl Γ) (gx_ty Γ)) (hr1 : r1 < 5) (C : gx_ok Γ cX3_countSold RX3 gx_U 2) (F : gx_finV Γ ((Option.none : Option Jvm.ClassFile.FieldType)) (wX a ι) out ∧ gx_nL Γ = 4) {k2 : Int32 × gx_S → Option (gx_S)} {x2 : Int32} {S : gx_S} (hk2 : ∀ (x27 : Int32) (S7 : gx_S), k2 (x27, S7) = some out → gx_G Γ 0 0 2 [.ref (a 77), .ref (a (21 + 4 * r1)), .int x27, .null] [] (wX a ι S7)) (h : m_Judge_countSold_2 r1 (x2, S) k2 = some out) : gx_G Γ 0 0 2 [.ref (a 77), .ref (a (21 + 4 * r1)), .int x2, .null] [] (wX a ι S) := by
  obtain ⟨F, hnL⟩ := F
  unfold m_Judge_countSold_2 at h
  dsimp only at h
  refine gx_iload_2 C dX3_countSold_2 rfl ?_
  refine gx_bipush (v := 6) C dX3_countSold_3 (by decide) ?_
  refine gx_icmp_ge (tgt := 21) C dX3_countSold_5 (by decide) (fun hc4 => ?_) (fun hc4 => ?_)
  · have h := gi_t hc4 h
    refine gx_iconst0 C dX3_countSold_21 ?_
    refine gx_istore_2 C dX3_countSold_22 (by rw [hnL]; decide) trivial ?_
    refine gx_weak (gx_le_k rfl (gx_le_k rfl (gx_le_k rfl (gx_le_n gx_le_0)))) (gi_loop (P := fun t => gx_G Γ 0 0 23 [.ref (a 77), .ref (a (21 + 4 * r1)), .int t.1, .null] [] (wX a ι t.2)) (fun kk t hk h => ?_) 5000 _ h)
    obtain ⟨x29, S'9⟩ := t
    exact b_Judge_countSold_23 hx hr1 C ⟨F, hnL⟩ (k23 := kk) (fun x28 S'8 h => hk (x28, S'8) h) h
  · have h := gi_f hc4 h
    refine gx_aload_0 C dX3_countSold_8 rfl ?_
    refine gs_getf (q := 77) C fl_X3_9 (cls_X3 hx) lt_X_Judge (oc_X_Judge a ι _) rfl dX3_countSold_9 ?_
    refine gx_iload_2 C dX3_countSold_12 rfl ?_
    refine gx_iconst0 C dX3_countSold_13 ?_
    obtain ⟨hi1, h⟩ := gi_ck h
    obtain ⟨S2, e3, h⟩ := gi_let h
    refine gs_iast (q := 78) C (ac_X_Judge_sold hx a) lt_X_Judge_sold hi1 e3 dX3_countSold_14 ?_
    refine gx_iinc1 C dX3_countSold_15 rfl (by rw [hnL]; decide) trivial ?_
    refine gx_goto (tgt := 2) C dX3_countSold_18 (by decide) ?_
    exact gx_weak (gx_le_k rfl (gx_le_k rfl (gx_le_k rfl (gx_le_n gx_le_0)))) (hk2 _ _ h)
def m_Judge_countSold (r1 : Nat) (S : gx_S) : Option (gx_S) := gx_loop (m_Judge_countSold_2 r1) 5000 (0, S)
set_option maxRecDepth 20000 in
set_option maxHeartbeats 1000000 in
theorem c_Judge_countSold (l : Launch) (D : va_G) {cl : List vw_C} {tys : List (ClassId × FieldType)} {ι : Nat → ClassId} (hx : gx_std vwCl (gty ι) cl tys) (a : Nat → Nat) {r1 : Nat} (hr1 : r1 < 5) (S : gx_S) {out : gx_S} (h : m_Judge_countSold r1  S = some out) : gx_mV l D cl tys yX3_countSold (.code yX3_countSold cX3_countSold 4 ((Option.none : Option Jvm.ClassFile.FieldType)) :: gx_U) (gx_rm 2) [.ref (a 77), .ref (a (21 + 4 * r1))] (wX a ι S) (wX a ι) out := by
  unfold m_Judge_countSold at h
  refine gx_startV (V := [.ref (a 77), .ref (a (21 + 4 * r1)), .null, .null]) 2 (by decide +kernel) (Nat.le_of_ble_eq_true rfl) rfl (fun Γ hl hD hcl hty hnL C F => ?_)
  subst hl; subst hD; subst hcl; subst hty
  refine gx_iconst0 C dX3_countSold_0 ?_
  refine gx_istore_2 C dX3_countSold_1 (by rw [hnL]; decide) trivial ?_
  refine gx_weak (gx_le_k rfl (gx_le_k rfl (gx_le_k rfl (gx_le_n gx_le_0)))) (gi_loop (P := fun t => gx_G Γ 0 0 2 [.ref (a 77), .ref (a (21 + 4 * r1)), .int t.1, .null] [] (wX a ι t.2)) (fun kk t hk h => ?_) 5000 _ h)
  obtain ⟨x29, S'9⟩ := t
  exact b_Judge_countSold_2 hx hr1 C ⟨F, hnL⟩ (k2 := kk) (fun x28 S'8 h => hk (x28, S'8) h) h
def m_Judge_hundredths (x0 : Int32) (x1 : Int32) (S : gx_S) : Option (Int32) := if x1 ≤ 0 then some 0 else gx_nz x1 (some (((100 : Int32) * x0) / x1))
set_option maxRecDepth 20000 in
set_option maxHeartbeats 1000000 in
theorem c_Judge_hundredths (l : Launch) (D : va_G) {cl : List vw_C} {tys : List (ClassId × FieldType)} {ι : Nat → ClassId} (hx : gx_std vwCl (gty ι) cl tys) (a : Nat → Nat) (x0 : Int32) (x1 : Int32) (S : gx_S) {out : Int32} (h : m_Judge_hundredths x0 x1 S = some out) : gx_mI l D cl tys yX3_hundredths (.code yX3_hundredths cX3_hundredths 2 ((Option.some Jvm.ClassFile.FieldType.int)) :: gx_U) (gx_rm 0) [.int x0, .int x1] (wX a ι S) (wX a ι) (out, S) := by
  unfold m_Judge_hundredths at h
  refine gx_startI (V := [.int x0, .int x1]) 0 (by decide +kernel) (Nat.le_of_ble_eq_true rfl) rfl (fun Γ hl hD hcl hty hnL C F => ?_)
  subst hl; subst hD; subst hcl; subst hty
  refine gx_iload_1 C dX3_hundredths_0 rfl ?_
  refine gx_if_le (tgt := 13) C dX3_hundredths_1 (by decide) (fun hc2 => ?_) (fun hc2 => ?_)
  · have h := gi_t hc2 h
    refine gx_iconst0 C dX3_hundredths_13 ?_
    exact gx_iret C F rfl dX3_hundredths_14 (congrArg (fun z => (z, S)) (Option.some.inj h))
  · have h := gi_f hc2 h
    refine gx_bipush (v := 100) C dX3_hundredths_4 (by decide) ?_
    refine gx_iload_0 C dX3_hundredths_6 rfl ?_
    refine gx_imul C dX3_hundredths_7 ?_
    refine gx_iload_1 C dX3_hundredths_8 rfl ?_
    obtain ⟨hz1, h⟩ := gi_nz h
    refine gx_idiv C dX3_hundredths_9 hz1 ?_
    refine gx_goto (tgt := 14) C dX3_hundredths_10 (by decide) ?_
    exact gx_iret C F rfl dX3_hundredths_14 (congrArg (fun z => (z, S)) (Option.some.inj h))
def m_Judge_leastDistance_117 (r1 : Nat) (k7 : Int32 × Int32 → Option (Int32)) (k22 : Int32 × Int32 → Option (Int32)) (x2 : Int32) (x3 : Int32) (x4 : Int32) (x5 : Int32) (x6 : Int32) (S : gx_S) : Option (Int32) := k22 (x4, (x6 + 1))
set_option maxRecDepth 20000 in
set_option maxHeartbeats 1000000 in
theorem b_Judge_leastDistance_117 {Γ : gx_T} {ι : Nat → ClassId} {a : Nat → Nat} {r1 : Nat} {out : Int32} {S : gx_S} (hx : gx_std vwCl (gty ι) (gx_cl Γ) (gx_ty Γ)) (hr1 : r1 < 5) (C : gx_ok Γ cX3_leastDistance RX3 gx_U 1) (F : gx_finI Γ ((Option.some Jvm.ClassFile.FieldType.int)) (wX a ι) (out, S) ∧ gx_nL Γ = 8) {k7 : Int32 × Int32 → Option (Int32)} {k22 : Int32 × Int32 → Option (Int32)} {x2 : Int32} {x3 : Int32} {x5 : Int32} {x4 : Int32} {x6 : Int32} (hk7 : ∀ (x47 : Int32) (x57 : Int32), k7 (x47, x57) = some out → gx_G Γ 0 0 7 [.ref (a 77), .ref (a (21 + 4 * r1)), .int x2, .int x3, .int x47, .int x57, .null, .null] [] (wX a ι S)) (hk22 : ∀ (x47 : Int32) (x67 : Int32), k22 (x47, x67) = some out → gx_G Γ 0 0 22 [.ref (a 77), .ref (a (21 + 4 * r1)), .int x2, .int x3, .int x47, .int x5, .int x67, .null] [] (wX a ι S)) (h : m_Judge_leastDistance_117 r1 k7 k22 x2 x3 x4 x5 x6 S = some out) : gx_G Γ 0 0 117 [.ref (a 77), .ref (a (21 + 4 * r1)), .int x2, .int x3, .int x4, .int x5, .int x6, .null] [] (wX a ι S) := by
  obtain ⟨F, hnL⟩ := F
  unfold m_Judge_leastDistance_117 at h
  refine gx_iinc1 C dX3_leastDistance_117 rfl (by rw [hnL]; decide) trivial ?_
  refine gx_goto (tgt := 22) C dX3_leastDistance_120 (by decide) ?_
  exact gx_weak (gx_le_k rfl (gx_le_k rfl (gx_le_k rfl (gx_le_k rfl (gx_le_k rfl (gx_le_k rfl (gx_le_k rfl (gx_le_n gx_le_0)))))))) (hk22 _ _ h)
def m_Judge_leastDistance_61 (r1 : Nat) (k7 : Int32 × Int32 → Option (Int32)) (k22 : Int32 × Int32 → Option (Int32)) (x2 : Int32) (x3 : Int32) (x4 : Int32) (x5 : Int32) (x6 : Int32) (s0 : Int32) (S : gx_S) : Option (Int32) := if s0 = 0 then m_Judge_leastDistance_117 r1 k7 k22 x2 x3 x4 x5 x6 S else gx_cp (m_Standing_isOpen r1 x5 S) fun v2 => if v2 = 0 then m_Judge_leastDistance_117 r1 k7 k22 x2 x3 x4 x5 x6 S else gx_cp (m_Standing_isOpen r1 x6 S) fun v4 => if v4 = 0 then m_Judge_leastDistance_117 r1 k7 k22 x2 x3 x4 x5 x6 S else gx_ck 6 x5 (gx_ck 6 x6 (m_Judge_leastDistance_117 r1 k7 k22 x2 x3 (if (if 0 ≤ ((S 4 x5.toNatClampNeg) - (S 4 x6.toNatClampNeg)) then ((S 4 x5.toNatClampNeg) - (S 4 x6.toNatClampNeg)) else 0 - ((S 4 x5.toNatClampNeg) - (S 4 x6.toNatClampNeg))) < x4 then (if 0 ≤ ((S 4 x5.toNatClampNeg) - (S 4 x6.toNatClampNeg)) then ((S 4 x5.toNatClampNeg) - (S 4 x6.toNatClampNeg)) else 0 - ((S 4 x5.toNatClampNeg) - (S 4 x6.toNatClampNeg))) else x4) x5 x6 S))
set_option maxRecDepth 20000 in
set_option maxHeartbeats 1000000 in
theorem b_Judge_leastDistance_61 {Γ : gx_T} {ι : Nat → ClassId} {a : Nat → Nat} {r1 : Nat} {out : Int32} {S : gx_S} (hx : gx_std vwCl (gty ι) (gx_cl Γ) (gx_ty Γ)) (hr1 : r1 < 5) (C : gx_ok Γ cX3_leastDistance RX3 gx_U 1) (F : gx_finI Γ ((Option.some Jvm.ClassFile.FieldType.int)) (wX a ι) (out, S) ∧ gx_nL Γ = 8) {k7 : Int32 × Int32 → Option (Int32)} {k22 : Int32 × Int32 → Option (Int32)} {x2 : Int32} {x3 : Int32} {x5 : Int32} {x4 : Int32} {x6 : Int32} {s0 : Int32} (hk7 : ∀ (x47 : Int32) (x57 : Int32), k7 (x47, x57) = some out → gx_G Γ 0 0 7 [.ref (a 77), .ref (a (21 + 4 * r1)), .int x2, .int x3, .int x47, .int x57, .null, .null] [] (wX a ι S)) (hk22 : ∀ (x47 : Int32) (x67 : Int32), k22 (x47, x67) = some out → gx_G Γ 0 0 22 [.ref (a 77), .ref (a (21 + 4 * r1)), .int x2, .int x3, .int x47, .int x5, .int x67, .null] [] (wX a ι S)) (h : m_Judge_leastDistance_61 r1 k7 k22 x2 x3 x4 x5 x6 s0 S = some out) : gx_G Γ 0 0 61 [.ref (a 77), .ref (a (21 + 4 * r1)), .int x2, .int x3, .int x4, .int x5, .int x6, .null] [.int s0] (wX a ι S) := by
  obtain ⟨F, hnL⟩ := F
  unfold m_Judge_leastDistance_61 at h
  refine gx_istore C dX3_leastDistance_61 (by rw [hnL]; decide) trivial ?_
  refine gx_iload C dX3_leastDistance_63 rfl ?_
  refine gx_if_eq (tgt := 117) C dX3_leastDistance_65 (by decide) (fun hc9 => ?_) (fun hc9 => ?_)
  · have h := gi_t hc9 h
    exact gx_weak (gx_le_k rfl (gx_le_k rfl (gx_le_k rfl (gx_le_k rfl (gx_le_k rfl (gx_le_k rfl (gx_le_k rfl (gx_le_n gx_le_0)))))))) (b_Judge_leastDistance_117 hx hr1 C ⟨F, hnL⟩ hk7 hk22 h)
  · have h := gi_f hc9 h
    refine gx_aload_1 C dX3_leastDistance_68 rfl ?_
    refine gx_iload C dX3_leastDistance_69 rfl ?_
    obtain ⟨v2, e1, h⟩ := gi_cp h
    refine gc_IV C (c_Standing_isOpen (gx_l Γ) (gx_D Γ) hx a (r := r1) hr1 _ _ e1) (gx_cw C gx_uu lk_X3_76 (by decide) (by decide)) (cls_X4 hx).1 (gs_recv (q := (21 + 4 * r1)) (lt_X_Standing (q := r1) hr1) (oc_X_Standing a ι _ (q := r1) hr1)) rfl rfl (Nat.le_of_ble_eq_true rfl) ⟨Nat.zero_le _, Nat.zero_le _⟩ dX3_leastDistance_71 ?_
    refine gx_if_eq (tgt := 117) C dX3_leastDistance_74 (by decide) (fun hc8 => ?_) (fun hc8 => ?_)
    · have h := gi_t hc8 h
      exact gx_weak (gx_le_k rfl (gx_le_k rfl (gx_le_k rfl (gx_le_k rfl (gx_le_k rfl (gx_le_k rfl (gx_le_k rfl (gx_le_n gx_le_0)))))))) (b_Judge_leastDistance_117 hx hr1 C ⟨F, hnL⟩ hk7 hk22 h)
    · have h := gi_f hc8 h
      refine gx_aload_1 C dX3_leastDistance_77 rfl ?_
      refine gx_iload C dX3_leastDistance_78 rfl ?_
      obtain ⟨v4, e3, h⟩ := gi_cp h
      refine gc_IV C (c_Standing_isOpen (gx_l Γ) (gx_D Γ) hx a (r := r1) hr1 _ _ e3) (gx_cw C gx_uu lk_X3_76 (by decide) (by decide)) (cls_X4 hx).1 (gs_recv (q := (21 + 4 * r1)) (lt_X_Standing (q := r1) hr1) (oc_X_Standing a ι _ (q := r1) hr1)) rfl rfl (Nat.le_of_ble_eq_true rfl) ⟨Nat.zero_le _, Nat.zero_le _⟩ dX3_leastDistance_80 ?_
      refine gx_if_eq (tgt := 117) C dX3_leastDistance_83 (by decide) (fun hc7 => ?_) (fun hc7 => ?_)
      · have h := gi_t hc7 h
        exact gx_weak (gx_le_k rfl (gx_le_k rfl (gx_le_k rfl (gx_le_k rfl (gx_le_k rfl (gx_le_k rfl (gx_le_k rfl (gx_le_n gx_le_0)))))))) (b_Judge_leastDistance_117 hx hr1 C ⟨F, hnL⟩ hk7 hk22 h)
      · have h := gi_f hc7 h
        refine gx_iload C dX3_leastDistance_86 rfl ?_
        refine gx_aload_0 C dX3_leastDistance_88 rfl ?_
        refine gs_getf (q := 77) C fl_X3_25 (cls_X3 hx) lt_X_Judge (oc_X_Judge a ι _) rfl dX3_leastDistance_89 ?_
        refine gs_getf (q := 1) C fl_X3_80 (cls_X5 hx) lt_X_Street (oc_X_Street a ι _) rfl dX3_leastDistance_92 ?_
        refine gx_iload C dX3_leastDistance_95 rfl ?_
        obtain ⟨hi5, h⟩ := gi_ck h
        refine gs_iald (q := 4) C (ac_X_Street_place hx a) lt_X_Street_place hi5 dX3_leastDistance_97 ?_
        refine gx_aload_0 C dX3_leastDistance_98 rfl ?_
        refine gs_getf (q := 77) C fl_X3_25 (cls_X3 hx) lt_X_Judge (oc_X_Judge a ι _) rfl dX3_leastDistance_99 ?_
        refine gs_getf (q := 1) C fl_X3_80 (cls_X5 hx) lt_X_Street (oc_X_Street a ι _) rfl dX3_leastDistance_102 ?_
        refine gx_iload C dX3_leastDistance_105 rfl ?_
        obtain ⟨hi6, h⟩ := gi_ck h
        refine gs_iald (q := 4) C (ac_X_Street_place hx a) lt_X_Street_place hi6 dX3_leastDistance_107 ?_
        refine gx_isub C dX3_leastDistance_108 ?_
        refine gx_mabs C (by decide) lk_X3_83 (Nat.le_of_ble_eq_true rfl) ⟨Nat.zero_le _, Nat.zero_le _⟩ dX3_leastDistance_109 ?_
        refine gx_mmin C (by decide) lk_X3_89 (Nat.le_of_ble_eq_true rfl) ⟨Nat.zero_le _, Nat.zero_le _⟩ dX3_leastDistance_112 ?_
        refine gx_istore C dX3_leastDistance_115 (by rw [hnL]; decide) trivial ?_
        exact gx_weak (gx_le_k rfl (gx_le_k rfl (gx_le_k rfl (gx_le_k rfl (gx_le_k rfl (gx_le_k rfl (gx_le_k rfl (gx_le_n gx_le_0)))))))) (b_Judge_leastDistance_117 hx hr1 C ⟨F, hnL⟩ hk7 hk22 h)
def m_Judge_leastDistance_60 (r1 : Nat) (k7 : Int32 × Int32 → Option (Int32)) (k22 : Int32 × Int32 → Option (Int32)) (x2 : Int32) (x3 : Int32) (x4 : Int32) (x5 : Int32) (x6 : Int32) (S : gx_S) : Option (Int32) := m_Judge_leastDistance_61 r1 k7 k22 x2 x3 x4 x5 x6 0 S
set_option maxRecDepth 20000 in
set_option maxHeartbeats 1000000 in
theorem b_Judge_leastDistance_60 {Γ : gx_T} {ι : Nat → ClassId} {a : Nat → Nat} {r1 : Nat} {out : Int32} {S : gx_S} (hx : gx_std vwCl (gty ι) (gx_cl Γ) (gx_ty Γ)) (hr1 : r1 < 5) (C : gx_ok Γ cX3_leastDistance RX3 gx_U 1) (F : gx_finI Γ ((Option.some Jvm.ClassFile.FieldType.int)) (wX a ι) (out, S) ∧ gx_nL Γ = 8) {k7 : Int32 × Int32 → Option (Int32)} {k22 : Int32 × Int32 → Option (Int32)} {x2 : Int32} {x3 : Int32} {x5 : Int32} {x4 : Int32} {x6 : Int32} (hk7 : ∀ (x47 : Int32) (x57 : Int32), k7 (x47, x57) = some out → gx_G Γ 0 0 7 [.ref (a 77), .ref (a (21 + 4 * r1)), .int x2, .int x3, .int x47, .int x57, .null, .null] [] (wX a ι S)) (hk22 : ∀ (x47 : Int32) (x67 : Int32), k22 (x47, x67) = some out → gx_G Γ 0 0 22 [.ref (a 77), .ref (a (21 + 4 * r1)), .int x2, .int x3, .int x47, .int x5, .int x67, .null] [] (wX a ι S)) (h : m_Judge_leastDistance_60 r1 k7 k22 x2 x3 x4 x5 x6 S = some out) : gx_G Γ 0 0 60 [.ref (a 77), .ref (a (21 + 4 * r1)), .int x2, .int x3, .int x4, .int x5, .int x6, .null] [] (wX a ι S) := by
  obtain ⟨F, hnL⟩ := F
  unfold m_Judge_leastDistance_60 at h
  refine gx_iconst0 C dX3_leastDistance_60 ?_
  exact gx_weak (gx_le_k rfl (gx_le_k rfl (gx_le_k rfl (gx_le_k rfl (gx_le_k rfl (gx_le_k rfl (gx_le_k rfl (gx_le_n gx_le_0)))))))) (b_Judge_leastDistance_61 hx hr1 C ⟨F, hnL⟩ hk7 hk22 h)
def m_Judge_leastDistance_22 (r1 : Nat) (k7 : Int32 × Int32 → Option (Int32)) (x2 : Int32) (x3 : Int32) (x5 : Int32) (S : gx_S) (t : Int32 × Int32) (k22 : Int32 × Int32 → Option (Int32)) : Option (Int32) := match t with
  | (x4, x6) => if (S 1 1) ≤ x6 then k7 (x4, (x5 + 1)) else gx_ck 6 x5 (if (S (21 + 4 * r1 + 2) x5.toNatClampNeg) = x2 then gx_ck 6 x6 (if (S (21 + 4 * r1 + 2) x6.toNatClampNeg) = x3 then m_Judge_leastDistance_61 r1 k7 k22 x2 x3 x4 x5 x6 1 S else m_Judge_leastDistance_60 r1 k7 k22 x2 x3 x4 x5 x6 S) else m_Judge_leastDistance_60 r1 k7 k22 x2 x3 x4 x5 x6 S)
set_option maxRecDepth 20000 in
set_option maxHeartbeats 1000000 in
theorem b_Judge_leastDistance_22 {Γ : gx_T} {ι : Nat → ClassId} {a : Nat → Nat} {r1 : Nat} {out : Int32} {S : gx_S} (hx : gx_std vwCl (gty ι) (gx_cl Γ) (gx_ty Γ)) (hr1 : r1 < 5) (C : gx_ok Γ cX3_leastDistance RX3 gx_U 1) (F : gx_finI Γ ((Option.some Jvm.ClassFile.FieldType.int)) (wX a ι) (out, S) ∧ gx_nL Γ = 8) {k7 : Int32 × Int32 → Option (Int32)} {k22 : Int32 × Int32 → Option (Int32)} {x2 : Int32} {x3 : Int32} {x5 : Int32} {x4 : Int32} {x6 : Int32} (hk7 : ∀ (x47 : Int32) (x57 : Int32), k7 (x47, x57) = some out → gx_G Γ 0 0 7 [.ref (a 77), .ref (a (21 + 4 * r1)), .int x2, .int x3, .int x47, .int x57, .null, .null] [] (wX a ι S)) (hk22 : ∀ (x47 : Int32) (x67 : Int32), k22 (x47, x67) = some out → gx_G Γ 0 0 22 [.ref (a 77), .ref (a (21 + 4 * r1)), .int x2, .int x3, .int x47, .int x5, .int x67, .null] [] (wX a ι S)) (h : m_Judge_leastDistance_22 r1 k7 x2 x3 x5 S (x4, x6) k22 = some out) : gx_G Γ 0 0 22 [.ref (a 77), .ref (a (21 + 4 * r1)), .int x2, .int x3, .int x4, .int x5, .int x6, .null] [] (wX a ι S) := by
  obtain ⟨F, hnL⟩ := F
  unfold m_Judge_leastDistance_22 at h
  dsimp only at h
  refine gx_iload C dX3_leastDistance_22 rfl ?_
  refine gx_aload_0 C dX3_leastDistance_24 rfl ?_
  refine gs_getf (q := 77) C fl_X3_25 (cls_X3 hx) lt_X_Judge (oc_X_Judge a ι _) rfl dX3_leastDistance_25 ?_
  refine gs_getf (q := 1) C fl_X3_73 (cls_X5 hx) lt_X_Street (oc_X_Street a ι _) rfl dX3_leastDistance_28 ?_
  refine gx_icmp_ge (tgt := 123) C dX3_leastDistance_31 (by decide) (fun hc5 => ?_) (fun hc5 => ?_)
  · have h := gi_t hc5 h
    refine gx_iinc1 C dX3_leastDistance_123 rfl (by rw [hnL]; decide) trivial ?_
    refine gx_goto (tgt := 7) C dX3_leastDistance_126 (by decide) ?_
    exact gx_weak (gx_le_k rfl (gx_le_k rfl (gx_le_k rfl (gx_le_k rfl (gx_le_k rfl (gx_le_k rfl (gx_le_n (gx_le_n gx_le_0)))))))) (hk7 _ _ h)
  · have h := gi_f hc5 h
    refine gx_aload_1 C dX3_leastDistance_34 rfl ?_
    refine gs_getf (q := (21 + 4 * r1)) C fl_X3_67 (cls_X4 hx) (lt_X_Standing (q := r1) hr1) (oc_X_Standing a ι _ (q := r1) hr1) rfl dX3_leastDistance_35 ?_
    refine gx_iload C dX3_leastDistance_38 rfl ?_
    obtain ⟨hi1, h⟩ := gi_ck h
    refine gs_iald (q := (21 + 4 * r1 + 2)) C (ac_X_Standing_whose hx a (q := r1) hr1) (lt_X_Standing_whose (q := r1) hr1) hi1 dX3_leastDistance_40 ?_
    refine gx_iload_2 C dX3_leastDistance_41 rfl ?_
    refine gx_icmp_ne (tgt := 60) C dX3_leastDistance_42 (by decide) (fun hc4 => ?_) (fun hc4 => ?_)
    · have h := gi_f hc4 h
      exact gx_weak (gx_le_k rfl (gx_le_k rfl (gx_le_k rfl (gx_le_k rfl (gx_le_k rfl (gx_le_k rfl (gx_le_k rfl (gx_le_n gx_le_0)))))))) (b_Judge_leastDistance_60 hx hr1 C ⟨F, hnL⟩ hk7 hk22 h)
    · have h := gi_t hc4 h
      refine gx_aload_1 C dX3_leastDistance_45 rfl ?_
      refine gs_getf (q := (21 + 4 * r1)) C fl_X3_67 (cls_X4 hx) (lt_X_Standing (q := r1) hr1) (oc_X_Standing a ι _ (q := r1) hr1) rfl dX3_leastDistance_46 ?_
      refine gx_iload C dX3_leastDistance_49 rfl ?_
      obtain ⟨hi2, h⟩ := gi_ck h
      refine gs_iald (q := (21 + 4 * r1 + 2)) C (ac_X_Standing_whose hx a (q := r1) hr1) (lt_X_Standing_whose (q := r1) hr1) hi2 dX3_leastDistance_51 ?_
      refine gx_iload_3 C dX3_leastDistance_52 rfl ?_
      refine gx_icmp_ne (tgt := 60) C dX3_leastDistance_53 (by decide) (fun hc3 => ?_) (fun hc3 => ?_)
      · have h := gi_f hc3 h
        exact gx_weak (gx_le_k rfl (gx_le_k rfl (gx_le_k rfl (gx_le_k rfl (gx_le_k rfl (gx_le_k rfl (gx_le_k rfl (gx_le_n gx_le_0)))))))) (b_Judge_leastDistance_60 hx hr1 C ⟨F, hnL⟩ hk7 hk22 h)
      · have h := gi_t hc3 h
        refine gx_iconst1 C dX3_leastDistance_56 ?_
        refine gx_goto (tgt := 61) C dX3_leastDistance_57 (by decide) ?_
        exact gx_weak (gx_le_k rfl (gx_le_k rfl (gx_le_k rfl (gx_le_k rfl (gx_le_k rfl (gx_le_k rfl (gx_le_k rfl (gx_le_n gx_le_0)))))))) (b_Judge_leastDistance_61 hx hr1 C ⟨F, hnL⟩ hk7 hk22 h)
def m_Judge_leastDistance_7 (r1 : Nat) (x2 : Int32) (x3 : Int32) (S : gx_S) (t : Int32 × Int32) (k7 : Int32 × Int32 → Option (Int32)) : Option (Int32) := match t with
  | (x4, x5) => if (S 1 1) ≤ x5 then some x4 else gx_loop (m_Judge_leastDistance_22 r1 k7 x2 x3 x5 S) 5000 (x4, 0)
set_option maxRecDepth 20000 in
set_option maxHeartbeats 1000000 in
theorem b_Judge_leastDistance_7 {Γ : gx_T} {ι : Nat → ClassId} {a : Nat → Nat} {r1 : Nat} {out : Int32} {S : gx_S} (hx : gx_std vwCl (gty ι) (gx_cl Γ) (gx_ty Γ)) (hr1 : r1 < 5) (C : gx_ok Γ cX3_leastDistance RX3 gx_U 1) (F : gx_finI Γ ((Option.some Jvm.ClassFile.FieldType.int)) (wX a ι) (out, S) ∧ gx_nL Γ = 8) {k7 : Int32 × Int32 → Option (Int32)} {x2 : Int32} {x3 : Int32} {x4 : Int32} {x5 : Int32} (hk7 : ∀ (x47 : Int32) (x57 : Int32), k7 (x47, x57) = some out → gx_G Γ 0 0 7 [.ref (a 77), .ref (a (21 + 4 * r1)), .int x2, .int x3, .int x47, .int x57, .null, .null] [] (wX a ι S)) (h : m_Judge_leastDistance_7 r1 x2 x3 S (x4, x5) k7 = some out) : gx_G Γ 0 0 7 [.ref (a 77), .ref (a (21 + 4 * r1)), .int x2, .int x3, .int x4, .int x5, .null, .null] [] (wX a ι S) := by
  obtain ⟨F, hnL⟩ := F
  unfold m_Judge_leastDistance_7 at h
  dsimp only at h
  refine gx_iload C dX3_leastDistance_7 rfl ?_
  refine gx_aload_0 C dX3_leastDistance_9 rfl ?_
  refine gs_getf (q := 77) C fl_X3_25 (cls_X3 hx) lt_X_Judge (oc_X_Judge a ι _) rfl dX3_leastDistance_10 ?_
  refine gs_getf (q := 1) C fl_X3_73 (cls_X5 hx) lt_X_Street (oc_X_Street a ι _) rfl dX3_leastDistance_13 ?_
  refine gx_icmp_ge (tgt := 129) C dX3_leastDistance_16 (by decide) (fun hc1 => ?_) (fun hc1 => ?_)
  · have h := gi_t hc1 h
    refine gx_iload C dX3_leastDistance_129 rfl ?_
    exact gx_iret C F rfl dX3_leastDistance_131 (congrArg (fun z => (z, S)) (Option.some.inj h))
  · have h := gi_f hc1 h
    refine gx_iconst0 C dX3_leastDistance_19 ?_
    refine gx_istore C dX3_leastDistance_20 (by rw [hnL]; decide) trivial ?_
    refine gx_weak (gx_le_k rfl (gx_le_k rfl (gx_le_k rfl (gx_le_k rfl (gx_le_k rfl (gx_le_k rfl (gx_le_k rfl (gx_le_n gx_le_0)))))))) (gi_loop (P := fun t => gx_G Γ 0 0 22 [.ref (a 77), .ref (a (21 + 4 * r1)), .int x2, .int x3, .int t.1, .int x5, .int t.2, .null] [] (wX a ι S)) (fun kk t hk h => ?_) 5000 _ h)
    obtain ⟨x49, x69⟩ := t
    exact b_Judge_leastDistance_22 hx hr1 C ⟨F, hnL⟩ hk7 (k22 := kk) (fun x48 x68 h => hk (x48, x68) h) h
def m_Judge_leastDistance (r1 : Nat) (x2 : Int32) (x3 : Int32) (S : gx_S) : Option (Int32) := gx_loop (m_Judge_leastDistance_7 r1 x2 x3 S) 5000 (99, 0)
set_option maxRecDepth 20000 in
set_option maxHeartbeats 1000000 in
theorem c_Judge_leastDistance (l : Launch) (D : va_G) {cl : List vw_C} {tys : List (ClassId × FieldType)} {ι : Nat → ClassId} (hx : gx_std vwCl (gty ι) cl tys) (a : Nat → Nat) {r1 : Nat} (hr1 : r1 < 5) (x2 : Int32) (x3 : Int32) (S : gx_S) {out : Int32} (h : m_Judge_leastDistance r1 x2 x3 S = some out) : gx_mI l D cl tys yX3_leastDistance (.code yX3_leastDistance cX3_leastDistance 8 ((Option.some Jvm.ClassFile.FieldType.int)) :: gx_U) (gx_rm 1) [.ref (a 77), .ref (a (21 + 4 * r1)), .int x2, .int x3] (wX a ι S) (wX a ι) (out, S) := by
  unfold m_Judge_leastDistance at h
  refine gx_startI (V := [.ref (a 77), .ref (a (21 + 4 * r1)), .int x2, .int x3, .null, .null, .null, .null]) 4 (by decide +kernel) (Nat.le_of_ble_eq_true rfl) rfl (fun Γ hl hD hcl hty hnL C F => ?_)
  subst hl; subst hD; subst hcl; subst hty
  refine gx_bipush (v := 99) C dX3_leastDistance_0 (by decide) ?_
  refine gx_istore C dX3_leastDistance_2 (by rw [hnL]; decide) trivial ?_
  refine gx_iconst0 C dX3_leastDistance_4 ?_
  refine gx_istore C dX3_leastDistance_5 (by rw [hnL]; decide) trivial ?_
  refine gx_weak (gx_le_k rfl (gx_le_k rfl (gx_le_k rfl (gx_le_k rfl (gx_le_k rfl (gx_le_k rfl (gx_le_n (gx_le_n gx_le_0)))))))) (gi_loop (P := fun t => gx_G Γ 0 0 7 [.ref (a 77), .ref (a (21 + 4 * r1)), .int x2, .int x3, .int t.1, .int t.2, .null, .null] [] (wX a ι S)) (fun kk t hk h => ?_) 5000 _ h)
  obtain ⟨x49, x59⟩ := t
  exact b_Judge_leastDistance_7 hx hr1 C ⟨F, hnL⟩ (k7 := kk) (fun x48 x58 h => hk (x48, x58) h) h
def m_Judge_weigh_82 (r1 : Nat) (k38 : Int32 × Int32 × gx_S → Option (gx_S)) (x2 : Int32) (x3 : Int32) (x4 : Int32) (x5 : Int32) (s1 : Int32) (s2 : Int32) (S : gx_S) : Option (gx_S) := gx_let (gx_st S 77 7 (s1 + s2)) fun S1 => k38 (x4, (x5 + 1), S1)
set_option maxRecDepth 20000 in
set_option maxHeartbeats 1000000 in
theorem b_Judge_weigh_82 {Γ : gx_T} {ι : Nat → ClassId} {a : Nat → Nat} {r1 : Nat} {out : gx_S} (hx : gx_std vwCl (gty ι) (gx_cl Γ) (gx_ty Γ)) (hr1 : r1 < 5) (C : gx_ok Γ cX3_weigh RX3 gx_U 3) (F : gx_finV Γ ((Option.none : Option Jvm.ClassFile.FieldType)) (wX a ι) out ∧ gx_nL Γ = 6) {k38 : Int32 × Int32 × gx_S → Option (gx_S)} {x2 : Int32} {x3 : Int32} {x4 : Int32} {x5 : Int32} {s1 : Int32} {s2 : Int32} {S : gx_S} (hk38 : ∀ (x47 : Int32) (x57 : Int32) (S7 : gx_S), k38 (x47, x57, S7) = some out → gx_G Γ 0 0 38 [.ref (a 77), .ref (a (21 + 4 * r1)), .int x2, .int x3, .int x47, .int x57] [] (wX a ι S7)) (h : m_Judge_weigh_82 r1 k38 x2 x3 x4 x5 s1 s2 S = some out) : gx_G Γ 0 0 82 [.ref (a 77), .ref (a (21 + 4 * r1)), .int x2, .int x3, .int x4, .int x5] [.int s2, .int s1, .ref (a 77)] (wX a ι S) := by
  obtain ⟨F, hnL⟩ := F
  unfold m_Judge_weigh_82 at h
  refine gx_iadd C dX3_weigh_82 ?_
  obtain ⟨S1, e2, h⟩ := gi_let h
  refine gs_puti (q := 77) C fl_X3_33 (cls_X3 hx) lt_X_Judge (oc_X_Judge a ι _) (oc_X_Judge a ι _) rfl rfl rfl (Nat.le_of_ble_eq_true rfl) e2 dX3_weigh_83 ?_
  refine gx_iinc1 C dX3_weigh_86 rfl (by rw [hnL]; decide) trivial ?_
  refine gx_goto (tgt := 38) C dX3_weigh_89 (by decide) ?_
  exact gx_weak (gx_le_k rfl (gx_le_k rfl (gx_le_k rfl (gx_le_k rfl (gx_le_k rfl (gx_le_k rfl gx_le_0)))))) (hk38 _ _ _ h)
def m_Judge_weigh_38 (r1 : Nat) (x2 : Int32) (x3 : Int32) (t : Int32 × Int32 × gx_S) (k38 : Int32 × Int32 × gx_S → Option (gx_S)) : Option (gx_S) := match t with
  | (x4, x5, S) => if (S 1 0) ≤ x5 then gx_ck 6 x2 (gx_ck 6 x3 (gx_cp (m_Judge_hundredths ((S 78 x2.toNatClampNeg) + (S 78 x3.toNatClampNeg)) x4 S) fun v4 => gx_let (gx_st S 77 6 v4) fun S5 => gx_cp (m_Judge_hundredths (S5 78 x2.toNatClampNeg) x4 S5) fun v8 => gx_cp (m_Judge_hundredths (S5 78 x3.toNatClampNeg) x4 S5) fun v10 => gx_let (gx_st S5 77 8 (((2 : Int32) * v8) * v10)) fun S11 => gx_cp (m_Judge_leastDistance r1 x2 x3 S11) fun v14 => gx_let (gx_st S11 77 9 v14) fun S15 => some S15)) else gx_ck 6 x5 (if (S 78 x5.toNatClampNeg) ≤ 0 then m_Judge_weigh_82 r1 k38 x2 x3 (x4 + (S 78 x5.toNatClampNeg)) x5 (S 77 7) 0 S else m_Judge_weigh_82 r1 k38 x2 x3 (x4 + (S 78 x5.toNatClampNeg)) x5 (S 77 7) 1 S)
set_option maxRecDepth 20000 in
set_option maxHeartbeats 1000000 in
theorem b_Judge_weigh_38 {Γ : gx_T} {ι : Nat → ClassId} {a : Nat → Nat} {r1 : Nat} {out : gx_S} (hx : gx_std vwCl (gty ι) (gx_cl Γ) (gx_ty Γ)) (hr1 : r1 < 5) (C : gx_ok Γ cX3_weigh RX3 gx_U 3) (F : gx_finV Γ ((Option.none : Option Jvm.ClassFile.FieldType)) (wX a ι) out ∧ gx_nL Γ = 6) {k38 : Int32 × Int32 × gx_S → Option (gx_S)} {x2 : Int32} {x3 : Int32} {x4 : Int32} {x5 : Int32} {S : gx_S} (hk38 : ∀ (x47 : Int32) (x57 : Int32) (S7 : gx_S), k38 (x47, x57, S7) = some out → gx_G Γ 0 0 38 [.ref (a 77), .ref (a (21 + 4 * r1)), .int x2, .int x3, .int x47, .int x57] [] (wX a ι S7)) (h : m_Judge_weigh_38 r1 x2 x3 (x4, x5, S) k38 = some out) : gx_G Γ 0 0 38 [.ref (a 77), .ref (a (21 + 4 * r1)), .int x2, .int x3, .int x4, .int x5] [] (wX a ι S) := by
  obtain ⟨F, hnL⟩ := F
  unfold m_Judge_weigh_38 at h
  dsimp only at h
  refine gx_iload C dX3_weigh_38 rfl ?_
  refine gx_aload_0 C dX3_weigh_40 rfl ?_
  refine gs_getf (q := 77) C fl_X3_25 (cls_X3 hx) lt_X_Judge (oc_X_Judge a ι _) rfl dX3_weigh_41 ?_
  refine gs_getf (q := 1) C fl_X3_37 (cls_X5 hx) lt_X_Street (oc_X_Street a ι _) rfl dX3_weigh_44 ?_
  refine gx_icmp_ge (tgt := 92) C dX3_weigh_47 (by decide) (fun hc19 => ?_) (fun hc19 => ?_)
  · have h := gi_t hc19 h
    refine gx_aload_0 C dX3_weigh_92 rfl ?_
    refine gx_aload_0 C dX3_weigh_93 rfl ?_
    refine gs_getf (q := 77) C fl_X3_9 (cls_X3 hx) lt_X_Judge (oc_X_Judge a ι _) rfl dX3_weigh_94 ?_
    refine gx_iload_2 C dX3_weigh_97 rfl ?_
    obtain ⟨hi1, h⟩ := gi_ck h
    refine gs_iald (q := 78) C (ac_X_Judge_sold hx a) lt_X_Judge_sold hi1 dX3_weigh_98 ?_
    refine gx_aload_0 C dX3_weigh_99 rfl ?_
    refine gs_getf (q := 77) C fl_X3_9 (cls_X3 hx) lt_X_Judge (oc_X_Judge a ι _) rfl dX3_weigh_100 ?_
    refine gx_iload_3 C dX3_weigh_103 rfl ?_
    obtain ⟨hi2, h⟩ := gi_ck h
    refine gs_iald (q := 78) C (ac_X_Judge_sold hx a) lt_X_Judge_sold hi2 dX3_weigh_104 ?_
    refine gx_iadd C dX3_weigh_105 ?_
    refine gx_iload C dX3_weigh_106 rfl ?_
    obtain ⟨v4, e3, h⟩ := gi_cp h
    refine gc_IS C (c_Judge_hundredths (gx_l Γ) (gx_D Γ) hx a _ _ _ e3) (gx_cwS C gx_uu lk_X3_42 (by decide) (by decide)) rfl rfl (Nat.le_of_ble_eq_true rfl) ⟨Nat.zero_le _, Nat.zero_le _⟩ dX3_weigh_108 ?_
    obtain ⟨S5, e6, h⟩ := gi_let h
    refine gs_puti (q := 77) C fl_X3_46 (cls_X3 hx) lt_X_Judge (oc_X_Judge a ι _) (oc_X_Judge a ι _) rfl rfl rfl (Nat.le_of_ble_eq_true rfl) e6 dX3_weigh_111 ?_
    refine gx_aload_0 C dX3_weigh_114 rfl ?_
    refine gx_iconst2 C dX3_weigh_115 ?_
    refine gx_aload_0 C dX3_weigh_116 rfl ?_
    refine gs_getf (q := 77) C fl_X3_9 (cls_X3 hx) lt_X_Judge (oc_X_Judge a ι _) rfl dX3_weigh_117 ?_
    refine gx_iload_2 C dX3_weigh_120 rfl ?_
    refine gs_iald (q := 78) C (ac_X_Judge_sold hx a) lt_X_Judge_sold hi1 dX3_weigh_121 ?_
    refine gx_iload C dX3_weigh_122 rfl ?_
    obtain ⟨v8, e7, h⟩ := gi_cp h
    refine gc_IS C (c_Judge_hundredths (gx_l Γ) (gx_D Γ) hx a _ _ _ e7) (gx_cwS C gx_uu lk_X3_42 (by decide) (by decide)) rfl rfl (Nat.le_of_ble_eq_true rfl) ⟨Nat.zero_le _, Nat.zero_le _⟩ dX3_weigh_124 ?_
    refine gx_imul C dX3_weigh_127 ?_
    refine gx_aload_0 C dX3_weigh_128 rfl ?_
    refine gs_getf (q := 77) C fl_X3_9 (cls_X3 hx) lt_X_Judge (oc_X_Judge a ι _) rfl dX3_weigh_129 ?_
    refine gx_iload_3 C dX3_weigh_132 rfl ?_
    refine gs_iald (q := 78) C (ac_X_Judge_sold hx a) lt_X_Judge_sold hi2 dX3_weigh_133 ?_
    refine gx_iload C dX3_weigh_134 rfl ?_
    obtain ⟨v10, e9, h⟩ := gi_cp h
    refine gc_IS C (c_Judge_hundredths (gx_l Γ) (gx_D Γ) hx a _ _ _ e9) (gx_cwS C gx_uu lk_X3_42 (by decide) (by decide)) rfl rfl (Nat.le_of_ble_eq_true rfl) ⟨Nat.zero_le _, Nat.zero_le _⟩ dX3_weigh_136 ?_
    refine gx_imul C dX3_weigh_139 ?_
    obtain ⟨S11, e12, h⟩ := gi_let h
    refine gs_puti (q := 77) C fl_X3_49 (cls_X3 hx) lt_X_Judge (oc_X_Judge a ι _) (oc_X_Judge a ι _) rfl rfl rfl (Nat.le_of_ble_eq_true rfl) e12 dX3_weigh_140 ?_
    refine gx_aload_0 C dX3_weigh_143 rfl ?_
    refine gx_aload_0 C dX3_weigh_144 rfl ?_
    refine gx_aload_1 C dX3_weigh_145 rfl ?_
    refine gx_iload_2 C dX3_weigh_146 rfl ?_
    refine gx_iload_3 C dX3_weigh_147 rfl ?_
    obtain ⟨v14, e13, h⟩ := gi_cp h
    refine gc_IV C (c_Judge_leastDistance (gx_l Γ) (gx_D Γ) hx a (r1 := r1) hr1 _ _ _ e13) (gx_cw C gx_uu lk_X3_52 (by decide) (by decide)) (cls_X3 hx).1 (gs_recv (q := 77) lt_X_Judge (oc_X_Judge a ι _)) rfl rfl (Nat.le_of_ble_eq_true rfl) ⟨Nat.zero_le _, Nat.zero_le _⟩ dX3_weigh_148 ?_
    obtain ⟨S15, e16, h⟩ := gi_let h
    refine gs_puti (q := 77) C fl_X3_56 (cls_X3 hx) lt_X_Judge (oc_X_Judge a ι _) (oc_X_Judge a ι _) rfl rfl rfl (Nat.le_of_ble_eq_true rfl) e16 dX3_weigh_151 ?_
    exact gx_vret C F dX3_weigh_154 (Option.some.inj h)
  · have h := gi_f hc19 h
    refine gx_iload C dX3_weigh_50 rfl ?_
    refine gx_aload_0 C dX3_weigh_52 rfl ?_
    refine gs_getf (q := 77) C fl_X3_9 (cls_X3 hx) lt_X_Judge (oc_X_Judge a ι _) rfl dX3_weigh_53 ?_
    refine gx_iload C dX3_weigh_56 rfl ?_
    obtain ⟨hi17, h⟩ := gi_ck h
    refine gs_iald (q := 78) C (ac_X_Judge_sold hx a) lt_X_Judge_sold hi17 dX3_weigh_58 ?_
    refine gx_iadd C dX3_weigh_59 ?_
    refine gx_istore C dX3_weigh_60 (by rw [hnL]; decide) trivial ?_
    refine gx_aload_0 C dX3_weigh_62 rfl ?_
    refine gx_dup C dX3_weigh_63 rfl ?_
    refine gs_getf (q := 77) C fl_X3_33 (cls_X3 hx) lt_X_Judge (oc_X_Judge a ι _) rfl dX3_weigh_64 ?_
    refine gx_aload_0 C dX3_weigh_67 rfl ?_
    refine gs_getf (q := 77) C fl_X3_9 (cls_X3 hx) lt_X_Judge (oc_X_Judge a ι _) rfl dX3_weigh_68 ?_
    refine gx_iload C dX3_weigh_71 rfl ?_
    refine gs_iald (q := 78) C (ac_X_Judge_sold hx a) lt_X_Judge_sold hi17 dX3_weigh_73 ?_
    refine gx_if_le (tgt := 81) C dX3_weigh_74 (by decide) (fun hc18 => ?_) (fun hc18 => ?_)
    · have h := gi_t hc18 h
      refine gx_iconst0 C dX3_weigh_81 ?_
      exact gx_weak (gx_le_k rfl (gx_le_k rfl (gx_le_k rfl (gx_le_k rfl (gx_le_k rfl (gx_le_k rfl gx_le_0)))))) (b_Judge_weigh_82 hx hr1 C ⟨F, hnL⟩ hk38 h)
    · have h := gi_f hc18 h
      refine gx_iconst1 C dX3_weigh_77 ?_
      refine gx_goto (tgt := 82) C dX3_weigh_78 (by decide) ?_
      exact gx_weak (gx_le_k rfl (gx_le_k rfl (gx_le_k rfl (gx_le_k rfl (gx_le_k rfl (gx_le_k rfl gx_le_0)))))) (b_Judge_weigh_82 hx hr1 C ⟨F, hnL⟩ hk38 h)
def m_Judge_weigh_32 (r1 : Nat) (x2 : Int32) (x3 : Int32) (x4 : Int32) (s1 : Int32) (S : gx_S) : Option (gx_S) := gx_let (gx_st S 77 7 s1) fun S1 => gx_loop (m_Judge_weigh_38 r1 x2 x3) 5000 (x4, 0, S1)
set_option maxRecDepth 20000 in
set_option maxHeartbeats 1000000 in
theorem b_Judge_weigh_32 {Γ : gx_T} {ι : Nat → ClassId} {a : Nat → Nat} {r1 : Nat} {out : gx_S} (hx : gx_std vwCl (gty ι) (gx_cl Γ) (gx_ty Γ)) (hr1 : r1 < 5) (C : gx_ok Γ cX3_weigh RX3 gx_U 3) (F : gx_finV Γ ((Option.none : Option Jvm.ClassFile.FieldType)) (wX a ι) out ∧ gx_nL Γ = 6) {x2 : Int32} {x3 : Int32} {x4 : Int32} {s1 : Int32} {S : gx_S} (h : m_Judge_weigh_32 r1 x2 x3 x4 s1 S = some out) : gx_G Γ 0 0 32 [.ref (a 77), .ref (a (21 + 4 * r1)), .int x2, .int x3, .int x4, .null] [.int s1, .ref (a 77)] (wX a ι S) := by
  obtain ⟨F, hnL⟩ := F
  unfold m_Judge_weigh_32 at h
  obtain ⟨S1, e2, h⟩ := gi_let h
  refine gs_puti (q := 77) C fl_X3_33 (cls_X3 hx) lt_X_Judge (oc_X_Judge a ι _) (oc_X_Judge a ι _) rfl rfl rfl (Nat.le_of_ble_eq_true rfl) e2 dX3_weigh_32 ?_
  refine gx_iconst0 C dX3_weigh_35 ?_
  refine gx_istore C dX3_weigh_36 (by rw [hnL]; decide) trivial ?_
  refine gx_weak (gx_le_k rfl (gx_le_k rfl (gx_le_k rfl (gx_le_k rfl (gx_le_k rfl (gx_le_k rfl gx_le_0)))))) (gi_loop (P := fun t => gx_G Γ 0 0 38 [.ref (a 77), .ref (a (21 + 4 * r1)), .int x2, .int x3, .int t.1, .int t.2.1] [] (wX a ι t.2.2)) (fun kk t hk h => ?_) 5000 _ h)
  obtain ⟨x49, x59, S'9⟩ := t
  exact b_Judge_weigh_38 hx hr1 C ⟨F, hnL⟩ (k38 := kk) (fun x48 x58 S'8 h => hk (x48, x58, S'8) h) h
def m_Judge_weigh_31 (r1 : Nat) (x2 : Int32) (x3 : Int32) (x4 : Int32) (S : gx_S) : Option (gx_S) := m_Judge_weigh_32 r1 x2 x3 x4 0 S
set_option maxRecDepth 20000 in
set_option maxHeartbeats 1000000 in
theorem b_Judge_weigh_31 {Γ : gx_T} {ι : Nat → ClassId} {a : Nat → Nat} {r1 : Nat} {out : gx_S} (hx : gx_std vwCl (gty ι) (gx_cl Γ) (gx_ty Γ)) (hr1 : r1 < 5) (C : gx_ok Γ cX3_weigh RX3 gx_U 3) (F : gx_finV Γ ((Option.none : Option Jvm.ClassFile.FieldType)) (wX a ι) out ∧ gx_nL Γ = 6) {x2 : Int32} {x3 : Int32} {x4 : Int32} {S : gx_S} (h : m_Judge_weigh_31 r1 x2 x3 x4 S = some out) : gx_G Γ 0 0 31 [.ref (a 77), .ref (a (21 + 4 * r1)), .int x2, .int x3, .int x4, .null] [.ref (a 77)] (wX a ι S) := by
  obtain ⟨F, hnL⟩ := F
  unfold m_Judge_weigh_31 at h
  refine gx_iconst0 C dX3_weigh_31 ?_
  exact gx_weak (gx_le_k rfl (gx_le_k rfl (gx_le_k rfl (gx_le_k rfl (gx_le_k rfl (gx_le_n gx_le_0)))))) (b_Judge_weigh_32 hx hr1 C ⟨F, hnL⟩ h)
def m_Judge_weigh (r1 : Nat) (x2 : Int32) (x3 : Int32) (S : gx_S) : Option (gx_S) := gx_cp (m_Judge_countSold r1 S) fun S2 => gx_ck 6 x2 (if (S2 78 x2.toNatClampNeg) ≤ 0 then m_Judge_weigh_31 r1 x2 x3 0 S2 else gx_ck 6 x3 (if (S2 78 x3.toNatClampNeg) ≤ 0 then m_Judge_weigh_31 r1 x2 x3 0 S2 else m_Judge_weigh_32 r1 x2 x3 0 (-1) S2))
set_option maxRecDepth 20000 in
set_option maxHeartbeats 1000000 in
theorem c_Judge_weigh (l : Launch) (D : va_G) {cl : List vw_C} {tys : List (ClassId × FieldType)} {ι : Nat → ClassId} (hx : gx_std vwCl (gty ι) cl tys) (a : Nat → Nat) {r1 : Nat} (hr1 : r1 < 5) (x2 : Int32) (x3 : Int32) (S : gx_S) {out : gx_S} (h : m_Judge_weigh r1 x2 x3 S = some out) : gx_mV l D cl tys yX3_weigh (.code yX3_weigh cX3_weigh 6 ((Option.none : Option Jvm.ClassFile.FieldType)) :: gx_U) (gx_rm 3) [.ref (a 77), .ref (a (21 + 4 * r1)), .int x2, .int x3] (wX a ι S) (wX a ι) out := by
  unfold m_Judge_weigh at h
  refine gx_startV (V := [.ref (a 77), .ref (a (21 + 4 * r1)), .int x2, .int x3, .null, .null]) 2 (by decide +kernel) (Nat.le_of_ble_eq_true rfl) rfl (fun Γ hl hD hcl hty hnL C F => ?_)
  subst hl; subst hD; subst hcl; subst hty
  refine gx_aload_0 C dX3_weigh_0 rfl ?_
  refine gx_aload_1 C dX3_weigh_1 rfl ?_
  obtain ⟨S2, e1, h⟩ := gi_cp h
  refine gc_VV C (c_Judge_countSold (gx_l Γ) (gx_D Γ) hx a (r1 := r1) hr1 _ e1) (gx_cw C gx_uu lk_X3_29 (by decide) (by decide)) (cls_X3 hx).1 (gs_recv (q := 77) lt_X_Judge (oc_X_Judge a ι _)) rfl rfl (Nat.le_of_ble_eq_true rfl) ⟨Nat.zero_le _, Nat.zero_le _⟩ dX3_weigh_2 ?_
  refine gx_iconst0 C dX3_weigh_5 ?_
  refine gx_istore C dX3_weigh_6 (by rw [hnL]; decide) trivial ?_
  refine gx_aload_0 C dX3_weigh_8 rfl ?_
  refine gx_aload_0 C dX3_weigh_9 rfl ?_
  refine gs_getf (q := 77) C fl_X3_9 (cls_X3 hx) lt_X_Judge (oc_X_Judge a ι _) rfl dX3_weigh_10 ?_
  refine gx_iload_2 C dX3_weigh_13 rfl ?_
  obtain ⟨hi3, h⟩ := gi_ck h
  refine gs_iald (q := 78) C (ac_X_Judge_sold hx a) lt_X_Judge_sold hi3 dX3_weigh_14 ?_
  refine gx_if_le (tgt := 31) C dX3_weigh_15 (by decide) (fun hc6 => ?_) (fun hc6 => ?_)
  · have h := gi_t hc6 h
    exact gx_weak (gx_le_k rfl (gx_le_k rfl (gx_le_k rfl (gx_le_k rfl (gx_le_k rfl (gx_le_n gx_le_0)))))) (b_Judge_weigh_31 hx hr1 C ⟨F, hnL⟩ h)
  · have h := gi_f hc6 h
    refine gx_aload_0 C dX3_weigh_18 rfl ?_
    refine gs_getf (q := 77) C fl_X3_9 (cls_X3 hx) lt_X_Judge (oc_X_Judge a ι _) rfl dX3_weigh_19 ?_
    refine gx_iload_3 C dX3_weigh_22 rfl ?_
    obtain ⟨hi4, h⟩ := gi_ck h
    refine gs_iald (q := 78) C (ac_X_Judge_sold hx a) lt_X_Judge_sold hi4 dX3_weigh_23 ?_
    refine gx_if_le (tgt := 31) C dX3_weigh_24 (by decide) (fun hc5 => ?_) (fun hc5 => ?_)
    · have h := gi_t hc5 h
      exact gx_weak (gx_le_k rfl (gx_le_k rfl (gx_le_k rfl (gx_le_k rfl (gx_le_k rfl (gx_le_n gx_le_0)))))) (b_Judge_weigh_31 hx hr1 C ⟨F, hnL⟩ h)
    · have h := gi_f hc5 h
      refine gx_iconstm1 C dX3_weigh_27 ?_
      refine gx_goto (tgt := 32) C dX3_weigh_28 (by decide) ?_
      exact gx_weak (gx_le_k rfl (gx_le_k rfl (gx_le_k rfl (gx_le_k rfl (gx_le_k rfl (gx_le_n gx_le_0)))))) (b_Judge_weigh_32 hx hr1 C ⟨F, hnL⟩ h)
def m_Judge_startTerms (S : gx_S) : Option (gx_S) := gx_ck 51 (S 77 5) (gx_let (gx_st S 79 (S 77 5).toNatClampNeg (vp_nar .boolean 0)) fun S2 => gx_ck 51 (S2 77 5) (gx_let (gx_st S2 80 (S2 77 5).toNatClampNeg (vp_nar .boolean 1)) fun S5 => gx_ck 51 (S5 77 5) (gx_let (gx_st S5 81 (S5 77 5).toNatClampNeg (vp_nar .boolean 0)) fun S8 => some S8)))
set_option maxRecDepth 20000 in
set_option maxHeartbeats 1000000 in
theorem c_Judge_startTerms (l : Launch) (D : va_G) {cl : List vw_C} {tys : List (ClassId × FieldType)} {ι : Nat → ClassId} (hx : gx_std vwCl (gty ι) cl tys) (a : Nat → Nat) (S : gx_S) {out : gx_S} (h : m_Judge_startTerms  S = some out) : gx_mV l D cl tys yX3_startTerms (.code yX3_startTerms cX3_startTerms 1 ((Option.none : Option Jvm.ClassFile.FieldType)) :: gx_U) (gx_rm 0) [.ref (a 77)] (wX a ι S) (wX a ι) out := by
  unfold m_Judge_startTerms at h
  refine gx_startV (V := [.ref (a 77)]) 0 (by decide +kernel) (Nat.le_of_ble_eq_true rfl) rfl (fun Γ hl hD hcl hty hnL C F => ?_)
  subst hl; subst hD; subst hcl; subst hty
  refine gx_aload_0 C dX3_startTerms_0 rfl ?_
  refine gs_getf (q := 77) C fl_X3_15 (cls_X3 hx) lt_X_Judge (oc_X_Judge a ι _) rfl dX3_startTerms_1 ?_
  refine gx_aload_0 C dX3_startTerms_4 rfl ?_
  refine gs_getf (q := 77) C fl_X3_92 (cls_X3 hx) lt_X_Judge (oc_X_Judge a ι _) rfl dX3_startTerms_5 ?_
  refine gx_iconst0 C dX3_startTerms_8 ?_
  obtain ⟨hi1, h⟩ := gi_ck h
  obtain ⟨S2, e3, h⟩ := gi_let h
  refine gs_zast (q := 79) C (ac_X_Judge_any hx a) lt_X_Judge_any hi1 e3 dX3_startTerms_9 ?_
  refine gx_aload_0 C dX3_startTerms_10 rfl ?_
  refine gs_getf (q := 77) C fl_X3_19 (cls_X3 hx) lt_X_Judge (oc_X_Judge a ι _) rfl dX3_startTerms_11 ?_
  refine gx_aload_0 C dX3_startTerms_14 rfl ?_
  refine gs_getf (q := 77) C fl_X3_92 (cls_X3 hx) lt_X_Judge (oc_X_Judge a ι _) rfl dX3_startTerms_15 ?_
  refine gx_iconst1 C dX3_startTerms_18 ?_
  obtain ⟨hi4, h⟩ := gi_ck h
  obtain ⟨S5, e6, h⟩ := gi_let h
  refine gs_zast (q := 80) C (ac_X_Judge_all hx a) lt_X_Judge_all hi4 e6 dX3_startTerms_19 ?_
  refine gx_aload_0 C dX3_startTerms_20 rfl ?_
  refine gs_getf (q := 77) C fl_X3_22 (cls_X3 hx) lt_X_Judge (oc_X_Judge a ι _) rfl dX3_startTerms_21 ?_
  refine gx_aload_0 C dX3_startTerms_24 rfl ?_
  refine gs_getf (q := 77) C fl_X3_92 (cls_X3 hx) lt_X_Judge (oc_X_Judge a ι _) rfl dX3_startTerms_25 ?_
  refine gx_iconst0 C dX3_startTerms_28 ?_
  obtain ⟨hi7, h⟩ := gi_ck h
  obtain ⟨S8, e9, h⟩ := gi_let h
  refine gs_zast (q := 81) C (ac_X_Judge_turned hx a) lt_X_Judge_turned hi7 e9 dX3_startTerms_29 ?_
  exact gx_vret C F dX3_startTerms_30 (Option.some.inj h)
def m_Judge_termsHold_24 (S : gx_S) : Option (Int32) := some 1
set_option maxRecDepth 20000 in
set_option maxHeartbeats 1000000 in
theorem b_Judge_termsHold_24 {Γ : gx_T} {ι : Nat → ClassId} {a : Nat → Nat} {out : Int32} {S : gx_S} (hx : gx_std vwCl (gty ι) (gx_cl Γ) (gx_ty Γ)) (C : gx_ok Γ cX3_termsHold RX3 gx_U 0) (F : gx_finI Γ ((Option.some Jvm.ClassFile.FieldType.boolean)) (wX a ι) (out, S) ∧ gx_nL Γ = 1) (h : m_Judge_termsHold_24 S = some out) : gx_G Γ 0 0 24 [.ref (a 77)] [] (wX a ι S) := by
  obtain ⟨F, hnL⟩ := F
  unfold m_Judge_termsHold_24 at h
  refine gx_iconst1 C dX3_termsHold_24 ?_
  refine gx_goto (tgt := 29) C dX3_termsHold_25 (by decide) ?_
  exact gx_iret C F (by decide) dX3_termsHold_29 (congrArg (fun z => (z, S)) (Option.some.inj h))
def m_Judge_termsHold (S : gx_S) : Option (Int32) := gx_ck 51 (S 77 5) (if (S 79 (S 77 5).toNatClampNeg) = 0 then if (S 80 (S 77 5).toNatClampNeg) = 0 then some 0 else m_Judge_termsHold_24 S else m_Judge_termsHold_24 S)
set_option maxRecDepth 20000 in
set_option maxHeartbeats 1000000 in
theorem c_Judge_termsHold (l : Launch) (D : va_G) {cl : List vw_C} {tys : List (ClassId × FieldType)} {ι : Nat → ClassId} (hx : gx_std vwCl (gty ι) cl tys) (a : Nat → Nat) (S : gx_S) {out : Int32} (h : m_Judge_termsHold  S = some out) : gx_mI l D cl tys yX3_termsHold (.code yX3_termsHold cX3_termsHold 1 ((Option.some Jvm.ClassFile.FieldType.boolean)) :: gx_U) (gx_rm 0) [.ref (a 77)] (wX a ι S) (wX a ι) (out, S) := by
  unfold m_Judge_termsHold at h
  refine gx_startI (V := [.ref (a 77)]) 0 (by decide +kernel) (Nat.le_of_ble_eq_true rfl) rfl (fun Γ hl hD hcl hty hnL C F => ?_)
  subst hl; subst hD; subst hcl; subst hty
  refine gx_aload_0 C dX3_termsHold_0 rfl ?_
  refine gs_getf (q := 77) C fl_X3_15 (cls_X3 hx) lt_X_Judge (oc_X_Judge a ι _) rfl dX3_termsHold_1 ?_
  refine gx_aload_0 C dX3_termsHold_4 rfl ?_
  refine gs_getf (q := 77) C fl_X3_92 (cls_X3 hx) lt_X_Judge (oc_X_Judge a ι _) rfl dX3_termsHold_5 ?_
  obtain ⟨hi1, h⟩ := gi_ck h
  refine gs_zald (q := 79) C (ac_X_Judge_any hx a) lt_X_Judge_any hi1 dX3_termsHold_8 ?_
  refine gx_if_ne (tgt := 24) C dX3_termsHold_9 (by decide) (fun hc3 => ?_) (fun hc3 => ?_)
  · have h := gi_f hc3 h
    exact gx_weak (gx_le_k rfl gx_le_0) (b_Judge_termsHold_24 hx C ⟨F, hnL⟩ h)
  · have h := gi_t hc3 h
    refine gx_aload_0 C dX3_termsHold_12 rfl ?_
    refine gs_getf (q := 77) C fl_X3_19 (cls_X3 hx) lt_X_Judge (oc_X_Judge a ι _) rfl dX3_termsHold_13 ?_
    refine gx_aload_0 C dX3_termsHold_16 rfl ?_
    refine gs_getf (q := 77) C fl_X3_92 (cls_X3 hx) lt_X_Judge (oc_X_Judge a ι _) rfl dX3_termsHold_17 ?_
    refine gs_zald (q := 80) C (ac_X_Judge_all hx a) lt_X_Judge_all hi1 dX3_termsHold_20 ?_
    refine gx_if_eq (tgt := 28) C dX3_termsHold_21 (by decide) (fun hc2 => ?_) (fun hc2 => ?_)
    · have h := gi_t hc2 h
      refine gx_iconst0 C dX3_termsHold_28 ?_
      exact gx_iret C F (by decide) dX3_termsHold_29 (congrArg (fun z => (z, S)) (Option.some.inj h))
    · have h := gi_f hc2 h
      exact gx_weak (gx_le_k rfl gx_le_0) (b_Judge_termsHold_24 hx C ⟨F, hnL⟩ h)
def m_Judge_takeFactor_38 (s1 : Int32) (s2 : Int32) (S : gx_S) : Option (gx_S) := gx_ck 51 s1 (gx_let (gx_st S 80 s1.toNatClampNeg (vp_nar .boolean s2)) fun S2 => gx_ck 51 (S2 77 5) (gx_let (gx_st S2 81 (S2 77 5).toNatClampNeg (vp_nar .boolean 0)) fun S5 => some S5))
set_option maxRecDepth 20000 in
set_option maxHeartbeats 1000000 in
theorem b_Judge_takeFactor_38 {Γ : gx_T} {ι : Nat → ClassId} {a : Nat → Nat} {out : gx_S} (hx : gx_std vwCl (gty ι) (gx_cl Γ) (gx_ty Γ)) (C : gx_ok Γ cX3_takeFactor RX3 gx_U 0) (F : gx_finV Γ ((Option.none : Option Jvm.ClassFile.FieldType)) (wX a ι) out ∧ gx_nL Γ = 2) {s1 : Int32} {s2 : Int32} {S : gx_S} (h : m_Judge_takeFactor_38 s1 s2 S = some out) : gx_G Γ 0 0 38 [.ref (a 77), .null] [.int s2, .int s1, .ref (a 80)] (wX a ι S) := by
  obtain ⟨F, hnL⟩ := F
  unfold m_Judge_takeFactor_38 at h
  obtain ⟨hi1, h⟩ := gi_ck h
  obtain ⟨S2, e3, h⟩ := gi_let h
  refine gs_zast (q := 80) C (ac_X_Judge_all hx a) lt_X_Judge_all hi1 e3 dX3_takeFactor_38 ?_
  refine gx_aload_0 C dX3_takeFactor_39 rfl ?_
  refine gs_getf (q := 77) C fl_X3_22 (cls_X3 hx) lt_X_Judge (oc_X_Judge a ι _) rfl dX3_takeFactor_40 ?_
  refine gx_aload_0 C dX3_takeFactor_43 rfl ?_
  refine gs_getf (q := 77) C fl_X3_92 (cls_X3 hx) lt_X_Judge (oc_X_Judge a ι _) rfl dX3_takeFactor_44 ?_
  refine gx_iconst0 C dX3_takeFactor_47 ?_
  obtain ⟨hi4, h⟩ := gi_ck h
  obtain ⟨S5, e6, h⟩ := gi_let h
  refine gs_zast (q := 81) C (ac_X_Judge_turned hx a) lt_X_Judge_turned hi4 e6 dX3_takeFactor_48 ?_
  exact gx_vret C F dX3_takeFactor_49 (Option.some.inj h)
def m_Judge_takeFactor_37 (s1 : Int32) (S : gx_S) : Option (gx_S) := m_Judge_takeFactor_38 s1 0 S
set_option maxRecDepth 20000 in
set_option maxHeartbeats 1000000 in
theorem b_Judge_takeFactor_37 {Γ : gx_T} {ι : Nat → ClassId} {a : Nat → Nat} {out : gx_S} (hx : gx_std vwCl (gty ι) (gx_cl Γ) (gx_ty Γ)) (C : gx_ok Γ cX3_takeFactor RX3 gx_U 0) (F : gx_finV Γ ((Option.none : Option Jvm.ClassFile.FieldType)) (wX a ι) out ∧ gx_nL Γ = 2) {s1 : Int32} {S : gx_S} (h : m_Judge_takeFactor_37 s1 S = some out) : gx_G Γ 0 0 37 [.ref (a 77), .null] [.int s1, .ref (a 80)] (wX a ι S) := by
  obtain ⟨F, hnL⟩ := F
  unfold m_Judge_takeFactor_37 at h
  refine gx_iconst0 C dX3_takeFactor_37 ?_
  exact gx_weak (gx_le_k rfl (gx_le_n gx_le_0)) (b_Judge_takeFactor_38 hx C ⟨F, hnL⟩ h)
def m_Judge_takeFactor (x1 : Int32) (S : gx_S) : Option (gx_S) := gx_ck 51 (S 77 5) (if (S 80 (S 77 5).toNatClampNeg) = 0 then m_Judge_takeFactor_37 (S 77 5) S else if x1 = (S 81 (S 77 5).toNatClampNeg) then m_Judge_takeFactor_37 (S 77 5) S else m_Judge_takeFactor_38 (S 77 5) 1 S)
set_option maxRecDepth 20000 in
set_option maxHeartbeats 1000000 in
theorem c_Judge_takeFactor (l : Launch) (D : va_G) {cl : List vw_C} {tys : List (ClassId × FieldType)} {ι : Nat → ClassId} (hx : gx_std vwCl (gty ι) cl tys) (a : Nat → Nat) (x1 : Int32) (S : gx_S) {out : gx_S} (h : m_Judge_takeFactor x1 S = some out) : gx_mV l D cl tys yX3_takeFactor (.code yX3_takeFactor cX3_takeFactor 2 ((Option.none : Option Jvm.ClassFile.FieldType)) :: gx_U) (gx_rm 0) [.ref (a 77), .int x1] (wX a ι S) (wX a ι) out := by
  unfold m_Judge_takeFactor at h
  refine gx_startV (V := [.ref (a 77), .int x1]) 0 (by decide +kernel) (Nat.le_of_ble_eq_true rfl) rfl (fun Γ hl hD hcl hty hnL C F => ?_)
  subst hl; subst hD; subst hcl; subst hty
  refine gx_aload_0 C dX3_takeFactor_0 rfl ?_
  refine gs_getf (q := 77) C fl_X3_19 (cls_X3 hx) lt_X_Judge (oc_X_Judge a ι _) rfl dX3_takeFactor_1 ?_
  refine gx_aload_0 C dX3_takeFactor_4 rfl ?_
  refine gs_getf (q := 77) C fl_X3_92 (cls_X3 hx) lt_X_Judge (oc_X_Judge a ι _) rfl dX3_takeFactor_5 ?_
  refine gx_aload_0 C dX3_takeFactor_8 rfl ?_
  refine gs_getf (q := 77) C fl_X3_19 (cls_X3 hx) lt_X_Judge (oc_X_Judge a ι _) rfl dX3_takeFactor_9 ?_
  refine gx_aload_0 C dX3_takeFactor_12 rfl ?_
  refine gs_getf (q := 77) C fl_X3_92 (cls_X3 hx) lt_X_Judge (oc_X_Judge a ι _) rfl dX3_takeFactor_13 ?_
  obtain ⟨hi1, h⟩ := gi_ck h
  refine gs_zald (q := 80) C (ac_X_Judge_all hx a) lt_X_Judge_all hi1 dX3_takeFactor_16 ?_
  refine gx_if_eq (tgt := 37) C dX3_takeFactor_17 (by decide) (fun hc3 => ?_) (fun hc3 => ?_)
  · have h := gi_t hc3 h
    exact gx_weak (gx_le_k rfl (gx_le_n gx_le_0)) (b_Judge_takeFactor_37 hx C ⟨F, hnL⟩ h)
  · have h := gi_f hc3 h
    refine gx_iload_1 C dX3_takeFactor_20 rfl ?_
    refine gx_aload_0 C dX3_takeFactor_21 rfl ?_
    refine gs_getf (q := 77) C fl_X3_22 (cls_X3 hx) lt_X_Judge (oc_X_Judge a ι _) rfl dX3_takeFactor_22 ?_
    refine gx_aload_0 C dX3_takeFactor_25 rfl ?_
    refine gs_getf (q := 77) C fl_X3_92 (cls_X3 hx) lt_X_Judge (oc_X_Judge a ι _) rfl dX3_takeFactor_26 ?_
    refine gs_zald (q := 81) C (ac_X_Judge_turned hx a) lt_X_Judge_turned hi1 dX3_takeFactor_29 ?_
    refine gx_icmp_eq (tgt := 37) C dX3_takeFactor_30 (by decide) (fun hc2 => ?_) (fun hc2 => ?_)
    · have h := gi_t hc2 h
      exact gx_weak (gx_le_k rfl (gx_le_n gx_le_0)) (b_Judge_takeFactor_37 hx C ⟨F, hnL⟩ h)
    · have h := gi_f hc2 h
      refine gx_iconst1 C dX3_takeFactor_33 ?_
      refine gx_goto (tgt := 38) C dX3_takeFactor_34 (by decide) ?_
      exact gx_weak (gx_le_k rfl (gx_le_n gx_le_0)) (b_Judge_takeFactor_38 hx C ⟨F, hnL⟩ h)
def m_Judge_comparisonHolds_49 (r1 : Nat) (x0 : Int32) (x2 : Int32) (x3 : Int32) (S : gx_S) : Option (Int32) := gx_cp (m_Text_at r1 x2 S) fun v2 => if v2 = 60 then if x3 ≤ x0 then some 0 else some 1 else if v2 = 61 then if x0 = x3 then some 1 else some 0 else if x0 ≤ x3 then some 0 else some 1
set_option maxRecDepth 20000 in
set_option maxHeartbeats 1000000 in
theorem b_Judge_comparisonHolds_49 {Γ : gx_T} {ι : Nat → ClassId} {a : Nat → Nat} {r1 : Nat} {out : Int32} {S : gx_S} (hx : gx_std vwCl (gty ι) (gx_cl Γ) (gx_ty Γ)) (hr1 : r1 < 5) (C : gx_ok Γ cX3_comparisonHolds RX3 gx_U 1) (F : gx_finI Γ ((Option.some Jvm.ClassFile.FieldType.boolean)) (wX a ι) (out, S) ∧ gx_nL Γ = 5) {x0 : Int32} {x2 : Int32} {x3 : Int32} (h : m_Judge_comparisonHolds_49 r1 x0 x2 x3 S = some out) : gx_G Γ 0 0 49 [.int x0, .ref (a (66 + 2 * r1)), .int x2, .int x3, .null] [] (wX a ι S) := by
  obtain ⟨F, hnL⟩ := F
  unfold m_Judge_comparisonHolds_49 at h
  refine gx_aload_1 C dX3_comparisonHolds_49 rfl ?_
  refine gx_iload_2 C dX3_comparisonHolds_50 rfl ?_
  obtain ⟨v2, e1, h⟩ := gi_cp h
  refine gc_IV C (c_Text_at (gx_l Γ) (gx_D Γ) hx a (r := r1) hr1 _ _ e1) (gx_cw C gx_uu lk_X3_111 (by decide) (by decide)) (cls_X6 hx).1 (gs_recv (q := (66 + 2 * r1)) (lt_X_Text (q := r1) hr1) (oc_X_Text a ι _ (q := r1) hr1)) rfl rfl (Nat.le_of_ble_eq_true rfl) ⟨Nat.zero_le _, Nat.zero_le _⟩ dX3_comparisonHolds_51 ?_
  by_cases hc4 : v2 = 60
  · have h := gi_t hc4 h
    refine gx_look (tgt := 80) (off := 26) C dX3_comparisonHolds_54 (by decide) (by rw [hc4]; decide) (by decide) ?_
    refine gx_iload_0 C dX3_comparisonHolds_80 rfl ?_
    refine gx_iload_3 C dX3_comparisonHolds_81 rfl ?_
    refine gx_icmp_ge (tgt := 89) C dX3_comparisonHolds_82 (by decide) (fun hc6 => ?_) (fun hc6 => ?_)
    · have h := gi_t hc6 h
      refine gx_iconst0 C dX3_comparisonHolds_89 ?_
      exact gx_iret C F (by decide) dX3_comparisonHolds_90 (congrArg (fun z => (z, S)) (Option.some.inj h))
    · have h := gi_f hc6 h
      refine gx_iconst1 C dX3_comparisonHolds_85 ?_
      refine gx_goto (tgt := 90) C dX3_comparisonHolds_86 (by decide) ?_
      exact gx_iret C F (by decide) dX3_comparisonHolds_90 (congrArg (fun z => (z, S)) (Option.some.inj h))
  · have h := gi_f hc4 h
    by_cases hc5 : v2 = 61
    · have h := gi_t hc5 h
      refine gx_look (tgt := 91) (off := 37) C dX3_comparisonHolds_54 (by decide) (by rw [hc5]; decide) (by decide) ?_
      refine gx_iload_0 C dX3_comparisonHolds_91 rfl ?_
      refine gx_iload_3 C dX3_comparisonHolds_92 rfl ?_
      refine gx_icmp_ne (tgt := 100) C dX3_comparisonHolds_93 (by decide) (fun hc7 => ?_) (fun hc7 => ?_)
      · have h := gi_f hc7 h
        refine gx_iconst0 C dX3_comparisonHolds_100 ?_
        exact gx_iret C F (by decide) dX3_comparisonHolds_101 (congrArg (fun z => (z, S)) (Option.some.inj h))
      · have h := gi_t hc7 h
        refine gx_iconst1 C dX3_comparisonHolds_96 ?_
        refine gx_goto (tgt := 101) C dX3_comparisonHolds_97 (by decide) ?_
        exact gx_iret C F (by decide) dX3_comparisonHolds_101 (congrArg (fun z => (z, S)) (Option.some.inj h))
    · have h := gi_f hc5 h
      refine gx_look (tgt := 102) (off := 48) C dX3_comparisonHolds_54 (by decide) (by show Op.lookupswitch.offset (_ :: _) _ _ = _; rw [lv_osw hc4 (by decide), lv_osw hc5 (by decide)]; rfl) (by decide) ?_
      refine gx_iload_0 C dX3_comparisonHolds_102 rfl ?_
      refine gx_iload_3 C dX3_comparisonHolds_103 rfl ?_
      refine gx_icmp_le (tgt := 111) C dX3_comparisonHolds_104 (by decide) (fun hc3 => ?_) (fun hc3 => ?_)
      · have h := gi_t hc3 h
        refine gx_iconst0 C dX3_comparisonHolds_111 ?_
        exact gx_iret C F (by decide) dX3_comparisonHolds_112 (congrArg (fun z => (z, S)) (Option.some.inj h))
      · have h := gi_f hc3 h
        refine gx_iconst1 C dX3_comparisonHolds_107 ?_
        refine gx_goto (tgt := 112) C dX3_comparisonHolds_108 (by decide) ?_
        exact gx_iret C F (by decide) dX3_comparisonHolds_112 (congrArg (fun z => (z, S)) (Option.some.inj h))
def m_Judge_comparisonHolds_7 (r1 : Nat) (x0 : Int32) (x2 : Int32) (S : gx_S) (t : Int32 × Int32) (k7 : Int32 × Int32 → Option (Int32)) : Option (Int32) := match t with
  | (x3, x4) => if (S (66 + 2 * r1) 1) ≤ x4 then m_Judge_comparisonHolds_49 r1 x0 x2 x3 S else gx_cp (m_Text_at r1 x4 S) fun v2 => gx_cp (m_Text_isDigit v2 S) fun v4 => if v4 = 0 then m_Judge_comparisonHolds_49 r1 x0 x2 x3 S else gx_cp (m_Text_at r1 x4 S) fun v6 => k7 (((((10 : Int32) * x3) + v6) - (48 : Int32)), (x4 + 1))
set_option maxRecDepth 20000 in
set_option maxHeartbeats 1000000 in
theorem b_Judge_comparisonHolds_7 {Γ : gx_T} {ι : Nat → ClassId} {a : Nat → Nat} {r1 : Nat} {out : Int32} {S : gx_S} (hx : gx_std vwCl (gty ι) (gx_cl Γ) (gx_ty Γ)) (hr1 : r1 < 5) (C : gx_ok Γ cX3_comparisonHolds RX3 gx_U 1) (F : gx_finI Γ ((Option.some Jvm.ClassFile.FieldType.boolean)) (wX a ι) (out, S) ∧ gx_nL Γ = 5) {k7 : Int32 × Int32 → Option (Int32)} {x0 : Int32} {x2 : Int32} {x3 : Int32} {x4 : Int32} (hk7 : ∀ (x37 : Int32) (x47 : Int32), k7 (x37, x47) = some out → gx_G Γ 0 0 7 [.int x0, .ref (a (66 + 2 * r1)), .int x2, .int x37, .int x47] [] (wX a ι S)) (h : m_Judge_comparisonHolds_7 r1 x0 x2 S (x3, x4) k7 = some out) : gx_G Γ 0 0 7 [.int x0, .ref (a (66 + 2 * r1)), .int x2, .int x3, .int x4] [] (wX a ι S) := by
  obtain ⟨F, hnL⟩ := F
  unfold m_Judge_comparisonHolds_7 at h
  dsimp only at h
  refine gx_iload C dX3_comparisonHolds_7 rfl ?_
  refine gx_aload_1 C dX3_comparisonHolds_9 rfl ?_
  refine gs_getf (q := (66 + 2 * r1)) C fl_X3_98 (cls_X6 hx) (lt_X_Text (q := r1) hr1) (oc_X_Text a ι _ (q := r1) hr1) rfl dX3_comparisonHolds_10 ?_
  refine gx_icmp_ge (tgt := 49) C dX3_comparisonHolds_13 (by decide) (fun hc8 => ?_) (fun hc8 => ?_)
  · have h := gi_t hc8 h
    exact gx_weak (gx_le_k rfl (gx_le_k rfl (gx_le_k rfl (gx_le_k rfl (gx_le_n gx_le_0))))) (b_Judge_comparisonHolds_49 hx hr1 C ⟨F, hnL⟩ h)
  · have h := gi_f hc8 h
    refine gx_aload_1 C dX3_comparisonHolds_16 rfl ?_
    refine gx_iload C dX3_comparisonHolds_17 rfl ?_
    obtain ⟨v2, e1, h⟩ := gi_cp h
    refine gc_IV C (c_Text_at (gx_l Γ) (gx_D Γ) hx a (r := r1) hr1 _ _ e1) (gx_cw C gx_uu lk_X3_111 (by decide) (by decide)) (cls_X6 hx).1 (gs_recv (q := (66 + 2 * r1)) (lt_X_Text (q := r1) hr1) (oc_X_Text a ι _ (q := r1) hr1)) rfl rfl (Nat.le_of_ble_eq_true rfl) ⟨Nat.zero_le _, Nat.zero_le _⟩ dX3_comparisonHolds_19 ?_
    obtain ⟨v4, e3, h⟩ := gi_cp h
    refine gc_IS C (c_Text_isDigit (gx_l Γ) (gx_D Γ) hx a _ _ e3) (gx_cwS C gx_uu lk_X3_123 (by decide) (by decide)) rfl rfl (Nat.le_of_ble_eq_true rfl) ⟨Nat.zero_le _, Nat.zero_le _⟩ dX3_comparisonHolds_22 ?_
    refine gx_if_eq (tgt := 49) C dX3_comparisonHolds_25 (by decide) (fun hc7 => ?_) (fun hc7 => ?_)
    · have h := gi_t hc7 h
      exact gx_weak (gx_le_k rfl (gx_le_k rfl (gx_le_k rfl (gx_le_k rfl (gx_le_n gx_le_0))))) (b_Judge_comparisonHolds_49 hx hr1 C ⟨F, hnL⟩ h)
    · have h := gi_f hc7 h
      refine gx_bipush (v := 10) C dX3_comparisonHolds_28 (by decide) ?_
      refine gx_iload_3 C dX3_comparisonHolds_30 rfl ?_
      refine gx_imul C dX3_comparisonHolds_31 ?_
      refine gx_aload_1 C dX3_comparisonHolds_32 rfl ?_
      refine gx_iload C dX3_comparisonHolds_33 rfl ?_
      obtain ⟨v6, e5, h⟩ := gi_cp h
      refine gc_IV C (c_Text_at (gx_l Γ) (gx_D Γ) hx a (r := r1) hr1 _ _ e5) (gx_cw C gx_uu lk_X3_111 (by decide) (by decide)) (cls_X6 hx).1 (gs_recv (q := (66 + 2 * r1)) (lt_X_Text (q := r1) hr1) (oc_X_Text a ι _ (q := r1) hr1)) rfl rfl (Nat.le_of_ble_eq_true rfl) ⟨Nat.zero_le _, Nat.zero_le _⟩ dX3_comparisonHolds_35 ?_
      refine gx_iadd C dX3_comparisonHolds_38 ?_
      refine gx_bipush (v := 48) C dX3_comparisonHolds_39 (by decide) ?_
      refine gx_isub C dX3_comparisonHolds_41 ?_
      refine gx_istore_3 C dX3_comparisonHolds_42 (by rw [hnL]; decide) trivial ?_
      refine gx_iinc1 C dX3_comparisonHolds_43 rfl (by rw [hnL]; decide) trivial ?_
      refine gx_goto (tgt := 7) C dX3_comparisonHolds_46 (by decide) ?_
      exact gx_weak (gx_le_k rfl (gx_le_k rfl (gx_le_k rfl (gx_le_k rfl (gx_le_k rfl gx_le_0))))) (hk7 _ _ h)
def m_Judge_comparisonHolds (r1 : Nat) (x0 : Int32) (x2 : Int32) (S : gx_S) : Option (Int32) := gx_loop (m_Judge_comparisonHolds_7 r1 x0 x2 S) 5000 (0, (x2 + (1 : Int32)))
set_option maxRecDepth 20000 in
set_option maxHeartbeats 1000000 in
theorem c_Judge_comparisonHolds (l : Launch) (D : va_G) {cl : List vw_C} {tys : List (ClassId × FieldType)} {ι : Nat → ClassId} (hx : gx_std vwCl (gty ι) cl tys) (a : Nat → Nat) {r1 : Nat} (hr1 : r1 < 5) (x0 : Int32) (x2 : Int32) (S : gx_S) {out : Int32} (h : m_Judge_comparisonHolds r1 x0 x2 S = some out) : gx_mI l D cl tys yX3_comparisonHolds (.code yX3_comparisonHolds cX3_comparisonHolds 5 ((Option.some Jvm.ClassFile.FieldType.boolean)) :: gx_U) (gx_rm 1) [.int x0, .ref (a (66 + 2 * r1)), .int x2] (wX a ι S) (wX a ι) (out, S) := by
  unfold m_Judge_comparisonHolds at h
  refine gx_startI (V := [.int x0, .ref (a (66 + 2 * r1)), .int x2, .null, .null]) 2 (by decide +kernel) (Nat.le_of_ble_eq_true rfl) rfl (fun Γ hl hD hcl hty hnL C F => ?_)
  subst hl; subst hD; subst hcl; subst hty
  refine gx_iconst0 C dX3_comparisonHolds_0 ?_
  refine gx_istore_3 C dX3_comparisonHolds_1 (by rw [hnL]; decide) trivial ?_
  refine gx_iload_2 C dX3_comparisonHolds_2 rfl ?_
  refine gx_iconst1 C dX3_comparisonHolds_3 ?_
  refine gx_iadd C dX3_comparisonHolds_4 ?_
  refine gx_istore C dX3_comparisonHolds_5 (by rw [hnL]; decide) trivial ?_
  refine gx_weak (gx_le_k rfl (gx_le_k rfl (gx_le_k rfl (gx_le_k rfl (gx_le_k rfl gx_le_0))))) (gi_loop (P := fun t => gx_G Γ 0 0 7 [.int x0, .ref (a (66 + 2 * r1)), .int x2, .int t.1, .int t.2] [] (wX a ι S)) (fun kk t hk h => ?_) 5000 _ h)
  obtain ⟨x39, x49⟩ := t
  exact b_Judge_comparisonHolds_7 hx hr1 C ⟨F, hnL⟩ (k7 := kk) (fun x38 x48 h => hk (x38, x48) h) h
def m_Judge_readLetter_105 (r1 : Nat) (s1 : Int32) (s2 : Int32) (S : gx_S) : Option (gx_S) := gx_ck 51 s1 (gx_let (gx_st S 81 s1.toNatClampNeg (vp_nar .boolean s2)) fun S2 => some S2)
set_option maxRecDepth 20000 in
set_option maxHeartbeats 1000000 in
theorem b_Judge_readLetter_105 {Γ : gx_T} {ι : Nat → ClassId} {a : Nat → Nat} {r1 : Nat} {out : gx_S} (hx : gx_std vwCl (gty ι) (gx_cl Γ) (gx_ty Γ)) (hr1 : r1 < 5) (C : gx_ok Γ cX3_readLetter RX3 gx_U 2) (F : gx_finV Γ ((Option.none : Option Jvm.ClassFile.FieldType)) (wX a ι) out ∧ gx_nL Γ = 4) {s1 : Int32} {s2 : Int32} {S : gx_S} (h : m_Judge_readLetter_105 r1 s1 s2 S = some out) : gx_G Γ 0 0 105 [.ref (a 77), .ref (a (66 + 2 * r1)), .null, .null] [.int s2, .int s1, .ref (a 81)] (wX a ι S) := by
  obtain ⟨F, hnL⟩ := F
  unfold m_Judge_readLetter_105 at h
  obtain ⟨hi1, h⟩ := gi_ck h
  obtain ⟨S2, e3, h⟩ := gi_let h
  refine gs_zast (q := 81) C (ac_X_Judge_turned hx a) lt_X_Judge_turned hi1 e3 dX3_readLetter_105 ?_
  refine gx_goto (tgt := 288) C dX3_readLetter_106 (by decide) ?_
  exact gx_vret C F dX3_readLetter_288 (Option.some.inj h)
def m_Judge_readLetter_146 (r1 : Nat) (s1 : Int32) (s2 : Int32) (S : gx_S) : Option (gx_S) := gx_ck 51 s1 (gx_let (gx_st S 79 s1.toNatClampNeg (vp_nar .boolean s2)) fun S2 => gx_ck 51 (S2 77 5) (gx_let (gx_st S2 80 (S2 77 5).toNatClampNeg (vp_nar .boolean 1)) fun S5 => some S5))
set_option maxRecDepth 20000 in
set_option maxHeartbeats 1000000 in
theorem b_Judge_readLetter_146 {Γ : gx_T} {ι : Nat → ClassId} {a : Nat → Nat} {r1 : Nat} {out : gx_S} (hx : gx_std vwCl (gty ι) (gx_cl Γ) (gx_ty Γ)) (hr1 : r1 < 5) (C : gx_ok Γ cX3_readLetter RX3 gx_U 2) (F : gx_finV Γ ((Option.none : Option Jvm.ClassFile.FieldType)) (wX a ι) out ∧ gx_nL Γ = 4) {s1 : Int32} {s2 : Int32} {S : gx_S} (h : m_Judge_readLetter_146 r1 s1 s2 S = some out) : gx_G Γ 0 0 146 [.ref (a 77), .ref (a (66 + 2 * r1)), .null, .null] [.int s2, .int s1, .ref (a 79)] (wX a ι S) := by
  obtain ⟨F, hnL⟩ := F
  unfold m_Judge_readLetter_146 at h
  obtain ⟨hi1, h⟩ := gi_ck h
  obtain ⟨S2, e3, h⟩ := gi_let h
  refine gs_zast (q := 79) C (ac_X_Judge_any hx a) lt_X_Judge_any hi1 e3 dX3_readLetter_146 ?_
  refine gx_aload_0 C dX3_readLetter_147 rfl ?_
  refine gs_getf (q := 77) C fl_X3_19 (cls_X3 hx) lt_X_Judge (oc_X_Judge a ι _) rfl dX3_readLetter_148 ?_
  refine gx_aload_0 C dX3_readLetter_151 rfl ?_
  refine gs_getf (q := 77) C fl_X3_92 (cls_X3 hx) lt_X_Judge (oc_X_Judge a ι _) rfl dX3_readLetter_152 ?_
  refine gx_iconst1 C dX3_readLetter_155 ?_
  obtain ⟨hi4, h⟩ := gi_ck h
  obtain ⟨S5, e6, h⟩ := gi_let h
  refine gs_zast (q := 80) C (ac_X_Judge_all hx a) lt_X_Judge_all hi4 e6 dX3_readLetter_156 ?_
  refine gx_goto (tgt := 288) C dX3_readLetter_157 (by decide) ?_
  exact gx_vret C F dX3_readLetter_288 (Option.some.inj h)
def m_Judge_readLetter_141 (r1 : Nat) (s1 : Int32) (S : gx_S) : Option (gx_S) := m_Judge_readLetter_146 r1 s1 1 S
set_option maxRecDepth 20000 in
set_option maxHeartbeats 1000000 in
theorem b_Judge_readLetter_141 {Γ : gx_T} {ι : Nat → ClassId} {a : Nat → Nat} {r1 : Nat} {out : gx_S} (hx : gx_std vwCl (gty ι) (gx_cl Γ) (gx_ty Γ)) (hr1 : r1 < 5) (C : gx_ok Γ cX3_readLetter RX3 gx_U 2) (F : gx_finV Γ ((Option.none : Option Jvm.ClassFile.FieldType)) (wX a ι) out ∧ gx_nL Γ = 4) {s1 : Int32} {S : gx_S} (h : m_Judge_readLetter_141 r1 s1 S = some out) : gx_G Γ 0 0 141 [.ref (a 77), .ref (a (66 + 2 * r1)), .null, .null] [.int s1, .ref (a 79)] (wX a ι S) := by
  obtain ⟨F, hnL⟩ := F
  unfold m_Judge_readLetter_141 at h
  refine gx_iconst1 C dX3_readLetter_141 ?_
  refine gx_goto (tgt := 146) C dX3_readLetter_142 (by decide) ?_
  exact gx_weak (gx_le_k rfl (gx_le_k rfl (gx_le_n (gx_le_n gx_le_0)))) (b_Judge_readLetter_146 hx hr1 C ⟨F, hnL⟩ h)
def m_Judge_readLetter (r1 : Nat) (x2 : Int32) (S : gx_S) : Option (gx_S) := gx_cp (m_Text_at r1 x2 S) fun v2 => if v2 = 33 then gx_ck 51 (S 77 5) (if (S 81 (S 77 5).toNatClampNeg) = 0 then m_Judge_readLetter_105 r1 (S 77 5) 1 S else m_Judge_readLetter_105 r1 (S 77 5) 0 S) else if v2 = 40 then if 50 ≤ (S 77 5) then some S else gx_let (gx_st S 77 5 ((S 77 5) + (1 : Int32))) fun S70 => gx_cp (m_Judge_startTerms S70) fun S73 => some S73 else if v2 = 41 then gx_cp (m_Judge_termsHold S) fun v64 => if (S 77 5) ≤ 0 then some S else gx_let (gx_st S 77 5 ((S 77 5) - (1 : Int32))) fun S65 => gx_cp (m_Judge_takeFactor v64 S65) fun S68 => some S68 else if v2 = 100 then gx_cp (m_Judge_comparisonHolds r1 (S 77 9) (x2 + (1 : Int32)) S) fun v60 => gx_cp (m_Judge_takeFactor v60 S) fun S62 => some S62 else if v2 = 111 then gx_cp (m_Judge_comparisonHolds r1 (S 77 7) (x2 + (1 : Int32)) S) fun v56 => gx_cp (m_Judge_takeFactor v56 S) fun S58 => some S58 else if v2 = 114 then gx_cp (m_Judge_comparisonHolds r1 (S 77 8) (x2 + (1 : Int32)) S) fun v52 => gx_cp (m_Judge_takeFactor v52 S) fun S54 => some S54 else if v2 = 115 then gx_cp (m_Judge_comparisonHolds r1 (S 77 6) (x2 + (1 : Int32)) S) fun v48 => gx_cp (m_Judge_takeFactor v48 S) fun S50 => some S50 else if v2 = 124 then gx_ck 51 (S 77 5) (if (S 79 (S 77 5).toNatClampNeg) = 0 then if (S 80 (S 77 5).toNatClampNeg) = 0 then m_Judge_readLetter_146 r1 (S 77 5) 0 S else m_Judge_readLetter_141 r1 (S 77 5) S else m_Judge_readLetter_141 r1 (S 77 5) S) else some S
set_option maxRecDepth 20000 in
set_option maxHeartbeats 1000000 in
theorem c_Judge_readLetter (l : Launch) (D : va_G) {cl : List vw_C} {tys : List (ClassId × FieldType)} {ι : Nat → ClassId} (hx : gx_std vwCl (gty ι) cl tys) (a : Nat → Nat) {r1 : Nat} (hr1 : r1 < 5) (x2 : Int32) (S : gx_S) {out : gx_S} (h : m_Judge_readLetter r1 x2 S = some out) : gx_mV l D cl tys yX3_readLetter (.code yX3_readLetter cX3_readLetter 4 ((Option.none : Option Jvm.ClassFile.FieldType)) :: gx_U) (gx_rm 2) [.ref (a 77), .ref (a (66 + 2 * r1)), .int x2] (wX a ι S) (wX a ι) out := by
  unfold m_Judge_readLetter at h
  refine gx_startV (V := [.ref (a 77), .ref (a (66 + 2 * r1)), .int x2, .null]) 1 (by decide +kernel) (Nat.le_of_ble_eq_true rfl) rfl (fun Γ hl hD hcl hty hnL C F => ?_)
  subst hl; subst hD; subst hcl; subst hty
  refine gx_aload_1 C dX3_readLetter_0 rfl ?_
  refine gx_iload_2 C dX3_readLetter_1 rfl ?_
  obtain ⟨v2, e1, h⟩ := gi_cp h
  refine gc_IV C (c_Text_at (gx_l Γ) (gx_D Γ) hx a (r := r1) hr1 _ _ e1) (gx_cw C gx_uu lk_X3_111 (by decide) (by decide)) (cls_X6 hx).1 (gs_recv (q := (66 + 2 * r1)) (lt_X_Text (q := r1) hr1) (oc_X_Text a ι _ (q := r1) hr1)) rfl rfl (Nat.le_of_ble_eq_true rfl) ⟨Nat.zero_le _, Nat.zero_le _⟩ dX3_readLetter_2 ?_
  by_cases hc3 : v2 = 33
  · have h := gi_t hc3 h
    refine gx_look (tgt := 80) (off := 75) C dX3_readLetter_5 (by decide) (by rw [hc3]; decide) (by decide) ?_
    refine gx_aload_0 C dX3_readLetter_80 rfl ?_
    refine gs_getf (q := 77) C fl_X3_22 (cls_X3 hx) lt_X_Judge (oc_X_Judge a ι _) rfl dX3_readLetter_81 ?_
    refine gx_aload_0 C dX3_readLetter_84 rfl ?_
    refine gs_getf (q := 77) C fl_X3_92 (cls_X3 hx) lt_X_Judge (oc_X_Judge a ι _) rfl dX3_readLetter_85 ?_
    refine gx_aload_0 C dX3_readLetter_88 rfl ?_
    refine gs_getf (q := 77) C fl_X3_22 (cls_X3 hx) lt_X_Judge (oc_X_Judge a ι _) rfl dX3_readLetter_89 ?_
    refine gx_aload_0 C dX3_readLetter_92 rfl ?_
    refine gs_getf (q := 77) C fl_X3_92 (cls_X3 hx) lt_X_Judge (oc_X_Judge a ι _) rfl dX3_readLetter_93 ?_
    obtain ⟨hi11, h⟩ := gi_ck h
    refine gs_zald (q := 81) C (ac_X_Judge_turned hx a) lt_X_Judge_turned hi11 dX3_readLetter_96 ?_
    refine gx_if_ne (tgt := 104) C dX3_readLetter_97 (by decide) (fun hc12 => ?_) (fun hc12 => ?_)
    · have h := gi_f hc12 h
      refine gx_iconst0 C dX3_readLetter_104 ?_
      exact gx_weak (gx_le_k rfl (gx_le_k rfl (gx_le_n (gx_le_n gx_le_0)))) (b_Judge_readLetter_105 hx hr1 C ⟨F, hnL⟩ h)
    · have h := gi_t hc12 h
      refine gx_iconst1 C dX3_readLetter_100 ?_
      refine gx_goto (tgt := 105) C dX3_readLetter_101 (by decide) ?_
      exact gx_weak (gx_le_k rfl (gx_le_k rfl (gx_le_n (gx_le_n gx_le_0)))) (b_Judge_readLetter_105 hx hr1 C ⟨F, hnL⟩ h)
  · have h := gi_f hc3 h
    by_cases hc4 : v2 = 40
    · have h := gi_t hc4 h
      refine gx_look (tgt := 160) (off := 155) C dX3_readLetter_5 (by decide) (by rw [hc4]; decide) (by decide) ?_
      refine gx_aload_0 C dX3_readLetter_160 rfl ?_
      refine gs_getf (q := 77) C fl_X3_92 (cls_X3 hx) lt_X_Judge (oc_X_Judge a ι _) rfl dX3_readLetter_161 ?_
      refine gx_bipush (v := 50) C dX3_readLetter_164 (by decide) ?_
      refine gx_icmp_ge (tgt := 288) C dX3_readLetter_166 (by decide) (fun hc17 => ?_) (fun hc17 => ?_)
      · have h := gi_t hc17 h
        exact gx_vret C F dX3_readLetter_288 (Option.some.inj h)
      · have h := gi_f hc17 h
        refine gx_aload_0 C dX3_readLetter_169 rfl ?_
        refine gx_dup C dX3_readLetter_170 rfl ?_
        refine gs_getf (q := 77) C fl_X3_92 (cls_X3 hx) lt_X_Judge (oc_X_Judge a ι _) rfl dX3_readLetter_171 ?_
        refine gx_iconst1 C dX3_readLetter_174 ?_
        refine gx_iadd C dX3_readLetter_175 ?_
        obtain ⟨S13, e14, h⟩ := gi_let h
        refine gs_puti (q := 77) C fl_X3_92 (cls_X3 hx) lt_X_Judge (oc_X_Judge a ι _) (oc_X_Judge a ι _) rfl rfl rfl (Nat.le_of_ble_eq_true rfl) e14 dX3_readLetter_176 ?_
        refine gx_aload_0 C dX3_readLetter_179 rfl ?_
        obtain ⟨S16, e15, h⟩ := gi_cp h
        refine gc_VV C (c_Judge_startTerms (gx_l Γ) (gx_D Γ) hx a _ e15) (gx_cw C gx_uu lk_X3_95 (by decide) (by decide)) (cls_X3 hx).1 (gs_recv (q := 77) lt_X_Judge (oc_X_Judge a ι _)) rfl rfl (Nat.le_of_ble_eq_true rfl) ⟨Nat.zero_le _, Nat.zero_le _⟩ dX3_readLetter_180 ?_
        refine gx_goto (tgt := 288) C dX3_readLetter_183 (by decide) ?_
        exact gx_vret C F dX3_readLetter_288 (Option.some.inj h)
    · have h := gi_f hc4 h
      by_cases hc5 : v2 = 41
      · have h := gi_t hc5 h
        refine gx_look (tgt := 186) (off := 181) C dX3_readLetter_5 (by decide) (by rw [hc5]; decide) (by decide) ?_
        refine gx_aload_0 C dX3_readLetter_186 rfl ?_
        obtain ⟨v19, e18, h⟩ := gi_cp h
        refine gc_IV C (c_Judge_termsHold (gx_l Γ) (gx_D Γ) hx a _ e18) (gx_cw C gx_uu lk_X3_107 (by decide) (by decide)) (cls_X3 hx).1 (gs_recv (q := 77) lt_X_Judge (oc_X_Judge a ι _)) rfl rfl (Nat.le_of_ble_eq_true rfl) ⟨Nat.zero_le _, Nat.zero_le _⟩ dX3_readLetter_187 ?_
        refine gx_istore_3 C dX3_readLetter_190 (by rw [hnL]; decide) trivial ?_
        refine gx_aload_0 C dX3_readLetter_191 rfl ?_
        refine gs_getf (q := 77) C fl_X3_92 (cls_X3 hx) lt_X_Judge (oc_X_Judge a ι _) rfl dX3_readLetter_192 ?_
        refine gx_if_le (tgt := 288) C dX3_readLetter_195 (by decide) (fun hc24 => ?_) (fun hc24 => ?_)
        · have h := gi_t hc24 h
          exact gx_vret C F dX3_readLetter_288 (Option.some.inj h)
        · have h := gi_f hc24 h
          refine gx_aload_0 C dX3_readLetter_198 rfl ?_
          refine gx_dup C dX3_readLetter_199 rfl ?_
          refine gs_getf (q := 77) C fl_X3_92 (cls_X3 hx) lt_X_Judge (oc_X_Judge a ι _) rfl dX3_readLetter_200 ?_
          refine gx_iconst1 C dX3_readLetter_203 ?_
          refine gx_isub C dX3_readLetter_204 ?_
          obtain ⟨S20, e21, h⟩ := gi_let h
          refine gs_puti (q := 77) C fl_X3_92 (cls_X3 hx) lt_X_Judge (oc_X_Judge a ι _) (oc_X_Judge a ι _) rfl rfl rfl (Nat.le_of_ble_eq_true rfl) e21 dX3_readLetter_205 ?_
          refine gx_aload_0 C dX3_readLetter_208 rfl ?_
          refine gx_iload_3 C dX3_readLetter_209 rfl ?_
          obtain ⟨S23, e22, h⟩ := gi_cp h
          refine gc_VV C (c_Judge_takeFactor (gx_l Γ) (gx_D Γ) hx a _ _ e22) (gx_cw C gx_uu lk_X3_115 (by decide) (by decide)) (cls_X3 hx).1 (gs_recv (q := 77) lt_X_Judge (oc_X_Judge a ι _)) rfl rfl (Nat.le_of_ble_eq_true rfl) ⟨Nat.zero_le _, Nat.zero_le _⟩ dX3_readLetter_210 ?_
          refine gx_goto (tgt := 288) C dX3_readLetter_213 (by decide) ?_
          exact gx_vret C F dX3_readLetter_288 (Option.some.inj h)
      · have h := gi_f hc5 h
        by_cases hc6 : v2 = 100
        · have h := gi_t hc6 h
          refine gx_look (tgt := 270) (off := 265) C dX3_readLetter_5 (by decide) (by rw [hc6]; decide) (by decide) ?_
          refine gx_aload_0 C dX3_readLetter_270 rfl ?_
          refine gx_aload_0 C dX3_readLetter_271 rfl ?_
          refine gs_getf (q := 77) C fl_X3_56 (cls_X3 hx) lt_X_Judge (oc_X_Judge a ι _) rfl dX3_readLetter_272 ?_
          refine gx_aload_1 C dX3_readLetter_275 rfl ?_
          refine gx_iload_2 C dX3_readLetter_276 rfl ?_
          refine gx_iconst1 C dX3_readLetter_277 ?_
          refine gx_iadd C dX3_readLetter_278 ?_
          obtain ⟨v26, e25, h⟩ := gi_cp h
          refine gc_IS C (c_Judge_comparisonHolds (gx_l Γ) (gx_D Γ) hx a (r1 := r1) hr1 _ _ _ e25) (gx_cwS C gx_uu lk_X3_119 (by decide) (by decide)) rfl rfl (Nat.le_of_ble_eq_true rfl) ⟨Nat.zero_le _, Nat.zero_le _⟩ dX3_readLetter_279 ?_
          obtain ⟨S28, e27, h⟩ := gi_cp h
          refine gc_VV C (c_Judge_takeFactor (gx_l Γ) (gx_D Γ) hx a _ _ e27) (gx_cw C gx_uu lk_X3_115 (by decide) (by decide)) (cls_X3 hx).1 (gs_recv (q := 77) lt_X_Judge (oc_X_Judge a ι _)) rfl rfl (Nat.le_of_ble_eq_true rfl) ⟨Nat.zero_le _, Nat.zero_le _⟩ dX3_readLetter_282 ?_
          refine gx_goto (tgt := 288) C dX3_readLetter_285 (by decide) ?_
          exact gx_vret C F dX3_readLetter_288 (Option.some.inj h)
        · have h := gi_f hc6 h
          by_cases hc7 : v2 = 111
          · have h := gi_t hc7 h
            refine gx_look (tgt := 234) (off := 229) C dX3_readLetter_5 (by decide) (by rw [hc7]; decide) (by decide) ?_
            refine gx_aload_0 C dX3_readLetter_234 rfl ?_
            refine gx_aload_0 C dX3_readLetter_235 rfl ?_
            refine gs_getf (q := 77) C fl_X3_33 (cls_X3 hx) lt_X_Judge (oc_X_Judge a ι _) rfl dX3_readLetter_236 ?_
            refine gx_aload_1 C dX3_readLetter_239 rfl ?_
            refine gx_iload_2 C dX3_readLetter_240 rfl ?_
            refine gx_iconst1 C dX3_readLetter_241 ?_
            refine gx_iadd C dX3_readLetter_242 ?_
            obtain ⟨v30, e29, h⟩ := gi_cp h
            refine gc_IS C (c_Judge_comparisonHolds (gx_l Γ) (gx_D Γ) hx a (r1 := r1) hr1 _ _ _ e29) (gx_cwS C gx_uu lk_X3_119 (by decide) (by decide)) rfl rfl (Nat.le_of_ble_eq_true rfl) ⟨Nat.zero_le _, Nat.zero_le _⟩ dX3_readLetter_243 ?_
            obtain ⟨S32, e31, h⟩ := gi_cp h
            refine gc_VV C (c_Judge_takeFactor (gx_l Γ) (gx_D Γ) hx a _ _ e31) (gx_cw C gx_uu lk_X3_115 (by decide) (by decide)) (cls_X3 hx).1 (gs_recv (q := 77) lt_X_Judge (oc_X_Judge a ι _)) rfl rfl (Nat.le_of_ble_eq_true rfl) ⟨Nat.zero_le _, Nat.zero_le _⟩ dX3_readLetter_246 ?_
            refine gx_goto (tgt := 288) C dX3_readLetter_249 (by decide) ?_
            exact gx_vret C F dX3_readLetter_288 (Option.some.inj h)
          · have h := gi_f hc7 h
            by_cases hc8 : v2 = 114
            · have h := gi_t hc8 h
              refine gx_look (tgt := 252) (off := 247) C dX3_readLetter_5 (by decide) (by rw [hc8]; decide) (by decide) ?_
              refine gx_aload_0 C dX3_readLetter_252 rfl ?_
              refine gx_aload_0 C dX3_readLetter_253 rfl ?_
              refine gs_getf (q := 77) C fl_X3_49 (cls_X3 hx) lt_X_Judge (oc_X_Judge a ι _) rfl dX3_readLetter_254 ?_
              refine gx_aload_1 C dX3_readLetter_257 rfl ?_
              refine gx_iload_2 C dX3_readLetter_258 rfl ?_
              refine gx_iconst1 C dX3_readLetter_259 ?_
              refine gx_iadd C dX3_readLetter_260 ?_
              obtain ⟨v34, e33, h⟩ := gi_cp h
              refine gc_IS C (c_Judge_comparisonHolds (gx_l Γ) (gx_D Γ) hx a (r1 := r1) hr1 _ _ _ e33) (gx_cwS C gx_uu lk_X3_119 (by decide) (by decide)) rfl rfl (Nat.le_of_ble_eq_true rfl) ⟨Nat.zero_le _, Nat.zero_le _⟩ dX3_readLetter_261 ?_
              obtain ⟨S36, e35, h⟩ := gi_cp h
              refine gc_VV C (c_Judge_takeFactor (gx_l Γ) (gx_D Γ) hx a _ _ e35) (gx_cw C gx_uu lk_X3_115 (by decide) (by decide)) (cls_X3 hx).1 (gs_recv (q := 77) lt_X_Judge (oc_X_Judge a ι _)) rfl rfl (Nat.le_of_ble_eq_true rfl) ⟨Nat.zero_le _, Nat.zero_le _⟩ dX3_readLetter_264 ?_
              refine gx_goto (tgt := 288) C dX3_readLetter_267 (by decide) ?_
              exact gx_vret C F dX3_readLetter_288 (Option.some.inj h)
            · have h := gi_f hc8 h
              by_cases hc9 : v2 = 115
              · have h := gi_t hc9 h
                refine gx_look (tgt := 216) (off := 211) C dX3_readLetter_5 (by decide) (by rw [hc9]; decide) (by decide) ?_
                refine gx_aload_0 C dX3_readLetter_216 rfl ?_
                refine gx_aload_0 C dX3_readLetter_217 rfl ?_
                refine gs_getf (q := 77) C fl_X3_46 (cls_X3 hx) lt_X_Judge (oc_X_Judge a ι _) rfl dX3_readLetter_218 ?_
                refine gx_aload_1 C dX3_readLetter_221 rfl ?_
                refine gx_iload_2 C dX3_readLetter_222 rfl ?_
                refine gx_iconst1 C dX3_readLetter_223 ?_
                refine gx_iadd C dX3_readLetter_224 ?_
                obtain ⟨v38, e37, h⟩ := gi_cp h
                refine gc_IS C (c_Judge_comparisonHolds (gx_l Γ) (gx_D Γ) hx a (r1 := r1) hr1 _ _ _ e37) (gx_cwS C gx_uu lk_X3_119 (by decide) (by decide)) rfl rfl (Nat.le_of_ble_eq_true rfl) ⟨Nat.zero_le _, Nat.zero_le _⟩ dX3_readLetter_225 ?_
                obtain ⟨S40, e39, h⟩ := gi_cp h
                refine gc_VV C (c_Judge_takeFactor (gx_l Γ) (gx_D Γ) hx a _ _ e39) (gx_cw C gx_uu lk_X3_115 (by decide) (by decide)) (cls_X3 hx).1 (gs_recv (q := 77) lt_X_Judge (oc_X_Judge a ι _)) rfl rfl (Nat.le_of_ble_eq_true rfl) ⟨Nat.zero_le _, Nat.zero_le _⟩ dX3_readLetter_228 ?_
                refine gx_goto (tgt := 288) C dX3_readLetter_231 (by decide) ?_
                exact gx_vret C F dX3_readLetter_288 (Option.some.inj h)
              · have h := gi_f hc9 h
                by_cases hc10 : v2 = 124
                · have h := gi_t hc10 h
                  refine gx_look (tgt := 109) (off := 104) C dX3_readLetter_5 (by decide) (by rw [hc10]; decide) (by decide) ?_
                  refine gx_aload_0 C dX3_readLetter_109 rfl ?_
                  refine gs_getf (q := 77) C fl_X3_15 (cls_X3 hx) lt_X_Judge (oc_X_Judge a ι _) rfl dX3_readLetter_110 ?_
                  refine gx_aload_0 C dX3_readLetter_113 rfl ?_
                  refine gs_getf (q := 77) C fl_X3_92 (cls_X3 hx) lt_X_Judge (oc_X_Judge a ι _) rfl dX3_readLetter_114 ?_
                  refine gx_aload_0 C dX3_readLetter_117 rfl ?_
                  refine gs_getf (q := 77) C fl_X3_15 (cls_X3 hx) lt_X_Judge (oc_X_Judge a ι _) rfl dX3_readLetter_118 ?_
                  refine gx_aload_0 C dX3_readLetter_121 rfl ?_
                  refine gs_getf (q := 77) C fl_X3_92 (cls_X3 hx) lt_X_Judge (oc_X_Judge a ι _) rfl dX3_readLetter_122 ?_
                  obtain ⟨hi41, h⟩ := gi_ck h
                  refine gs_zald (q := 79) C (ac_X_Judge_any hx a) lt_X_Judge_any hi41 dX3_readLetter_125 ?_
                  refine gx_if_ne (tgt := 141) C dX3_readLetter_126 (by decide) (fun hc43 => ?_) (fun hc43 => ?_)
                  · have h := gi_f hc43 h
                    exact gx_weak (gx_le_k rfl (gx_le_k rfl (gx_le_n (gx_le_n gx_le_0)))) (b_Judge_readLetter_141 hx hr1 C ⟨F, hnL⟩ h)
                  · have h := gi_t hc43 h
                    refine gx_aload_0 C dX3_readLetter_129 rfl ?_
                    refine gs_getf (q := 77) C fl_X3_19 (cls_X3 hx) lt_X_Judge (oc_X_Judge a ι _) rfl dX3_readLetter_130 ?_
                    refine gx_aload_0 C dX3_readLetter_133 rfl ?_
                    refine gs_getf (q := 77) C fl_X3_92 (cls_X3 hx) lt_X_Judge (oc_X_Judge a ι _) rfl dX3_readLetter_134 ?_
                    refine gs_zald (q := 80) C (ac_X_Judge_all hx a) lt_X_Judge_all hi41 dX3_readLetter_137 ?_
                    refine gx_if_eq (tgt := 145) C dX3_readLetter_138 (by decide) (fun hc42 => ?_) (fun hc42 => ?_)
                    · have h := gi_t hc42 h
                      refine gx_iconst0 C dX3_readLetter_145 ?_
                      exact gx_weak (gx_le_k rfl (gx_le_k rfl (gx_le_n (gx_le_n gx_le_0)))) (b_Judge_readLetter_146 hx hr1 C ⟨F, hnL⟩ h)
                    · have h := gi_f hc42 h
                      exact gx_weak (gx_le_k rfl (gx_le_k rfl (gx_le_n (gx_le_n gx_le_0)))) (b_Judge_readLetter_141 hx hr1 C ⟨F, hnL⟩ h)
                · have h := gi_f hc10 h
                  refine gx_look (tgt := 288) (off := 283) C dX3_readLetter_5 (by decide) (by show Op.lookupswitch.offset (_ :: _) _ _ = _; rw [lv_osw hc3 (by decide), lv_osw hc4 (by decide), lv_osw hc5 (by decide), lv_osw hc6 (by decide), lv_osw hc7 (by decide), lv_osw hc8 (by decide), lv_osw hc9 (by decide), lv_osw hc10 (by decide)]; rfl) (by decide) ?_
                  exact gx_vret C F dX3_readLetter_288 (Option.some.inj h)
def m_Judge_holds_11 (r1 : Nat) (t : Int32 × gx_S) (k11 : Int32 × gx_S → Option (Int32 × gx_S)) : Option (Int32 × gx_S) := match t with
  | (x2, S) => if (S (66 + 2 * r1) 1) ≤ x2 then gx_cp (m_Judge_termsHold S) fun v2 => gx_bz v2 (some (v2, S)) else gx_cp (m_Judge_readLetter r1 x2 S) fun S5 => k11 ((x2 + 1), S5)
set_option maxRecDepth 20000 in
set_option maxHeartbeats 1000000 in
theorem b_Judge_holds_11 {Γ : gx_T} {ι : Nat → ClassId} {a : Nat → Nat} {r1 : Nat} {out : Int32 × gx_S} (hx : gx_std vwCl (gty ι) (gx_cl Γ) (gx_ty Γ)) (hr1 : r1 < 5) (C : gx_ok Γ cX3_holds RX3 gx_U 3) (F : gx_finI Γ ((Option.some Jvm.ClassFile.FieldType.boolean)) (wX a ι) out ∧ gx_nL Γ = 3) {k11 : Int32 × gx_S → Option (Int32 × gx_S)} {x2 : Int32} {S : gx_S} (hk11 : ∀ (x27 : Int32) (S7 : gx_S), k11 (x27, S7) = some out → gx_G Γ 0 0 11 [.ref (a 77), .ref (a (66 + 2 * r1)), .int x27] [] (wX a ι S7)) (h : m_Judge_holds_11 r1 (x2, S) k11 = some out) : gx_G Γ 0 0 11 [.ref (a 77), .ref (a (66 + 2 * r1)), .int x2] [] (wX a ι S) := by
  obtain ⟨F, hnL⟩ := F
  unfold m_Judge_holds_11 at h
  dsimp only at h
  refine gx_iload_2 C dX3_holds_11 rfl ?_
  refine gx_aload_1 C dX3_holds_12 rfl ?_
  refine gs_getf (q := (66 + 2 * r1)) C fl_X3_98 (cls_X6 hx) (lt_X_Text (q := r1) hr1) (oc_X_Text a ι _ (q := r1) hr1) rfl dX3_holds_13 ?_
  refine gx_icmp_ge (tgt := 31) C dX3_holds_16 (by decide) (fun hc6 => ?_) (fun hc6 => ?_)
  · have h := gi_t hc6 h
    refine gx_aload_0 C dX3_holds_31 rfl ?_
    obtain ⟨v2, e1, h⟩ := gi_cp h
    refine gc_IV C (c_Judge_termsHold (gx_l Γ) (gx_D Γ) hx a _ e1) (gx_cw C gx_uu lk_X3_107 (by decide) (by decide)) (cls_X3 hx).1 (gs_recv (q := 77) lt_X_Judge (oc_X_Judge a ι _)) rfl rfl (Nat.le_of_ble_eq_true rfl) ⟨Nat.zero_le _, Nat.zero_le _⟩ dX3_holds_32 ?_
    obtain ⟨hz3, h⟩ := gi_bz h
    exact gx_iret C F hz3.1 dX3_holds_35 (Option.some.inj h)
  · have h := gi_f hc6 h
    refine gx_aload_0 C dX3_holds_19 rfl ?_
    refine gx_aload_1 C dX3_holds_20 rfl ?_
    refine gx_iload_2 C dX3_holds_21 rfl ?_
    obtain ⟨S5, e4, h⟩ := gi_cp h
    refine gc_VV C (c_Judge_readLetter (gx_l Γ) (gx_D Γ) hx a (r1 := r1) hr1 _ _ e4) (gx_cw C gx_uu lk_X3_103 (by decide) (by decide)) (cls_X3 hx).1 (gs_recv (q := 77) lt_X_Judge (oc_X_Judge a ι _)) rfl rfl (Nat.le_of_ble_eq_true rfl) ⟨Nat.zero_le _, Nat.zero_le _⟩ dX3_holds_22 ?_
    refine gx_iinc1 C dX3_holds_25 rfl (by rw [hnL]; decide) trivial ?_
    refine gx_goto (tgt := 11) C dX3_holds_28 (by decide) ?_
    exact gx_weak (gx_le_k rfl (gx_le_k rfl (gx_le_k rfl gx_le_0))) (hk11 _ _ h)
def m_Judge_holds (r1 : Nat) (S : gx_S) : Option (Int32 × gx_S) := gx_let (gx_st S 77 5 0) fun S1 => gx_cp (m_Judge_startTerms S1) fun S4 => gx_loop (m_Judge_holds_11 r1) 5000 (0, S4)
set_option maxRecDepth 20000 in
set_option maxHeartbeats 1000000 in
theorem c_Judge_holds (l : Launch) (D : va_G) {cl : List vw_C} {tys : List (ClassId × FieldType)} {ι : Nat → ClassId} (hx : gx_std vwCl (gty ι) cl tys) (a : Nat → Nat) {r1 : Nat} (hr1 : r1 < 5) (S : gx_S) {out : Int32 × gx_S} (h : m_Judge_holds r1  S = some out) : gx_mI l D cl tys yX3_holds (.code yX3_holds cX3_holds 3 ((Option.some Jvm.ClassFile.FieldType.boolean)) :: gx_U) (gx_rm 3) [.ref (a 77), .ref (a (66 + 2 * r1))] (wX a ι S) (wX a ι) out := by
  unfold m_Judge_holds at h
  refine gx_startI (V := [.ref (a 77), .ref (a (66 + 2 * r1)), .null]) 1 (by decide +kernel) (Nat.le_of_ble_eq_true rfl) rfl (fun Γ hl hD hcl hty hnL C F => ?_)
  subst hl; subst hD; subst hcl; subst hty
  refine gx_aload_0 C dX3_holds_0 rfl ?_
  refine gx_iconst0 C dX3_holds_1 ?_
  obtain ⟨S1, e2, h⟩ := gi_let h
  refine gs_puti (q := 77) C fl_X3_92 (cls_X3 hx) lt_X_Judge (oc_X_Judge a ι _) (oc_X_Judge a ι _) rfl rfl rfl (Nat.le_of_ble_eq_true rfl) e2 dX3_holds_2 ?_
  refine gx_aload_0 C dX3_holds_5 rfl ?_
  obtain ⟨S4, e3, h⟩ := gi_cp h
  refine gc_VV C (c_Judge_startTerms (gx_l Γ) (gx_D Γ) hx a _ e3) (gx_cw C gx_uu lk_X3_95 (by decide) (by decide)) (cls_X3 hx).1 (gs_recv (q := 77) lt_X_Judge (oc_X_Judge a ι _)) rfl rfl (Nat.le_of_ble_eq_true rfl) ⟨Nat.zero_le _, Nat.zero_le _⟩ dX3_holds_6 ?_
  refine gx_iconst0 C dX3_holds_9 ?_
  refine gx_istore_2 C dX3_holds_10 (by rw [hnL]; decide) trivial ?_
  refine gx_weak (gx_le_k rfl (gx_le_k rfl (gx_le_k rfl gx_le_0))) (gi_loop (P := fun t => gx_G Γ 0 0 11 [.ref (a 77), .ref (a (66 + 2 * r1)), .int t.1] [] (wX a ι t.2)) (fun kk t hk h => ?_) 5000 _ h)
  obtain ⟨x29, S'9⟩ := t
  exact b_Judge_holds_11 hx hr1 C ⟨F, hnL⟩ (k11 := kk) (fun x28 S'8 h => hk (x28, S'8) h) h
def m_Standing_setOf_31 (r : Nat) (k4 : Int32 × Int32 → Option (Int32)) (x1 : Int32) (x2 : Int32) (x3 : Int32) (S : gx_S) : Option (Int32) := k4 (x2, (x3 + 1))
set_option maxRecDepth 20000 in
set_option maxHeartbeats 1000000 in
theorem b_Standing_setOf_31 {Γ : gx_T} {ι : Nat → ClassId} {a : Nat → Nat} {r : Nat} {out : Int32} {S : gx_S} (hx : gx_std vwCl (gty ι) (gx_cl Γ) (gx_ty Γ)) (hr : r < 5) (C : gx_ok Γ cX4_setOf RX4 gx_U 0) (F : gx_finI Γ ((Option.some Jvm.ClassFile.FieldType.int)) (wX a ι) (out, S) ∧ gx_nL Γ = 4) {k4 : Int32 × Int32 → Option (Int32)} {x1 : Int32} {x2 : Int32} {x3 : Int32} (hk4 : ∀ (x27 : Int32) (x37 : Int32), k4 (x27, x37) = some out → gx_G Γ 0 0 4 [.ref (a (21 + 4 * r)), .int x1, .int x27, .int x37] [] (wX a ι S)) (h : m_Standing_setOf_31 r k4 x1 x2 x3 S = some out) : gx_G Γ 0 0 31 [.ref (a (21 + 4 * r)), .int x1, .int x2, .int x3] [] (wX a ι S) := by
  obtain ⟨F, hnL⟩ := F
  unfold m_Standing_setOf_31 at h
  refine gx_iinc1 C dX4_setOf_31 rfl (by rw [hnL]; decide) trivial ?_
  refine gx_goto (tgt := 4) C dX4_setOf_34 (by decide) ?_
  exact gx_weak (gx_le_k rfl (gx_le_k rfl (gx_le_k rfl (gx_le_k rfl gx_le_0)))) (hk4 _ _ h)
def m_Standing_setOf_4 (r : Nat) (x1 : Int32) (S : gx_S) (t : Int32 × Int32) (k4 : Int32 × Int32 → Option (Int32)) : Option (Int32) := match t with
  | (x2, x3) => if (S 1 1) ≤ x3 then some x2 else gx_ck 6 x3 (if (S (21 + 4 * r + 2) x3.toNatClampNeg) = x1 then m_Standing_setOf_31 r k4 x1 (x2 ||| ((1 : Int32) <<< (x3 &&& 31))) x3 S else m_Standing_setOf_31 r k4 x1 x2 x3 S)
set_option maxRecDepth 20000 in
set_option maxHeartbeats 1000000 in
theorem b_Standing_setOf_4 {Γ : gx_T} {ι : Nat → ClassId} {a : Nat → Nat} {r : Nat} {out : Int32} {S : gx_S} (hx : gx_std vwCl (gty ι) (gx_cl Γ) (gx_ty Γ)) (hr : r < 5) (C : gx_ok Γ cX4_setOf RX4 gx_U 0) (F : gx_finI Γ ((Option.some Jvm.ClassFile.FieldType.int)) (wX a ι) (out, S) ∧ gx_nL Γ = 4) {k4 : Int32 × Int32 → Option (Int32)} {x1 : Int32} {x2 : Int32} {x3 : Int32} (hk4 : ∀ (x27 : Int32) (x37 : Int32), k4 (x27, x37) = some out → gx_G Γ 0 0 4 [.ref (a (21 + 4 * r)), .int x1, .int x27, .int x37] [] (wX a ι S)) (h : m_Standing_setOf_4 r x1 S (x2, x3) k4 = some out) : gx_G Γ 0 0 4 [.ref (a (21 + 4 * r)), .int x1, .int x2, .int x3] [] (wX a ι S) := by
  obtain ⟨F, hnL⟩ := F
  unfold m_Standing_setOf_4 at h
  dsimp only at h
  refine gx_iload_3 C dX4_setOf_4 rfl ?_
  refine gx_aload_0 C dX4_setOf_5 rfl ?_
  refine gs_getf (q := (21 + 4 * r)) C fl_X4_22 (cls_X4 hx) (lt_X_Standing (q := r) hr) (oc_X_Standing a ι _ (q := r) hr) rfl dX4_setOf_6 ?_
  refine gs_getf (q := 1) C fl_X4_26 (cls_X5 hx) lt_X_Street (oc_X_Street a ι _) rfl dX4_setOf_9 ?_
  refine gx_icmp_ge (tgt := 37) C dX4_setOf_12 (by decide) (fun hc3 => ?_) (fun hc3 => ?_)
  · have h := gi_t hc3 h
    refine gx_iload_2 C dX4_setOf_37 rfl ?_
    exact gx_iret C F rfl dX4_setOf_38 (congrArg (fun z => (z, S)) (Option.some.inj h))
  · have h := gi_f hc3 h
    refine gx_aload_0 C dX4_setOf_15 rfl ?_
    refine gs_getf (q := (21 + 4 * r)) C fl_X4_15 (cls_X4 hx) (lt_X_Standing (q := r) hr) (oc_X_Standing a ι _ (q := r) hr) rfl dX4_setOf_16 ?_
    refine gx_iload_3 C dX4_setOf_19 rfl ?_
    obtain ⟨hi1, h⟩ := gi_ck h
    refine gs_iald (q := (21 + 4 * r + 2)) C (ac_X_Standing_whose hx a (q := r) hr) (lt_X_Standing_whose (q := r) hr) hi1 dX4_setOf_20 ?_
    refine gx_iload_1 C dX4_setOf_21 rfl ?_
    refine gx_icmp_ne (tgt := 31) C dX4_setOf_22 (by decide) (fun hc2 => ?_) (fun hc2 => ?_)
    · have h := gi_f hc2 h
      exact gx_weak (gx_le_k rfl (gx_le_k rfl (gx_le_k rfl (gx_le_k rfl gx_le_0)))) (b_Standing_setOf_31 hx hr C ⟨F, hnL⟩ hk4 h)
    · have h := gi_t hc2 h
      refine gx_iload_2 C dX4_setOf_25 rfl ?_
      refine gx_iconst1 C dX4_setOf_26 ?_
      refine gx_iload_3 C dX4_setOf_27 rfl ?_
      refine gx_ishl C dX4_setOf_28 ?_
      refine gx_ior C dX4_setOf_29 ?_
      refine gx_istore_2 C dX4_setOf_30 (by rw [hnL]; decide) trivial ?_
      exact gx_weak (gx_le_k rfl (gx_le_k rfl (gx_le_k rfl (gx_le_k rfl gx_le_0)))) (b_Standing_setOf_31 hx hr C ⟨F, hnL⟩ hk4 h)
def m_Standing_setOf (r : Nat) (x1 : Int32) (S : gx_S) : Option (Int32) := gx_loop (m_Standing_setOf_4 r x1 S) 5000 (0, 0)
set_option maxRecDepth 20000 in
set_option maxHeartbeats 1000000 in
theorem c_Standing_setOf (l : Launch) (D : va_G) {cl : List vw_C} {tys : List (ClassId × FieldType)} {ι : Nat → ClassId} (hx : gx_std vwCl (gty ι) cl tys) (a : Nat → Nat) {r : Nat} (hr : r < 5) (x1 : Int32) (S : gx_S) {out : Int32} (h : m_Standing_setOf r x1 S = some out) : gx_mI l D cl tys yX4_setOf (.code yX4_setOf cX4_setOf 4 ((Option.some Jvm.ClassFile.FieldType.int)) :: gx_U) (gx_rm 0) [.ref (a (21 + 4 * r)), .int x1] (wX a ι S) (wX a ι) (out, S) := by
  unfold m_Standing_setOf at h
  refine gx_startI (V := [.ref (a (21 + 4 * r)), .int x1, .null, .null]) 2 (by decide +kernel) (Nat.le_of_ble_eq_true rfl) rfl (fun Γ hl hD hcl hty hnL C F => ?_)
  subst hl; subst hD; subst hcl; subst hty
  refine gx_iconst0 C dX4_setOf_0 ?_
  refine gx_istore_2 C dX4_setOf_1 (by rw [hnL]; decide) trivial ?_
  refine gx_iconst0 C dX4_setOf_2 ?_
  refine gx_istore_3 C dX4_setOf_3 (by rw [hnL]; decide) trivial ?_
  refine gx_weak (gx_le_k rfl (gx_le_k rfl (gx_le_k rfl (gx_le_k rfl gx_le_0)))) (gi_loop (P := fun t => gx_G Γ 0 0 4 [.ref (a (21 + 4 * r)), .int x1, .int t.1, .int t.2] [] (wX a ι S)) (fun kk t hk h => ?_) 5000 _ h)
  obtain ⟨x29, x39⟩ := t
  exact b_Standing_setOf_4 hx hr C ⟨F, hnL⟩ (k4 := kk) (fun x28 x38 h => hk (x28, x38) h) h
def m_Integer_bitCount (x0 : Int32) (S : gx_S) : Option (Int32) := some ((((((((x0 - (((x0.toUInt32 >>> ((1 : Int32).toUInt32 &&& Int32.toUInt32 31)).toInt32) &&& (1431655765 : Int32))) &&& (858993459 : Int32)) + ((((x0 - (((x0.toUInt32 >>> ((1 : Int32).toUInt32 &&& Int32.toUInt32 31)).toInt32) &&& (1431655765 : Int32))).toUInt32 >>> ((2 : Int32).toUInt32 &&& Int32.toUInt32 31)).toInt32) &&& (858993459 : Int32))) + (((((x0 - (((x0.toUInt32 >>> ((1 : Int32).toUInt32 &&& Int32.toUInt32 31)).toInt32) &&& (1431655765 : Int32))) &&& (858993459 : Int32)) + ((((x0 - (((x0.toUInt32 >>> ((1 : Int32).toUInt32 &&& Int32.toUInt32 31)).toInt32) &&& (1431655765 : Int32))).toUInt32 >>> ((2 : Int32).toUInt32 &&& Int32.toUInt32 31)).toInt32) &&& (858993459 : Int32))).toUInt32 >>> ((4 : Int32).toUInt32 &&& Int32.toUInt32 31)).toInt32)) &&& (252645135 : Int32)) + (((((((x0 - (((x0.toUInt32 >>> ((1 : Int32).toUInt32 &&& Int32.toUInt32 31)).toInt32) &&& (1431655765 : Int32))) &&& (858993459 : Int32)) + ((((x0 - (((x0.toUInt32 >>> ((1 : Int32).toUInt32 &&& Int32.toUInt32 31)).toInt32) &&& (1431655765 : Int32))).toUInt32 >>> ((2 : Int32).toUInt32 &&& Int32.toUInt32 31)).toInt32) &&& (858993459 : Int32))) + (((((x0 - (((x0.toUInt32 >>> ((1 : Int32).toUInt32 &&& Int32.toUInt32 31)).toInt32) &&& (1431655765 : Int32))) &&& (858993459 : Int32)) + ((((x0 - (((x0.toUInt32 >>> ((1 : Int32).toUInt32 &&& Int32.toUInt32 31)).toInt32) &&& (1431655765 : Int32))).toUInt32 >>> ((2 : Int32).toUInt32 &&& Int32.toUInt32 31)).toInt32) &&& (858993459 : Int32))).toUInt32 >>> ((4 : Int32).toUInt32 &&& Int32.toUInt32 31)).toInt32)) &&& (252645135 : Int32)).toUInt32 >>> ((8 : Int32).toUInt32 &&& Int32.toUInt32 31)).toInt32)) + ((((((((x0 - (((x0.toUInt32 >>> ((1 : Int32).toUInt32 &&& Int32.toUInt32 31)).toInt32) &&& (1431655765 : Int32))) &&& (858993459 : Int32)) + ((((x0 - (((x0.toUInt32 >>> ((1 : Int32).toUInt32 &&& Int32.toUInt32 31)).toInt32) &&& (1431655765 : Int32))).toUInt32 >>> ((2 : Int32).toUInt32 &&& Int32.toUInt32 31)).toInt32) &&& (858993459 : Int32))) + (((((x0 - (((x0.toUInt32 >>> ((1 : Int32).toUInt32 &&& Int32.toUInt32 31)).toInt32) &&& (1431655765 : Int32))) &&& (858993459 : Int32)) + ((((x0 - (((x0.toUInt32 >>> ((1 : Int32).toUInt32 &&& Int32.toUInt32 31)).toInt32) &&& (1431655765 : Int32))).toUInt32 >>> ((2 : Int32).toUInt32 &&& Int32.toUInt32 31)).toInt32) &&& (858993459 : Int32))).toUInt32 >>> ((4 : Int32).toUInt32 &&& Int32.toUInt32 31)).toInt32)) &&& (252645135 : Int32)) + (((((((x0 - (((x0.toUInt32 >>> ((1 : Int32).toUInt32 &&& Int32.toUInt32 31)).toInt32) &&& (1431655765 : Int32))) &&& (858993459 : Int32)) + ((((x0 - (((x0.toUInt32 >>> ((1 : Int32).toUInt32 &&& Int32.toUInt32 31)).toInt32) &&& (1431655765 : Int32))).toUInt32 >>> ((2 : Int32).toUInt32 &&& Int32.toUInt32 31)).toInt32) &&& (858993459 : Int32))) + (((((x0 - (((x0.toUInt32 >>> ((1 : Int32).toUInt32 &&& Int32.toUInt32 31)).toInt32) &&& (1431655765 : Int32))) &&& (858993459 : Int32)) + ((((x0 - (((x0.toUInt32 >>> ((1 : Int32).toUInt32 &&& Int32.toUInt32 31)).toInt32) &&& (1431655765 : Int32))).toUInt32 >>> ((2 : Int32).toUInt32 &&& Int32.toUInt32 31)).toInt32) &&& (858993459 : Int32))).toUInt32 >>> ((4 : Int32).toUInt32 &&& Int32.toUInt32 31)).toInt32)) &&& (252645135 : Int32)).toUInt32 >>> ((8 : Int32).toUInt32 &&& Int32.toUInt32 31)).toInt32)).toUInt32 >>> ((16 : Int32).toUInt32 &&& Int32.toUInt32 31)).toInt32)) &&& (63 : Int32))
set_option maxRecDepth 20000 in
set_option maxHeartbeats 1000000 in
theorem c_Integer_bitCount (l : Launch) (D : va_G) {cl : List vw_C} {tys : List (ClassId × FieldType)} {ι : Nat → ClassId} (hx : gx_std vwCl (gty ι) cl tys) (a : Nat → Nat) (x0 : Int32) (S : gx_S) {out : Int32} (h : m_Integer_bitCount x0 S = some out) : gx_mI l D cl tys yJ6_bitCount_0f7a4 (.code yJ6_bitCount_0f7a4 cJ6_bitCount_0f7a4 1 ((Option.some Jvm.ClassFile.FieldType.int)) :: gx_U) (gx_rm 0) [.int x0] (wX a ι S) (wX a ι) (out, S) := by
  unfold m_Integer_bitCount at h
  refine gx_startI (V := [.int x0]) 0 (by decide +kernel) (Nat.le_of_ble_eq_true rfl) rfl (fun Γ hl hD hcl hty hnL C F => ?_)
  subst hl; subst hD; subst hcl; subst hty
  refine gx_iload_0 C dJ6_bitCount_0f7a4_0 rfl ?_
  refine gx_iload_0 C dJ6_bitCount_0f7a4_1 rfl ?_
  refine gx_iconst1 C dJ6_bitCount_0f7a4_2 ?_
  refine gx_iushr C dJ6_bitCount_0f7a4_3 ?_
  refine gx_ldcw (v := 1431655765) C dJ6_bitCount_0f7a4_4 kJ6_265 ?_
  refine gx_iand C dJ6_bitCount_0f7a4_7 ?_
  refine gx_isub C dJ6_bitCount_0f7a4_8 ?_
  refine gx_istore_0 C dJ6_bitCount_0f7a4_9 (by rw [hnL]; decide) trivial ?_
  refine gx_iload_0 C dJ6_bitCount_0f7a4_10 rfl ?_
  refine gx_ldcw (v := 858993459) C dJ6_bitCount_0f7a4_11 kJ6_266 ?_
  refine gx_iand C dJ6_bitCount_0f7a4_14 ?_
  refine gx_iload_0 C dJ6_bitCount_0f7a4_15 rfl ?_
  refine gx_iconst2 C dJ6_bitCount_0f7a4_16 ?_
  refine gx_iushr C dJ6_bitCount_0f7a4_17 ?_
  refine gx_ldcw (v := 858993459) C dJ6_bitCount_0f7a4_18 kJ6_266 ?_
  refine gx_iand C dJ6_bitCount_0f7a4_21 ?_
  refine gx_iadd C dJ6_bitCount_0f7a4_22 ?_
  refine gx_istore_0 C dJ6_bitCount_0f7a4_23 (by rw [hnL]; decide) trivial ?_
  refine gx_iload_0 C dJ6_bitCount_0f7a4_24 rfl ?_
  refine gx_iload_0 C dJ6_bitCount_0f7a4_25 rfl ?_
  refine gx_iconst4 C dJ6_bitCount_0f7a4_26 ?_
  refine gx_iushr C dJ6_bitCount_0f7a4_27 ?_
  refine gx_iadd C dJ6_bitCount_0f7a4_28 ?_
  refine gx_ldcw (v := 252645135) C dJ6_bitCount_0f7a4_29 kJ6_267 ?_
  refine gx_iand C dJ6_bitCount_0f7a4_32 ?_
  refine gx_istore_0 C dJ6_bitCount_0f7a4_33 (by rw [hnL]; decide) trivial ?_
  refine gx_iload_0 C dJ6_bitCount_0f7a4_34 rfl ?_
  refine gx_iload_0 C dJ6_bitCount_0f7a4_35 rfl ?_
  refine gx_bipush (v := 8) C dJ6_bitCount_0f7a4_36 (by decide) ?_
  refine gx_iushr C dJ6_bitCount_0f7a4_38 ?_
  refine gx_iadd C dJ6_bitCount_0f7a4_39 ?_
  refine gx_istore_0 C dJ6_bitCount_0f7a4_40 (by rw [hnL]; decide) trivial ?_
  refine gx_Veq (V' := [.int ((((((x0 - (((x0.toUInt32 >>> ((1 : Int32).toUInt32 &&& Int32.toUInt32 31)).toInt32) &&& (1431655765 : Int32))) &&& (858993459 : Int32)) + ((((x0 - (((x0.toUInt32 >>> ((1 : Int32).toUInt32 &&& Int32.toUInt32 31)).toInt32) &&& (1431655765 : Int32))).toUInt32 >>> ((2 : Int32).toUInt32 &&& Int32.toUInt32 31)).toInt32) &&& (858993459 : Int32))) + (((((x0 - (((x0.toUInt32 >>> ((1 : Int32).toUInt32 &&& Int32.toUInt32 31)).toInt32) &&& (1431655765 : Int32))) &&& (858993459 : Int32)) + ((((x0 - (((x0.toUInt32 >>> ((1 : Int32).toUInt32 &&& Int32.toUInt32 31)).toInt32) &&& (1431655765 : Int32))).toUInt32 >>> ((2 : Int32).toUInt32 &&& Int32.toUInt32 31)).toInt32) &&& (858993459 : Int32))).toUInt32 >>> ((4 : Int32).toUInt32 &&& Int32.toUInt32 31)).toInt32)) &&& (252645135 : Int32)) + (((((((x0 - (((x0.toUInt32 >>> ((1 : Int32).toUInt32 &&& Int32.toUInt32 31)).toInt32) &&& (1431655765 : Int32))) &&& (858993459 : Int32)) + ((((x0 - (((x0.toUInt32 >>> ((1 : Int32).toUInt32 &&& Int32.toUInt32 31)).toInt32) &&& (1431655765 : Int32))).toUInt32 >>> ((2 : Int32).toUInt32 &&& Int32.toUInt32 31)).toInt32) &&& (858993459 : Int32))) + (((((x0 - (((x0.toUInt32 >>> ((1 : Int32).toUInt32 &&& Int32.toUInt32 31)).toInt32) &&& (1431655765 : Int32))) &&& (858993459 : Int32)) + ((((x0 - (((x0.toUInt32 >>> ((1 : Int32).toUInt32 &&& Int32.toUInt32 31)).toInt32) &&& (1431655765 : Int32))).toUInt32 >>> ((2 : Int32).toUInt32 &&& Int32.toUInt32 31)).toInt32) &&& (858993459 : Int32))).toUInt32 >>> ((4 : Int32).toUInt32 &&& Int32.toUInt32 31)).toInt32)) &&& (252645135 : Int32)).toUInt32 >>> ((8 : Int32).toUInt32 &&& Int32.toUInt32 31)).toInt32))]) rfl ?_
  refine gx_iload_0 C dJ6_bitCount_0f7a4_41 rfl ?_
  refine gx_iload_0 C dJ6_bitCount_0f7a4_42 rfl ?_
  refine gx_bipush (v := 16) C dJ6_bitCount_0f7a4_43 (by decide) ?_
  refine gx_iushr C dJ6_bitCount_0f7a4_45 ?_
  refine gx_iadd C dJ6_bitCount_0f7a4_46 ?_
  refine gx_istore_0 C dJ6_bitCount_0f7a4_47 (by rw [hnL]; decide) trivial ?_
  refine gx_iload_0 C dJ6_bitCount_0f7a4_48 rfl ?_
  refine gx_bipush (v := 63) C dJ6_bitCount_0f7a4_49 (by decide) ?_
  refine gx_iand C dJ6_bitCount_0f7a4_51 ?_
  exact gx_iret C F rfl dJ6_bitCount_0f7a4_52 (congrArg (fun z => (z, S)) (Option.some.inj h))
def m_Standing_shopsOf (r : Nat) (x1 : Int32) (S : gx_S) : Option (Int32) := gx_cp (m_Standing_setOf r x1 S) fun v2 => gx_cp (m_Integer_bitCount v2 S) fun v4 => some v4
set_option maxRecDepth 20000 in
set_option maxHeartbeats 1000000 in
theorem c_Standing_shopsOf (l : Launch) (D : va_G) {cl : List vw_C} {tys : List (ClassId × FieldType)} {ι : Nat → ClassId} (hx : gx_std vwCl (gty ι) cl tys) (a : Nat → Nat) {r : Nat} (hr : r < 5) (x1 : Int32) (S : gx_S) {out : Int32} (h : m_Standing_shopsOf r x1 S = some out) : gx_mI l D cl tys yX4_shopsOf (.code yX4_shopsOf cX4_shopsOf 2 ((Option.some Jvm.ClassFile.FieldType.int)) :: gx_U) (gx_rm 1) [.ref (a (21 + 4 * r)), .int x1] (wX a ι S) (wX a ι) (out, S) := by
  unfold m_Standing_shopsOf at h
  refine gx_startI (V := [.ref (a (21 + 4 * r)), .int x1]) 0 (by decide +kernel) (Nat.le_of_ble_eq_true rfl) rfl (fun Γ hl hD hcl hty hnL C F => ?_)
  subst hl; subst hD; subst hcl; subst hty
  refine gx_aload_0 C dX4_shopsOf_0 rfl ?_
  refine gx_iload_1 C dX4_shopsOf_1 rfl ?_
  obtain ⟨v2, e1, h⟩ := gi_cp h
  refine gc_IV C (c_Standing_setOf (gx_l Γ) (gx_D Γ) hx a (r := r) hr _ _ e1) (gx_cw C gx_uu lk_X4_32 (by decide) (by decide)) (cls_X4 hx).1 (gs_recv (q := (21 + 4 * r)) (lt_X_Standing (q := r) hr) (oc_X_Standing a ι _ (q := r) hr)) rfl rfl (Nat.le_of_ble_eq_true rfl) ⟨Nat.zero_le _, Nat.zero_le _⟩ dX4_shopsOf_2 ?_
  obtain ⟨v4, e3, h⟩ := gi_cp h
  refine gc_IS C (c_Integer_bitCount (gx_l Γ) (gx_D Γ) hx a _ _ e3) (gx_cwS C gx_uu lk_X4_36 (by decide) (by decide)) rfl rfl (Nat.le_of_ble_eq_true rfl) ⟨Nat.zero_le _, Nat.zero_le _⟩ dX4_shopsOf_5 ?_
  exact gx_iret C F rfl dX4_shopsOf_8 (congrArg (fun z => (z, S)) (Option.some.inj h))

def m_ShopsAsOne_isNoTest (x1 : Int32) (S : gx_S) : Option (Int32) := gx_cp (m_ShopsAsOne_isNot x1 0 ((S 0 10) - (1 : Int32)) S) fun v2 => gx_bz v2 (some v2)
set_option maxRecDepth 20000 in
set_option maxHeartbeats 1000000 in
theorem c_ShopsAsOne_isNoTest (l : Launch) (D : va_G) {cl : List vw_C} {tys : List (ClassId × FieldType)} {ι : Nat → ClassId} (hx : gx_std vwCl (gty ι) cl tys) (a : Nat → Nat) (x1 : Int32) (S : gx_S) {out : Int32} (h : m_ShopsAsOne_isNoTest x1 S = some out) : gx_mI l D cl tys yX7_isNoTest (.code yX7_isNoTest cX7_isNoTest 2 ((Option.some Jvm.ClassFile.FieldType.boolean)) :: gx_U) (gx_rm 1) [.ref (a 0), .int x1] (wX a ι S) (wX a ι) (out, S) := by
  unfold m_ShopsAsOne_isNoTest at h
  refine gx_startI (V := [.ref (a 0), .int x1]) 0 (by decide +kernel) (Nat.le_of_ble_eq_true rfl) rfl (fun Γ hl hD hcl hty hnL C F => ?_)
  subst hl; subst hD; subst hcl; subst hty
  refine gx_iload_1 C dX7_isNoTest_0 rfl ?_
  refine gx_iconst0 C dX7_isNoTest_1 ?_
  refine gx_aload_0 C dX7_isNoTest_2 rfl ?_
  refine gs_getf (q := 0) C fl_X7_266 (cls_X7 hx) lt_X_ShopsAsOne (oc_X_ShopsAsOne a ι _) rfl dX7_isNoTest_3 ?_
  refine gx_iconst1 C dX7_isNoTest_6 ?_
  refine gx_isub C dX7_isNoTest_7 ?_
  obtain ⟨v2, e1, h⟩ := gi_cp h
  refine gc_IS C (c_ShopsAsOne_isNot (gx_l Γ) (gx_D Γ) hx a _ _ _ _ e1) (gx_cwS C gx_uu lk_X7_72 (by decide) (by decide)) rfl rfl (Nat.le_of_ble_eq_true rfl) ⟨Nat.zero_le _, Nat.zero_le _⟩ dX7_isNoTest_8 ?_
  obtain ⟨hz3, h⟩ := gi_bz h
  exact gx_iret C F hz3.1 dX7_isNoTest_11 (congrArg (fun z => (z, S)) (Option.some.inj h))
def m_ShopsAsOne_isBarred (x1 : Int32) (x2 : Int32) (x3 : Int32) (S : gx_S) : Option (Int32 × gx_S) := gx_cp (m_Judge_weigh 0 x2 x3 S) fun S2 => gx_ck 4 x1 (gx_cs (m_Judge_holds (1 + x1.toNatClampNeg) S2) fun v6 S5 => gx_bz v6 (some (v6, S5)))
set_option maxRecDepth 20000 in
set_option maxHeartbeats 1000000 in
theorem c_ShopsAsOne_isBarred (l : Launch) (D : va_G) {cl : List vw_C} {tys : List (ClassId × FieldType)} {ι : Nat → ClassId} (hx : gx_std vwCl (gty ι) cl tys) (a : Nat → Nat) (x1 : Int32) (x2 : Int32) (x3 : Int32) (S : gx_S) {out : Int32 × gx_S} (h : m_ShopsAsOne_isBarred x1 x2 x3 S = some out) : gx_mI l D cl tys yX7_isBarred (.code yX7_isBarred cX7_isBarred 4 ((Option.some Jvm.ClassFile.FieldType.boolean)) :: gx_U) (gx_rm 4) [.ref (a 0), .int x1, .int x2, .int x3] (wX a ι S) (wX a ι) out := by
  unfold m_ShopsAsOne_isBarred at h
  refine gx_startI (V := [.ref (a 0), .int x1, .int x2, .int x3]) 0 (by decide +kernel) (Nat.le_of_ble_eq_true rfl) rfl (fun Γ hl hD hcl hty hnL C F => ?_)
  subst hl; subst hD; subst hcl; subst hty
  refine gx_aload_0 C dX7_isBarred_0 rfl ?_
  refine gs_getf (q := 0) C fl_X7_68 (cls_X7 hx) lt_X_ShopsAsOne (oc_X_ShopsAsOne a ι _) rfl dX7_isBarred_1 ?_
  refine gx_aload_0 C dX7_isBarred_4 rfl ?_
  refine gs_getf (q := 0) C fl_X7_21 (cls_X7 hx) lt_X_ShopsAsOne (oc_X_ShopsAsOne a ι _) rfl dX7_isBarred_5 ?_
  refine gx_iload_2 C dX7_isBarred_8 rfl ?_
  refine gx_iload_3 C dX7_isBarred_9 rfl ?_
  obtain ⟨S2, e1, h⟩ := gi_cp h
  refine gc_VV C (c_Judge_weigh (gx_l Γ) (gx_D Γ) hx a (r1 := 0) (by decide) _ _ _ e1) (gx_cw C gx_uu lk_X7_278 (by decide) (by decide)) (cls_X3 hx).1 (gs_recv (q := 77) lt_X_Judge (oc_X_Judge a ι _)) rfl rfl (Nat.le_of_ble_eq_true rfl) ⟨Nat.zero_le _, Nat.zero_le _⟩ dX7_isBarred_10 ?_
  refine gx_aload_0 C dX7_isBarred_13 rfl ?_
  refine gs_getf (q := 0) C fl_X7_68 (cls_X7 hx) lt_X_ShopsAsOne (oc_X_ShopsAsOne a ι _) rfl dX7_isBarred_14 ?_
  refine gx_aload_0 C dX7_isBarred_17 rfl ?_
  refine gs_getf (q := 0) C fl_X7_54 (cls_X7 hx) lt_X_ShopsAsOne (oc_X_ShopsAsOne a ι _) rfl dX7_isBarred_18 ?_
  refine gx_iload_1 C dX7_isBarred_21 rfl ?_
  obtain ⟨hi3, h⟩ := gi_ck h
  refine gs_aald (q := 65) C (aq_X_tests hx a) rfl lt_X_tests hi3 (aqf_X_tests a (gx_in_lt hi3)) dX7_isBarred_22 ?_
  obtain ⟨v6, S5, e4, h⟩ := gi_cs h
  refine gc_IV C (c_Judge_holds (gx_l Γ) (gx_D Γ) hx a (r1 := (1 + x1.toNatClampNeg)) (Nat.add_lt_add_left (gx_in_lt hi3) 1) _ e4) (gx_cw C gx_uu lk_X7_282 (by decide) (by decide)) (cls_X3 hx).1 (gs_recv (q := 77) lt_X_Judge (oc_X_Judge a ι _)) rfl rfl (Nat.le_of_ble_eq_true rfl) ⟨Nat.zero_le _, Nat.zero_le _⟩ dX7_isBarred_23 ?_
  obtain ⟨hz7, h⟩ := gi_bz h
  exact gx_iret C F hz7.1 dX7_isBarred_26 (Option.some.inj h)
def m_ShopsAsOne_bars (x1 : Int32) (x2 : Int32) (x3 : Int32) (S : gx_S) : Option (Int32 × gx_S) := gx_cp (m_ShopsAsOne_isNoTest x1 S) fun v2 => if v2 = 0 then gx_cp (m_ShopsAsOne_areNotTwo x2 x3 S) fun v4 => if v4 = 0 then gx_cs (m_ShopsAsOne_isBarred x1 x2 x3 S) fun v7 S6 => if v7 = 0 then some (0, S6) else some (1, S6) else some ((-101), S) else some ((-101), S)
set_option maxRecDepth 20000 in
set_option maxHeartbeats 1000000 in
theorem c_ShopsAsOne_bars (l : Launch) (D : va_G) {cl : List vw_C} {tys : List (ClassId × FieldType)} {ι : Nat → ClassId} (hx : gx_std vwCl (gty ι) cl tys) (a : Nat → Nat) (x1 : Int32) (x2 : Int32) (x3 : Int32) (S : gx_S) {out : Int32 × gx_S} (h : m_ShopsAsOne_bars x1 x2 x3 S = some out) : gx_mI l D cl tys yX7_bars (.code yX7_bars cX7_bars 4 ((Option.some Jvm.ClassFile.FieldType.int)) :: gx_U) (gx_rm 5) [.ref (a 0), .int x1, .int x2, .int x3] (wX a ι S) (wX a ι) out := by
  unfold m_ShopsAsOne_bars at h
  refine gx_startI (V := [.ref (a 0), .int x1, .int x2, .int x3]) 0 (by decide +kernel) (Nat.le_of_ble_eq_true rfl) rfl (fun Γ hl hD hcl hty hnL C F => ?_)
  subst hl; subst hD; subst hcl; subst hty
  refine gx_aload_0 C dX7_bars_0 rfl ?_
  refine gx_iload_1 C dX7_bars_1 rfl ?_
  obtain ⟨v2, e1, h⟩ := gi_cp h
  refine gc_IV C (c_ShopsAsOne_isNoTest (gx_l Γ) (gx_D Γ) hx a _ _ e1) (gx_cw C gx_uu lk_X7_272 (by decide) (by decide)) (cls_X7 hx).1 (gs_recv (q := 0) lt_X_ShopsAsOne (oc_X_ShopsAsOne a ι _)) rfl rfl (Nat.le_of_ble_eq_true rfl) ⟨Nat.zero_le _, Nat.zero_le _⟩ dX7_bars_2 ?_
  refine gx_if_ne (tgt := 17) C dX7_bars_5 (by decide) (fun hc10 => ?_) (fun hc10 => ?_)
  · have h := gi_f hc10 h
    refine gx_bipush (v := (-101)) C dX7_bars_17 (by decide) ?_
    exact gx_iret C F rfl dX7_bars_19 (Option.some.inj h)
  · have h := gi_t hc10 h
    refine gx_aload_0 C dX7_bars_8 rfl ?_
    refine gx_iload_2 C dX7_bars_9 rfl ?_
    refine gx_iload_3 C dX7_bars_10 rfl ?_
    obtain ⟨v4, e3, h⟩ := gi_cp h
    refine gc_IV C (c_ShopsAsOne_areNotTwo (gx_l Γ) (gx_D Γ) hx a _ _ _ e3) (gx_cw C gx_uu lk_X7_208 (by decide) (by decide)) (cls_X7 hx).1 (gs_recv (q := 0) lt_X_ShopsAsOne (oc_X_ShopsAsOne a ι _)) rfl rfl (Nat.le_of_ble_eq_true rfl) ⟨Nat.zero_le _, Nat.zero_le _⟩ dX7_bars_11 ?_
    refine gx_if_eq (tgt := 20) C dX7_bars_14 (by decide) (fun hc9 => ?_) (fun hc9 => ?_)
    · have h := gi_t hc9 h
      refine gx_aload_0 C dX7_bars_20 rfl ?_
      refine gx_iload_1 C dX7_bars_21 rfl ?_
      refine gx_iload_2 C dX7_bars_22 rfl ?_
      refine gx_iload_3 C dX7_bars_23 rfl ?_
      obtain ⟨v7, S6, e5, h⟩ := gi_cs h
      refine gc_IV C (c_ShopsAsOne_isBarred (gx_l Γ) (gx_D Γ) hx a _ _ _ _ e5) (gx_cw C gx_uu lk_X7_275 (by decide) (by decide)) (cls_X7 hx).1 (gs_recv (q := 0) lt_X_ShopsAsOne (oc_X_ShopsAsOne a ι _)) rfl rfl (Nat.le_of_ble_eq_true rfl) ⟨Nat.zero_le _, Nat.zero_le _⟩ dX7_bars_24 ?_
      refine gx_if_eq (tgt := 34) C dX7_bars_27 (by decide) (fun hc8 => ?_) (fun hc8 => ?_)
      · have h := gi_t hc8 h
        refine gx_iconst0 C dX7_bars_34 ?_
        exact gx_iret C F rfl dX7_bars_35 (Option.some.inj h)
      · have h := gi_f hc8 h
        refine gx_iconst1 C dX7_bars_30 ?_
        refine gx_goto (tgt := 35) C dX7_bars_31 (by decide) ?_
        exact gx_iret C F rfl dX7_bars_35 (Option.some.inj h)
    · have h := gi_f hc9 h
      refine gx_bipush (v := (-101)) C dX7_bars_17 (by decide) ?_
      exact gx_iret C F rfl dX7_bars_19 (Option.some.inj h)
def m_ShopsAsOne_isWrong_27 (S : gx_S) : Option (Int32) := some 0
set_option maxRecDepth 20000 in
set_option maxHeartbeats 1000000 in
theorem b_ShopsAsOne_isWrong_27 {Γ : gx_T} {ι : Nat → ClassId} {a : Nat → Nat} {out : Int32} {S : gx_S} (hx : gx_std vwCl (gty ι) (gx_cl Γ) (gx_ty Γ)) (C : gx_ok Γ cX7_isWrong RX7 gx_U 0) (F : gx_finI Γ ((Option.some Jvm.ClassFile.FieldType.boolean)) (wX a ι) (out, S) ∧ gx_nL Γ = 3) (h : m_ShopsAsOne_isWrong_27 S = some out) : gx_G Γ 0 0 27 [.null, .null, .null] [] (wX a ι S) := by
  obtain ⟨F, hnL⟩ := F
  unfold m_ShopsAsOne_isWrong_27 at h
  refine gx_iconst0 C dX7_isWrong_27 ?_
  exact gx_iret C F (by decide) dX7_isWrong_28 (congrArg (fun z => (z, S)) (Option.some.inj h))
def m_ShopsAsOne_isWrong_19 (x1 : Int32) (s0 : Int32) (S : gx_S) : Option (Int32) := if s0 = x1 then some 1 else m_ShopsAsOne_isWrong_27 S
set_option maxRecDepth 20000 in
set_option maxHeartbeats 1000000 in
theorem b_ShopsAsOne_isWrong_19 {Γ : gx_T} {ι : Nat → ClassId} {a : Nat → Nat} {out : Int32} {S : gx_S} (hx : gx_std vwCl (gty ι) (gx_cl Γ) (gx_ty Γ)) (C : gx_ok Γ cX7_isWrong RX7 gx_U 0) (F : gx_finI Γ ((Option.some Jvm.ClassFile.FieldType.boolean)) (wX a ι) (out, S) ∧ gx_nL Γ = 3) {x1 : Int32} {s0 : Int32} (h : m_ShopsAsOne_isWrong_19 x1 s0 S = some out) : gx_G Γ 0 0 19 [.null, .int x1, .null] [.int s0] (wX a ι S) := by
  obtain ⟨F, hnL⟩ := F
  unfold m_ShopsAsOne_isWrong_19 at h
  refine gx_iload_1 C dX7_isWrong_19 rfl ?_
  refine gx_icmp_ne (tgt := 27) C dX7_isWrong_20 (by decide) (fun hc1 => ?_) (fun hc1 => ?_)
  · have h := gi_f hc1 h
    exact gx_weak (gx_le_n (gx_le_n (gx_le_n gx_le_0))) (b_ShopsAsOne_isWrong_27 hx C ⟨F, hnL⟩ h)
  · have h := gi_t hc1 h
    refine gx_iconst1 C dX7_isWrong_23 ?_
    refine gx_goto (tgt := 28) C dX7_isWrong_24 (by decide) ?_
    exact gx_iret C F (by decide) dX7_isWrong_28 (congrArg (fun z => (z, S)) (Option.some.inj h))
def m_ShopsAsOne_isWrong (x0 : Int32) (x1 : Int32) (x2 : Int32) (S : gx_S) : Option (Int32) := if x2 = (-1) then m_ShopsAsOne_isWrong_27 S else if x0 = x1 then if x2 = 0 then m_ShopsAsOne_isWrong_19 x1 1 S else m_ShopsAsOne_isWrong_19 x1 0 S else m_ShopsAsOne_isWrong_27 S
set_option maxRecDepth 20000 in
set_option maxHeartbeats 1000000 in
theorem c_ShopsAsOne_isWrong (l : Launch) (D : va_G) {cl : List vw_C} {tys : List (ClassId × FieldType)} {ι : Nat → ClassId} (hx : gx_std vwCl (gty ι) cl tys) (a : Nat → Nat) (x0 : Int32) (x1 : Int32) (x2 : Int32) (S : gx_S) {out : Int32} (h : m_ShopsAsOne_isWrong x0 x1 x2 S = some out) : gx_mI l D cl tys yX7_isWrong (.code yX7_isWrong cX7_isWrong 3 ((Option.some Jvm.ClassFile.FieldType.boolean)) :: gx_U) (gx_rm 0) [.int x0, .int x1, .int x2] (wX a ι S) (wX a ι) (out, S) := by
  unfold m_ShopsAsOne_isWrong at h
  refine gx_startI (V := [.int x0, .int x1, .int x2]) 0 (by decide +kernel) (Nat.le_of_ble_eq_true rfl) rfl (fun Γ hl hD hcl hty hnL C F => ?_)
  subst hl; subst hD; subst hcl; subst hty
  refine gx_iload_2 C dX7_isWrong_0 rfl ?_
  refine gx_iconstm1 C dX7_isWrong_1 ?_
  refine gx_icmp_eq (tgt := 27) C dX7_isWrong_2 (by decide) (fun hc3 => ?_) (fun hc3 => ?_)
  · have h := gi_t hc3 h
    exact gx_weak (gx_le_n (gx_le_n (gx_le_n gx_le_0))) (b_ShopsAsOne_isWrong_27 hx C ⟨F, hnL⟩ h)
  · have h := gi_f hc3 h
    refine gx_iload_0 C dX7_isWrong_5 rfl ?_
    refine gx_iload_1 C dX7_isWrong_6 rfl ?_
    refine gx_icmp_ne (tgt := 27) C dX7_isWrong_7 (by decide) (fun hc2 => ?_) (fun hc2 => ?_)
    · have h := gi_f hc2 h
      exact gx_weak (gx_le_n (gx_le_n (gx_le_n gx_le_0))) (b_ShopsAsOne_isWrong_27 hx C ⟨F, hnL⟩ h)
    · have h := gi_t hc2 h
      refine gx_iload_2 C dX7_isWrong_10 rfl ?_
      refine gx_if_ne (tgt := 18) C dX7_isWrong_11 (by decide) (fun hc1 => ?_) (fun hc1 => ?_)
      · have h := gi_f hc1 h
        refine gx_iconst0 C dX7_isWrong_18 ?_
        exact gx_weak (gx_le_n (gx_le_k rfl (gx_le_n gx_le_0))) (b_ShopsAsOne_isWrong_19 hx C ⟨F, hnL⟩ h)
      · have h := gi_t hc1 h
        refine gx_iconst1 C dX7_isWrong_14 ?_
        refine gx_goto (tgt := 19) C dX7_isWrong_15 (by decide) ?_
        exact gx_weak (gx_le_n (gx_le_k rfl (gx_le_n gx_le_0))) (b_ShopsAsOne_isWrong_19 hx C ⟨F, hnL⟩ h)
def m_ShopsAsOne_wrong_150 (k66 : Int32 × Int32 × gx_S → Option (Int32 × gx_S)) (k84 : Int32 × Int32 × gx_S → Option (Int32 × gx_S)) (x1 : Int32) (x2 : Int32) (x3 : Int32) (x4 : Int32) (x5 : Int32) (S : gx_S) : Option (Int32 × gx_S) := k84 (x3, (x5 + 1), S)
set_option maxRecDepth 20000 in
set_option maxHeartbeats 1000000 in
theorem b_ShopsAsOne_wrong_150 {Γ : gx_T} {ι : Nat → ClassId} {a : Nat → Nat} {out : Int32 × gx_S} (hx : gx_std vwCl (gty ι) (gx_cl Γ) (gx_ty Γ)) (C : gx_ok Γ cX7_wrong RX7 gx_U 11) (F : gx_finI Γ ((Option.some Jvm.ClassFile.FieldType.int)) (wX a ι) out ∧ gx_nL Γ = 6) {k66 : Int32 × Int32 × gx_S → Option (Int32 × gx_S)} {k84 : Int32 × Int32 × gx_S → Option (Int32 × gx_S)} {x1 : Int32} {x2 : Int32} {x4 : Int32} {x3 : Int32} {x5 : Int32} {S : gx_S} (hk66 : ∀ (x37 : Int32) (x47 : Int32) (S7 : gx_S), k66 (x37, x47, S7) = some out → gx_G Γ 0 0 66 [.ref (a 0), .int x1, .int x2, .int x37, .int x47, .null] [] (wX a ι S7)) (hk84 : ∀ (x37 : Int32) (x57 : Int32) (S7 : gx_S), k84 (x37, x57, S7) = some out → gx_G Γ 0 0 84 [.ref (a 0), .int x1, .int x2, .int x37, .int x4, .int x57] [] (wX a ι S7)) (h : m_ShopsAsOne_wrong_150 k66 k84 x1 x2 x3 x4 x5 S = some out) : gx_G Γ 0 0 150 [.ref (a 0), .int x1, .int x2, .int x3, .int x4, .int x5] [] (wX a ι S) := by
  obtain ⟨F, hnL⟩ := F
  unfold m_ShopsAsOne_wrong_150 at h
  refine gx_iinc1 C dX7_wrong_150 rfl (by rw [hnL]; decide) trivial ?_
  refine gx_goto (tgt := 84) C dX7_wrong_153 (by decide) ?_
  exact gx_weak (gx_le_k rfl (gx_le_k rfl (gx_le_k rfl (gx_le_k rfl (gx_le_k rfl (gx_le_k rfl gx_le_0)))))) (hk84 _ _ _ h)
def m_ShopsAsOne_wrong_126 (k66 : Int32 × Int32 × gx_S → Option (Int32 × gx_S)) (k84 : Int32 × Int32 × gx_S → Option (Int32 × gx_S)) (x1 : Int32) (x2 : Int32) (x3 : Int32) (x4 : Int32) (x5 : Int32) (s0 : Int32) (s1 : Int32) (S : gx_S) : Option (Int32 × gx_S) := gx_cs (m_Joining_harmOf 0 x4 x5 S) fun v3 S2 => gx_cp (m_ShopsAsOne_isWrong s0 s1 v3 S2) fun v5 => if v5 = 0 then m_ShopsAsOne_wrong_150 k66 k84 x1 x2 x3 x4 x5 S2 else m_ShopsAsOne_wrong_150 k66 k84 x1 x2 (x3 + 1) x4 x5 S2
set_option maxRecDepth 20000 in
set_option maxHeartbeats 1000000 in
theorem b_ShopsAsOne_wrong_126 {Γ : gx_T} {ι : Nat → ClassId} {a : Nat → Nat} {out : Int32 × gx_S} (hx : gx_std vwCl (gty ι) (gx_cl Γ) (gx_ty Γ)) (C : gx_ok Γ cX7_wrong RX7 gx_U 11) (F : gx_finI Γ ((Option.some Jvm.ClassFile.FieldType.int)) (wX a ι) out ∧ gx_nL Γ = 6) {k66 : Int32 × Int32 × gx_S → Option (Int32 × gx_S)} {k84 : Int32 × Int32 × gx_S → Option (Int32 × gx_S)} {x1 : Int32} {x2 : Int32} {x4 : Int32} {x3 : Int32} {x5 : Int32} {s0 : Int32} {s1 : Int32} {S : gx_S} (hk66 : ∀ (x37 : Int32) (x47 : Int32) (S7 : gx_S), k66 (x37, x47, S7) = some out → gx_G Γ 0 0 66 [.ref (a 0), .int x1, .int x2, .int x37, .int x47, .null] [] (wX a ι S7)) (hk84 : ∀ (x37 : Int32) (x57 : Int32) (S7 : gx_S), k84 (x37, x57, S7) = some out → gx_G Γ 0 0 84 [.ref (a 0), .int x1, .int x2, .int x37, .int x4, .int x57] [] (wX a ι S7)) (h : m_ShopsAsOne_wrong_126 k66 k84 x1 x2 x3 x4 x5 s0 s1 S = some out) : gx_G Γ 0 0 126 [.ref (a 0), .int x1, .int x2, .int x3, .int x4, .int x5] [.int s1, .int s0] (wX a ι S) := by
  obtain ⟨F, hnL⟩ := F
  unfold m_ShopsAsOne_wrong_126 at h
  refine gx_aload_0 C dX7_wrong_126 rfl ?_
  refine gs_getf (q := 0) C fl_X7_43 (cls_X7 hx) lt_X_ShopsAsOne (oc_X_ShopsAsOne a ι _) rfl dX7_wrong_127 ?_
  refine gx_aload_0 C dX7_wrong_130 rfl ?_
  refine gs_getf (q := 0) C fl_X7_21 (cls_X7 hx) lt_X_ShopsAsOne (oc_X_ShopsAsOne a ι _) rfl dX7_wrong_131 ?_
  refine gx_iload C dX7_wrong_134 rfl ?_
  refine gx_iload C dX7_wrong_136 rfl ?_
  obtain ⟨v3, S2, e1, h⟩ := gi_cs h
  refine gc_IV C (c_Joining_harmOf (gx_l Γ) (gx_D Γ) hx a (r1 := 0) (by decide) _ _ _ e1) (gx_cw C gx_uu lk_X7_242 (by decide) (by decide)) (cls_X2 hx).1 (gs_recv (q := 63) lt_X_Joining (oc_X_Joining a ι _)) rfl rfl (Nat.le_of_ble_eq_true rfl) ⟨Nat.zero_le _, Nat.zero_le _⟩ dX7_wrong_138 ?_
  obtain ⟨v5, e4, h⟩ := gi_cp h
  refine gc_IS C (c_ShopsAsOne_isWrong (gx_l Γ) (gx_D Γ) hx a _ _ _ _ e4) (gx_cwS C gx_uu lk_X7_288 (by decide) (by decide)) rfl rfl (Nat.le_of_ble_eq_true rfl) ⟨Nat.zero_le _, Nat.zero_le _⟩ dX7_wrong_141 ?_
  refine gx_if_eq (tgt := 150) C dX7_wrong_144 (by decide) (fun hc6 => ?_) (fun hc6 => ?_)
  · have h := gi_t hc6 h
    exact gx_weak (gx_le_k rfl (gx_le_k rfl (gx_le_k rfl (gx_le_k rfl (gx_le_k rfl (gx_le_k rfl gx_le_0)))))) (b_ShopsAsOne_wrong_150 hx C ⟨F, hnL⟩ hk66 hk84 h)
  · have h := gi_f hc6 h
    refine gx_iinc1 C dX7_wrong_147 rfl (by rw [hnL]; decide) trivial ?_
    exact gx_weak (gx_le_k rfl (gx_le_k rfl (gx_le_k rfl (gx_le_k rfl (gx_le_k rfl (gx_le_k rfl gx_le_0)))))) (b_ShopsAsOne_wrong_150 hx C ⟨F, hnL⟩ hk66 hk84 h)
def m_ShopsAsOne_wrong_84 (k66 : Int32 × Int32 × gx_S → Option (Int32 × gx_S)) (x1 : Int32) (x2 : Int32) (x4 : Int32) (t : Int32 × Int32 × gx_S) (k84 : Int32 × Int32 × gx_S → Option (Int32 × gx_S)) : Option (Int32 × gx_S) := match t with
  | (x3, x5, S) => if (S 1 0) ≤ x5 then k66 (x3, (x4 + 1), S) else gx_cp (m_ShopsAsOne_areTooMany x4 x5 S) fun v2 => if v2 = 0 then gx_cs (m_ShopsAsOne_isBarred x1 x4 x5 S) fun v5 S4 => if x2 = 1 then m_ShopsAsOne_wrong_126 k66 k84 x1 x2 x3 x4 x5 v5 1 S4 else m_ShopsAsOne_wrong_126 k66 k84 x1 x2 x3 x4 x5 v5 0 S4 else m_ShopsAsOne_wrong_150 k66 k84 x1 x2 x3 x4 x5 S
set_option maxRecDepth 20000 in
set_option maxHeartbeats 1000000 in
theorem b_ShopsAsOne_wrong_84 {Γ : gx_T} {ι : Nat → ClassId} {a : Nat → Nat} {out : Int32 × gx_S} (hx : gx_std vwCl (gty ι) (gx_cl Γ) (gx_ty Γ)) (C : gx_ok Γ cX7_wrong RX7 gx_U 11) (F : gx_finI Γ ((Option.some Jvm.ClassFile.FieldType.int)) (wX a ι) out ∧ gx_nL Γ = 6) {k66 : Int32 × Int32 × gx_S → Option (Int32 × gx_S)} {k84 : Int32 × Int32 × gx_S → Option (Int32 × gx_S)} {x1 : Int32} {x2 : Int32} {x4 : Int32} {x3 : Int32} {x5 : Int32} {S : gx_S} (hk66 : ∀ (x37 : Int32) (x47 : Int32) (S7 : gx_S), k66 (x37, x47, S7) = some out → gx_G Γ 0 0 66 [.ref (a 0), .int x1, .int x2, .int x37, .int x47, .null] [] (wX a ι S7)) (hk84 : ∀ (x37 : Int32) (x57 : Int32) (S7 : gx_S), k84 (x37, x57, S7) = some out → gx_G Γ 0 0 84 [.ref (a 0), .int x1, .int x2, .int x37, .int x4, .int x57] [] (wX a ι S7)) (h : m_ShopsAsOne_wrong_84 k66 x1 x2 x4 (x3, x5, S) k84 = some out) : gx_G Γ 0 0 84 [.ref (a 0), .int x1, .int x2, .int x3, .int x4, .int x5] [] (wX a ι S) := by
  obtain ⟨F, hnL⟩ := F
  unfold m_ShopsAsOne_wrong_84 at h
  dsimp only at h
  refine gx_iload C dX7_wrong_84 rfl ?_
  refine gx_aload_0 C dX7_wrong_86 rfl ?_
  refine gs_getf (q := 0) C fl_X7_10 (cls_X7 hx) lt_X_ShopsAsOne (oc_X_ShopsAsOne a ι _) rfl dX7_wrong_87 ?_
  refine gs_getf (q := 1) C fl_X7_159 (cls_X5 hx) lt_X_Street (oc_X_Street a ι _) rfl dX7_wrong_90 ?_
  refine gx_icmp_ge (tgt := 156) C dX7_wrong_93 (by decide) (fun hc8 => ?_) (fun hc8 => ?_)
  · have h := gi_t hc8 h
    refine gx_iinc1 C dX7_wrong_156 rfl (by rw [hnL]; decide) trivial ?_
    refine gx_goto (tgt := 66) C dX7_wrong_159 (by decide) ?_
    exact gx_weak (gx_le_k rfl (gx_le_k rfl (gx_le_k rfl (gx_le_k rfl (gx_le_k rfl (gx_le_n gx_le_0)))))) (hk66 _ _ _ h)
  · have h := gi_f hc8 h
    refine gx_aload_0 C dX7_wrong_96 rfl ?_
    refine gx_iload C dX7_wrong_97 rfl ?_
    refine gx_iload C dX7_wrong_99 rfl ?_
    obtain ⟨v2, e1, h⟩ := gi_cp h
    refine gc_IV C (c_ShopsAsOne_areTooMany (gx_l Γ) (gx_D Γ) hx a _ _ _ e1) (gx_cw C gx_uu lk_X7_211 (by decide) (by decide)) (cls_X7 hx).1 (gs_recv (q := 0) lt_X_ShopsAsOne (oc_X_ShopsAsOne a ι _)) rfl rfl (Nat.le_of_ble_eq_true rfl) ⟨Nat.zero_le _, Nat.zero_le _⟩ dX7_wrong_101 ?_
    refine gx_if_ne (tgt := 150) C dX7_wrong_104 (by decide) (fun hc7 => ?_) (fun hc7 => ?_)
    · have h := gi_f hc7 h
      exact gx_weak (gx_le_k rfl (gx_le_k rfl (gx_le_k rfl (gx_le_k rfl (gx_le_k rfl (gx_le_k rfl gx_le_0)))))) (b_ShopsAsOne_wrong_150 hx C ⟨F, hnL⟩ hk66 hk84 h)
    · have h := gi_t hc7 h
      refine gx_aload_0 C dX7_wrong_107 rfl ?_
      refine gx_iload_1 C dX7_wrong_108 rfl ?_
      refine gx_iload C dX7_wrong_109 rfl ?_
      refine gx_iload C dX7_wrong_111 rfl ?_
      obtain ⟨v5, S4, e3, h⟩ := gi_cs h
      refine gc_IV C (c_ShopsAsOne_isBarred (gx_l Γ) (gx_D Γ) hx a _ _ _ _ e3) (gx_cw C gx_uu lk_X7_275 (by decide) (by decide)) (cls_X7 hx).1 (gs_recv (q := 0) lt_X_ShopsAsOne (oc_X_ShopsAsOne a ι _)) rfl rfl (Nat.le_of_ble_eq_true rfl) ⟨Nat.zero_le _, Nat.zero_le _⟩ dX7_wrong_113 ?_
      refine gx_iload_2 C dX7_wrong_116 rfl ?_
      refine gx_iconst1 C dX7_wrong_117 ?_
      refine gx_icmp_ne (tgt := 125) C dX7_wrong_118 (by decide) (fun hc6 => ?_) (fun hc6 => ?_)
      · have h := gi_f hc6 h
        refine gx_iconst0 C dX7_wrong_125 ?_
        exact gx_weak (gx_le_k rfl (gx_le_k rfl (gx_le_k rfl (gx_le_k rfl (gx_le_k rfl (gx_le_k rfl gx_le_0)))))) (b_ShopsAsOne_wrong_126 hx C ⟨F, hnL⟩ hk66 hk84 h)
      · have h := gi_t hc6 h
        refine gx_iconst1 C dX7_wrong_121 ?_
        refine gx_goto (tgt := 126) C dX7_wrong_122 (by decide) ?_
        exact gx_weak (gx_le_k rfl (gx_le_k rfl (gx_le_k rfl (gx_le_k rfl (gx_le_k rfl (gx_le_k rfl gx_le_0)))))) (b_ShopsAsOne_wrong_126 hx C ⟨F, hnL⟩ hk66 hk84 h)
def m_ShopsAsOne_wrong_66 (x1 : Int32) (x2 : Int32) (t : Int32 × Int32 × gx_S) (k66 : Int32 × Int32 × gx_S → Option (Int32 × gx_S)) : Option (Int32 × gx_S) := match t with
  | (x3, x4, S) => if (S 1 0) ≤ x4 then some (x3, S) else gx_loop (m_ShopsAsOne_wrong_84 k66 x1 x2 x4) 5000 (x3, (x4 + (1 : Int32)), S)
set_option maxRecDepth 20000 in
set_option maxHeartbeats 1000000 in
theorem b_ShopsAsOne_wrong_66 {Γ : gx_T} {ι : Nat → ClassId} {a : Nat → Nat} {out : Int32 × gx_S} (hx : gx_std vwCl (gty ι) (gx_cl Γ) (gx_ty Γ)) (C : gx_ok Γ cX7_wrong RX7 gx_U 11) (F : gx_finI Γ ((Option.some Jvm.ClassFile.FieldType.int)) (wX a ι) out ∧ gx_nL Γ = 6) {k66 : Int32 × Int32 × gx_S → Option (Int32 × gx_S)} {x1 : Int32} {x2 : Int32} {x3 : Int32} {x4 : Int32} {S : gx_S} (hk66 : ∀ (x37 : Int32) (x47 : Int32) (S7 : gx_S), k66 (x37, x47, S7) = some out → gx_G Γ 0 0 66 [.ref (a 0), .int x1, .int x2, .int x37, .int x47, .null] [] (wX a ι S7)) (h : m_ShopsAsOne_wrong_66 x1 x2 (x3, x4, S) k66 = some out) : gx_G Γ 0 0 66 [.ref (a 0), .int x1, .int x2, .int x3, .int x4, .null] [] (wX a ι S) := by
  obtain ⟨F, hnL⟩ := F
  unfold m_ShopsAsOne_wrong_66 at h
  dsimp only at h
  refine gx_iload C dX7_wrong_66 rfl ?_
  refine gx_aload_0 C dX7_wrong_68 rfl ?_
  refine gs_getf (q := 0) C fl_X7_10 (cls_X7 hx) lt_X_ShopsAsOne (oc_X_ShopsAsOne a ι _) rfl dX7_wrong_69 ?_
  refine gs_getf (q := 1) C fl_X7_159 (cls_X5 hx) lt_X_Street (oc_X_Street a ι _) rfl dX7_wrong_72 ?_
  refine gx_icmp_ge (tgt := 162) C dX7_wrong_75 (by decide) (fun hc1 => ?_) (fun hc1 => ?_)
  · have h := gi_t hc1 h
    refine gx_iload_3 C dX7_wrong_162 rfl ?_
    exact gx_iret C F rfl dX7_wrong_163 (Option.some.inj h)
  · have h := gi_f hc1 h
    refine gx_iload C dX7_wrong_78 rfl ?_
    refine gx_iconst1 C dX7_wrong_80 ?_
    refine gx_iadd C dX7_wrong_81 ?_
    refine gx_istore C dX7_wrong_82 (by rw [hnL]; decide) trivial ?_
    refine gx_weak (gx_le_k rfl (gx_le_k rfl (gx_le_k rfl (gx_le_k rfl (gx_le_k rfl (gx_le_k rfl gx_le_0)))))) (gi_loop (P := fun t => gx_G Γ 0 0 84 [.ref (a 0), .int x1, .int x2, .int t.1, .int x4, .int t.2.1] [] (wX a ι t.2.2)) (fun kk t hk h => ?_) 5000 _ h)
    obtain ⟨x39, x59, S'9⟩ := t
    exact b_ShopsAsOne_wrong_84 hx C ⟨F, hnL⟩ hk66 (k84 := kk) (fun x38 x58 S'8 h => hk (x38, x58, S'8) h) h
def m_ShopsAsOne_wrong (x1 : Int32) (x2 : Int32) (S : gx_S) : Option (Int32 × gx_S) := gx_cp (m_ShopsAsOne_isNoTest x1 S) fun v2 => if v2 = 0 then gx_cp (m_ShopsAsOne_isNot x2 0 1 S) fun v4 => if v4 = 0 then if (S 0 11) < 6 then gx_let (gx_st S 0 11 ((S 0 11) + (1 : Int32))) fun S5 => gx_cs (m_Joining_restsBefore 0 S5) fun v9 S8 => if v9 = 0 then some (0, S8) else gx_loop (m_ShopsAsOne_wrong_66 x1 x2) 5000 (0, 0, S8) else some ((-103), S) else some ((-102), S) else some ((-101), S)
set_option maxRecDepth 20000 in
set_option maxHeartbeats 1000000 in
theorem c_ShopsAsOne_wrong (l : Launch) (D : va_G) {cl : List vw_C} {tys : List (ClassId × FieldType)} {ι : Nat → ClassId} (hx : gx_std vwCl (gty ι) cl tys) (a : Nat → Nat) (x1 : Int32) (x2 : Int32) (S : gx_S) {out : Int32 × gx_S} (h : m_ShopsAsOne_wrong x1 x2 S = some out) : gx_mI l D cl tys yX7_wrong (.code yX7_wrong cX7_wrong 6 ((Option.some Jvm.ClassFile.FieldType.int)) :: gx_U) (gx_rm 11) [.ref (a 0), .int x1, .int x2] (wX a ι S) (wX a ι) out := by
  unfold m_ShopsAsOne_wrong at h
  refine gx_startI (V := [.ref (a 0), .int x1, .int x2, .null, .null, .null]) 3 (by decide +kernel) (Nat.le_of_ble_eq_true rfl) rfl (fun Γ hl hD hcl hty hnL C F => ?_)
  subst hl; subst hD; subst hcl; subst hty
  refine gx_aload_0 C dX7_wrong_0 rfl ?_
  refine gx_iload_1 C dX7_wrong_1 rfl ?_
  obtain ⟨v2, e1, h⟩ := gi_cp h
  refine gc_IV C (c_ShopsAsOne_isNoTest (gx_l Γ) (gx_D Γ) hx a _ _ e1) (gx_cw C gx_uu lk_X7_272 (by decide) (by decide)) (cls_X7 hx).1 (gs_recv (q := 0) lt_X_ShopsAsOne (oc_X_ShopsAsOne a ι _)) rfl rfl (Nat.le_of_ble_eq_true rfl) ⟨Nat.zero_le _, Nat.zero_le _⟩ dX7_wrong_2 ?_
  refine gx_if_eq (tgt := 11) C dX7_wrong_5 (by decide) (fun hc13 => ?_) (fun hc13 => ?_)
  · have h := gi_t hc13 h
    refine gx_iload_2 C dX7_wrong_11 rfl ?_
    refine gx_iconst0 C dX7_wrong_12 ?_
    refine gx_iconst1 C dX7_wrong_13 ?_
    obtain ⟨v4, e3, h⟩ := gi_cp h
    refine gc_IS C (c_ShopsAsOne_isNot (gx_l Γ) (gx_D Γ) hx a _ _ _ _ e3) (gx_cwS C gx_uu lk_X7_72 (by decide) (by decide)) rfl rfl (Nat.le_of_ble_eq_true rfl) ⟨Nat.zero_le _, Nat.zero_le _⟩ dX7_wrong_14 ?_
    refine gx_if_eq (tgt := 23) C dX7_wrong_17 (by decide) (fun hc12 => ?_) (fun hc12 => ?_)
    · have h := gi_t hc12 h
      refine gx_aload_0 C dX7_wrong_23 rfl ?_
      refine gs_getf (q := 0) C fl_X7_285 (cls_X7 hx) lt_X_ShopsAsOne (oc_X_ShopsAsOne a ι _) rfl dX7_wrong_24 ?_
      refine gx_bipush (v := 6) C dX7_wrong_27 (by decide) ?_
      refine gx_icmp_lt (tgt := 35) C dX7_wrong_29 (by decide) (fun hc11 => ?_) (fun hc11 => ?_)
      · have h := gi_t hc11 h
        refine gx_aload_0 C dX7_wrong_35 rfl ?_
        refine gx_dup C dX7_wrong_36 rfl ?_
        refine gs_getf (q := 0) C fl_X7_285 (cls_X7 hx) lt_X_ShopsAsOne (oc_X_ShopsAsOne a ι _) rfl dX7_wrong_37 ?_
        refine gx_iconst1 C dX7_wrong_40 ?_
        refine gx_iadd C dX7_wrong_41 ?_
        obtain ⟨S5, e6, h⟩ := gi_let h
        refine gs_puti (q := 0) C fl_X7_285 (cls_X7 hx) lt_X_ShopsAsOne (oc_X_ShopsAsOne a ι _) (oc_X_ShopsAsOne a ι _) rfl rfl rfl (Nat.le_of_ble_eq_true rfl) e6 dX7_wrong_42 ?_
        refine gx_aload_0 C dX7_wrong_45 rfl ?_
        refine gs_getf (q := 0) C fl_X7_43 (cls_X7 hx) lt_X_ShopsAsOne (oc_X_ShopsAsOne a ι _) rfl dX7_wrong_46 ?_
        refine gx_aload_0 C dX7_wrong_49 rfl ?_
        refine gs_getf (q := 0) C fl_X7_21 (cls_X7 hx) lt_X_ShopsAsOne (oc_X_ShopsAsOne a ι _) rfl dX7_wrong_50 ?_
        obtain ⟨v9, S8, e7, h⟩ := gi_cs h
        refine gc_IV C (c_Joining_restsBefore (gx_l Γ) (gx_D Γ) hx a (r1 := 0) (by decide) _ e7) (gx_cw C gx_uu lk_X7_218 (by decide) (by decide)) (cls_X2 hx).1 (gs_recv (q := 63) lt_X_Joining (oc_X_Joining a ι _)) rfl rfl (Nat.le_of_ble_eq_true rfl) ⟨Nat.zero_le _, Nat.zero_le _⟩ dX7_wrong_53 ?_
        refine gx_if_ne (tgt := 61) C dX7_wrong_56 (by decide) (fun hc10 => ?_) (fun hc10 => ?_)
        · have h := gi_f hc10 h
          refine gx_iconst0 C dX7_wrong_61 ?_
          refine gx_istore_3 C dX7_wrong_62 (by rw [hnL]; decide) trivial ?_
          refine gx_iconst0 C dX7_wrong_63 ?_
          refine gx_istore C dX7_wrong_64 (by rw [hnL]; decide) trivial ?_
          refine gx_weak (gx_le_k rfl (gx_le_k rfl (gx_le_k rfl (gx_le_k rfl (gx_le_k rfl (gx_le_n gx_le_0)))))) (gi_loop (P := fun t => gx_G Γ 0 0 66 [.ref (a 0), .int x1, .int x2, .int t.1, .int t.2.1, .null] [] (wX a ι t.2.2)) (fun kk t hk h => ?_) 5000 _ h)
          obtain ⟨x39, x49, S'9⟩ := t
          exact b_ShopsAsOne_wrong_66 hx C ⟨F, hnL⟩ (k66 := kk) (fun x38 x48 S'8 h => hk (x38, x48, S'8) h) h
        · have h := gi_t hc10 h
          refine gx_iconst0 C dX7_wrong_59 ?_
          exact gx_iret C F rfl dX7_wrong_60 (Option.some.inj h)
      · have h := gi_f hc11 h
        refine gx_bipush (v := (-103)) C dX7_wrong_32 (by decide) ?_
        exact gx_iret C F rfl dX7_wrong_34 (Option.some.inj h)
    · have h := gi_f hc12 h
      refine gx_bipush (v := (-102)) C dX7_wrong_20 (by decide) ?_
      exact gx_iret C F rfl dX7_wrong_22 (Option.some.inj h)
  · have h := gi_f hc13 h
    refine gx_bipush (v := (-101)) C dX7_wrong_8 (by decide) ?_
    exact gx_iret C F rfl dX7_wrong_10 (Option.some.inj h)
def m_ShopsAsOne_image (S : gx_S) : Option (Int32 × gx_S) := gx_cp (m_Standing_become 2 0 S) fun S2 => gx_let (gx_st S2 0 12 1) fun S3 => gx_let (gx_st S3 0 13 (S3 1 0)) fun S5 => gx_let (gx_st S5 0 14 (S5 1 1)) fun S7 => some (S7 0 14, S7)
set_option maxRecDepth 20000 in
set_option maxHeartbeats 1000000 in
theorem c_ShopsAsOne_image (l : Launch) (D : va_G) {cl : List vw_C} {tys : List (ClassId × FieldType)} {ι : Nat → ClassId} (hx : gx_std vwCl (gty ι) cl tys) (a : Nat → Nat) (S : gx_S) {out : Int32 × gx_S} (h : m_ShopsAsOne_image  S = some out) : gx_mI l D cl tys yX7_image (.code yX7_image cX7_image 1 ((Option.some Jvm.ClassFile.FieldType.int)) :: gx_U) (gx_rm 1) [.ref (a 0)] (wX a ι S) (wX a ι) out := by
  unfold m_ShopsAsOne_image at h
  refine gx_startI (V := [.ref (a 0)]) 0 (by decide +kernel) (Nat.le_of_ble_eq_true rfl) rfl (fun Γ hl hD hcl hty hnL C F => ?_)
  subst hl; subst hD; subst hcl; subst hty
  refine gx_aload_0 C dX7_image_0 rfl ?_
  refine gs_getf (q := 0) C fl_X7_28 (cls_X7 hx) lt_X_ShopsAsOne (oc_X_ShopsAsOne a ι _) rfl dX7_image_1 ?_
  refine gx_aload_0 C dX7_image_4 rfl ?_
  refine gs_getf (q := 0) C fl_X7_21 (cls_X7 hx) lt_X_ShopsAsOne (oc_X_ShopsAsOne a ι _) rfl dX7_image_5 ?_
  obtain ⟨S2, e1, h⟩ := gi_cp h
  refine gc_VV C (c_Standing_become (gx_l Γ) (gx_D Γ) hx a (r := 2) (r1 := 0) (by decide) (by decide) _ e1) (gx_cw C gx_uu lk_X7_151 (by decide) (by decide)) (cls_X4 hx).1 (gs_recv (q := 29) (lt_X_Standing (q := 2) (by decide)) (oc_X_Standing a ι _ (q := 2) (by decide))) rfl rfl (Nat.le_of_ble_eq_true rfl) ⟨Nat.zero_le _, Nat.zero_le _⟩ dX7_image_8 ?_
  refine gx_aload_0 C dX7_image_11 rfl ?_
  refine gx_iconst1 C dX7_image_12 ?_
  obtain ⟨S3, e4, h⟩ := gi_let h
  refine gs_puti (q := 0) C fl_X7_292 (cls_X7 hx) lt_X_ShopsAsOne (oc_X_ShopsAsOne a ι _) (oc_X_ShopsAsOne a ι _) rfl (by decide) (by decide) (Nat.le_of_ble_eq_true rfl) e4 dX7_image_13 ?_
  refine gx_aload_0 C dX7_image_16 rfl ?_
  refine gx_aload_0 C dX7_image_17 rfl ?_
  refine gs_getf (q := 0) C fl_X7_10 (cls_X7 hx) lt_X_ShopsAsOne (oc_X_ShopsAsOne a ι _) rfl dX7_image_18 ?_
  refine gs_getf (q := 1) C fl_X7_159 (cls_X5 hx) lt_X_Street (oc_X_Street a ι _) rfl dX7_image_21 ?_
  obtain ⟨S5, e6, h⟩ := gi_let h
  refine gs_puti (q := 0) C fl_X7_295 (cls_X7 hx) lt_X_ShopsAsOne (oc_X_ShopsAsOne a ι _) (oc_X_ShopsAsOne a ι _) rfl rfl rfl (Nat.le_of_ble_eq_true rfl) e6 dX7_image_24 ?_
  refine gx_aload_0 C dX7_image_27 rfl ?_
  refine gx_aload_0 C dX7_image_28 rfl ?_
  refine gs_getf (q := 0) C fl_X7_10 (cls_X7 hx) lt_X_ShopsAsOne (oc_X_ShopsAsOne a ι _) rfl dX7_image_29 ?_
  refine gs_getf (q := 1) C fl_X7_175 (cls_X5 hx) lt_X_Street (oc_X_Street a ι _) rfl dX7_image_32 ?_
  obtain ⟨S7, e8, h⟩ := gi_let h
  refine gs_puti (q := 0) C fl_X7_298 (cls_X7 hx) lt_X_ShopsAsOne (oc_X_ShopsAsOne a ι _) (oc_X_ShopsAsOne a ι _) rfl rfl rfl (Nat.le_of_ble_eq_true rfl) e8 dX7_image_35 ?_
  refine gx_aload_0 C dX7_image_38 rfl ?_
  refine gs_getf (q := 0) C fl_X7_298 (cls_X7 hx) lt_X_ShopsAsOne (oc_X_ShopsAsOne a ι _) rfl dX7_image_39 ?_
  exact gx_iret C F rfl dX7_image_42 (Option.some.inj h)
def m_ShopsAsOne_restore_29 (t : Int32 × gx_S) (k29 : Int32 × gx_S → Option (Int32 × gx_S)) : Option (Int32 × gx_S) := match t with
  | (x1, S) => if (S 1 0) ≤ x1 then gx_cp (m_Standing_become 0 2 S) fun S2 => some (S2 0 14, S2) else gx_ck 6 x1 (gx_let (gx_st S 32 x1.toNatClampNeg (vp_nar .boolean (S 24 x1.toNatClampNeg))) fun S4 => k29 ((x1 + 1), S4))
set_option maxRecDepth 20000 in
set_option maxHeartbeats 1000000 in
theorem b_ShopsAsOne_restore_29 {Γ : gx_T} {ι : Nat → ClassId} {a : Nat → Nat} {out : Int32 × gx_S} (hx : gx_std vwCl (gty ι) (gx_cl Γ) (gx_ty Γ)) (C : gx_ok Γ cX7_restore RX7 gx_U 1) (F : gx_finI Γ ((Option.some Jvm.ClassFile.FieldType.int)) (wX a ι) out ∧ gx_nL Γ = 2) {k29 : Int32 × gx_S → Option (Int32 × gx_S)} {x1 : Int32} {S : gx_S} (hk29 : ∀ (x17 : Int32) (S7 : gx_S), k29 (x17, S7) = some out → gx_G Γ 0 0 29 [.ref (a 0), .int x17] [] (wX a ι S7)) (h : m_ShopsAsOne_restore_29 (x1, S) k29 = some out) : gx_G Γ 0 0 29 [.ref (a 0), .int x1] [] (wX a ι S) := by
  obtain ⟨F, hnL⟩ := F
  unfold m_ShopsAsOne_restore_29 at h
  dsimp only at h
  refine gx_iload_1 C dX7_restore_29 rfl ?_
  refine gx_aload_0 C dX7_restore_30 rfl ?_
  refine gs_getf (q := 0) C fl_X7_10 (cls_X7 hx) lt_X_ShopsAsOne (oc_X_ShopsAsOne a ι _) rfl dX7_restore_31 ?_
  refine gs_getf (q := 1) C fl_X7_159 (cls_X5 hx) lt_X_Street (oc_X_Street a ι _) rfl dX7_restore_34 ?_
  refine gx_icmp_ge (tgt := 64) C dX7_restore_37 (by decide) (fun hc6 => ?_) (fun hc6 => ?_)
  · have h := gi_t hc6 h
    refine gx_aload_0 C dX7_restore_64 rfl ?_
    refine gs_getf (q := 0) C fl_X7_21 (cls_X7 hx) lt_X_ShopsAsOne (oc_X_ShopsAsOne a ι _) rfl dX7_restore_65 ?_
    refine gx_aload_0 C dX7_restore_68 rfl ?_
    refine gs_getf (q := 0) C fl_X7_28 (cls_X7 hx) lt_X_ShopsAsOne (oc_X_ShopsAsOne a ι _) rfl dX7_restore_69 ?_
    obtain ⟨S2, e1, h⟩ := gi_cp h
    refine gc_VV C (c_Standing_become (gx_l Γ) (gx_D Γ) hx a (r := 0) (r1 := 2) (by decide) (by decide) _ e1) (gx_cw C gx_uu lk_X7_151 (by decide) (by decide)) (cls_X4 hx).1 (gs_recv (q := 21) (lt_X_Standing (q := 0) (by decide)) (oc_X_Standing a ι _ (q := 0) (by decide))) rfl rfl (Nat.le_of_ble_eq_true rfl) ⟨Nat.zero_le _, Nat.zero_le _⟩ dX7_restore_72 ?_
    refine gx_aload_0 C dX7_restore_75 rfl ?_
    refine gs_getf (q := 0) C fl_X7_298 (cls_X7 hx) lt_X_ShopsAsOne (oc_X_ShopsAsOne a ι _) rfl dX7_restore_76 ?_
    exact gx_iret C F rfl dX7_restore_79 (Option.some.inj h)
  · have h := gi_f hc6 h
    refine gx_aload_0 C dX7_restore_40 rfl ?_
    refine gs_getf (q := 0) C fl_X7_28 (cls_X7 hx) lt_X_ShopsAsOne (oc_X_ShopsAsOne a ι _) rfl dX7_restore_41 ?_
    refine gs_getf (q := 29) C fl_X7_301 (cls_X4 hx) (lt_X_Standing (q := 2) (by decide)) (oc_X_Standing a ι _ (q := 2) (by decide)) rfl dX7_restore_44 ?_
    refine gx_iload_1 C dX7_restore_47 rfl ?_
    refine gx_aload_0 C dX7_restore_48 rfl ?_
    refine gs_getf (q := 0) C fl_X7_21 (cls_X7 hx) lt_X_ShopsAsOne (oc_X_ShopsAsOne a ι _) rfl dX7_restore_49 ?_
    refine gs_getf (q := 21) C fl_X7_301 (cls_X4 hx) (lt_X_Standing (q := 0) (by decide)) (oc_X_Standing a ι _ (q := 0) (by decide)) rfl dX7_restore_52 ?_
    refine gx_iload_1 C dX7_restore_55 rfl ?_
    obtain ⟨hi3, h⟩ := gi_ck h
    refine gs_zald (q := 24) C (ac_X_Standing_in hx a (q := 0) (by decide)) (lt_X_Standing_in (q := 0) (by decide)) hi3 dX7_restore_56 ?_
    obtain ⟨S4, e5, h⟩ := gi_let h
    refine gs_zast (q := 32) C (ac_X_Standing_in hx a (q := 2) (by decide)) (lt_X_Standing_in (q := 2) (by decide)) hi3 e5 dX7_restore_57 ?_
    refine gx_iinc1 C dX7_restore_58 rfl (by rw [hnL]; decide) trivial ?_
    refine gx_goto (tgt := 29) C dX7_restore_61 (by decide) ?_
    exact gx_weak (gx_le_k rfl (gx_le_k rfl gx_le_0)) (hk29 _ _ h)
def m_ShopsAsOne_restore (S : gx_S) : Option (Int32 × gx_S) := if (S 0 12) = 0 then some ((-103), S) else if (S 0 14) = (S 1 1) then gx_loop (m_ShopsAsOne_restore_29) 5000 ((S 0 13), S) else some ((-103), S)
set_option maxRecDepth 20000 in
set_option maxHeartbeats 1000000 in
theorem c_ShopsAsOne_restore (l : Launch) (D : va_G) {cl : List vw_C} {tys : List (ClassId × FieldType)} {ι : Nat → ClassId} (hx : gx_std vwCl (gty ι) cl tys) (a : Nat → Nat) (S : gx_S) {out : Int32 × gx_S} (h : m_ShopsAsOne_restore  S = some out) : gx_mI l D cl tys yX7_restore (.code yX7_restore cX7_restore 2 ((Option.some Jvm.ClassFile.FieldType.int)) :: gx_U) (gx_rm 1) [.ref (a 0)] (wX a ι S) (wX a ι) out := by
  unfold m_ShopsAsOne_restore at h
  refine gx_startI (V := [.ref (a 0), .null]) 1 (by decide +kernel) (Nat.le_of_ble_eq_true rfl) rfl (fun Γ hl hD hcl hty hnL C F => ?_)
  subst hl; subst hD; subst hcl; subst hty
  refine gx_aload_0 C dX7_restore_0 rfl ?_
  refine gs_getf (q := 0) C fl_X7_292 (cls_X7 hx) lt_X_ShopsAsOne (oc_X_ShopsAsOne a ι _) rfl dX7_restore_1 ?_
  refine gx_if_eq (tgt := 21) C dX7_restore_4 (by decide) (fun hc2 => ?_) (fun hc2 => ?_)
  · have h := gi_t hc2 h
    refine gx_bipush (v := (-103)) C dX7_restore_21 (by decide) ?_
    exact gx_iret C F rfl dX7_restore_23 (Option.some.inj h)
  · have h := gi_f hc2 h
    refine gx_aload_0 C dX7_restore_7 rfl ?_
    refine gs_getf (q := 0) C fl_X7_298 (cls_X7 hx) lt_X_ShopsAsOne (oc_X_ShopsAsOne a ι _) rfl dX7_restore_8 ?_
    refine gx_aload_0 C dX7_restore_11 rfl ?_
    refine gs_getf (q := 0) C fl_X7_10 (cls_X7 hx) lt_X_ShopsAsOne (oc_X_ShopsAsOne a ι _) rfl dX7_restore_12 ?_
    refine gs_getf (q := 1) C fl_X7_175 (cls_X5 hx) lt_X_Street (oc_X_Street a ι _) rfl dX7_restore_15 ?_
    refine gx_icmp_eq (tgt := 24) C dX7_restore_18 (by decide) (fun hc1 => ?_) (fun hc1 => ?_)
    · have h := gi_t hc1 h
      refine gx_aload_0 C dX7_restore_24 rfl ?_
      refine gs_getf (q := 0) C fl_X7_295 (cls_X7 hx) lt_X_ShopsAsOne (oc_X_ShopsAsOne a ι _) rfl dX7_restore_25 ?_
      refine gx_istore_1 C dX7_restore_28 (by rw [hnL]; decide) trivial ?_
      refine gx_weak (gx_le_k rfl (gx_le_k rfl gx_le_0)) (gi_loop (P := fun t => gx_G Γ 0 0 29 [.ref (a 0), .int t.1] [] (wX a ι t.2)) (fun kk t hk h => ?_) 5000 _ h)
      obtain ⟨x19, S'9⟩ := t
      exact b_ShopsAsOne_restore_29 hx C ⟨F, hnL⟩ (k29 := kk) (fun x18 S'8 h => hk (x18, S'8) h) h
    · have h := gi_f hc1 h
      refine gx_bipush (v := (-103)) C dX7_restore_21 (by decide) ?_
      exact gx_iret C F rfl dX7_restore_23 (Option.some.inj h)
def m_ShopsAsOne_count (x1 : Int32) (S : gx_S) : Option (Int32) := if x1 = 0 then some (S 1 0) else if x1 = 1 then some (S 1 1) else if x1 = 2 then some (S 1 2) else if x1 = 3 then some (S 0 10) else if x1 = 4 then some (S 66 1) else if x1 = 5 then gx_cp (m_Standing_soldBy 0 (-1) S) fun v11 => some v11 else if x1 = 6 then some (S 0 11) else some (-102)
set_option maxRecDepth 20000 in
set_option maxHeartbeats 1000000 in
theorem c_ShopsAsOne_count (l : Launch) (D : va_G) {cl : List vw_C} {tys : List (ClassId × FieldType)} {ι : Nat → ClassId} (hx : gx_std vwCl (gty ι) cl tys) (a : Nat → Nat) (x1 : Int32) (S : gx_S) {out : Int32} (h : m_ShopsAsOne_count x1 S = some out) : gx_mI l D cl tys yX7_count (.code yX7_count cX7_count 2 ((Option.some Jvm.ClassFile.FieldType.int)) :: gx_U) (gx_rm 3) [.ref (a 0), .int x1] (wX a ι S) (wX a ι) (out, S) := by
  unfold m_ShopsAsOne_count at h
  refine gx_startI (V := [.ref (a 0), .int x1]) 0 (by decide +kernel) (Nat.le_of_ble_eq_true rfl) rfl (fun Γ hl hD hcl hty hnL C F => ?_)
  subst hl; subst hD; subst hcl; subst hty
  refine gx_iload_1 C dX7_count_0 rfl ?_
  by_cases hc1 : x1 = 0
  · have h := gi_t hc1 h
    refine gx_tin (tgt := 44) C dX7_count_1 (by rw [hc1]; decide) (by rw [hc1]; decide) (by rw [hc1]; rfl) (by decide) ?_
    refine gx_aload_0 C dX7_count_44 rfl ?_
    refine gs_getf (q := 0) C fl_X7_10 (cls_X7 hx) lt_X_ShopsAsOne (oc_X_ShopsAsOne a ι _) rfl dX7_count_45 ?_
    refine gs_getf (q := 1) C fl_X7_159 (cls_X5 hx) lt_X_Street (oc_X_Street a ι _) rfl dX7_count_48 ?_
    exact gx_iret C F rfl dX7_count_51 (congrArg (fun z => (z, S)) (Option.some.inj h))
  · have h := gi_f hc1 h
    by_cases hc2 : x1 = 1
    · have h := gi_t hc2 h
      refine gx_tin (tgt := 52) C dX7_count_1 (by rw [hc2]; decide) (by rw [hc2]; decide) (by rw [hc2]; rfl) (by decide) ?_
      refine gx_aload_0 C dX7_count_52 rfl ?_
      refine gs_getf (q := 0) C fl_X7_10 (cls_X7 hx) lt_X_ShopsAsOne (oc_X_ShopsAsOne a ι _) rfl dX7_count_53 ?_
      refine gs_getf (q := 1) C fl_X7_175 (cls_X5 hx) lt_X_Street (oc_X_Street a ι _) rfl dX7_count_56 ?_
      exact gx_iret C F rfl dX7_count_59 (congrArg (fun z => (z, S)) (Option.some.inj h))
    · have h := gi_f hc2 h
      by_cases hc3 : x1 = 2
      · have h := gi_t hc3 h
        refine gx_tin (tgt := 60) C dX7_count_1 (by rw [hc3]; decide) (by rw [hc3]; decide) (by rw [hc3]; rfl) (by decide) ?_
        refine gx_aload_0 C dX7_count_60 rfl ?_
        refine gs_getf (q := 0) C fl_X7_10 (cls_X7 hx) lt_X_ShopsAsOne (oc_X_ShopsAsOne a ι _) rfl dX7_count_61 ?_
        refine gs_getf (q := 1) C fl_X7_202 (cls_X5 hx) lt_X_Street (oc_X_Street a ι _) rfl dX7_count_64 ?_
        exact gx_iret C F rfl dX7_count_67 (congrArg (fun z => (z, S)) (Option.some.inj h))
      · have h := gi_f hc3 h
        by_cases hc4 : x1 = 3
        · have h := gi_t hc4 h
          refine gx_tin (tgt := 68) C dX7_count_1 (by rw [hc4]; decide) (by rw [hc4]; decide) (by rw [hc4]; rfl) (by decide) ?_
          refine gx_aload_0 C dX7_count_68 rfl ?_
          refine gs_getf (q := 0) C fl_X7_266 (cls_X7 hx) lt_X_ShopsAsOne (oc_X_ShopsAsOne a ι _) rfl dX7_count_69 ?_
          exact gx_iret C F rfl dX7_count_72 (congrArg (fun z => (z, S)) (Option.some.inj h))
        · have h := gi_f hc4 h
          by_cases hc5 : x1 = 4
          · have h := gi_t hc5 h
            refine gx_tin (tgt := 73) C dX7_count_1 (by rw [hc5]; decide) (by rw [hc5]; decide) (by rw [hc5]; rfl) (by decide) ?_
            refine gx_aload_0 C dX7_count_73 rfl ?_
            refine gs_getf (q := 0) C fl_X7_50 (cls_X7 hx) lt_X_ShopsAsOne (oc_X_ShopsAsOne a ι _) rfl dX7_count_74 ?_
            refine gs_getf (q := 66) C fl_X7_249 (cls_X6 hx) (lt_X_Text (q := 0) (by decide)) (oc_X_Text a ι _ (q := 0) (by decide)) rfl dX7_count_77 ?_
            exact gx_iret C F rfl dX7_count_80 (congrArg (fun z => (z, S)) (Option.some.inj h))
          · have h := gi_f hc5 h
            by_cases hc6 : x1 = 5
            · have h := gi_t hc6 h
              refine gx_tin (tgt := 81) C dX7_count_1 (by rw [hc6]; decide) (by rw [hc6]; decide) (by rw [hc6]; rfl) (by decide) ?_
              refine gx_aload_0 C dX7_count_81 rfl ?_
              refine gs_getf (q := 0) C fl_X7_21 (cls_X7 hx) lt_X_ShopsAsOne (oc_X_ShopsAsOne a ι _) rfl dX7_count_82 ?_
              refine gx_iconstm1 C dX7_count_85 ?_
              obtain ⟨v9, e8, h⟩ := gi_cp h
              refine gc_IV C (c_Standing_soldBy (gx_l Γ) (gx_D Γ) hx a (r := 0) (by decide) _ _ e8) (gx_cw C gx_uu lk_X7_113 (by decide) (by decide)) (cls_X4 hx).1 (gs_recv (q := 21) (lt_X_Standing (q := 0) (by decide)) (oc_X_Standing a ι _ (q := 0) (by decide))) rfl rfl (Nat.le_of_ble_eq_true rfl) ⟨Nat.zero_le _, Nat.zero_le _⟩ dX7_count_86 ?_
              exact gx_iret C F rfl dX7_count_89 (congrArg (fun z => (z, S)) (Option.some.inj h))
            · have h := gi_f hc6 h
              by_cases hc7 : x1 = 6
              · have h := gi_t hc7 h
                refine gx_tin (tgt := 90) C dX7_count_1 (by rw [hc7]; decide) (by rw [hc7]; decide) (by rw [hc7]; rfl) (by decide) ?_
                refine gx_aload_0 C dX7_count_90 rfl ?_
                refine gs_getf (q := 0) C fl_X7_285 (cls_X7 hx) lt_X_ShopsAsOne (oc_X_ShopsAsOne a ι _) rfl dX7_count_91 ?_
                exact gx_iret C F rfl dX7_count_94 (congrArg (fun z => (z, S)) (Option.some.inj h))
              · have h := gi_f hc7 h
                refine gx_tout (tgt := 95) C dX7_count_1 (by have := lv_neT hc1 (a := 0) (by decide); have := lv_neT hc2 (a := 1) (by decide); have := lv_neT hc3 (a := 2) (by decide); have := lv_neT hc4 (a := 3) (by decide); have := lv_neT hc5 (a := 4) (by decide); have := lv_neT hc6 (a := 5) (by decide); have := lv_neT hc7 (a := 6) (by decide); omega) (by decide) ?_
                refine gx_bipush (v := (-102)) C dX7_count_95 (by decide) ?_
                exact gx_iret C F rfl dX7_count_97 (congrArg (fun z => (z, S)) (Option.some.inj h))
def m_ShopsAsOne_mix (x0 : Int64) (x2 : Int64) (S : gx_S) : Option (Int64) := some (((31 : Int64) * x0) + x2)
set_option maxRecDepth 20000 in
set_option maxHeartbeats 1000000 in
theorem c_ShopsAsOne_mix (l : Launch) (D : va_G) {cl : List vw_C} {tys : List (ClassId × FieldType)} {ι : Nat → ClassId} (hx : gx_std vwCl (gty ι) cl tys) (a : Nat → Nat) (x0 : Int64) (x2 : Int64) (S : gx_S) {out : Int64} (h : m_ShopsAsOne_mix x0 x2 S = some out) : gx_mL l D cl tys yX7_mix (.code yX7_mix cX7_mix 4 ((Option.some Jvm.ClassFile.FieldType.long)) :: gx_U) (gx_rm 0) [.long x0, .long x2] (wX a ι S) (wX a ι) (out, S) := by
  unfold m_ShopsAsOne_mix at h
  refine gx_startL (V := [.long x0, .null, .long x2, .null]) 0 (by decide +kernel) (Nat.le_of_ble_eq_true rfl) rfl (fun Γ hl hD hcl hty hnL C F => ?_)
  subst hl; subst hD; subst hcl; subst hty
  refine gx_ldc2 (v := 31) C dX7_mix_0 kX7_328 ?_
  refine gx_lload_0 C dX7_mix_3 rfl ?_
  refine gx_lmul C dX7_mix_4 ?_
  refine gx_lload_2 C dX7_mix_5 rfl ?_
  refine gx_ladd C dX7_mix_6 ?_
  exact gx_lret C F dX7_mix_7 (congrArg (fun z => (z, S)) (Option.some.inj h))
def m_ShopsAsOne_mixStreet_88 (k73 : Int64 × Int32 → Option (Int64)) (x5 : Int32) (S : gx_S) (t : Int64 × Int32) (k88 : Int64 × Int32 → Option (Int64)) : Option (Int64) := match t with
  | (x3, x6) => if 5 < x6 then k73 (x3, (x5 + 1)) else gx_cp (m_ShopsAsOne_about x5 x6 S) fun v2 => gx_cp (m_ShopsAsOne_mix x3 v2.toInt64 S) fun v4 => k88 (v4, (x6 + 1))
set_option maxRecDepth 20000 in
set_option maxHeartbeats 1000000 in
theorem b_ShopsAsOne_mixStreet_88 {Γ : gx_T} {ι : Nat → ClassId} {a : Nat → Nat} {out : Int64} {S : gx_S} (hx : gx_std vwCl (gty ι) (gx_cl Γ) (gx_ty Γ)) (C : gx_ok Γ cX7_mixStreet RX7 gx_U 4) (F : gx_finL Γ ((Option.some Jvm.ClassFile.FieldType.long)) (wX a ι) (out, S) ∧ gx_nL Γ = 7) {k73 : Int64 × Int32 → Option (Int64)} {k88 : Int64 × Int32 → Option (Int64)} {x5 : Int32} {x3 : Int64} {x6 : Int32} (hk73 : ∀ (x37 : Int64) (x57 : Int32), k73 (x37, x57) = some out → gx_G Γ 0 0 73 [.ref (a 0), .null, .null, .long x37, .null, .int x57, .null] [] (wX a ι S)) (hk88 : ∀ (x37 : Int64) (x67 : Int32), k88 (x37, x67) = some out → gx_G Γ 0 0 88 [.ref (a 0), .null, .null, .long x37, .null, .int x5, .int x67] [] (wX a ι S)) (h : m_ShopsAsOne_mixStreet_88 k73 x5 S (x3, x6) k88 = some out) : gx_G Γ 0 0 88 [.ref (a 0), .null, .null, .long x3, .null, .int x5, .int x6] [] (wX a ι S) := by
  obtain ⟨F, hnL⟩ := F
  unfold m_ShopsAsOne_mixStreet_88 at h
  dsimp only at h
  refine gx_iload C dX7_mixStreet_88 rfl ?_
  refine gx_iconst5 C dX7_mixStreet_90 ?_
  refine gx_icmp_gt (tgt := 114) C dX7_mixStreet_91 (by decide) (fun hc5 => ?_) (fun hc5 => ?_)
  · have h := gi_t hc5 h
    refine gx_iinc1 C dX7_mixStreet_114 rfl (by rw [hnL]; decide) trivial ?_
    refine gx_goto (tgt := 73) C dX7_mixStreet_117 (by decide) ?_
    exact gx_weak (gx_le_k rfl (gx_le_n (gx_le_n (gx_le_k rfl (gx_le_n (gx_le_k rfl (gx_le_n gx_le_0))))))) (hk73 _ _ h)
  · have h := gi_f hc5 h
    refine gx_lload_3 C dX7_mixStreet_94 rfl ?_
    refine gx_aload_0 C dX7_mixStreet_95 rfl ?_
    refine gx_iload C dX7_mixStreet_96 rfl ?_
    refine gx_iload C dX7_mixStreet_98 rfl ?_
    obtain ⟨v2, e1, h⟩ := gi_cp h
    refine gc_IV C (c_ShopsAsOne_about (gx_l Γ) (gx_D Γ) hx a _ _ _ e1) (gx_cw C gx_uu lk_X7_333 (by decide) (by decide)) (cls_X7 hx).1 (gs_recv (q := 0) lt_X_ShopsAsOne (oc_X_ShopsAsOne a ι _)) rfl rfl (Nat.le_of_ble_eq_true rfl) ⟨Nat.zero_le _, Nat.zero_le _⟩ dX7_mixStreet_100 ?_
    refine gx_i2l C dX7_mixStreet_103 ?_
    obtain ⟨v4, e3, h⟩ := gi_cp h
    refine gc_LS C (c_ShopsAsOne_mix (gx_l Γ) (gx_D Γ) hx a _ _ _ e3) (gx_cwS C gx_uu lk_X7_321 (by decide) (by decide)) rfl rfl (Nat.le_of_ble_eq_true rfl) ⟨Nat.zero_le _, Nat.zero_le _⟩ dX7_mixStreet_104 ?_
    refine gx_lstore_3 C dX7_mixStreet_107 (by rw [hnL]; decide) trivial ?_
    refine gx_iinc1 C dX7_mixStreet_108 rfl (by rw [hnL]; decide) trivial ?_
    refine gx_goto (tgt := 88) C dX7_mixStreet_111 (by decide) ?_
    exact gx_weak (gx_le_k rfl (gx_le_n (gx_le_n (gx_le_k rfl (gx_le_n (gx_le_k rfl (gx_le_k rfl gx_le_0))))))) (hk88 _ _ h)
def m_ShopsAsOne_mixStreet_73 (S : gx_S) (t : Int64 × Int32) (k73 : Int64 × Int32 → Option (Int64)) : Option (Int64) := match t with
  | (x3, x5) => if (S 1 1) ≤ x5 then some x3 else gx_loop (m_ShopsAsOne_mixStreet_88 k73 x5 S) 5000 (x3, 0)
set_option maxRecDepth 20000 in
set_option maxHeartbeats 1000000 in
theorem b_ShopsAsOne_mixStreet_73 {Γ : gx_T} {ι : Nat → ClassId} {a : Nat → Nat} {out : Int64} {S : gx_S} (hx : gx_std vwCl (gty ι) (gx_cl Γ) (gx_ty Γ)) (C : gx_ok Γ cX7_mixStreet RX7 gx_U 4) (F : gx_finL Γ ((Option.some Jvm.ClassFile.FieldType.long)) (wX a ι) (out, S) ∧ gx_nL Γ = 7) {k73 : Int64 × Int32 → Option (Int64)} {x3 : Int64} {x5 : Int32} (hk73 : ∀ (x37 : Int64) (x57 : Int32), k73 (x37, x57) = some out → gx_G Γ 0 0 73 [.ref (a 0), .null, .null, .long x37, .null, .int x57, .null] [] (wX a ι S)) (h : m_ShopsAsOne_mixStreet_73 S (x3, x5) k73 = some out) : gx_G Γ 0 0 73 [.ref (a 0), .null, .null, .long x3, .null, .int x5, .null] [] (wX a ι S) := by
  obtain ⟨F, hnL⟩ := F
  unfold m_ShopsAsOne_mixStreet_73 at h
  dsimp only at h
  refine gx_iload C dX7_mixStreet_73 rfl ?_
  refine gx_aload_0 C dX7_mixStreet_75 rfl ?_
  refine gs_getf (q := 0) C fl_X7_10 (cls_X7 hx) lt_X_ShopsAsOne (oc_X_ShopsAsOne a ι _) rfl dX7_mixStreet_76 ?_
  refine gs_getf (q := 1) C fl_X7_175 (cls_X5 hx) lt_X_Street (oc_X_Street a ι _) rfl dX7_mixStreet_79 ?_
  refine gx_icmp_ge (tgt := 120) C dX7_mixStreet_82 (by decide) (fun hc1 => ?_) (fun hc1 => ?_)
  · have h := gi_t hc1 h
    refine gx_lload_3 C dX7_mixStreet_120 rfl ?_
    exact gx_lret C F dX7_mixStreet_121 (congrArg (fun z => (z, S)) (Option.some.inj h))
  · have h := gi_f hc1 h
    refine gx_iconst0 C dX7_mixStreet_85 ?_
    refine gx_istore C dX7_mixStreet_86 (by rw [hnL]; decide) trivial ?_
    refine gx_weak (gx_le_k rfl (gx_le_n (gx_le_n (gx_le_k rfl (gx_le_n (gx_le_k rfl (gx_le_k rfl gx_le_0))))))) (gi_loop (P := fun t => gx_G Γ 0 0 88 [.ref (a 0), .null, .null, .long t.1, .null, .int x5, .int t.2] [] (wX a ι S)) (fun kk t hk h => ?_) 5000 _ h)
    obtain ⟨x39, x69⟩ := t
    exact b_ShopsAsOne_mixStreet_88 hx C ⟨F, hnL⟩ hk73 (k88 := kk) (fun x38 x68 h => hk (x38, x68) h) h
def m_ShopsAsOne_mixStreet_5 (S : gx_S) (t : Int64 × Int32) (k5 : Int64 × Int32 → Option (Int64)) : Option (Int64) := match t with
  | (x3, x5) => if (S 1 0) ≤ x5 then gx_loop (m_ShopsAsOne_mixStreet_73 S) 5000 (x3, 0) else gx_ck 6 x5 (gx_cp (m_ShopsAsOne_mix x3 ((S 2 x5.toNatClampNeg).toInt64) S) fun v3 => gx_cp (m_ShopsAsOne_mix v3 ((S 3 x5.toNatClampNeg).toInt64) S) fun v5 => gx_cp (m_Standing_profitOf 0 x5 S) fun v7 => gx_cp (m_ShopsAsOne_mix v5 v7.toInt64 S) fun v9 => k5 (v9, (x5 + 1)))
set_option maxRecDepth 20000 in
set_option maxHeartbeats 1000000 in
theorem b_ShopsAsOne_mixStreet_5 {Γ : gx_T} {ι : Nat → ClassId} {a : Nat → Nat} {out : Int64} {S : gx_S} (hx : gx_std vwCl (gty ι) (gx_cl Γ) (gx_ty Γ)) (C : gx_ok Γ cX7_mixStreet RX7 gx_U 4) (F : gx_finL Γ ((Option.some Jvm.ClassFile.FieldType.long)) (wX a ι) (out, S) ∧ gx_nL Γ = 7) {k5 : Int64 × Int32 → Option (Int64)} {x3 : Int64} {x5 : Int32} (hk5 : ∀ (x37 : Int64) (x57 : Int32), k5 (x37, x57) = some out → gx_G Γ 0 0 5 [.ref (a 0), .null, .null, .long x37, .null, .int x57, .null] [] (wX a ι S)) (h : m_ShopsAsOne_mixStreet_5 S (x3, x5) k5 = some out) : gx_G Γ 0 0 5 [.ref (a 0), .null, .null, .long x3, .null, .int x5, .null] [] (wX a ι S) := by
  obtain ⟨F, hnL⟩ := F
  unfold m_ShopsAsOne_mixStreet_5 at h
  dsimp only at h
  refine gx_iload C dX7_mixStreet_5 rfl ?_
  refine gx_aload_0 C dX7_mixStreet_7 rfl ?_
  refine gs_getf (q := 0) C fl_X7_10 (cls_X7 hx) lt_X_ShopsAsOne (oc_X_ShopsAsOne a ι _) rfl dX7_mixStreet_8 ?_
  refine gs_getf (q := 1) C fl_X7_159 (cls_X5 hx) lt_X_Street (oc_X_Street a ι _) rfl dX7_mixStreet_11 ?_
  refine gx_icmp_ge (tgt := 70) C dX7_mixStreet_14 (by decide) (fun hc10 => ?_) (fun hc10 => ?_)
  · have h := gi_t hc10 h
    refine gx_iconst0 C dX7_mixStreet_70 ?_
    refine gx_istore C dX7_mixStreet_71 (by rw [hnL]; decide) trivial ?_
    refine gx_weak (gx_le_k rfl (gx_le_n (gx_le_n (gx_le_k rfl (gx_le_n (gx_le_k rfl (gx_le_n gx_le_0))))))) (gi_loop (P := fun t => gx_G Γ 0 0 73 [.ref (a 0), .null, .null, .long t.1, .null, .int t.2, .null] [] (wX a ι S)) (fun kk t hk h => ?_) 5000 _ h)
    obtain ⟨x39, x59⟩ := t
    exact b_ShopsAsOne_mixStreet_73 hx C ⟨F, hnL⟩ (k73 := kk) (fun x38 x58 h => hk (x38, x58) h) h
  · have h := gi_f hc10 h
    refine gx_lload_3 C dX7_mixStreet_17 rfl ?_
    refine gx_aload_0 C dX7_mixStreet_18 rfl ?_
    refine gs_getf (q := 0) C fl_X7_10 (cls_X7 hx) lt_X_ShopsAsOne (oc_X_ShopsAsOne a ι _) rfl dX7_mixStreet_19 ?_
    refine gs_getf (q := 1) C fl_X7_84 (cls_X5 hx) lt_X_Street (oc_X_Street a ι _) rfl dX7_mixStreet_22 ?_
    refine gx_iload C dX7_mixStreet_25 rfl ?_
    obtain ⟨hi1, h⟩ := gi_ck h
    refine gs_iald (q := 2) C (ac_X_Street_kind hx a) lt_X_Street_kind hi1 dX7_mixStreet_27 ?_
    refine gx_i2l C dX7_mixStreet_28 ?_
    obtain ⟨v3, e2, h⟩ := gi_cp h
    refine gc_LS C (c_ShopsAsOne_mix (gx_l Γ) (gx_D Γ) hx a _ _ _ e2) (gx_cwS C gx_uu lk_X7_321 (by decide) (by decide)) rfl rfl (Nat.le_of_ble_eq_true rfl) ⟨Nat.zero_le _, Nat.zero_le _⟩ dX7_mixStreet_29 ?_
    refine gx_lstore_3 C dX7_mixStreet_32 (by rw [hnL]; decide) trivial ?_
    refine gx_lload_3 C dX7_mixStreet_33 rfl ?_
    refine gx_aload_0 C dX7_mixStreet_34 rfl ?_
    refine gs_getf (q := 0) C fl_X7_10 (cls_X7 hx) lt_X_ShopsAsOne (oc_X_ShopsAsOne a ι _) rfl dX7_mixStreet_35 ?_
    refine gs_getf (q := 1) C fl_X7_330 (cls_X5 hx) lt_X_Street (oc_X_Street a ι _) rfl dX7_mixStreet_38 ?_
    refine gx_iload C dX7_mixStreet_41 rfl ?_
    refine gs_iald (q := 3) C (ac_X_Street_n hx a) lt_X_Street_n hi1 dX7_mixStreet_43 ?_
    refine gx_i2l C dX7_mixStreet_44 ?_
    obtain ⟨v5, e4, h⟩ := gi_cp h
    refine gc_LS C (c_ShopsAsOne_mix (gx_l Γ) (gx_D Γ) hx a _ _ _ e4) (gx_cwS C gx_uu lk_X7_321 (by decide) (by decide)) rfl rfl (Nat.le_of_ble_eq_true rfl) ⟨Nat.zero_le _, Nat.zero_le _⟩ dX7_mixStreet_45 ?_
    refine gx_lstore_3 C dX7_mixStreet_48 (by rw [hnL]; decide) trivial ?_
    refine gx_Veq (V' := [.ref (a 0), .null, .null, .long v5, .null, .int x5, .null]) rfl ?_
    refine gx_lload_3 C dX7_mixStreet_49 rfl ?_
    refine gx_aload_0 C dX7_mixStreet_50 rfl ?_
    refine gs_getf (q := 0) C fl_X7_21 (cls_X7 hx) lt_X_ShopsAsOne (oc_X_ShopsAsOne a ι _) rfl dX7_mixStreet_51 ?_
    refine gx_iload C dX7_mixStreet_54 rfl ?_
    obtain ⟨v7, e6, h⟩ := gi_cp h
    refine gc_IV C (c_Standing_profitOf (gx_l Γ) (gx_D Γ) hx a (r := 0) (by decide) _ _ e6) (gx_cw C gx_uu lk_X7_133 (by decide) (by decide)) (cls_X4 hx).1 (gs_recv (q := 21) (lt_X_Standing (q := 0) (by decide)) (oc_X_Standing a ι _ (q := 0) (by decide))) rfl rfl (Nat.le_of_ble_eq_true rfl) ⟨Nat.zero_le _, Nat.zero_le _⟩ dX7_mixStreet_56 ?_
    refine gx_i2l C dX7_mixStreet_59 ?_
    obtain ⟨v9, e8, h⟩ := gi_cp h
    refine gc_LS C (c_ShopsAsOne_mix (gx_l Γ) (gx_D Γ) hx a _ _ _ e8) (gx_cwS C gx_uu lk_X7_321 (by decide) (by decide)) rfl rfl (Nat.le_of_ble_eq_true rfl) ⟨Nat.zero_le _, Nat.zero_le _⟩ dX7_mixStreet_60 ?_
    refine gx_lstore_3 C dX7_mixStreet_63 (by rw [hnL]; decide) trivial ?_
    refine gx_iinc1 C dX7_mixStreet_64 rfl (by rw [hnL]; decide) trivial ?_
    refine gx_goto (tgt := 5) C dX7_mixStreet_67 (by decide) ?_
    exact gx_weak (gx_le_k rfl (gx_le_n (gx_le_n (gx_le_k rfl (gx_le_n (gx_le_k rfl (gx_le_n gx_le_0))))))) (hk5 _ _ h)
def m_ShopsAsOne_mixStreet (x1 : Int64) (S : gx_S) : Option (Int64) := gx_loop (m_ShopsAsOne_mixStreet_5 S) 5000 (x1, 0)
set_option maxRecDepth 20000 in
set_option maxHeartbeats 1000000 in
theorem c_ShopsAsOne_mixStreet (l : Launch) (D : va_G) {cl : List vw_C} {tys : List (ClassId × FieldType)} {ι : Nat → ClassId} (hx : gx_std vwCl (gty ι) cl tys) (a : Nat → Nat) (x1 : Int64) (S : gx_S) {out : Int64} (h : m_ShopsAsOne_mixStreet x1 S = some out) : gx_mL l D cl tys yX7_mixStreet (.code yX7_mixStreet cX7_mixStreet 7 ((Option.some Jvm.ClassFile.FieldType.long)) :: gx_U) (gx_rm 4) [.ref (a 0), .long x1] (wX a ι S) (wX a ι) (out, S) := by
  unfold m_ShopsAsOne_mixStreet at h
  refine gx_startL (V := [.ref (a 0), .long x1, .null, .null, .null, .null, .null]) 4 (by decide +kernel) (Nat.le_of_ble_eq_true rfl) rfl (fun Γ hl hD hcl hty hnL C F => ?_)
  subst hl; subst hD; subst hcl; subst hty
  refine gx_lload_1 C dX7_mixStreet_0 rfl ?_
  refine gx_lstore_3 C dX7_mixStreet_1 (by rw [hnL]; decide) trivial ?_
  refine gx_iconst0 C dX7_mixStreet_2 ?_
  refine gx_istore C dX7_mixStreet_3 (by rw [hnL]; decide) trivial ?_
  refine gx_weak (gx_le_k rfl (gx_le_n (gx_le_n (gx_le_k rfl (gx_le_n (gx_le_k rfl (gx_le_n gx_le_0))))))) (gi_loop (P := fun t => gx_G Γ 0 0 5 [.ref (a 0), .null, .null, .long t.1, .null, .int t.2, .null] [] (wX a ι S)) (fun kk t hk h => ?_) 5000 _ h)
  obtain ⟨x39, x59⟩ := t
  exact b_ShopsAsOne_mixStreet_5 hx C ⟨F, hnL⟩ (k5 := kk) (fun x38 x58 h => hk (x38, x58) h) h
def m_ShopsAsOne_mixSorts_5 (S : gx_S) (t : Int64 × Int32) (k5 : Int64 × Int32 → Option (Int64)) : Option (Int64) := match t with
  | (x3, x5) => if (S 1 2) ≤ x5 then some x3 else gx_ck 8 x5 (gx_cp (m_ShopsAsOne_mix x3 ((S 6 x5.toNatClampNeg).toInt64) S) fun v3 => gx_cp (m_ShopsAsOne_mix v3 ((S 7 x5.toNatClampNeg).toInt64) S) fun v5 => gx_cp (m_ShopsAsOne_mix v5 ((S 8 x5.toNatClampNeg).toInt64) S) fun v7 => gx_cp (m_ShopsAsOne_mix v7 ((S 9 x5.toNatClampNeg).toInt64) S) fun v9 => gx_cp (m_ShopsAsOne_mix v9 ((S 10 x5.toNatClampNeg).toInt64) S) fun v11 => gx_cp (m_ShopsAsOne_mix v11 ((S 11 x5.toNatClampNeg).toInt64) S) fun v13 => gx_cp (m_Standing_choice 0 x5 (-1) S) fun v15 => gx_cp (m_ShopsAsOne_mix v13 v15.toInt64 S) fun v17 => gx_cp (m_Standing_spareOf 0 x5 S) fun v19 => gx_cp (m_ShopsAsOne_mix v17 v19.toInt64 S) fun v21 => k5 (v21, (x5 + 1)))
set_option maxRecDepth 20000 in
set_option maxHeartbeats 1000000 in
theorem b_ShopsAsOne_mixSorts_5 {Γ : gx_T} {ι : Nat → ClassId} {a : Nat → Nat} {out : Int64} {S : gx_S} (hx : gx_std vwCl (gty ι) (gx_cl Γ) (gx_ty Γ)) (C : gx_ok Γ cX7_mixSorts RX7 gx_U 3) (F : gx_finL Γ ((Option.some Jvm.ClassFile.FieldType.long)) (wX a ι) (out, S) ∧ gx_nL Γ = 6) {k5 : Int64 × Int32 → Option (Int64)} {x3 : Int64} {x5 : Int32} (hk5 : ∀ (x37 : Int64) (x57 : Int32), k5 (x37, x57) = some out → gx_G Γ 0 0 5 [.ref (a 0), .null, .null, .long x37, .null, .int x57] [] (wX a ι S)) (h : m_ShopsAsOne_mixSorts_5 S (x3, x5) k5 = some out) : gx_G Γ 0 0 5 [.ref (a 0), .null, .null, .long x3, .null, .int x5] [] (wX a ι S) := by
  obtain ⟨F, hnL⟩ := F
  unfold m_ShopsAsOne_mixSorts_5 at h
  dsimp only at h
  refine gx_iload C dX7_mixSorts_5 rfl ?_
  refine gx_aload_0 C dX7_mixSorts_7 rfl ?_
  refine gs_getf (q := 0) C fl_X7_10 (cls_X7 hx) lt_X_ShopsAsOne (oc_X_ShopsAsOne a ι _) rfl dX7_mixSorts_8 ?_
  refine gs_getf (q := 1) C fl_X7_202 (cls_X5 hx) lt_X_Street (oc_X_Street a ι _) rfl dX7_mixSorts_11 ?_
  refine gx_icmp_ge (tgt := 150) C dX7_mixSorts_14 (by decide) (fun hc22 => ?_) (fun hc22 => ?_)
  · have h := gi_t hc22 h
    refine gx_lload_3 C dX7_mixSorts_150 rfl ?_
    exact gx_lret C F dX7_mixSorts_151 (congrArg (fun z => (z, S)) (Option.some.inj h))
  · have h := gi_f hc22 h
    refine gx_lload_3 C dX7_mixSorts_17 rfl ?_
    refine gx_aload_0 C dX7_mixSorts_18 rfl ?_
    refine gs_getf (q := 0) C fl_X7_10 (cls_X7 hx) lt_X_ShopsAsOne (oc_X_ShopsAsOne a ι _) rfl dX7_mixSorts_19 ?_
    refine gs_getf (q := 1) C fl_X7_336 (cls_X5 hx) lt_X_Street (oc_X_Street a ι _) rfl dX7_mixSorts_22 ?_
    refine gx_iload C dX7_mixSorts_25 rfl ?_
    obtain ⟨hi1, h⟩ := gi_ck h
    refine gs_iald (q := 6) C (ac_X_Street_home hx a) lt_X_Street_home hi1 dX7_mixSorts_27 ?_
    refine gx_i2l C dX7_mixSorts_28 ?_
    obtain ⟨v3, e2, h⟩ := gi_cp h
    refine gc_LS C (c_ShopsAsOne_mix (gx_l Γ) (gx_D Γ) hx a _ _ _ e2) (gx_cwS C gx_uu lk_X7_321 (by decide) (by decide)) rfl rfl (Nat.le_of_ble_eq_true rfl) ⟨Nat.zero_le _, Nat.zero_le _⟩ dX7_mixSorts_29 ?_
    refine gx_lstore_3 C dX7_mixSorts_32 (by rw [hnL]; decide) trivial ?_
    refine gx_lload_3 C dX7_mixSorts_33 rfl ?_
    refine gx_aload_0 C dX7_mixSorts_34 rfl ?_
    refine gs_getf (q := 0) C fl_X7_10 (cls_X7 hx) lt_X_ShopsAsOne (oc_X_ShopsAsOne a ι _) rfl dX7_mixSorts_35 ?_
    refine gs_getf (q := 1) C fl_X7_205 (cls_X5 hx) lt_X_Street (oc_X_Street a ι _) rfl dX7_mixSorts_38 ?_
    refine gx_iload C dX7_mixSorts_41 rfl ?_
    refine gs_iald (q := 7) C (ac_X_Street_many hx a) lt_X_Street_many hi1 dX7_mixSorts_43 ?_
    refine gx_i2l C dX7_mixSorts_44 ?_
    obtain ⟨v5, e4, h⟩ := gi_cp h
    refine gc_LS C (c_ShopsAsOne_mix (gx_l Γ) (gx_D Γ) hx a _ _ _ e4) (gx_cwS C gx_uu lk_X7_321 (by decide) (by decide)) rfl rfl (Nat.le_of_ble_eq_true rfl) ⟨Nat.zero_le _, Nat.zero_le _⟩ dX7_mixSorts_45 ?_
    refine gx_lstore_3 C dX7_mixSorts_48 (by rw [hnL]; decide) trivial ?_
    refine gx_Veq (V' := [.ref (a 0), .null, .null, .long v5, .null, .int x5]) rfl ?_
    refine gx_lload_3 C dX7_mixSorts_49 rfl ?_
    refine gx_aload_0 C dX7_mixSorts_50 rfl ?_
    refine gs_getf (q := 0) C fl_X7_10 (cls_X7 hx) lt_X_ShopsAsOne (oc_X_ShopsAsOne a ι _) rfl dX7_mixSorts_51 ?_
    refine gs_getf (q := 1) C fl_X7_339 (cls_X5 hx) lt_X_Street (oc_X_Street a ι _) rfl dX7_mixSorts_54 ?_
    refine gx_iload C dX7_mixSorts_57 rfl ?_
    refine gs_iald (q := 8) C (ac_X_Street_way hx a) lt_X_Street_way hi1 dX7_mixSorts_59 ?_
    refine gx_i2l C dX7_mixSorts_60 ?_
    obtain ⟨v7, e6, h⟩ := gi_cp h
    refine gc_LS C (c_ShopsAsOne_mix (gx_l Γ) (gx_D Γ) hx a _ _ _ e6) (gx_cwS C gx_uu lk_X7_321 (by decide) (by decide)) rfl rfl (Nat.le_of_ble_eq_true rfl) ⟨Nat.zero_le _, Nat.zero_le _⟩ dX7_mixSorts_61 ?_
    refine gx_lstore_3 C dX7_mixSorts_64 (by rw [hnL]; decide) trivial ?_
    refine gx_lload_3 C dX7_mixSorts_65 rfl ?_
    refine gx_aload_0 C dX7_mixSorts_66 rfl ?_
    refine gs_getf (q := 0) C fl_X7_10 (cls_X7 hx) lt_X_ShopsAsOne (oc_X_ShopsAsOne a ι _) rfl dX7_mixSorts_67 ?_
    refine gs_getf (q := 1) C fl_X7_342 (cls_X5 hx) lt_X_Street (oc_X_Street a ι _) rfl dX7_mixSorts_70 ?_
    refine gx_iload C dX7_mixSorts_73 rfl ?_
    refine gs_iald (q := 9) C (ac_X_Street_worth hx a) lt_X_Street_worth hi1 dX7_mixSorts_75 ?_
    refine gx_i2l C dX7_mixSorts_76 ?_
    obtain ⟨v9, e8, h⟩ := gi_cp h
    refine gc_LS C (c_ShopsAsOne_mix (gx_l Γ) (gx_D Γ) hx a _ _ _ e8) (gx_cwS C gx_uu lk_X7_321 (by decide) (by decide)) rfl rfl (Nat.le_of_ble_eq_true rfl) ⟨Nat.zero_le _, Nat.zero_le _⟩ dX7_mixSorts_77 ?_
    refine gx_lstore_3 C dX7_mixSorts_80 (by rw [hnL]; decide) trivial ?_
    refine gx_Veq (V' := [.ref (a 0), .null, .null, .long v9, .null, .int x5]) rfl ?_
    refine gx_lload_3 C dX7_mixSorts_81 rfl ?_
    refine gx_aload_0 C dX7_mixSorts_82 rfl ?_
    refine gs_getf (q := 0) C fl_X7_10 (cls_X7 hx) lt_X_ShopsAsOne (oc_X_ShopsAsOne a ι _) rfl dX7_mixSorts_83 ?_
    refine gs_getf (q := 1) C fl_X7_345 (cls_X5 hx) lt_X_Street (oc_X_Street a ι _) rfl dX7_mixSorts_86 ?_
    refine gx_iload C dX7_mixSorts_89 rfl ?_
    refine gs_iald (q := 10) C (ac_X_Street_liked hx a) lt_X_Street_liked hi1 dX7_mixSorts_91 ?_
    refine gx_i2l C dX7_mixSorts_92 ?_
    obtain ⟨v11, e10, h⟩ := gi_cp h
    refine gc_LS C (c_ShopsAsOne_mix (gx_l Γ) (gx_D Γ) hx a _ _ _ e10) (gx_cwS C gx_uu lk_X7_321 (by decide) (by decide)) rfl rfl (Nat.le_of_ble_eq_true rfl) ⟨Nat.zero_le _, Nat.zero_le _⟩ dX7_mixSorts_93 ?_
    refine gx_lstore_3 C dX7_mixSorts_96 (by rw [hnL]; decide) trivial ?_
    refine gx_lload_3 C dX7_mixSorts_97 rfl ?_
    refine gx_aload_0 C dX7_mixSorts_98 rfl ?_
    refine gs_getf (q := 0) C fl_X7_10 (cls_X7 hx) lt_X_ShopsAsOne (oc_X_ShopsAsOne a ι _) rfl dX7_mixSorts_99 ?_
    refine gs_getf (q := 1) C fl_X7_348 (cls_X5 hx) lt_X_Street (oc_X_Street a ι _) rfl dX7_mixSorts_102 ?_
    refine gx_iload C dX7_mixSorts_105 rfl ?_
    refine gs_iald (q := 11) C (ac_X_Street_liking hx a) lt_X_Street_liking hi1 dX7_mixSorts_107 ?_
    refine gx_i2l C dX7_mixSorts_108 ?_
    obtain ⟨v13, e12, h⟩ := gi_cp h
    refine gc_LS C (c_ShopsAsOne_mix (gx_l Γ) (gx_D Γ) hx a _ _ _ e12) (gx_cwS C gx_uu lk_X7_321 (by decide) (by decide)) rfl rfl (Nat.le_of_ble_eq_true rfl) ⟨Nat.zero_le _, Nat.zero_le _⟩ dX7_mixSorts_109 ?_
    refine gx_lstore_3 C dX7_mixSorts_112 (by rw [hnL]; decide) trivial ?_
    refine gx_Veq (V' := [.ref (a 0), .null, .null, .long v13, .null, .int x5]) rfl ?_
    refine gx_lload_3 C dX7_mixSorts_113 rfl ?_
    refine gx_aload_0 C dX7_mixSorts_114 rfl ?_
    refine gs_getf (q := 0) C fl_X7_21 (cls_X7 hx) lt_X_ShopsAsOne (oc_X_ShopsAsOne a ι _) rfl dX7_mixSorts_115 ?_
    refine gx_iload C dX7_mixSorts_118 rfl ?_
    refine gx_iconstm1 C dX7_mixSorts_120 ?_
    obtain ⟨v15, e14, h⟩ := gi_cp h
    refine gc_IV C (c_Standing_choice (gx_l Γ) (gx_D Γ) hx a (r := 0) (by decide) _ _ _ e14) (gx_cw C gx_uu lk_X7_126 (by decide) (by decide)) (cls_X4 hx).1 (gs_recv (q := 21) (lt_X_Standing (q := 0) (by decide)) (oc_X_Standing a ι _ (q := 0) (by decide))) rfl rfl (Nat.le_of_ble_eq_true rfl) ⟨Nat.zero_le _, Nat.zero_le _⟩ dX7_mixSorts_121 ?_
    refine gx_i2l C dX7_mixSorts_124 ?_
    obtain ⟨v17, e16, h⟩ := gi_cp h
    refine gc_LS C (c_ShopsAsOne_mix (gx_l Γ) (gx_D Γ) hx a _ _ _ e16) (gx_cwS C gx_uu lk_X7_321 (by decide) (by decide)) rfl rfl (Nat.le_of_ble_eq_true rfl) ⟨Nat.zero_le _, Nat.zero_le _⟩ dX7_mixSorts_125 ?_
    refine gx_lstore_3 C dX7_mixSorts_128 (by rw [hnL]; decide) trivial ?_
    refine gx_lload_3 C dX7_mixSorts_129 rfl ?_
    refine gx_aload_0 C dX7_mixSorts_130 rfl ?_
    refine gs_getf (q := 0) C fl_X7_21 (cls_X7 hx) lt_X_ShopsAsOne (oc_X_ShopsAsOne a ι _) rfl dX7_mixSorts_131 ?_
    refine gx_iload C dX7_mixSorts_134 rfl ?_
    obtain ⟨v19, e18, h⟩ := gi_cp h
    refine gc_IV C (c_Standing_spareOf (gx_l Γ) (gx_D Γ) hx a (r := 0) (by decide) _ _ e18) (gx_cw C gx_uu lk_X7_129 (by decide) (by decide)) (cls_X4 hx).1 (gs_recv (q := 21) (lt_X_Standing (q := 0) (by decide)) (oc_X_Standing a ι _ (q := 0) (by decide))) rfl rfl (Nat.le_of_ble_eq_true rfl) ⟨Nat.zero_le _, Nat.zero_le _⟩ dX7_mixSorts_136 ?_
    refine gx_i2l C dX7_mixSorts_139 ?_
    obtain ⟨v21, e20, h⟩ := gi_cp h
    refine gc_LS C (c_ShopsAsOne_mix (gx_l Γ) (gx_D Γ) hx a _ _ _ e20) (gx_cwS C gx_uu lk_X7_321 (by decide) (by decide)) rfl rfl (Nat.le_of_ble_eq_true rfl) ⟨Nat.zero_le _, Nat.zero_le _⟩ dX7_mixSorts_140 ?_
    refine gx_lstore_3 C dX7_mixSorts_143 (by rw [hnL]; decide) trivial ?_
    refine gx_Veq (V' := [.ref (a 0), .null, .null, .long v21, .null, .int x5]) rfl ?_
    refine gx_iinc1 C dX7_mixSorts_144 rfl (by rw [hnL]; decide) trivial ?_
    refine gx_goto (tgt := 5) C dX7_mixSorts_147 (by decide) ?_
    exact gx_weak (gx_le_k rfl (gx_le_n (gx_le_n (gx_le_k rfl (gx_le_n (gx_le_k rfl gx_le_0)))))) (hk5 _ _ h)
def m_ShopsAsOne_mixSorts (x1 : Int64) (S : gx_S) : Option (Int64) := gx_loop (m_ShopsAsOne_mixSorts_5 S) 5000 (x1, 0)
set_option maxRecDepth 20000 in
set_option maxHeartbeats 1000000 in
theorem c_ShopsAsOne_mixSorts (l : Launch) (D : va_G) {cl : List vw_C} {tys : List (ClassId × FieldType)} {ι : Nat → ClassId} (hx : gx_std vwCl (gty ι) cl tys) (a : Nat → Nat) (x1 : Int64) (S : gx_S) {out : Int64} (h : m_ShopsAsOne_mixSorts x1 S = some out) : gx_mL l D cl tys yX7_mixSorts (.code yX7_mixSorts cX7_mixSorts 6 ((Option.some Jvm.ClassFile.FieldType.long)) :: gx_U) (gx_rm 3) [.ref (a 0), .long x1] (wX a ι S) (wX a ι) (out, S) := by
  unfold m_ShopsAsOne_mixSorts at h
  refine gx_startL (V := [.ref (a 0), .long x1, .null, .null, .null, .null]) 3 (by decide +kernel) (Nat.le_of_ble_eq_true rfl) rfl (fun Γ hl hD hcl hty hnL C F => ?_)
  subst hl; subst hD; subst hcl; subst hty
  refine gx_lload_1 C dX7_mixSorts_0 rfl ?_
  refine gx_lstore_3 C dX7_mixSorts_1 (by rw [hnL]; decide) trivial ?_
  refine gx_iconst0 C dX7_mixSorts_2 ?_
  refine gx_istore C dX7_mixSorts_3 (by rw [hnL]; decide) trivial ?_
  refine gx_weak (gx_le_k rfl (gx_le_n (gx_le_n (gx_le_k rfl (gx_le_n (gx_le_k rfl gx_le_0)))))) (gi_loop (P := fun t => gx_G Γ 0 0 5 [.ref (a 0), .null, .null, .long t.1, .null, .int t.2] [] (wX a ι S)) (fun kk t hk h => ?_) 5000 _ h)
  obtain ⟨x39, x59⟩ := t
  exact b_ShopsAsOne_mixSorts_5 hx C ⟨F, hnL⟩ (k5 := kk) (fun x38 x58 h => hk (x38, x58) h) h
def m_ShopsAsOne_mixTests_66 (k5 : Int64 × Int32 × gx_S → Option (Int64 × gx_S)) (k17 : Int64 × Int32 × gx_S → Option (Int64 × gx_S)) (k35 : Int64 × Int32 × gx_S → Option (Int64 × gx_S)) (x5 : Int32) (x6 : Int32) (x7 : Int32) (s0 : Int64) (s1 : Int64) (S : gx_S) : Option (Int64 × gx_S) := gx_cp (m_ShopsAsOne_mix s0 s1 S) fun v2 => k35 (v2, (x7 + 1), S)
set_option maxRecDepth 20000 in
set_option maxHeartbeats 1000000 in
theorem b_ShopsAsOne_mixTests_66 {Γ : gx_T} {ι : Nat → ClassId} {a : Nat → Nat} {out : Int64 × gx_S} (hx : gx_std vwCl (gty ι) (gx_cl Γ) (gx_ty Γ)) (C : gx_ok Γ cX7_mixTests RX7 gx_U 5) (F : gx_finL Γ ((Option.some Jvm.ClassFile.FieldType.long)) (wX a ι) out ∧ gx_nL Γ = 8) {k5 : Int64 × Int32 × gx_S → Option (Int64 × gx_S)} {k17 : Int64 × Int32 × gx_S → Option (Int64 × gx_S)} {k35 : Int64 × Int32 × gx_S → Option (Int64 × gx_S)} {x5 : Int32} {x6 : Int32} {x7 : Int32} {s0 : Int64} {s1 : Int64} {S : gx_S} (hk5 : ∀ (x37 : Int64) (x57 : Int32) (S7 : gx_S), k5 (x37, x57, S7) = some out → gx_G Γ 0 0 5 [.ref (a 0), .null, .null, .long x37, .null, .int x57, .null, .null] [] (wX a ι S7)) (hk17 : ∀ (x37 : Int64) (x67 : Int32) (S7 : gx_S), k17 (x37, x67, S7) = some out → gx_G Γ 0 0 17 [.ref (a 0), .null, .null, .long x37, .null, .int x5, .int x67, .null] [] (wX a ι S7)) (hk35 : ∀ (x37 : Int64) (x77 : Int32) (S7 : gx_S), k35 (x37, x77, S7) = some out → gx_G Γ 0 0 35 [.ref (a 0), .null, .null, .long x37, .null, .int x5, .int x6, .int x77] [] (wX a ι S7)) (h : m_ShopsAsOne_mixTests_66 k5 k17 k35 x5 x6 x7 s0 s1 S = some out) : gx_G Γ 0 0 66 [.ref (a 0), .null, .null, .null, .null, .int x5, .int x6, .int x7] [.long s1, .long s0] (wX a ι S) := by
  obtain ⟨F, hnL⟩ := F
  unfold m_ShopsAsOne_mixTests_66 at h
  obtain ⟨v2, e1, h⟩ := gi_cp h
  refine gc_LS C (c_ShopsAsOne_mix (gx_l Γ) (gx_D Γ) hx a _ _ _ e1) (gx_cwS C gx_uu lk_X7_321 (by decide) (by decide)) rfl rfl (Nat.le_of_ble_eq_true rfl) ⟨Nat.zero_le _, Nat.zero_le _⟩ dX7_mixTests_66 ?_
  refine gx_lstore_3 C dX7_mixTests_69 (by rw [hnL]; decide) trivial ?_
  refine gx_iinc1 C dX7_mixTests_70 rfl (by rw [hnL]; decide) trivial ?_
  refine gx_goto (tgt := 35) C dX7_mixTests_73 (by decide) ?_
  exact gx_weak (gx_le_k rfl (gx_le_n (gx_le_n (gx_le_k rfl (gx_le_n (gx_le_k rfl (gx_le_k rfl (gx_le_k rfl gx_le_0)))))))) (hk35 _ _ _ h)
def m_ShopsAsOne_mixTests_35 (k5 : Int64 × Int32 × gx_S → Option (Int64 × gx_S)) (k17 : Int64 × Int32 × gx_S → Option (Int64 × gx_S)) (x5 : Int32) (x6 : Int32) (t : Int64 × Int32 × gx_S) (k35 : Int64 × Int32 × gx_S → Option (Int64 × gx_S)) : Option (Int64 × gx_S) := match t with
  | (x3, x7, S) => if (S 1 0) ≤ x7 then k17 (x3, (x6 + 1), S) else gx_cs (m_ShopsAsOne_isBarred x5 x6 x7 S) fun v3 S2 => if v3 = 0 then m_ShopsAsOne_mixTests_66 k5 k17 k35 x5 x6 x7 x3 0 S2 else m_ShopsAsOne_mixTests_66 k5 k17 k35 x5 x6 x7 x3 1 S2
set_option maxRecDepth 20000 in
set_option maxHeartbeats 1000000 in
theorem b_ShopsAsOne_mixTests_35 {Γ : gx_T} {ι : Nat → ClassId} {a : Nat → Nat} {out : Int64 × gx_S} (hx : gx_std vwCl (gty ι) (gx_cl Γ) (gx_ty Γ)) (C : gx_ok Γ cX7_mixTests RX7 gx_U 5) (F : gx_finL Γ ((Option.some Jvm.ClassFile.FieldType.long)) (wX a ι) out ∧ gx_nL Γ = 8) {k5 : Int64 × Int32 × gx_S → Option (Int64 × gx_S)} {k17 : Int64 × Int32 × gx_S → Option (Int64 × gx_S)} {k35 : Int64 × Int32 × gx_S → Option (Int64 × gx_S)} {x5 : Int32} {x6 : Int32} {x3 : Int64} {x7 : Int32} {S : gx_S} (hk5 : ∀ (x37 : Int64) (x57 : Int32) (S7 : gx_S), k5 (x37, x57, S7) = some out → gx_G Γ 0 0 5 [.ref (a 0), .null, .null, .long x37, .null, .int x57, .null, .null] [] (wX a ι S7)) (hk17 : ∀ (x37 : Int64) (x67 : Int32) (S7 : gx_S), k17 (x37, x67, S7) = some out → gx_G Γ 0 0 17 [.ref (a 0), .null, .null, .long x37, .null, .int x5, .int x67, .null] [] (wX a ι S7)) (hk35 : ∀ (x37 : Int64) (x77 : Int32) (S7 : gx_S), k35 (x37, x77, S7) = some out → gx_G Γ 0 0 35 [.ref (a 0), .null, .null, .long x37, .null, .int x5, .int x6, .int x77] [] (wX a ι S7)) (h : m_ShopsAsOne_mixTests_35 k5 k17 x5 x6 (x3, x7, S) k35 = some out) : gx_G Γ 0 0 35 [.ref (a 0), .null, .null, .long x3, .null, .int x5, .int x6, .int x7] [] (wX a ι S) := by
  obtain ⟨F, hnL⟩ := F
  unfold m_ShopsAsOne_mixTests_35 at h
  dsimp only at h
  refine gx_iload C dX7_mixTests_35 rfl ?_
  refine gx_aload_0 C dX7_mixTests_37 rfl ?_
  refine gs_getf (q := 0) C fl_X7_10 (cls_X7 hx) lt_X_ShopsAsOne (oc_X_ShopsAsOne a ι _) rfl dX7_mixTests_38 ?_
  refine gs_getf (q := 1) C fl_X7_159 (cls_X5 hx) lt_X_Street (oc_X_Street a ι _) rfl dX7_mixTests_41 ?_
  refine gx_icmp_ge (tgt := 76) C dX7_mixTests_44 (by decide) (fun hc5 => ?_) (fun hc5 => ?_)
  · have h := gi_t hc5 h
    refine gx_iinc1 C dX7_mixTests_76 rfl (by rw [hnL]; decide) trivial ?_
    refine gx_goto (tgt := 17) C dX7_mixTests_79 (by decide) ?_
    exact gx_weak (gx_le_k rfl (gx_le_n (gx_le_n (gx_le_k rfl (gx_le_n (gx_le_k rfl (gx_le_k rfl (gx_le_n gx_le_0)))))))) (hk17 _ _ _ h)
  · have h := gi_f hc5 h
    refine gx_lload_3 C dX7_mixTests_47 rfl ?_
    refine gx_aload_0 C dX7_mixTests_48 rfl ?_
    refine gx_iload C dX7_mixTests_49 rfl ?_
    refine gx_iload C dX7_mixTests_51 rfl ?_
    refine gx_iload C dX7_mixTests_53 rfl ?_
    obtain ⟨v3, S2, e1, h⟩ := gi_cs h
    refine gc_IV C (c_ShopsAsOne_isBarred (gx_l Γ) (gx_D Γ) hx a _ _ _ _ e1) (gx_cw C gx_uu lk_X7_275 (by decide) (by decide)) (cls_X7 hx).1 (gs_recv (q := 0) lt_X_ShopsAsOne (oc_X_ShopsAsOne a ι _)) rfl rfl (Nat.le_of_ble_eq_true rfl) ⟨Nat.zero_le _, Nat.zero_le _⟩ dX7_mixTests_55 ?_
    refine gx_if_eq (tgt := 65) C dX7_mixTests_58 (by decide) (fun hc4 => ?_) (fun hc4 => ?_)
    · have h := gi_t hc4 h
      refine gx_lconst0 C dX7_mixTests_65 ?_
      exact gx_weak (gx_le_k rfl (gx_le_n (gx_le_n (gx_le_n (gx_le_n (gx_le_k rfl (gx_le_k rfl (gx_le_k rfl gx_le_0)))))))) (b_ShopsAsOne_mixTests_66 hx C ⟨F, hnL⟩ hk5 hk17 hk35 h)
    · have h := gi_f hc4 h
      refine gx_lconst1 C dX7_mixTests_61 ?_
      refine gx_goto (tgt := 66) C dX7_mixTests_62 (by decide) ?_
      exact gx_weak (gx_le_k rfl (gx_le_n (gx_le_n (gx_le_n (gx_le_n (gx_le_k rfl (gx_le_k rfl (gx_le_k rfl gx_le_0)))))))) (b_ShopsAsOne_mixTests_66 hx C ⟨F, hnL⟩ hk5 hk17 hk35 h)
def m_ShopsAsOne_mixTests_17 (k5 : Int64 × Int32 × gx_S → Option (Int64 × gx_S)) (x5 : Int32) (t : Int64 × Int32 × gx_S) (k17 : Int64 × Int32 × gx_S → Option (Int64 × gx_S)) : Option (Int64 × gx_S) := match t with
  | (x3, x6, S) => if (S 1 0) ≤ x6 then k5 (x3, (x5 + 1), S) else gx_loop (m_ShopsAsOne_mixTests_35 k5 k17 x5 x6) 5000 (x3, (x6 + (1 : Int32)), S)
set_option maxRecDepth 20000 in
set_option maxHeartbeats 1000000 in
theorem b_ShopsAsOne_mixTests_17 {Γ : gx_T} {ι : Nat → ClassId} {a : Nat → Nat} {out : Int64 × gx_S} (hx : gx_std vwCl (gty ι) (gx_cl Γ) (gx_ty Γ)) (C : gx_ok Γ cX7_mixTests RX7 gx_U 5) (F : gx_finL Γ ((Option.some Jvm.ClassFile.FieldType.long)) (wX a ι) out ∧ gx_nL Γ = 8) {k5 : Int64 × Int32 × gx_S → Option (Int64 × gx_S)} {k17 : Int64 × Int32 × gx_S → Option (Int64 × gx_S)} {x5 : Int32} {x3 : Int64} {x6 : Int32} {S : gx_S} (hk5 : ∀ (x37 : Int64) (x57 : Int32) (S7 : gx_S), k5 (x37, x57, S7) = some out → gx_G Γ 0 0 5 [.ref (a 0), .null, .null, .long x37, .null, .int x57, .null, .null] [] (wX a ι S7)) (hk17 : ∀ (x37 : Int64) (x67 : Int32) (S7 : gx_S), k17 (x37, x67, S7) = some out → gx_G Γ 0 0 17 [.ref (a 0), .null, .null, .long x37, .null, .int x5, .int x67, .null] [] (wX a ι S7)) (h : m_ShopsAsOne_mixTests_17 k5 x5 (x3, x6, S) k17 = some out) : gx_G Γ 0 0 17 [.ref (a 0), .null, .null, .long x3, .null, .int x5, .int x6, .null] [] (wX a ι S) := by
  obtain ⟨F, hnL⟩ := F
  unfold m_ShopsAsOne_mixTests_17 at h
  dsimp only at h
  refine gx_iload C dX7_mixTests_17 rfl ?_
  refine gx_aload_0 C dX7_mixTests_19 rfl ?_
  refine gs_getf (q := 0) C fl_X7_10 (cls_X7 hx) lt_X_ShopsAsOne (oc_X_ShopsAsOne a ι _) rfl dX7_mixTests_20 ?_
  refine gs_getf (q := 1) C fl_X7_159 (cls_X5 hx) lt_X_Street (oc_X_Street a ι _) rfl dX7_mixTests_23 ?_
  refine gx_icmp_ge (tgt := 82) C dX7_mixTests_26 (by decide) (fun hc1 => ?_) (fun hc1 => ?_)
  · have h := gi_t hc1 h
    refine gx_iinc1 C dX7_mixTests_82 rfl (by rw [hnL]; decide) trivial ?_
    refine gx_goto (tgt := 5) C dX7_mixTests_85 (by decide) ?_
    exact gx_weak (gx_le_k rfl (gx_le_n (gx_le_n (gx_le_k rfl (gx_le_n (gx_le_k rfl (gx_le_n (gx_le_n gx_le_0)))))))) (hk5 _ _ _ h)
  · have h := gi_f hc1 h
    refine gx_iload C dX7_mixTests_29 rfl ?_
    refine gx_iconst1 C dX7_mixTests_31 ?_
    refine gx_iadd C dX7_mixTests_32 ?_
    refine gx_istore C dX7_mixTests_33 (by rw [hnL]; decide) trivial ?_
    refine gx_weak (gx_le_k rfl (gx_le_n (gx_le_n (gx_le_k rfl (gx_le_n (gx_le_k rfl (gx_le_k rfl (gx_le_k rfl gx_le_0)))))))) (gi_loop (P := fun t => gx_G Γ 0 0 35 [.ref (a 0), .null, .null, .long t.1, .null, .int x5, .int x6, .int t.2.1] [] (wX a ι t.2.2)) (fun kk t hk h => ?_) 5000 _ h)
    obtain ⟨x39, x79, S'9⟩ := t
    exact b_ShopsAsOne_mixTests_35 hx C ⟨F, hnL⟩ hk5 hk17 (k35 := kk) (fun x38 x78 S'8 h => hk (x38, x78, S'8) h) h
def m_ShopsAsOne_mixTests_5 (t : Int64 × Int32 × gx_S) (k5 : Int64 × Int32 × gx_S → Option (Int64 × gx_S)) : Option (Int64 × gx_S) := match t with
  | (x3, x5, S) => if (S 0 10) ≤ x5 then some (x3, S) else gx_loop (m_ShopsAsOne_mixTests_17 k5 x5) 5000 (x3, 0, S)
set_option maxRecDepth 20000 in
set_option maxHeartbeats 1000000 in
theorem b_ShopsAsOne_mixTests_5 {Γ : gx_T} {ι : Nat → ClassId} {a : Nat → Nat} {out : Int64 × gx_S} (hx : gx_std vwCl (gty ι) (gx_cl Γ) (gx_ty Γ)) (C : gx_ok Γ cX7_mixTests RX7 gx_U 5) (F : gx_finL Γ ((Option.some Jvm.ClassFile.FieldType.long)) (wX a ι) out ∧ gx_nL Γ = 8) {k5 : Int64 × Int32 × gx_S → Option (Int64 × gx_S)} {x3 : Int64} {x5 : Int32} {S : gx_S} (hk5 : ∀ (x37 : Int64) (x57 : Int32) (S7 : gx_S), k5 (x37, x57, S7) = some out → gx_G Γ 0 0 5 [.ref (a 0), .null, .null, .long x37, .null, .int x57, .null, .null] [] (wX a ι S7)) (h : m_ShopsAsOne_mixTests_5 (x3, x5, S) k5 = some out) : gx_G Γ 0 0 5 [.ref (a 0), .null, .null, .long x3, .null, .int x5, .null, .null] [] (wX a ι S) := by
  obtain ⟨F, hnL⟩ := F
  unfold m_ShopsAsOne_mixTests_5 at h
  dsimp only at h
  refine gx_iload C dX7_mixTests_5 rfl ?_
  refine gx_aload_0 C dX7_mixTests_7 rfl ?_
  refine gs_getf (q := 0) C fl_X7_266 (cls_X7 hx) lt_X_ShopsAsOne (oc_X_ShopsAsOne a ι _) rfl dX7_mixTests_8 ?_
  refine gx_icmp_ge (tgt := 88) C dX7_mixTests_11 (by decide) (fun hc1 => ?_) (fun hc1 => ?_)
  · have h := gi_t hc1 h
    refine gx_lload_3 C dX7_mixTests_88 rfl ?_
    exact gx_lret C F dX7_mixTests_89 (Option.some.inj h)
  · have h := gi_f hc1 h
    refine gx_iconst0 C dX7_mixTests_14 ?_
    refine gx_istore C dX7_mixTests_15 (by rw [hnL]; decide) trivial ?_
    refine gx_weak (gx_le_k rfl (gx_le_n (gx_le_n (gx_le_k rfl (gx_le_n (gx_le_k rfl (gx_le_k rfl (gx_le_n gx_le_0)))))))) (gi_loop (P := fun t => gx_G Γ 0 0 17 [.ref (a 0), .null, .null, .long t.1, .null, .int x5, .int t.2.1, .null] [] (wX a ι t.2.2)) (fun kk t hk h => ?_) 5000 _ h)
    obtain ⟨x39, x69, S'9⟩ := t
    exact b_ShopsAsOne_mixTests_17 hx C ⟨F, hnL⟩ hk5 (k17 := kk) (fun x38 x68 S'8 h => hk (x38, x68, S'8) h) h
def m_ShopsAsOne_mixTests (x1 : Int64) (S : gx_S) : Option (Int64 × gx_S) := gx_loop (m_ShopsAsOne_mixTests_5) 5000 (x1, 0, S)
set_option maxRecDepth 20000 in
set_option maxHeartbeats 1000000 in
theorem c_ShopsAsOne_mixTests (l : Launch) (D : va_G) {cl : List vw_C} {tys : List (ClassId × FieldType)} {ι : Nat → ClassId} (hx : gx_std vwCl (gty ι) cl tys) (a : Nat → Nat) (x1 : Int64) (S : gx_S) {out : Int64 × gx_S} (h : m_ShopsAsOne_mixTests x1 S = some out) : gx_mL l D cl tys yX7_mixTests (.code yX7_mixTests cX7_mixTests 8 ((Option.some Jvm.ClassFile.FieldType.long)) :: gx_U) (gx_rm 5) [.ref (a 0), .long x1] (wX a ι S) (wX a ι) out := by
  unfold m_ShopsAsOne_mixTests at h
  refine gx_startL (V := [.ref (a 0), .long x1, .null, .null, .null, .null, .null, .null]) 5 (by decide +kernel) (Nat.le_of_ble_eq_true rfl) rfl (fun Γ hl hD hcl hty hnL C F => ?_)
  subst hl; subst hD; subst hcl; subst hty
  refine gx_lload_1 C dX7_mixTests_0 rfl ?_
  refine gx_lstore_3 C dX7_mixTests_1 (by rw [hnL]; decide) trivial ?_
  refine gx_iconst0 C dX7_mixTests_2 ?_
  refine gx_istore C dX7_mixTests_3 (by rw [hnL]; decide) trivial ?_
  refine gx_weak (gx_le_k rfl (gx_le_n (gx_le_n (gx_le_k rfl (gx_le_n (gx_le_k rfl (gx_le_n (gx_le_n gx_le_0)))))))) (gi_loop (P := fun t => gx_G Γ 0 0 5 [.ref (a 0), .null, .null, .long t.1, .null, .int t.2.1, .null, .null] [] (wX a ι t.2.2)) (fun kk t hk h => ?_) 5000 _ h)
  obtain ⟨x39, x59, S'9⟩ := t
  exact b_ShopsAsOne_mixTests_5 hx C ⟨F, hnL⟩ (k5 := kk) (fun x38 x58 S'8 h => hk (x38, x58, S'8) h) h
def m_ShopsAsOne_digest_56 (S : gx_S) (t : Int64 × Int32) (k56 : Int64 × Int32 → Option (Int64 × gx_S)) : Option (Int64 × gx_S) := match t with
  | (x1, x3) => if 6 < x3 then some (x1, S) else gx_cp (m_ShopsAsOne_count x3 S) fun v2 => gx_cp (m_ShopsAsOne_mix x1 v2.toInt64 S) fun v4 => k56 (v4, (x3 + 1))
set_option maxRecDepth 20000 in
set_option maxHeartbeats 1000000 in
theorem b_ShopsAsOne_digest_56 {Γ : gx_T} {ι : Nat → ClassId} {a : Nat → Nat} {out : Int64 × gx_S} (hx : gx_std vwCl (gty ι) (gx_cl Γ) (gx_ty Γ)) (C : gx_ok Γ cX7_digest RX7 gx_U 6) (F : gx_finL Γ ((Option.some Jvm.ClassFile.FieldType.long)) (wX a ι) out ∧ gx_nL Γ = 4) {k56 : Int64 × Int32 → Option (Int64 × gx_S)} {x1 : Int64} {x3 : Int32} {S : gx_S} (hk56 : ∀ (x17 : Int64) (x37 : Int32), k56 (x17, x37) = some out → gx_G Γ 0 0 56 [.ref (a 0), .long x17, .null, .int x37] [] (wX a ι S)) (h : m_ShopsAsOne_digest_56 S (x1, x3) k56 = some out) : gx_G Γ 0 0 56 [.ref (a 0), .long x1, .null, .int x3] [] (wX a ι S) := by
  obtain ⟨F, hnL⟩ := F
  unfold m_ShopsAsOne_digest_56 at h
  dsimp only at h
  refine gx_iload_3 C dX7_digest_56 rfl ?_
  refine gx_bipush (v := 6) C dX7_digest_57 (by decide) ?_
  refine gx_icmp_gt (tgt := 79) C dX7_digest_59 (by decide) (fun hc5 => ?_) (fun hc5 => ?_)
  · have h := gi_t hc5 h
    refine gx_lload_1 C dX7_digest_79 rfl ?_
    exact gx_lret C F dX7_digest_80 (Option.some.inj h)
  · have h := gi_f hc5 h
    refine gx_lload_1 C dX7_digest_62 rfl ?_
    refine gx_aload_0 C dX7_digest_63 rfl ?_
    refine gx_iload_3 C dX7_digest_64 rfl ?_
    obtain ⟨v2, e1, h⟩ := gi_cp h
    refine gc_IV C (c_ShopsAsOne_count (gx_l Γ) (gx_D Γ) hx a _ _ e1) (gx_cw C gx_uu lk_X7_325 (by decide) (by decide)) (cls_X7 hx).1 (gs_recv (q := 0) lt_X_ShopsAsOne (oc_X_ShopsAsOne a ι _)) rfl rfl (Nat.le_of_ble_eq_true rfl) ⟨Nat.zero_le _, Nat.zero_le _⟩ dX7_digest_65 ?_
    refine gx_i2l C dX7_digest_68 ?_
    obtain ⟨v4, e3, h⟩ := gi_cp h
    refine gc_LS C (c_ShopsAsOne_mix (gx_l Γ) (gx_D Γ) hx a _ _ _ e3) (gx_cwS C gx_uu lk_X7_321 (by decide) (by decide)) rfl rfl (Nat.le_of_ble_eq_true rfl) ⟨Nat.zero_le _, Nat.zero_le _⟩ dX7_digest_69 ?_
    refine gx_lstore_1 C dX7_digest_72 (by rw [hnL]; decide) trivial ?_
    refine gx_iinc1 C dX7_digest_73 rfl (by rw [hnL]; decide) trivial ?_
    refine gx_goto (tgt := 56) C dX7_digest_76 (by decide) ?_
    exact gx_weak (gx_le_k rfl (gx_le_k rfl (gx_le_n (gx_le_k rfl gx_le_0)))) (hk56 _ _ h)
def m_ShopsAsOne_digest_22 (S : gx_S) (t : Int64 × Int32) (k22 : Int64 × Int32 → Option (Int64 × gx_S)) : Option (Int64 × gx_S) := match t with
  | (x1, x3) => if (S 66 1) ≤ x3 then gx_loop (m_ShopsAsOne_digest_56 S) 5000 (x1, 0) else gx_ck 50 x3 (gx_cp (m_ShopsAsOne_mix x1 ((S 67 x3.toNatClampNeg).toInt64) S) fun v3 => k22 (v3, (x3 + 1)))
set_option maxRecDepth 20000 in
set_option maxHeartbeats 1000000 in
theorem b_ShopsAsOne_digest_22 {Γ : gx_T} {ι : Nat → ClassId} {a : Nat → Nat} {out : Int64 × gx_S} (hx : gx_std vwCl (gty ι) (gx_cl Γ) (gx_ty Γ)) (C : gx_ok Γ cX7_digest RX7 gx_U 6) (F : gx_finL Γ ((Option.some Jvm.ClassFile.FieldType.long)) (wX a ι) out ∧ gx_nL Γ = 4) {k22 : Int64 × Int32 → Option (Int64 × gx_S)} {x1 : Int64} {x3 : Int32} {S : gx_S} (hk22 : ∀ (x17 : Int64) (x37 : Int32), k22 (x17, x37) = some out → gx_G Γ 0 0 22 [.ref (a 0), .long x17, .null, .int x37] [] (wX a ι S)) (h : m_ShopsAsOne_digest_22 S (x1, x3) k22 = some out) : gx_G Γ 0 0 22 [.ref (a 0), .long x1, .null, .int x3] [] (wX a ι S) := by
  obtain ⟨F, hnL⟩ := F
  unfold m_ShopsAsOne_digest_22 at h
  dsimp only at h
  refine gx_iload_3 C dX7_digest_22 rfl ?_
  refine gx_aload_0 C dX7_digest_23 rfl ?_
  refine gs_getf (q := 0) C fl_X7_50 (cls_X7 hx) lt_X_ShopsAsOne (oc_X_ShopsAsOne a ι _) rfl dX7_digest_24 ?_
  refine gs_getf (q := 66) C fl_X7_249 (cls_X6 hx) (lt_X_Text (q := 0) (by decide)) (oc_X_Text a ι _ (q := 0) (by decide)) rfl dX7_digest_27 ?_
  refine gx_icmp_ge (tgt := 54) C dX7_digest_30 (by decide) (fun hc4 => ?_) (fun hc4 => ?_)
  · have h := gi_t hc4 h
    refine gx_iconst0 C dX7_digest_54 ?_
    refine gx_istore_3 C dX7_digest_55 (by rw [hnL]; decide) trivial ?_
    refine gx_weak (gx_le_k rfl (gx_le_k rfl (gx_le_n (gx_le_k rfl gx_le_0)))) (gi_loop (P := fun t => gx_G Γ 0 0 56 [.ref (a 0), .long t.1, .null, .int t.2] [] (wX a ι S)) (fun kk t hk h => ?_) 5000 _ h)
    obtain ⟨x19, x39⟩ := t
    exact b_ShopsAsOne_digest_56 hx C ⟨F, hnL⟩ (k56 := kk) (fun x18 x38 h => hk (x18, x38) h) h
  · have h := gi_f hc4 h
    refine gx_lload_1 C dX7_digest_33 rfl ?_
    refine gx_aload_0 C dX7_digest_34 rfl ?_
    refine gs_getf (q := 0) C fl_X7_50 (cls_X7 hx) lt_X_ShopsAsOne (oc_X_ShopsAsOne a ι _) rfl dX7_digest_35 ?_
    refine gs_getf (q := 66) C fl_X7_317 (cls_X6 hx) (lt_X_Text (q := 0) (by decide)) (oc_X_Text a ι _ (q := 0) (by decide)) rfl dX7_digest_38 ?_
    refine gx_iload_3 C dX7_digest_41 rfl ?_
    obtain ⟨hi1, h⟩ := gi_ck h
    refine gs_cald (q := 67) C (ac_X_Text_letter hx a (q := 0) (by decide)) (lt_X_Text_letter (q := 0) (by decide)) hi1 dX7_digest_42 ?_
    refine gx_i2l C dX7_digest_43 ?_
    obtain ⟨v3, e2, h⟩ := gi_cp h
    refine gc_LS C (c_ShopsAsOne_mix (gx_l Γ) (gx_D Γ) hx a _ _ _ e2) (gx_cwS C gx_uu lk_X7_321 (by decide) (by decide)) rfl rfl (Nat.le_of_ble_eq_true rfl) ⟨Nat.zero_le _, Nat.zero_le _⟩ dX7_digest_44 ?_
    refine gx_lstore_1 C dX7_digest_47 (by rw [hnL]; decide) trivial ?_
    refine gx_iinc1 C dX7_digest_48 rfl (by rw [hnL]; decide) trivial ?_
    refine gx_goto (tgt := 22) C dX7_digest_51 (by decide) ?_
    exact gx_weak (gx_le_k rfl (gx_le_k rfl (gx_le_n (gx_le_k rfl gx_le_0)))) (hk22 _ _ h)
def m_ShopsAsOne_digest (S : gx_S) : Option (Int64 × gx_S) := gx_cp (m_ShopsAsOne_mixStreet 373 S) fun v2 => gx_cp (m_ShopsAsOne_mixSorts v2 S) fun v4 => gx_cs (m_ShopsAsOne_mixTests v4 S) fun v7 S6 => gx_loop (m_ShopsAsOne_digest_22 S6) 5000 (v7, 0)
set_option maxRecDepth 20000 in
set_option maxHeartbeats 1000000 in
theorem c_ShopsAsOne_digest (l : Launch) (D : va_G) {cl : List vw_C} {tys : List (ClassId × FieldType)} {ι : Nat → ClassId} (hx : gx_std vwCl (gty ι) cl tys) (a : Nat → Nat) (S : gx_S) {out : Int64 × gx_S} (h : m_ShopsAsOne_digest  S = some out) : gx_mL l D cl tys yX7_digest (.code yX7_digest cX7_digest 4 ((Option.some Jvm.ClassFile.FieldType.long)) :: gx_U) (gx_rm 6) [.ref (a 0)] (wX a ι S) (wX a ι) out := by
  unfold m_ShopsAsOne_digest at h
  refine gx_startL (V := [.ref (a 0), .null, .null, .null]) 3 (by decide +kernel) (Nat.le_of_ble_eq_true rfl) rfl (fun Γ hl hD hcl hty hnL C F => ?_)
  subst hl; subst hD; subst hcl; subst hty
  refine gx_aload_0 C dX7_digest_0 rfl ?_
  refine gx_ldc2 (v := 373) C dX7_digest_1 kX7_305 ?_
  obtain ⟨v2, e1, h⟩ := gi_cp h
  refine gc_LV C (c_ShopsAsOne_mixStreet (gx_l Γ) (gx_D Γ) hx a _ _ e1) (gx_cw C gx_uu lk_X7_307 (by decide) (by decide)) (cls_X7 hx).1 (gs_recv (q := 0) lt_X_ShopsAsOne (oc_X_ShopsAsOne a ι _)) rfl rfl (Nat.le_of_ble_eq_true rfl) ⟨Nat.zero_le _, Nat.zero_le _⟩ dX7_digest_4 ?_
  refine gx_lstore_1 C dX7_digest_7 (by rw [hnL]; decide) trivial ?_
  refine gx_aload_0 C dX7_digest_8 rfl ?_
  refine gx_lload_1 C dX7_digest_9 rfl ?_
  obtain ⟨v4, e3, h⟩ := gi_cp h
  refine gc_LV C (c_ShopsAsOne_mixSorts (gx_l Γ) (gx_D Γ) hx a _ _ e3) (gx_cw C gx_uu lk_X7_311 (by decide) (by decide)) (cls_X7 hx).1 (gs_recv (q := 0) lt_X_ShopsAsOne (oc_X_ShopsAsOne a ι _)) rfl rfl (Nat.le_of_ble_eq_true rfl) ⟨Nat.zero_le _, Nat.zero_le _⟩ dX7_digest_10 ?_
  refine gx_lstore_1 C dX7_digest_13 (by rw [hnL]; decide) trivial ?_
  refine gx_Veq (V' := [.ref (a 0), .long v4, .null, .null]) rfl ?_
  refine gx_aload_0 C dX7_digest_14 rfl ?_
  refine gx_lload_1 C dX7_digest_15 rfl ?_
  obtain ⟨v7, S6, e5, h⟩ := gi_cs h
  refine gc_LV C (c_ShopsAsOne_mixTests (gx_l Γ) (gx_D Γ) hx a _ _ e5) (gx_cw C gx_uu lk_X7_314 (by decide) (by decide)) (cls_X7 hx).1 (gs_recv (q := 0) lt_X_ShopsAsOne (oc_X_ShopsAsOne a ι _)) rfl rfl (Nat.le_of_ble_eq_true rfl) ⟨Nat.zero_le _, Nat.zero_le _⟩ dX7_digest_16 ?_
  refine gx_lstore_1 C dX7_digest_19 (by rw [hnL]; decide) trivial ?_
  refine gx_iconst0 C dX7_digest_20 ?_
  refine gx_istore_3 C dX7_digest_21 (by rw [hnL]; decide) trivial ?_
  refine gx_weak (gx_le_k rfl (gx_le_k rfl (gx_le_n (gx_le_k rfl gx_le_0)))) (gi_loop (P := fun t => gx_G Γ 0 0 22 [.ref (a 0), .long t.1, .null, .int t.2] [] (wX a ι S6)) (fun kk t hk h => ?_) 5000 _ h)
  obtain ⟨x19, x39⟩ := t
  exact b_ShopsAsOne_digest_22 hx C ⟨F, hnL⟩ (k22 := kk) (fun x18 x38 h => hk (x18, x38) h) h

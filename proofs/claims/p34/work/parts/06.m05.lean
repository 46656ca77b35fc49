def n_test_27 (t : Int32 × gx_S) (k27 : Int32 × gx_S → Option (Int32 × gx_S)) : Option (Int32 × gx_S) := match t with
  | (x1, S) => if (S 0 14) ≤ x1 then gx_ck 4 (S 0 11) (gx_let (gx_st S 10 (S 0 11).toNatClampNeg (S 0 14)) fun S2 => gx_let (gx_st S2 0 11 ((S2 0 11) + (1 : Int32))) fun S4 => gx_let (gx_st S4 0 14 0) fun S6 => some ((S6 0 11) - (1 : Int32), S6)) else gx_ck 50 x1 (gx_ck 200 (((50 : Int32) * (S 0 11)) + x1) (gx_let (gx_st S 9 (((50 : Int32) * (S 0 11)) + x1).toNatClampNeg (vp_nar .byte (S 11 x1.toNatClampNeg))) fun S10 => k27 ((x1 + 1), S10)))
set_option maxRecDepth 20000 in
set_option maxHeartbeats 1000000 in
theorem bn_test_27 {Γ : gx_T} {ι : Nat → ClassId} {a : Nat → Nat} {out : Int32 × gx_S} (hx : gx_std vwCl (gty ι) (gx_cl Γ) (gx_ty Γ)) (C : gx_ok Γ cX8_test RX8 gx_U 3) (F : gx_finI Γ ((Option.some Jvm.ClassFile.FieldType.int)) (wM a ι) out ∧ gx_nL Γ = 2) {k27 : Int32 × gx_S → Option (Int32 × gx_S)} {x1 : Int32} {S : gx_S} (hk27 : ∀ (x17 : Int32) (S7 : gx_S), k27 (x17, S7) = some out → gx_G Γ 0 0 27 [.ref (a 0), .int x17] [] (wM a ι S7)) (h : n_test_27 (x1, S) k27 = some out) : gx_G Γ 0 0 27 [.ref (a 0), .int x1] [] (wM a ι S) := by
  obtain ⟨F, hnL⟩ := F
  unfold n_test_27 at h
  dsimp only at h
  refine gx_iload_1 C dX8_test_27 rfl ?_
  refine gx_aload_0 C dX8_test_28 rfl ?_
  refine gs_getf (q := 0) C fl_X8_230 (cls_X8 hx) lt_M_Model (oc_M_Model a ι _) rfl dX8_test_29 ?_
  refine gx_icmp_ge (tgt := 61) C dX8_test_32 (by decide) (fun hc12 => ?_) (fun hc12 => ?_)
  · have h := gi_t hc12 h
    refine gx_aload_0 C dX8_test_61 rfl ?_
    refine gs_getf (q := 0) C fl_X8_39 (cls_X8 hx) lt_M_Model (oc_M_Model a ι _) rfl dX8_test_62 ?_
    refine gx_aload_0 C dX8_test_65 rfl ?_
    refine gs_getf (q := 0) C fl_X8_248 (cls_X8 hx) lt_M_Model (oc_M_Model a ι _) rfl dX8_test_66 ?_
    refine gx_aload_0 C dX8_test_69 rfl ?_
    refine gs_getf (q := 0) C fl_X8_230 (cls_X8 hx) lt_M_Model (oc_M_Model a ι _) rfl dX8_test_70 ?_
    obtain ⟨hi1, h⟩ := gi_ck h
    obtain ⟨S2, e3, h⟩ := gi_let h
    refine gs_iast (q := 10) C (ac_M_M_testSize hx a) lt_M_M_testSize hi1 e3 dX8_test_73 ?_
    refine gx_aload_0 C dX8_test_74 rfl ?_
    refine gx_dup C dX8_test_75 rfl ?_
    refine gs_getf (q := 0) C fl_X8_248 (cls_X8 hx) lt_M_Model (oc_M_Model a ι _) rfl dX8_test_76 ?_
    refine gx_iconst1 C dX8_test_79 ?_
    refine gx_iadd C dX8_test_80 ?_
    obtain ⟨S4, e5, h⟩ := gi_let h
    refine gs_puti (q := 0) C fl_X8_248 (cls_X8 hx) lt_M_Model (oc_M_Model a ι _) (oc_M_Model a ι _) rfl rfl rfl (Nat.le_of_ble_eq_true rfl) e5 dX8_test_81 ?_
    refine gx_aload_0 C dX8_test_84 rfl ?_
    refine gx_iconst0 C dX8_test_85 ?_
    obtain ⟨S6, e7, h⟩ := gi_let h
    refine gs_puti (q := 0) C fl_X8_230 (cls_X8 hx) lt_M_Model (oc_M_Model a ι _) (oc_M_Model a ι _) rfl rfl rfl (Nat.le_of_ble_eq_true rfl) e7 dX8_test_86 ?_
    refine gx_aload_0 C dX8_test_89 rfl ?_
    refine gs_getf (q := 0) C fl_X8_248 (cls_X8 hx) lt_M_Model (oc_M_Model a ι _) rfl dX8_test_90 ?_
    refine gx_iconst1 C dX8_test_93 ?_
    refine gx_isub C dX8_test_94 ?_
    exact gx_iret C F rfl dX8_test_95 (Option.some.inj h)
  · have h := gi_f hc12 h
    refine gx_aload_0 C dX8_test_35 rfl ?_
    refine gs_getf (q := 0) C fl_X8_35 (cls_X8 hx) lt_M_Model (oc_M_Model a ι _) rfl dX8_test_36 ?_
    refine gx_bipush (v := 50) C dX8_test_39 (by decide) ?_
    refine gx_aload_0 C dX8_test_41 rfl ?_
    refine gs_getf (q := 0) C fl_X8_248 (cls_X8 hx) lt_M_Model (oc_M_Model a ι _) rfl dX8_test_42 ?_
    refine gx_imul C dX8_test_45 ?_
    refine gx_iload_1 C dX8_test_46 rfl ?_
    refine gx_iadd C dX8_test_47 ?_
    refine gx_aload_0 C dX8_test_48 rfl ?_
    refine gs_getf (q := 0) C fl_X8_42 (cls_X8 hx) lt_M_Model (oc_M_Model a ι _) rfl dX8_test_49 ?_
    refine gx_iload_1 C dX8_test_52 rfl ?_
    obtain ⟨hi8, h⟩ := gi_ck h
    refine gs_bald (q := 11) C (ac_M_M_page hx a) lt_M_M_page hi8 dX8_test_53 ?_
    obtain ⟨hi9, h⟩ := gi_ck h
    obtain ⟨S10, e11, h⟩ := gi_let h
    refine gs_bast (q := 9) C (ac_M_M_testText hx a) lt_M_M_testText hi9 e11 dX8_test_54 ?_
    refine gx_iinc1 C dX8_test_55 rfl (by rw [hnL]; decide) trivial ?_
    refine gx_goto (tgt := 27) C dX8_test_58 (by decide) ?_
    exact gx_weak (gx_le_k rfl (gx_le_k rfl gx_le_0)) (hk27 _ _ h)
def n_test (S : gx_S) : Option (Int32 × gx_S) := gx_cp (n_readPage S) fun S2 => if (S2 0 36) = 0 then some ((-103), S2) else if (S2 0 11) = 4 then some ((-104), S2) else gx_loop (n_test_27) 5000 (0, S2)
set_option maxRecDepth 20000 in
set_option maxHeartbeats 1000000 in
theorem cn_test (l : Launch) (D : va_G) {cl : List vw_C} {tys : List (ClassId × FieldType)} {ι : Nat → ClassId} (hx : gx_std vwCl (gty ι) cl tys) (a : Nat → Nat) (S : gx_S) {out : Int32 × gx_S} (h : n_test  S = some out) : gx_mI l D cl tys yX8_test (.code yX8_test cX8_test 2 ((Option.some Jvm.ClassFile.FieldType.int)) :: gx_U) (gx_rm 3) [.ref (a 0)] (wM a ι S) (wM a ι) out := by
  unfold n_test at h
  refine gx_startI (V := [.ref (a 0), .null]) 1 (by decide +kernel) (Nat.le_of_ble_eq_true rfl) rfl (fun Γ hl hD hcl hty hnL C F => ?_)
  subst hl; subst hD; subst hcl; subst hty
  refine gx_aload_0 C dX8_test_0 rfl ?_
  obtain ⟨S2, e1, h⟩ := gi_cp h
  refine gc_VV C (cn_readPage (gx_l Γ) (gx_D Γ) hx a _ e1) (gx_cw C gx_uu lk_X8_245 (by decide) (by decide)) (cls_X8 hx).1 (gs_recv (q := 0) lt_M_Model (oc_M_Model a ι _)) rfl rfl (Nat.le_of_ble_eq_true rfl) ⟨Nat.zero_le _, Nat.zero_le _⟩ dX8_test_1 ?_
  refine gx_aload_0 C dX8_test_4 rfl ?_
  refine gs_getf (q := 0) C fl_X8_242 (cls_X8 hx) lt_M_Model (oc_M_Model a ι _) rfl dX8_test_5 ?_
  refine gx_if_ne (tgt := 14) C dX8_test_8 (by decide) (fun hc4 => ?_) (fun hc4 => ?_)
  · have h := gi_f hc4 h
    refine gx_aload_0 C dX8_test_14 rfl ?_
    refine gs_getf (q := 0) C fl_X8_248 (cls_X8 hx) lt_M_Model (oc_M_Model a ι _) rfl dX8_test_15 ?_
    refine gx_iconst4 C dX8_test_18 ?_
    refine gx_icmp_ne (tgt := 25) C dX8_test_19 (by decide) (fun hc3 => ?_) (fun hc3 => ?_)
    · have h := gi_f hc3 h
      refine gx_iconst0 C dX8_test_25 ?_
      refine gx_istore_1 C dX8_test_26 (by rw [hnL]; decide) trivial ?_
      refine gx_weak (gx_le_k rfl (gx_le_k rfl gx_le_0)) (gi_loop (P := fun t => gx_G Γ 0 0 27 [.ref (a 0), .int t.1] [] (wM a ι t.2)) (fun kk t hk h => ?_) 5000 _ h)
      obtain ⟨x19, S'9⟩ := t
      exact bn_test_27 hx C ⟨F, hnL⟩ (k27 := kk) (fun x18 S'8 h => hk (x18, S'8) h) h
    · have h := gi_t hc3 h
      refine gx_bipush (v := (-104)) C dX8_test_22 (by decide) ?_
      exact gx_iret C F rfl dX8_test_24 (Option.some.inj h)
  · have h := gi_t hc4 h
    refine gx_bipush (v := (-103)) C dX8_test_11 (by decide) ?_
    exact gx_iret C F rfl dX8_test_13 (Option.some.inj h)
def n_isTest (x1 : Int32) (S : gx_S) : Option (Int32) := gx_cp (n_within x1 0 ((S 0 11) - (1 : Int32)) S) fun v2 => gx_bz v2 (some v2)
set_option maxRecDepth 20000 in
set_option maxHeartbeats 1000000 in
theorem cn_isTest (l : Launch) (D : va_G) {cl : List vw_C} {tys : List (ClassId × FieldType)} {ι : Nat → ClassId} (hx : gx_std vwCl (gty ι) cl tys) (a : Nat → Nat) (x1 : Int32) (S : gx_S) {out : Int32} (h : n_isTest x1 S = some out) : gx_mI l D cl tys yX8_isTest (.code yX8_isTest cX8_isTest 2 ((Option.some Jvm.ClassFile.FieldType.boolean)) :: gx_U) (gx_rm 1) [.ref (a 0), .int x1] (wM a ι S) (wM a ι) (out, S) := by
  unfold n_isTest at h
  refine gx_startI (V := [.ref (a 0), .int x1]) 0 (by decide +kernel) (Nat.le_of_ble_eq_true rfl) rfl (fun Γ hl hD hcl hty hnL C F => ?_)
  subst hl; subst hD; subst hcl; subst hty
  refine gx_iload_1 C dX8_isTest_0 rfl ?_
  refine gx_iconst0 C dX8_isTest_1 ?_
  refine gx_aload_0 C dX8_isTest_2 rfl ?_
  refine gs_getf (q := 0) C fl_X8_248 (cls_X8 hx) lt_M_Model (oc_M_Model a ι _) rfl dX8_isTest_3 ?_
  refine gx_iconst1 C dX8_isTest_6 ?_
  refine gx_isub C dX8_isTest_7 ?_
  obtain ⟨v2, e1, h⟩ := gi_cp h
  refine gc_IS C (cn_within (gx_l Γ) (gx_D Γ) hx a _ _ _ _ e1) (gx_cwS C gx_uu lk_X8_94 (by decide) (by decide)) rfl rfl (Nat.le_of_ble_eq_true rfl) ⟨Nat.zero_le _, Nat.zero_le _⟩ dX8_isTest_8 ?_
  obtain ⟨hz3, h⟩ := gi_bz h
  exact gx_iret C F hz3.1 dX8_isTest_11 (congrArg (fun z => (z, S)) (Option.some.inj h))
def n_soldBy_33 (k4 : Int32 × Int32 → Option (Int32)) (x1 : Int32) (x3 : Int32) (s0 : Int32) (s1 : Int32) (S : gx_S) : Option (Int32) := k4 ((s0 + s1), (x3 + 1))
set_option maxRecDepth 20000 in
set_option maxHeartbeats 1000000 in
theorem bn_soldBy_33 {Γ : gx_T} {ι : Nat → ClassId} {a : Nat → Nat} {out : Int32} {S : gx_S} (hx : gx_std vwCl (gty ι) (gx_cl Γ) (gx_ty Γ)) (C : gx_ok Γ cX8_soldBy RX8 gx_U 0) (F : gx_finI Γ ((Option.some Jvm.ClassFile.FieldType.int)) (wM a ι) (out, S) ∧ gx_nL Γ = 4) {k4 : Int32 × Int32 → Option (Int32)} {x1 : Int32} {x3 : Int32} {s0 : Int32} {s1 : Int32} (hk4 : ∀ (x27 : Int32) (x37 : Int32), k4 (x27, x37) = some out → gx_G Γ 0 0 4 [.ref (a 0), .int x1, .int x27, .int x37] [] (wM a ι S)) (h : n_soldBy_33 k4 x1 x3 s0 s1 S = some out) : gx_G Γ 0 0 33 [.ref (a 0), .int x1, .null, .int x3] [.int s1, .int s0] (wM a ι S) := by
  obtain ⟨F, hnL⟩ := F
  unfold n_soldBy_33 at h
  refine gx_iadd C dX8_soldBy_33 ?_
  refine gx_istore_2 C dX8_soldBy_34 (by rw [hnL]; decide) trivial ?_
  refine gx_iinc1 C dX8_soldBy_35 rfl (by rw [hnL]; decide) trivial ?_
  refine gx_goto (tgt := 4) C dX8_soldBy_38 (by decide) ?_
  exact gx_weak (gx_le_k rfl (gx_le_k rfl (gx_le_k rfl (gx_le_k rfl gx_le_0)))) (hk4 _ _ h)
def n_soldBy_4 (x1 : Int32) (S : gx_S) (t : Int32 × Int32) (k4 : Int32 × Int32 → Option (Int32)) : Option (Int32) := match t with
  | (x2, x3) => if (S 0 4) ≤ x3 then some x2 else gx_ck 6 x3 (if (S 4 x3.toNatClampNeg) = x1 then n_soldBy_33 k4 x1 x3 x2 (S 15 x3.toNatClampNeg) S else n_soldBy_33 k4 x1 x3 x2 0 S)
set_option maxRecDepth 20000 in
set_option maxHeartbeats 1000000 in
theorem bn_soldBy_4 {Γ : gx_T} {ι : Nat → ClassId} {a : Nat → Nat} {out : Int32} {S : gx_S} (hx : gx_std vwCl (gty ι) (gx_cl Γ) (gx_ty Γ)) (C : gx_ok Γ cX8_soldBy RX8 gx_U 0) (F : gx_finI Γ ((Option.some Jvm.ClassFile.FieldType.int)) (wM a ι) (out, S) ∧ gx_nL Γ = 4) {k4 : Int32 × Int32 → Option (Int32)} {x1 : Int32} {x2 : Int32} {x3 : Int32} (hk4 : ∀ (x27 : Int32) (x37 : Int32), k4 (x27, x37) = some out → gx_G Γ 0 0 4 [.ref (a 0), .int x1, .int x27, .int x37] [] (wM a ι S)) (h : n_soldBy_4 x1 S (x2, x3) k4 = some out) : gx_G Γ 0 0 4 [.ref (a 0), .int x1, .int x2, .int x3] [] (wM a ι S) := by
  obtain ⟨F, hnL⟩ := F
  unfold n_soldBy_4 at h
  dsimp only at h
  refine gx_iload_3 C dX8_soldBy_4 rfl ?_
  refine gx_aload_0 C dX8_soldBy_5 rfl ?_
  refine gs_getf (q := 0) C fl_X8_98 (cls_X8 hx) lt_M_Model (oc_M_Model a ι _) rfl dX8_soldBy_6 ?_
  refine gx_icmp_ge (tgt := 41) C dX8_soldBy_9 (by decide) (fun hc3 => ?_) (fun hc3 => ?_)
  · have h := gi_t hc3 h
    refine gx_iload_2 C dX8_soldBy_41 rfl ?_
    exact gx_iret C F rfl dX8_soldBy_42 (congrArg (fun z => (z, S)) (Option.some.inj h))
  · have h := gi_f hc3 h
    refine gx_iload_2 C dX8_soldBy_12 rfl ?_
    refine gx_aload_0 C dX8_soldBy_13 rfl ?_
    refine gs_getf (q := 0) C fl_X8_20 (cls_X8 hx) lt_M_Model (oc_M_Model a ι _) rfl dX8_soldBy_14 ?_
    refine gx_iload_3 C dX8_soldBy_17 rfl ?_
    obtain ⟨hi1, h⟩ := gi_ck h
    refine gs_iald (q := 4) C (ac_M_M_ownerOf hx a) lt_M_M_ownerOf hi1 dX8_soldBy_18 ?_
    refine gx_iload_1 C dX8_soldBy_19 rfl ?_
    refine gx_icmp_ne (tgt := 32) C dX8_soldBy_20 (by decide) (fun hc2 => ?_) (fun hc2 => ?_)
    · have h := gi_f hc2 h
      refine gx_iconst0 C dX8_soldBy_32 ?_
      exact gx_weak (gx_le_k rfl (gx_le_k rfl (gx_le_n (gx_le_k rfl gx_le_0)))) (bn_soldBy_33 hx C ⟨F, hnL⟩ hk4 h)
    · have h := gi_t hc2 h
      refine gx_aload_0 C dX8_soldBy_23 rfl ?_
      refine gs_getf (q := 0) C fl_X8_58 (cls_X8 hx) lt_M_Model (oc_M_Model a ι _) rfl dX8_soldBy_24 ?_
      refine gx_iload_3 C dX8_soldBy_27 rfl ?_
      refine gs_iald (q := 15) C (ac_M_M_soldNow hx a) lt_M_M_soldNow hi1 dX8_soldBy_28 ?_
      refine gx_goto (tgt := 33) C dX8_soldBy_29 (by decide) ?_
      exact gx_weak (gx_le_k rfl (gx_le_k rfl (gx_le_n (gx_le_k rfl gx_le_0)))) (bn_soldBy_33 hx C ⟨F, hnL⟩ hk4 h)
def n_soldBy (x1 : Int32) (S : gx_S) : Option (Int32) := gx_loop (n_soldBy_4 x1 S) 5000 (0, 0)
set_option maxRecDepth 20000 in
set_option maxHeartbeats 1000000 in
theorem cn_soldBy (l : Launch) (D : va_G) {cl : List vw_C} {tys : List (ClassId × FieldType)} {ι : Nat → ClassId} (hx : gx_std vwCl (gty ι) cl tys) (a : Nat → Nat) (x1 : Int32) (S : gx_S) {out : Int32} (h : n_soldBy x1 S = some out) : gx_mI l D cl tys yX8_soldBy (.code yX8_soldBy cX8_soldBy 4 ((Option.some Jvm.ClassFile.FieldType.int)) :: gx_U) (gx_rm 0) [.ref (a 0), .int x1] (wM a ι S) (wM a ι) (out, S) := by
  unfold n_soldBy at h
  refine gx_startI (V := [.ref (a 0), .int x1, .null, .null]) 2 (by decide +kernel) (Nat.le_of_ble_eq_true rfl) rfl (fun Γ hl hD hcl hty hnL C F => ?_)
  subst hl; subst hD; subst hcl; subst hty
  refine gx_iconst0 C dX8_soldBy_0 ?_
  refine gx_istore_2 C dX8_soldBy_1 (by rw [hnL]; decide) trivial ?_
  refine gx_iconst0 C dX8_soldBy_2 ?_
  refine gx_istore_3 C dX8_soldBy_3 (by rw [hnL]; decide) trivial ?_
  refine gx_weak (gx_le_k rfl (gx_le_k rfl (gx_le_k rfl (gx_le_k rfl gx_le_0)))) (gi_loop (P := fun t => gx_G Γ 0 0 4 [.ref (a 0), .int x1, .int t.1, .int t.2] [] (wM a ι S)) (fun kk t hk h => ?_) 5000 _ h)
  obtain ⟨x29, x39⟩ := t
  exact bn_soldBy_4 hx C ⟨F, hnL⟩ (k4 := kk) (fun x28 x38 h => hk (x28, x38) h) h
def n_valueOf_143 (k106 : Int32 × Int32 → Option (Int32 × gx_S)) (x2 : Int32) (x3 : Int32) (x8 : Int32) (s0 : Int32) (s1 : Int32) (S : gx_S) : Option (Int32 × gx_S) := k106 ((s0 + s1), (x8 + 1))
set_option maxRecDepth 20000 in
set_option maxHeartbeats 1000000 in
theorem bn_valueOf_143 {Γ : gx_T} {ι : Nat → ClassId} {a : Nat → Nat} {out : Int32 × gx_S} (hx : gx_std vwCl (gty ι) (gx_cl Γ) (gx_ty Γ)) (C : gx_ok Γ cX8_valueOf RX8 gx_U 4) (F : gx_finI Γ ((Option.some Jvm.ClassFile.FieldType.int)) (wM a ι) out ∧ gx_nL Γ = 12) {k106 : Int32 × Int32 → Option (Int32 × gx_S)} {x2 : Int32} {x3 : Int32} {x8 : Int32} {s0 : Int32} {s1 : Int32} {S : gx_S} (hk106 : ∀ (x77 : Int32) (x87 : Int32), k106 (x77, x87) = some out → gx_G Γ 0 0 106 [.ref (a 0), .null, .int x2, .int x3, .null, .null, .null, .int x77, .int x87, .null, .null, .null] [] (wM a ι S)) (h : n_valueOf_143 k106 x2 x3 x8 s0 s1 S = some out) : gx_G Γ 0 0 143 [.ref (a 0), .null, .int x2, .int x3, .null, .null, .null, .null, .int x8, .null, .null, .null] [.int s1, .int s0] (wM a ι S) := by
  obtain ⟨F, hnL⟩ := F
  unfold n_valueOf_143 at h
  refine gx_iadd C dX8_valueOf_143 ?_
  refine gx_istore C dX8_valueOf_144 (by rw [hnL]; decide) trivial ?_
  refine gx_iinc1 C dX8_valueOf_146 rfl (by rw [hnL]; decide) trivial ?_
  refine gx_goto (tgt := 106) C dX8_valueOf_149 (by decide) ?_
  exact gx_weak (gx_le_k rfl (gx_le_n (gx_le_k rfl (gx_le_k rfl (gx_le_n (gx_le_n (gx_le_n (gx_le_k rfl (gx_le_k rfl (gx_le_n (gx_le_n (gx_le_n gx_le_0)))))))))))) (hk106 _ _ h)
def n_valueOf_142 (k106 : Int32 × Int32 → Option (Int32 × gx_S)) (x2 : Int32) (x3 : Int32) (x8 : Int32) (s0 : Int32) (S : gx_S) : Option (Int32 × gx_S) := n_valueOf_143 k106 x2 x3 x8 s0 0 S
set_option maxRecDepth 20000 in
set_option maxHeartbeats 1000000 in
theorem bn_valueOf_142 {Γ : gx_T} {ι : Nat → ClassId} {a : Nat → Nat} {out : Int32 × gx_S} (hx : gx_std vwCl (gty ι) (gx_cl Γ) (gx_ty Γ)) (C : gx_ok Γ cX8_valueOf RX8 gx_U 4) (F : gx_finI Γ ((Option.some Jvm.ClassFile.FieldType.int)) (wM a ι) out ∧ gx_nL Γ = 12) {k106 : Int32 × Int32 → Option (Int32 × gx_S)} {x2 : Int32} {x3 : Int32} {x8 : Int32} {s0 : Int32} {S : gx_S} (hk106 : ∀ (x77 : Int32) (x87 : Int32), k106 (x77, x87) = some out → gx_G Γ 0 0 106 [.ref (a 0), .null, .int x2, .int x3, .null, .null, .null, .int x77, .int x87, .null, .null, .null] [] (wM a ι S)) (h : n_valueOf_142 k106 x2 x3 x8 s0 S = some out) : gx_G Γ 0 0 142 [.ref (a 0), .null, .int x2, .int x3, .null, .null, .null, .null, .int x8, .null, .null, .null] [.int s0] (wM a ι S) := by
  obtain ⟨F, hnL⟩ := F
  unfold n_valueOf_142 at h
  refine gx_iconst0 C dX8_valueOf_142 ?_
  exact gx_weak (gx_le_k rfl (gx_le_n (gx_le_k rfl (gx_le_k rfl (gx_le_n (gx_le_n (gx_le_n (gx_le_n (gx_le_k rfl (gx_le_n (gx_le_n (gx_le_n gx_le_0)))))))))))) (bn_valueOf_143 hx C ⟨F, hnL⟩ hk106 h)
def n_valueOf_106 (x2 : Int32) (x3 : Int32) (S : gx_S) (t : Int32 × Int32) (k106 : Int32 × Int32 → Option (Int32 × gx_S)) : Option (Int32 × gx_S) := match t with
  | (x7, x8) => if (S 0 0) ≤ x8 then some (x7, S) else if x8 = x2 then n_valueOf_142 k106 x2 x3 x8 x7 S else if x8 = x3 then n_valueOf_142 k106 x2 x3 x8 x7 S else gx_cp (n_soldBy x8 S) fun v2 => if v2 ≤ 0 then n_valueOf_142 k106 x2 x3 x8 x7 S else n_valueOf_143 k106 x2 x3 x8 x7 1 S
set_option maxRecDepth 20000 in
set_option maxHeartbeats 1000000 in
theorem bn_valueOf_106 {Γ : gx_T} {ι : Nat → ClassId} {a : Nat → Nat} {out : Int32 × gx_S} (hx : gx_std vwCl (gty ι) (gx_cl Γ) (gx_ty Γ)) (C : gx_ok Γ cX8_valueOf RX8 gx_U 4) (F : gx_finI Γ ((Option.some Jvm.ClassFile.FieldType.int)) (wM a ι) out ∧ gx_nL Γ = 12) {k106 : Int32 × Int32 → Option (Int32 × gx_S)} {x2 : Int32} {x3 : Int32} {x7 : Int32} {x8 : Int32} {S : gx_S} (hk106 : ∀ (x77 : Int32) (x87 : Int32), k106 (x77, x87) = some out → gx_G Γ 0 0 106 [.ref (a 0), .null, .int x2, .int x3, .null, .null, .null, .int x77, .int x87, .null, .null, .null] [] (wM a ι S)) (h : n_valueOf_106 x2 x3 S (x7, x8) k106 = some out) : gx_G Γ 0 0 106 [.ref (a 0), .null, .int x2, .int x3, .null, .null, .null, .int x7, .int x8, .null, .null, .null] [] (wM a ι S) := by
  obtain ⟨F, hnL⟩ := F
  unfold n_valueOf_106 at h
  dsimp only at h
  refine gx_iload C dX8_valueOf_106 rfl ?_
  refine gx_aload_0 C dX8_valueOf_108 rfl ?_
  refine gs_getf (q := 0) C fl_X8_91 (cls_X8 hx) lt_M_Model (oc_M_Model a ι _) rfl dX8_valueOf_109 ?_
  refine gx_icmp_ge (tgt := 152) C dX8_valueOf_112 (by decide) (fun hc6 => ?_) (fun hc6 => ?_)
  · have h := gi_t hc6 h
    refine gx_iload C dX8_valueOf_152 rfl ?_
    exact gx_iret C F rfl dX8_valueOf_154 (Option.some.inj h)
  · have h := gi_f hc6 h
    refine gx_iload C dX8_valueOf_115 rfl ?_
    refine gx_iload C dX8_valueOf_117 rfl ?_
    refine gx_iload_2 C dX8_valueOf_119 rfl ?_
    refine gx_icmp_eq (tgt := 142) C dX8_valueOf_120 (by decide) (fun hc5 => ?_) (fun hc5 => ?_)
    · have h := gi_t hc5 h
      exact gx_weak (gx_le_k rfl (gx_le_n (gx_le_k rfl (gx_le_k rfl (gx_le_n (gx_le_n (gx_le_n (gx_le_n (gx_le_k rfl (gx_le_n (gx_le_n (gx_le_n gx_le_0)))))))))))) (bn_valueOf_142 hx C ⟨F, hnL⟩ hk106 h)
    · have h := gi_f hc5 h
      refine gx_iload C dX8_valueOf_123 rfl ?_
      refine gx_iload_3 C dX8_valueOf_125 rfl ?_
      refine gx_icmp_eq (tgt := 142) C dX8_valueOf_126 (by decide) (fun hc4 => ?_) (fun hc4 => ?_)
      · have h := gi_t hc4 h
        exact gx_weak (gx_le_k rfl (gx_le_n (gx_le_k rfl (gx_le_k rfl (gx_le_n (gx_le_n (gx_le_n (gx_le_n (gx_le_k rfl (gx_le_n (gx_le_n (gx_le_n gx_le_0)))))))))))) (bn_valueOf_142 hx C ⟨F, hnL⟩ hk106 h)
      · have h := gi_f hc4 h
        refine gx_aload_0 C dX8_valueOf_129 rfl ?_
        refine gx_iload C dX8_valueOf_130 rfl ?_
        obtain ⟨v2, e1, h⟩ := gi_cp h
        refine gc_IV C (cn_soldBy (gx_l Γ) (gx_D Γ) hx a _ _ e1) (gx_cw C gx_uu lk_X8_251 (by decide) (by decide)) (cls_X8 hx).1 (gs_recv (q := 0) lt_M_Model (oc_M_Model a ι _)) rfl rfl (Nat.le_of_ble_eq_true rfl) ⟨Nat.zero_le _, Nat.zero_le _⟩ dX8_valueOf_132 ?_
        refine gx_if_le (tgt := 142) C dX8_valueOf_135 (by decide) (fun hc3 => ?_) (fun hc3 => ?_)
        · have h := gi_t hc3 h
          exact gx_weak (gx_le_k rfl (gx_le_n (gx_le_k rfl (gx_le_k rfl (gx_le_n (gx_le_n (gx_le_n (gx_le_n (gx_le_k rfl (gx_le_n (gx_le_n (gx_le_n gx_le_0)))))))))))) (bn_valueOf_142 hx C ⟨F, hnL⟩ hk106 h)
        · have h := gi_f hc3 h
          refine gx_iconst1 C dX8_valueOf_138 ?_
          refine gx_goto (tgt := 143) C dX8_valueOf_139 (by decide) ?_
          exact gx_weak (gx_le_k rfl (gx_le_n (gx_le_k rfl (gx_le_k rfl (gx_le_n (gx_le_n (gx_le_n (gx_le_n (gx_le_k rfl (gx_le_n (gx_le_n (gx_le_n gx_le_0)))))))))))) (bn_valueOf_143 hx C ⟨F, hnL⟩ hk106 h)
def n_valueOf_101 (x2 : Int32) (x3 : Int32) (s0 : Int32) (S : gx_S) : Option (Int32 × gx_S) := gx_loop (n_valueOf_106 x2 x3 S) 5000 (s0, 0)
set_option maxRecDepth 20000 in
set_option maxHeartbeats 1000000 in
theorem bn_valueOf_101 {Γ : gx_T} {ι : Nat → ClassId} {a : Nat → Nat} {out : Int32 × gx_S} (hx : gx_std vwCl (gty ι) (gx_cl Γ) (gx_ty Γ)) (C : gx_ok Γ cX8_valueOf RX8 gx_U 4) (F : gx_finI Γ ((Option.some Jvm.ClassFile.FieldType.int)) (wM a ι) out ∧ gx_nL Γ = 12) {x2 : Int32} {x3 : Int32} {s0 : Int32} {S : gx_S} (h : n_valueOf_101 x2 x3 s0 S = some out) : gx_G Γ 0 0 101 [.ref (a 0), .null, .int x2, .int x3, .null, .null, .null, .null, .null, .null, .null, .null] [.int s0] (wM a ι S) := by
  obtain ⟨F, hnL⟩ := F
  unfold n_valueOf_101 at h
  refine gx_istore C dX8_valueOf_101 (by rw [hnL]; decide) trivial ?_
  refine gx_iconst0 C dX8_valueOf_103 ?_
  refine gx_istore C dX8_valueOf_104 (by rw [hnL]; decide) trivial ?_
  refine gx_weak (gx_le_k rfl (gx_le_n (gx_le_k rfl (gx_le_k rfl (gx_le_n (gx_le_n (gx_le_n (gx_le_k rfl (gx_le_k rfl (gx_le_n (gx_le_n (gx_le_n gx_le_0)))))))))))) (gi_loop (P := fun t => gx_G Γ 0 0 106 [.ref (a 0), .null, .int x2, .int x3, .null, .null, .null, .int t.1, .int t.2, .null, .null, .null] [] (wM a ι S)) (fun kk t hk h => ?_) 5000 _ h)
  obtain ⟨x79, x89⟩ := t
  exact bn_valueOf_106 hx C ⟨F, hnL⟩ (k106 := kk) (fun x78 x88 h => hk (x78, x88) h) h
def n_valueOf_269 (k162 : Int32 × Int32 → Option (Int32 × gx_S)) (k174 : Int32 × Int32 → Option (Int32 × gx_S)) (x2 : Int32) (x3 : Int32) (x8 : Int32) (x9 : Int32) (s0 : Int32) (S : gx_S) : Option (Int32 × gx_S) := k174 (s0, (x9 + 1))
set_option maxRecDepth 20000 in
set_option maxHeartbeats 1000000 in
theorem bn_valueOf_269 {Γ : gx_T} {ι : Nat → ClassId} {a : Nat → Nat} {out : Int32 × gx_S} (hx : gx_std vwCl (gty ι) (gx_cl Γ) (gx_ty Γ)) (C : gx_ok Γ cX8_valueOf RX8 gx_U 4) (F : gx_finI Γ ((Option.some Jvm.ClassFile.FieldType.int)) (wM a ι) out ∧ gx_nL Γ = 12) {k162 : Int32 × Int32 → Option (Int32 × gx_S)} {k174 : Int32 × Int32 → Option (Int32 × gx_S)} {x2 : Int32} {x3 : Int32} {x8 : Int32} {x9 : Int32} {s0 : Int32} {S : gx_S} (hk162 : ∀ (x77 : Int32) (x87 : Int32), k162 (x77, x87) = some out → gx_G Γ 0 0 162 [.ref (a 0), .null, .int x2, .int x3, .null, .null, .null, .int x77, .int x87, .null, .null, .null] [] (wM a ι S)) (hk174 : ∀ (x77 : Int32) (x97 : Int32), k174 (x77, x97) = some out → gx_G Γ 0 0 174 [.ref (a 0), .null, .int x2, .int x3, .null, .null, .null, .int x77, .int x8, .int x97, .null, .null] [] (wM a ι S)) (h : n_valueOf_269 k162 k174 x2 x3 x8 x9 s0 S = some out) : gx_G Γ 0 0 269 [.ref (a 0), .null, .int x2, .int x3, .null, .null, .null, .null, .int x8, .int x9, .null, .null] [.int s0] (wM a ι S) := by
  obtain ⟨F, hnL⟩ := F
  unfold n_valueOf_269 at h
  refine gx_istore C dX8_valueOf_269 (by rw [hnL]; decide) trivial ?_
  refine gx_iinc1 C dX8_valueOf_271 rfl (by rw [hnL]; decide) trivial ?_
  refine gx_goto (tgt := 174) C dX8_valueOf_274 (by decide) ?_
  exact gx_weak (gx_le_k rfl (gx_le_n (gx_le_k rfl (gx_le_k rfl (gx_le_n (gx_le_n (gx_le_n (gx_le_k rfl (gx_le_k rfl (gx_le_k rfl (gx_le_n (gx_le_n gx_le_0)))))))))))) (hk174 _ _ h)
def n_valueOf_267 (k162 : Int32 × Int32 → Option (Int32 × gx_S)) (k174 : Int32 × Int32 → Option (Int32 × gx_S)) (x2 : Int32) (x3 : Int32) (x7 : Int32) (x8 : Int32) (x9 : Int32) (S : gx_S) : Option (Int32 × gx_S) := n_valueOf_269 k162 k174 x2 x3 x8 x9 x7 S
set_option maxRecDepth 20000 in
set_option maxHeartbeats 1000000 in
theorem bn_valueOf_267 {Γ : gx_T} {ι : Nat → ClassId} {a : Nat → Nat} {out : Int32 × gx_S} (hx : gx_std vwCl (gty ι) (gx_cl Γ) (gx_ty Γ)) (C : gx_ok Γ cX8_valueOf RX8 gx_U 4) (F : gx_finI Γ ((Option.some Jvm.ClassFile.FieldType.int)) (wM a ι) out ∧ gx_nL Γ = 12) {k162 : Int32 × Int32 → Option (Int32 × gx_S)} {k174 : Int32 × Int32 → Option (Int32 × gx_S)} {x2 : Int32} {x3 : Int32} {x8 : Int32} {x7 : Int32} {x9 : Int32} {S : gx_S} (hk162 : ∀ (x77 : Int32) (x87 : Int32), k162 (x77, x87) = some out → gx_G Γ 0 0 162 [.ref (a 0), .null, .int x2, .int x3, .null, .null, .null, .int x77, .int x87, .null, .null, .null] [] (wM a ι S)) (hk174 : ∀ (x77 : Int32) (x97 : Int32), k174 (x77, x97) = some out → gx_G Γ 0 0 174 [.ref (a 0), .null, .int x2, .int x3, .null, .null, .null, .int x77, .int x8, .int x97, .null, .null] [] (wM a ι S)) (h : n_valueOf_267 k162 k174 x2 x3 x7 x8 x9 S = some out) : gx_G Γ 0 0 267 [.ref (a 0), .null, .int x2, .int x3, .null, .null, .null, .int x7, .int x8, .int x9, .null, .null] [] (wM a ι S) := by
  obtain ⟨F, hnL⟩ := F
  unfold n_valueOf_267 at h
  refine gx_iload C dX8_valueOf_267 rfl ?_
  exact gx_weak (gx_le_k rfl (gx_le_n (gx_le_k rfl (gx_le_k rfl (gx_le_n (gx_le_n (gx_le_n (gx_le_n (gx_le_k rfl (gx_le_k rfl (gx_le_n (gx_le_n gx_le_0)))))))))))) (bn_valueOf_269 hx C ⟨F, hnL⟩ hk162 hk174 h)
def n_valueOf_228 (k162 : Int32 × Int32 → Option (Int32 × gx_S)) (k174 : Int32 × Int32 → Option (Int32 × gx_S)) (x2 : Int32) (x3 : Int32) (x7 : Int32) (x8 : Int32) (x9 : Int32) (s0 : Int32) (S : gx_S) : Option (Int32 × gx_S) := gx_ck 6 x8 (gx_ck 6 x9 (gx_cp (n_size ((S 5 x8.toNatClampNeg) - (S 5 x9.toNatClampNeg)) S) fun v4 => if s0 = 0 then n_valueOf_267 k162 k174 x2 x3 x7 x8 x9 S else if x7 ≤ v4 then n_valueOf_267 k162 k174 x2 x3 x7 x8 x9 S else n_valueOf_269 k162 k174 x2 x3 x8 x9 v4 S))
set_option maxRecDepth 20000 in
set_option maxHeartbeats 1000000 in
theorem bn_valueOf_228 {Γ : gx_T} {ι : Nat → ClassId} {a : Nat → Nat} {out : Int32 × gx_S} (hx : gx_std vwCl (gty ι) (gx_cl Γ) (gx_ty Γ)) (C : gx_ok Γ cX8_valueOf RX8 gx_U 4) (F : gx_finI Γ ((Option.some Jvm.ClassFile.FieldType.int)) (wM a ι) out ∧ gx_nL Γ = 12) {k162 : Int32 × Int32 → Option (Int32 × gx_S)} {k174 : Int32 × Int32 → Option (Int32 × gx_S)} {x2 : Int32} {x3 : Int32} {x8 : Int32} {x7 : Int32} {x9 : Int32} {s0 : Int32} {S : gx_S} (hk162 : ∀ (x77 : Int32) (x87 : Int32), k162 (x77, x87) = some out → gx_G Γ 0 0 162 [.ref (a 0), .null, .int x2, .int x3, .null, .null, .null, .int x77, .int x87, .null, .null, .null] [] (wM a ι S)) (hk174 : ∀ (x77 : Int32) (x97 : Int32), k174 (x77, x97) = some out → gx_G Γ 0 0 174 [.ref (a 0), .null, .int x2, .int x3, .null, .null, .null, .int x77, .int x8, .int x97, .null, .null] [] (wM a ι S)) (h : n_valueOf_228 k162 k174 x2 x3 x7 x8 x9 s0 S = some out) : gx_G Γ 0 0 228 [.ref (a 0), .null, .int x2, .int x3, .null, .null, .null, .int x7, .int x8, .int x9, .null, .null] [.int s0] (wM a ι S) := by
  obtain ⟨F, hnL⟩ := F
  unfold n_valueOf_228 at h
  refine gx_istore C dX8_valueOf_228 (by rw [hnL]; decide) trivial ?_
  refine gx_aload_0 C dX8_valueOf_230 rfl ?_
  refine gs_getf (q := 0) C fl_X8_23 (cls_X8 hx) lt_M_Model (oc_M_Model a ι _) rfl dX8_valueOf_231 ?_
  refine gx_iload C dX8_valueOf_234 rfl ?_
  obtain ⟨hi1, h⟩ := gi_ck h
  refine gs_iald (q := 5) C (ac_M_M_placeOf hx a) lt_M_M_placeOf hi1 dX8_valueOf_236 ?_
  refine gx_aload_0 C dX8_valueOf_237 rfl ?_
  refine gs_getf (q := 0) C fl_X8_23 (cls_X8 hx) lt_M_Model (oc_M_Model a ι _) rfl dX8_valueOf_238 ?_
  refine gx_iload C dX8_valueOf_241 rfl ?_
  obtain ⟨hi2, h⟩ := gi_ck h
  refine gs_iald (q := 5) C (ac_M_M_placeOf hx a) lt_M_M_placeOf hi2 dX8_valueOf_243 ?_
  refine gx_isub C dX8_valueOf_244 ?_
  obtain ⟨v4, e3, h⟩ := gi_cp h
  refine gc_IS C (cn_size (gx_l Γ) (gx_D Γ) hx a _ _ e3) (gx_cwS C gx_uu lk_X8_116 (by decide) (by decide)) rfl rfl (Nat.le_of_ble_eq_true rfl) ⟨Nat.zero_le _, Nat.zero_le _⟩ dX8_valueOf_245 ?_
  refine gx_istore C dX8_valueOf_248 (by rw [hnL]; decide) trivial ?_
  refine gx_iload C dX8_valueOf_250 rfl ?_
  refine gx_if_eq (tgt := 267) C dX8_valueOf_252 (by decide) (fun hc6 => ?_) (fun hc6 => ?_)
  · have h := gi_t hc6 h
    exact gx_weak (gx_le_k rfl (gx_le_n (gx_le_k rfl (gx_le_k rfl (gx_le_n (gx_le_n (gx_le_n (gx_le_k rfl (gx_le_k rfl (gx_le_k rfl (gx_le_n (gx_le_n gx_le_0)))))))))))) (bn_valueOf_267 hx C ⟨F, hnL⟩ hk162 hk174 h)
  · have h := gi_f hc6 h
    refine gx_iload C dX8_valueOf_255 rfl ?_
    refine gx_iload C dX8_valueOf_257 rfl ?_
    refine gx_icmp_ge (tgt := 267) C dX8_valueOf_259 (by decide) (fun hc5 => ?_) (fun hc5 => ?_)
    · have h := gi_t hc5 h
      exact gx_weak (gx_le_k rfl (gx_le_n (gx_le_k rfl (gx_le_k rfl (gx_le_n (gx_le_n (gx_le_n (gx_le_k rfl (gx_le_k rfl (gx_le_k rfl (gx_le_n (gx_le_n gx_le_0)))))))))))) (bn_valueOf_267 hx C ⟨F, hnL⟩ hk162 hk174 h)
    · have h := gi_f hc5 h
      refine gx_iload C dX8_valueOf_262 rfl ?_
      refine gx_goto (tgt := 269) C dX8_valueOf_264 (by decide) ?_
      exact gx_weak (gx_le_k rfl (gx_le_n (gx_le_k rfl (gx_le_k rfl (gx_le_n (gx_le_n (gx_le_n (gx_le_n (gx_le_k rfl (gx_le_k rfl (gx_le_n (gx_le_n gx_le_0)))))))))))) (bn_valueOf_269 hx C ⟨F, hnL⟩ hk162 hk174 h)
def n_valueOf_227 (k162 : Int32 × Int32 → Option (Int32 × gx_S)) (k174 : Int32 × Int32 → Option (Int32 × gx_S)) (x2 : Int32) (x3 : Int32) (x7 : Int32) (x8 : Int32) (x9 : Int32) (S : gx_S) : Option (Int32 × gx_S) := n_valueOf_228 k162 k174 x2 x3 x7 x8 x9 0 S
set_option maxRecDepth 20000 in
set_option maxHeartbeats 1000000 in
theorem bn_valueOf_227 {Γ : gx_T} {ι : Nat → ClassId} {a : Nat → Nat} {out : Int32 × gx_S} (hx : gx_std vwCl (gty ι) (gx_cl Γ) (gx_ty Γ)) (C : gx_ok Γ cX8_valueOf RX8 gx_U 4) (F : gx_finI Γ ((Option.some Jvm.ClassFile.FieldType.int)) (wM a ι) out ∧ gx_nL Γ = 12) {k162 : Int32 × Int32 → Option (Int32 × gx_S)} {k174 : Int32 × Int32 → Option (Int32 × gx_S)} {x2 : Int32} {x3 : Int32} {x8 : Int32} {x7 : Int32} {x9 : Int32} {S : gx_S} (hk162 : ∀ (x77 : Int32) (x87 : Int32), k162 (x77, x87) = some out → gx_G Γ 0 0 162 [.ref (a 0), .null, .int x2, .int x3, .null, .null, .null, .int x77, .int x87, .null, .null, .null] [] (wM a ι S)) (hk174 : ∀ (x77 : Int32) (x97 : Int32), k174 (x77, x97) = some out → gx_G Γ 0 0 174 [.ref (a 0), .null, .int x2, .int x3, .null, .null, .null, .int x77, .int x8, .int x97, .null, .null] [] (wM a ι S)) (h : n_valueOf_227 k162 k174 x2 x3 x7 x8 x9 S = some out) : gx_G Γ 0 0 227 [.ref (a 0), .null, .int x2, .int x3, .null, .null, .null, .int x7, .int x8, .int x9, .null, .null] [] (wM a ι S) := by
  obtain ⟨F, hnL⟩ := F
  unfold n_valueOf_227 at h
  refine gx_iconst0 C dX8_valueOf_227 ?_
  exact gx_weak (gx_le_k rfl (gx_le_n (gx_le_k rfl (gx_le_k rfl (gx_le_n (gx_le_n (gx_le_n (gx_le_k rfl (gx_le_k rfl (gx_le_k rfl (gx_le_n (gx_le_n gx_le_0)))))))))))) (bn_valueOf_228 hx C ⟨F, hnL⟩ hk162 hk174 h)
def n_valueOf_174 (k162 : Int32 × Int32 → Option (Int32 × gx_S)) (x2 : Int32) (x3 : Int32) (x8 : Int32) (S : gx_S) (t : Int32 × Int32) (k174 : Int32 × Int32 → Option (Int32 × gx_S)) : Option (Int32 × gx_S) := match t with
  | (x7, x9) => if (S 0 4) ≤ x9 then k162 (x7, (x8 + 1)) else gx_ck 6 x8 (if (S 4 x8.toNatClampNeg) = x2 then gx_ck 6 x9 (if (S 4 x9.toNatClampNeg) = x3 then gx_cp (n_isOpen x8 S) fun v4 => if v4 = 0 then n_valueOf_227 k162 k174 x2 x3 x7 x8 x9 S else gx_cp (n_isOpen x9 S) fun v6 => if v6 = 0 then n_valueOf_227 k162 k174 x2 x3 x7 x8 x9 S else n_valueOf_228 k162 k174 x2 x3 x7 x8 x9 1 S else n_valueOf_227 k162 k174 x2 x3 x7 x8 x9 S) else n_valueOf_227 k162 k174 x2 x3 x7 x8 x9 S)
set_option maxRecDepth 20000 in
set_option maxHeartbeats 1000000 in
theorem bn_valueOf_174 {Γ : gx_T} {ι : Nat → ClassId} {a : Nat → Nat} {out : Int32 × gx_S} (hx : gx_std vwCl (gty ι) (gx_cl Γ) (gx_ty Γ)) (C : gx_ok Γ cX8_valueOf RX8 gx_U 4) (F : gx_finI Γ ((Option.some Jvm.ClassFile.FieldType.int)) (wM a ι) out ∧ gx_nL Γ = 12) {k162 : Int32 × Int32 → Option (Int32 × gx_S)} {k174 : Int32 × Int32 → Option (Int32 × gx_S)} {x2 : Int32} {x3 : Int32} {x8 : Int32} {x7 : Int32} {x9 : Int32} {S : gx_S} (hk162 : ∀ (x77 : Int32) (x87 : Int32), k162 (x77, x87) = some out → gx_G Γ 0 0 162 [.ref (a 0), .null, .int x2, .int x3, .null, .null, .null, .int x77, .int x87, .null, .null, .null] [] (wM a ι S)) (hk174 : ∀ (x77 : Int32) (x97 : Int32), k174 (x77, x97) = some out → gx_G Γ 0 0 174 [.ref (a 0), .null, .int x2, .int x3, .null, .null, .null, .int x77, .int x8, .int x97, .null, .null] [] (wM a ι S)) (h : n_valueOf_174 k162 x2 x3 x8 S (x7, x9) k174 = some out) : gx_G Γ 0 0 174 [.ref (a 0), .null, .int x2, .int x3, .null, .null, .null, .int x7, .int x8, .int x9, .null, .null] [] (wM a ι S) := by
  obtain ⟨F, hnL⟩ := F
  unfold n_valueOf_174 at h
  dsimp only at h
  refine gx_iload C dX8_valueOf_174 rfl ?_
  refine gx_aload_0 C dX8_valueOf_176 rfl ?_
  refine gs_getf (q := 0) C fl_X8_98 (cls_X8 hx) lt_M_Model (oc_M_Model a ι _) rfl dX8_valueOf_177 ?_
  refine gx_icmp_ge (tgt := 277) C dX8_valueOf_180 (by decide) (fun hc11 => ?_) (fun hc11 => ?_)
  · have h := gi_t hc11 h
    refine gx_iinc1 C dX8_valueOf_277 rfl (by rw [hnL]; decide) trivial ?_
    refine gx_goto (tgt := 162) C dX8_valueOf_280 (by decide) ?_
    exact gx_weak (gx_le_k rfl (gx_le_n (gx_le_k rfl (gx_le_k rfl (gx_le_n (gx_le_n (gx_le_n (gx_le_k rfl (gx_le_k rfl (gx_le_n (gx_le_n (gx_le_n gx_le_0)))))))))))) (hk162 _ _ h)
  · have h := gi_f hc11 h
    refine gx_aload_0 C dX8_valueOf_183 rfl ?_
    refine gs_getf (q := 0) C fl_X8_20 (cls_X8 hx) lt_M_Model (oc_M_Model a ι _) rfl dX8_valueOf_184 ?_
    refine gx_iload C dX8_valueOf_187 rfl ?_
    obtain ⟨hi1, h⟩ := gi_ck h
    refine gs_iald (q := 4) C (ac_M_M_ownerOf hx a) lt_M_M_ownerOf hi1 dX8_valueOf_189 ?_
    refine gx_iload_2 C dX8_valueOf_190 rfl ?_
    refine gx_icmp_ne (tgt := 227) C dX8_valueOf_191 (by decide) (fun hc10 => ?_) (fun hc10 => ?_)
    · have h := gi_f hc10 h
      exact gx_weak (gx_le_k rfl (gx_le_n (gx_le_k rfl (gx_le_k rfl (gx_le_n (gx_le_n (gx_le_n (gx_le_k rfl (gx_le_k rfl (gx_le_k rfl (gx_le_n (gx_le_n gx_le_0)))))))))))) (bn_valueOf_227 hx C ⟨F, hnL⟩ hk162 hk174 h)
    · have h := gi_t hc10 h
      refine gx_aload_0 C dX8_valueOf_194 rfl ?_
      refine gs_getf (q := 0) C fl_X8_20 (cls_X8 hx) lt_M_Model (oc_M_Model a ι _) rfl dX8_valueOf_195 ?_
      refine gx_iload C dX8_valueOf_198 rfl ?_
      obtain ⟨hi2, h⟩ := gi_ck h
      refine gs_iald (q := 4) C (ac_M_M_ownerOf hx a) lt_M_M_ownerOf hi2 dX8_valueOf_200 ?_
      refine gx_iload_3 C dX8_valueOf_201 rfl ?_
      refine gx_icmp_ne (tgt := 227) C dX8_valueOf_202 (by decide) (fun hc9 => ?_) (fun hc9 => ?_)
      · have h := gi_f hc9 h
        exact gx_weak (gx_le_k rfl (gx_le_n (gx_le_k rfl (gx_le_k rfl (gx_le_n (gx_le_n (gx_le_n (gx_le_k rfl (gx_le_k rfl (gx_le_k rfl (gx_le_n (gx_le_n gx_le_0)))))))))))) (bn_valueOf_227 hx C ⟨F, hnL⟩ hk162 hk174 h)
      · have h := gi_t hc9 h
        refine gx_aload_0 C dX8_valueOf_205 rfl ?_
        refine gx_iload C dX8_valueOf_206 rfl ?_
        obtain ⟨v4, e3, h⟩ := gi_cp h
        refine gc_IV C (cn_isOpen (gx_l Γ) (gx_D Γ) hx a _ _ e3) (gx_cw C gx_uu lk_X8_119 (by decide) (by decide)) (cls_X8 hx).1 (gs_recv (q := 0) lt_M_Model (oc_M_Model a ι _)) rfl rfl (Nat.le_of_ble_eq_true rfl) ⟨Nat.zero_le _, Nat.zero_le _⟩ dX8_valueOf_208 ?_
        refine gx_if_eq (tgt := 227) C dX8_valueOf_211 (by decide) (fun hc8 => ?_) (fun hc8 => ?_)
        · have h := gi_t hc8 h
          exact gx_weak (gx_le_k rfl (gx_le_n (gx_le_k rfl (gx_le_k rfl (gx_le_n (gx_le_n (gx_le_n (gx_le_k rfl (gx_le_k rfl (gx_le_k rfl (gx_le_n (gx_le_n gx_le_0)))))))))))) (bn_valueOf_227 hx C ⟨F, hnL⟩ hk162 hk174 h)
        · have h := gi_f hc8 h
          refine gx_aload_0 C dX8_valueOf_214 rfl ?_
          refine gx_iload C dX8_valueOf_215 rfl ?_
          obtain ⟨v6, e5, h⟩ := gi_cp h
          refine gc_IV C (cn_isOpen (gx_l Γ) (gx_D Γ) hx a _ _ e5) (gx_cw C gx_uu lk_X8_119 (by decide) (by decide)) (cls_X8 hx).1 (gs_recv (q := 0) lt_M_Model (oc_M_Model a ι _)) rfl rfl (Nat.le_of_ble_eq_true rfl) ⟨Nat.zero_le _, Nat.zero_le _⟩ dX8_valueOf_217 ?_
          refine gx_if_eq (tgt := 227) C dX8_valueOf_220 (by decide) (fun hc7 => ?_) (fun hc7 => ?_)
          · have h := gi_t hc7 h
            exact gx_weak (gx_le_k rfl (gx_le_n (gx_le_k rfl (gx_le_k rfl (gx_le_n (gx_le_n (gx_le_n (gx_le_k rfl (gx_le_k rfl (gx_le_k rfl (gx_le_n (gx_le_n gx_le_0)))))))))))) (bn_valueOf_227 hx C ⟨F, hnL⟩ hk162 hk174 h)
          · have h := gi_f hc7 h
            refine gx_iconst1 C dX8_valueOf_223 ?_
            refine gx_goto (tgt := 228) C dX8_valueOf_224 (by decide) ?_
            exact gx_weak (gx_le_k rfl (gx_le_n (gx_le_k rfl (gx_le_k rfl (gx_le_n (gx_le_n (gx_le_n (gx_le_k rfl (gx_le_k rfl (gx_le_k rfl (gx_le_n (gx_le_n gx_le_0)))))))))))) (bn_valueOf_228 hx C ⟨F, hnL⟩ hk162 hk174 h)
def n_valueOf_162 (x2 : Int32) (x3 : Int32) (S : gx_S) (t : Int32 × Int32) (k162 : Int32 × Int32 → Option (Int32 × gx_S)) : Option (Int32 × gx_S) := match t with
  | (x7, x8) => if (S 0 4) ≤ x8 then some (x7, S) else gx_loop (n_valueOf_174 k162 x2 x3 x8 S) 5000 (x7, 0)
set_option maxRecDepth 20000 in
set_option maxHeartbeats 1000000 in
theorem bn_valueOf_162 {Γ : gx_T} {ι : Nat → ClassId} {a : Nat → Nat} {out : Int32 × gx_S} (hx : gx_std vwCl (gty ι) (gx_cl Γ) (gx_ty Γ)) (C : gx_ok Γ cX8_valueOf RX8 gx_U 4) (F : gx_finI Γ ((Option.some Jvm.ClassFile.FieldType.int)) (wM a ι) out ∧ gx_nL Γ = 12) {k162 : Int32 × Int32 → Option (Int32 × gx_S)} {x2 : Int32} {x3 : Int32} {x7 : Int32} {x8 : Int32} {S : gx_S} (hk162 : ∀ (x77 : Int32) (x87 : Int32), k162 (x77, x87) = some out → gx_G Γ 0 0 162 [.ref (a 0), .null, .int x2, .int x3, .null, .null, .null, .int x77, .int x87, .null, .null, .null] [] (wM a ι S)) (h : n_valueOf_162 x2 x3 S (x7, x8) k162 = some out) : gx_G Γ 0 0 162 [.ref (a 0), .null, .int x2, .int x3, .null, .null, .null, .int x7, .int x8, .null, .null, .null] [] (wM a ι S) := by
  obtain ⟨F, hnL⟩ := F
  unfold n_valueOf_162 at h
  dsimp only at h
  refine gx_iload C dX8_valueOf_162 rfl ?_
  refine gx_aload_0 C dX8_valueOf_164 rfl ?_
  refine gs_getf (q := 0) C fl_X8_98 (cls_X8 hx) lt_M_Model (oc_M_Model a ι _) rfl dX8_valueOf_165 ?_
  refine gx_icmp_ge (tgt := 283) C dX8_valueOf_168 (by decide) (fun hc1 => ?_) (fun hc1 => ?_)
  · have h := gi_t hc1 h
    refine gx_iload C dX8_valueOf_283 rfl ?_
    exact gx_iret C F rfl dX8_valueOf_285 (Option.some.inj h)
  · have h := gi_f hc1 h
    refine gx_iconst0 C dX8_valueOf_171 ?_
    refine gx_istore C dX8_valueOf_172 (by rw [hnL]; decide) trivial ?_
    refine gx_weak (gx_le_k rfl (gx_le_n (gx_le_k rfl (gx_le_k rfl (gx_le_n (gx_le_n (gx_le_n (gx_le_k rfl (gx_le_k rfl (gx_le_k rfl (gx_le_n (gx_le_n gx_le_0)))))))))))) (gi_loop (P := fun t => gx_G Γ 0 0 174 [.ref (a 0), .null, .int x2, .int x3, .null, .null, .null, .int t.1, .int x8, .int t.2, .null, .null] [] (wM a ι S)) (fun kk t hk h => ?_) 5000 _ h)
    obtain ⟨x79, x99⟩ := t
    exact bn_valueOf_174 hx C ⟨F, hnL⟩ hk162 (k174 := kk) (fun x78 x98 h => hk (x78, x98) h) h
def n_valueOf (x1 : Int32) (x2 : Int32) (x3 : Int32) (S : gx_S) : Option (Int32 × gx_S) := gx_cs (n_laySold S) fun v3 S2 => gx_cp (n_soldBy x2 S2) fun v5 => gx_cp (n_soldBy x3 S2) fun v7 => if x1 = 115 then if v3 = 0 then some (0, S2) else gx_nz v3 (some (((100 : Int32) * (v5 + v7)) / v3, S2)) else if x1 = 114 then if v3 = 0 then some (0, S2) else gx_nz v3 (gx_nz v3 (some (((2 : Int32) * (((100 : Int32) * v5) / v3)) * (((100 : Int32) * v7) / v3), S2))) else if x1 = 111 then if (v5 + v7) ≤ 0 then n_valueOf_101 x2 x3 0 S2 else n_valueOf_101 x2 x3 1 S2 else gx_loop (n_valueOf_162 x2 x3 S2) 5000 (99, 0)
set_option maxRecDepth 20000 in
set_option maxHeartbeats 1000000 in
theorem cn_valueOf (l : Launch) (D : va_G) {cl : List vw_C} {tys : List (ClassId × FieldType)} {ι : Nat → ClassId} (hx : gx_std vwCl (gty ι) cl tys) (a : Nat → Nat) (x1 : Int32) (x2 : Int32) (x3 : Int32) (S : gx_S) {out : Int32 × gx_S} (h : n_valueOf x1 x2 x3 S = some out) : gx_mI l D cl tys yX8_valueOf (.code yX8_valueOf cX8_valueOf 12 ((Option.some Jvm.ClassFile.FieldType.int)) :: gx_U) (gx_rm 4) [.ref (a 0), .int x1, .int x2, .int x3] (wM a ι S) (wM a ι) out := by
  unfold n_valueOf at h
  refine gx_startI (V := [.ref (a 0), .int x1, .int x2, .int x3, .null, .null, .null, .null, .null, .null, .null, .null]) 8 (by decide +kernel) (Nat.le_of_ble_eq_true rfl) rfl (fun Γ hl hD hcl hty hnL C F => ?_)
  subst hl; subst hD; subst hcl; subst hty
  refine gx_aload_0 C dX8_valueOf_0 rfl ?_
  obtain ⟨v3, S2, e1, h⟩ := gi_cs h
  refine gc_IV C (cn_laySold (gx_l Γ) (gx_D Γ) hx a _ e1) (gx_cw C gx_uu lk_X8_128 (by decide) (by decide)) (cls_X8 hx).1 (gs_recv (q := 0) lt_M_Model (oc_M_Model a ι _)) rfl rfl (Nat.le_of_ble_eq_true rfl) ⟨Nat.zero_le _, Nat.zero_le _⟩ dX8_valueOf_1 ?_
  refine gx_istore C dX8_valueOf_4 (by rw [hnL]; decide) trivial ?_
  refine gx_aload_0 C dX8_valueOf_6 rfl ?_
  refine gx_iload_2 C dX8_valueOf_7 rfl ?_
  obtain ⟨v5, e4, h⟩ := gi_cp h
  refine gc_IV C (cn_soldBy (gx_l Γ) (gx_D Γ) hx a _ _ e4) (gx_cw C gx_uu lk_X8_251 (by decide) (by decide)) (cls_X8 hx).1 (gs_recv (q := 0) lt_M_Model (oc_M_Model a ι _)) rfl rfl (Nat.le_of_ble_eq_true rfl) ⟨Nat.zero_le _, Nat.zero_le _⟩ dX8_valueOf_8 ?_
  refine gx_istore C dX8_valueOf_11 (by rw [hnL]; decide) trivial ?_
  refine gx_aload_0 C dX8_valueOf_13 rfl ?_
  refine gx_iload_3 C dX8_valueOf_14 rfl ?_
  obtain ⟨v7, e6, h⟩ := gi_cp h
  refine gc_IV C (cn_soldBy (gx_l Γ) (gx_D Γ) hx a _ _ e6) (gx_cw C gx_uu lk_X8_251 (by decide) (by decide)) (cls_X8 hx).1 (gs_recv (q := 0) lt_M_Model (oc_M_Model a ι _)) rfl rfl (Nat.le_of_ble_eq_true rfl) ⟨Nat.zero_le _, Nat.zero_le _⟩ dX8_valueOf_15 ?_
  refine gx_istore C dX8_valueOf_18 (by rw [hnL]; decide) trivial ?_
  refine gx_iload_1 C dX8_valueOf_20 rfl ?_
  refine gx_bipush (v := 115) C dX8_valueOf_21 (by decide) ?_
  refine gx_icmp_ne (tgt := 47) C dX8_valueOf_23 (by decide) (fun hc16 => ?_) (fun hc16 => ?_)
  · have h := gi_f hc16 h
    refine gx_iload_1 C dX8_valueOf_47 rfl ?_
    refine gx_bipush (v := 114) C dX8_valueOf_48 (by decide) ?_
    refine gx_icmp_ne (tgt := 82) C dX8_valueOf_50 (by decide) (fun hc13 => ?_) (fun hc13 => ?_)
    · have h := gi_f hc13 h
      refine gx_iload_1 C dX8_valueOf_82 rfl ?_
      refine gx_bipush (v := 111) C dX8_valueOf_83 (by decide) ?_
      refine gx_icmp_ne (tgt := 155) C dX8_valueOf_85 (by decide) (fun hc9 => ?_) (fun hc9 => ?_)
      · have h := gi_f hc9 h
        refine gx_bipush (v := 99) C dX8_valueOf_155 (by decide) ?_
        refine gx_istore C dX8_valueOf_157 (by rw [hnL]; decide) trivial ?_
        refine gx_Veq (V' := [.ref (a 0), .int x1, .int x2, .int x3, .int v3, .int v5, .int v7, .int 99, .null, .null, .null, .null]) rfl ?_
        refine gx_iconst0 C dX8_valueOf_159 ?_
        refine gx_istore C dX8_valueOf_160 (by rw [hnL]; decide) trivial ?_
        refine gx_weak (gx_le_k rfl (gx_le_n (gx_le_k rfl (gx_le_k rfl (gx_le_n (gx_le_n (gx_le_n (gx_le_k rfl (gx_le_k rfl (gx_le_n (gx_le_n (gx_le_n gx_le_0)))))))))))) (gi_loop (P := fun t => gx_G Γ 0 0 162 [.ref (a 0), .null, .int x2, .int x3, .null, .null, .null, .int t.1, .int t.2, .null, .null, .null] [] (wM a ι S2)) (fun kk t hk h => ?_) 5000 _ h)
        obtain ⟨x79, x89⟩ := t
        exact bn_valueOf_162 hx C ⟨F, hnL⟩ (k162 := kk) (fun x78 x88 h => hk (x78, x88) h) h
      · have h := gi_t hc9 h
        refine gx_iload C dX8_valueOf_88 rfl ?_
        refine gx_iload C dX8_valueOf_90 rfl ?_
        refine gx_iadd C dX8_valueOf_92 ?_
        refine gx_if_le (tgt := 100) C dX8_valueOf_93 (by decide) (fun hc8 => ?_) (fun hc8 => ?_)
        · have h := gi_t hc8 h
          refine gx_iconst0 C dX8_valueOf_100 ?_
          exact gx_weak (gx_le_k rfl (gx_le_n (gx_le_k rfl (gx_le_k rfl (gx_le_n (gx_le_n (gx_le_n (gx_le_n (gx_le_n (gx_le_n (gx_le_n (gx_le_n gx_le_0)))))))))))) (bn_valueOf_101 hx C ⟨F, hnL⟩ h)
        · have h := gi_f hc8 h
          refine gx_iconst1 C dX8_valueOf_96 ?_
          refine gx_goto (tgt := 101) C dX8_valueOf_97 (by decide) ?_
          exact gx_weak (gx_le_k rfl (gx_le_n (gx_le_k rfl (gx_le_k rfl (gx_le_n (gx_le_n (gx_le_n (gx_le_n (gx_le_n (gx_le_n (gx_le_n (gx_le_n gx_le_0)))))))))))) (bn_valueOf_101 hx C ⟨F, hnL⟩ h)
    · have h := gi_t hc13 h
      refine gx_iload C dX8_valueOf_53 rfl ?_
      refine gx_if_ne (tgt := 62) C dX8_valueOf_55 (by decide) (fun hc12 => ?_) (fun hc12 => ?_)
      · have h := gi_f hc12 h
        refine gx_iconst2 C dX8_valueOf_62 ?_
        refine gx_bipush (v := 100) C dX8_valueOf_63 (by decide) ?_
        refine gx_iload C dX8_valueOf_65 rfl ?_
        refine gx_imul C dX8_valueOf_67 ?_
        refine gx_iload C dX8_valueOf_68 rfl ?_
        obtain ⟨hz10, h⟩ := gi_nz h
        refine gx_idiv C dX8_valueOf_70 hz10 ?_
        refine gx_imul C dX8_valueOf_71 ?_
        refine gx_bipush (v := 100) C dX8_valueOf_72 (by decide) ?_
        refine gx_iload C dX8_valueOf_74 rfl ?_
        refine gx_imul C dX8_valueOf_76 ?_
        refine gx_iload C dX8_valueOf_77 rfl ?_
        obtain ⟨hz11, h⟩ := gi_nz h
        refine gx_idiv C dX8_valueOf_79 hz11 ?_
        refine gx_imul C dX8_valueOf_80 ?_
        exact gx_iret C F rfl dX8_valueOf_81 (Option.some.inj h)
      · have h := gi_t hc12 h
        refine gx_iconst0 C dX8_valueOf_58 ?_
        refine gx_goto (tgt := 81) C dX8_valueOf_59 (by decide) ?_
        exact gx_iret C F rfl dX8_valueOf_81 (Option.some.inj h)
  · have h := gi_t hc16 h
    refine gx_iload C dX8_valueOf_26 rfl ?_
    refine gx_if_ne (tgt := 35) C dX8_valueOf_28 (by decide) (fun hc15 => ?_) (fun hc15 => ?_)
    · have h := gi_f hc15 h
      refine gx_bipush (v := 100) C dX8_valueOf_35 (by decide) ?_
      refine gx_iload C dX8_valueOf_37 rfl ?_
      refine gx_iload C dX8_valueOf_39 rfl ?_
      refine gx_iadd C dX8_valueOf_41 ?_
      refine gx_imul C dX8_valueOf_42 ?_
      refine gx_iload C dX8_valueOf_43 rfl ?_
      obtain ⟨hz14, h⟩ := gi_nz h
      refine gx_idiv C dX8_valueOf_45 hz14 ?_
      exact gx_iret C F rfl dX8_valueOf_46 (Option.some.inj h)
    · have h := gi_t hc15 h
      refine gx_iconst0 C dX8_valueOf_31 ?_
      refine gx_goto (tgt := 46) C dX8_valueOf_32 (by decide) ?_
      exact gx_iret C F rfl dX8_valueOf_46 (Option.some.inj h)
def n_openGroup (S : gx_S) : Option (gx_S) := gx_let (gx_st S 0 40 ((S 0 40) + (1 : Int32))) fun S1 => gx_ck 51 (S1 0 40) (gx_let (gx_st S1 23 (S1 0 40).toNatClampNeg (vp_nar .boolean 0)) fun S4 => gx_ck 51 (S4 0 40) (gx_let (gx_st S4 24 (S4 0 40).toNatClampNeg (vp_nar .boolean 1)) fun S7 => gx_ck 51 (S7 0 40) (gx_let (gx_st S7 25 (S7 0 40).toNatClampNeg (vp_nar .boolean 0)) fun S10 => some S10)))
set_option maxRecDepth 20000 in
set_option maxHeartbeats 1000000 in
theorem cn_openGroup (l : Launch) (D : va_G) {cl : List vw_C} {tys : List (ClassId × FieldType)} {ι : Nat → ClassId} (hx : gx_std vwCl (gty ι) cl tys) (a : Nat → Nat) (S : gx_S) {out : gx_S} (h : n_openGroup  S = some out) : gx_mV l D cl tys yX8_openGroup (.code yX8_openGroup cX8_openGroup 1 ((Option.none : Option Jvm.ClassFile.FieldType)) :: gx_U) (gx_rm 0) [.ref (a 0)] (wM a ι S) (wM a ι) out := by
  unfold n_openGroup at h
  refine gx_startV (V := [.ref (a 0)]) 0 (by decide +kernel) (Nat.le_of_ble_eq_true rfl) rfl (fun Γ hl hD hcl hty hnL C F => ?_)
  subst hl; subst hD; subst hcl; subst hty
  refine gx_aload_0 C dX8_openGroup_0 rfl ?_
  refine gx_dup C dX8_openGroup_1 rfl ?_
  refine gs_getf (q := 0) C fl_X8_254 (cls_X8 hx) lt_M_Model (oc_M_Model a ι _) rfl dX8_openGroup_2 ?_
  refine gx_iconst1 C dX8_openGroup_5 ?_
  refine gx_iadd C dX8_openGroup_6 ?_
  obtain ⟨S1, e2, h⟩ := gi_let h
  refine gs_puti (q := 0) C fl_X8_254 (cls_X8 hx) lt_M_Model (oc_M_Model a ι _) (oc_M_Model a ι _) rfl rfl rfl (Nat.le_of_ble_eq_true rfl) e2 dX8_openGroup_7 ?_
  refine gx_aload_0 C dX8_openGroup_10 rfl ?_
  refine gs_getf (q := 0) C fl_X8_82 (cls_X8 hx) lt_M_Model (oc_M_Model a ι _) rfl dX8_openGroup_11 ?_
  refine gx_aload_0 C dX8_openGroup_14 rfl ?_
  refine gs_getf (q := 0) C fl_X8_254 (cls_X8 hx) lt_M_Model (oc_M_Model a ι _) rfl dX8_openGroup_15 ?_
  refine gx_iconst0 C dX8_openGroup_18 ?_
  obtain ⟨hi3, h⟩ := gi_ck h
  obtain ⟨S4, e5, h⟩ := gi_let h
  refine gs_zast (q := 23) C (ac_M_M_anyTerm hx a) lt_M_M_anyTerm hi3 e5 dX8_openGroup_19 ?_
  refine gx_aload_0 C dX8_openGroup_20 rfl ?_
  refine gs_getf (q := 0) C fl_X8_85 (cls_X8 hx) lt_M_Model (oc_M_Model a ι _) rfl dX8_openGroup_21 ?_
  refine gx_aload_0 C dX8_openGroup_24 rfl ?_
  refine gs_getf (q := 0) C fl_X8_254 (cls_X8 hx) lt_M_Model (oc_M_Model a ι _) rfl dX8_openGroup_25 ?_
  refine gx_iconst1 C dX8_openGroup_28 ?_
  obtain ⟨hi6, h⟩ := gi_ck h
  obtain ⟨S7, e8, h⟩ := gi_let h
  refine gs_zast (q := 24) C (ac_M_M_allFactors hx a) lt_M_M_allFactors hi6 e8 dX8_openGroup_29 ?_
  refine gx_aload_0 C dX8_openGroup_30 rfl ?_
  refine gs_getf (q := 0) C fl_X8_88 (cls_X8 hx) lt_M_Model (oc_M_Model a ι _) rfl dX8_openGroup_31 ?_
  refine gx_aload_0 C dX8_openGroup_34 rfl ?_
  refine gs_getf (q := 0) C fl_X8_254 (cls_X8 hx) lt_M_Model (oc_M_Model a ι _) rfl dX8_openGroup_35 ?_
  refine gx_iconst0 C dX8_openGroup_38 ?_
  obtain ⟨hi9, h⟩ := gi_ck h
  obtain ⟨S10, e11, h⟩ := gi_let h
  refine gs_zast (q := 25) C (ac_M_M_isDenied hx a) lt_M_M_isDenied hi9 e11 dX8_openGroup_39 ?_
  exact gx_vret C F dX8_openGroup_40 (Option.some.inj h)
def n_factor_38 (s1 : Int32) (s2 : Int32) (S : gx_S) : Option (gx_S) := gx_ck 51 s1 (gx_let (gx_st S 24 s1.toNatClampNeg (vp_nar .boolean s2)) fun S2 => gx_ck 51 (S2 0 40) (gx_let (gx_st S2 25 (S2 0 40).toNatClampNeg (vp_nar .boolean 0)) fun S5 => some S5))
set_option maxRecDepth 20000 in
set_option maxHeartbeats 1000000 in
theorem bn_factor_38 {Γ : gx_T} {ι : Nat → ClassId} {a : Nat → Nat} {out : gx_S} (hx : gx_std vwCl (gty ι) (gx_cl Γ) (gx_ty Γ)) (C : gx_ok Γ cX8_factor RX8 gx_U 0) (F : gx_finV Γ ((Option.none : Option Jvm.ClassFile.FieldType)) (wM a ι) out ∧ gx_nL Γ = 2) {s1 : Int32} {s2 : Int32} {S : gx_S} (h : n_factor_38 s1 s2 S = some out) : gx_G Γ 0 0 38 [.ref (a 0), .null] [.int s2, .int s1, .ref (a 24)] (wM a ι S) := by
  obtain ⟨F, hnL⟩ := F
  unfold n_factor_38 at h
  obtain ⟨hi1, h⟩ := gi_ck h
  obtain ⟨S2, e3, h⟩ := gi_let h
  refine gs_zast (q := 24) C (ac_M_M_allFactors hx a) lt_M_M_allFactors hi1 e3 dX8_factor_38 ?_
  refine gx_aload_0 C dX8_factor_39 rfl ?_
  refine gs_getf (q := 0) C fl_X8_88 (cls_X8 hx) lt_M_Model (oc_M_Model a ι _) rfl dX8_factor_40 ?_
  refine gx_aload_0 C dX8_factor_43 rfl ?_
  refine gs_getf (q := 0) C fl_X8_254 (cls_X8 hx) lt_M_Model (oc_M_Model a ι _) rfl dX8_factor_44 ?_
  refine gx_iconst0 C dX8_factor_47 ?_
  obtain ⟨hi4, h⟩ := gi_ck h
  obtain ⟨S5, e6, h⟩ := gi_let h
  refine gs_zast (q := 25) C (ac_M_M_isDenied hx a) lt_M_M_isDenied hi4 e6 dX8_factor_48 ?_
  exact gx_vret C F dX8_factor_49 (Option.some.inj h)
def n_factor_37 (s1 : Int32) (S : gx_S) : Option (gx_S) := n_factor_38 s1 0 S
set_option maxRecDepth 20000 in
set_option maxHeartbeats 1000000 in
theorem bn_factor_37 {Γ : gx_T} {ι : Nat → ClassId} {a : Nat → Nat} {out : gx_S} (hx : gx_std vwCl (gty ι) (gx_cl Γ) (gx_ty Γ)) (C : gx_ok Γ cX8_factor RX8 gx_U 0) (F : gx_finV Γ ((Option.none : Option Jvm.ClassFile.FieldType)) (wM a ι) out ∧ gx_nL Γ = 2) {s1 : Int32} {S : gx_S} (h : n_factor_37 s1 S = some out) : gx_G Γ 0 0 37 [.ref (a 0), .null] [.int s1, .ref (a 24)] (wM a ι S) := by
  obtain ⟨F, hnL⟩ := F
  unfold n_factor_37 at h
  refine gx_iconst0 C dX8_factor_37 ?_
  exact gx_weak (gx_le_k rfl (gx_le_n gx_le_0)) (bn_factor_38 hx C ⟨F, hnL⟩ h)
def n_factor (x1 : Int32) (S : gx_S) : Option (gx_S) := gx_ck 51 (S 0 40) (if (S 24 (S 0 40).toNatClampNeg) = 0 then n_factor_37 (S 0 40) S else if x1 = (S 25 (S 0 40).toNatClampNeg) then n_factor_37 (S 0 40) S else n_factor_38 (S 0 40) 1 S)
set_option maxRecDepth 20000 in
set_option maxHeartbeats 1000000 in
theorem cn_factor (l : Launch) (D : va_G) {cl : List vw_C} {tys : List (ClassId × FieldType)} {ι : Nat → ClassId} (hx : gx_std vwCl (gty ι) cl tys) (a : Nat → Nat) (x1 : Int32) (S : gx_S) {out : gx_S} (h : n_factor x1 S = some out) : gx_mV l D cl tys yX8_factor (.code yX8_factor cX8_factor 2 ((Option.none : Option Jvm.ClassFile.FieldType)) :: gx_U) (gx_rm 0) [.ref (a 0), .int x1] (wM a ι S) (wM a ι) out := by
  unfold n_factor at h
  refine gx_startV (V := [.ref (a 0), .int x1]) 0 (by decide +kernel) (Nat.le_of_ble_eq_true rfl) rfl (fun Γ hl hD hcl hty hnL C F => ?_)
  subst hl; subst hD; subst hcl; subst hty
  refine gx_aload_0 C dX8_factor_0 rfl ?_
  refine gs_getf (q := 0) C fl_X8_85 (cls_X8 hx) lt_M_Model (oc_M_Model a ι _) rfl dX8_factor_1 ?_
  refine gx_aload_0 C dX8_factor_4 rfl ?_
  refine gs_getf (q := 0) C fl_X8_254 (cls_X8 hx) lt_M_Model (oc_M_Model a ι _) rfl dX8_factor_5 ?_
  refine gx_aload_0 C dX8_factor_8 rfl ?_
  refine gs_getf (q := 0) C fl_X8_85 (cls_X8 hx) lt_M_Model (oc_M_Model a ι _) rfl dX8_factor_9 ?_
  refine gx_aload_0 C dX8_factor_12 rfl ?_
  refine gs_getf (q := 0) C fl_X8_254 (cls_X8 hx) lt_M_Model (oc_M_Model a ι _) rfl dX8_factor_13 ?_
  obtain ⟨hi1, h⟩ := gi_ck h
  refine gs_zald (q := 24) C (ac_M_M_allFactors hx a) lt_M_M_allFactors hi1 dX8_factor_16 ?_
  refine gx_if_eq (tgt := 37) C dX8_factor_17 (by decide) (fun hc3 => ?_) (fun hc3 => ?_)
  · have h := gi_t hc3 h
    exact gx_weak (gx_le_k rfl (gx_le_n gx_le_0)) (bn_factor_37 hx C ⟨F, hnL⟩ h)
  · have h := gi_f hc3 h
    refine gx_iload_1 C dX8_factor_20 rfl ?_
    refine gx_aload_0 C dX8_factor_21 rfl ?_
    refine gs_getf (q := 0) C fl_X8_88 (cls_X8 hx) lt_M_Model (oc_M_Model a ι _) rfl dX8_factor_22 ?_
    refine gx_aload_0 C dX8_factor_25 rfl ?_
    refine gs_getf (q := 0) C fl_X8_254 (cls_X8 hx) lt_M_Model (oc_M_Model a ι _) rfl dX8_factor_26 ?_
    refine gs_zald (q := 25) C (ac_M_M_isDenied hx a) lt_M_M_isDenied hi1 dX8_factor_29 ?_
    refine gx_icmp_eq (tgt := 37) C dX8_factor_30 (by decide) (fun hc2 => ?_) (fun hc2 => ?_)
    · have h := gi_t hc2 h
      exact gx_weak (gx_le_k rfl (gx_le_n gx_le_0)) (bn_factor_37 hx C ⟨F, hnL⟩ h)
    · have h := gi_f hc2 h
      refine gx_iconst1 C dX8_factor_33 ?_
      refine gx_goto (tgt := 38) C dX8_factor_34 (by decide) ?_
      exact gx_weak (gx_le_k rfl (gx_le_n gx_le_0)) (bn_factor_38 hx C ⟨F, hnL⟩ h)
def n_barsNow_360 (k12 : Int32 × gx_S → Option (Int32 × gx_S)) (x1 : Int32) (x2 : Int32) (x3 : Int32) (x4 : Int32) (S : gx_S) : Option (Int32 × gx_S) := k12 (x4, S)
set_option maxRecDepth 20000 in
set_option maxHeartbeats 1000000 in
theorem bn_barsNow_360 {Γ : gx_T} {ι : Nat → ClassId} {a : Nat → Nat} {out : Int32 × gx_S} (hx : gx_std vwCl (gty ι) (gx_cl Γ) (gx_ty Γ)) (C : gx_ok Γ cX8_barsNow RX8 gx_U 5) (F : gx_finI Γ ((Option.some Jvm.ClassFile.FieldType.boolean)) (wM a ι) out ∧ gx_nL Γ = 9) {k12 : Int32 × gx_S → Option (Int32 × gx_S)} {x1 : Int32} {x2 : Int32} {x3 : Int32} {x4 : Int32} {S : gx_S} (hk12 : ∀ (x47 : Int32) (S7 : gx_S), k12 (x47, S7) = some out → gx_G Γ 0 0 12 [.ref (a 0), .int x1, .int x2, .int x3, .int x47, .null, .null, .null, .null] [] (wM a ι S7)) (h : n_barsNow_360 k12 x1 x2 x3 x4 S = some out) : gx_G Γ 0 0 360 [.ref (a 0), .int x1, .int x2, .int x3, .int x4, .null, .null, .null, .null] [] (wM a ι S) := by
  obtain ⟨F, hnL⟩ := F
  unfold n_barsNow_360 at h
  refine gx_goto (tgt := 12) C dX8_barsNow_360 (by decide) ?_
  exact gx_weak (gx_le_k rfl (gx_le_k rfl (gx_le_k rfl (gx_le_k rfl (gx_le_k rfl (gx_le_n (gx_le_n (gx_le_n (gx_le_n gx_le_0))))))))) (hk12 _ _ h)
def n_barsNow_72 (k12 : Int32 × gx_S → Option (Int32 × gx_S)) (x1 : Int32) (x2 : Int32) (x3 : Int32) (x4 : Int32) (s1 : Int32) (s2 : Int32) (S : gx_S) : Option (Int32 × gx_S) := gx_ck 51 s1 (gx_let (gx_st S 25 s1.toNatClampNeg (vp_nar .boolean s2)) fun S2 => n_barsNow_360 k12 x1 x2 x3 x4 S2)
set_option maxRecDepth 20000 in
set_option maxHeartbeats 1000000 in
theorem bn_barsNow_72 {Γ : gx_T} {ι : Nat → ClassId} {a : Nat → Nat} {out : Int32 × gx_S} (hx : gx_std vwCl (gty ι) (gx_cl Γ) (gx_ty Γ)) (C : gx_ok Γ cX8_barsNow RX8 gx_U 5) (F : gx_finI Γ ((Option.some Jvm.ClassFile.FieldType.boolean)) (wM a ι) out ∧ gx_nL Γ = 9) {k12 : Int32 × gx_S → Option (Int32 × gx_S)} {x1 : Int32} {x2 : Int32} {x3 : Int32} {x4 : Int32} {s1 : Int32} {s2 : Int32} {S : gx_S} (hk12 : ∀ (x47 : Int32) (S7 : gx_S), k12 (x47, S7) = some out → gx_G Γ 0 0 12 [.ref (a 0), .int x1, .int x2, .int x3, .int x47, .null, .null, .null, .null] [] (wM a ι S7)) (h : n_barsNow_72 k12 x1 x2 x3 x4 s1 s2 S = some out) : gx_G Γ 0 0 72 [.ref (a 0), .int x1, .int x2, .int x3, .int x4, .null, .null, .null, .null] [.int s2, .int s1, .ref (a 25)] (wM a ι S) := by
  obtain ⟨F, hnL⟩ := F
  unfold n_barsNow_72 at h
  obtain ⟨hi1, h⟩ := gi_ck h
  obtain ⟨S2, e3, h⟩ := gi_let h
  refine gs_zast (q := 25) C (ac_M_M_isDenied hx a) lt_M_M_isDenied hi1 e3 dX8_barsNow_72 ?_
  refine gx_goto (tgt := 360) C dX8_barsNow_73 (by decide) ?_
  exact gx_weak (gx_le_k rfl (gx_le_k rfl (gx_le_k rfl (gx_le_k rfl (gx_le_k rfl (gx_le_n (gx_le_n (gx_le_n (gx_le_n gx_le_0))))))))) (bn_barsNow_360 hx C ⟨F, hnL⟩ hk12 h)
def n_barsNow_126 (k12 : Int32 × gx_S → Option (Int32 × gx_S)) (x1 : Int32) (x2 : Int32) (x3 : Int32) (x4 : Int32) (s0 : Int32) (S : gx_S) : Option (Int32 × gx_S) := gx_let (gx_st S 0 40 ((S 0 40) - (1 : Int32))) fun S1 => gx_cp (n_factor s0 S1) fun S4 => n_barsNow_360 k12 x1 x2 x3 x4 S4
set_option maxRecDepth 20000 in
set_option maxHeartbeats 1000000 in
theorem bn_barsNow_126 {Γ : gx_T} {ι : Nat → ClassId} {a : Nat → Nat} {out : Int32 × gx_S} (hx : gx_std vwCl (gty ι) (gx_cl Γ) (gx_ty Γ)) (C : gx_ok Γ cX8_barsNow RX8 gx_U 5) (F : gx_finI Γ ((Option.some Jvm.ClassFile.FieldType.boolean)) (wM a ι) out ∧ gx_nL Γ = 9) {k12 : Int32 × gx_S → Option (Int32 × gx_S)} {x1 : Int32} {x2 : Int32} {x3 : Int32} {x4 : Int32} {s0 : Int32} {S : gx_S} (hk12 : ∀ (x47 : Int32) (S7 : gx_S), k12 (x47, S7) = some out → gx_G Γ 0 0 12 [.ref (a 0), .int x1, .int x2, .int x3, .int x47, .null, .null, .null, .null] [] (wM a ι S7)) (h : n_barsNow_126 k12 x1 x2 x3 x4 s0 S = some out) : gx_G Γ 0 0 126 [.ref (a 0), .int x1, .int x2, .int x3, .int x4, .null, .null, .null, .null] [.int s0] (wM a ι S) := by
  obtain ⟨F, hnL⟩ := F
  unfold n_barsNow_126 at h
  refine gx_istore C dX8_barsNow_126 (by rw [hnL]; decide) trivial ?_
  refine gx_aload_0 C dX8_barsNow_128 rfl ?_
  refine gx_dup C dX8_barsNow_129 rfl ?_
  refine gs_getf (q := 0) C fl_X8_254 (cls_X8 hx) lt_M_Model (oc_M_Model a ι _) rfl dX8_barsNow_130 ?_
  refine gx_iconst1 C dX8_barsNow_133 ?_
  refine gx_isub C dX8_barsNow_134 ?_
  obtain ⟨S1, e2, h⟩ := gi_let h
  refine gs_puti (q := 0) C fl_X8_254 (cls_X8 hx) lt_M_Model (oc_M_Model a ι _) (oc_M_Model a ι _) rfl rfl rfl (Nat.le_of_ble_eq_true rfl) e2 dX8_barsNow_135 ?_
  refine gx_aload_0 C dX8_barsNow_138 rfl ?_
  refine gx_iload C dX8_barsNow_139 rfl ?_
  obtain ⟨S4, e3, h⟩ := gi_cp h
  refine gc_VV C (cn_factor (gx_l Γ) (gx_D Γ) hx a _ _ e3) (gx_cw C gx_uu lk_X8_260 (by decide) (by decide)) (cls_X8 hx).1 (gs_recv (q := 0) lt_M_Model (oc_M_Model a ι _)) rfl rfl (Nat.le_of_ble_eq_true rfl) ⟨Nat.zero_le _, Nat.zero_le _⟩ dX8_barsNow_141 ?_
  refine gx_goto (tgt := 360) C dX8_barsNow_144 (by decide) ?_
  exact gx_weak (gx_le_k rfl (gx_le_k rfl (gx_le_k rfl (gx_le_k rfl (gx_le_k rfl (gx_le_n (gx_le_n (gx_le_n (gx_le_n gx_le_0))))))))) (bn_barsNow_360 hx C ⟨F, hnL⟩ hk12 h)
def n_barsNow_121 (k12 : Int32 × gx_S → Option (Int32 × gx_S)) (x1 : Int32) (x2 : Int32) (x3 : Int32) (x4 : Int32) (S : gx_S) : Option (Int32 × gx_S) := n_barsNow_126 k12 x1 x2 x3 x4 1 S
set_option maxRecDepth 20000 in
set_option maxHeartbeats 1000000 in
theorem bn_barsNow_121 {Γ : gx_T} {ι : Nat → ClassId} {a : Nat → Nat} {out : Int32 × gx_S} (hx : gx_std vwCl (gty ι) (gx_cl Γ) (gx_ty Γ)) (C : gx_ok Γ cX8_barsNow RX8 gx_U 5) (F : gx_finI Γ ((Option.some Jvm.ClassFile.FieldType.boolean)) (wM a ι) out ∧ gx_nL Γ = 9) {k12 : Int32 × gx_S → Option (Int32 × gx_S)} {x1 : Int32} {x2 : Int32} {x3 : Int32} {x4 : Int32} {S : gx_S} (hk12 : ∀ (x47 : Int32) (S7 : gx_S), k12 (x47, S7) = some out → gx_G Γ 0 0 12 [.ref (a 0), .int x1, .int x2, .int x3, .int x47, .null, .null, .null, .null] [] (wM a ι S7)) (h : n_barsNow_121 k12 x1 x2 x3 x4 S = some out) : gx_G Γ 0 0 121 [.ref (a 0), .int x1, .int x2, .int x3, .int x4, .null, .null, .null, .null] [] (wM a ι S) := by
  obtain ⟨F, hnL⟩ := F
  unfold n_barsNow_121 at h
  refine gx_iconst1 C dX8_barsNow_121 ?_
  refine gx_goto (tgt := 126) C dX8_barsNow_122 (by decide) ?_
  exact gx_weak (gx_le_k rfl (gx_le_k rfl (gx_le_k rfl (gx_le_k rfl (gx_le_k rfl (gx_le_n (gx_le_n (gx_le_n (gx_le_n gx_le_0))))))))) (bn_barsNow_126 hx C ⟨F, hnL⟩ hk12 h)
def n_barsNow_191 (k12 : Int32 × gx_S → Option (Int32 × gx_S)) (x1 : Int32) (x2 : Int32) (x3 : Int32) (x4 : Int32) (s1 : Int32) (s2 : Int32) (S : gx_S) : Option (Int32 × gx_S) := gx_ck 51 s1 (gx_let (gx_st S 23 s1.toNatClampNeg (vp_nar .boolean s2)) fun S2 => gx_ck 51 (S2 0 40) (gx_let (gx_st S2 24 (S2 0 40).toNatClampNeg (vp_nar .boolean 1)) fun S5 => n_barsNow_360 k12 x1 x2 x3 x4 S5))
set_option maxRecDepth 20000 in
set_option maxHeartbeats 1000000 in
theorem bn_barsNow_191 {Γ : gx_T} {ι : Nat → ClassId} {a : Nat → Nat} {out : Int32 × gx_S} (hx : gx_std vwCl (gty ι) (gx_cl Γ) (gx_ty Γ)) (C : gx_ok Γ cX8_barsNow RX8 gx_U 5) (F : gx_finI Γ ((Option.some Jvm.ClassFile.FieldType.boolean)) (wM a ι) out ∧ gx_nL Γ = 9) {k12 : Int32 × gx_S → Option (Int32 × gx_S)} {x1 : Int32} {x2 : Int32} {x3 : Int32} {x4 : Int32} {s1 : Int32} {s2 : Int32} {S : gx_S} (hk12 : ∀ (x47 : Int32) (S7 : gx_S), k12 (x47, S7) = some out → gx_G Γ 0 0 12 [.ref (a 0), .int x1, .int x2, .int x3, .int x47, .null, .null, .null, .null] [] (wM a ι S7)) (h : n_barsNow_191 k12 x1 x2 x3 x4 s1 s2 S = some out) : gx_G Γ 0 0 191 [.ref (a 0), .int x1, .int x2, .int x3, .int x4, .null, .null, .null, .null] [.int s2, .int s1, .ref (a 23)] (wM a ι S) := by
  obtain ⟨F, hnL⟩ := F
  unfold n_barsNow_191 at h
  obtain ⟨hi1, h⟩ := gi_ck h
  obtain ⟨S2, e3, h⟩ := gi_let h
  refine gs_zast (q := 23) C (ac_M_M_anyTerm hx a) lt_M_M_anyTerm hi1 e3 dX8_barsNow_191 ?_
  refine gx_aload_0 C dX8_barsNow_192 rfl ?_
  refine gs_getf (q := 0) C fl_X8_85 (cls_X8 hx) lt_M_Model (oc_M_Model a ι _) rfl dX8_barsNow_193 ?_
  refine gx_aload_0 C dX8_barsNow_196 rfl ?_
  refine gs_getf (q := 0) C fl_X8_254 (cls_X8 hx) lt_M_Model (oc_M_Model a ι _) rfl dX8_barsNow_197 ?_
  refine gx_iconst1 C dX8_barsNow_200 ?_
  obtain ⟨hi4, h⟩ := gi_ck h
  obtain ⟨S5, e6, h⟩ := gi_let h
  refine gs_zast (q := 24) C (ac_M_M_allFactors hx a) lt_M_M_allFactors hi4 e6 dX8_barsNow_201 ?_
  refine gx_goto (tgt := 360) C dX8_barsNow_202 (by decide) ?_
  exact gx_weak (gx_le_k rfl (gx_le_k rfl (gx_le_k rfl (gx_le_k rfl (gx_le_k rfl (gx_le_n (gx_le_n (gx_le_n (gx_le_n gx_le_0))))))))) (bn_barsNow_360 hx C ⟨F, hnL⟩ hk12 h)
def n_barsNow_186 (k12 : Int32 × gx_S → Option (Int32 × gx_S)) (x1 : Int32) (x2 : Int32) (x3 : Int32) (x4 : Int32) (s1 : Int32) (S : gx_S) : Option (Int32 × gx_S) := n_barsNow_191 k12 x1 x2 x3 x4 s1 1 S
set_option maxRecDepth 20000 in
set_option maxHeartbeats 1000000 in
theorem bn_barsNow_186 {Γ : gx_T} {ι : Nat → ClassId} {a : Nat → Nat} {out : Int32 × gx_S} (hx : gx_std vwCl (gty ι) (gx_cl Γ) (gx_ty Γ)) (C : gx_ok Γ cX8_barsNow RX8 gx_U 5) (F : gx_finI Γ ((Option.some Jvm.ClassFile.FieldType.boolean)) (wM a ι) out ∧ gx_nL Γ = 9) {k12 : Int32 × gx_S → Option (Int32 × gx_S)} {x1 : Int32} {x2 : Int32} {x3 : Int32} {x4 : Int32} {s1 : Int32} {S : gx_S} (hk12 : ∀ (x47 : Int32) (S7 : gx_S), k12 (x47, S7) = some out → gx_G Γ 0 0 12 [.ref (a 0), .int x1, .int x2, .int x3, .int x47, .null, .null, .null, .null] [] (wM a ι S7)) (h : n_barsNow_186 k12 x1 x2 x3 x4 s1 S = some out) : gx_G Γ 0 0 186 [.ref (a 0), .int x1, .int x2, .int x3, .int x4, .null, .null, .null, .null] [.int s1, .ref (a 23)] (wM a ι S) := by
  obtain ⟨F, hnL⟩ := F
  unfold n_barsNow_186 at h
  refine gx_iconst1 C dX8_barsNow_186 ?_
  refine gx_goto (tgt := 191) C dX8_barsNow_187 (by decide) ?_
  exact gx_weak (gx_le_k rfl (gx_le_k rfl (gx_le_k rfl (gx_le_k rfl (gx_le_k rfl (gx_le_n (gx_le_n (gx_le_n (gx_le_n gx_le_0))))))))) (bn_barsNow_191 hx C ⟨F, hnL⟩ hk12 h)
def n_barsNow_357 (k12 : Int32 × gx_S → Option (Int32 × gx_S)) (x1 : Int32) (x2 : Int32) (x3 : Int32) (x4 : Int32) (s1 : Int32) (S : gx_S) : Option (Int32 × gx_S) := gx_cp (n_factor s1 S) fun S2 => n_barsNow_360 k12 x1 x2 x3 x4 S2
set_option maxRecDepth 20000 in
set_option maxHeartbeats 1000000 in
theorem bn_barsNow_357 {Γ : gx_T} {ι : Nat → ClassId} {a : Nat → Nat} {out : Int32 × gx_S} (hx : gx_std vwCl (gty ι) (gx_cl Γ) (gx_ty Γ)) (C : gx_ok Γ cX8_barsNow RX8 gx_U 5) (F : gx_finI Γ ((Option.some Jvm.ClassFile.FieldType.boolean)) (wM a ι) out ∧ gx_nL Γ = 9) {k12 : Int32 × gx_S → Option (Int32 × gx_S)} {x1 : Int32} {x2 : Int32} {x3 : Int32} {x4 : Int32} {s1 : Int32} {S : gx_S} (hk12 : ∀ (x47 : Int32) (S7 : gx_S), k12 (x47, S7) = some out → gx_G Γ 0 0 12 [.ref (a 0), .int x1, .int x2, .int x3, .int x47, .null, .null, .null, .null] [] (wM a ι S7)) (h : n_barsNow_357 k12 x1 x2 x3 x4 s1 S = some out) : gx_G Γ 0 0 357 [.ref (a 0), .int x1, .int x2, .int x3, .int x4, .null, .null, .null, .null] [.int s1, .ref (a 0)] (wM a ι S) := by
  obtain ⟨F, hnL⟩ := F
  unfold n_barsNow_357 at h
  obtain ⟨S2, e1, h⟩ := gi_cp h
  refine gc_VV C (cn_factor (gx_l Γ) (gx_D Γ) hx a _ _ e1) (gx_cw C gx_uu lk_X8_260 (by decide) (by decide)) (cls_X8 hx).1 (gs_recv (q := 0) lt_M_Model (oc_M_Model a ι _)) rfl rfl (Nat.le_of_ble_eq_true rfl) ⟨Nat.zero_le _, Nat.zero_le _⟩ dX8_barsNow_357 ?_
  exact gx_weak (gx_le_k rfl (gx_le_k rfl (gx_le_k rfl (gx_le_k rfl (gx_le_k rfl (gx_le_n (gx_le_n (gx_le_n (gx_le_n gx_le_0))))))))) (bn_barsNow_360 hx C ⟨F, hnL⟩ hk12 h)
def n_barsNow_290 (k12 : Int32 × gx_S → Option (Int32 × gx_S)) (x1 : Int32) (x2 : Int32) (x3 : Int32) (x4 : Int32) (x5 : Int32) (x6 : Int32) (x7 : Int32) (S : gx_S) : Option (Int32 × gx_S) := gx_cs (n_valueOf x5 x2 x3 S) fun v3 S2 => if x6 = 60 then if x7 ≤ v3 then n_barsNow_357 k12 x1 x2 x3 x4 0 S2 else n_barsNow_357 k12 x1 x2 x3 x4 1 S2 else if x6 = 62 then if v3 ≤ x7 then n_barsNow_357 k12 x1 x2 x3 x4 0 S2 else n_barsNow_357 k12 x1 x2 x3 x4 1 S2 else if v3 = x7 then n_barsNow_357 k12 x1 x2 x3 x4 1 S2 else n_barsNow_357 k12 x1 x2 x3 x4 0 S2
set_option maxRecDepth 20000 in
set_option maxHeartbeats 1000000 in
theorem bn_barsNow_290 {Γ : gx_T} {ι : Nat → ClassId} {a : Nat → Nat} {out : Int32 × gx_S} (hx : gx_std vwCl (gty ι) (gx_cl Γ) (gx_ty Γ)) (C : gx_ok Γ cX8_barsNow RX8 gx_U 5) (F : gx_finI Γ ((Option.some Jvm.ClassFile.FieldType.boolean)) (wM a ι) out ∧ gx_nL Γ = 9) {k12 : Int32 × gx_S → Option (Int32 × gx_S)} {x1 : Int32} {x2 : Int32} {x3 : Int32} {x4 : Int32} {x5 : Int32} {x6 : Int32} {x7 : Int32} {S : gx_S} (hk12 : ∀ (x47 : Int32) (S7 : gx_S), k12 (x47, S7) = some out → gx_G Γ 0 0 12 [.ref (a 0), .int x1, .int x2, .int x3, .int x47, .null, .null, .null, .null] [] (wM a ι S7)) (h : n_barsNow_290 k12 x1 x2 x3 x4 x5 x6 x7 S = some out) : gx_G Γ 0 0 290 [.ref (a 0), .int x1, .int x2, .int x3, .int x4, .int x5, .int x6, .int x7, .null] [] (wM a ι S) := by
  obtain ⟨F, hnL⟩ := F
  unfold n_barsNow_290 at h
  refine gx_aload_0 C dX8_barsNow_290 rfl ?_
  refine gx_iload C dX8_barsNow_291 rfl ?_
  refine gx_iload_2 C dX8_barsNow_293 rfl ?_
  refine gx_iload_3 C dX8_barsNow_294 rfl ?_
  obtain ⟨v3, S2, e1, h⟩ := gi_cs h
  refine gc_IV C (cn_valueOf (gx_l Γ) (gx_D Γ) hx a _ _ _ _ e1) (gx_cw C gx_uu lk_X8_264 (by decide) (by decide)) (cls_X8 hx).1 (gs_recv (q := 0) lt_M_Model (oc_M_Model a ι _)) rfl rfl (Nat.le_of_ble_eq_true rfl) ⟨Nat.zero_le _, Nat.zero_le _⟩ dX8_barsNow_295 ?_
  refine gx_istore C dX8_barsNow_298 (by rw [hnL]; decide) trivial ?_
  refine gx_aload_0 C dX8_barsNow_300 rfl ?_
  refine gx_iload C dX8_barsNow_301 rfl ?_
  refine gx_bipush (v := 60) C dX8_barsNow_303 (by decide) ?_
  refine gx_icmp_ne (tgt := 323) C dX8_barsNow_305 (by decide) (fun hc8 => ?_) (fun hc8 => ?_)
  · have h := gi_f hc8 h
    refine gx_iload C dX8_barsNow_323 rfl ?_
    refine gx_bipush (v := 62) C dX8_barsNow_325 (by decide) ?_
    refine gx_icmp_ne (tgt := 345) C dX8_barsNow_327 (by decide) (fun hc6 => ?_) (fun hc6 => ?_)
    · have h := gi_f hc6 h
      refine gx_iload C dX8_barsNow_345 rfl ?_
      refine gx_iload C dX8_barsNow_347 rfl ?_
      refine gx_icmp_ne (tgt := 356) C dX8_barsNow_349 (by decide) (fun hc4 => ?_) (fun hc4 => ?_)
      · have h := gi_f hc4 h
        refine gx_iconst0 C dX8_barsNow_356 ?_
        exact gx_weak (gx_le_k rfl (gx_le_k rfl (gx_le_k rfl (gx_le_k rfl (gx_le_k rfl (gx_le_n (gx_le_n (gx_le_n (gx_le_n gx_le_0))))))))) (bn_barsNow_357 hx C ⟨F, hnL⟩ hk12 h)
      · have h := gi_t hc4 h
        refine gx_iconst1 C dX8_barsNow_352 ?_
        refine gx_goto (tgt := 357) C dX8_barsNow_353 (by decide) ?_
        exact gx_weak (gx_le_k rfl (gx_le_k rfl (gx_le_k rfl (gx_le_k rfl (gx_le_k rfl (gx_le_n (gx_le_n (gx_le_n (gx_le_n gx_le_0))))))))) (bn_barsNow_357 hx C ⟨F, hnL⟩ hk12 h)
    · have h := gi_t hc6 h
      refine gx_iload C dX8_barsNow_330 rfl ?_
      refine gx_iload C dX8_barsNow_332 rfl ?_
      refine gx_icmp_le (tgt := 341) C dX8_barsNow_334 (by decide) (fun hc5 => ?_) (fun hc5 => ?_)
      · have h := gi_t hc5 h
        refine gx_iconst0 C dX8_barsNow_341 ?_
        refine gx_goto (tgt := 357) C dX8_barsNow_342 (by decide) ?_
        exact gx_weak (gx_le_k rfl (gx_le_k rfl (gx_le_k rfl (gx_le_k rfl (gx_le_k rfl (gx_le_n (gx_le_n (gx_le_n (gx_le_n gx_le_0))))))))) (bn_barsNow_357 hx C ⟨F, hnL⟩ hk12 h)
      · have h := gi_f hc5 h
        refine gx_iconst1 C dX8_barsNow_337 ?_
        refine gx_goto (tgt := 357) C dX8_barsNow_338 (by decide) ?_
        exact gx_weak (gx_le_k rfl (gx_le_k rfl (gx_le_k rfl (gx_le_k rfl (gx_le_k rfl (gx_le_n (gx_le_n (gx_le_n (gx_le_n gx_le_0))))))))) (bn_barsNow_357 hx C ⟨F, hnL⟩ hk12 h)
  · have h := gi_t hc8 h
    refine gx_iload C dX8_barsNow_308 rfl ?_
    refine gx_iload C dX8_barsNow_310 rfl ?_
    refine gx_icmp_ge (tgt := 319) C dX8_barsNow_312 (by decide) (fun hc7 => ?_) (fun hc7 => ?_)
    · have h := gi_t hc7 h
      refine gx_iconst0 C dX8_barsNow_319 ?_
      refine gx_goto (tgt := 357) C dX8_barsNow_320 (by decide) ?_
      exact gx_weak (gx_le_k rfl (gx_le_k rfl (gx_le_k rfl (gx_le_k rfl (gx_le_k rfl (gx_le_n (gx_le_n (gx_le_n (gx_le_n gx_le_0))))))))) (bn_barsNow_357 hx C ⟨F, hnL⟩ hk12 h)
    · have h := gi_f hc7 h
      refine gx_iconst1 C dX8_barsNow_315 ?_
      refine gx_goto (tgt := 357) C dX8_barsNow_316 (by decide) ?_
      exact gx_weak (gx_le_k rfl (gx_le_k rfl (gx_le_k rfl (gx_le_k rfl (gx_le_k rfl (gx_le_n (gx_le_n (gx_le_n (gx_le_n gx_le_0))))))))) (bn_barsNow_357 hx C ⟨F, hnL⟩ hk12 h)
def n_barsNow_232 (k12 : Int32 × gx_S → Option (Int32 × gx_S)) (x1 : Int32) (x2 : Int32) (x3 : Int32) (x5 : Int32) (x6 : Int32) (S : gx_S) (t : Int32 × Int32) (k232 : Int32 × Int32 → Option (Int32 × gx_S)) : Option (Int32 × gx_S) := match t with
  | (x4, x7) => gx_ck 4 x1 (if (S 10 x1.toNatClampNeg) ≤ x4 then n_barsNow_290 k12 x1 x2 x3 x4 x5 x6 x7 S else gx_ck 200 (((50 : Int32) * x1) + x4) (gx_cp (n_isDigit (S 9 (((50 : Int32) * x1) + x4).toNatClampNeg) S) fun v4 => if v4 = 0 then n_barsNow_290 k12 x1 x2 x3 x4 x5 x6 x7 S else k232 ((x4 + 1), ((((10 : Int32) * x7) + (S 9 (((50 : Int32) * x1) + x4).toNatClampNeg)) - (48 : Int32)))))
set_option maxRecDepth 20000 in
set_option maxHeartbeats 1000000 in
theorem bn_barsNow_232 {Γ : gx_T} {ι : Nat → ClassId} {a : Nat → Nat} {out : Int32 × gx_S} (hx : gx_std vwCl (gty ι) (gx_cl Γ) (gx_ty Γ)) (C : gx_ok Γ cX8_barsNow RX8 gx_U 5) (F : gx_finI Γ ((Option.some Jvm.ClassFile.FieldType.boolean)) (wM a ι) out ∧ gx_nL Γ = 9) {k12 : Int32 × gx_S → Option (Int32 × gx_S)} {k232 : Int32 × Int32 → Option (Int32 × gx_S)} {x1 : Int32} {x2 : Int32} {x3 : Int32} {x5 : Int32} {x6 : Int32} {x4 : Int32} {x7 : Int32} {S : gx_S} (hk12 : ∀ (x47 : Int32) (S7 : gx_S), k12 (x47, S7) = some out → gx_G Γ 0 0 12 [.ref (a 0), .int x1, .int x2, .int x3, .int x47, .null, .null, .null, .null] [] (wM a ι S7)) (hk232 : ∀ (x47 : Int32) (x77 : Int32), k232 (x47, x77) = some out → gx_G Γ 0 0 232 [.ref (a 0), .int x1, .int x2, .int x3, .int x47, .int x5, .int x6, .int x77, .null] [] (wM a ι S)) (h : n_barsNow_232 k12 x1 x2 x3 x5 x6 S (x4, x7) k232 = some out) : gx_G Γ 0 0 232 [.ref (a 0), .int x1, .int x2, .int x3, .int x4, .int x5, .int x6, .int x7, .null] [] (wM a ι S) := by
  obtain ⟨F, hnL⟩ := F
  unfold n_barsNow_232 at h
  dsimp only at h
  refine gx_iload C dX8_barsNow_232 rfl ?_
  refine gx_aload_0 C dX8_barsNow_234 rfl ?_
  refine gs_getf (q := 0) C fl_X8_39 (cls_X8 hx) lt_M_Model (oc_M_Model a ι _) rfl dX8_barsNow_235 ?_
  refine gx_iload_1 C dX8_barsNow_238 rfl ?_
  obtain ⟨hi1, h⟩ := gi_ck h
  refine gs_iald (q := 10) C (ac_M_M_testSize hx a) lt_M_M_testSize hi1 dX8_barsNow_239 ?_
  refine gx_icmp_ge (tgt := 290) C dX8_barsNow_240 (by decide) (fun hc6 => ?_) (fun hc6 => ?_)
  · have h := gi_t hc6 h
    exact gx_weak (gx_le_k rfl (gx_le_k rfl (gx_le_k rfl (gx_le_k rfl (gx_le_k rfl (gx_le_k rfl (gx_le_k rfl (gx_le_k rfl (gx_le_n gx_le_0))))))))) (bn_barsNow_290 hx C ⟨F, hnL⟩ hk12 h)
  · have h := gi_f hc6 h
    refine gx_aload_0 C dX8_barsNow_243 rfl ?_
    refine gs_getf (q := 0) C fl_X8_35 (cls_X8 hx) lt_M_Model (oc_M_Model a ι _) rfl dX8_barsNow_244 ?_
    refine gx_bipush (v := 50) C dX8_barsNow_247 (by decide) ?_
    refine gx_iload_1 C dX8_barsNow_249 rfl ?_
    refine gx_imul C dX8_barsNow_250 ?_
    refine gx_iload C dX8_barsNow_251 rfl ?_
    refine gx_iadd C dX8_barsNow_253 ?_
    obtain ⟨hi2, h⟩ := gi_ck h
    refine gs_bald (q := 9) C (ac_M_M_testText hx a) lt_M_M_testText hi2 dX8_barsNow_254 ?_
    obtain ⟨v4, e3, h⟩ := gi_cp h
    refine gc_IS C (cn_isDigit (gx_l Γ) (gx_D Γ) hx a _ _ e3) (gx_cwS C gx_uu lk_X8_236 (by decide) (by decide)) rfl rfl (Nat.le_of_ble_eq_true rfl) ⟨Nat.zero_le _, Nat.zero_le _⟩ dX8_barsNow_255 ?_
    refine gx_if_eq (tgt := 290) C dX8_barsNow_258 (by decide) (fun hc5 => ?_) (fun hc5 => ?_)
    · have h := gi_t hc5 h
      exact gx_weak (gx_le_k rfl (gx_le_k rfl (gx_le_k rfl (gx_le_k rfl (gx_le_k rfl (gx_le_k rfl (gx_le_k rfl (gx_le_k rfl (gx_le_n gx_le_0))))))))) (bn_barsNow_290 hx C ⟨F, hnL⟩ hk12 h)
    · have h := gi_f hc5 h
      refine gx_bipush (v := 10) C dX8_barsNow_261 (by decide) ?_
      refine gx_iload C dX8_barsNow_263 rfl ?_
      refine gx_imul C dX8_barsNow_265 ?_
      refine gx_aload_0 C dX8_barsNow_266 rfl ?_
      refine gs_getf (q := 0) C fl_X8_35 (cls_X8 hx) lt_M_Model (oc_M_Model a ι _) rfl dX8_barsNow_267 ?_
      refine gx_bipush (v := 50) C dX8_barsNow_270 (by decide) ?_
      refine gx_iload_1 C dX8_barsNow_272 rfl ?_
      refine gx_imul C dX8_barsNow_273 ?_
      refine gx_iload C dX8_barsNow_274 rfl ?_
      refine gx_iadd C dX8_barsNow_276 ?_
      refine gs_bald (q := 9) C (ac_M_M_testText hx a) lt_M_M_testText hi2 dX8_barsNow_277 ?_
      refine gx_iadd C dX8_barsNow_278 ?_
      refine gx_bipush (v := 48) C dX8_barsNow_279 (by decide) ?_
      refine gx_isub C dX8_barsNow_281 ?_
      refine gx_istore C dX8_barsNow_282 (by rw [hnL]; decide) trivial ?_
      refine gx_iinc1 C dX8_barsNow_284 rfl (by rw [hnL]; decide) trivial ?_
      refine gx_goto (tgt := 232) C dX8_barsNow_287 (by decide) ?_
      exact gx_weak (gx_le_k rfl (gx_le_k rfl (gx_le_k rfl (gx_le_k rfl (gx_le_k rfl (gx_le_k rfl (gx_le_k rfl (gx_le_k rfl (gx_le_n gx_le_0))))))))) (hk232 _ _ h)
def n_barsNow_381 (S : gx_S) : Option (Int32 × gx_S) := some (1, S)
set_option maxRecDepth 20000 in
set_option maxHeartbeats 1000000 in
theorem bn_barsNow_381 {Γ : gx_T} {ι : Nat → ClassId} {a : Nat → Nat} {out : Int32 × gx_S} (hx : gx_std vwCl (gty ι) (gx_cl Γ) (gx_ty Γ)) (C : gx_ok Γ cX8_barsNow RX8 gx_U 5) (F : gx_finI Γ ((Option.some Jvm.ClassFile.FieldType.boolean)) (wM a ι) out ∧ gx_nL Γ = 9) {S : gx_S} (h : n_barsNow_381 S = some out) : gx_G Γ 0 0 381 [.ref (a 0), .null, .null, .null, .null, .null, .null, .null, .null] [] (wM a ι S) := by
  obtain ⟨F, hnL⟩ := F
  unfold n_barsNow_381 at h
  refine gx_iconst1 C dX8_barsNow_381 ?_
  refine gx_goto (tgt := 386) C dX8_barsNow_382 (by decide) ?_
  exact gx_iret C F (by decide) dX8_barsNow_386 (Option.some.inj h)
def n_barsNow_12 (x1 : Int32) (x2 : Int32) (x3 : Int32) (t : Int32 × gx_S) (k12 : Int32 × gx_S → Option (Int32 × gx_S)) : Option (Int32 × gx_S) := match t with
  | (x4, S) => gx_ck 4 x1 (if (S 10 x1.toNatClampNeg) ≤ x4 then gx_ck 51 (0 : Int32) (if (S 23 (0 : Int32).toNatClampNeg) = 0 then if (S 24 (0 : Int32).toNatClampNeg) = 0 then some (0, S) else n_barsNow_381 S else n_barsNow_381 S) else gx_ck 200 (((50 : Int32) * x1) + x4) (if (S 9 (((50 : Int32) * x1) + x4).toNatClampNeg) = 33 then gx_ck 51 (S 0 40) (if (S 25 (S 0 40).toNatClampNeg) = 0 then n_barsNow_72 k12 x1 x2 x3 (x4 + 1) (S 0 40) 1 S else n_barsNow_72 k12 x1 x2 x3 (x4 + 1) (S 0 40) 0 S) else if (S 9 (((50 : Int32) * x1) + x4).toNatClampNeg) = 40 then gx_cp (n_openGroup S) fun S17 => n_barsNow_360 k12 x1 x2 x3 (x4 + 1) S17 else if (S 9 (((50 : Int32) * x1) + x4).toNatClampNeg) = 41 then gx_ck 51 (S 0 40) (if (S 23 (S 0 40).toNatClampNeg) = 0 then if (S 24 (S 0 40).toNatClampNeg) = 0 then n_barsNow_126 k12 x1 x2 x3 (x4 + 1) 0 S else n_barsNow_121 k12 x1 x2 x3 (x4 + 1) S else n_barsNow_121 k12 x1 x2 x3 (x4 + 1) S) else if (S 9 (((50 : Int32) * x1) + x4).toNatClampNeg) = 124 then gx_ck 51 (S 0 40) (if (S 23 (S 0 40).toNatClampNeg) = 0 then if (S 24 (S 0 40).toNatClampNeg) = 0 then n_barsNow_191 k12 x1 x2 x3 (x4 + 1) (S 0 40) 0 S else n_barsNow_186 k12 x1 x2 x3 (x4 + 1) (S 0 40) S else n_barsNow_186 k12 x1 x2 x3 (x4 + 1) (S 0 40) S) else if (S 9 (((50 : Int32) * x1) + x4).toNatClampNeg) = 38 then n_barsNow_360 k12 x1 x2 x3 (x4 + 1) S else gx_ck 200 (((50 : Int32) * x1) + (x4 + 1)) (gx_loop (n_barsNow_232 k12 x1 x2 x3 (S 9 (((50 : Int32) * x1) + x4).toNatClampNeg) (S 9 (((50 : Int32) * x1) + (x4 + 1)).toNatClampNeg) S) 5000 (((x4 + 1) + 1), 0))))
set_option maxRecDepth 20000 in
set_option maxHeartbeats 1000000 in
theorem bn_barsNow_12 {Γ : gx_T} {ι : Nat → ClassId} {a : Nat → Nat} {out : Int32 × gx_S} (hx : gx_std vwCl (gty ι) (gx_cl Γ) (gx_ty Γ)) (C : gx_ok Γ cX8_barsNow RX8 gx_U 5) (F : gx_finI Γ ((Option.some Jvm.ClassFile.FieldType.boolean)) (wM a ι) out ∧ gx_nL Γ = 9) {k12 : Int32 × gx_S → Option (Int32 × gx_S)} {x1 : Int32} {x2 : Int32} {x3 : Int32} {x4 : Int32} {S : gx_S} (hk12 : ∀ (x47 : Int32) (S7 : gx_S), k12 (x47, S7) = some out → gx_G Γ 0 0 12 [.ref (a 0), .int x1, .int x2, .int x3, .int x47, .null, .null, .null, .null] [] (wM a ι S7)) (h : n_barsNow_12 x1 x2 x3 (x4, S) k12 = some out) : gx_G Γ 0 0 12 [.ref (a 0), .int x1, .int x2, .int x3, .int x4, .null, .null, .null, .null] [] (wM a ι S) := by
  obtain ⟨F, hnL⟩ := F
  unfold n_barsNow_12 at h
  dsimp only at h
  refine gx_iload C dX8_barsNow_12 rfl ?_
  refine gx_aload_0 C dX8_barsNow_14 rfl ?_
  refine gs_getf (q := 0) C fl_X8_39 (cls_X8 hx) lt_M_Model (oc_M_Model a ι _) rfl dX8_barsNow_15 ?_
  refine gx_iload_1 C dX8_barsNow_18 rfl ?_
  obtain ⟨hi1, h⟩ := gi_ck h
  refine gs_iald (q := 10) C (ac_M_M_testSize hx a) lt_M_M_testSize hi1 dX8_barsNow_19 ?_
  refine gx_icmp_ge (tgt := 363) C dX8_barsNow_20 (by decide) (fun hc22 => ?_) (fun hc22 => ?_)
  · have h := gi_t hc22 h
    refine gx_aload_0 C dX8_barsNow_363 rfl ?_
    refine gs_getf (q := 0) C fl_X8_82 (cls_X8 hx) lt_M_Model (oc_M_Model a ι _) rfl dX8_barsNow_364 ?_
    refine gx_iconst0 C dX8_barsNow_367 ?_
    obtain ⟨hi2, h⟩ := gi_ck h
    refine gs_zald (q := 23) C (ac_M_M_anyTerm hx a) lt_M_M_anyTerm hi2 dX8_barsNow_368 ?_
    refine gx_if_ne (tgt := 381) C dX8_barsNow_369 (by decide) (fun hc4 => ?_) (fun hc4 => ?_)
    · have h := gi_f hc4 h
      exact gx_weak (gx_le_k rfl (gx_le_n (gx_le_n (gx_le_n (gx_le_n (gx_le_n (gx_le_n (gx_le_n (gx_le_n gx_le_0))))))))) (bn_barsNow_381 hx C ⟨F, hnL⟩ h)
    · have h := gi_t hc4 h
      refine gx_aload_0 C dX8_barsNow_372 rfl ?_
      refine gs_getf (q := 0) C fl_X8_85 (cls_X8 hx) lt_M_Model (oc_M_Model a ι _) rfl dX8_barsNow_373 ?_
      refine gx_iconst0 C dX8_barsNow_376 ?_
      refine gs_zald (q := 24) C (ac_M_M_allFactors hx a) lt_M_M_allFactors hi2 dX8_barsNow_377 ?_
      refine gx_if_eq (tgt := 385) C dX8_barsNow_378 (by decide) (fun hc3 => ?_) (fun hc3 => ?_)
      · have h := gi_t hc3 h
        refine gx_iconst0 C dX8_barsNow_385 ?_
        exact gx_iret C F (by decide) dX8_barsNow_386 (Option.some.inj h)
      · have h := gi_f hc3 h
        exact gx_weak (gx_le_k rfl (gx_le_n (gx_le_n (gx_le_n (gx_le_n (gx_le_n (gx_le_n (gx_le_n (gx_le_n gx_le_0))))))))) (bn_barsNow_381 hx C ⟨F, hnL⟩ h)
  · have h := gi_f hc22 h
    refine gx_aload_0 C dX8_barsNow_23 rfl ?_
    refine gs_getf (q := 0) C fl_X8_35 (cls_X8 hx) lt_M_Model (oc_M_Model a ι _) rfl dX8_barsNow_24 ?_
    refine gx_bipush (v := 50) C dX8_barsNow_27 (by decide) ?_
    refine gx_iload_1 C dX8_barsNow_29 rfl ?_
    refine gx_imul C dX8_barsNow_30 ?_
    refine gx_iload C dX8_barsNow_31 rfl ?_
    refine gx_iadd C dX8_barsNow_33 ?_
    obtain ⟨hi5, h⟩ := gi_ck h
    refine gs_bald (q := 9) C (ac_M_M_testText hx a) lt_M_M_testText hi5 dX8_barsNow_34 ?_
    refine gx_istore C dX8_barsNow_35 (by rw [hnL]; decide) trivial ?_
    refine gx_iinc1 C dX8_barsNow_37 rfl (by rw [hnL]; decide) trivial ?_
    refine gx_iload C dX8_barsNow_40 rfl ?_
    refine gx_bipush (v := 33) C dX8_barsNow_42 (by decide) ?_
    refine gx_icmp_ne (tgt := 76) C dX8_barsNow_44 (by decide) (fun hc21 => ?_) (fun hc21 => ?_)
    · have h := gi_f hc21 h
      refine gx_iload C dX8_barsNow_76 rfl ?_
      refine gx_bipush (v := 40) C dX8_barsNow_78 (by decide) ?_
      refine gx_icmp_ne (tgt := 90) C dX8_barsNow_80 (by decide) (fun hc18 => ?_) (fun hc18 => ?_)
      · have h := gi_f hc18 h
        refine gx_iload C dX8_barsNow_90 rfl ?_
        refine gx_bipush (v := 41) C dX8_barsNow_92 (by decide) ?_
        refine gx_icmp_ne (tgt := 147) C dX8_barsNow_94 (by decide) (fun hc15 => ?_) (fun hc15 => ?_)
        · have h := gi_f hc15 h
          refine gx_iload C dX8_barsNow_147 rfl ?_
          refine gx_bipush (v := 124) C dX8_barsNow_149 (by decide) ?_
          refine gx_icmp_ne (tgt := 205) C dX8_barsNow_151 (by decide) (fun hc11 => ?_) (fun hc11 => ?_)
          · have h := gi_f hc11 h
            refine gx_iload C dX8_barsNow_205 rfl ?_
            refine gx_bipush (v := 38) C dX8_barsNow_207 (by decide) ?_
            refine gx_icmp_eq (tgt := 360) C dX8_barsNow_209 (by decide) (fun hc7 => ?_) (fun hc7 => ?_)
            · have h := gi_t hc7 h
              exact gx_weak (gx_le_k rfl (gx_le_k rfl (gx_le_k rfl (gx_le_k rfl (gx_le_k rfl (gx_le_n (gx_le_n (gx_le_n (gx_le_n gx_le_0))))))))) (bn_barsNow_360 hx C ⟨F, hnL⟩ hk12 h)
            · have h := gi_f hc7 h
              refine gx_aload_0 C dX8_barsNow_212 rfl ?_
              refine gs_getf (q := 0) C fl_X8_35 (cls_X8 hx) lt_M_Model (oc_M_Model a ι _) rfl dX8_barsNow_213 ?_
              refine gx_bipush (v := 50) C dX8_barsNow_216 (by decide) ?_
              refine gx_iload_1 C dX8_barsNow_218 rfl ?_
              refine gx_imul C dX8_barsNow_219 ?_
              refine gx_iload C dX8_barsNow_220 rfl ?_
              refine gx_iadd C dX8_barsNow_222 ?_
              obtain ⟨hi6, h⟩ := gi_ck h
              refine gs_bald (q := 9) C (ac_M_M_testText hx a) lt_M_M_testText hi6 dX8_barsNow_223 ?_
              refine gx_istore C dX8_barsNow_224 (by rw [hnL]; decide) trivial ?_
              refine gx_iinc1 C dX8_barsNow_226 rfl (by rw [hnL]; decide) trivial ?_
              refine gx_iconst0 C dX8_barsNow_229 ?_
              refine gx_istore C dX8_barsNow_230 (by rw [hnL]; decide) trivial ?_
              refine gx_weak (gx_le_k rfl (gx_le_k rfl (gx_le_k rfl (gx_le_k rfl (gx_le_k rfl (gx_le_k rfl (gx_le_k rfl (gx_le_k rfl (gx_le_n gx_le_0))))))))) (gi_loop (P := fun t => gx_G Γ 0 0 232 [.ref (a 0), .int x1, .int x2, .int x3, .int t.1, .int (S 9 (((50 : Int32) * x1) + x4).toNatClampNeg), .int (S 9 (((50 : Int32) * x1) + (x4 + 1)).toNatClampNeg), .int t.2, .null] [] (wM a ι S)) (fun kk t hk h => ?_) 5000 _ h)
              obtain ⟨x49, x79⟩ := t
              exact bn_barsNow_232 hx C ⟨F, hnL⟩ hk12 (k232 := kk) (fun x48 x78 h => hk (x48, x78) h) h
          · have h := gi_t hc11 h
            refine gx_aload_0 C dX8_barsNow_154 rfl ?_
            refine gs_getf (q := 0) C fl_X8_82 (cls_X8 hx) lt_M_Model (oc_M_Model a ι _) rfl dX8_barsNow_155 ?_
            refine gx_aload_0 C dX8_barsNow_158 rfl ?_
            refine gs_getf (q := 0) C fl_X8_254 (cls_X8 hx) lt_M_Model (oc_M_Model a ι _) rfl dX8_barsNow_159 ?_
            refine gx_aload_0 C dX8_barsNow_162 rfl ?_
            refine gs_getf (q := 0) C fl_X8_82 (cls_X8 hx) lt_M_Model (oc_M_Model a ι _) rfl dX8_barsNow_163 ?_
            refine gx_aload_0 C dX8_barsNow_166 rfl ?_
            refine gs_getf (q := 0) C fl_X8_254 (cls_X8 hx) lt_M_Model (oc_M_Model a ι _) rfl dX8_barsNow_167 ?_
            obtain ⟨hi8, h⟩ := gi_ck h
            refine gs_zald (q := 23) C (ac_M_M_anyTerm hx a) lt_M_M_anyTerm hi8 dX8_barsNow_170 ?_
            refine gx_if_ne (tgt := 186) C dX8_barsNow_171 (by decide) (fun hc10 => ?_) (fun hc10 => ?_)
            · have h := gi_f hc10 h
              exact gx_weak (gx_le_k rfl (gx_le_k rfl (gx_le_k rfl (gx_le_k rfl (gx_le_k rfl (gx_le_n (gx_le_n (gx_le_n (gx_le_n gx_le_0))))))))) (bn_barsNow_186 hx C ⟨F, hnL⟩ hk12 h)
            · have h := gi_t hc10 h
              refine gx_aload_0 C dX8_barsNow_174 rfl ?_
              refine gs_getf (q := 0) C fl_X8_85 (cls_X8 hx) lt_M_Model (oc_M_Model a ι _) rfl dX8_barsNow_175 ?_
              refine gx_aload_0 C dX8_barsNow_178 rfl ?_
              refine gs_getf (q := 0) C fl_X8_254 (cls_X8 hx) lt_M_Model (oc_M_Model a ι _) rfl dX8_barsNow_179 ?_
              refine gs_zald (q := 24) C (ac_M_M_allFactors hx a) lt_M_M_allFactors hi8 dX8_barsNow_182 ?_
              refine gx_if_eq (tgt := 190) C dX8_barsNow_183 (by decide) (fun hc9 => ?_) (fun hc9 => ?_)
              · have h := gi_t hc9 h
                refine gx_iconst0 C dX8_barsNow_190 ?_
                exact gx_weak (gx_le_k rfl (gx_le_k rfl (gx_le_k rfl (gx_le_k rfl (gx_le_k rfl (gx_le_n (gx_le_n (gx_le_n (gx_le_n gx_le_0))))))))) (bn_barsNow_191 hx C ⟨F, hnL⟩ hk12 h)
              · have h := gi_f hc9 h
                exact gx_weak (gx_le_k rfl (gx_le_k rfl (gx_le_k rfl (gx_le_k rfl (gx_le_k rfl (gx_le_n (gx_le_n (gx_le_n (gx_le_n gx_le_0))))))))) (bn_barsNow_186 hx C ⟨F, hnL⟩ hk12 h)
        · have h := gi_t hc15 h
          refine gx_aload_0 C dX8_barsNow_97 rfl ?_
          refine gs_getf (q := 0) C fl_X8_82 (cls_X8 hx) lt_M_Model (oc_M_Model a ι _) rfl dX8_barsNow_98 ?_
          refine gx_aload_0 C dX8_barsNow_101 rfl ?_
          refine gs_getf (q := 0) C fl_X8_254 (cls_X8 hx) lt_M_Model (oc_M_Model a ι _) rfl dX8_barsNow_102 ?_
          obtain ⟨hi12, h⟩ := gi_ck h
          refine gs_zald (q := 23) C (ac_M_M_anyTerm hx a) lt_M_M_anyTerm hi12 dX8_barsNow_105 ?_
          refine gx_if_ne (tgt := 121) C dX8_barsNow_106 (by decide) (fun hc14 => ?_) (fun hc14 => ?_)
          · have h := gi_f hc14 h
            exact gx_weak (gx_le_k rfl (gx_le_k rfl (gx_le_k rfl (gx_le_k rfl (gx_le_k rfl (gx_le_n (gx_le_n (gx_le_n (gx_le_n gx_le_0))))))))) (bn_barsNow_121 hx C ⟨F, hnL⟩ hk12 h)
          · have h := gi_t hc14 h
            refine gx_aload_0 C dX8_barsNow_109 rfl ?_
            refine gs_getf (q := 0) C fl_X8_85 (cls_X8 hx) lt_M_Model (oc_M_Model a ι _) rfl dX8_barsNow_110 ?_
            refine gx_aload_0 C dX8_barsNow_113 rfl ?_
            refine gs_getf (q := 0) C fl_X8_254 (cls_X8 hx) lt_M_Model (oc_M_Model a ι _) rfl dX8_barsNow_114 ?_
            refine gs_zald (q := 24) C (ac_M_M_allFactors hx a) lt_M_M_allFactors hi12 dX8_barsNow_117 ?_
            refine gx_if_eq (tgt := 125) C dX8_barsNow_118 (by decide) (fun hc13 => ?_) (fun hc13 => ?_)
            · have h := gi_t hc13 h
              refine gx_iconst0 C dX8_barsNow_125 ?_
              exact gx_weak (gx_le_k rfl (gx_le_k rfl (gx_le_k rfl (gx_le_k rfl (gx_le_k rfl (gx_le_n (gx_le_n (gx_le_n (gx_le_n gx_le_0))))))))) (bn_barsNow_126 hx C ⟨F, hnL⟩ hk12 h)
            · have h := gi_f hc13 h
              exact gx_weak (gx_le_k rfl (gx_le_k rfl (gx_le_k rfl (gx_le_k rfl (gx_le_k rfl (gx_le_n (gx_le_n (gx_le_n (gx_le_n gx_le_0))))))))) (bn_barsNow_121 hx C ⟨F, hnL⟩ hk12 h)
      · have h := gi_t hc18 h
        refine gx_aload_0 C dX8_barsNow_83 rfl ?_
        obtain ⟨S17, e16, h⟩ := gi_cp h
        refine gc_VV C (cn_openGroup (gx_l Γ) (gx_D Γ) hx a _ e16) (gx_cw C gx_uu lk_X8_257 (by decide) (by decide)) (cls_X8 hx).1 (gs_recv (q := 0) lt_M_Model (oc_M_Model a ι _)) rfl rfl (Nat.le_of_ble_eq_true rfl) ⟨Nat.zero_le _, Nat.zero_le _⟩ dX8_barsNow_84 ?_
        refine gx_goto (tgt := 360) C dX8_barsNow_87 (by decide) ?_
        exact gx_weak (gx_le_k rfl (gx_le_k rfl (gx_le_k rfl (gx_le_k rfl (gx_le_k rfl (gx_le_n (gx_le_n (gx_le_n (gx_le_n gx_le_0))))))))) (bn_barsNow_360 hx C ⟨F, hnL⟩ hk12 h)
    · have h := gi_t hc21 h
      refine gx_aload_0 C dX8_barsNow_47 rfl ?_
      refine gs_getf (q := 0) C fl_X8_88 (cls_X8 hx) lt_M_Model (oc_M_Model a ι _) rfl dX8_barsNow_48 ?_
      refine gx_aload_0 C dX8_barsNow_51 rfl ?_
      refine gs_getf (q := 0) C fl_X8_254 (cls_X8 hx) lt_M_Model (oc_M_Model a ι _) rfl dX8_barsNow_52 ?_
      refine gx_aload_0 C dX8_barsNow_55 rfl ?_
      refine gs_getf (q := 0) C fl_X8_88 (cls_X8 hx) lt_M_Model (oc_M_Model a ι _) rfl dX8_barsNow_56 ?_
      refine gx_aload_0 C dX8_barsNow_59 rfl ?_
      refine gs_getf (q := 0) C fl_X8_254 (cls_X8 hx) lt_M_Model (oc_M_Model a ι _) rfl dX8_barsNow_60 ?_
      obtain ⟨hi19, h⟩ := gi_ck h
      refine gs_zald (q := 25) C (ac_M_M_isDenied hx a) lt_M_M_isDenied hi19 dX8_barsNow_63 ?_
      refine gx_if_ne (tgt := 71) C dX8_barsNow_64 (by decide) (fun hc20 => ?_) (fun hc20 => ?_)
      · have h := gi_f hc20 h
        refine gx_iconst0 C dX8_barsNow_71 ?_
        exact gx_weak (gx_le_k rfl (gx_le_k rfl (gx_le_k rfl (gx_le_k rfl (gx_le_k rfl (gx_le_n (gx_le_n (gx_le_n (gx_le_n gx_le_0))))))))) (bn_barsNow_72 hx C ⟨F, hnL⟩ hk12 h)
      · have h := gi_t hc20 h
        refine gx_iconst1 C dX8_barsNow_67 ?_
        refine gx_goto (tgt := 72) C dX8_barsNow_68 (by decide) ?_
        exact gx_weak (gx_le_k rfl (gx_le_k rfl (gx_le_k rfl (gx_le_k rfl (gx_le_k rfl (gx_le_n (gx_le_n (gx_le_n (gx_le_n gx_le_0))))))))) (bn_barsNow_72 hx C ⟨F, hnL⟩ hk12 h)
def n_barsNow (x1 : Int32) (x2 : Int32) (x3 : Int32) (S : gx_S) : Option (Int32 × gx_S) := gx_let (gx_st S 0 40 (-1)) fun S1 => gx_cp (n_openGroup S1) fun S4 => gx_loop (n_barsNow_12 x1 x2 x3) 5000 (0, S4)
set_option maxRecDepth 20000 in
set_option maxHeartbeats 1000000 in
theorem cn_barsNow (l : Launch) (D : va_G) {cl : List vw_C} {tys : List (ClassId × FieldType)} {ι : Nat → ClassId} (hx : gx_std vwCl (gty ι) cl tys) (a : Nat → Nat) (x1 : Int32) (x2 : Int32) (x3 : Int32) (S : gx_S) {out : Int32 × gx_S} (h : n_barsNow x1 x2 x3 S = some out) : gx_mI l D cl tys yX8_barsNow (.code yX8_barsNow cX8_barsNow 9 ((Option.some Jvm.ClassFile.FieldType.boolean)) :: gx_U) (gx_rm 5) [.ref (a 0), .int x1, .int x2, .int x3] (wM a ι S) (wM a ι) out := by
  unfold n_barsNow at h
  refine gx_startI (V := [.ref (a 0), .int x1, .int x2, .int x3, .null, .null, .null, .null, .null]) 5 (by decide +kernel) (Nat.le_of_ble_eq_true rfl) rfl (fun Γ hl hD hcl hty hnL C F => ?_)
  subst hl; subst hD; subst hcl; subst hty
  refine gx_aload_0 C dX8_barsNow_0 rfl ?_
  refine gx_iconstm1 C dX8_barsNow_1 ?_
  obtain ⟨S1, e2, h⟩ := gi_let h
  refine gs_puti (q := 0) C fl_X8_254 (cls_X8 hx) lt_M_Model (oc_M_Model a ι _) (oc_M_Model a ι _) rfl rfl rfl (Nat.le_of_ble_eq_true rfl) e2 dX8_barsNow_2 ?_
  refine gx_aload_0 C dX8_barsNow_5 rfl ?_
  obtain ⟨S4, e3, h⟩ := gi_cp h
  refine gc_VV C (cn_openGroup (gx_l Γ) (gx_D Γ) hx a _ e3) (gx_cw C gx_uu lk_X8_257 (by decide) (by decide)) (cls_X8 hx).1 (gs_recv (q := 0) lt_M_Model (oc_M_Model a ι _)) rfl rfl (Nat.le_of_ble_eq_true rfl) ⟨Nat.zero_le _, Nat.zero_le _⟩ dX8_barsNow_6 ?_
  refine gx_iconst0 C dX8_barsNow_9 ?_
  refine gx_istore C dX8_barsNow_10 (by rw [hnL]; decide) trivial ?_
  refine gx_weak (gx_le_k rfl (gx_le_k rfl (gx_le_k rfl (gx_le_k rfl (gx_le_k rfl (gx_le_n (gx_le_n (gx_le_n (gx_le_n gx_le_0))))))))) (gi_loop (P := fun t => gx_G Γ 0 0 12 [.ref (a 0), .int x1, .int x2, .int x3, .int t.1, .null, .null, .null, .null] [] (wM a ι t.2)) (fun kk t hk h => ?_) 5000 _ h)
  obtain ⟨x49, S'9⟩ := t
  exact bn_barsNow_12 hx C ⟨F, hnL⟩ (k12 := kk) (fun x48 S'8 h => hk (x48, S'8) h) h
def n_bars_17 (S : gx_S) : Option (Int32 × gx_S) := some ((-101), S)
set_option maxRecDepth 20000 in
set_option maxHeartbeats 1000000 in
theorem bn_bars_17 {Γ : gx_T} {ι : Nat → ClassId} {a : Nat → Nat} {out : Int32 × gx_S} (hx : gx_std vwCl (gty ι) (gx_cl Γ) (gx_ty Γ)) (C : gx_ok Γ cX8_bars RX8 gx_U 6) (F : gx_finI Γ ((Option.some Jvm.ClassFile.FieldType.int)) (wM a ι) out ∧ gx_nL Γ = 4) {S : gx_S} (h : n_bars_17 S = some out) : gx_G Γ 0 0 17 [.ref (a 0), .null, .null, .null] [] (wM a ι S) := by
  obtain ⟨F, hnL⟩ := F
  unfold n_bars_17 at h
  refine gx_bipush (v := (-101)) C dX8_bars_17 (by decide) ?_
  refine gx_goto (tgt := 37) C dX8_bars_19 (by decide) ?_
  exact gx_iret C F rfl dX8_bars_37 (Option.some.inj h)
def n_bars (x1 : Int32) (x2 : Int32) (x3 : Int32) (S : gx_S) : Option (Int32 × gx_S) := gx_cp (n_isTest x1 S) fun v2 => if v2 = 0 then n_bars_17 S else gx_cp (n_areTwo x2 x3 S) fun v4 => if v4 = 0 then n_bars_17 S else gx_cs (n_barsNow x1 x2 x3 S) fun v7 S6 => if v7 = 0 then some (0, S6) else some (1, S6)
set_option maxRecDepth 20000 in
set_option maxHeartbeats 1000000 in
theorem cn_bars (l : Launch) (D : va_G) {cl : List vw_C} {tys : List (ClassId × FieldType)} {ι : Nat → ClassId} (hx : gx_std vwCl (gty ι) cl tys) (a : Nat → Nat) (x1 : Int32) (x2 : Int32) (x3 : Int32) (S : gx_S) {out : Int32 × gx_S} (h : n_bars x1 x2 x3 S = some out) : gx_mI l D cl tys yX8_bars (.code yX8_bars cX8_bars 4 ((Option.some Jvm.ClassFile.FieldType.int)) :: gx_U) (gx_rm 6) [.ref (a 0), .int x1, .int x2, .int x3] (wM a ι S) (wM a ι) out := by
  unfold n_bars at h
  refine gx_startI (V := [.ref (a 0), .int x1, .int x2, .int x3]) 0 (by decide +kernel) (Nat.le_of_ble_eq_true rfl) rfl (fun Γ hl hD hcl hty hnL C F => ?_)
  subst hl; subst hD; subst hcl; subst hty
  refine gx_aload_0 C dX8_bars_0 rfl ?_
  refine gx_iload_1 C dX8_bars_1 rfl ?_
  obtain ⟨v2, e1, h⟩ := gi_cp h
  refine gc_IV C (cn_isTest (gx_l Γ) (gx_D Γ) hx a _ _ e1) (gx_cw C gx_uu lk_X8_268 (by decide) (by decide)) (cls_X8 hx).1 (gs_recv (q := 0) lt_M_Model (oc_M_Model a ι _)) rfl rfl (Nat.le_of_ble_eq_true rfl) ⟨Nat.zero_le _, Nat.zero_le _⟩ dX8_bars_2 ?_
  refine gx_if_eq (tgt := 17) C dX8_bars_5 (by decide) (fun hc10 => ?_) (fun hc10 => ?_)
  · have h := gi_t hc10 h
    exact gx_weak (gx_le_k rfl (gx_le_n (gx_le_n (gx_le_n gx_le_0)))) (bn_bars_17 hx C ⟨F, hnL⟩ h)
  · have h := gi_f hc10 h
    refine gx_aload_0 C dX8_bars_8 rfl ?_
    refine gx_iload_2 C dX8_bars_9 rfl ?_
    refine gx_iload_3 C dX8_bars_10 rfl ?_
    obtain ⟨v4, e3, h⟩ := gi_cp h
    refine gc_IV C (cn_areTwo (gx_l Γ) (gx_D Γ) hx a _ _ _ e3) (gx_cw C gx_uu lk_X8_200 (by decide) (by decide)) (cls_X8 hx).1 (gs_recv (q := 0) lt_M_Model (oc_M_Model a ι _)) rfl rfl (Nat.le_of_ble_eq_true rfl) ⟨Nat.zero_le _, Nat.zero_le _⟩ dX8_bars_11 ?_
    refine gx_if_ne (tgt := 22) C dX8_bars_14 (by decide) (fun hc9 => ?_) (fun hc9 => ?_)
    · have h := gi_f hc9 h
      refine gx_aload_0 C dX8_bars_22 rfl ?_
      refine gx_iload_1 C dX8_bars_23 rfl ?_
      refine gx_iload_2 C dX8_bars_24 rfl ?_
      refine gx_iload_3 C dX8_bars_25 rfl ?_
      obtain ⟨v7, S6, e5, h⟩ := gi_cs h
      refine gc_IV C (cn_barsNow (gx_l Γ) (gx_D Γ) hx a _ _ _ _ e5) (gx_cw C gx_uu lk_X8_271 (by decide) (by decide)) (cls_X8 hx).1 (gs_recv (q := 0) lt_M_Model (oc_M_Model a ι _)) rfl rfl (Nat.le_of_ble_eq_true rfl) ⟨Nat.zero_le _, Nat.zero_le _⟩ dX8_bars_26 ?_
      refine gx_if_eq (tgt := 36) C dX8_bars_29 (by decide) (fun hc8 => ?_) (fun hc8 => ?_)
      · have h := gi_t hc8 h
        refine gx_iconst0 C dX8_bars_36 ?_
        exact gx_iret C F rfl dX8_bars_37 (Option.some.inj h)
      · have h := gi_f hc8 h
        refine gx_iconst1 C dX8_bars_32 ?_
        refine gx_goto (tgt := 37) C dX8_bars_33 (by decide) ?_
        exact gx_iret C F rfl dX8_bars_37 (Option.some.inj h)
    · have h := gi_t hc9 h
      exact gx_weak (gx_le_k rfl (gx_le_n (gx_le_n (gx_le_n gx_le_0)))) (bn_bars_17 hx C ⟨F, hnL⟩ h)
def n_wrong_171 (k56 : Int32 × Int32 × gx_S → Option (Int32 × gx_S)) (k75 : Int32 × Int32 × gx_S → Option (Int32 × gx_S)) (x1 : Int32) (x2 : Int32) (x3 : Int32) (x4 : Int32) (x5 : Int32) (x6 : Int32) (S : gx_S) : Option (Int32 × gx_S) := k75 (x4, (x6 + 1), S)
set_option maxRecDepth 20000 in
set_option maxHeartbeats 1000000 in
theorem bn_wrong_171 {Γ : gx_T} {ι : Nat → ClassId} {a : Nat → Nat} {out : Int32 × gx_S} (hx : gx_std vwCl (gty ι) (gx_cl Γ) (gx_ty Γ)) (C : gx_ok Γ cX8_wrong RX8 gx_U 9) (F : gx_finI Γ ((Option.some Jvm.ClassFile.FieldType.int)) (wM a ι) out ∧ gx_nL Γ = 8) {k56 : Int32 × Int32 × gx_S → Option (Int32 × gx_S)} {k75 : Int32 × Int32 × gx_S → Option (Int32 × gx_S)} {x1 : Int32} {x2 : Int32} {x3 : Int32} {x5 : Int32} {x4 : Int32} {x6 : Int32} {S : gx_S} (hk56 : ∀ (x47 : Int32) (x57 : Int32) (S7 : gx_S), k56 (x47, x57, S7) = some out → gx_G Γ 0 0 56 [.ref (a 0), .int x1, .int x2, .int x3, .int x47, .int x57, .null, .null] [] (wM a ι S7)) (hk75 : ∀ (x47 : Int32) (x67 : Int32) (S7 : gx_S), k75 (x47, x67, S7) = some out → gx_G Γ 0 0 75 [.ref (a 0), .int x1, .int x2, .int x3, .int x47, .int x5, .int x67, .null] [] (wM a ι S7)) (h : n_wrong_171 k56 k75 x1 x2 x3 x4 x5 x6 S = some out) : gx_G Γ 0 0 171 [.ref (a 0), .int x1, .int x2, .int x3, .int x4, .int x5, .int x6, .null] [] (wM a ι S) := by
  obtain ⟨F, hnL⟩ := F
  unfold n_wrong_171 at h
  refine gx_iinc1 C dX8_wrong_171 rfl (by rw [hnL]; decide) trivial ?_
  refine gx_goto (tgt := 75) C dX8_wrong_174 (by decide) ?_
  exact gx_weak (gx_le_k rfl (gx_le_k rfl (gx_le_k rfl (gx_le_k rfl (gx_le_k rfl (gx_le_k rfl (gx_le_k rfl (gx_le_n gx_le_0)))))))) (hk75 _ _ _ h)
def n_wrong_168 (k56 : Int32 × Int32 × gx_S → Option (Int32 × gx_S)) (k75 : Int32 × Int32 × gx_S → Option (Int32 × gx_S)) (x1 : Int32) (x2 : Int32) (x3 : Int32) (x5 : Int32) (x6 : Int32) (s0 : Int32) (s1 : Int32) (S : gx_S) : Option (Int32 × gx_S) := n_wrong_171 k56 k75 x1 x2 x3 (s0 + s1) x5 x6 S
set_option maxRecDepth 20000 in
set_option maxHeartbeats 1000000 in
theorem bn_wrong_168 {Γ : gx_T} {ι : Nat → ClassId} {a : Nat → Nat} {out : Int32 × gx_S} (hx : gx_std vwCl (gty ι) (gx_cl Γ) (gx_ty Γ)) (C : gx_ok Γ cX8_wrong RX8 gx_U 9) (F : gx_finI Γ ((Option.some Jvm.ClassFile.FieldType.int)) (wM a ι) out ∧ gx_nL Γ = 8) {k56 : Int32 × Int32 × gx_S → Option (Int32 × gx_S)} {k75 : Int32 × Int32 × gx_S → Option (Int32 × gx_S)} {x1 : Int32} {x2 : Int32} {x3 : Int32} {x5 : Int32} {x6 : Int32} {s0 : Int32} {s1 : Int32} {S : gx_S} (hk56 : ∀ (x47 : Int32) (x57 : Int32) (S7 : gx_S), k56 (x47, x57, S7) = some out → gx_G Γ 0 0 56 [.ref (a 0), .int x1, .int x2, .int x3, .int x47, .int x57, .null, .null] [] (wM a ι S7)) (hk75 : ∀ (x47 : Int32) (x67 : Int32) (S7 : gx_S), k75 (x47, x67, S7) = some out → gx_G Γ 0 0 75 [.ref (a 0), .int x1, .int x2, .int x3, .int x47, .int x5, .int x67, .null] [] (wM a ι S7)) (h : n_wrong_168 k56 k75 x1 x2 x3 x5 x6 s0 s1 S = some out) : gx_G Γ 0 0 168 [.ref (a 0), .int x1, .int x2, .int x3, .null, .int x5, .int x6, .null] [.int s1, .int s0] (wM a ι S) := by
  obtain ⟨F, hnL⟩ := F
  unfold n_wrong_168 at h
  refine gx_iadd C dX8_wrong_168 ?_
  refine gx_istore C dX8_wrong_169 (by rw [hnL]; decide) trivial ?_
  exact gx_weak (gx_le_k rfl (gx_le_k rfl (gx_le_k rfl (gx_le_k rfl (gx_le_k rfl (gx_le_k rfl (gx_le_k rfl (gx_le_n gx_le_0)))))))) (bn_wrong_171 hx C ⟨F, hnL⟩ hk56 hk75 h)
def n_wrong_167 (k56 : Int32 × Int32 × gx_S → Option (Int32 × gx_S)) (k75 : Int32 × Int32 × gx_S → Option (Int32 × gx_S)) (x1 : Int32) (x2 : Int32) (x3 : Int32) (x5 : Int32) (x6 : Int32) (s0 : Int32) (S : gx_S) : Option (Int32 × gx_S) := n_wrong_168 k56 k75 x1 x2 x3 x5 x6 s0 0 S
set_option maxRecDepth 20000 in
set_option maxHeartbeats 1000000 in
theorem bn_wrong_167 {Γ : gx_T} {ι : Nat → ClassId} {a : Nat → Nat} {out : Int32 × gx_S} (hx : gx_std vwCl (gty ι) (gx_cl Γ) (gx_ty Γ)) (C : gx_ok Γ cX8_wrong RX8 gx_U 9) (F : gx_finI Γ ((Option.some Jvm.ClassFile.FieldType.int)) (wM a ι) out ∧ gx_nL Γ = 8) {k56 : Int32 × Int32 × gx_S → Option (Int32 × gx_S)} {k75 : Int32 × Int32 × gx_S → Option (Int32 × gx_S)} {x1 : Int32} {x2 : Int32} {x3 : Int32} {x5 : Int32} {x6 : Int32} {s0 : Int32} {S : gx_S} (hk56 : ∀ (x47 : Int32) (x57 : Int32) (S7 : gx_S), k56 (x47, x57, S7) = some out → gx_G Γ 0 0 56 [.ref (a 0), .int x1, .int x2, .int x3, .int x47, .int x57, .null, .null] [] (wM a ι S7)) (hk75 : ∀ (x47 : Int32) (x67 : Int32) (S7 : gx_S), k75 (x47, x67, S7) = some out → gx_G Γ 0 0 75 [.ref (a 0), .int x1, .int x2, .int x3, .int x47, .int x5, .int x67, .null] [] (wM a ι S7)) (h : n_wrong_167 k56 k75 x1 x2 x3 x5 x6 s0 S = some out) : gx_G Γ 0 0 167 [.ref (a 0), .int x1, .int x2, .int x3, .null, .int x5, .int x6, .null] [.int s0] (wM a ι S) := by
  obtain ⟨F, hnL⟩ := F
  unfold n_wrong_167 at h
  refine gx_iconst0 C dX8_wrong_167 ?_
  exact gx_weak (gx_le_k rfl (gx_le_k rfl (gx_le_k rfl (gx_le_k rfl (gx_le_n (gx_le_k rfl (gx_le_k rfl (gx_le_n gx_le_0)))))))) (bn_wrong_168 hx C ⟨F, hnL⟩ hk56 hk75 h)
def n_wrong_160 (k56 : Int32 × Int32 × gx_S → Option (Int32 × gx_S)) (k75 : Int32 × Int32 × gx_S → Option (Int32 × gx_S)) (x1 : Int32) (x2 : Int32) (x3 : Int32) (x5 : Int32) (x6 : Int32) (s0 : Int32) (s1 : Int32) (s2 : Int32) (S : gx_S) : Option (Int32 × gx_S) := if s1 = s2 then n_wrong_168 k56 k75 x1 x2 x3 x5 x6 s0 1 S else n_wrong_167 k56 k75 x1 x2 x3 x5 x6 s0 S
set_option maxRecDepth 20000 in
set_option maxHeartbeats 1000000 in
theorem bn_wrong_160 {Γ : gx_T} {ι : Nat → ClassId} {a : Nat → Nat} {out : Int32 × gx_S} (hx : gx_std vwCl (gty ι) (gx_cl Γ) (gx_ty Γ)) (C : gx_ok Γ cX8_wrong RX8 gx_U 9) (F : gx_finI Γ ((Option.some Jvm.ClassFile.FieldType.int)) (wM a ι) out ∧ gx_nL Γ = 8) {k56 : Int32 × Int32 × gx_S → Option (Int32 × gx_S)} {k75 : Int32 × Int32 × gx_S → Option (Int32 × gx_S)} {x1 : Int32} {x2 : Int32} {x3 : Int32} {x5 : Int32} {x6 : Int32} {s0 : Int32} {s1 : Int32} {s2 : Int32} {S : gx_S} (hk56 : ∀ (x47 : Int32) (x57 : Int32) (S7 : gx_S), k56 (x47, x57, S7) = some out → gx_G Γ 0 0 56 [.ref (a 0), .int x1, .int x2, .int x3, .int x47, .int x57, .null, .null] [] (wM a ι S7)) (hk75 : ∀ (x47 : Int32) (x67 : Int32) (S7 : gx_S), k75 (x47, x67, S7) = some out → gx_G Γ 0 0 75 [.ref (a 0), .int x1, .int x2, .int x3, .int x47, .int x5, .int x67, .null] [] (wM a ι S7)) (h : n_wrong_160 k56 k75 x1 x2 x3 x5 x6 s0 s1 s2 S = some out) : gx_G Γ 0 0 160 [.ref (a 0), .int x1, .int x2, .int x3, .null, .int x5, .int x6, .null] [.int s2, .int s1, .int s0] (wM a ι S) := by
  obtain ⟨F, hnL⟩ := F
  unfold n_wrong_160 at h
  refine gx_icmp_ne (tgt := 167) C dX8_wrong_160 (by decide) (fun hc1 => ?_) (fun hc1 => ?_)
  · have h := gi_f hc1 h
    exact gx_weak (gx_le_k rfl (gx_le_k rfl (gx_le_k rfl (gx_le_k rfl (gx_le_n (gx_le_k rfl (gx_le_k rfl (gx_le_n gx_le_0)))))))) (bn_wrong_167 hx C ⟨F, hnL⟩ hk56 hk75 h)
  · have h := gi_t hc1 h
    refine gx_iconst1 C dX8_wrong_163 ?_
    refine gx_goto (tgt := 168) C dX8_wrong_164 (by decide) ?_
    exact gx_weak (gx_le_k rfl (gx_le_k rfl (gx_le_k rfl (gx_le_k rfl (gx_le_n (gx_le_k rfl (gx_le_k rfl (gx_le_n gx_le_0)))))))) (bn_wrong_168 hx C ⟨F, hnL⟩ hk56 hk75 h)
def n_wrong_138 (k56 : Int32 × Int32 × gx_S → Option (Int32 × gx_S)) (k75 : Int32 × Int32 × gx_S → Option (Int32 × gx_S)) (x1 : Int32) (x2 : Int32) (x3 : Int32) (x5 : Int32) (x6 : Int32) (s0 : Int32) (s1 : Int32) (s2 : Int32) (S : gx_S) : Option (Int32 × gx_S) := if s1 = s2 then gx_cs (n_barsNow x1 x5 x6 S) fun v3 S2 => if x2 = 1 then n_wrong_160 k56 k75 x1 x2 x3 x5 x6 s0 v3 1 S2 else n_wrong_160 k56 k75 x1 x2 x3 x5 x6 s0 v3 0 S2 else n_wrong_167 k56 k75 x1 x2 x3 x5 x6 s0 S
set_option maxRecDepth 20000 in
set_option maxHeartbeats 1000000 in
theorem bn_wrong_138 {Γ : gx_T} {ι : Nat → ClassId} {a : Nat → Nat} {out : Int32 × gx_S} (hx : gx_std vwCl (gty ι) (gx_cl Γ) (gx_ty Γ)) (C : gx_ok Γ cX8_wrong RX8 gx_U 9) (F : gx_finI Γ ((Option.some Jvm.ClassFile.FieldType.int)) (wM a ι) out ∧ gx_nL Γ = 8) {k56 : Int32 × Int32 × gx_S → Option (Int32 × gx_S)} {k75 : Int32 × Int32 × gx_S → Option (Int32 × gx_S)} {x1 : Int32} {x2 : Int32} {x3 : Int32} {x5 : Int32} {x6 : Int32} {s0 : Int32} {s1 : Int32} {s2 : Int32} {S : gx_S} (hk56 : ∀ (x47 : Int32) (x57 : Int32) (S7 : gx_S), k56 (x47, x57, S7) = some out → gx_G Γ 0 0 56 [.ref (a 0), .int x1, .int x2, .int x3, .int x47, .int x57, .null, .null] [] (wM a ι S7)) (hk75 : ∀ (x47 : Int32) (x67 : Int32) (S7 : gx_S), k75 (x47, x67, S7) = some out → gx_G Γ 0 0 75 [.ref (a 0), .int x1, .int x2, .int x3, .int x47, .int x5, .int x67, .null] [] (wM a ι S7)) (h : n_wrong_138 k56 k75 x1 x2 x3 x5 x6 s0 s1 s2 S = some out) : gx_G Γ 0 0 138 [.ref (a 0), .int x1, .int x2, .int x3, .null, .int x5, .int x6, .null] [.int s2, .int s1, .int s0] (wM a ι S) := by
  obtain ⟨F, hnL⟩ := F
  unfold n_wrong_138 at h
  refine gx_icmp_ne (tgt := 167) C dX8_wrong_138 (by decide) (fun hc5 => ?_) (fun hc5 => ?_)
  · have h := gi_f hc5 h
    exact gx_weak (gx_le_k rfl (gx_le_k rfl (gx_le_k rfl (gx_le_k rfl (gx_le_n (gx_le_k rfl (gx_le_k rfl (gx_le_n gx_le_0)))))))) (bn_wrong_167 hx C ⟨F, hnL⟩ hk56 hk75 h)
  · have h := gi_t hc5 h
    refine gx_aload_0 C dX8_wrong_141 rfl ?_
    refine gx_iload_1 C dX8_wrong_142 rfl ?_
    refine gx_iload C dX8_wrong_143 rfl ?_
    refine gx_iload C dX8_wrong_145 rfl ?_
    obtain ⟨v3, S2, e1, h⟩ := gi_cs h
    refine gc_IV C (cn_barsNow (gx_l Γ) (gx_D Γ) hx a _ _ _ _ e1) (gx_cw C gx_uu lk_X8_271 (by decide) (by decide)) (cls_X8 hx).1 (gs_recv (q := 0) lt_M_Model (oc_M_Model a ι _)) rfl rfl (Nat.le_of_ble_eq_true rfl) ⟨Nat.zero_le _, Nat.zero_le _⟩ dX8_wrong_147 ?_
    refine gx_iload_2 C dX8_wrong_150 rfl ?_
    refine gx_iconst1 C dX8_wrong_151 ?_
    refine gx_icmp_ne (tgt := 159) C dX8_wrong_152 (by decide) (fun hc4 => ?_) (fun hc4 => ?_)
    · have h := gi_f hc4 h
      refine gx_iconst0 C dX8_wrong_159 ?_
      exact gx_weak (gx_le_k rfl (gx_le_k rfl (gx_le_k rfl (gx_le_k rfl (gx_le_n (gx_le_k rfl (gx_le_k rfl (gx_le_n gx_le_0)))))))) (bn_wrong_160 hx C ⟨F, hnL⟩ hk56 hk75 h)
    · have h := gi_t hc4 h
      refine gx_iconst1 C dX8_wrong_155 ?_
      refine gx_goto (tgt := 160) C dX8_wrong_156 (by decide) ?_
      exact gx_weak (gx_le_k rfl (gx_le_k rfl (gx_le_k rfl (gx_le_k rfl (gx_le_n (gx_le_k rfl (gx_le_k rfl (gx_le_n gx_le_0)))))))) (bn_wrong_160 hx C ⟨F, hnL⟩ hk56 hk75 h)
def n_wrong_123 (k56 : Int32 × Int32 × gx_S → Option (Int32 × gx_S)) (k75 : Int32 × Int32 × gx_S → Option (Int32 × gx_S)) (x1 : Int32) (x2 : Int32) (x3 : Int32) (x4 : Int32) (x5 : Int32) (x6 : Int32) (s0 : Int32) (S : gx_S) : Option (Int32 × gx_S) := if x2 = 0 then n_wrong_138 k56 k75 x1 x2 x3 x5 x6 x4 s0 1 S else n_wrong_138 k56 k75 x1 x2 x3 x5 x6 x4 s0 0 S
set_option maxRecDepth 20000 in
set_option maxHeartbeats 1000000 in
theorem bn_wrong_123 {Γ : gx_T} {ι : Nat → ClassId} {a : Nat → Nat} {out : Int32 × gx_S} (hx : gx_std vwCl (gty ι) (gx_cl Γ) (gx_ty Γ)) (C : gx_ok Γ cX8_wrong RX8 gx_U 9) (F : gx_finI Γ ((Option.some Jvm.ClassFile.FieldType.int)) (wM a ι) out ∧ gx_nL Γ = 8) {k56 : Int32 × Int32 × gx_S → Option (Int32 × gx_S)} {k75 : Int32 × Int32 × gx_S → Option (Int32 × gx_S)} {x1 : Int32} {x2 : Int32} {x3 : Int32} {x5 : Int32} {x4 : Int32} {x6 : Int32} {s0 : Int32} {S : gx_S} (hk56 : ∀ (x47 : Int32) (x57 : Int32) (S7 : gx_S), k56 (x47, x57, S7) = some out → gx_G Γ 0 0 56 [.ref (a 0), .int x1, .int x2, .int x3, .int x47, .int x57, .null, .null] [] (wM a ι S7)) (hk75 : ∀ (x47 : Int32) (x67 : Int32) (S7 : gx_S), k75 (x47, x67, S7) = some out → gx_G Γ 0 0 75 [.ref (a 0), .int x1, .int x2, .int x3, .int x47, .int x5, .int x67, .null] [] (wM a ι S7)) (h : n_wrong_123 k56 k75 x1 x2 x3 x4 x5 x6 s0 S = some out) : gx_G Γ 0 0 123 [.ref (a 0), .int x1, .int x2, .int x3, .int x4, .int x5, .int x6, .null] [.int s0] (wM a ι S) := by
  obtain ⟨F, hnL⟩ := F
  unfold n_wrong_123 at h
  refine gx_istore C dX8_wrong_123 (by rw [hnL]; decide) trivial ?_
  refine gx_iload C dX8_wrong_125 rfl ?_
  refine gx_iload C dX8_wrong_127 rfl ?_
  refine gx_iload_2 C dX8_wrong_129 rfl ?_
  refine gx_if_ne (tgt := 137) C dX8_wrong_130 (by decide) (fun hc1 => ?_) (fun hc1 => ?_)
  · have h := gi_f hc1 h
    refine gx_iconst0 C dX8_wrong_137 ?_
    exact gx_weak (gx_le_k rfl (gx_le_k rfl (gx_le_k rfl (gx_le_k rfl (gx_le_n (gx_le_k rfl (gx_le_k rfl (gx_le_n gx_le_0)))))))) (bn_wrong_138 hx C ⟨F, hnL⟩ hk56 hk75 h)
  · have h := gi_t hc1 h
    refine gx_iconst1 C dX8_wrong_133 ?_
    refine gx_goto (tgt := 138) C dX8_wrong_134 (by decide) ?_
    exact gx_weak (gx_le_k rfl (gx_le_k rfl (gx_le_k rfl (gx_le_k rfl (gx_le_n (gx_le_k rfl (gx_le_k rfl (gx_le_n gx_le_0)))))))) (bn_wrong_138 hx C ⟨F, hnL⟩ hk56 hk75 h)
def n_wrong_75 (k56 : Int32 × Int32 × gx_S → Option (Int32 × gx_S)) (x1 : Int32) (x2 : Int32) (x3 : Int32) (x5 : Int32) (t : Int32 × Int32 × gx_S) (k75 : Int32 × Int32 × gx_S → Option (Int32 × gx_S)) : Option (Int32 × gx_S) := match t with
  | (x4, x6, S) => if (S 0 0) ≤ x6 then k56 (x4, (x5 + 1), S) else gx_cp (n_fits x5 x6 S) fun v2 => if v2 = 0 then n_wrong_171 k56 k75 x1 x2 x3 x4 x5 x6 S else gx_cs (n_layBehind x5 x6 (-1) (-1) 0 (-1) S) fun v5 S4 => if v5 = 0 then n_wrong_171 k56 k75 x1 x2 x3 x4 x5 x6 S4 else gx_cp (n_harmNow 0 S4) fun v7 => if v7 ≤ 0 then n_wrong_123 k56 k75 x1 x2 x3 x4 x5 x6 0 S4 else n_wrong_123 k56 k75 x1 x2 x3 x4 x5 x6 1 S4
set_option maxRecDepth 20000 in
set_option maxHeartbeats 1000000 in
theorem bn_wrong_75 {Γ : gx_T} {ι : Nat → ClassId} {a : Nat → Nat} {out : Int32 × gx_S} (hx : gx_std vwCl (gty ι) (gx_cl Γ) (gx_ty Γ)) (C : gx_ok Γ cX8_wrong RX8 gx_U 9) (F : gx_finI Γ ((Option.some Jvm.ClassFile.FieldType.int)) (wM a ι) out ∧ gx_nL Γ = 8) {k56 : Int32 × Int32 × gx_S → Option (Int32 × gx_S)} {k75 : Int32 × Int32 × gx_S → Option (Int32 × gx_S)} {x1 : Int32} {x2 : Int32} {x3 : Int32} {x5 : Int32} {x4 : Int32} {x6 : Int32} {S : gx_S} (hk56 : ∀ (x47 : Int32) (x57 : Int32) (S7 : gx_S), k56 (x47, x57, S7) = some out → gx_G Γ 0 0 56 [.ref (a 0), .int x1, .int x2, .int x3, .int x47, .int x57, .null, .null] [] (wM a ι S7)) (hk75 : ∀ (x47 : Int32) (x67 : Int32) (S7 : gx_S), k75 (x47, x67, S7) = some out → gx_G Γ 0 0 75 [.ref (a 0), .int x1, .int x2, .int x3, .int x47, .int x5, .int x67, .null] [] (wM a ι S7)) (h : n_wrong_75 k56 x1 x2 x3 x5 (x4, x6, S) k75 = some out) : gx_G Γ 0 0 75 [.ref (a 0), .int x1, .int x2, .int x3, .int x4, .int x5, .int x6, .null] [] (wM a ι S) := by
  obtain ⟨F, hnL⟩ := F
  unfold n_wrong_75 at h
  dsimp only at h
  refine gx_iload C dX8_wrong_75 rfl ?_
  refine gx_aload_0 C dX8_wrong_77 rfl ?_
  refine gs_getf (q := 0) C fl_X8_91 (cls_X8 hx) lt_M_Model (oc_M_Model a ι _) rfl dX8_wrong_78 ?_
  refine gx_icmp_ge (tgt := 177) C dX8_wrong_81 (by decide) (fun hc11 => ?_) (fun hc11 => ?_)
  · have h := gi_t hc11 h
    refine gx_iinc1 C dX8_wrong_177 rfl (by rw [hnL]; decide) trivial ?_
    refine gx_goto (tgt := 56) C dX8_wrong_180 (by decide) ?_
    exact gx_weak (gx_le_k rfl (gx_le_k rfl (gx_le_k rfl (gx_le_k rfl (gx_le_k rfl (gx_le_k rfl (gx_le_n (gx_le_n gx_le_0)))))))) (hk56 _ _ _ h)
  · have h := gi_f hc11 h
    refine gx_aload_0 C dX8_wrong_84 rfl ?_
    refine gx_iload C dX8_wrong_85 rfl ?_
    refine gx_iload C dX8_wrong_87 rfl ?_
    obtain ⟨v2, e1, h⟩ := gi_cp h
    refine gc_IV C (cn_fits (gx_l Γ) (gx_D Γ) hx a _ _ _ e1) (gx_cw C gx_uu lk_X8_203 (by decide) (by decide)) (cls_X8 hx).1 (gs_recv (q := 0) lt_M_Model (oc_M_Model a ι _)) rfl rfl (Nat.le_of_ble_eq_true rfl) ⟨Nat.zero_le _, Nat.zero_le _⟩ dX8_wrong_89 ?_
    refine gx_if_eq (tgt := 171) C dX8_wrong_92 (by decide) (fun hc10 => ?_) (fun hc10 => ?_)
    · have h := gi_t hc10 h
      exact gx_weak (gx_le_k rfl (gx_le_k rfl (gx_le_k rfl (gx_le_k rfl (gx_le_k rfl (gx_le_k rfl (gx_le_k rfl (gx_le_n gx_le_0)))))))) (bn_wrong_171 hx C ⟨F, hnL⟩ hk56 hk75 h)
    · have h := gi_f hc10 h
      refine gx_aload_0 C dX8_wrong_95 rfl ?_
      refine gx_iload C dX8_wrong_96 rfl ?_
      refine gx_iload C dX8_wrong_98 rfl ?_
      refine gx_iconstm1 C dX8_wrong_100 ?_
      refine gx_iconstm1 C dX8_wrong_101 ?_
      refine gx_iconst0 C dX8_wrong_102 ?_
      refine gx_iconstm1 C dX8_wrong_103 ?_
      obtain ⟨v5, S4, e3, h⟩ := gi_cs h
      refine gc_IV C (cn_layBehind (gx_l Γ) (gx_D Γ) hx a _ _ _ _ _ _ _ e3) (gx_cw C gx_uu lk_X8_217 (by decide) (by decide)) (cls_X8 hx).1 (gs_recv (q := 0) lt_M_Model (oc_M_Model a ι _)) rfl rfl (Nat.le_of_ble_eq_true rfl) ⟨Nat.zero_le _, Nat.zero_le _⟩ dX8_wrong_104 ?_
      refine gx_if_eq (tgt := 171) C dX8_wrong_107 (by decide) (fun hc9 => ?_) (fun hc9 => ?_)
      · have h := gi_t hc9 h
        exact gx_weak (gx_le_k rfl (gx_le_k rfl (gx_le_k rfl (gx_le_k rfl (gx_le_k rfl (gx_le_k rfl (gx_le_k rfl (gx_le_n gx_le_0)))))))) (bn_wrong_171 hx C ⟨F, hnL⟩ hk56 hk75 h)
      · have h := gi_f hc9 h
        refine gx_aload_0 C dX8_wrong_110 rfl ?_
        refine gx_iconst0 C dX8_wrong_111 ?_
        obtain ⟨v7, e6, h⟩ := gi_cp h
        refine gc_IV C (cn_harmNow (gx_l Γ) (gx_D Γ) hx a _ _ e6) (gx_cw C gx_uu lk_X8_221 (by decide) (by decide)) (cls_X8 hx).1 (gs_recv (q := 0) lt_M_Model (oc_M_Model a ι _)) rfl rfl (Nat.le_of_ble_eq_true rfl) ⟨Nat.zero_le _, Nat.zero_le _⟩ dX8_wrong_112 ?_
        refine gx_if_le (tgt := 122) C dX8_wrong_115 (by decide) (fun hc8 => ?_) (fun hc8 => ?_)
        · have h := gi_t hc8 h
          refine gx_iconst0 C dX8_wrong_122 ?_
          exact gx_weak (gx_le_k rfl (gx_le_k rfl (gx_le_k rfl (gx_le_k rfl (gx_le_k rfl (gx_le_k rfl (gx_le_k rfl (gx_le_n gx_le_0)))))))) (bn_wrong_123 hx C ⟨F, hnL⟩ hk56 hk75 h)
        · have h := gi_f hc8 h
          refine gx_iconst1 C dX8_wrong_118 ?_
          refine gx_goto (tgt := 123) C dX8_wrong_119 (by decide) ?_
          exact gx_weak (gx_le_k rfl (gx_le_k rfl (gx_le_k rfl (gx_le_k rfl (gx_le_k rfl (gx_le_k rfl (gx_le_k rfl (gx_le_n gx_le_0)))))))) (bn_wrong_123 hx C ⟨F, hnL⟩ hk56 hk75 h)
def n_wrong_56 (x1 : Int32) (x2 : Int32) (x3 : Int32) (t : Int32 × Int32 × gx_S) (k56 : Int32 × Int32 × gx_S → Option (Int32 × gx_S)) : Option (Int32 × gx_S) := match t with
  | (x4, x5, S) => if (S 0 0) ≤ x5 then some (x4, S) else if x3 = 0 then some (x4, S) else gx_loop (n_wrong_75 k56 x1 x2 x3 x5) 5000 (x4, (x5 + (1 : Int32)), S)
set_option maxRecDepth 20000 in
set_option maxHeartbeats 1000000 in
theorem bn_wrong_56 {Γ : gx_T} {ι : Nat → ClassId} {a : Nat → Nat} {out : Int32 × gx_S} (hx : gx_std vwCl (gty ι) (gx_cl Γ) (gx_ty Γ)) (C : gx_ok Γ cX8_wrong RX8 gx_U 9) (F : gx_finI Γ ((Option.some Jvm.ClassFile.FieldType.int)) (wM a ι) out ∧ gx_nL Γ = 8) {k56 : Int32 × Int32 × gx_S → Option (Int32 × gx_S)} {x1 : Int32} {x2 : Int32} {x3 : Int32} {x4 : Int32} {x5 : Int32} {S : gx_S} (hk56 : ∀ (x47 : Int32) (x57 : Int32) (S7 : gx_S), k56 (x47, x57, S7) = some out → gx_G Γ 0 0 56 [.ref (a 0), .int x1, .int x2, .int x3, .int x47, .int x57, .null, .null] [] (wM a ι S7)) (h : n_wrong_56 x1 x2 x3 (x4, x5, S) k56 = some out) : gx_G Γ 0 0 56 [.ref (a 0), .int x1, .int x2, .int x3, .int x4, .int x5, .null, .null] [] (wM a ι S) := by
  obtain ⟨F, hnL⟩ := F
  unfold n_wrong_56 at h
  dsimp only at h
  refine gx_iload C dX8_wrong_56 rfl ?_
  refine gx_aload_0 C dX8_wrong_58 rfl ?_
  refine gs_getf (q := 0) C fl_X8_91 (cls_X8 hx) lt_M_Model (oc_M_Model a ι _) rfl dX8_wrong_59 ?_
  refine gx_icmp_ge (tgt := 183) C dX8_wrong_62 (by decide) (fun hc2 => ?_) (fun hc2 => ?_)
  · have h := gi_t hc2 h
    refine gx_iload C dX8_wrong_183 rfl ?_
    exact gx_iret C F rfl dX8_wrong_185 (Option.some.inj h)
  · have h := gi_f hc2 h
    refine gx_iload_3 C dX8_wrong_65 rfl ?_
    refine gx_if_eq (tgt := 183) C dX8_wrong_66 (by decide) (fun hc1 => ?_) (fun hc1 => ?_)
    · have h := gi_t hc1 h
      refine gx_iload C dX8_wrong_183 rfl ?_
      exact gx_iret C F rfl dX8_wrong_185 (Option.some.inj h)
    · have h := gi_f hc1 h
      refine gx_iload C dX8_wrong_69 rfl ?_
      refine gx_iconst1 C dX8_wrong_71 ?_
      refine gx_iadd C dX8_wrong_72 ?_
      refine gx_istore C dX8_wrong_73 (by rw [hnL]; decide) trivial ?_
      refine gx_weak (gx_le_k rfl (gx_le_k rfl (gx_le_k rfl (gx_le_k rfl (gx_le_k rfl (gx_le_k rfl (gx_le_k rfl (gx_le_n gx_le_0)))))))) (gi_loop (P := fun t => gx_G Γ 0 0 75 [.ref (a 0), .int x1, .int x2, .int x3, .int t.1, .int x5, .int t.2.1, .null] [] (wM a ι t.2.2)) (fun kk t hk h => ?_) 5000 _ h)
      obtain ⟨x49, x69, S'9⟩ := t
      exact bn_wrong_75 hx C ⟨F, hnL⟩ hk56 (k75 := kk) (fun x48 x68 S'8 h => hk (x48, x68, S'8) h) h
def n_wrong (x1 : Int32) (x2 : Int32) (S : gx_S) : Option (Int32 × gx_S) := gx_cp (n_isTest x1 S) fun v2 => if v2 = 0 then some ((-101), S) else gx_cp (n_within x2 0 1 S) fun v4 => if v4 = 0 then some ((-102), S) else if (S 0 16) = 6 then some ((-103), S) else gx_let (gx_st S 0 16 ((S 0 16) + (1 : Int32))) fun S5 => gx_cs (n_layBefore S5) fun v9 S8 => gx_loop (n_wrong_56 x1 x2 v9) 5000 (0, 0, S8)
set_option maxRecDepth 20000 in
set_option maxHeartbeats 1000000 in
theorem cn_wrong (l : Launch) (D : va_G) {cl : List vw_C} {tys : List (ClassId × FieldType)} {ι : Nat → ClassId} (hx : gx_std vwCl (gty ι) cl tys) (a : Nat → Nat) (x1 : Int32) (x2 : Int32) (S : gx_S) {out : Int32 × gx_S} (h : n_wrong x1 x2 S = some out) : gx_mI l D cl tys yX8_wrong (.code yX8_wrong cX8_wrong 8 ((Option.some Jvm.ClassFile.FieldType.int)) :: gx_U) (gx_rm 9) [.ref (a 0), .int x1, .int x2] (wM a ι S) (wM a ι) out := by
  unfold n_wrong at h
  refine gx_startI (V := [.ref (a 0), .int x1, .int x2, .null, .null, .null, .null, .null]) 5 (by decide +kernel) (Nat.le_of_ble_eq_true rfl) rfl (fun Γ hl hD hcl hty hnL C F => ?_)
  subst hl; subst hD; subst hcl; subst hty
  refine gx_aload_0 C dX8_wrong_0 rfl ?_
  refine gx_iload_1 C dX8_wrong_1 rfl ?_
  obtain ⟨v2, e1, h⟩ := gi_cp h
  refine gc_IV C (cn_isTest (gx_l Γ) (gx_D Γ) hx a _ _ e1) (gx_cw C gx_uu lk_X8_268 (by decide) (by decide)) (cls_X8 hx).1 (gs_recv (q := 0) lt_M_Model (oc_M_Model a ι _)) rfl rfl (Nat.le_of_ble_eq_true rfl) ⟨Nat.zero_le _, Nat.zero_le _⟩ dX8_wrong_2 ?_
  refine gx_if_ne (tgt := 11) C dX8_wrong_5 (by decide) (fun hc12 => ?_) (fun hc12 => ?_)
  · have h := gi_f hc12 h
    refine gx_iload_2 C dX8_wrong_11 rfl ?_
    refine gx_iconst0 C dX8_wrong_12 ?_
    refine gx_iconst1 C dX8_wrong_13 ?_
    obtain ⟨v4, e3, h⟩ := gi_cp h
    refine gc_IS C (cn_within (gx_l Γ) (gx_D Γ) hx a _ _ _ _ e3) (gx_cwS C gx_uu lk_X8_94 (by decide) (by decide)) rfl rfl (Nat.le_of_ble_eq_true rfl) ⟨Nat.zero_le _, Nat.zero_le _⟩ dX8_wrong_14 ?_
    refine gx_if_ne (tgt := 23) C dX8_wrong_17 (by decide) (fun hc11 => ?_) (fun hc11 => ?_)
    · have h := gi_f hc11 h
      refine gx_aload_0 C dX8_wrong_23 rfl ?_
      refine gs_getf (q := 0) C fl_X8_274 (cls_X8 hx) lt_M_Model (oc_M_Model a ι _) rfl dX8_wrong_24 ?_
      refine gx_bipush (v := 6) C dX8_wrong_27 (by decide) ?_
      refine gx_icmp_ne (tgt := 35) C dX8_wrong_29 (by decide) (fun hc10 => ?_) (fun hc10 => ?_)
      · have h := gi_f hc10 h
        refine gx_aload_0 C dX8_wrong_35 rfl ?_
        refine gx_dup C dX8_wrong_36 rfl ?_
        refine gs_getf (q := 0) C fl_X8_274 (cls_X8 hx) lt_M_Model (oc_M_Model a ι _) rfl dX8_wrong_37 ?_
        refine gx_iconst1 C dX8_wrong_40 ?_
        refine gx_iadd C dX8_wrong_41 ?_
        obtain ⟨S5, e6, h⟩ := gi_let h
        refine gs_puti (q := 0) C fl_X8_274 (cls_X8 hx) lt_M_Model (oc_M_Model a ι _) (oc_M_Model a ι _) rfl rfl rfl (Nat.le_of_ble_eq_true rfl) e6 dX8_wrong_42 ?_
        refine gx_aload_0 C dX8_wrong_45 rfl ?_
        obtain ⟨v9, S8, e7, h⟩ := gi_cs h
        refine gc_IV C (cn_layBefore (gx_l Γ) (gx_D Γ) hx a _ e7) (gx_cw C gx_uu lk_X8_213 (by decide) (by decide)) (cls_X8 hx).1 (gs_recv (q := 0) lt_M_Model (oc_M_Model a ι _)) rfl rfl (Nat.le_of_ble_eq_true rfl) ⟨Nat.zero_le _, Nat.zero_le _⟩ dX8_wrong_46 ?_
        refine gx_istore_3 C dX8_wrong_49 (by rw [hnL]; decide) trivial ?_
        refine gx_iconst0 C dX8_wrong_50 ?_
        refine gx_istore C dX8_wrong_51 (by rw [hnL]; decide) trivial ?_
        refine gx_iconst0 C dX8_wrong_53 ?_
        refine gx_istore C dX8_wrong_54 (by rw [hnL]; decide) trivial ?_
        refine gx_weak (gx_le_k rfl (gx_le_k rfl (gx_le_k rfl (gx_le_k rfl (gx_le_k rfl (gx_le_k rfl (gx_le_n (gx_le_n gx_le_0)))))))) (gi_loop (P := fun t => gx_G Γ 0 0 56 [.ref (a 0), .int x1, .int x2, .int v9, .int t.1, .int t.2.1, .null, .null] [] (wM a ι t.2.2)) (fun kk t hk h => ?_) 5000 _ h)
        obtain ⟨x49, x59, S'9⟩ := t
        exact bn_wrong_56 hx C ⟨F, hnL⟩ (k56 := kk) (fun x48 x58 S'8 h => hk (x48, x58, S'8) h) h
      · have h := gi_t hc10 h
        refine gx_bipush (v := (-103)) C dX8_wrong_32 (by decide) ?_
        exact gx_iret C F rfl dX8_wrong_34 (Option.some.inj h)
    · have h := gi_t hc11 h
      refine gx_bipush (v := (-102)) C dX8_wrong_20 (by decide) ?_
      exact gx_iret C F rfl dX8_wrong_22 (Option.some.inj h)
  · have h := gi_t hc12 h
    refine gx_bipush (v := (-101)) C dX8_wrong_8 (by decide) ?_
    exact gx_iret C F rfl dX8_wrong_10 (Option.some.inj h)
def n_image_23 (t : Int32 × gx_S) (k23 : Int32 × gx_S → Option (Int32 × gx_S)) : Option (Int32 × gx_S) := match t with
  | (x1, S) => if 6 ≤ x1 then some (S 0 4, S) else gx_ck 6 x1 (gx_let (gx_st S 12 x1.toNatClampNeg (S 7 x1.toNatClampNeg)) fun S2 => gx_let (gx_st S2 13 x1.toNatClampNeg (S2 4 x1.toNatClampNeg)) fun S4 => gx_let (gx_st S4 14 x1.toNatClampNeg (vp_nar .boolean (S4 3 x1.toNatClampNeg))) fun S6 => k23 ((x1 + 1), S6))
set_option maxRecDepth 20000 in
set_option maxHeartbeats 1000000 in
theorem bn_image_23 {Γ : gx_T} {ι : Nat → ClassId} {a : Nat → Nat} {out : Int32 × gx_S} (hx : gx_std vwCl (gty ι) (gx_cl Γ) (gx_ty Γ)) (C : gx_ok Γ cX8_image RX8 gx_U 0) (F : gx_finI Γ ((Option.some Jvm.ClassFile.FieldType.int)) (wM a ι) out ∧ gx_nL Γ = 2) {k23 : Int32 × gx_S → Option (Int32 × gx_S)} {x1 : Int32} {S : gx_S} (hk23 : ∀ (x17 : Int32) (S7 : gx_S), k23 (x17, S7) = some out → gx_G Γ 0 0 23 [.ref (a 0), .int x17] [] (wM a ι S7)) (h : n_image_23 (x1, S) k23 = some out) : gx_G Γ 0 0 23 [.ref (a 0), .int x1] [] (wM a ι S) := by
  obtain ⟨F, hnL⟩ := F
  unfold n_image_23 at h
  dsimp only at h
  refine gx_iload_1 C dX8_image_23 rfl ?_
  refine gx_bipush (v := 6) C dX8_image_24 (by decide) ?_
  refine gx_icmp_ge (tgt := 71) C dX8_image_26 (by decide) (fun hc8 => ?_) (fun hc8 => ?_)
  · have h := gi_t hc8 h
    refine gx_aload_0 C dX8_image_71 rfl ?_
    refine gs_getf (q := 0) C fl_X8_98 (cls_X8 hx) lt_M_Model (oc_M_Model a ι _) rfl dX8_image_72 ?_
    exact gx_iret C F rfl dX8_image_75 (Option.some.inj h)
  · have h := gi_f hc8 h
    refine gx_aload_0 C dX8_image_29 rfl ?_
    refine gs_getf (q := 0) C fl_X8_45 (cls_X8 hx) lt_M_Model (oc_M_Model a ι _) rfl dX8_image_30 ?_
    refine gx_iload_1 C dX8_image_33 rfl ?_
    refine gx_aload_0 C dX8_image_34 rfl ?_
    refine gs_getf (q := 0) C fl_X8_29 (cls_X8 hx) lt_M_Model (oc_M_Model a ι _) rfl dX8_image_35 ?_
    refine gx_iload_1 C dX8_image_38 rfl ?_
    obtain ⟨hi1, h⟩ := gi_ck h
    refine gs_iald (q := 7) C (ac_M_M_priceOf hx a) lt_M_M_priceOf hi1 dX8_image_39 ?_
    obtain ⟨S2, e3, h⟩ := gi_let h
    refine gs_iast (q := 12) C (ac_M_M_keptPrice hx a) lt_M_M_keptPrice hi1 e3 dX8_image_40 ?_
    refine gx_aload_0 C dX8_image_41 rfl ?_
    refine gs_getf (q := 0) C fl_X8_48 (cls_X8 hx) lt_M_Model (oc_M_Model a ι _) rfl dX8_image_42 ?_
    refine gx_iload_1 C dX8_image_45 rfl ?_
    refine gx_aload_0 C dX8_image_46 rfl ?_
    refine gs_getf (q := 0) C fl_X8_20 (cls_X8 hx) lt_M_Model (oc_M_Model a ι _) rfl dX8_image_47 ?_
    refine gx_iload_1 C dX8_image_50 rfl ?_
    refine gs_iald (q := 4) C (ac_M_M_ownerOf hx a) lt_M_M_ownerOf hi1 dX8_image_51 ?_
    obtain ⟨S4, e5, h⟩ := gi_let h
    refine gs_iast (q := 13) C (ac_M_M_keptOwner hx a) lt_M_M_keptOwner hi1 e5 dX8_image_52 ?_
    refine gx_aload_0 C dX8_image_53 rfl ?_
    refine gs_getf (q := 0) C fl_X8_51 (cls_X8 hx) lt_M_Model (oc_M_Model a ι _) rfl dX8_image_54 ?_
    refine gx_iload_1 C dX8_image_57 rfl ?_
    refine gx_aload_0 C dX8_image_58 rfl ?_
    refine gs_getf (q := 0) C fl_X8_16 (cls_X8 hx) lt_M_Model (oc_M_Model a ι _) rfl dX8_image_59 ?_
    refine gx_iload_1 C dX8_image_62 rfl ?_
    refine gs_zald (q := 3) C (ac_M_M_isIn hx a) lt_M_M_isIn hi1 dX8_image_63 ?_
    obtain ⟨S6, e7, h⟩ := gi_let h
    refine gs_zast (q := 14) C (ac_M_M_keptIn hx a) lt_M_M_keptIn hi1 e7 dX8_image_64 ?_
    refine gx_iinc1 C dX8_image_65 rfl (by rw [hnL]; decide) trivial ?_
    refine gx_goto (tgt := 23) C dX8_image_68 (by decide) ?_
    exact gx_weak (gx_le_k rfl (gx_le_k rfl gx_le_0)) (hk23 _ _ h)
def n_image (S : gx_S) : Option (Int32 × gx_S) := gx_let (gx_st S 0 17 1) fun S1 => gx_let (gx_st S1 0 18 (S1 0 0)) fun S3 => gx_let (gx_st S3 0 19 (S3 0 4)) fun S5 => gx_loop (n_image_23) 5000 (0, S5)
set_option maxRecDepth 20000 in
set_option maxHeartbeats 1000000 in
theorem cn_image (l : Launch) (D : va_G) {cl : List vw_C} {tys : List (ClassId × FieldType)} {ι : Nat → ClassId} (hx : gx_std vwCl (gty ι) cl tys) (a : Nat → Nat) (S : gx_S) {out : Int32 × gx_S} (h : n_image  S = some out) : gx_mI l D cl tys yX8_image (.code yX8_image cX8_image 2 ((Option.some Jvm.ClassFile.FieldType.int)) :: gx_U) (gx_rm 0) [.ref (a 0)] (wM a ι S) (wM a ι) out := by
  unfold n_image at h
  refine gx_startI (V := [.ref (a 0), .null]) 1 (by decide +kernel) (Nat.le_of_ble_eq_true rfl) rfl (fun Γ hl hD hcl hty hnL C F => ?_)
  subst hl; subst hD; subst hcl; subst hty
  refine gx_aload_0 C dX8_image_0 rfl ?_
  refine gx_iconst1 C dX8_image_1 ?_
  obtain ⟨S1, e2, h⟩ := gi_let h
  refine gs_puti (q := 0) C fl_X8_277 (cls_X8 hx) lt_M_Model (oc_M_Model a ι _) (oc_M_Model a ι _) rfl (by decide) (by decide) (Nat.le_of_ble_eq_true rfl) e2 dX8_image_2 ?_
  refine gx_aload_0 C dX8_image_5 rfl ?_
  refine gx_aload_0 C dX8_image_6 rfl ?_
  refine gs_getf (q := 0) C fl_X8_91 (cls_X8 hx) lt_M_Model (oc_M_Model a ι _) rfl dX8_image_7 ?_
  obtain ⟨S3, e4, h⟩ := gi_let h
  refine gs_puti (q := 0) C fl_X8_280 (cls_X8 hx) lt_M_Model (oc_M_Model a ι _) (oc_M_Model a ι _) rfl rfl rfl (Nat.le_of_ble_eq_true rfl) e4 dX8_image_10 ?_
  refine gx_aload_0 C dX8_image_13 rfl ?_
  refine gx_aload_0 C dX8_image_14 rfl ?_
  refine gs_getf (q := 0) C fl_X8_98 (cls_X8 hx) lt_M_Model (oc_M_Model a ι _) rfl dX8_image_15 ?_
  obtain ⟨S5, e6, h⟩ := gi_let h
  refine gs_puti (q := 0) C fl_X8_283 (cls_X8 hx) lt_M_Model (oc_M_Model a ι _) (oc_M_Model a ι _) rfl rfl rfl (Nat.le_of_ble_eq_true rfl) e6 dX8_image_18 ?_
  refine gx_iconst0 C dX8_image_21 ?_
  refine gx_istore_1 C dX8_image_22 (by rw [hnL]; decide) trivial ?_
  refine gx_weak (gx_le_k rfl (gx_le_k rfl gx_le_0)) (gi_loop (P := fun t => gx_G Γ 0 0 23 [.ref (a 0), .int t.1] [] (wM a ι t.2)) (fun kk t hk h => ?_) 5000 _ h)
  obtain ⟨x19, S'9⟩ := t
  exact bn_image_23 hx C ⟨F, hnL⟩ (k23 := kk) (fun x18 S'8 h => hk (x18, S'8) h) h
def n_restore_63 (t : Int32 × gx_S) (k63 : Int32 × gx_S → Option (Int32 × gx_S)) : Option (Int32 × gx_S) := match t with
  | (x1, S) => if (S 0 18) ≤ x1 then some (S 0 4, S) else gx_ck 6 x1 (gx_let (gx_st S 3 x1.toNatClampNeg (vp_nar .boolean (S 14 x1.toNatClampNeg))) fun S2 => k63 ((x1 + 1), S2))
set_option maxRecDepth 20000 in
set_option maxHeartbeats 1000000 in
theorem bn_restore_63 {Γ : gx_T} {ι : Nat → ClassId} {a : Nat → Nat} {out : Int32 × gx_S} (hx : gx_std vwCl (gty ι) (gx_cl Γ) (gx_ty Γ)) (C : gx_ok Γ cX8_restore RX8 gx_U 0) (F : gx_finI Γ ((Option.some Jvm.ClassFile.FieldType.int)) (wM a ι) out ∧ gx_nL Γ = 2) {k63 : Int32 × gx_S → Option (Int32 × gx_S)} {x1 : Int32} {S : gx_S} (hk63 : ∀ (x17 : Int32) (S7 : gx_S), k63 (x17, S7) = some out → gx_G Γ 0 0 63 [.ref (a 0), .int x17] [] (wM a ι S7)) (h : n_restore_63 (x1, S) k63 = some out) : gx_G Γ 0 0 63 [.ref (a 0), .int x1] [] (wM a ι S) := by
  obtain ⟨F, hnL⟩ := F
  unfold n_restore_63 at h
  dsimp only at h
  refine gx_iload_1 C dX8_restore_63 rfl ?_
  refine gx_aload_0 C dX8_restore_64 rfl ?_
  refine gs_getf (q := 0) C fl_X8_280 (cls_X8 hx) lt_M_Model (oc_M_Model a ι _) rfl dX8_restore_65 ?_
  refine gx_icmp_ge (tgt := 89) C dX8_restore_68 (by decide) (fun hc4 => ?_) (fun hc4 => ?_)
  · have h := gi_t hc4 h
    refine gx_aload_0 C dX8_restore_89 rfl ?_
    refine gs_getf (q := 0) C fl_X8_98 (cls_X8 hx) lt_M_Model (oc_M_Model a ι _) rfl dX8_restore_90 ?_
    exact gx_iret C F rfl dX8_restore_93 (Option.some.inj h)
  · have h := gi_f hc4 h
    refine gx_aload_0 C dX8_restore_71 rfl ?_
    refine gs_getf (q := 0) C fl_X8_16 (cls_X8 hx) lt_M_Model (oc_M_Model a ι _) rfl dX8_restore_72 ?_
    refine gx_iload_1 C dX8_restore_75 rfl ?_
    refine gx_aload_0 C dX8_restore_76 rfl ?_
    refine gs_getf (q := 0) C fl_X8_51 (cls_X8 hx) lt_M_Model (oc_M_Model a ι _) rfl dX8_restore_77 ?_
    refine gx_iload_1 C dX8_restore_80 rfl ?_
    obtain ⟨hi1, h⟩ := gi_ck h
    refine gs_zald (q := 14) C (ac_M_M_keptIn hx a) lt_M_M_keptIn hi1 dX8_restore_81 ?_
    obtain ⟨S2, e3, h⟩ := gi_let h
    refine gs_zast (q := 3) C (ac_M_M_isIn hx a) lt_M_M_isIn hi1 e3 dX8_restore_82 ?_
    refine gx_iinc1 C dX8_restore_83 rfl (by rw [hnL]; decide) trivial ?_
    refine gx_goto (tgt := 63) C dX8_restore_86 (by decide) ?_
    exact gx_weak (gx_le_k rfl (gx_le_k rfl gx_le_0)) (hk63 _ _ h)
def n_restore_23 (t : Int32 × gx_S) (k23 : Int32 × gx_S → Option (Int32 × gx_S)) : Option (Int32 × gx_S) := match t with
  | (x1, S) => if (S 0 4) ≤ x1 then gx_loop (n_restore_63) 5000 (0, S) else gx_ck 6 x1 (gx_let (gx_st S 7 x1.toNatClampNeg (S 12 x1.toNatClampNeg)) fun S2 => gx_let (gx_st S2 4 x1.toNatClampNeg (S2 13 x1.toNatClampNeg)) fun S4 => k23 ((x1 + 1), S4))
set_option maxRecDepth 20000 in
set_option maxHeartbeats 1000000 in
theorem bn_restore_23 {Γ : gx_T} {ι : Nat → ClassId} {a : Nat → Nat} {out : Int32 × gx_S} (hx : gx_std vwCl (gty ι) (gx_cl Γ) (gx_ty Γ)) (C : gx_ok Γ cX8_restore RX8 gx_U 0) (F : gx_finI Γ ((Option.some Jvm.ClassFile.FieldType.int)) (wM a ι) out ∧ gx_nL Γ = 2) {k23 : Int32 × gx_S → Option (Int32 × gx_S)} {x1 : Int32} {S : gx_S} (hk23 : ∀ (x17 : Int32) (S7 : gx_S), k23 (x17, S7) = some out → gx_G Γ 0 0 23 [.ref (a 0), .int x17] [] (wM a ι S7)) (h : n_restore_23 (x1, S) k23 = some out) : gx_G Γ 0 0 23 [.ref (a 0), .int x1] [] (wM a ι S) := by
  obtain ⟨F, hnL⟩ := F
  unfold n_restore_23 at h
  dsimp only at h
  refine gx_iload_1 C dX8_restore_23 rfl ?_
  refine gx_aload_0 C dX8_restore_24 rfl ?_
  refine gs_getf (q := 0) C fl_X8_98 (cls_X8 hx) lt_M_Model (oc_M_Model a ι _) rfl dX8_restore_25 ?_
  refine gx_icmp_ge (tgt := 61) C dX8_restore_28 (by decide) (fun hc6 => ?_) (fun hc6 => ?_)
  · have h := gi_t hc6 h
    refine gx_iconst0 C dX8_restore_61 ?_
    refine gx_istore_1 C dX8_restore_62 (by rw [hnL]; decide) trivial ?_
    refine gx_weak (gx_le_k rfl (gx_le_k rfl gx_le_0)) (gi_loop (P := fun t => gx_G Γ 0 0 63 [.ref (a 0), .int t.1] [] (wM a ι t.2)) (fun kk t hk h => ?_) 5000 _ h)
    obtain ⟨x19, S'9⟩ := t
    exact bn_restore_63 hx C ⟨F, hnL⟩ (k63 := kk) (fun x18 S'8 h => hk (x18, S'8) h) h
  · have h := gi_f hc6 h
    refine gx_aload_0 C dX8_restore_31 rfl ?_
    refine gs_getf (q := 0) C fl_X8_29 (cls_X8 hx) lt_M_Model (oc_M_Model a ι _) rfl dX8_restore_32 ?_
    refine gx_iload_1 C dX8_restore_35 rfl ?_
    refine gx_aload_0 C dX8_restore_36 rfl ?_
    refine gs_getf (q := 0) C fl_X8_45 (cls_X8 hx) lt_M_Model (oc_M_Model a ι _) rfl dX8_restore_37 ?_
    refine gx_iload_1 C dX8_restore_40 rfl ?_
    obtain ⟨hi1, h⟩ := gi_ck h
    refine gs_iald (q := 12) C (ac_M_M_keptPrice hx a) lt_M_M_keptPrice hi1 dX8_restore_41 ?_
    obtain ⟨S2, e3, h⟩ := gi_let h
    refine gs_iast (q := 7) C (ac_M_M_priceOf hx a) lt_M_M_priceOf hi1 e3 dX8_restore_42 ?_
    refine gx_aload_0 C dX8_restore_43 rfl ?_
    refine gs_getf (q := 0) C fl_X8_20 (cls_X8 hx) lt_M_Model (oc_M_Model a ι _) rfl dX8_restore_44 ?_
    refine gx_iload_1 C dX8_restore_47 rfl ?_
    refine gx_aload_0 C dX8_restore_48 rfl ?_
    refine gs_getf (q := 0) C fl_X8_48 (cls_X8 hx) lt_M_Model (oc_M_Model a ι _) rfl dX8_restore_49 ?_
    refine gx_iload_1 C dX8_restore_52 rfl ?_
    refine gs_iald (q := 13) C (ac_M_M_keptOwner hx a) lt_M_M_keptOwner hi1 dX8_restore_53 ?_
    obtain ⟨S4, e5, h⟩ := gi_let h
    refine gs_iast (q := 4) C (ac_M_M_ownerOf hx a) lt_M_M_ownerOf hi1 e5 dX8_restore_54 ?_
    refine gx_iinc1 C dX8_restore_55 rfl (by rw [hnL]; decide) trivial ?_
    refine gx_goto (tgt := 23) C dX8_restore_58 (by decide) ?_
    exact gx_weak (gx_le_k rfl (gx_le_k rfl gx_le_0)) (hk23 _ _ h)
def n_restore (S : gx_S) : Option (Int32 × gx_S) := if (S 0 17) = 0 then some ((-103), S) else if (S 0 19) = (S 0 4) then gx_loop (n_restore_23) 5000 (0, S) else some ((-103), S)
set_option maxRecDepth 20000 in
set_option maxHeartbeats 1000000 in
theorem cn_restore (l : Launch) (D : va_G) {cl : List vw_C} {tys : List (ClassId × FieldType)} {ι : Nat → ClassId} (hx : gx_std vwCl (gty ι) cl tys) (a : Nat → Nat) (S : gx_S) {out : Int32 × gx_S} (h : n_restore  S = some out) : gx_mI l D cl tys yX8_restore (.code yX8_restore cX8_restore 2 ((Option.some Jvm.ClassFile.FieldType.int)) :: gx_U) (gx_rm 0) [.ref (a 0)] (wM a ι S) (wM a ι) out := by
  unfold n_restore at h
  refine gx_startI (V := [.ref (a 0), .null]) 1 (by decide +kernel) (Nat.le_of_ble_eq_true rfl) rfl (fun Γ hl hD hcl hty hnL C F => ?_)
  subst hl; subst hD; subst hcl; subst hty
  refine gx_aload_0 C dX8_restore_0 rfl ?_
  refine gs_getf (q := 0) C fl_X8_277 (cls_X8 hx) lt_M_Model (oc_M_Model a ι _) rfl dX8_restore_1 ?_
  refine gx_if_eq (tgt := 18) C dX8_restore_4 (by decide) (fun hc2 => ?_) (fun hc2 => ?_)
  · have h := gi_t hc2 h
    refine gx_bipush (v := (-103)) C dX8_restore_18 (by decide) ?_
    exact gx_iret C F rfl dX8_restore_20 (Option.some.inj h)
  · have h := gi_f hc2 h
    refine gx_aload_0 C dX8_restore_7 rfl ?_
    refine gs_getf (q := 0) C fl_X8_283 (cls_X8 hx) lt_M_Model (oc_M_Model a ι _) rfl dX8_restore_8 ?_
    refine gx_aload_0 C dX8_restore_11 rfl ?_
    refine gs_getf (q := 0) C fl_X8_98 (cls_X8 hx) lt_M_Model (oc_M_Model a ι _) rfl dX8_restore_12 ?_
    refine gx_icmp_eq (tgt := 21) C dX8_restore_15 (by decide) (fun hc1 => ?_) (fun hc1 => ?_)
    · have h := gi_t hc1 h
      refine gx_iconst0 C dX8_restore_21 ?_
      refine gx_istore_1 C dX8_restore_22 (by rw [hnL]; decide) trivial ?_
      refine gx_weak (gx_le_k rfl (gx_le_k rfl gx_le_0)) (gi_loop (P := fun t => gx_G Γ 0 0 23 [.ref (a 0), .int t.1] [] (wM a ι t.2)) (fun kk t hk h => ?_) 5000 _ h)
      obtain ⟨x19, S'9⟩ := t
      exact bn_restore_23 hx C ⟨F, hnL⟩ (k23 := kk) (fun x18 S'8 h => hk (x18, S'8) h) h
    · have h := gi_f hc1 h
      refine gx_bipush (v := (-103)) C dX8_restore_18 (by decide) ?_
      exact gx_iret C F rfl dX8_restore_20 (Option.some.inj h)
def n_howMany (x1 : Int32) (S : gx_S) : Option (Int32 × gx_S) := if x1 = 0 then some (S 0 0, S) else if x1 = 1 then some (S 0 4, S) else if x1 = 2 then some (S 0 9, S) else if x1 = 3 then some (S 0 11, S) else if x1 = 4 then some (S 0 14, S) else if x1 = 5 then gx_cs (n_laySold S) fun v13 S12 => some (v13, S12) else if x1 = 6 then some (S 0 16, S) else some ((-102), S)
set_option maxRecDepth 20000 in
set_option maxHeartbeats 1000000 in
theorem cn_howMany (l : Launch) (D : va_G) {cl : List vw_C} {tys : List (ClassId × FieldType)} {ι : Nat → ClassId} (hx : gx_std vwCl (gty ι) cl tys) (a : Nat → Nat) (x1 : Int32) (S : gx_S) {out : Int32 × gx_S} (h : n_howMany x1 S = some out) : gx_mI l D cl tys yX8_howMany (.code yX8_howMany cX8_howMany 2 ((Option.some Jvm.ClassFile.FieldType.int)) :: gx_U) (gx_rm 4) [.ref (a 0), .int x1] (wM a ι S) (wM a ι) out := by
  unfold n_howMany at h
  refine gx_startI (V := [.ref (a 0), .int x1]) 0 (by decide +kernel) (Nat.le_of_ble_eq_true rfl) rfl (fun Γ hl hD hcl hty hnL C F => ?_)
  subst hl; subst hD; subst hcl; subst hty
  refine gx_iload_1 C dX8_howMany_0 rfl ?_
  by_cases hc1 : x1 = 0
  · have h := gi_t hc1 h
    refine gx_tin (tgt := 44) C dX8_howMany_1 (by rw [hc1]; decide) (by rw [hc1]; decide) (by rw [hc1]; rfl) (by decide) ?_
    refine gx_aload_0 C dX8_howMany_44 rfl ?_
    refine gs_getf (q := 0) C fl_X8_91 (cls_X8 hx) lt_M_Model (oc_M_Model a ι _) rfl dX8_howMany_45 ?_
    exact gx_iret C F rfl dX8_howMany_48 (Option.some.inj h)
  · have h := gi_f hc1 h
    by_cases hc2 : x1 = 1
    · have h := gi_t hc2 h
      refine gx_tin (tgt := 49) C dX8_howMany_1 (by rw [hc2]; decide) (by rw [hc2]; decide) (by rw [hc2]; rfl) (by decide) ?_
      refine gx_aload_0 C dX8_howMany_49 rfl ?_
      refine gs_getf (q := 0) C fl_X8_98 (cls_X8 hx) lt_M_Model (oc_M_Model a ι _) rfl dX8_howMany_50 ?_
      exact gx_iret C F rfl dX8_howMany_53 (Option.some.inj h)
    · have h := gi_f hc2 h
      by_cases hc3 : x1 = 2
      · have h := gi_t hc3 h
        refine gx_tin (tgt := 54) C dX8_howMany_1 (by rw [hc3]; decide) (by rw [hc3]; decide) (by rw [hc3]; rfl) (by decide) ?_
        refine gx_aload_0 C dX8_howMany_54 rfl ?_
        refine gs_getf (q := 0) C fl_X8_101 (cls_X8 hx) lt_M_Model (oc_M_Model a ι _) rfl dX8_howMany_55 ?_
        exact gx_iret C F rfl dX8_howMany_58 (Option.some.inj h)
      · have h := gi_f hc3 h
        by_cases hc4 : x1 = 3
        · have h := gi_t hc4 h
          refine gx_tin (tgt := 59) C dX8_howMany_1 (by rw [hc4]; decide) (by rw [hc4]; decide) (by rw [hc4]; rfl) (by decide) ?_
          refine gx_aload_0 C dX8_howMany_59 rfl ?_
          refine gs_getf (q := 0) C fl_X8_248 (cls_X8 hx) lt_M_Model (oc_M_Model a ι _) rfl dX8_howMany_60 ?_
          exact gx_iret C F rfl dX8_howMany_63 (Option.some.inj h)
        · have h := gi_f hc4 h
          by_cases hc5 : x1 = 4
          · have h := gi_t hc5 h
            refine gx_tin (tgt := 64) C dX8_howMany_1 (by rw [hc5]; decide) (by rw [hc5]; decide) (by rw [hc5]; rfl) (by decide) ?_
            refine gx_aload_0 C dX8_howMany_64 rfl ?_
            refine gs_getf (q := 0) C fl_X8_230 (cls_X8 hx) lt_M_Model (oc_M_Model a ι _) rfl dX8_howMany_65 ?_
            exact gx_iret C F rfl dX8_howMany_68 (Option.some.inj h)
          · have h := gi_f hc5 h
            by_cases hc6 : x1 = 5
            · have h := gi_t hc6 h
              refine gx_tin (tgt := 69) C dX8_howMany_1 (by rw [hc6]; decide) (by rw [hc6]; decide) (by rw [hc6]; rfl) (by decide) ?_
              refine gx_aload_0 C dX8_howMany_69 rfl ?_
              obtain ⟨v10, S9, e8, h⟩ := gi_cs h
              refine gc_IV C (cn_laySold (gx_l Γ) (gx_D Γ) hx a _ e8) (gx_cw C gx_uu lk_X8_128 (by decide) (by decide)) (cls_X8 hx).1 (gs_recv (q := 0) lt_M_Model (oc_M_Model a ι _)) rfl rfl (Nat.le_of_ble_eq_true rfl) ⟨Nat.zero_le _, Nat.zero_le _⟩ dX8_howMany_70 ?_
              exact gx_iret C F rfl dX8_howMany_73 (Option.some.inj h)
            · have h := gi_f hc6 h
              by_cases hc7 : x1 = 6
              · have h := gi_t hc7 h
                refine gx_tin (tgt := 74) C dX8_howMany_1 (by rw [hc7]; decide) (by rw [hc7]; decide) (by rw [hc7]; rfl) (by decide) ?_
                refine gx_aload_0 C dX8_howMany_74 rfl ?_
                refine gs_getf (q := 0) C fl_X8_274 (cls_X8 hx) lt_M_Model (oc_M_Model a ι _) rfl dX8_howMany_75 ?_
                exact gx_iret C F rfl dX8_howMany_78 (Option.some.inj h)
              · have h := gi_f hc7 h
                refine gx_tout (tgt := 79) C dX8_howMany_1 (by have := lv_neT hc1 (a := 0) (by decide); have := lv_neT hc2 (a := 1) (by decide); have := lv_neT hc3 (a := 2) (by decide); have := lv_neT hc4 (a := 3) (by decide); have := lv_neT hc5 (a := 4) (by decide); have := lv_neT hc6 (a := 5) (by decide); have := lv_neT hc7 (a := 6) (by decide); omega) (by decide) ?_
                refine gx_bipush (v := (-102)) C dX8_howMany_79 (by decide) ?_
                exact gx_iret C F rfl dX8_howMany_81 (Option.some.inj h)
def n_count (x1 : Int32) (S : gx_S) : Option (Int32 × gx_S) := gx_cs (n_howMany x1 S) fun v3 S2 => some (v3, S2)
set_option maxRecDepth 20000 in
set_option maxHeartbeats 1000000 in
theorem cn_count (l : Launch) (D : va_G) {cl : List vw_C} {tys : List (ClassId × FieldType)} {ι : Nat → ClassId} (hx : gx_std vwCl (gty ι) cl tys) (a : Nat → Nat) (x1 : Int32) (S : gx_S) {out : Int32 × gx_S} (h : n_count x1 S = some out) : gx_mI l D cl tys yX8_count (.code yX8_count cX8_count 2 ((Option.some Jvm.ClassFile.FieldType.int)) :: gx_U) (gx_rm 5) [.ref (a 0), .int x1] (wM a ι S) (wM a ι) out := by
  unfold n_count at h
  refine gx_startI (V := [.ref (a 0), .int x1]) 0 (by decide +kernel) (Nat.le_of_ble_eq_true rfl) rfl (fun Γ hl hD hcl hty hnL C F => ?_)
  subst hl; subst hD; subst hcl; subst hty
  refine gx_aload_0 C dX8_count_0 rfl ?_
  refine gx_iload_1 C dX8_count_1 rfl ?_
  obtain ⟨v3, S2, e1, h⟩ := gi_cs h
  refine gc_IV C (cn_howMany (gx_l Γ) (gx_D Γ) hx a _ _ e1) (gx_cw C gx_uu lk_X8_286 (by decide) (by decide)) (cls_X8 hx).1 (gs_recv (q := 0) lt_M_Model (oc_M_Model a ι _)) rfl rfl (Nat.le_of_ble_eq_true rfl) ⟨Nat.zero_le _, Nat.zero_le _⟩ dX8_count_2 ?_
  exact gx_iret C F rfl dX8_count_5 (Option.some.inj h)
def n_mix (x1 : Int64) (S : gx_S) : Option (gx_S) := gx_let (gx_stl S 0 182 (((31 : Int64) * (gx_mk (S 0 182) (S 0 183))) + x1)) fun S1 => some S1
set_option maxRecDepth 20000 in
set_option maxHeartbeats 1000000 in
theorem cn_mix (l : Launch) (D : va_G) {cl : List vw_C} {tys : List (ClassId × FieldType)} {ι : Nat → ClassId} (hx : gx_std vwCl (gty ι) cl tys) (a : Nat → Nat) (x1 : Int64) (S : gx_S) {out : gx_S} (h : n_mix x1 S = some out) : gx_mV l D cl tys yX8_mix (.code yX8_mix cX8_mix 3 ((Option.none : Option Jvm.ClassFile.FieldType)) :: gx_U) (gx_rm 0) [.ref (a 0), .long x1] (wM a ι S) (wM a ι) out := by
  unfold n_mix at h
  refine gx_startV (V := [.ref (a 0), .long x1, .null]) 0 (by decide +kernel) (Nat.le_of_ble_eq_true rfl) rfl (fun Γ hl hD hcl hty hnL C F => ?_)
  subst hl; subst hD; subst hcl; subst hty
  refine gx_aload_0 C dX8_mix_0 rfl ?_
  refine gx_ldc2 (v := 31) C dX8_mix_1 kX8_289 ?_
  refine gx_aload_0 C dX8_mix_4 rfl ?_
  refine gs_getf (q := 0) C fl_X8_291 (cls_X8 hx) lt_M_Model (oc_M_Model a ι _) rfl dX8_mix_5 ?_
  refine gx_lmul C dX8_mix_8 ?_
  refine gx_lload_1 C dX8_mix_9 rfl ?_
  refine gx_ladd C dX8_mix_10 ?_
  obtain ⟨S1, e2, h⟩ := gi_let h
  refine gs_putl (q := 0) C fl_X8_291 (cls_X8 hx) lt_M_Model (oc_M_Model a ι _) (h0 := 182) (by rw [(oc_M_Model a ι _), gx_mk_up]; rfl) rfl rfl rfl (Nat.le_of_ble_eq_true rfl) e2 dX8_mix_11 ?_
  exact gx_vret C F dX8_mix_14 (Option.some.inj h)
def n_digest_67 (k57 : Int32 × gx_S → Option (Int64 × gx_S)) (x1 : Int32) (t : Int32 × gx_S) (k67 : Int32 × gx_S → Option (Int64 × gx_S)) : Option (Int64 × gx_S) := match t with
  | (x2, S) => if 6 ≤ x2 then k57 ((x1 + 1), S) else gx_cs (n_aboutOf x1 x2 S) fun v3 S2 => gx_cp (n_mix v3.toInt64 S2) fun S5 => k67 ((x2 + 1), S5)
set_option maxRecDepth 20000 in
set_option maxHeartbeats 1000000 in
theorem bn_digest_67 {Γ : gx_T} {ι : Nat → ClassId} {a : Nat → Nat} {out : Int64 × gx_S} (hx : gx_std vwCl (gty ι) (gx_cl Γ) (gx_ty Γ)) (C : gx_ok Γ cX8_digest RX8 gx_U 6) (F : gx_finL Γ ((Option.some Jvm.ClassFile.FieldType.long)) (wM a ι) out ∧ gx_nL Γ = 4) {k57 : Int32 × gx_S → Option (Int64 × gx_S)} {k67 : Int32 × gx_S → Option (Int64 × gx_S)} {x1 : Int32} {x2 : Int32} {S : gx_S} (hk57 : ∀ (x17 : Int32) (S7 : gx_S), k57 (x17, S7) = some out → gx_G Γ 0 0 57 [.ref (a 0), .int x17, .null, .null] [] (wM a ι S7)) (hk67 : ∀ (x27 : Int32) (S7 : gx_S), k67 (x27, S7) = some out → gx_G Γ 0 0 67 [.ref (a 0), .int x1, .int x27, .null] [] (wM a ι S7)) (h : n_digest_67 k57 x1 (x2, S) k67 = some out) : gx_G Γ 0 0 67 [.ref (a 0), .int x1, .int x2, .null] [] (wM a ι S) := by
  obtain ⟨F, hnL⟩ := F
  unfold n_digest_67 at h
  dsimp only at h
  refine gx_iload_2 C dX8_digest_67 rfl ?_
  refine gx_bipush (v := 6) C dX8_digest_68 (by decide) ?_
  refine gx_icmp_ge (tgt := 90) C dX8_digest_70 (by decide) (fun hc6 => ?_) (fun hc6 => ?_)
  · have h := gi_t hc6 h
    refine gx_iinc1 C dX8_digest_90 rfl (by rw [hnL]; decide) trivial ?_
    refine gx_goto (tgt := 57) C dX8_digest_93 (by decide) ?_
    exact gx_weak (gx_le_k rfl (gx_le_k rfl (gx_le_n (gx_le_n gx_le_0)))) (hk57 _ _ h)
  · have h := gi_f hc6 h
    refine gx_aload_0 C dX8_digest_73 rfl ?_
    refine gx_aload_0 C dX8_digest_74 rfl ?_
    refine gx_iload_1 C dX8_digest_75 rfl ?_
    refine gx_iload_2 C dX8_digest_76 rfl ?_
    obtain ⟨v3, S2, e1, h⟩ := gi_cs h
    refine gc_IV C (cn_aboutOf (gx_l Γ) (gx_D Γ) hx a _ _ _ e1) (gx_cw C gx_uu lk_X8_135 (by decide) (by decide)) (cls_X8 hx).1 (gs_recv (q := 0) lt_M_Model (oc_M_Model a ι _)) rfl rfl (Nat.le_of_ble_eq_true rfl) ⟨Nat.zero_le _, Nat.zero_le _⟩ dX8_digest_77 ?_
    refine gx_i2l C dX8_digest_80 ?_
    obtain ⟨S5, e4, h⟩ := gi_cp h
    refine gc_VV C (cn_mix (gx_l Γ) (gx_D Γ) hx a _ _ e4) (gx_cw C gx_uu lk_X8_297 (by decide) (by decide)) (cls_X8 hx).1 (gs_recv (q := 0) lt_M_Model (oc_M_Model a ι _)) rfl rfl (Nat.le_of_ble_eq_true rfl) ⟨Nat.zero_le _, Nat.zero_le _⟩ dX8_digest_81 ?_
    refine gx_iinc1 C dX8_digest_84 rfl (by rw [hnL]; decide) trivial ?_
    refine gx_goto (tgt := 67) C dX8_digest_87 (by decide) ?_
    exact gx_weak (gx_le_k rfl (gx_le_k rfl (gx_le_k rfl (gx_le_n gx_le_0)))) (hk67 _ _ h)
def n_digest_108 (k98 : Int32 × gx_S → Option (Int64 × gx_S)) (x1 : Int32) (t : Int32 × gx_S) (k108 : Int32 × gx_S → Option (Int64 × gx_S)) : Option (Int64 × gx_S) := match t with
  | (x2, S) => if 6 ≤ x2 then gx_cp (n_goesTo x1 S) fun v2 => gx_cp (n_mix v2.toInt64 S) fun S4 => gx_cp (n_spareOf x1 S4) fun v6 => gx_cp (n_mix v6.toInt64 S4) fun S8 => k98 ((x1 + 1), S8) else gx_cp (n_told x1 x2 S) fun v10 => gx_cp (n_mix v10.toInt64 S) fun S12 => k108 ((x2 + 1), S12)
set_option maxRecDepth 20000 in
set_option maxHeartbeats 1000000 in
theorem bn_digest_108 {Γ : gx_T} {ι : Nat → ClassId} {a : Nat → Nat} {out : Int64 × gx_S} (hx : gx_std vwCl (gty ι) (gx_cl Γ) (gx_ty Γ)) (C : gx_ok Γ cX8_digest RX8 gx_U 6) (F : gx_finL Γ ((Option.some Jvm.ClassFile.FieldType.long)) (wM a ι) out ∧ gx_nL Γ = 4) {k98 : Int32 × gx_S → Option (Int64 × gx_S)} {k108 : Int32 × gx_S → Option (Int64 × gx_S)} {x1 : Int32} {x2 : Int32} {S : gx_S} (hk98 : ∀ (x17 : Int32) (S7 : gx_S), k98 (x17, S7) = some out → gx_G Γ 0 0 98 [.ref (a 0), .int x17, .null, .null] [] (wM a ι S7)) (hk108 : ∀ (x27 : Int32) (S7 : gx_S), k108 (x27, S7) = some out → gx_G Γ 0 0 108 [.ref (a 0), .int x1, .int x27, .null] [] (wM a ι S7)) (h : n_digest_108 k98 x1 (x2, S) k108 = some out) : gx_G Γ 0 0 108 [.ref (a 0), .int x1, .int x2, .null] [] (wM a ι S) := by
  obtain ⟨F, hnL⟩ := F
  unfold n_digest_108 at h
  dsimp only at h
  refine gx_iload_2 C dX8_digest_108 rfl ?_
  refine gx_bipush (v := 6) C dX8_digest_109 (by decide) ?_
  refine gx_icmp_ge (tgt := 131) C dX8_digest_111 (by decide) (fun hc13 => ?_) (fun hc13 => ?_)
  · have h := gi_t hc13 h
    refine gx_aload_0 C dX8_digest_131 rfl ?_
    refine gx_aload_0 C dX8_digest_132 rfl ?_
    refine gx_iload_1 C dX8_digest_133 rfl ?_
    obtain ⟨v2, e1, h⟩ := gi_cp h
    refine gc_IV C (cn_goesTo (gx_l Γ) (gx_D Γ) hx a _ _ e1) (gx_cw C gx_uu lk_X8_125 (by decide) (by decide)) (cls_X8 hx).1 (gs_recv (q := 0) lt_M_Model (oc_M_Model a ι _)) rfl rfl (Nat.le_of_ble_eq_true rfl) ⟨Nat.zero_le _, Nat.zero_le _⟩ dX8_digest_134 ?_
    refine gx_i2l C dX8_digest_137 ?_
    obtain ⟨S4, e3, h⟩ := gi_cp h
    refine gc_VV C (cn_mix (gx_l Γ) (gx_D Γ) hx a _ _ e3) (gx_cw C gx_uu lk_X8_297 (by decide) (by decide)) (cls_X8 hx).1 (gs_recv (q := 0) lt_M_Model (oc_M_Model a ι _)) rfl rfl (Nat.le_of_ble_eq_true rfl) ⟨Nat.zero_le _, Nat.zero_le _⟩ dX8_digest_138 ?_
    refine gx_aload_0 C dX8_digest_141 rfl ?_
    refine gx_aload_0 C dX8_digest_142 rfl ?_
    refine gx_iload_1 C dX8_digest_143 rfl ?_
    obtain ⟨v6, e5, h⟩ := gi_cp h
    refine gc_IV C (cn_spareOf (gx_l Γ) (gx_D Γ) hx a _ _ e5) (gx_cw C gx_uu lk_X8_141 (by decide) (by decide)) (cls_X8 hx).1 (gs_recv (q := 0) lt_M_Model (oc_M_Model a ι _)) rfl rfl (Nat.le_of_ble_eq_true rfl) ⟨Nat.zero_le _, Nat.zero_le _⟩ dX8_digest_144 ?_
    refine gx_i2l C dX8_digest_147 ?_
    obtain ⟨S8, e7, h⟩ := gi_cp h
    refine gc_VV C (cn_mix (gx_l Γ) (gx_D Γ) hx a _ _ e7) (gx_cw C gx_uu lk_X8_297 (by decide) (by decide)) (cls_X8 hx).1 (gs_recv (q := 0) lt_M_Model (oc_M_Model a ι _)) rfl rfl (Nat.le_of_ble_eq_true rfl) ⟨Nat.zero_le _, Nat.zero_le _⟩ dX8_digest_148 ?_
    refine gx_iinc1 C dX8_digest_151 rfl (by rw [hnL]; decide) trivial ?_
    refine gx_goto (tgt := 98) C dX8_digest_154 (by decide) ?_
    exact gx_weak (gx_le_k rfl (gx_le_k rfl (gx_le_n (gx_le_n gx_le_0)))) (hk98 _ _ h)
  · have h := gi_f hc13 h
    refine gx_aload_0 C dX8_digest_114 rfl ?_
    refine gx_aload_0 C dX8_digest_115 rfl ?_
    refine gx_iload_1 C dX8_digest_116 rfl ?_
    refine gx_iload_2 C dX8_digest_117 rfl ?_
    obtain ⟨v10, e9, h⟩ := gi_cp h
    refine gc_IV C (cn_told (gx_l Γ) (gx_D Γ) hx a _ _ _ e9) (gx_cw C gx_uu lk_X8_112 (by decide) (by decide)) (cls_X8 hx).1 (gs_recv (q := 0) lt_M_Model (oc_M_Model a ι _)) rfl rfl (Nat.le_of_ble_eq_true rfl) ⟨Nat.zero_le _, Nat.zero_le _⟩ dX8_digest_118 ?_
    refine gx_i2l C dX8_digest_121 ?_
    obtain ⟨S12, e11, h⟩ := gi_cp h
    refine gc_VV C (cn_mix (gx_l Γ) (gx_D Γ) hx a _ _ e11) (gx_cw C gx_uu lk_X8_297 (by decide) (by decide)) (cls_X8 hx).1 (gs_recv (q := 0) lt_M_Model (oc_M_Model a ι _)) rfl rfl (Nat.le_of_ble_eq_true rfl) ⟨Nat.zero_le _, Nat.zero_le _⟩ dX8_digest_122 ?_
    refine gx_iinc1 C dX8_digest_125 rfl (by rw [hnL]; decide) trivial ?_
    refine gx_goto (tgt := 108) C dX8_digest_128 (by decide) ?_
    exact gx_weak (gx_le_k rfl (gx_le_k rfl (gx_le_k rfl (gx_le_n gx_le_0)))) (hk108 _ _ h)
def n_digest_205 (k159 : Int32 × gx_S → Option (Int64 × gx_S)) (k169 : Int32 × gx_S → Option (Int64 × gx_S)) (k181 : Int32 × gx_S → Option (Int64 × gx_S)) (x1 : Int32) (x2 : Int32) (x3 : Int32) (s1 : Int64) (S : gx_S) : Option (Int64 × gx_S) := gx_cp (n_mix s1 S) fun S2 => k181 ((x3 + 1), S2)
set_option maxRecDepth 20000 in
set_option maxHeartbeats 1000000 in
theorem bn_digest_205 {Γ : gx_T} {ι : Nat → ClassId} {a : Nat → Nat} {out : Int64 × gx_S} (hx : gx_std vwCl (gty ι) (gx_cl Γ) (gx_ty Γ)) (C : gx_ok Γ cX8_digest RX8 gx_U 6) (F : gx_finL Γ ((Option.some Jvm.ClassFile.FieldType.long)) (wM a ι) out ∧ gx_nL Γ = 4) {k159 : Int32 × gx_S → Option (Int64 × gx_S)} {k169 : Int32 × gx_S → Option (Int64 × gx_S)} {k181 : Int32 × gx_S → Option (Int64 × gx_S)} {x1 : Int32} {x2 : Int32} {x3 : Int32} {s1 : Int64} {S : gx_S} (hk159 : ∀ (x17 : Int32) (S7 : gx_S), k159 (x17, S7) = some out → gx_G Γ 0 0 159 [.ref (a 0), .int x17, .null, .null] [] (wM a ι S7)) (hk169 : ∀ (x27 : Int32) (S7 : gx_S), k169 (x27, S7) = some out → gx_G Γ 0 0 169 [.ref (a 0), .int x1, .int x27, .null] [] (wM a ι S7)) (hk181 : ∀ (x37 : Int32) (S7 : gx_S), k181 (x37, S7) = some out → gx_G Γ 0 0 181 [.ref (a 0), .int x1, .int x2, .int x37] [] (wM a ι S7)) (h : n_digest_205 k159 k169 k181 x1 x2 x3 s1 S = some out) : gx_G Γ 0 0 205 [.ref (a 0), .int x1, .int x2, .int x3] [.long s1, .ref (a 0)] (wM a ι S) := by
  obtain ⟨F, hnL⟩ := F
  unfold n_digest_205 at h
  obtain ⟨S2, e1, h⟩ := gi_cp h
  refine gc_VV C (cn_mix (gx_l Γ) (gx_D Γ) hx a _ _ e1) (gx_cw C gx_uu lk_X8_297 (by decide) (by decide)) (cls_X8 hx).1 (gs_recv (q := 0) lt_M_Model (oc_M_Model a ι _)) rfl rfl (Nat.le_of_ble_eq_true rfl) ⟨Nat.zero_le _, Nat.zero_le _⟩ dX8_digest_205 ?_
  refine gx_iinc1 C dX8_digest_208 rfl (by rw [hnL]; decide) trivial ?_
  refine gx_goto (tgt := 181) C dX8_digest_211 (by decide) ?_
  exact gx_weak (gx_le_k rfl (gx_le_k rfl (gx_le_k rfl (gx_le_k rfl gx_le_0)))) (hk181 _ _ h)
def n_digest_181 (k159 : Int32 × gx_S → Option (Int64 × gx_S)) (k169 : Int32 × gx_S → Option (Int64 × gx_S)) (x1 : Int32) (x2 : Int32) (t : Int32 × gx_S) (k181 : Int32 × gx_S → Option (Int64 × gx_S)) : Option (Int64 × gx_S) := match t with
  | (x3, S) => if (S 0 0) ≤ x3 then k169 ((x2 + 1), S) else gx_cs (n_barsNow x1 x2 x3 S) fun v3 S2 => if v3 = 0 then n_digest_205 k159 k169 k181 x1 x2 x3 0 S2 else n_digest_205 k159 k169 k181 x1 x2 x3 1 S2
set_option maxRecDepth 20000 in
set_option maxHeartbeats 1000000 in
theorem bn_digest_181 {Γ : gx_T} {ι : Nat → ClassId} {a : Nat → Nat} {out : Int64 × gx_S} (hx : gx_std vwCl (gty ι) (gx_cl Γ) (gx_ty Γ)) (C : gx_ok Γ cX8_digest RX8 gx_U 6) (F : gx_finL Γ ((Option.some Jvm.ClassFile.FieldType.long)) (wM a ι) out ∧ gx_nL Γ = 4) {k159 : Int32 × gx_S → Option (Int64 × gx_S)} {k169 : Int32 × gx_S → Option (Int64 × gx_S)} {k181 : Int32 × gx_S → Option (Int64 × gx_S)} {x1 : Int32} {x2 : Int32} {x3 : Int32} {S : gx_S} (hk159 : ∀ (x17 : Int32) (S7 : gx_S), k159 (x17, S7) = some out → gx_G Γ 0 0 159 [.ref (a 0), .int x17, .null, .null] [] (wM a ι S7)) (hk169 : ∀ (x27 : Int32) (S7 : gx_S), k169 (x27, S7) = some out → gx_G Γ 0 0 169 [.ref (a 0), .int x1, .int x27, .null] [] (wM a ι S7)) (hk181 : ∀ (x37 : Int32) (S7 : gx_S), k181 (x37, S7) = some out → gx_G Γ 0 0 181 [.ref (a 0), .int x1, .int x2, .int x37] [] (wM a ι S7)) (h : n_digest_181 k159 k169 x1 x2 (x3, S) k181 = some out) : gx_G Γ 0 0 181 [.ref (a 0), .int x1, .int x2, .int x3] [] (wM a ι S) := by
  obtain ⟨F, hnL⟩ := F
  unfold n_digest_181 at h
  dsimp only at h
  refine gx_iload_3 C dX8_digest_181 rfl ?_
  refine gx_aload_0 C dX8_digest_182 rfl ?_
  refine gs_getf (q := 0) C fl_X8_91 (cls_X8 hx) lt_M_Model (oc_M_Model a ι _) rfl dX8_digest_183 ?_
  refine gx_icmp_ge (tgt := 214) C dX8_digest_186 (by decide) (fun hc5 => ?_) (fun hc5 => ?_)
  · have h := gi_t hc5 h
    refine gx_iinc1 C dX8_digest_214 rfl (by rw [hnL]; decide) trivial ?_
    refine gx_goto (tgt := 169) C dX8_digest_217 (by decide) ?_
    exact gx_weak (gx_le_k rfl (gx_le_k rfl (gx_le_k rfl (gx_le_n gx_le_0)))) (hk169 _ _ h)
  · have h := gi_f hc5 h
    refine gx_aload_0 C dX8_digest_189 rfl ?_
    refine gx_aload_0 C dX8_digest_190 rfl ?_
    refine gx_iload_1 C dX8_digest_191 rfl ?_
    refine gx_iload_2 C dX8_digest_192 rfl ?_
    refine gx_iload_3 C dX8_digest_193 rfl ?_
    obtain ⟨v3, S2, e1, h⟩ := gi_cs h
    refine gc_IV C (cn_barsNow (gx_l Γ) (gx_D Γ) hx a _ _ _ _ e1) (gx_cw C gx_uu lk_X8_271 (by decide) (by decide)) (cls_X8 hx).1 (gs_recv (q := 0) lt_M_Model (oc_M_Model a ι _)) rfl rfl (Nat.le_of_ble_eq_true rfl) ⟨Nat.zero_le _, Nat.zero_le _⟩ dX8_digest_194 ?_
    refine gx_if_eq (tgt := 204) C dX8_digest_197 (by decide) (fun hc4 => ?_) (fun hc4 => ?_)
    · have h := gi_t hc4 h
      refine gx_lconst0 C dX8_digest_204 ?_
      exact gx_weak (gx_le_k rfl (gx_le_k rfl (gx_le_k rfl (gx_le_k rfl gx_le_0)))) (bn_digest_205 hx C ⟨F, hnL⟩ hk159 hk169 hk181 h)
    · have h := gi_f hc4 h
      refine gx_lconst1 C dX8_digest_200 ?_
      refine gx_goto (tgt := 205) C dX8_digest_201 (by decide) ?_
      exact gx_weak (gx_le_k rfl (gx_le_k rfl (gx_le_k rfl (gx_le_k rfl gx_le_0)))) (bn_digest_205 hx C ⟨F, hnL⟩ hk159 hk169 hk181 h)
def n_digest_169 (k159 : Int32 × gx_S → Option (Int64 × gx_S)) (x1 : Int32) (t : Int32 × gx_S) (k169 : Int32 × gx_S → Option (Int64 × gx_S)) : Option (Int64 × gx_S) := match t with
  | (x2, S) => if (S 0 0) ≤ x2 then k159 ((x1 + 1), S) else gx_loop (n_digest_181 k159 k169 x1 x2) 5000 ((x2 + (1 : Int32)), S)
set_option maxRecDepth 20000 in
set_option maxHeartbeats 1000000 in
theorem bn_digest_169 {Γ : gx_T} {ι : Nat → ClassId} {a : Nat → Nat} {out : Int64 × gx_S} (hx : gx_std vwCl (gty ι) (gx_cl Γ) (gx_ty Γ)) (C : gx_ok Γ cX8_digest RX8 gx_U 6) (F : gx_finL Γ ((Option.some Jvm.ClassFile.FieldType.long)) (wM a ι) out ∧ gx_nL Γ = 4) {k159 : Int32 × gx_S → Option (Int64 × gx_S)} {k169 : Int32 × gx_S → Option (Int64 × gx_S)} {x1 : Int32} {x2 : Int32} {S : gx_S} (hk159 : ∀ (x17 : Int32) (S7 : gx_S), k159 (x17, S7) = some out → gx_G Γ 0 0 159 [.ref (a 0), .int x17, .null, .null] [] (wM a ι S7)) (hk169 : ∀ (x27 : Int32) (S7 : gx_S), k169 (x27, S7) = some out → gx_G Γ 0 0 169 [.ref (a 0), .int x1, .int x27, .null] [] (wM a ι S7)) (h : n_digest_169 k159 x1 (x2, S) k169 = some out) : gx_G Γ 0 0 169 [.ref (a 0), .int x1, .int x2, .null] [] (wM a ι S) := by
  obtain ⟨F, hnL⟩ := F
  unfold n_digest_169 at h
  dsimp only at h
  refine gx_iload_2 C dX8_digest_169 rfl ?_
  refine gx_aload_0 C dX8_digest_170 rfl ?_
  refine gs_getf (q := 0) C fl_X8_91 (cls_X8 hx) lt_M_Model (oc_M_Model a ι _) rfl dX8_digest_171 ?_
  refine gx_icmp_ge (tgt := 220) C dX8_digest_174 (by decide) (fun hc1 => ?_) (fun hc1 => ?_)
  · have h := gi_t hc1 h
    refine gx_iinc1 C dX8_digest_220 rfl (by rw [hnL]; decide) trivial ?_
    refine gx_goto (tgt := 159) C dX8_digest_223 (by decide) ?_
    exact gx_weak (gx_le_k rfl (gx_le_k rfl (gx_le_n (gx_le_n gx_le_0)))) (hk159 _ _ h)
  · have h := gi_f hc1 h
    refine gx_iload_2 C dX8_digest_177 rfl ?_
    refine gx_iconst1 C dX8_digest_178 ?_
    refine gx_iadd C dX8_digest_179 ?_
    refine gx_istore_3 C dX8_digest_180 (by rw [hnL]; decide) trivial ?_
    refine gx_weak (gx_le_k rfl (gx_le_k rfl (gx_le_k rfl (gx_le_k rfl gx_le_0)))) (gi_loop (P := fun t => gx_G Γ 0 0 181 [.ref (a 0), .int x1, .int x2, .int t.1] [] (wM a ι t.2)) (fun kk t hk h => ?_) 5000 _ h)
    obtain ⟨x39, S'9⟩ := t
    exact bn_digest_181 hx C ⟨F, hnL⟩ hk159 hk169 (k181 := kk) (fun x38 S'8 h => hk (x38, S'8) h) h
def n_digest_255 (t : Int32 × gx_S) (k255 : Int32 × gx_S → Option (Int64 × gx_S)) : Option (Int64 × gx_S) := match t with
  | (x1, S) => if 7 ≤ x1 then some (gx_mk (S 0 182) (S 0 183), S) else gx_cs (n_howMany x1 S) fun v3 S2 => gx_cp (n_mix v3.toInt64 S2) fun S5 => k255 ((x1 + 1), S5)
set_option maxRecDepth 20000 in
set_option maxHeartbeats 1000000 in
theorem bn_digest_255 {Γ : gx_T} {ι : Nat → ClassId} {a : Nat → Nat} {out : Int64 × gx_S} (hx : gx_std vwCl (gty ι) (gx_cl Γ) (gx_ty Γ)) (C : gx_ok Γ cX8_digest RX8 gx_U 6) (F : gx_finL Γ ((Option.some Jvm.ClassFile.FieldType.long)) (wM a ι) out ∧ gx_nL Γ = 4) {k255 : Int32 × gx_S → Option (Int64 × gx_S)} {x1 : Int32} {S : gx_S} (hk255 : ∀ (x17 : Int32) (S7 : gx_S), k255 (x17, S7) = some out → gx_G Γ 0 0 255 [.ref (a 0), .int x17, .null, .null] [] (wM a ι S7)) (h : n_digest_255 (x1, S) k255 = some out) : gx_G Γ 0 0 255 [.ref (a 0), .int x1, .null, .null] [] (wM a ι S) := by
  obtain ⟨F, hnL⟩ := F
  unfold n_digest_255 at h
  dsimp only at h
  refine gx_iload_1 C dX8_digest_255 rfl ?_
  refine gx_bipush (v := 7) C dX8_digest_256 (by decide) ?_
  refine gx_icmp_ge (tgt := 277) C dX8_digest_258 (by decide) (fun hc6 => ?_) (fun hc6 => ?_)
  · have h := gi_t hc6 h
    refine gx_aload_0 C dX8_digest_277 rfl ?_
    refine gs_getf (q := 0) C fl_X8_291 (cls_X8 hx) lt_M_Model (oc_M_Model a ι _) rfl dX8_digest_278 ?_
    exact gx_lret C F dX8_digest_281 (Option.some.inj h)
  · have h := gi_f hc6 h
    refine gx_aload_0 C dX8_digest_261 rfl ?_
    refine gx_aload_0 C dX8_digest_262 rfl ?_
    refine gx_iload_1 C dX8_digest_263 rfl ?_
    obtain ⟨v3, S2, e1, h⟩ := gi_cs h
    refine gc_IV C (cn_howMany (gx_l Γ) (gx_D Γ) hx a _ _ e1) (gx_cw C gx_uu lk_X8_286 (by decide) (by decide)) (cls_X8 hx).1 (gs_recv (q := 0) lt_M_Model (oc_M_Model a ι _)) rfl rfl (Nat.le_of_ble_eq_true rfl) ⟨Nat.zero_le _, Nat.zero_le _⟩ dX8_digest_264 ?_
    refine gx_i2l C dX8_digest_267 ?_
    obtain ⟨S5, e4, h⟩ := gi_cp h
    refine gc_VV C (cn_mix (gx_l Γ) (gx_D Γ) hx a _ _ e4) (gx_cw C gx_uu lk_X8_297 (by decide) (by decide)) (cls_X8 hx).1 (gs_recv (q := 0) lt_M_Model (oc_M_Model a ι _)) rfl rfl (Nat.le_of_ble_eq_true rfl) ⟨Nat.zero_le _, Nat.zero_le _⟩ dX8_digest_268 ?_
    refine gx_iinc1 C dX8_digest_271 rfl (by rw [hnL]; decide) trivial ?_
    refine gx_goto (tgt := 255) C dX8_digest_274 (by decide) ?_
    exact gx_weak (gx_le_k rfl (gx_le_k rfl (gx_le_n (gx_le_n gx_le_0)))) (hk255 _ _ h)
def n_digest_228 (t : Int32 × gx_S) (k228 : Int32 × gx_S → Option (Int64 × gx_S)) : Option (Int64 × gx_S) := match t with
  | (x1, S) => if (S 0 14) ≤ x1 then gx_loop (n_digest_255) 5000 (0, S) else gx_ck 50 x1 (gx_cp (n_mix ((S 11 x1.toNatClampNeg).toInt64) S) fun S3 => k228 ((x1 + 1), S3))
set_option maxRecDepth 20000 in
set_option maxHeartbeats 1000000 in
theorem bn_digest_228 {Γ : gx_T} {ι : Nat → ClassId} {a : Nat → Nat} {out : Int64 × gx_S} (hx : gx_std vwCl (gty ι) (gx_cl Γ) (gx_ty Γ)) (C : gx_ok Γ cX8_digest RX8 gx_U 6) (F : gx_finL Γ ((Option.some Jvm.ClassFile.FieldType.long)) (wM a ι) out ∧ gx_nL Γ = 4) {k228 : Int32 × gx_S → Option (Int64 × gx_S)} {x1 : Int32} {S : gx_S} (hk228 : ∀ (x17 : Int32) (S7 : gx_S), k228 (x17, S7) = some out → gx_G Γ 0 0 228 [.ref (a 0), .int x17, .null, .null] [] (wM a ι S7)) (h : n_digest_228 (x1, S) k228 = some out) : gx_G Γ 0 0 228 [.ref (a 0), .int x1, .null, .null] [] (wM a ι S) := by
  obtain ⟨F, hnL⟩ := F
  unfold n_digest_228 at h
  dsimp only at h
  refine gx_iload_1 C dX8_digest_228 rfl ?_
  refine gx_aload_0 C dX8_digest_229 rfl ?_
  refine gs_getf (q := 0) C fl_X8_230 (cls_X8 hx) lt_M_Model (oc_M_Model a ι _) rfl dX8_digest_230 ?_
  refine gx_icmp_ge (tgt := 253) C dX8_digest_233 (by decide) (fun hc4 => ?_) (fun hc4 => ?_)
  · have h := gi_t hc4 h
    refine gx_iconst0 C dX8_digest_253 ?_
    refine gx_istore_1 C dX8_digest_254 (by rw [hnL]; decide) trivial ?_
    refine gx_weak (gx_le_k rfl (gx_le_k rfl (gx_le_n (gx_le_n gx_le_0)))) (gi_loop (P := fun t => gx_G Γ 0 0 255 [.ref (a 0), .int t.1, .null, .null] [] (wM a ι t.2)) (fun kk t hk h => ?_) 5000 _ h)
    obtain ⟨x19, S'9⟩ := t
    exact bn_digest_255 hx C ⟨F, hnL⟩ (k255 := kk) (fun x18 S'8 h => hk (x18, S'8) h) h
  · have h := gi_f hc4 h
    refine gx_aload_0 C dX8_digest_236 rfl ?_
    refine gx_aload_0 C dX8_digest_237 rfl ?_
    refine gs_getf (q := 0) C fl_X8_42 (cls_X8 hx) lt_M_Model (oc_M_Model a ι _) rfl dX8_digest_238 ?_
    refine gx_iload_1 C dX8_digest_241 rfl ?_
    obtain ⟨hi1, h⟩ := gi_ck h
    refine gs_bald (q := 11) C (ac_M_M_page hx a) lt_M_M_page hi1 dX8_digest_242 ?_
    refine gx_i2l C dX8_digest_243 ?_
    obtain ⟨S3, e2, h⟩ := gi_cp h
    refine gc_VV C (cn_mix (gx_l Γ) (gx_D Γ) hx a _ _ e2) (gx_cw C gx_uu lk_X8_297 (by decide) (by decide)) (cls_X8 hx).1 (gs_recv (q := 0) lt_M_Model (oc_M_Model a ι _)) rfl rfl (Nat.le_of_ble_eq_true rfl) ⟨Nat.zero_le _, Nat.zero_le _⟩ dX8_digest_244 ?_
    refine gx_iinc1 C dX8_digest_247 rfl (by rw [hnL]; decide) trivial ?_
    refine gx_goto (tgt := 228) C dX8_digest_250 (by decide) ?_
    exact gx_weak (gx_le_k rfl (gx_le_k rfl (gx_le_n (gx_le_n gx_le_0)))) (hk228 _ _ h)
def n_digest_159 (t : Int32 × gx_S) (k159 : Int32 × gx_S → Option (Int64 × gx_S)) : Option (Int64 × gx_S) := match t with
  | (x1, S) => if (S 0 11) ≤ x1 then gx_loop (n_digest_228) 5000 (0, S) else gx_loop (n_digest_169 k159 x1) 5000 (0, S)
set_option maxRecDepth 20000 in
set_option maxHeartbeats 1000000 in
theorem bn_digest_159 {Γ : gx_T} {ι : Nat → ClassId} {a : Nat → Nat} {out : Int64 × gx_S} (hx : gx_std vwCl (gty ι) (gx_cl Γ) (gx_ty Γ)) (C : gx_ok Γ cX8_digest RX8 gx_U 6) (F : gx_finL Γ ((Option.some Jvm.ClassFile.FieldType.long)) (wM a ι) out ∧ gx_nL Γ = 4) {k159 : Int32 × gx_S → Option (Int64 × gx_S)} {x1 : Int32} {S : gx_S} (hk159 : ∀ (x17 : Int32) (S7 : gx_S), k159 (x17, S7) = some out → gx_G Γ 0 0 159 [.ref (a 0), .int x17, .null, .null] [] (wM a ι S7)) (h : n_digest_159 (x1, S) k159 = some out) : gx_G Γ 0 0 159 [.ref (a 0), .int x1, .null, .null] [] (wM a ι S) := by
  obtain ⟨F, hnL⟩ := F
  unfold n_digest_159 at h
  dsimp only at h
  refine gx_iload_1 C dX8_digest_159 rfl ?_
  refine gx_aload_0 C dX8_digest_160 rfl ?_
  refine gs_getf (q := 0) C fl_X8_248 (cls_X8 hx) lt_M_Model (oc_M_Model a ι _) rfl dX8_digest_161 ?_
  refine gx_icmp_ge (tgt := 226) C dX8_digest_164 (by decide) (fun hc1 => ?_) (fun hc1 => ?_)
  · have h := gi_t hc1 h
    refine gx_iconst0 C dX8_digest_226 ?_
    refine gx_istore_1 C dX8_digest_227 (by rw [hnL]; decide) trivial ?_
    refine gx_weak (gx_le_k rfl (gx_le_k rfl (gx_le_n (gx_le_n gx_le_0)))) (gi_loop (P := fun t => gx_G Γ 0 0 228 [.ref (a 0), .int t.1, .null, .null] [] (wM a ι t.2)) (fun kk t hk h => ?_) 5000 _ h)
    obtain ⟨x19, S'9⟩ := t
    exact bn_digest_228 hx C ⟨F, hnL⟩ (k228 := kk) (fun x18 S'8 h => hk (x18, S'8) h) h
  · have h := gi_f hc1 h
    refine gx_iconst0 C dX8_digest_167 ?_
    refine gx_istore_2 C dX8_digest_168 (by rw [hnL]; decide) trivial ?_
    refine gx_weak (gx_le_k rfl (gx_le_k rfl (gx_le_k rfl (gx_le_n gx_le_0)))) (gi_loop (P := fun t => gx_G Γ 0 0 169 [.ref (a 0), .int x1, .int t.1, .null] [] (wM a ι t.2)) (fun kk t hk h => ?_) 5000 _ h)
    obtain ⟨x29, S'9⟩ := t
    exact bn_digest_169 hx C ⟨F, hnL⟩ hk159 (k169 := kk) (fun x28 S'8 h => hk (x28, S'8) h) h
def n_digest_98 (t : Int32 × gx_S) (k98 : Int32 × gx_S → Option (Int64 × gx_S)) : Option (Int64 × gx_S) := match t with
  | (x1, S) => if (S 0 9) ≤ x1 then gx_loop (n_digest_159) 5000 (0, S) else gx_loop (n_digest_108 k98 x1) 5000 (0, S)
set_option maxRecDepth 20000 in
set_option maxHeartbeats 1000000 in
theorem bn_digest_98 {Γ : gx_T} {ι : Nat → ClassId} {a : Nat → Nat} {out : Int64 × gx_S} (hx : gx_std vwCl (gty ι) (gx_cl Γ) (gx_ty Γ)) (C : gx_ok Γ cX8_digest RX8 gx_U 6) (F : gx_finL Γ ((Option.some Jvm.ClassFile.FieldType.long)) (wM a ι) out ∧ gx_nL Γ = 4) {k98 : Int32 × gx_S → Option (Int64 × gx_S)} {x1 : Int32} {S : gx_S} (hk98 : ∀ (x17 : Int32) (S7 : gx_S), k98 (x17, S7) = some out → gx_G Γ 0 0 98 [.ref (a 0), .int x17, .null, .null] [] (wM a ι S7)) (h : n_digest_98 (x1, S) k98 = some out) : gx_G Γ 0 0 98 [.ref (a 0), .int x1, .null, .null] [] (wM a ι S) := by
  obtain ⟨F, hnL⟩ := F
  unfold n_digest_98 at h
  dsimp only at h
  refine gx_iload_1 C dX8_digest_98 rfl ?_
  refine gx_aload_0 C dX8_digest_99 rfl ?_
  refine gs_getf (q := 0) C fl_X8_101 (cls_X8 hx) lt_M_Model (oc_M_Model a ι _) rfl dX8_digest_100 ?_
  refine gx_icmp_ge (tgt := 157) C dX8_digest_103 (by decide) (fun hc1 => ?_) (fun hc1 => ?_)
  · have h := gi_t hc1 h
    refine gx_iconst0 C dX8_digest_157 ?_
    refine gx_istore_1 C dX8_digest_158 (by rw [hnL]; decide) trivial ?_
    refine gx_weak (gx_le_k rfl (gx_le_k rfl (gx_le_n (gx_le_n gx_le_0)))) (gi_loop (P := fun t => gx_G Γ 0 0 159 [.ref (a 0), .int t.1, .null, .null] [] (wM a ι t.2)) (fun kk t hk h => ?_) 5000 _ h)
    obtain ⟨x19, S'9⟩ := t
    exact bn_digest_159 hx C ⟨F, hnL⟩ (k159 := kk) (fun x18 S'8 h => hk (x18, S'8) h) h
  · have h := gi_f hc1 h
    refine gx_iconst0 C dX8_digest_106 ?_
    refine gx_istore_2 C dX8_digest_107 (by rw [hnL]; decide) trivial ?_
    refine gx_weak (gx_le_k rfl (gx_le_k rfl (gx_le_k rfl (gx_le_n gx_le_0)))) (gi_loop (P := fun t => gx_G Γ 0 0 108 [.ref (a 0), .int x1, .int t.1, .null] [] (wM a ι t.2)) (fun kk t hk h => ?_) 5000 _ h)
    obtain ⟨x29, S'9⟩ := t
    exact bn_digest_108 hx C ⟨F, hnL⟩ hk98 (k108 := kk) (fun x28 S'8 h => hk (x28, S'8) h) h
def n_digest_57 (t : Int32 × gx_S) (k57 : Int32 × gx_S → Option (Int64 × gx_S)) : Option (Int64 × gx_S) := match t with
  | (x1, S) => if (S 0 4) ≤ x1 then gx_loop (n_digest_98) 5000 (0, S) else gx_loop (n_digest_67 k57 x1) 5000 (0, S)
set_option maxRecDepth 20000 in
set_option maxHeartbeats 1000000 in
theorem bn_digest_57 {Γ : gx_T} {ι : Nat → ClassId} {a : Nat → Nat} {out : Int64 × gx_S} (hx : gx_std vwCl (gty ι) (gx_cl Γ) (gx_ty Γ)) (C : gx_ok Γ cX8_digest RX8 gx_U 6) (F : gx_finL Γ ((Option.some Jvm.ClassFile.FieldType.long)) (wM a ι) out ∧ gx_nL Γ = 4) {k57 : Int32 × gx_S → Option (Int64 × gx_S)} {x1 : Int32} {S : gx_S} (hk57 : ∀ (x17 : Int32) (S7 : gx_S), k57 (x17, S7) = some out → gx_G Γ 0 0 57 [.ref (a 0), .int x17, .null, .null] [] (wM a ι S7)) (h : n_digest_57 (x1, S) k57 = some out) : gx_G Γ 0 0 57 [.ref (a 0), .int x1, .null, .null] [] (wM a ι S) := by
  obtain ⟨F, hnL⟩ := F
  unfold n_digest_57 at h
  dsimp only at h
  refine gx_iload_1 C dX8_digest_57 rfl ?_
  refine gx_aload_0 C dX8_digest_58 rfl ?_
  refine gs_getf (q := 0) C fl_X8_98 (cls_X8 hx) lt_M_Model (oc_M_Model a ι _) rfl dX8_digest_59 ?_
  refine gx_icmp_ge (tgt := 96) C dX8_digest_62 (by decide) (fun hc1 => ?_) (fun hc1 => ?_)
  · have h := gi_t hc1 h
    refine gx_iconst0 C dX8_digest_96 ?_
    refine gx_istore_1 C dX8_digest_97 (by rw [hnL]; decide) trivial ?_
    refine gx_weak (gx_le_k rfl (gx_le_k rfl (gx_le_n (gx_le_n gx_le_0)))) (gi_loop (P := fun t => gx_G Γ 0 0 98 [.ref (a 0), .int t.1, .null, .null] [] (wM a ι t.2)) (fun kk t hk h => ?_) 5000 _ h)
    obtain ⟨x19, S'9⟩ := t
    exact bn_digest_98 hx C ⟨F, hnL⟩ (k98 := kk) (fun x18 S'8 h => hk (x18, S'8) h) h
  · have h := gi_f hc1 h
    refine gx_iconst0 C dX8_digest_65 ?_
    refine gx_istore_2 C dX8_digest_66 (by rw [hnL]; decide) trivial ?_
    refine gx_weak (gx_le_k rfl (gx_le_k rfl (gx_le_k rfl (gx_le_n gx_le_0)))) (gi_loop (P := fun t => gx_G Γ 0 0 67 [.ref (a 0), .int x1, .int t.1, .null] [] (wM a ι t.2)) (fun kk t hk h => ?_) 5000 _ h)
    obtain ⟨x29, S'9⟩ := t
    exact bn_digest_67 hx C ⟨F, hnL⟩ hk57 (k67 := kk) (fun x28 S'8 h => hk (x28, S'8) h) h
def n_digest_9 (t : Int32 × gx_S) (k9 : Int32 × gx_S → Option (Int64 × gx_S)) : Option (Int64 × gx_S) := match t with
  | (x1, S) => if (S 0 0) ≤ x1 then gx_loop (n_digest_57) 5000 (0, S) else gx_ck 6 x1 (gx_cp (n_mix ((S 1 x1.toNatClampNeg).toInt64) S) fun S3 => gx_cp (n_mix ((S3 2 x1.toNatClampNeg).toInt64) S3) fun S5 => gx_cs (n_profitOf x1 S5) fun v8 S7 => gx_cp (n_mix v8.toInt64 S7) fun S10 => k9 ((x1 + 1), S10))
set_option maxRecDepth 20000 in
set_option maxHeartbeats 1000000 in
theorem bn_digest_9 {Γ : gx_T} {ι : Nat → ClassId} {a : Nat → Nat} {out : Int64 × gx_S} (hx : gx_std vwCl (gty ι) (gx_cl Γ) (gx_ty Γ)) (C : gx_ok Γ cX8_digest RX8 gx_U 6) (F : gx_finL Γ ((Option.some Jvm.ClassFile.FieldType.long)) (wM a ι) out ∧ gx_nL Γ = 4) {k9 : Int32 × gx_S → Option (Int64 × gx_S)} {x1 : Int32} {S : gx_S} (hk9 : ∀ (x17 : Int32) (S7 : gx_S), k9 (x17, S7) = some out → gx_G Γ 0 0 9 [.ref (a 0), .int x17, .null, .null] [] (wM a ι S7)) (h : n_digest_9 (x1, S) k9 = some out) : gx_G Γ 0 0 9 [.ref (a 0), .int x1, .null, .null] [] (wM a ι S) := by
  obtain ⟨F, hnL⟩ := F
  unfold n_digest_9 at h
  dsimp only at h
  refine gx_iload_1 C dX8_digest_9 rfl ?_
  refine gx_aload_0 C dX8_digest_10 rfl ?_
  refine gs_getf (q := 0) C fl_X8_91 (cls_X8 hx) lt_M_Model (oc_M_Model a ι _) rfl dX8_digest_11 ?_
  refine gx_icmp_ge (tgt := 55) C dX8_digest_14 (by decide) (fun hc11 => ?_) (fun hc11 => ?_)
  · have h := gi_t hc11 h
    refine gx_iconst0 C dX8_digest_55 ?_
    refine gx_istore_1 C dX8_digest_56 (by rw [hnL]; decide) trivial ?_
    refine gx_weak (gx_le_k rfl (gx_le_k rfl (gx_le_n (gx_le_n gx_le_0)))) (gi_loop (P := fun t => gx_G Γ 0 0 57 [.ref (a 0), .int t.1, .null, .null] [] (wM a ι t.2)) (fun kk t hk h => ?_) 5000 _ h)
    obtain ⟨x19, S'9⟩ := t
    exact bn_digest_57 hx C ⟨F, hnL⟩ (k57 := kk) (fun x18 S'8 h => hk (x18, S'8) h) h
  · have h := gi_f hc11 h
    refine gx_aload_0 C dX8_digest_17 rfl ?_
    refine gx_aload_0 C dX8_digest_18 rfl ?_
    refine gs_getf (q := 0) C fl_X8_7 (cls_X8 hx) lt_M_Model (oc_M_Model a ι _) rfl dX8_digest_19 ?_
    refine gx_iload_1 C dX8_digest_22 rfl ?_
    obtain ⟨hi1, h⟩ := gi_ck h
    refine gs_iald (q := 1) C (ac_M_M_kindOf hx a) lt_M_M_kindOf hi1 dX8_digest_23 ?_
    refine gx_i2l C dX8_digest_24 ?_
    obtain ⟨S3, e2, h⟩ := gi_cp h
    refine gc_VV C (cn_mix (gx_l Γ) (gx_D Γ) hx a _ _ e2) (gx_cw C gx_uu lk_X8_297 (by decide) (by decide)) (cls_X8 hx).1 (gs_recv (q := 0) lt_M_Model (oc_M_Model a ι _)) rfl rfl (Nat.le_of_ble_eq_true rfl) ⟨Nat.zero_le _, Nat.zero_le _⟩ dX8_digest_25 ?_
    refine gx_aload_0 C dX8_digest_28 rfl ?_
    refine gx_aload_0 C dX8_digest_29 rfl ?_
    refine gs_getf (q := 0) C fl_X8_13 (cls_X8 hx) lt_M_Model (oc_M_Model a ι _) rfl dX8_digest_30 ?_
    refine gx_iload_1 C dX8_digest_33 rfl ?_
    refine gs_iald (q := 2) C (ac_M_M_nOf hx a) lt_M_M_nOf hi1 dX8_digest_34 ?_
    refine gx_i2l C dX8_digest_35 ?_
    obtain ⟨S5, e4, h⟩ := gi_cp h
    refine gc_VV C (cn_mix (gx_l Γ) (gx_D Γ) hx a _ _ e4) (gx_cw C gx_uu lk_X8_297 (by decide) (by decide)) (cls_X8 hx).1 (gs_recv (q := 0) lt_M_Model (oc_M_Model a ι _)) rfl rfl (Nat.le_of_ble_eq_true rfl) ⟨Nat.zero_le _, Nat.zero_le _⟩ dX8_digest_36 ?_
    refine gx_aload_0 C dX8_digest_39 rfl ?_
    refine gx_aload_0 C dX8_digest_40 rfl ?_
    refine gx_iload_1 C dX8_digest_41 rfl ?_
    obtain ⟨v8, S7, e6, h⟩ := gi_cs h
    refine gc_IV C (cn_profitOf (gx_l Γ) (gx_D Γ) hx a _ _ e6) (gx_cw C gx_uu lk_X8_144 (by decide) (by decide)) (cls_X8 hx).1 (gs_recv (q := 0) lt_M_Model (oc_M_Model a ι _)) rfl rfl (Nat.le_of_ble_eq_true rfl) ⟨Nat.zero_le _, Nat.zero_le _⟩ dX8_digest_42 ?_
    refine gx_i2l C dX8_digest_45 ?_
    obtain ⟨S10, e9, h⟩ := gi_cp h
    refine gc_VV C (cn_mix (gx_l Γ) (gx_D Γ) hx a _ _ e9) (gx_cw C gx_uu lk_X8_297 (by decide) (by decide)) (cls_X8 hx).1 (gs_recv (q := 0) lt_M_Model (oc_M_Model a ι _)) rfl rfl (Nat.le_of_ble_eq_true rfl) ⟨Nat.zero_le _, Nat.zero_le _⟩ dX8_digest_46 ?_
    refine gx_iinc1 C dX8_digest_49 rfl (by rw [hnL]; decide) trivial ?_
    refine gx_goto (tgt := 9) C dX8_digest_52 (by decide) ?_
    exact gx_weak (gx_le_k rfl (gx_le_k rfl (gx_le_n (gx_le_n gx_le_0)))) (hk9 _ _ h)
def n_digest (S : gx_S) : Option (Int64 × gx_S) := gx_let (gx_stl S 0 182 373) fun S1 => gx_loop (n_digest_9) 5000 (0, S1)
set_option maxRecDepth 20000 in
set_option maxHeartbeats 1000000 in
theorem cn_digest (l : Launch) (D : va_G) {cl : List vw_C} {tys : List (ClassId × FieldType)} {ι : Nat → ClassId} (hx : gx_std vwCl (gty ι) cl tys) (a : Nat → Nat) (S : gx_S) {out : Int64 × gx_S} (h : n_digest  S = some out) : gx_mL l D cl tys yX8_digest (.code yX8_digest cX8_digest 4 ((Option.some Jvm.ClassFile.FieldType.long)) :: gx_U) (gx_rm 6) [.ref (a 0)] (wM a ι S) (wM a ι) out := by
  unfold n_digest at h
  refine gx_startL (V := [.ref (a 0), .null, .null, .null]) 3 (by decide +kernel) (Nat.le_of_ble_eq_true rfl) rfl (fun Γ hl hD hcl hty hnL C F => ?_)
  subst hl; subst hD; subst hcl; subst hty
  refine gx_aload_0 C dX8_digest_0 rfl ?_
  refine gx_ldc2 (v := 373) C dX8_digest_1 kX8_295 ?_
  obtain ⟨S1, e2, h⟩ := gi_let h
  refine gs_putl (q := 0) C fl_X8_291 (cls_X8 hx) lt_M_Model (oc_M_Model a ι _) (h0 := 182) (by rw [(oc_M_Model a ι _), gx_mk_up]; rfl) rfl rfl rfl (Nat.le_of_ble_eq_true rfl) e2 dX8_digest_4 ?_
  refine gx_iconst0 C dX8_digest_7 ?_
  refine gx_istore_1 C dX8_digest_8 (by rw [hnL]; decide) trivial ?_
  refine gx_weak (gx_le_k rfl (gx_le_k rfl (gx_le_n (gx_le_n gx_le_0)))) (gi_loop (P := fun t => gx_G Γ 0 0 9 [.ref (a 0), .int t.1, .null, .null] [] (wM a ι t.2)) (fun kk t hk h => ?_) 5000 _ h)
  obtain ⟨x19, S'9⟩ := t
  exact bn_digest_9 hx C ⟨F, hnL⟩ (k9 := kk) (fun x18 S'8 h => hk (x18, S'8) h) h

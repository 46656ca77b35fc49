def n_mergeNow_35 (k2 : Int32 × gx_S → Option (gx_S)) (x1 : Int32) (x2 : Int32) (x3 : Int32) (s1 : Int32) (s2 : Int32) (S : gx_S) : Option (gx_S) := gx_ck 6 s1 (gx_let (gx_st S 4 s1.toNatClampNeg s2) fun S2 => k2 ((x3 + 1), S2))
set_option maxRecDepth 20000 in
set_option maxHeartbeats 1000000 in
theorem bn_mergeNow_35 {Γ : gx_T} {ι : Nat → ClassId} {a : Nat → Nat} {out : gx_S} (hx : gx_std vwCl (gty ι) (gx_cl Γ) (gx_ty Γ)) (C : gx_ok Γ cX8_mergeNow RX8 gx_U 0) (F : gx_finV Γ ((Option.none : Option Jvm.ClassFile.FieldType)) (wM a ι) out ∧ gx_nL Γ = 4) {k2 : Int32 × gx_S → Option (gx_S)} {x1 : Int32} {x2 : Int32} {x3 : Int32} {s1 : Int32} {s2 : Int32} {S : gx_S} (hk2 : ∀ (x37 : Int32) (S7 : gx_S), k2 (x37, S7) = some out → gx_G Γ 0 0 2 [.ref (a 0), .int x1, .int x2, .int x37] [] (wM a ι S7)) (h : n_mergeNow_35 k2 x1 x2 x3 s1 s2 S = some out) : gx_G Γ 0 0 35 [.ref (a 0), .int x1, .int x2, .int x3] [.int s2, .int s1, .ref (a 4)] (wM a ι S) := by
  obtain ⟨F, hnL⟩ := F
  unfold n_mergeNow_35 at h
  obtain ⟨hi1, h⟩ := gi_ck h
  obtain ⟨S2, e3, h⟩ := gi_let h
  refine gs_iast (q := 4) C (ac_M_M_ownerOf hx a) lt_M_M_ownerOf hi1 e3 dX8_mergeNow_35 ?_
  refine gx_iinc1 C dX8_mergeNow_36 rfl (by rw [hnL]; decide) trivial ?_
  refine gx_goto (tgt := 2) C dX8_mergeNow_39 (by decide) ?_
  exact gx_weak (gx_le_k rfl (gx_le_k rfl (gx_le_k rfl (gx_le_k rfl gx_le_0)))) (hk2 _ _ h)
def n_mergeNow_2 (x1 : Int32) (x2 : Int32) (t : Int32 × gx_S) (k2 : Int32 × gx_S → Option (gx_S)) : Option (gx_S) := match t with
  | (x3, S) => if (S 0 4) ≤ x3 then some S else gx_ck 6 x3 (if (S 4 x3.toNatClampNeg) = x2 then n_mergeNow_35 k2 x1 x2 x3 x3 x1 S else n_mergeNow_35 k2 x1 x2 x3 x3 (S 4 x3.toNatClampNeg) S)
set_option maxRecDepth 20000 in
set_option maxHeartbeats 1000000 in
theorem bn_mergeNow_2 {Γ : gx_T} {ι : Nat → ClassId} {a : Nat → Nat} {out : gx_S} (hx : gx_std vwCl (gty ι) (gx_cl Γ) (gx_ty Γ)) (C : gx_ok Γ cX8_mergeNow RX8 gx_U 0) (F : gx_finV Γ ((Option.none : Option Jvm.ClassFile.FieldType)) (wM a ι) out ∧ gx_nL Γ = 4) {k2 : Int32 × gx_S → Option (gx_S)} {x1 : Int32} {x2 : Int32} {x3 : Int32} {S : gx_S} (hk2 : ∀ (x37 : Int32) (S7 : gx_S), k2 (x37, S7) = some out → gx_G Γ 0 0 2 [.ref (a 0), .int x1, .int x2, .int x37] [] (wM a ι S7)) (h : n_mergeNow_2 x1 x2 (x3, S) k2 = some out) : gx_G Γ 0 0 2 [.ref (a 0), .int x1, .int x2, .int x3] [] (wM a ι S) := by
  obtain ⟨F, hnL⟩ := F
  unfold n_mergeNow_2 at h
  dsimp only at h
  refine gx_iload_3 C dX8_mergeNow_2 rfl ?_
  refine gx_aload_0 C dX8_mergeNow_3 rfl ?_
  refine gs_getf (q := 0) C fl_X8_98 (cls_X8 hx) lt_M_Model (oc_M_Model a ι _) rfl dX8_mergeNow_4 ?_
  refine gx_icmp_ge (tgt := 42) C dX8_mergeNow_7 (by decide) (fun hc3 => ?_) (fun hc3 => ?_)
  · have h := gi_t hc3 h
    exact gx_vret C F dX8_mergeNow_42 (Option.some.inj h)
  · have h := gi_f hc3 h
    refine gx_aload_0 C dX8_mergeNow_10 rfl ?_
    refine gs_getf (q := 0) C fl_X8_20 (cls_X8 hx) lt_M_Model (oc_M_Model a ι _) rfl dX8_mergeNow_11 ?_
    refine gx_iload_3 C dX8_mergeNow_14 rfl ?_
    refine gx_aload_0 C dX8_mergeNow_15 rfl ?_
    refine gs_getf (q := 0) C fl_X8_20 (cls_X8 hx) lt_M_Model (oc_M_Model a ι _) rfl dX8_mergeNow_16 ?_
    refine gx_iload_3 C dX8_mergeNow_19 rfl ?_
    obtain ⟨hi1, h⟩ := gi_ck h
    refine gs_iald (q := 4) C (ac_M_M_ownerOf hx a) lt_M_M_ownerOf hi1 dX8_mergeNow_20 ?_
    refine gx_iload_2 C dX8_mergeNow_21 rfl ?_
    refine gx_icmp_ne (tgt := 29) C dX8_mergeNow_22 (by decide) (fun hc2 => ?_) (fun hc2 => ?_)
    · have h := gi_f hc2 h
      refine gx_aload_0 C dX8_mergeNow_29 rfl ?_
      refine gs_getf (q := 0) C fl_X8_20 (cls_X8 hx) lt_M_Model (oc_M_Model a ι _) rfl dX8_mergeNow_30 ?_
      refine gx_iload_3 C dX8_mergeNow_33 rfl ?_
      refine gs_iald (q := 4) C (ac_M_M_ownerOf hx a) lt_M_M_ownerOf hi1 dX8_mergeNow_34 ?_
      exact gx_weak (gx_le_k rfl (gx_le_k rfl (gx_le_k rfl (gx_le_k rfl gx_le_0)))) (bn_mergeNow_35 hx C ⟨F, hnL⟩ hk2 h)
    · have h := gi_t hc2 h
      refine gx_iload_1 C dX8_mergeNow_25 rfl ?_
      refine gx_goto (tgt := 35) C dX8_mergeNow_26 (by decide) ?_
      exact gx_weak (gx_le_k rfl (gx_le_k rfl (gx_le_k rfl (gx_le_k rfl gx_le_0)))) (bn_mergeNow_35 hx C ⟨F, hnL⟩ hk2 h)
def n_mergeNow (x1 : Int32) (x2 : Int32) (S : gx_S) : Option (gx_S) := gx_loop (n_mergeNow_2 x1 x2) 5000 (0, S)
set_option maxRecDepth 20000 in
set_option maxHeartbeats 1000000 in
theorem cn_mergeNow (l : Launch) (D : va_G) {cl : List vw_C} {tys : List (ClassId × FieldType)} {ι : Nat → ClassId} (hx : gx_std vwCl (gty ι) cl tys) (a : Nat → Nat) (x1 : Int32) (x2 : Int32) (S : gx_S) {out : gx_S} (h : n_mergeNow x1 x2 S = some out) : gx_mV l D cl tys yX8_mergeNow (.code yX8_mergeNow cX8_mergeNow 4 ((Option.none : Option Jvm.ClassFile.FieldType)) :: gx_U) (gx_rm 0) [.ref (a 0), .int x1, .int x2] (wM a ι S) (wM a ι) out := by
  unfold n_mergeNow at h
  refine gx_startV (V := [.ref (a 0), .int x1, .int x2, .null]) 1 (by decide +kernel) (Nat.le_of_ble_eq_true rfl) rfl (fun Γ hl hD hcl hty hnL C F => ?_)
  subst hl; subst hD; subst hcl; subst hty
  refine gx_iconst0 C dX8_mergeNow_0 ?_
  refine gx_istore_3 C dX8_mergeNow_1 (by rw [hnL]; decide) trivial ?_
  refine gx_weak (gx_le_k rfl (gx_le_k rfl (gx_le_k rfl (gx_le_k rfl gx_le_0)))) (gi_loop (P := fun t => gx_G Γ 0 0 2 [.ref (a 0), .int x1, .int x2, .int t.1] [] (wM a ι t.2)) (fun kk t hk h => ?_) 5000 _ h)
  obtain ⟨x39, S'9⟩ := t
  exact bn_mergeNow_2 hx C ⟨F, hnL⟩ (k2 := kk) (fun x38 S'8 h => hk (x38, S'8) h) h
def n_merge (x1 : Int32) (x2 : Int32) (S : gx_S) : Option (Int32 × gx_S) := gx_cp (n_areTwo x1 x2 S) fun v2 => if v2 = 0 then some ((-101), S) else gx_cp (n_fits x1 x2 S) fun v4 => if v4 = 0 then some ((-103), S) else gx_cp (n_mergeNow x1 x2 S) fun S6 => gx_cp (n_shopsOf x1 S6) fun v8 => some (v8, S6)
set_option maxRecDepth 20000 in
set_option maxHeartbeats 1000000 in
theorem cn_merge (l : Launch) (D : va_G) {cl : List vw_C} {tys : List (ClassId × FieldType)} {ι : Nat → ClassId} (hx : gx_std vwCl (gty ι) cl tys) (a : Nat → Nat) (x1 : Int32) (x2 : Int32) (S : gx_S) {out : Int32 × gx_S} (h : n_merge x1 x2 S = some out) : gx_mI l D cl tys yX8_merge (.code yX8_merge cX8_merge 3 ((Option.some Jvm.ClassFile.FieldType.int)) :: gx_U) (gx_rm 3) [.ref (a 0), .int x1, .int x2] (wM a ι S) (wM a ι) out := by
  unfold n_merge at h
  refine gx_startI (V := [.ref (a 0), .int x1, .int x2]) 0 (by decide +kernel) (Nat.le_of_ble_eq_true rfl) rfl (fun Γ hl hD hcl hty hnL C F => ?_)
  subst hl; subst hD; subst hcl; subst hty
  refine gx_aload_0 C dX8_merge_0 rfl ?_
  refine gx_iload_1 C dX8_merge_1 rfl ?_
  refine gx_iload_2 C dX8_merge_2 rfl ?_
  obtain ⟨v2, e1, h⟩ := gi_cp h
  refine gc_IV C (cn_areTwo (gx_l Γ) (gx_D Γ) hx a _ _ _ e1) (gx_cw C gx_uu lk_X8_200 (by decide) (by decide)) (cls_X8 hx).1 (gs_recv (q := 0) lt_M_Model (oc_M_Model a ι _)) rfl rfl (Nat.le_of_ble_eq_true rfl) ⟨Nat.zero_le _, Nat.zero_le _⟩ dX8_merge_3 ?_
  refine gx_if_ne (tgt := 12) C dX8_merge_6 (by decide) (fun hc10 => ?_) (fun hc10 => ?_)
  · have h := gi_f hc10 h
    refine gx_aload_0 C dX8_merge_12 rfl ?_
    refine gx_iload_1 C dX8_merge_13 rfl ?_
    refine gx_iload_2 C dX8_merge_14 rfl ?_
    obtain ⟨v4, e3, h⟩ := gi_cp h
    refine gc_IV C (cn_fits (gx_l Γ) (gx_D Γ) hx a _ _ _ e3) (gx_cw C gx_uu lk_X8_203 (by decide) (by decide)) (cls_X8 hx).1 (gs_recv (q := 0) lt_M_Model (oc_M_Model a ι _)) rfl rfl (Nat.le_of_ble_eq_true rfl) ⟨Nat.zero_le _, Nat.zero_le _⟩ dX8_merge_15 ?_
    refine gx_if_ne (tgt := 24) C dX8_merge_18 (by decide) (fun hc9 => ?_) (fun hc9 => ?_)
    · have h := gi_f hc9 h
      refine gx_aload_0 C dX8_merge_24 rfl ?_
      refine gx_iload_1 C dX8_merge_25 rfl ?_
      refine gx_iload_2 C dX8_merge_26 rfl ?_
      obtain ⟨S6, e5, h⟩ := gi_cp h
      refine gc_VV C (cn_mergeNow (gx_l Γ) (gx_D Γ) hx a _ _ _ e5) (gx_cw C gx_uu lk_X8_206 (by decide) (by decide)) (cls_X8 hx).1 (gs_recv (q := 0) lt_M_Model (oc_M_Model a ι _)) rfl rfl (Nat.le_of_ble_eq_true rfl) ⟨Nat.zero_le _, Nat.zero_le _⟩ dX8_merge_27 ?_
      refine gx_aload_0 C dX8_merge_30 rfl ?_
      refine gx_iload_1 C dX8_merge_31 rfl ?_
      obtain ⟨v8, e7, h⟩ := gi_cp h
      refine gc_IV C (cn_shopsOf (gx_l Γ) (gx_D Γ) hx a _ _ e7) (gx_cw C gx_uu lk_X8_108 (by decide) (by decide)) (cls_X8 hx).1 (gs_recv (q := 0) lt_M_Model (oc_M_Model a ι _)) rfl rfl (Nat.le_of_ble_eq_true rfl) ⟨Nat.zero_le _, Nat.zero_le _⟩ dX8_merge_32 ?_
      exact gx_iret C F rfl dX8_merge_35 (Option.some.inj h)
    · have h := gi_t hc9 h
      refine gx_bipush (v := (-103)) C dX8_merge_21 (by decide) ?_
      exact gx_iret C F rfl dX8_merge_23 (Option.some.inj h)
  · have h := gi_t hc10 h
    refine gx_bipush (v := (-101)) C dX8_merge_9 (by decide) ?_
    exact gx_iret C F rfl dX8_merge_11 (Option.some.inj h)
def n_layBefore_20 (x1 : Int32) (t : Int32 × gx_S) (k20 : Int32 × gx_S → Option (Int32 × gx_S)) : Option (Int32 × gx_S) := match t with
  | (x2, S) => if (S 0 9) ≤ x2 then gx_cp (n_back S) fun S2 => gx_bz x1 (some (x1, S2)) else gx_cp (n_spareOf x2 S) fun v5 => gx_ck 8 x2 (gx_let (gx_st S 21 x2.toNatClampNeg v5) fun S7 => k20 ((x2 + 1), S7))
set_option maxRecDepth 20000 in
set_option maxHeartbeats 1000000 in
theorem bn_layBefore_20 {Γ : gx_T} {ι : Nat → ClassId} {a : Nat → Nat} {out : Int32 × gx_S} (hx : gx_std vwCl (gty ι) (gx_cl Γ) (gx_ty Γ)) (C : gx_ok Γ cX8_layBefore RX8 gx_U 8) (F : gx_finI Γ ((Option.some Jvm.ClassFile.FieldType.boolean)) (wM a ι) out ∧ gx_nL Γ = 3) {k20 : Int32 × gx_S → Option (Int32 × gx_S)} {x1 : Int32} {x2 : Int32} {S : gx_S} (hk20 : ∀ (x27 : Int32) (S7 : gx_S), k20 (x27, S7) = some out → gx_G Γ 0 0 20 [.ref (a 0), .int x1, .int x27] [] (wM a ι S7)) (h : n_layBefore_20 x1 (x2, S) k20 = some out) : gx_G Γ 0 0 20 [.ref (a 0), .int x1, .int x2] [] (wM a ι S) := by
  obtain ⟨F, hnL⟩ := F
  unfold n_layBefore_20 at h
  dsimp only at h
  refine gx_iload_2 C dX8_layBefore_20 rfl ?_
  refine gx_aload_0 C dX8_layBefore_21 rfl ?_
  refine gs_getf (q := 0) C fl_X8_101 (cls_X8 hx) lt_M_Model (oc_M_Model a ι _) rfl dX8_layBefore_22 ?_
  refine gx_icmp_ge (tgt := 45) C dX8_layBefore_25 (by decide) (fun hc9 => ?_) (fun hc9 => ?_)
  · have h := gi_t hc9 h
    refine gx_aload_0 C dX8_layBefore_45 rfl ?_
    obtain ⟨S2, e1, h⟩ := gi_cp h
    refine gc_VV C (cn_back (gx_l Γ) (gx_D Γ) hx a _ e1) (gx_cw C gx_uu lk_X8_172 (by decide) (by decide)) (cls_X8 hx).1 (gs_recv (q := 0) lt_M_Model (oc_M_Model a ι _)) rfl rfl (Nat.le_of_ble_eq_true rfl) ⟨Nat.zero_le _, Nat.zero_le _⟩ dX8_layBefore_46 ?_
    refine gx_iload_1 C dX8_layBefore_49 rfl ?_
    obtain ⟨hz3, h⟩ := gi_bz h
    exact gx_iret C F hz3.1 dX8_layBefore_50 (Option.some.inj h)
  · have h := gi_f hc9 h
    refine gx_aload_0 C dX8_layBefore_28 rfl ?_
    refine gs_getf (q := 0) C fl_X8_76 (cls_X8 hx) lt_M_Model (oc_M_Model a ι _) rfl dX8_layBefore_29 ?_
    refine gx_iload_2 C dX8_layBefore_32 rfl ?_
    refine gx_aload_0 C dX8_layBefore_33 rfl ?_
    refine gx_iload_2 C dX8_layBefore_34 rfl ?_
    obtain ⟨v5, e4, h⟩ := gi_cp h
    refine gc_IV C (cn_spareOf (gx_l Γ) (gx_D Γ) hx a _ _ e4) (gx_cw C gx_uu lk_X8_141 (by decide) (by decide)) (cls_X8 hx).1 (gs_recv (q := 0) lt_M_Model (oc_M_Model a ι _)) rfl rfl (Nat.le_of_ble_eq_true rfl) ⟨Nat.zero_le _, Nat.zero_le _⟩ dX8_layBefore_35 ?_
    obtain ⟨hi6, h⟩ := gi_ck h
    obtain ⟨S7, e8, h⟩ := gi_let h
    refine gs_iast (q := 21) C (ac_M_M_spareBefore hx a) lt_M_M_spareBefore hi6 e8 dX8_layBefore_38 ?_
    refine gx_iinc1 C dX8_layBefore_39 rfl (by rw [hnL]; decide) trivial ?_
    refine gx_goto (tgt := 20) C dX8_layBefore_42 (by decide) ?_
    exact gx_weak (gx_le_k rfl (gx_le_k rfl (gx_le_k rfl gx_le_0))) (hk20 _ _ h)
def n_layBefore_17 (s0 : Int32) (S : gx_S) : Option (Int32 × gx_S) := gx_loop (n_layBefore_20 s0) 5000 (0, S)
set_option maxRecDepth 20000 in
set_option maxHeartbeats 1000000 in
theorem bn_layBefore_17 {Γ : gx_T} {ι : Nat → ClassId} {a : Nat → Nat} {out : Int32 × gx_S} (hx : gx_std vwCl (gty ι) (gx_cl Γ) (gx_ty Γ)) (C : gx_ok Γ cX8_layBefore RX8 gx_U 8) (F : gx_finI Γ ((Option.some Jvm.ClassFile.FieldType.boolean)) (wM a ι) out ∧ gx_nL Γ = 3) {s0 : Int32} {S : gx_S} (h : n_layBefore_17 s0 S = some out) : gx_G Γ 0 0 17 [.ref (a 0), .null, .null] [.int s0] (wM a ι S) := by
  obtain ⟨F, hnL⟩ := F
  unfold n_layBefore_17 at h
  refine gx_istore_1 C dX8_layBefore_17 (by rw [hnL]; decide) trivial ?_
  refine gx_iconst0 C dX8_layBefore_18 ?_
  refine gx_istore_2 C dX8_layBefore_19 (by rw [hnL]; decide) trivial ?_
  refine gx_weak (gx_le_k rfl (gx_le_k rfl (gx_le_k rfl gx_le_0))) (gi_loop (P := fun t => gx_G Γ 0 0 20 [.ref (a 0), .int s0, .int t.1] [] (wM a ι t.2)) (fun kk t hk h => ?_) 5000 _ h)
  obtain ⟨x29, S'9⟩ := t
  exact bn_layBefore_20 hx C ⟨F, hnL⟩ (k20 := kk) (fun x28 S'8 h => hk (x28, S'8) h) h
def n_layBefore (S : gx_S) : Option (Int32 × gx_S) := gx_cp (n_hold S) fun S2 => gx_cs (n_goOn S2) fun v5 S4 => if v5 = (-1) then n_layBefore_17 0 S4 else n_layBefore_17 1 S4
set_option maxRecDepth 20000 in
set_option maxHeartbeats 1000000 in
theorem cn_layBefore (l : Launch) (D : va_G) {cl : List vw_C} {tys : List (ClassId × FieldType)} {ι : Nat → ClassId} (hx : gx_std vwCl (gty ι) cl tys) (a : Nat → Nat) (S : gx_S) {out : Int32 × gx_S} (h : n_layBefore  S = some out) : gx_mI l D cl tys yX8_layBefore (.code yX8_layBefore cX8_layBefore 3 ((Option.some Jvm.ClassFile.FieldType.boolean)) :: gx_U) (gx_rm 8) [.ref (a 0)] (wM a ι S) (wM a ι) out := by
  unfold n_layBefore at h
  refine gx_startI (V := [.ref (a 0), .null, .null]) 2 (by decide +kernel) (Nat.le_of_ble_eq_true rfl) rfl (fun Γ hl hD hcl hty hnL C F => ?_)
  subst hl; subst hD; subst hcl; subst hty
  refine gx_aload_0 C dX8_layBefore_0 rfl ?_
  obtain ⟨S2, e1, h⟩ := gi_cp h
  refine gc_VV C (cn_hold (gx_l Γ) (gx_D Γ) hx a _ e1) (gx_cw C gx_uu lk_X8_166 (by decide) (by decide)) (cls_X8 hx).1 (gs_recv (q := 0) lt_M_Model (oc_M_Model a ι _)) rfl rfl (Nat.le_of_ble_eq_true rfl) ⟨Nat.zero_le _, Nat.zero_le _⟩ dX8_layBefore_1 ?_
  refine gx_aload_0 C dX8_layBefore_4 rfl ?_
  obtain ⟨v5, S4, e3, h⟩ := gi_cs h
  refine gc_IV C (cn_goOn (gx_l Γ) (gx_D Γ) hx a _ e3) (gx_cw C gx_uu lk_X8_169 (by decide) (by decide)) (cls_X8 hx).1 (gs_recv (q := 0) lt_M_Model (oc_M_Model a ι _)) rfl rfl (Nat.le_of_ble_eq_true rfl) ⟨Nat.zero_le _, Nat.zero_le _⟩ dX8_layBefore_5 ?_
  refine gx_iconstm1 C dX8_layBefore_8 ?_
  refine gx_icmp_eq (tgt := 16) C dX8_layBefore_9 (by decide) (fun hc6 => ?_) (fun hc6 => ?_)
  · have h := gi_t hc6 h
    refine gx_iconst0 C dX8_layBefore_16 ?_
    exact gx_weak (gx_le_k rfl (gx_le_n (gx_le_n gx_le_0))) (bn_layBefore_17 hx C ⟨F, hnL⟩ h)
  · have h := gi_f hc6 h
    refine gx_iconst1 C dX8_layBefore_12 ?_
    refine gx_goto (tgt := 17) C dX8_layBefore_13 (by decide) ?_
    exact gx_weak (gx_le_k rfl (gx_le_n (gx_le_n gx_le_0))) (bn_layBefore_17 hx C ⟨F, hnL⟩ h)
def n_layBehind_63 (k25 : Int32 × gx_S → Option (Int32 × gx_S)) (x5 : Int32) (x6 : Int32) (x7 : Int32) (s1 : Int32) (s2 : Int32) (S : gx_S) : Option (Int32 × gx_S) := gx_ck 6 s1 (gx_let (gx_st S 4 s1.toNatClampNeg s2) fun S2 => k25 ((x7 + 1), S2))
set_option maxRecDepth 20000 in
set_option maxHeartbeats 1000000 in
theorem bn_layBehind_63 {Γ : gx_T} {ι : Nat → ClassId} {a : Nat → Nat} {out : Int32 × gx_S} (hx : gx_std vwCl (gty ι) (gx_cl Γ) (gx_ty Γ)) (C : gx_ok Γ cX8_layBehind RX8 gx_U 8) (F : gx_finI Γ ((Option.some Jvm.ClassFile.FieldType.boolean)) (wM a ι) out ∧ gx_nL Γ = 8) {k25 : Int32 × gx_S → Option (Int32 × gx_S)} {x5 : Int32} {x6 : Int32} {x7 : Int32} {s1 : Int32} {s2 : Int32} {S : gx_S} (hk25 : ∀ (x77 : Int32) (S7 : gx_S), k25 (x77, S7) = some out → gx_G Γ 0 0 25 [.ref (a 0), .null, .null, .null, .null, .int x5, .int x6, .int x77] [] (wM a ι S7)) (h : n_layBehind_63 k25 x5 x6 x7 s1 s2 S = some out) : gx_G Γ 0 0 63 [.ref (a 0), .null, .null, .null, .null, .int x5, .int x6, .int x7] [.int s2, .int s1, .ref (a 4)] (wM a ι S) := by
  obtain ⟨F, hnL⟩ := F
  unfold n_layBehind_63 at h
  obtain ⟨hi1, h⟩ := gi_ck h
  obtain ⟨S2, e3, h⟩ := gi_let h
  refine gs_iast (q := 4) C (ac_M_M_ownerOf hx a) lt_M_M_ownerOf hi1 e3 dX8_layBehind_63 ?_
  refine gx_iinc1 C dX8_layBehind_64 rfl (by rw [hnL]; decide) trivial ?_
  refine gx_goto (tgt := 25) C dX8_layBehind_67 (by decide) ?_
  exact gx_weak (gx_le_k rfl (gx_le_n (gx_le_n (gx_le_n (gx_le_n (gx_le_k rfl (gx_le_k rfl (gx_le_k rfl gx_le_0)))))))) (hk25 _ _ h)
def n_layBehind_81 (t : Int32 × gx_S) (k81 : Int32 × gx_S → Option (Int32 × gx_S)) : Option (Int32 × gx_S) := match t with
  | (x7, S) => if (S 0 9) ≤ x7 then gx_cp (n_back S) fun S2 => if (S2 0 34) = (-1) then some (0, S2) else some (1, S2) else gx_cp (n_spareOf x7 S) fun v5 => gx_ck 8 x7 (gx_let (gx_st S 22 x7.toNatClampNeg v5) fun S7 => k81 ((x7 + 1), S7))
set_option maxRecDepth 20000 in
set_option maxHeartbeats 1000000 in
theorem bn_layBehind_81 {Γ : gx_T} {ι : Nat → ClassId} {a : Nat → Nat} {out : Int32 × gx_S} (hx : gx_std vwCl (gty ι) (gx_cl Γ) (gx_ty Γ)) (C : gx_ok Γ cX8_layBehind RX8 gx_U 8) (F : gx_finI Γ ((Option.some Jvm.ClassFile.FieldType.boolean)) (wM a ι) out ∧ gx_nL Γ = 8) {k81 : Int32 × gx_S → Option (Int32 × gx_S)} {x7 : Int32} {S : gx_S} (hk81 : ∀ (x77 : Int32) (S7 : gx_S), k81 (x77, S7) = some out → gx_G Γ 0 0 81 [.ref (a 0), .null, .null, .null, .null, .null, .null, .int x77] [] (wM a ι S7)) (h : n_layBehind_81 (x7, S) k81 = some out) : gx_G Γ 0 0 81 [.ref (a 0), .null, .null, .null, .null, .null, .null, .int x7] [] (wM a ι S) := by
  obtain ⟨F, hnL⟩ := F
  unfold n_layBehind_81 at h
  dsimp only at h
  refine gx_iload C dX8_layBehind_81 rfl ?_
  refine gx_aload_0 C dX8_layBehind_83 rfl ?_
  refine gs_getf (q := 0) C fl_X8_101 (cls_X8 hx) lt_M_Model (oc_M_Model a ι _) rfl dX8_layBehind_84 ?_
  refine gx_icmp_ge (tgt := 109) C dX8_layBehind_87 (by decide) (fun hc9 => ?_) (fun hc9 => ?_)
  · have h := gi_t hc9 h
    refine gx_aload_0 C dX8_layBehind_109 rfl ?_
    obtain ⟨S2, e1, h⟩ := gi_cp h
    refine gc_VV C (cn_back (gx_l Γ) (gx_D Γ) hx a _ e1) (gx_cw C gx_uu lk_X8_172 (by decide) (by decide)) (cls_X8 hx).1 (gs_recv (q := 0) lt_M_Model (oc_M_Model a ι _)) rfl rfl (Nat.le_of_ble_eq_true rfl) ⟨Nat.zero_le _, Nat.zero_le _⟩ dX8_layBehind_110 ?_
    refine gx_aload_0 C dX8_layBehind_113 rfl ?_
    refine gs_getf (q := 0) C fl_X8_210 (cls_X8 hx) lt_M_Model (oc_M_Model a ι _) rfl dX8_layBehind_114 ?_
    refine gx_iconstm1 C dX8_layBehind_117 ?_
    refine gx_icmp_eq (tgt := 125) C dX8_layBehind_118 (by decide) (fun hc3 => ?_) (fun hc3 => ?_)
    · have h := gi_t hc3 h
      refine gx_iconst0 C dX8_layBehind_125 ?_
      exact gx_iret C F (by decide) dX8_layBehind_126 (Option.some.inj h)
    · have h := gi_f hc3 h
      refine gx_iconst1 C dX8_layBehind_121 ?_
      refine gx_goto (tgt := 126) C dX8_layBehind_122 (by decide) ?_
      exact gx_iret C F (by decide) dX8_layBehind_126 (Option.some.inj h)
  · have h := gi_f hc9 h
    refine gx_aload_0 C dX8_layBehind_90 rfl ?_
    refine gs_getf (q := 0) C fl_X8_79 (cls_X8 hx) lt_M_Model (oc_M_Model a ι _) rfl dX8_layBehind_91 ?_
    refine gx_iload C dX8_layBehind_94 rfl ?_
    refine gx_aload_0 C dX8_layBehind_96 rfl ?_
    refine gx_iload C dX8_layBehind_97 rfl ?_
    obtain ⟨v5, e4, h⟩ := gi_cp h
    refine gc_IV C (cn_spareOf (gx_l Γ) (gx_D Γ) hx a _ _ e4) (gx_cw C gx_uu lk_X8_141 (by decide) (by decide)) (cls_X8 hx).1 (gs_recv (q := 0) lt_M_Model (oc_M_Model a ι _)) rfl rfl (Nat.le_of_ble_eq_true rfl) ⟨Nat.zero_le _, Nat.zero_le _⟩ dX8_layBehind_99 ?_
    obtain ⟨hi6, h⟩ := gi_ck h
    obtain ⟨S7, e8, h⟩ := gi_let h
    refine gs_iast (q := 22) C (ac_M_M_spareBehind hx a) lt_M_M_spareBehind hi6 e8 dX8_layBehind_102 ?_
    refine gx_iinc1 C dX8_layBehind_103 rfl (by rw [hnL]; decide) trivial ?_
    refine gx_goto (tgt := 81) C dX8_layBehind_106 (by decide) ?_
    exact gx_weak (gx_le_k rfl (gx_le_n (gx_le_n (gx_le_n (gx_le_n (gx_le_n (gx_le_n (gx_le_k rfl gx_le_0)))))))) (hk81 _ _ h)
def n_layBehind_25 (x5 : Int32) (x6 : Int32) (t : Int32 × gx_S) (k25 : Int32 × gx_S → Option (Int32 × gx_S)) : Option (Int32 × gx_S) := match t with
  | (x7, S) => if (S 0 4) ≤ x7 then gx_cs (n_goOn S) fun v3 S2 => gx_let (gx_st S2 0 34 v3) fun S4 => gx_loop (n_layBehind_81) 5000 (0, S4) else if ((x5 >>> (x7 &&& 31)) &&& (1 : Int32)) = 1 then n_layBehind_63 k25 x5 x6 x7 x7 x6 S else gx_ck 6 x7 (n_layBehind_63 k25 x5 x6 x7 x7 (S 4 x7.toNatClampNeg) S)
set_option maxRecDepth 20000 in
set_option maxHeartbeats 1000000 in
theorem bn_layBehind_25 {Γ : gx_T} {ι : Nat → ClassId} {a : Nat → Nat} {out : Int32 × gx_S} (hx : gx_std vwCl (gty ι) (gx_cl Γ) (gx_ty Γ)) (C : gx_ok Γ cX8_layBehind RX8 gx_U 8) (F : gx_finI Γ ((Option.some Jvm.ClassFile.FieldType.boolean)) (wM a ι) out ∧ gx_nL Γ = 8) {k25 : Int32 × gx_S → Option (Int32 × gx_S)} {x5 : Int32} {x6 : Int32} {x7 : Int32} {S : gx_S} (hk25 : ∀ (x77 : Int32) (S7 : gx_S), k25 (x77, S7) = some out → gx_G Γ 0 0 25 [.ref (a 0), .null, .null, .null, .null, .int x5, .int x6, .int x77] [] (wM a ι S7)) (h : n_layBehind_25 x5 x6 (x7, S) k25 = some out) : gx_G Γ 0 0 25 [.ref (a 0), .null, .null, .null, .null, .int x5, .int x6, .int x7] [] (wM a ι S) := by
  obtain ⟨F, hnL⟩ := F
  unfold n_layBehind_25 at h
  dsimp only at h
  refine gx_iload C dX8_layBehind_25 rfl ?_
  refine gx_aload_0 C dX8_layBehind_27 rfl ?_
  refine gs_getf (q := 0) C fl_X8_98 (cls_X8 hx) lt_M_Model (oc_M_Model a ι _) rfl dX8_layBehind_28 ?_
  refine gx_icmp_ge (tgt := 70) C dX8_layBehind_31 (by decide) (fun hc8 => ?_) (fun hc8 => ?_)
  · have h := gi_t hc8 h
    refine gx_aload_0 C dX8_layBehind_70 rfl ?_
    refine gx_aload_0 C dX8_layBehind_71 rfl ?_
    obtain ⟨v3, S2, e1, h⟩ := gi_cs h
    refine gc_IV C (cn_goOn (gx_l Γ) (gx_D Γ) hx a _ e1) (gx_cw C gx_uu lk_X8_169 (by decide) (by decide)) (cls_X8 hx).1 (gs_recv (q := 0) lt_M_Model (oc_M_Model a ι _)) rfl rfl (Nat.le_of_ble_eq_true rfl) ⟨Nat.zero_le _, Nat.zero_le _⟩ dX8_layBehind_72 ?_
    obtain ⟨S4, e5, h⟩ := gi_let h
    refine gs_puti (q := 0) C fl_X8_210 (cls_X8 hx) lt_M_Model (oc_M_Model a ι _) (oc_M_Model a ι _) rfl rfl rfl (Nat.le_of_ble_eq_true rfl) e5 dX8_layBehind_75 ?_
    refine gx_iconst0 C dX8_layBehind_78 ?_
    refine gx_istore C dX8_layBehind_79 (by rw [hnL]; decide) trivial ?_
    refine gx_weak (gx_le_k rfl (gx_le_n (gx_le_n (gx_le_n (gx_le_n (gx_le_n (gx_le_n (gx_le_k rfl gx_le_0)))))))) (gi_loop (P := fun t => gx_G Γ 0 0 81 [.ref (a 0), .null, .null, .null, .null, .null, .null, .int t.1] [] (wM a ι t.2)) (fun kk t hk h => ?_) 5000 _ h)
    obtain ⟨x79, S'9⟩ := t
    exact bn_layBehind_81 hx C ⟨F, hnL⟩ (k81 := kk) (fun x78 S'8 h => hk (x78, S'8) h) h
  · have h := gi_f hc8 h
    refine gx_aload_0 C dX8_layBehind_34 rfl ?_
    refine gs_getf (q := 0) C fl_X8_20 (cls_X8 hx) lt_M_Model (oc_M_Model a ι _) rfl dX8_layBehind_35 ?_
    refine gx_iload C dX8_layBehind_38 rfl ?_
    refine gx_iload C dX8_layBehind_40 rfl ?_
    refine gx_iload C dX8_layBehind_42 rfl ?_
    refine gx_ishr C dX8_layBehind_44 ?_
    refine gx_iconst1 C dX8_layBehind_45 ?_
    refine gx_iand C dX8_layBehind_46 ?_
    refine gx_iconst1 C dX8_layBehind_47 ?_
    refine gx_icmp_ne (tgt := 56) C dX8_layBehind_48 (by decide) (fun hc7 => ?_) (fun hc7 => ?_)
    · have h := gi_f hc7 h
      refine gx_aload_0 C dX8_layBehind_56 rfl ?_
      refine gs_getf (q := 0) C fl_X8_20 (cls_X8 hx) lt_M_Model (oc_M_Model a ι _) rfl dX8_layBehind_57 ?_
      refine gx_iload C dX8_layBehind_60 rfl ?_
      obtain ⟨hi6, h⟩ := gi_ck h
      refine gs_iald (q := 4) C (ac_M_M_ownerOf hx a) lt_M_M_ownerOf hi6 dX8_layBehind_62 ?_
      exact gx_weak (gx_le_k rfl (gx_le_n (gx_le_n (gx_le_n (gx_le_n (gx_le_k rfl (gx_le_k rfl (gx_le_k rfl gx_le_0)))))))) (bn_layBehind_63 hx C ⟨F, hnL⟩ hk25 h)
    · have h := gi_t hc7 h
      refine gx_iload C dX8_layBehind_51 rfl ?_
      refine gx_goto (tgt := 63) C dX8_layBehind_53 (by decide) ?_
      exact gx_weak (gx_le_k rfl (gx_le_n (gx_le_n (gx_le_n (gx_le_n (gx_le_k rfl (gx_le_k rfl (gx_le_k rfl gx_le_0)))))))) (bn_layBehind_63 hx C ⟨F, hnL⟩ hk25 h)
def n_layBehind_22 (x5 : Int32) (x6 : Int32) (S : gx_S) : Option (Int32 × gx_S) := gx_loop (n_layBehind_25 x5 x6) 5000 (0, S)
set_option maxRecDepth 20000 in
set_option maxHeartbeats 1000000 in
theorem bn_layBehind_22 {Γ : gx_T} {ι : Nat → ClassId} {a : Nat → Nat} {out : Int32 × gx_S} (hx : gx_std vwCl (gty ι) (gx_cl Γ) (gx_ty Γ)) (C : gx_ok Γ cX8_layBehind RX8 gx_U 8) (F : gx_finI Γ ((Option.some Jvm.ClassFile.FieldType.boolean)) (wM a ι) out ∧ gx_nL Γ = 8) {x5 : Int32} {x6 : Int32} {S : gx_S} (h : n_layBehind_22 x5 x6 S = some out) : gx_G Γ 0 0 22 [.ref (a 0), .null, .null, .null, .null, .int x5, .int x6, .null] [] (wM a ι S) := by
  obtain ⟨F, hnL⟩ := F
  unfold n_layBehind_22 at h
  refine gx_iconst0 C dX8_layBehind_22 ?_
  refine gx_istore C dX8_layBehind_23 (by rw [hnL]; decide) trivial ?_
  refine gx_weak (gx_le_k rfl (gx_le_n (gx_le_n (gx_le_n (gx_le_n (gx_le_k rfl (gx_le_k rfl (gx_le_k rfl gx_le_0)))))))) (gi_loop (P := fun t => gx_G Γ 0 0 25 [.ref (a 0), .null, .null, .null, .null, .int x5, .int x6, .int t.1] [] (wM a ι t.2)) (fun kk t hk h => ?_) 5000 _ h)
  obtain ⟨x79, S'9⟩ := t
  exact bn_layBehind_25 hx C ⟨F, hnL⟩ (k25 := kk) (fun x78 S'8 h => hk (x78, S'8) h) h
def n_layBehind (x1 : Int32) (x2 : Int32) (x3 : Int32) (x4 : Int32) (x5 : Int32) (x6 : Int32) (S : gx_S) : Option (Int32 × gx_S) := gx_cp (n_hold S) fun S2 => gx_cp (n_mergeNow x1 x2 S2) fun S4 => if x3 = (-1) then n_layBehind_22 x5 x6 S4 else gx_cp (n_mergeNow x3 x4 S4) fun S6 => n_layBehind_22 x5 x6 S6
set_option maxRecDepth 20000 in
set_option maxHeartbeats 1000000 in
theorem cn_layBehind (l : Launch) (D : va_G) {cl : List vw_C} {tys : List (ClassId × FieldType)} {ι : Nat → ClassId} (hx : gx_std vwCl (gty ι) cl tys) (a : Nat → Nat) (x1 : Int32) (x2 : Int32) (x3 : Int32) (x4 : Int32) (x5 : Int32) (x6 : Int32) (S : gx_S) {out : Int32 × gx_S} (h : n_layBehind x1 x2 x3 x4 x5 x6 S = some out) : gx_mI l D cl tys yX8_layBehind (.code yX8_layBehind cX8_layBehind 8 ((Option.some Jvm.ClassFile.FieldType.boolean)) :: gx_U) (gx_rm 8) [.ref (a 0), .int x1, .int x2, .int x3, .int x4, .int x5, .int x6] (wM a ι S) (wM a ι) out := by
  unfold n_layBehind at h
  refine gx_startI (V := [.ref (a 0), .int x1, .int x2, .int x3, .int x4, .int x5, .int x6, .null]) 1 (by decide +kernel) (Nat.le_of_ble_eq_true rfl) rfl (fun Γ hl hD hcl hty hnL C F => ?_)
  subst hl; subst hD; subst hcl; subst hty
  refine gx_aload_0 C dX8_layBehind_0 rfl ?_
  obtain ⟨S2, e1, h⟩ := gi_cp h
  refine gc_VV C (cn_hold (gx_l Γ) (gx_D Γ) hx a _ e1) (gx_cw C gx_uu lk_X8_166 (by decide) (by decide)) (cls_X8 hx).1 (gs_recv (q := 0) lt_M_Model (oc_M_Model a ι _)) rfl rfl (Nat.le_of_ble_eq_true rfl) ⟨Nat.zero_le _, Nat.zero_le _⟩ dX8_layBehind_1 ?_
  refine gx_aload_0 C dX8_layBehind_4 rfl ?_
  refine gx_iload_1 C dX8_layBehind_5 rfl ?_
  refine gx_iload_2 C dX8_layBehind_6 rfl ?_
  obtain ⟨S4, e3, h⟩ := gi_cp h
  refine gc_VV C (cn_mergeNow (gx_l Γ) (gx_D Γ) hx a _ _ _ e3) (gx_cw C gx_uu lk_X8_206 (by decide) (by decide)) (cls_X8 hx).1 (gs_recv (q := 0) lt_M_Model (oc_M_Model a ι _)) rfl rfl (Nat.le_of_ble_eq_true rfl) ⟨Nat.zero_le _, Nat.zero_le _⟩ dX8_layBehind_7 ?_
  refine gx_iload_3 C dX8_layBehind_10 rfl ?_
  refine gx_iconstm1 C dX8_layBehind_11 ?_
  refine gx_icmp_eq (tgt := 22) C dX8_layBehind_12 (by decide) (fun hc7 => ?_) (fun hc7 => ?_)
  · have h := gi_t hc7 h
    exact gx_weak (gx_le_k rfl (gx_le_n (gx_le_n (gx_le_n (gx_le_n (gx_le_k rfl (gx_le_k rfl (gx_le_n gx_le_0)))))))) (bn_layBehind_22 hx C ⟨F, hnL⟩ h)
  · have h := gi_f hc7 h
    refine gx_aload_0 C dX8_layBehind_15 rfl ?_
    refine gx_iload_3 C dX8_layBehind_16 rfl ?_
    refine gx_iload C dX8_layBehind_17 rfl ?_
    obtain ⟨S6, e5, h⟩ := gi_cp h
    refine gc_VV C (cn_mergeNow (gx_l Γ) (gx_D Γ) hx a _ _ _ e5) (gx_cw C gx_uu lk_X8_206 (by decide) (by decide)) (cls_X8 hx).1 (gs_recv (q := 0) lt_M_Model (oc_M_Model a ι _)) rfl rfl (Nat.le_of_ble_eq_true rfl) ⟨Nat.zero_le _, Nat.zero_le _⟩ dX8_layBehind_19 ?_
    exact gx_weak (gx_le_k rfl (gx_le_n (gx_le_n (gx_le_n (gx_le_n (gx_le_k rfl (gx_le_k rfl (gx_le_n gx_le_0)))))))) (bn_layBehind_22 hx C ⟨F, hnL⟩ h)
def n_harmNow_69 (k7 : Int32 × Int32 × Int32 → Option (Int32)) (x1 : Int32) (x2 : Int32) (x4 : Int32) (s0 : Int32) (s1 : Int32) (S : gx_S) : Option (Int32) := k7 (x2, (s0 ||| s1), (x4 + 1))
set_option maxRecDepth 20000 in
set_option maxHeartbeats 1000000 in
theorem bn_harmNow_69 {Γ : gx_T} {ι : Nat → ClassId} {a : Nat → Nat} {out : Int32} {S : gx_S} (hx : gx_std vwCl (gty ι) (gx_cl Γ) (gx_ty Γ)) (C : gx_ok Γ cX8_harmNow RX8 gx_U 1) (F : gx_finI Γ ((Option.some Jvm.ClassFile.FieldType.int)) (wM a ι) (out, S) ∧ gx_nL Γ = 6) {k7 : Int32 × Int32 × Int32 → Option (Int32)} {x1 : Int32} {x2 : Int32} {x4 : Int32} {s0 : Int32} {s1 : Int32} (hk7 : ∀ (x27 : Int32) (x37 : Int32) (x47 : Int32), k7 (x27, x37, x47) = some out → gx_G Γ 0 0 7 [.ref (a 0), .int x1, .int x27, .int x37, .int x47, .null] [] (wM a ι S)) (h : n_harmNow_69 k7 x1 x2 x4 s0 s1 S = some out) : gx_G Γ 0 0 69 [.ref (a 0), .int x1, .int x2, .null, .int x4, .null] [.int s1, .int s0] (wM a ι S) := by
  obtain ⟨F, hnL⟩ := F
  unfold n_harmNow_69 at h
  refine gx_ior C dX8_harmNow_69 ?_
  refine gx_istore_3 C dX8_harmNow_70 (by rw [hnL]; decide) trivial ?_
  refine gx_iinc1 C dX8_harmNow_71 rfl (by rw [hnL]; decide) trivial ?_
  refine gx_goto (tgt := 7) C dX8_harmNow_74 (by decide) ?_
  exact gx_weak (gx_le_k rfl (gx_le_k rfl (gx_le_k rfl (gx_le_k rfl (gx_le_k rfl (gx_le_n gx_le_0)))))) (hk7 _ _ _ h)
def n_harmNow_53 (k7 : Int32 × Int32 × Int32 → Option (Int32)) (x1 : Int32) (x3 : Int32) (x4 : Int32) (x5 : Int32) (s0 : Int32) (s1 : Int32) (S : gx_S) : Option (Int32) := if x5 ≤ 0 then n_harmNow_69 k7 x1 (s0 + s1) x4 x3 0 S else n_harmNow_69 k7 x1 (s0 + s1) x4 x3 ((1 : Int32) <<< (x4 &&& 31)) S
set_option maxRecDepth 20000 in
set_option maxHeartbeats 1000000 in
theorem bn_harmNow_53 {Γ : gx_T} {ι : Nat → ClassId} {a : Nat → Nat} {out : Int32} {S : gx_S} (hx : gx_std vwCl (gty ι) (gx_cl Γ) (gx_ty Γ)) (C : gx_ok Γ cX8_harmNow RX8 gx_U 1) (F : gx_finI Γ ((Option.some Jvm.ClassFile.FieldType.int)) (wM a ι) (out, S) ∧ gx_nL Γ = 6) {k7 : Int32 × Int32 × Int32 → Option (Int32)} {x1 : Int32} {x3 : Int32} {x4 : Int32} {x5 : Int32} {s0 : Int32} {s1 : Int32} (hk7 : ∀ (x27 : Int32) (x37 : Int32) (x47 : Int32), k7 (x27, x37, x47) = some out → gx_G Γ 0 0 7 [.ref (a 0), .int x1, .int x27, .int x37, .int x47, .null] [] (wM a ι S)) (h : n_harmNow_53 k7 x1 x3 x4 x5 s0 s1 S = some out) : gx_G Γ 0 0 53 [.ref (a 0), .int x1, .null, .int x3, .int x4, .int x5] [.int s1, .int s0] (wM a ι S) := by
  obtain ⟨F, hnL⟩ := F
  unfold n_harmNow_53 at h
  refine gx_iadd C dX8_harmNow_53 ?_
  refine gx_istore_2 C dX8_harmNow_54 (by rw [hnL]; decide) trivial ?_
  refine gx_iload_3 C dX8_harmNow_55 rfl ?_
  refine gx_iload C dX8_harmNow_56 rfl ?_
  refine gx_if_le (tgt := 68) C dX8_harmNow_58 (by decide) (fun hc1 => ?_) (fun hc1 => ?_)
  · have h := gi_t hc1 h
    refine gx_iconst0 C dX8_harmNow_68 ?_
    exact gx_weak (gx_le_k rfl (gx_le_k rfl (gx_le_k rfl (gx_le_n (gx_le_k rfl (gx_le_n gx_le_0)))))) (bn_harmNow_69 hx C ⟨F, hnL⟩ hk7 h)
  · have h := gi_f hc1 h
    refine gx_iconst1 C dX8_harmNow_61 ?_
    refine gx_iload C dX8_harmNow_62 rfl ?_
    refine gx_ishl C dX8_harmNow_64 ?_
    refine gx_goto (tgt := 69) C dX8_harmNow_65 (by decide) ?_
    exact gx_weak (gx_le_k rfl (gx_le_k rfl (gx_le_k rfl (gx_le_n (gx_le_k rfl (gx_le_n gx_le_0)))))) (bn_harmNow_69 hx C ⟨F, hnL⟩ hk7 h)
def n_harmNow_7 (x1 : Int32) (S : gx_S) (t : Int32 × Int32 × Int32) (k7 : Int32 × Int32 × Int32 → Option (Int32)) : Option (Int32) := match t with
  | (x2, x3, x4) => if (S 0 9) ≤ x4 then if x1 = 0 then some x2 else some x3 else gx_ck 8 x4 (if ((S 21 x4.toNatClampNeg) - (S 22 x4.toNatClampNeg)) ≤ 0 then n_harmNow_53 k7 x1 x3 x4 ((S 21 x4.toNatClampNeg) - (S 22 x4.toNatClampNeg)) x2 0 S else gx_cp (n_told x4 1 S) fun v4 => n_harmNow_53 k7 x1 x3 x4 ((S 21 x4.toNatClampNeg) - (S 22 x4.toNatClampNeg)) x2 (((S 21 x4.toNatClampNeg) - (S 22 x4.toNatClampNeg)) * v4) S)
set_option maxRecDepth 20000 in
set_option maxHeartbeats 1000000 in
theorem bn_harmNow_7 {Γ : gx_T} {ι : Nat → ClassId} {a : Nat → Nat} {out : Int32} {S : gx_S} (hx : gx_std vwCl (gty ι) (gx_cl Γ) (gx_ty Γ)) (C : gx_ok Γ cX8_harmNow RX8 gx_U 1) (F : gx_finI Γ ((Option.some Jvm.ClassFile.FieldType.int)) (wM a ι) (out, S) ∧ gx_nL Γ = 6) {k7 : Int32 × Int32 × Int32 → Option (Int32)} {x1 : Int32} {x2 : Int32} {x3 : Int32} {x4 : Int32} (hk7 : ∀ (x27 : Int32) (x37 : Int32) (x47 : Int32), k7 (x27, x37, x47) = some out → gx_G Γ 0 0 7 [.ref (a 0), .int x1, .int x27, .int x37, .int x47, .null] [] (wM a ι S)) (h : n_harmNow_7 x1 S (x2, x3, x4) k7 = some out) : gx_G Γ 0 0 7 [.ref (a 0), .int x1, .int x2, .int x3, .int x4, .null] [] (wM a ι S) := by
  obtain ⟨F, hnL⟩ := F
  unfold n_harmNow_7 at h
  dsimp only at h
  refine gx_iload C dX8_harmNow_7 rfl ?_
  refine gx_aload_0 C dX8_harmNow_9 rfl ?_
  refine gs_getf (q := 0) C fl_X8_101 (cls_X8 hx) lt_M_Model (oc_M_Model a ι _) rfl dX8_harmNow_10 ?_
  refine gx_icmp_ge (tgt := 77) C dX8_harmNow_13 (by decide) (fun hc6 => ?_) (fun hc6 => ?_)
  · have h := gi_t hc6 h
    refine gx_iload_1 C dX8_harmNow_77 rfl ?_
    refine gx_if_eq (tgt := 85) C dX8_harmNow_78 (by decide) (fun hc1 => ?_) (fun hc1 => ?_)
    · have h := gi_t hc1 h
      refine gx_iload_2 C dX8_harmNow_85 rfl ?_
      exact gx_iret C F rfl dX8_harmNow_86 (congrArg (fun z => (z, S)) (Option.some.inj h))
    · have h := gi_f hc1 h
      refine gx_iload_3 C dX8_harmNow_81 rfl ?_
      refine gx_goto (tgt := 86) C dX8_harmNow_82 (by decide) ?_
      exact gx_iret C F rfl dX8_harmNow_86 (congrArg (fun z => (z, S)) (Option.some.inj h))
  · have h := gi_f hc6 h
    refine gx_aload_0 C dX8_harmNow_16 rfl ?_
    refine gs_getf (q := 0) C fl_X8_76 (cls_X8 hx) lt_M_Model (oc_M_Model a ι _) rfl dX8_harmNow_17 ?_
    refine gx_iload C dX8_harmNow_20 rfl ?_
    obtain ⟨hi2, h⟩ := gi_ck h
    refine gs_iald (q := 21) C (ac_M_M_spareBefore hx a) lt_M_M_spareBefore hi2 dX8_harmNow_22 ?_
    refine gx_aload_0 C dX8_harmNow_23 rfl ?_
    refine gs_getf (q := 0) C fl_X8_79 (cls_X8 hx) lt_M_Model (oc_M_Model a ι _) rfl dX8_harmNow_24 ?_
    refine gx_iload C dX8_harmNow_27 rfl ?_
    refine gs_iald (q := 22) C (ac_M_M_spareBehind hx a) lt_M_M_spareBehind hi2 dX8_harmNow_29 ?_
    refine gx_isub C dX8_harmNow_30 ?_
    refine gx_istore C dX8_harmNow_31 (by rw [hnL]; decide) trivial ?_
    refine gx_iload_2 C dX8_harmNow_33 rfl ?_
    refine gx_iload C dX8_harmNow_34 rfl ?_
    refine gx_if_le (tgt := 52) C dX8_harmNow_36 (by decide) (fun hc5 => ?_) (fun hc5 => ?_)
    · have h := gi_t hc5 h
      refine gx_iconst0 C dX8_harmNow_52 ?_
      exact gx_weak (gx_le_k rfl (gx_le_k rfl (gx_le_n (gx_le_k rfl (gx_le_k rfl (gx_le_k rfl gx_le_0)))))) (bn_harmNow_53 hx C ⟨F, hnL⟩ hk7 h)
    · have h := gi_f hc5 h
      refine gx_iload C dX8_harmNow_39 rfl ?_
      refine gx_aload_0 C dX8_harmNow_41 rfl ?_
      refine gx_iload C dX8_harmNow_42 rfl ?_
      refine gx_iconst1 C dX8_harmNow_44 ?_
      obtain ⟨v4, e3, h⟩ := gi_cp h
      refine gc_IV C (cn_told (gx_l Γ) (gx_D Γ) hx a _ _ _ e3) (gx_cw C gx_uu lk_X8_112 (by decide) (by decide)) (cls_X8 hx).1 (gs_recv (q := 0) lt_M_Model (oc_M_Model a ι _)) rfl rfl (Nat.le_of_ble_eq_true rfl) ⟨Nat.zero_le _, Nat.zero_le _⟩ dX8_harmNow_45 ?_
      refine gx_imul C dX8_harmNow_48 ?_
      refine gx_goto (tgt := 53) C dX8_harmNow_49 (by decide) ?_
      exact gx_weak (gx_le_k rfl (gx_le_k rfl (gx_le_n (gx_le_k rfl (gx_le_k rfl (gx_le_k rfl gx_le_0)))))) (bn_harmNow_53 hx C ⟨F, hnL⟩ hk7 h)
def n_harmNow (x1 : Int32) (S : gx_S) : Option (Int32) := gx_loop (n_harmNow_7 x1 S) 5000 (0, 0, 0)
set_option maxRecDepth 20000 in
set_option maxHeartbeats 1000000 in
theorem cn_harmNow (l : Launch) (D : va_G) {cl : List vw_C} {tys : List (ClassId × FieldType)} {ι : Nat → ClassId} (hx : gx_std vwCl (gty ι) cl tys) (a : Nat → Nat) (x1 : Int32) (S : gx_S) {out : Int32} (h : n_harmNow x1 S = some out) : gx_mI l D cl tys yX8_harmNow (.code yX8_harmNow cX8_harmNow 6 ((Option.some Jvm.ClassFile.FieldType.int)) :: gx_U) (gx_rm 1) [.ref (a 0), .int x1] (wM a ι S) (wM a ι) (out, S) := by
  unfold n_harmNow at h
  refine gx_startI (V := [.ref (a 0), .int x1, .null, .null, .null, .null]) 4 (by decide +kernel) (Nat.le_of_ble_eq_true rfl) rfl (fun Γ hl hD hcl hty hnL C F => ?_)
  subst hl; subst hD; subst hcl; subst hty
  refine gx_iconst0 C dX8_harmNow_0 ?_
  refine gx_istore_2 C dX8_harmNow_1 (by rw [hnL]; decide) trivial ?_
  refine gx_iconst0 C dX8_harmNow_2 ?_
  refine gx_istore_3 C dX8_harmNow_3 (by rw [hnL]; decide) trivial ?_
  refine gx_iconst0 C dX8_harmNow_4 ?_
  refine gx_istore C dX8_harmNow_5 (by rw [hnL]; decide) trivial ?_
  refine gx_weak (gx_le_k rfl (gx_le_k rfl (gx_le_k rfl (gx_le_k rfl (gx_le_k rfl (gx_le_n gx_le_0)))))) (gi_loop (P := fun t => gx_G Γ 0 0 7 [.ref (a 0), .int x1, .int t.1, .int t.2.1, .int t.2.2, .null] [] (wM a ι S)) (fun kk t hk h => ?_) 5000 _ h)
  obtain ⟨x29, x39, x49⟩ := t
  exact bn_harmNow_7 hx C ⟨F, hnL⟩ (k7 := kk) (fun x28 x38 x48 h => hk (x28, x38, x48) h) h
def n_dearer_55 (x3 : Int32) (s0 : Int32) (S : gx_S) : Option (Int32 × gx_S) := if s0 = 0 then some ((-1002), S) else gx_ck 8 x3 (some ((S 21 x3.toNatClampNeg) - (S 22 x3.toNatClampNeg), S))
set_option maxRecDepth 20000 in
set_option maxHeartbeats 1000000 in
theorem bn_dearer_55 {Γ : gx_T} {ι : Nat → ClassId} {a : Nat → Nat} {out : Int32 × gx_S} (hx : gx_std vwCl (gty ι) (gx_cl Γ) (gx_ty Γ)) (C : gx_ok Γ cX8_dearer RX8 gx_U 9) (F : gx_finI Γ ((Option.some Jvm.ClassFile.FieldType.int)) (wM a ι) out ∧ gx_nL Γ = 5) {x3 : Int32} {s0 : Int32} {S : gx_S} (h : n_dearer_55 x3 s0 S = some out) : gx_G Γ 0 0 55 [.ref (a 0), .null, .null, .int x3, .null] [.int s0] (wM a ι S) := by
  obtain ⟨F, hnL⟩ := F
  unfold n_dearer_55 at h
  refine gx_istore C dX8_dearer_55 (by rw [hnL]; decide) trivial ?_
  refine gx_iload C dX8_dearer_57 rfl ?_
  refine gx_if_eq (tgt := 78) C dX8_dearer_59 (by decide) (fun hc2 => ?_) (fun hc2 => ?_)
  · have h := gi_t hc2 h
    refine gx_sipush (v := (-1002)) C dX8_dearer_78 (by decide) ?_
    exact gx_iret C F rfl dX8_dearer_81 (Option.some.inj h)
  · have h := gi_f hc2 h
    refine gx_aload_0 C dX8_dearer_62 rfl ?_
    refine gs_getf (q := 0) C fl_X8_76 (cls_X8 hx) lt_M_Model (oc_M_Model a ι _) rfl dX8_dearer_63 ?_
    refine gx_iload_3 C dX8_dearer_66 rfl ?_
    obtain ⟨hi1, h⟩ := gi_ck h
    refine gs_iald (q := 21) C (ac_M_M_spareBefore hx a) lt_M_M_spareBefore hi1 dX8_dearer_67 ?_
    refine gx_aload_0 C dX8_dearer_68 rfl ?_
    refine gs_getf (q := 0) C fl_X8_79 (cls_X8 hx) lt_M_Model (oc_M_Model a ι _) rfl dX8_dearer_69 ?_
    refine gx_iload_3 C dX8_dearer_72 rfl ?_
    refine gs_iald (q := 22) C (ac_M_M_spareBehind hx a) lt_M_M_spareBehind hi1 dX8_dearer_73 ?_
    refine gx_isub C dX8_dearer_74 ?_
    refine gx_goto (tgt := 81) C dX8_dearer_75 (by decide) ?_
    exact gx_iret C F rfl dX8_dearer_81 (Option.some.inj h)
def n_dearer_54 (x3 : Int32) (S : gx_S) : Option (Int32 × gx_S) := n_dearer_55 x3 0 S
set_option maxRecDepth 20000 in
set_option maxHeartbeats 1000000 in
theorem bn_dearer_54 {Γ : gx_T} {ι : Nat → ClassId} {a : Nat → Nat} {out : Int32 × gx_S} (hx : gx_std vwCl (gty ι) (gx_cl Γ) (gx_ty Γ)) (C : gx_ok Γ cX8_dearer RX8 gx_U 9) (F : gx_finI Γ ((Option.some Jvm.ClassFile.FieldType.int)) (wM a ι) out ∧ gx_nL Γ = 5) {x3 : Int32} {S : gx_S} (h : n_dearer_54 x3 S = some out) : gx_G Γ 0 0 54 [.ref (a 0), .null, .null, .int x3, .null] [] (wM a ι S) := by
  obtain ⟨F, hnL⟩ := F
  unfold n_dearer_54 at h
  refine gx_iconst0 C dX8_dearer_54 ?_
  exact gx_weak (gx_le_k rfl (gx_le_n (gx_le_n (gx_le_k rfl (gx_le_n gx_le_0))))) (bn_dearer_55 hx C ⟨F, hnL⟩ h)
def n_dearer (x1 : Int32) (x2 : Int32) (x3 : Int32) (S : gx_S) : Option (Int32 × gx_S) := gx_cp (n_areTwo x1 x2 S) fun v2 => if v2 = 0 then some ((-1001), S) else gx_cp (n_isSort x3 S) fun v4 => if v4 = 0 then some ((-1001), S) else gx_cp (n_fits x1 x2 S) fun v6 => if v6 = 0 then n_dearer_54 x3 S else gx_cs (n_layBefore S) fun v9 S8 => if v9 = 0 then n_dearer_54 x3 S8 else gx_cs (n_layBehind x1 x2 (-1) (-1) 0 (-1) S8) fun v12 S11 => if v12 = 0 then n_dearer_54 x3 S11 else n_dearer_55 x3 1 S11
set_option maxRecDepth 20000 in
set_option maxHeartbeats 1000000 in
theorem cn_dearer (l : Launch) (D : va_G) {cl : List vw_C} {tys : List (ClassId × FieldType)} {ι : Nat → ClassId} (hx : gx_std vwCl (gty ι) cl tys) (a : Nat → Nat) (x1 : Int32) (x2 : Int32) (x3 : Int32) (S : gx_S) {out : Int32 × gx_S} (h : n_dearer x1 x2 x3 S = some out) : gx_mI l D cl tys yX8_dearer (.code yX8_dearer cX8_dearer 5 ((Option.some Jvm.ClassFile.FieldType.int)) :: gx_U) (gx_rm 9) [.ref (a 0), .int x1, .int x2, .int x3] (wM a ι S) (wM a ι) out := by
  unfold n_dearer at h
  refine gx_startI (V := [.ref (a 0), .int x1, .int x2, .int x3, .null]) 1 (by decide +kernel) (Nat.le_of_ble_eq_true rfl) rfl (fun Γ hl hD hcl hty hnL C F => ?_)
  subst hl; subst hD; subst hcl; subst hty
  refine gx_aload_0 C dX8_dearer_0 rfl ?_
  refine gx_iload_1 C dX8_dearer_1 rfl ?_
  refine gx_iload_2 C dX8_dearer_2 rfl ?_
  obtain ⟨v2, e1, h⟩ := gi_cp h
  refine gc_IV C (cn_areTwo (gx_l Γ) (gx_D Γ) hx a _ _ _ e1) (gx_cw C gx_uu lk_X8_200 (by decide) (by decide)) (cls_X8 hx).1 (gs_recv (q := 0) lt_M_Model (oc_M_Model a ι _)) rfl rfl (Nat.le_of_ble_eq_true rfl) ⟨Nat.zero_le _, Nat.zero_le _⟩ dX8_dearer_3 ?_
  refine gx_if_eq (tgt := 17) C dX8_dearer_6 (by decide) (fun hc17 => ?_) (fun hc17 => ?_)
  · have h := gi_t hc17 h
    refine gx_sipush (v := (-1001)) C dX8_dearer_17 (by decide) ?_
    exact gx_iret C F rfl dX8_dearer_20 (Option.some.inj h)
  · have h := gi_f hc17 h
    refine gx_aload_0 C dX8_dearer_9 rfl ?_
    refine gx_iload_3 C dX8_dearer_10 rfl ?_
    obtain ⟨v4, e3, h⟩ := gi_cp h
    refine gc_IV C (cn_isSort (gx_l Γ) (gx_D Γ) hx a _ _ e3) (gx_cw C gx_uu lk_X8_138 (by decide) (by decide)) (cls_X8 hx).1 (gs_recv (q := 0) lt_M_Model (oc_M_Model a ι _)) rfl rfl (Nat.le_of_ble_eq_true rfl) ⟨Nat.zero_le _, Nat.zero_le _⟩ dX8_dearer_11 ?_
    refine gx_if_ne (tgt := 21) C dX8_dearer_14 (by decide) (fun hc16 => ?_) (fun hc16 => ?_)
    · have h := gi_f hc16 h
      refine gx_aload_0 C dX8_dearer_21 rfl ?_
      refine gx_iload_1 C dX8_dearer_22 rfl ?_
      refine gx_iload_2 C dX8_dearer_23 rfl ?_
      obtain ⟨v6, e5, h⟩ := gi_cp h
      refine gc_IV C (cn_fits (gx_l Γ) (gx_D Γ) hx a _ _ _ e5) (gx_cw C gx_uu lk_X8_203 (by decide) (by decide)) (cls_X8 hx).1 (gs_recv (q := 0) lt_M_Model (oc_M_Model a ι _)) rfl rfl (Nat.le_of_ble_eq_true rfl) ⟨Nat.zero_le _, Nat.zero_le _⟩ dX8_dearer_24 ?_
      refine gx_if_eq (tgt := 54) C dX8_dearer_27 (by decide) (fun hc15 => ?_) (fun hc15 => ?_)
      · have h := gi_t hc15 h
        exact gx_weak (gx_le_k rfl (gx_le_n (gx_le_n (gx_le_k rfl (gx_le_n gx_le_0))))) (bn_dearer_54 hx C ⟨F, hnL⟩ h)
      · have h := gi_f hc15 h
        refine gx_aload_0 C dX8_dearer_30 rfl ?_
        obtain ⟨v9, S8, e7, h⟩ := gi_cs h
        refine gc_IV C (cn_layBefore (gx_l Γ) (gx_D Γ) hx a _ e7) (gx_cw C gx_uu lk_X8_213 (by decide) (by decide)) (cls_X8 hx).1 (gs_recv (q := 0) lt_M_Model (oc_M_Model a ι _)) rfl rfl (Nat.le_of_ble_eq_true rfl) ⟨Nat.zero_le _, Nat.zero_le _⟩ dX8_dearer_31 ?_
        refine gx_if_eq (tgt := 54) C dX8_dearer_34 (by decide) (fun hc14 => ?_) (fun hc14 => ?_)
        · have h := gi_t hc14 h
          exact gx_weak (gx_le_k rfl (gx_le_n (gx_le_n (gx_le_k rfl (gx_le_n gx_le_0))))) (bn_dearer_54 hx C ⟨F, hnL⟩ h)
        · have h := gi_f hc14 h
          refine gx_aload_0 C dX8_dearer_37 rfl ?_
          refine gx_iload_1 C dX8_dearer_38 rfl ?_
          refine gx_iload_2 C dX8_dearer_39 rfl ?_
          refine gx_iconstm1 C dX8_dearer_40 ?_
          refine gx_iconstm1 C dX8_dearer_41 ?_
          refine gx_iconst0 C dX8_dearer_42 ?_
          refine gx_iconstm1 C dX8_dearer_43 ?_
          obtain ⟨v12, S11, e10, h⟩ := gi_cs h
          refine gc_IV C (cn_layBehind (gx_l Γ) (gx_D Γ) hx a _ _ _ _ _ _ _ e10) (gx_cw C gx_uu lk_X8_217 (by decide) (by decide)) (cls_X8 hx).1 (gs_recv (q := 0) lt_M_Model (oc_M_Model a ι _)) rfl rfl (Nat.le_of_ble_eq_true rfl) ⟨Nat.zero_le _, Nat.zero_le _⟩ dX8_dearer_44 ?_
          refine gx_if_eq (tgt := 54) C dX8_dearer_47 (by decide) (fun hc13 => ?_) (fun hc13 => ?_)
          · have h := gi_t hc13 h
            exact gx_weak (gx_le_k rfl (gx_le_n (gx_le_n (gx_le_k rfl (gx_le_n gx_le_0))))) (bn_dearer_54 hx C ⟨F, hnL⟩ h)
          · have h := gi_f hc13 h
            refine gx_iconst1 C dX8_dearer_50 ?_
            refine gx_goto (tgt := 55) C dX8_dearer_51 (by decide) ?_
            exact gx_weak (gx_le_k rfl (gx_le_n (gx_le_n (gx_le_k rfl (gx_le_n gx_le_0))))) (bn_dearer_55 hx C ⟨F, hnL⟩ h)
    · have h := gi_t hc16 h
      refine gx_sipush (v := (-1001)) C dX8_dearer_17 (by decide) ?_
      exact gx_iret C F rfl dX8_dearer_20 (Option.some.inj h)
def n_harm_81 (s1 : Int32) (S : gx_S) : Option (Int32 × gx_S) := gx_cp (n_harmNow s1 S) fun v2 => some (v2, S)
set_option maxRecDepth 20000 in
set_option maxHeartbeats 1000000 in
theorem bn_harm_81 {Γ : gx_T} {ι : Nat → ClassId} {a : Nat → Nat} {out : Int32 × gx_S} (hx : gx_std vwCl (gty ι) (gx_cl Γ) (gx_ty Γ)) (C : gx_ok Γ cX8_harm RX8 gx_U 9) (F : gx_finI Γ ((Option.some Jvm.ClassFile.FieldType.int)) (wM a ι) out ∧ gx_nL Γ = 4) {s1 : Int32} {S : gx_S} (h : n_harm_81 s1 S = some out) : gx_G Γ 0 0 81 [.ref (a 0), .null, .null, .null] [.int s1, .ref (a 0)] (wM a ι S) := by
  obtain ⟨F, hnL⟩ := F
  unfold n_harm_81 at h
  obtain ⟨v2, e1, h⟩ := gi_cp h
  refine gc_IV C (cn_harmNow (gx_l Γ) (gx_D Γ) hx a _ _ e1) (gx_cw C gx_uu lk_X8_221 (by decide) (by decide)) (cls_X8 hx).1 (gs_recv (q := 0) lt_M_Model (oc_M_Model a ι _)) rfl rfl (Nat.le_of_ble_eq_true rfl) ⟨Nat.zero_le _, Nat.zero_le _⟩ dX8_harm_81 ?_
  exact gx_iret C F rfl dX8_harm_84 (Option.some.inj h)
def n_harm (x1 : Int32) (x2 : Int32) (x3 : Int32) (S : gx_S) : Option (Int32 × gx_S) := gx_cp (n_areTwo x1 x2 S) fun v2 => if v2 = 0 then some ((-101), S) else gx_cp (n_within x3 0 2 S) fun v4 => if v4 = 0 then some ((-102), S) else gx_cp (n_fits x1 x2 S) fun v6 => if v6 = 0 then some ((-103), S) else gx_cs (n_layBefore S) fun v9 S8 => if v9 = 0 then some ((-1), S8) else gx_cs (n_layBehind x1 x2 (-1) (-1) 0 (-1) S8) fun v12 S11 => if v12 = 0 then some ((-1), S11) else if x3 = 2 then some (S11 0 34, S11) else if x3 = 1 then n_harm_81 1 S11 else n_harm_81 0 S11
set_option maxRecDepth 20000 in
set_option maxHeartbeats 1000000 in
theorem cn_harm (l : Launch) (D : va_G) {cl : List vw_C} {tys : List (ClassId × FieldType)} {ι : Nat → ClassId} (hx : gx_std vwCl (gty ι) cl tys) (a : Nat → Nat) (x1 : Int32) (x2 : Int32) (x3 : Int32) (S : gx_S) {out : Int32 × gx_S} (h : n_harm x1 x2 x3 S = some out) : gx_mI l D cl tys yX8_harm (.code yX8_harm cX8_harm 4 ((Option.some Jvm.ClassFile.FieldType.int)) :: gx_U) (gx_rm 9) [.ref (a 0), .int x1, .int x2, .int x3] (wM a ι S) (wM a ι) out := by
  unfold n_harm at h
  refine gx_startI (V := [.ref (a 0), .int x1, .int x2, .int x3]) 0 (by decide +kernel) (Nat.le_of_ble_eq_true rfl) rfl (fun Γ hl hD hcl hty hnL C F => ?_)
  subst hl; subst hD; subst hcl; subst hty
  refine gx_aload_0 C dX8_harm_0 rfl ?_
  refine gx_iload_1 C dX8_harm_1 rfl ?_
  refine gx_iload_2 C dX8_harm_2 rfl ?_
  obtain ⟨v2, e1, h⟩ := gi_cp h
  refine gc_IV C (cn_areTwo (gx_l Γ) (gx_D Γ) hx a _ _ _ e1) (gx_cw C gx_uu lk_X8_200 (by decide) (by decide)) (cls_X8 hx).1 (gs_recv (q := 0) lt_M_Model (oc_M_Model a ι _)) rfl rfl (Nat.le_of_ble_eq_true rfl) ⟨Nat.zero_le _, Nat.zero_le _⟩ dX8_harm_3 ?_
  refine gx_if_ne (tgt := 12) C dX8_harm_6 (by decide) (fun hc19 => ?_) (fun hc19 => ?_)
  · have h := gi_f hc19 h
    refine gx_iload_3 C dX8_harm_12 rfl ?_
    refine gx_iconst0 C dX8_harm_13 ?_
    refine gx_iconst2 C dX8_harm_14 ?_
    obtain ⟨v4, e3, h⟩ := gi_cp h
    refine gc_IS C (cn_within (gx_l Γ) (gx_D Γ) hx a _ _ _ _ e3) (gx_cwS C gx_uu lk_X8_94 (by decide) (by decide)) rfl rfl (Nat.le_of_ble_eq_true rfl) ⟨Nat.zero_le _, Nat.zero_le _⟩ dX8_harm_15 ?_
    refine gx_if_ne (tgt := 24) C dX8_harm_18 (by decide) (fun hc18 => ?_) (fun hc18 => ?_)
    · have h := gi_f hc18 h
      refine gx_aload_0 C dX8_harm_24 rfl ?_
      refine gx_iload_1 C dX8_harm_25 rfl ?_
      refine gx_iload_2 C dX8_harm_26 rfl ?_
      obtain ⟨v6, e5, h⟩ := gi_cp h
      refine gc_IV C (cn_fits (gx_l Γ) (gx_D Γ) hx a _ _ _ e5) (gx_cw C gx_uu lk_X8_203 (by decide) (by decide)) (cls_X8 hx).1 (gs_recv (q := 0) lt_M_Model (oc_M_Model a ι _)) rfl rfl (Nat.le_of_ble_eq_true rfl) ⟨Nat.zero_le _, Nat.zero_le _⟩ dX8_harm_27 ?_
      refine gx_if_ne (tgt := 36) C dX8_harm_30 (by decide) (fun hc17 => ?_) (fun hc17 => ?_)
      · have h := gi_f hc17 h
        refine gx_aload_0 C dX8_harm_36 rfl ?_
        obtain ⟨v9, S8, e7, h⟩ := gi_cs h
        refine gc_IV C (cn_layBefore (gx_l Γ) (gx_D Γ) hx a _ e7) (gx_cw C gx_uu lk_X8_213 (by decide) (by decide)) (cls_X8 hx).1 (gs_recv (q := 0) lt_M_Model (oc_M_Model a ι _)) rfl rfl (Nat.le_of_ble_eq_true rfl) ⟨Nat.zero_le _, Nat.zero_le _⟩ dX8_harm_37 ?_
        refine gx_if_eq (tgt := 56) C dX8_harm_40 (by decide) (fun hc16 => ?_) (fun hc16 => ?_)
        · have h := gi_t hc16 h
          refine gx_iconstm1 C dX8_harm_56 ?_
          exact gx_iret C F rfl dX8_harm_57 (Option.some.inj h)
        · have h := gi_f hc16 h
          refine gx_aload_0 C dX8_harm_43 rfl ?_
          refine gx_iload_1 C dX8_harm_44 rfl ?_
          refine gx_iload_2 C dX8_harm_45 rfl ?_
          refine gx_iconstm1 C dX8_harm_46 ?_
          refine gx_iconstm1 C dX8_harm_47 ?_
          refine gx_iconst0 C dX8_harm_48 ?_
          refine gx_iconstm1 C dX8_harm_49 ?_
          obtain ⟨v12, S11, e10, h⟩ := gi_cs h
          refine gc_IV C (cn_layBehind (gx_l Γ) (gx_D Γ) hx a _ _ _ _ _ _ _ e10) (gx_cw C gx_uu lk_X8_217 (by decide) (by decide)) (cls_X8 hx).1 (gs_recv (q := 0) lt_M_Model (oc_M_Model a ι _)) rfl rfl (Nat.le_of_ble_eq_true rfl) ⟨Nat.zero_le _, Nat.zero_le _⟩ dX8_harm_50 ?_
          refine gx_if_ne (tgt := 58) C dX8_harm_53 (by decide) (fun hc15 => ?_) (fun hc15 => ?_)
          · have h := gi_f hc15 h
            refine gx_iload_3 C dX8_harm_58 rfl ?_
            refine gx_iconst2 C dX8_harm_59 ?_
            refine gx_icmp_ne (tgt := 70) C dX8_harm_60 (by decide) (fun hc14 => ?_) (fun hc14 => ?_)
            · have h := gi_f hc14 h
              refine gx_aload_0 C dX8_harm_70 rfl ?_
              refine gx_iload_3 C dX8_harm_71 rfl ?_
              refine gx_iconst1 C dX8_harm_72 ?_
              refine gx_icmp_ne (tgt := 80) C dX8_harm_73 (by decide) (fun hc13 => ?_) (fun hc13 => ?_)
              · have h := gi_f hc13 h
                refine gx_iconst0 C dX8_harm_80 ?_
                exact gx_weak (gx_le_k rfl (gx_le_n (gx_le_n (gx_le_n gx_le_0)))) (bn_harm_81 hx C ⟨F, hnL⟩ h)
              · have h := gi_t hc13 h
                refine gx_iconst1 C dX8_harm_76 ?_
                refine gx_goto (tgt := 81) C dX8_harm_77 (by decide) ?_
                exact gx_weak (gx_le_k rfl (gx_le_n (gx_le_n (gx_le_n gx_le_0)))) (bn_harm_81 hx C ⟨F, hnL⟩ h)
            · have h := gi_t hc14 h
              refine gx_aload_0 C dX8_harm_63 rfl ?_
              refine gs_getf (q := 0) C fl_X8_210 (cls_X8 hx) lt_M_Model (oc_M_Model a ι _) rfl dX8_harm_64 ?_
              refine gx_goto (tgt := 84) C dX8_harm_67 (by decide) ?_
              exact gx_iret C F rfl dX8_harm_84 (Option.some.inj h)
          · have h := gi_t hc15 h
            refine gx_iconstm1 C dX8_harm_56 ?_
            exact gx_iret C F rfl dX8_harm_57 (Option.some.inj h)
      · have h := gi_t hc17 h
        refine gx_bipush (v := (-103)) C dX8_harm_33 (by decide) ?_
        exact gx_iret C F rfl dX8_harm_35 (Option.some.inj h)
    · have h := gi_t hc18 h
      refine gx_bipush (v := (-102)) C dX8_harm_21 (by decide) ?_
      exact gx_iret C F rfl dX8_harm_23 (Option.some.inj h)
  · have h := gi_t hc19 h
    refine gx_bipush (v := (-101)) C dX8_harm_9 (by decide) ?_
    exact gx_iret C F rfl dX8_harm_11 (Option.some.inj h)
def n_isBelow_38 (k4 : Int32 × Int32 → Option (Int32)) (x1 : Int32) (x3 : Int32) (s0 : Int32) (S : gx_S) : Option (Int32) := k4 (s0, (x3 + 1))
set_option maxRecDepth 20000 in
set_option maxHeartbeats 1000000 in
theorem bn_isBelow_38 {Γ : gx_T} {ι : Nat → ClassId} {a : Nat → Nat} {out : Int32} {S : gx_S} (hx : gx_std vwCl (gty ι) (gx_cl Γ) (gx_ty Γ)) (C : gx_ok Γ cX8_isBelow RX8 gx_U 0) (F : gx_finI Γ ((Option.some Jvm.ClassFile.FieldType.boolean)) (wM a ι) (out, S) ∧ gx_nL Γ = 4) {k4 : Int32 × Int32 → Option (Int32)} {x1 : Int32} {x3 : Int32} {s0 : Int32} (hk4 : ∀ (x27 : Int32) (x37 : Int32), k4 (x27, x37) = some out → gx_G Γ 0 0 4 [.ref (a 0), .int x1, .int x27, .int x37] [] (wM a ι S)) (h : n_isBelow_38 k4 x1 x3 s0 S = some out) : gx_G Γ 0 0 38 [.ref (a 0), .int x1, .null, .int x3] [.int s0] (wM a ι S) := by
  obtain ⟨F, hnL⟩ := F
  unfold n_isBelow_38 at h
  refine gx_istore_2 C dX8_isBelow_38 (by rw [hnL]; decide) trivial ?_
  refine gx_iinc1 C dX8_isBelow_39 rfl (by rw [hnL]; decide) trivial ?_
  refine gx_goto (tgt := 4) C dX8_isBelow_42 (by decide) ?_
  exact gx_weak (gx_le_k rfl (gx_le_k rfl (gx_le_k rfl (gx_le_k rfl gx_le_0)))) (hk4 _ _ h)
def n_isBelow_37 (k4 : Int32 × Int32 → Option (Int32)) (x1 : Int32) (x3 : Int32) (S : gx_S) : Option (Int32) := n_isBelow_38 k4 x1 x3 0 S
set_option maxRecDepth 20000 in
set_option maxHeartbeats 1000000 in
theorem bn_isBelow_37 {Γ : gx_T} {ι : Nat → ClassId} {a : Nat → Nat} {out : Int32} {S : gx_S} (hx : gx_std vwCl (gty ι) (gx_cl Γ) (gx_ty Γ)) (C : gx_ok Γ cX8_isBelow RX8 gx_U 0) (F : gx_finI Γ ((Option.some Jvm.ClassFile.FieldType.boolean)) (wM a ι) (out, S) ∧ gx_nL Γ = 4) {k4 : Int32 × Int32 → Option (Int32)} {x1 : Int32} {x3 : Int32} (hk4 : ∀ (x27 : Int32) (x37 : Int32), k4 (x27, x37) = some out → gx_G Γ 0 0 4 [.ref (a 0), .int x1, .int x27, .int x37] [] (wM a ι S)) (h : n_isBelow_37 k4 x1 x3 S = some out) : gx_G Γ 0 0 37 [.ref (a 0), .int x1, .null, .int x3] [] (wM a ι S) := by
  obtain ⟨F, hnL⟩ := F
  unfold n_isBelow_37 at h
  refine gx_iconst0 C dX8_isBelow_37 ?_
  exact gx_weak (gx_le_k rfl (gx_le_k rfl (gx_le_n (gx_le_k rfl gx_le_0)))) (bn_isBelow_38 hx C ⟨F, hnL⟩ hk4 h)
def n_isBelow_4 (x1 : Int32) (S : gx_S) (t : Int32 × Int32) (k4 : Int32 × Int32 → Option (Int32)) : Option (Int32) := match t with
  | (x2, x3) => if (S 0 9) ≤ x3 then gx_bz x2 (some x2) else if x2 = 0 then n_isBelow_37 k4 x1 x3 S else gx_ck 8 x3 (if x1 < ((S 21 x3.toNatClampNeg) - (S 22 x3.toNatClampNeg)) then n_isBelow_37 k4 x1 x3 S else n_isBelow_38 k4 x1 x3 1 S)
set_option maxRecDepth 20000 in
set_option maxHeartbeats 1000000 in
theorem bn_isBelow_4 {Γ : gx_T} {ι : Nat → ClassId} {a : Nat → Nat} {out : Int32} {S : gx_S} (hx : gx_std vwCl (gty ι) (gx_cl Γ) (gx_ty Γ)) (C : gx_ok Γ cX8_isBelow RX8 gx_U 0) (F : gx_finI Γ ((Option.some Jvm.ClassFile.FieldType.boolean)) (wM a ι) (out, S) ∧ gx_nL Γ = 4) {k4 : Int32 × Int32 → Option (Int32)} {x1 : Int32} {x2 : Int32} {x3 : Int32} (hk4 : ∀ (x27 : Int32) (x37 : Int32), k4 (x27, x37) = some out → gx_G Γ 0 0 4 [.ref (a 0), .int x1, .int x27, .int x37] [] (wM a ι S)) (h : n_isBelow_4 x1 S (x2, x3) k4 = some out) : gx_G Γ 0 0 4 [.ref (a 0), .int x1, .int x2, .int x3] [] (wM a ι S) := by
  obtain ⟨F, hnL⟩ := F
  unfold n_isBelow_4 at h
  dsimp only at h
  refine gx_iload_3 C dX8_isBelow_4 rfl ?_
  refine gx_aload_0 C dX8_isBelow_5 rfl ?_
  refine gs_getf (q := 0) C fl_X8_101 (cls_X8 hx) lt_M_Model (oc_M_Model a ι _) rfl dX8_isBelow_6 ?_
  refine gx_icmp_ge (tgt := 45) C dX8_isBelow_9 (by decide) (fun hc5 => ?_) (fun hc5 => ?_)
  · have h := gi_t hc5 h
    refine gx_iload_2 C dX8_isBelow_45 rfl ?_
    obtain ⟨hz1, h⟩ := gi_bz h
    exact gx_iret C F hz1.1 dX8_isBelow_46 (congrArg (fun z => (z, S)) (Option.some.inj h))
  · have h := gi_f hc5 h
    refine gx_iload_2 C dX8_isBelow_12 rfl ?_
    refine gx_if_eq (tgt := 37) C dX8_isBelow_13 (by decide) (fun hc4 => ?_) (fun hc4 => ?_)
    · have h := gi_t hc4 h
      exact gx_weak (gx_le_k rfl (gx_le_k rfl (gx_le_n (gx_le_k rfl gx_le_0)))) (bn_isBelow_37 hx C ⟨F, hnL⟩ hk4 h)
    · have h := gi_f hc4 h
      refine gx_aload_0 C dX8_isBelow_16 rfl ?_
      refine gs_getf (q := 0) C fl_X8_76 (cls_X8 hx) lt_M_Model (oc_M_Model a ι _) rfl dX8_isBelow_17 ?_
      refine gx_iload_3 C dX8_isBelow_20 rfl ?_
      obtain ⟨hi2, h⟩ := gi_ck h
      refine gs_iald (q := 21) C (ac_M_M_spareBefore hx a) lt_M_M_spareBefore hi2 dX8_isBelow_21 ?_
      refine gx_aload_0 C dX8_isBelow_22 rfl ?_
      refine gs_getf (q := 0) C fl_X8_79 (cls_X8 hx) lt_M_Model (oc_M_Model a ι _) rfl dX8_isBelow_23 ?_
      refine gx_iload_3 C dX8_isBelow_26 rfl ?_
      refine gs_iald (q := 22) C (ac_M_M_spareBehind hx a) lt_M_M_spareBehind hi2 dX8_isBelow_27 ?_
      refine gx_isub C dX8_isBelow_28 ?_
      refine gx_iload_1 C dX8_isBelow_29 rfl ?_
      refine gx_icmp_gt (tgt := 37) C dX8_isBelow_30 (by decide) (fun hc3 => ?_) (fun hc3 => ?_)
      · have h := gi_t hc3 h
        exact gx_weak (gx_le_k rfl (gx_le_k rfl (gx_le_n (gx_le_k rfl gx_le_0)))) (bn_isBelow_37 hx C ⟨F, hnL⟩ hk4 h)
      · have h := gi_f hc3 h
        refine gx_iconst1 C dX8_isBelow_33 ?_
        refine gx_goto (tgt := 38) C dX8_isBelow_34 (by decide) ?_
        exact gx_weak (gx_le_k rfl (gx_le_k rfl (gx_le_n (gx_le_k rfl gx_le_0)))) (bn_isBelow_38 hx C ⟨F, hnL⟩ hk4 h)
def n_isBelow (x1 : Int32) (S : gx_S) : Option (Int32) := gx_loop (n_isBelow_4 x1 S) 5000 (1, 0)
set_option maxRecDepth 20000 in
set_option maxHeartbeats 1000000 in
theorem cn_isBelow (l : Launch) (D : va_G) {cl : List vw_C} {tys : List (ClassId × FieldType)} {ι : Nat → ClassId} (hx : gx_std vwCl (gty ι) cl tys) (a : Nat → Nat) (x1 : Int32) (S : gx_S) {out : Int32} (h : n_isBelow x1 S = some out) : gx_mI l D cl tys yX8_isBelow (.code yX8_isBelow cX8_isBelow 4 ((Option.some Jvm.ClassFile.FieldType.boolean)) :: gx_U) (gx_rm 0) [.ref (a 0), .int x1] (wM a ι S) (wM a ι) (out, S) := by
  unfold n_isBelow at h
  refine gx_startI (V := [.ref (a 0), .int x1, .null, .null]) 2 (by decide +kernel) (Nat.le_of_ble_eq_true rfl) rfl (fun Γ hl hD hcl hty hnL C F => ?_)
  subst hl; subst hD; subst hcl; subst hty
  refine gx_iconst1 C dX8_isBelow_0 ?_
  refine gx_istore_2 C dX8_isBelow_1 (by rw [hnL]; decide) trivial ?_
  refine gx_iconst0 C dX8_isBelow_2 ?_
  refine gx_istore_3 C dX8_isBelow_3 (by rw [hnL]; decide) trivial ?_
  refine gx_weak (gx_le_k rfl (gx_le_k rfl (gx_le_k rfl (gx_le_k rfl gx_le_0)))) (gi_loop (P := fun t => gx_G Γ 0 0 4 [.ref (a 0), .int x1, .int t.1, .int t.2] [] (wM a ι S)) (fun kk t hk h => ?_) 5000 _ h)
  obtain ⟨x29, x39⟩ := t
  exact bn_isBelow_4 hx C ⟨F, hnL⟩ (k4 := kk) (fun x28 x38 h => hk (x28, x38) h) h
def n_soldOff_112 (k71 : Int32 × Int32 → Option (Int32 × gx_S)) (x1 : Int32) (x2 : Int32) (x3 : Int32) (x4 : Int32) (x6 : Int32) (s0 : Int32) (s1 : Int32) (S : gx_S) : Option (Int32 × gx_S) := k71 ((s0 ||| s1), (x6 + 1))
set_option maxRecDepth 20000 in
set_option maxHeartbeats 1000000 in
theorem bn_soldOff_112 {Γ : gx_T} {ι : Nat → ClassId} {a : Nat → Nat} {out : Int32 × gx_S} (hx : gx_std vwCl (gty ι) (gx_cl Γ) (gx_ty Γ)) (C : gx_ok Γ cX8_soldOff RX8 gx_U 9) (F : gx_finI Γ ((Option.some Jvm.ClassFile.FieldType.int)) (wM a ι) out ∧ gx_nL Γ = 9) {k71 : Int32 × Int32 → Option (Int32 × gx_S)} {x1 : Int32} {x2 : Int32} {x3 : Int32} {x4 : Int32} {x6 : Int32} {s0 : Int32} {s1 : Int32} {S : gx_S} (hk71 : ∀ (x57 : Int32) (x67 : Int32), k71 (x57, x67) = some out → gx_G Γ 0 0 71 [.ref (a 0), .int x1, .int x2, .int x3, .int x4, .int x57, .int x67, .null, .null] [] (wM a ι S)) (h : n_soldOff_112 k71 x1 x2 x3 x4 x6 s0 s1 S = some out) : gx_G Γ 0 0 112 [.ref (a 0), .int x1, .int x2, .int x3, .int x4, .null, .int x6, .null, .null] [.int s1, .int s0] (wM a ι S) := by
  obtain ⟨F, hnL⟩ := F
  unfold n_soldOff_112 at h
  refine gx_ior C dX8_soldOff_112 ?_
  refine gx_istore C dX8_soldOff_113 (by rw [hnL]; decide) trivial ?_
  refine gx_iinc1 C dX8_soldOff_115 rfl (by rw [hnL]; decide) trivial ?_
  refine gx_goto (tgt := 71) C dX8_soldOff_118 (by decide) ?_
  exact gx_weak (gx_le_k rfl (gx_le_k rfl (gx_le_k rfl (gx_le_k rfl (gx_le_k rfl (gx_le_k rfl (gx_le_k rfl (gx_le_n (gx_le_n gx_le_0))))))))) (hk71 _ _ h)
def n_soldOff_104 (k71 : Int32 × Int32 → Option (Int32 × gx_S)) (x1 : Int32) (x2 : Int32) (x3 : Int32) (x4 : Int32) (x6 : Int32) (s0 : Int32) (S : gx_S) : Option (Int32 × gx_S) := n_soldOff_112 k71 x1 x2 x3 x4 x6 s0 ((1 : Int32) <<< (x6 &&& 31)) S
set_option maxRecDepth 20000 in
set_option maxHeartbeats 1000000 in
theorem bn_soldOff_104 {Γ : gx_T} {ι : Nat → ClassId} {a : Nat → Nat} {out : Int32 × gx_S} (hx : gx_std vwCl (gty ι) (gx_cl Γ) (gx_ty Γ)) (C : gx_ok Γ cX8_soldOff RX8 gx_U 9) (F : gx_finI Γ ((Option.some Jvm.ClassFile.FieldType.int)) (wM a ι) out ∧ gx_nL Γ = 9) {k71 : Int32 × Int32 → Option (Int32 × gx_S)} {x1 : Int32} {x2 : Int32} {x3 : Int32} {x4 : Int32} {x6 : Int32} {s0 : Int32} {S : gx_S} (hk71 : ∀ (x57 : Int32) (x67 : Int32), k71 (x57, x67) = some out → gx_G Γ 0 0 71 [.ref (a 0), .int x1, .int x2, .int x3, .int x4, .int x57, .int x67, .null, .null] [] (wM a ι S)) (h : n_soldOff_104 k71 x1 x2 x3 x4 x6 s0 S = some out) : gx_G Γ 0 0 104 [.ref (a 0), .int x1, .int x2, .int x3, .int x4, .null, .int x6, .null, .null] [.int s0] (wM a ι S) := by
  obtain ⟨F, hnL⟩ := F
  unfold n_soldOff_104 at h
  refine gx_iconst1 C dX8_soldOff_104 ?_
  refine gx_iload C dX8_soldOff_105 rfl ?_
  refine gx_ishl C dX8_soldOff_107 ?_
  refine gx_goto (tgt := 112) C dX8_soldOff_108 (by decide) ?_
  exact gx_weak (gx_le_k rfl (gx_le_k rfl (gx_le_k rfl (gx_le_k rfl (gx_le_k rfl (gx_le_n (gx_le_k rfl (gx_le_n (gx_le_n gx_le_0))))))))) (bn_soldOff_112 hx C ⟨F, hnL⟩ hk71 h)
def n_soldOff_224 (k127 : Int32 × Int32 × gx_S → Option (Int32 × gx_S)) (x1 : Int32) (x2 : Int32) (x3 : Int32) (x4 : Int32) (x5 : Int32) (x7 : Int32) (s0 : Int32) (S : gx_S) : Option (Int32 × gx_S) := k127 (s0, (x7 + 1), S)
set_option maxRecDepth 20000 in
set_option maxHeartbeats 1000000 in
theorem bn_soldOff_224 {Γ : gx_T} {ι : Nat → ClassId} {a : Nat → Nat} {out : Int32 × gx_S} (hx : gx_std vwCl (gty ι) (gx_cl Γ) (gx_ty Γ)) (C : gx_ok Γ cX8_soldOff RX8 gx_U 9) (F : gx_finI Γ ((Option.some Jvm.ClassFile.FieldType.int)) (wM a ι) out ∧ gx_nL Γ = 9) {k127 : Int32 × Int32 × gx_S → Option (Int32 × gx_S)} {x1 : Int32} {x2 : Int32} {x3 : Int32} {x4 : Int32} {x5 : Int32} {x7 : Int32} {s0 : Int32} {S : gx_S} (hk127 : ∀ (x67 : Int32) (x77 : Int32) (S7 : gx_S), k127 (x67, x77, S7) = some out → gx_G Γ 0 0 127 [.ref (a 0), .int x1, .int x2, .int x3, .int x4, .int x5, .int x67, .int x77, .null] [] (wM a ι S7)) (h : n_soldOff_224 k127 x1 x2 x3 x4 x5 x7 s0 S = some out) : gx_G Γ 0 0 224 [.ref (a 0), .int x1, .int x2, .int x3, .int x4, .int x5, .null, .int x7, .null] [.int s0] (wM a ι S) := by
  obtain ⟨F, hnL⟩ := F
  unfold n_soldOff_224 at h
  refine gx_istore C dX8_soldOff_224 (by rw [hnL]; decide) trivial ?_
  refine gx_iinc1 C dX8_soldOff_226 rfl (by rw [hnL]; decide) trivial ?_
  refine gx_goto (tgt := 127) C dX8_soldOff_229 (by decide) ?_
  exact gx_weak (gx_le_k rfl (gx_le_k rfl (gx_le_k rfl (gx_le_k rfl (gx_le_k rfl (gx_le_k rfl (gx_le_k rfl (gx_le_k rfl (gx_le_n gx_le_0))))))))) (hk127 _ _ _ h)
def n_soldOff_222 (k127 : Int32 × Int32 × gx_S → Option (Int32 × gx_S)) (x1 : Int32) (x2 : Int32) (x3 : Int32) (x4 : Int32) (x5 : Int32) (x6 : Int32) (x7 : Int32) (S : gx_S) : Option (Int32 × gx_S) := n_soldOff_224 k127 x1 x2 x3 x4 x5 x7 x6 S
set_option maxRecDepth 20000 in
set_option maxHeartbeats 1000000 in
theorem bn_soldOff_222 {Γ : gx_T} {ι : Nat → ClassId} {a : Nat → Nat} {out : Int32 × gx_S} (hx : gx_std vwCl (gty ι) (gx_cl Γ) (gx_ty Γ)) (C : gx_ok Γ cX8_soldOff RX8 gx_U 9) (F : gx_finI Γ ((Option.some Jvm.ClassFile.FieldType.int)) (wM a ι) out ∧ gx_nL Γ = 9) {k127 : Int32 × Int32 × gx_S → Option (Int32 × gx_S)} {x1 : Int32} {x2 : Int32} {x3 : Int32} {x4 : Int32} {x5 : Int32} {x6 : Int32} {x7 : Int32} {S : gx_S} (hk127 : ∀ (x67 : Int32) (x77 : Int32) (S7 : gx_S), k127 (x67, x77, S7) = some out → gx_G Γ 0 0 127 [.ref (a 0), .int x1, .int x2, .int x3, .int x4, .int x5, .int x67, .int x77, .null] [] (wM a ι S7)) (h : n_soldOff_222 k127 x1 x2 x3 x4 x5 x6 x7 S = some out) : gx_G Γ 0 0 222 [.ref (a 0), .int x1, .int x2, .int x3, .int x4, .int x5, .int x6, .int x7, .null] [] (wM a ι S) := by
  obtain ⟨F, hnL⟩ := F
  unfold n_soldOff_222 at h
  refine gx_iload C dX8_soldOff_222 rfl ?_
  exact gx_weak (gx_le_k rfl (gx_le_k rfl (gx_le_k rfl (gx_le_k rfl (gx_le_k rfl (gx_le_k rfl (gx_le_n (gx_le_k rfl (gx_le_n gx_le_0))))))))) (bn_soldOff_224 hx C ⟨F, hnL⟩ hk127 h)
def n_soldOff_187 (k127 : Int32 × Int32 × gx_S → Option (Int32 × gx_S)) (x1 : Int32) (x2 : Int32) (x3 : Int32) (x4 : Int32) (x5 : Int32) (x6 : Int32) (x7 : Int32) (s0 : Int32) (S : gx_S) : Option (Int32 × gx_S) := if s0 = 0 then n_soldOff_222 k127 x1 x2 x3 x4 x5 x6 x7 S else gx_cs (n_layBehind x1 x2 (-1) (-1) x7 x3 S) fun v3 S2 => if v3 = 0 then n_soldOff_222 k127 x1 x2 x3 x4 x5 x6 x7 S2 else gx_cp (n_isBelow x4 S2) fun v5 => if v5 = 0 then n_soldOff_222 k127 x1 x2 x3 x4 x5 x6 x7 S2 else n_soldOff_224 k127 x1 x2 x3 x4 x5 x7 x7 S2
set_option maxRecDepth 20000 in
set_option maxHeartbeats 1000000 in
theorem bn_soldOff_187 {Γ : gx_T} {ι : Nat → ClassId} {a : Nat → Nat} {out : Int32 × gx_S} (hx : gx_std vwCl (gty ι) (gx_cl Γ) (gx_ty Γ)) (C : gx_ok Γ cX8_soldOff RX8 gx_U 9) (F : gx_finI Γ ((Option.some Jvm.ClassFile.FieldType.int)) (wM a ι) out ∧ gx_nL Γ = 9) {k127 : Int32 × Int32 × gx_S → Option (Int32 × gx_S)} {x1 : Int32} {x2 : Int32} {x3 : Int32} {x4 : Int32} {x5 : Int32} {x6 : Int32} {x7 : Int32} {s0 : Int32} {S : gx_S} (hk127 : ∀ (x67 : Int32) (x77 : Int32) (S7 : gx_S), k127 (x67, x77, S7) = some out → gx_G Γ 0 0 127 [.ref (a 0), .int x1, .int x2, .int x3, .int x4, .int x5, .int x67, .int x77, .null] [] (wM a ι S7)) (h : n_soldOff_187 k127 x1 x2 x3 x4 x5 x6 x7 s0 S = some out) : gx_G Γ 0 0 187 [.ref (a 0), .int x1, .int x2, .int x3, .int x4, .int x5, .int x6, .int x7, .null] [.int s0] (wM a ι S) := by
  obtain ⟨F, hnL⟩ := F
  unfold n_soldOff_187 at h
  refine gx_istore C dX8_soldOff_187 (by rw [hnL]; decide) trivial ?_
  refine gx_iload C dX8_soldOff_189 rfl ?_
  refine gx_if_eq (tgt := 222) C dX8_soldOff_191 (by decide) (fun hc8 => ?_) (fun hc8 => ?_)
  · have h := gi_t hc8 h
    exact gx_weak (gx_le_k rfl (gx_le_k rfl (gx_le_k rfl (gx_le_k rfl (gx_le_k rfl (gx_le_k rfl (gx_le_k rfl (gx_le_k rfl (gx_le_n gx_le_0))))))))) (bn_soldOff_222 hx C ⟨F, hnL⟩ hk127 h)
  · have h := gi_f hc8 h
    refine gx_aload_0 C dX8_soldOff_194 rfl ?_
    refine gx_iload_1 C dX8_soldOff_195 rfl ?_
    refine gx_iload_2 C dX8_soldOff_196 rfl ?_
    refine gx_iconstm1 C dX8_soldOff_197 ?_
    refine gx_iconstm1 C dX8_soldOff_198 ?_
    refine gx_iload C dX8_soldOff_199 rfl ?_
    refine gx_iload_3 C dX8_soldOff_201 rfl ?_
    obtain ⟨v3, S2, e1, h⟩ := gi_cs h
    refine gc_IV C (cn_layBehind (gx_l Γ) (gx_D Γ) hx a _ _ _ _ _ _ _ e1) (gx_cw C gx_uu lk_X8_217 (by decide) (by decide)) (cls_X8 hx).1 (gs_recv (q := 0) lt_M_Model (oc_M_Model a ι _)) rfl rfl (Nat.le_of_ble_eq_true rfl) ⟨Nat.zero_le _, Nat.zero_le _⟩ dX8_soldOff_202 ?_
    refine gx_if_eq (tgt := 222) C dX8_soldOff_205 (by decide) (fun hc7 => ?_) (fun hc7 => ?_)
    · have h := gi_t hc7 h
      exact gx_weak (gx_le_k rfl (gx_le_k rfl (gx_le_k rfl (gx_le_k rfl (gx_le_k rfl (gx_le_k rfl (gx_le_k rfl (gx_le_k rfl (gx_le_n gx_le_0))))))))) (bn_soldOff_222 hx C ⟨F, hnL⟩ hk127 h)
    · have h := gi_f hc7 h
      refine gx_aload_0 C dX8_soldOff_208 rfl ?_
      refine gx_iload C dX8_soldOff_209 rfl ?_
      obtain ⟨v5, e4, h⟩ := gi_cp h
      refine gc_IV C (cn_isBelow (gx_l Γ) (gx_D Γ) hx a _ _ e4) (gx_cw C gx_uu lk_X8_225 (by decide) (by decide)) (cls_X8 hx).1 (gs_recv (q := 0) lt_M_Model (oc_M_Model a ι _)) rfl rfl (Nat.le_of_ble_eq_true rfl) ⟨Nat.zero_le _, Nat.zero_le _⟩ dX8_soldOff_211 ?_
      refine gx_if_eq (tgt := 222) C dX8_soldOff_214 (by decide) (fun hc6 => ?_) (fun hc6 => ?_)
      · have h := gi_t hc6 h
        exact gx_weak (gx_le_k rfl (gx_le_k rfl (gx_le_k rfl (gx_le_k rfl (gx_le_k rfl (gx_le_k rfl (gx_le_k rfl (gx_le_k rfl (gx_le_n gx_le_0))))))))) (bn_soldOff_222 hx C ⟨F, hnL⟩ hk127 h)
      · have h := gi_f hc6 h
        refine gx_iload C dX8_soldOff_217 rfl ?_
        refine gx_goto (tgt := 224) C dX8_soldOff_219 (by decide) ?_
        exact gx_weak (gx_le_k rfl (gx_le_k rfl (gx_le_k rfl (gx_le_k rfl (gx_le_k rfl (gx_le_k rfl (gx_le_n (gx_le_k rfl (gx_le_n gx_le_0))))))))) (bn_soldOff_224 hx C ⟨F, hnL⟩ hk127 h)
def n_soldOff_182 (k127 : Int32 × Int32 × gx_S → Option (Int32 × gx_S)) (x1 : Int32) (x2 : Int32) (x3 : Int32) (x4 : Int32) (x5 : Int32) (x6 : Int32) (x7 : Int32) (S : gx_S) : Option (Int32 × gx_S) := n_soldOff_187 k127 x1 x2 x3 x4 x5 x6 x7 1 S
set_option maxRecDepth 20000 in
set_option maxHeartbeats 1000000 in
theorem bn_soldOff_182 {Γ : gx_T} {ι : Nat → ClassId} {a : Nat → Nat} {out : Int32 × gx_S} (hx : gx_std vwCl (gty ι) (gx_cl Γ) (gx_ty Γ)) (C : gx_ok Γ cX8_soldOff RX8 gx_U 9) (F : gx_finI Γ ((Option.some Jvm.ClassFile.FieldType.int)) (wM a ι) out ∧ gx_nL Γ = 9) {k127 : Int32 × Int32 × gx_S → Option (Int32 × gx_S)} {x1 : Int32} {x2 : Int32} {x3 : Int32} {x4 : Int32} {x5 : Int32} {x6 : Int32} {x7 : Int32} {S : gx_S} (hk127 : ∀ (x67 : Int32) (x77 : Int32) (S7 : gx_S), k127 (x67, x77, S7) = some out → gx_G Γ 0 0 127 [.ref (a 0), .int x1, .int x2, .int x3, .int x4, .int x5, .int x67, .int x77, .null] [] (wM a ι S7)) (h : n_soldOff_182 k127 x1 x2 x3 x4 x5 x6 x7 S = some out) : gx_G Γ 0 0 182 [.ref (a 0), .int x1, .int x2, .int x3, .int x4, .int x5, .int x6, .int x7, .null] [] (wM a ι S) := by
  obtain ⟨F, hnL⟩ := F
  unfold n_soldOff_182 at h
  refine gx_iconst1 C dX8_soldOff_182 ?_
  refine gx_goto (tgt := 187) C dX8_soldOff_183 (by decide) ?_
  exact gx_weak (gx_le_k rfl (gx_le_k rfl (gx_le_k rfl (gx_le_k rfl (gx_le_k rfl (gx_le_k rfl (gx_le_k rfl (gx_le_k rfl (gx_le_n gx_le_0))))))))) (bn_soldOff_187 hx C ⟨F, hnL⟩ hk127 h)
def n_soldOff_186 (k127 : Int32 × Int32 × gx_S → Option (Int32 × gx_S)) (x1 : Int32) (x2 : Int32) (x3 : Int32) (x4 : Int32) (x5 : Int32) (x6 : Int32) (x7 : Int32) (S : gx_S) : Option (Int32 × gx_S) := n_soldOff_187 k127 x1 x2 x3 x4 x5 x6 x7 0 S
set_option maxRecDepth 20000 in
set_option maxHeartbeats 1000000 in
theorem bn_soldOff_186 {Γ : gx_T} {ι : Nat → ClassId} {a : Nat → Nat} {out : Int32 × gx_S} (hx : gx_std vwCl (gty ι) (gx_cl Γ) (gx_ty Γ)) (C : gx_ok Γ cX8_soldOff RX8 gx_U 9) (F : gx_finI Γ ((Option.some Jvm.ClassFile.FieldType.int)) (wM a ι) out ∧ gx_nL Γ = 9) {k127 : Int32 × Int32 × gx_S → Option (Int32 × gx_S)} {x1 : Int32} {x2 : Int32} {x3 : Int32} {x4 : Int32} {x5 : Int32} {x6 : Int32} {x7 : Int32} {S : gx_S} (hk127 : ∀ (x67 : Int32) (x77 : Int32) (S7 : gx_S), k127 (x67, x77, S7) = some out → gx_G Γ 0 0 127 [.ref (a 0), .int x1, .int x2, .int x3, .int x4, .int x5, .int x67, .int x77, .null] [] (wM a ι S7)) (h : n_soldOff_186 k127 x1 x2 x3 x4 x5 x6 x7 S = some out) : gx_G Γ 0 0 186 [.ref (a 0), .int x1, .int x2, .int x3, .int x4, .int x5, .int x6, .int x7, .null] [] (wM a ι S) := by
  obtain ⟨F, hnL⟩ := F
  unfold n_soldOff_186 at h
  refine gx_iconst0 C dX8_soldOff_186 ?_
  exact gx_weak (gx_le_k rfl (gx_le_k rfl (gx_le_k rfl (gx_le_k rfl (gx_le_k rfl (gx_le_k rfl (gx_le_k rfl (gx_le_k rfl (gx_le_n gx_le_0))))))))) (bn_soldOff_187 hx C ⟨F, hnL⟩ hk127 h)
def n_soldOff_127 (x1 : Int32) (x2 : Int32) (x3 : Int32) (x4 : Int32) (x5 : Int32) (t : Int32 × Int32 × gx_S) (k127 : Int32 × Int32 × gx_S → Option (Int32 × gx_S)) : Option (Int32 × gx_S) := match t with
  | (x6, x7, S) => if ((1 : Int32) <<< ((S 0 4) &&& 31)) ≤ x7 then some (x6, S) else if (x7 &&& (x5 ^^^ ((-1) : Int32))) = 0 then gx_cp (n_shopsOf x3 S) fun v2 => gx_cp (n_ones x7 S) fun v4 => if 3 < (v2 + v4) then n_soldOff_186 k127 x1 x2 x3 x4 x5 x6 x7 S else if x6 = (-1) then n_soldOff_182 k127 x1 x2 x3 x4 x5 x6 x7 S else gx_cp (n_ones x7 S) fun v6 => gx_cp (n_ones x6 S) fun v8 => if v8 ≤ v6 then n_soldOff_186 k127 x1 x2 x3 x4 x5 x6 x7 S else n_soldOff_182 k127 x1 x2 x3 x4 x5 x6 x7 S else n_soldOff_186 k127 x1 x2 x3 x4 x5 x6 x7 S
set_option maxRecDepth 20000 in
set_option maxHeartbeats 1000000 in
theorem bn_soldOff_127 {Γ : gx_T} {ι : Nat → ClassId} {a : Nat → Nat} {out : Int32 × gx_S} (hx : gx_std vwCl (gty ι) (gx_cl Γ) (gx_ty Γ)) (C : gx_ok Γ cX8_soldOff RX8 gx_U 9) (F : gx_finI Γ ((Option.some Jvm.ClassFile.FieldType.int)) (wM a ι) out ∧ gx_nL Γ = 9) {k127 : Int32 × Int32 × gx_S → Option (Int32 × gx_S)} {x1 : Int32} {x2 : Int32} {x3 : Int32} {x4 : Int32} {x5 : Int32} {x6 : Int32} {x7 : Int32} {S : gx_S} (hk127 : ∀ (x67 : Int32) (x77 : Int32) (S7 : gx_S), k127 (x67, x77, S7) = some out → gx_G Γ 0 0 127 [.ref (a 0), .int x1, .int x2, .int x3, .int x4, .int x5, .int x67, .int x77, .null] [] (wM a ι S7)) (h : n_soldOff_127 x1 x2 x3 x4 x5 (x6, x7, S) k127 = some out) : gx_G Γ 0 0 127 [.ref (a 0), .int x1, .int x2, .int x3, .int x4, .int x5, .int x6, .int x7, .null] [] (wM a ι S) := by
  obtain ⟨F, hnL⟩ := F
  unfold n_soldOff_127 at h
  dsimp only at h
  refine gx_iload C dX8_soldOff_127 rfl ?_
  refine gx_iconst1 C dX8_soldOff_129 ?_
  refine gx_aload_0 C dX8_soldOff_130 rfl ?_
  refine gs_getf (q := 0) C fl_X8_98 (cls_X8 hx) lt_M_Model (oc_M_Model a ι _) rfl dX8_soldOff_131 ?_
  refine gx_ishl C dX8_soldOff_134 ?_
  refine gx_icmp_ge (tgt := 232) C dX8_soldOff_135 (by decide) (fun hc13 => ?_) (fun hc13 => ?_)
  · have h := gi_t hc13 h
    refine gx_iload C dX8_soldOff_232 rfl ?_
    exact gx_iret C F rfl dX8_soldOff_234 (Option.some.inj h)
  · have h := gi_f hc13 h
    refine gx_iload C dX8_soldOff_138 rfl ?_
    refine gx_iload C dX8_soldOff_140 rfl ?_
    refine gx_iconstm1 C dX8_soldOff_142 ?_
    refine gx_ixor C dX8_soldOff_143 ?_
    refine gx_iand C dX8_soldOff_144 ?_
    refine gx_if_ne (tgt := 186) C dX8_soldOff_145 (by decide) (fun hc12 => ?_) (fun hc12 => ?_)
    · have h := gi_f hc12 h
      exact gx_weak (gx_le_k rfl (gx_le_k rfl (gx_le_k rfl (gx_le_k rfl (gx_le_k rfl (gx_le_k rfl (gx_le_k rfl (gx_le_k rfl (gx_le_n gx_le_0))))))))) (bn_soldOff_186 hx C ⟨F, hnL⟩ hk127 h)
    · have h := gi_t hc12 h
      refine gx_aload_0 C dX8_soldOff_148 rfl ?_
      refine gx_iload_3 C dX8_soldOff_149 rfl ?_
      obtain ⟨v2, e1, h⟩ := gi_cp h
      refine gc_IV C (cn_shopsOf (gx_l Γ) (gx_D Γ) hx a _ _ e1) (gx_cw C gx_uu lk_X8_108 (by decide) (by decide)) (cls_X8 hx).1 (gs_recv (q := 0) lt_M_Model (oc_M_Model a ι _)) rfl rfl (Nat.le_of_ble_eq_true rfl) ⟨Nat.zero_le _, Nat.zero_le _⟩ dX8_soldOff_150 ?_
      refine gx_iload C dX8_soldOff_153 rfl ?_
      obtain ⟨v4, e3, h⟩ := gi_cp h
      refine gc_IS C (cn_ones (gx_l Γ) (gx_D Γ) hx a _ _ e3) (gx_cwS C gx_uu lk_X8_188 (by decide) (by decide)) rfl rfl (Nat.le_of_ble_eq_true rfl) ⟨Nat.zero_le _, Nat.zero_le _⟩ dX8_soldOff_155 ?_
      refine gx_iadd C dX8_soldOff_158 ?_
      refine gx_iconst3 C dX8_soldOff_159 ?_
      refine gx_icmp_gt (tgt := 186) C dX8_soldOff_160 (by decide) (fun hc11 => ?_) (fun hc11 => ?_)
      · have h := gi_t hc11 h
        exact gx_weak (gx_le_k rfl (gx_le_k rfl (gx_le_k rfl (gx_le_k rfl (gx_le_k rfl (gx_le_k rfl (gx_le_k rfl (gx_le_k rfl (gx_le_n gx_le_0))))))))) (bn_soldOff_186 hx C ⟨F, hnL⟩ hk127 h)
      · have h := gi_f hc11 h
        refine gx_iload C dX8_soldOff_163 rfl ?_
        refine gx_iconstm1 C dX8_soldOff_165 ?_
        refine gx_icmp_eq (tgt := 182) C dX8_soldOff_166 (by decide) (fun hc10 => ?_) (fun hc10 => ?_)
        · have h := gi_t hc10 h
          exact gx_weak (gx_le_k rfl (gx_le_k rfl (gx_le_k rfl (gx_le_k rfl (gx_le_k rfl (gx_le_k rfl (gx_le_k rfl (gx_le_k rfl (gx_le_n gx_le_0))))))))) (bn_soldOff_182 hx C ⟨F, hnL⟩ hk127 h)
        · have h := gi_f hc10 h
          refine gx_iload C dX8_soldOff_169 rfl ?_
          obtain ⟨v6, e5, h⟩ := gi_cp h
          refine gc_IS C (cn_ones (gx_l Γ) (gx_D Γ) hx a _ _ e5) (gx_cwS C gx_uu lk_X8_188 (by decide) (by decide)) rfl rfl (Nat.le_of_ble_eq_true rfl) ⟨Nat.zero_le _, Nat.zero_le _⟩ dX8_soldOff_171 ?_
          refine gx_iload C dX8_soldOff_174 rfl ?_
          obtain ⟨v8, e7, h⟩ := gi_cp h
          refine gc_IS C (cn_ones (gx_l Γ) (gx_D Γ) hx a _ _ e7) (gx_cwS C gx_uu lk_X8_188 (by decide) (by decide)) rfl rfl (Nat.le_of_ble_eq_true rfl) ⟨Nat.zero_le _, Nat.zero_le _⟩ dX8_soldOff_176 ?_
          refine gx_icmp_ge (tgt := 186) C dX8_soldOff_179 (by decide) (fun hc9 => ?_) (fun hc9 => ?_)
          · have h := gi_t hc9 h
            exact gx_weak (gx_le_k rfl (gx_le_k rfl (gx_le_k rfl (gx_le_k rfl (gx_le_k rfl (gx_le_k rfl (gx_le_k rfl (gx_le_k rfl (gx_le_n gx_le_0))))))))) (bn_soldOff_186 hx C ⟨F, hnL⟩ hk127 h)
          · have h := gi_f hc9 h
            exact gx_weak (gx_le_k rfl (gx_le_k rfl (gx_le_k rfl (gx_le_k rfl (gx_le_k rfl (gx_le_k rfl (gx_le_k rfl (gx_le_k rfl (gx_le_n gx_le_0))))))))) (bn_soldOff_182 hx C ⟨F, hnL⟩ hk127 h)
def n_soldOff_71 (x1 : Int32) (x2 : Int32) (x3 : Int32) (x4 : Int32) (S : gx_S) (t : Int32 × Int32) (k71 : Int32 × Int32 → Option (Int32 × gx_S)) : Option (Int32 × gx_S) := match t with
  | (x5, x6) => if (S 0 4) ≤ x6 then gx_loop (n_soldOff_127 x1 x2 x3 x4 x5) 5000 ((-1), 0, S) else gx_ck 6 x6 (if (S 4 x6.toNatClampNeg) = x1 then n_soldOff_104 k71 x1 x2 x3 x4 x6 x5 S else if (S 4 x6.toNatClampNeg) = x2 then n_soldOff_104 k71 x1 x2 x3 x4 x6 x5 S else n_soldOff_112 k71 x1 x2 x3 x4 x6 x5 0 S)
set_option maxRecDepth 20000 in
set_option maxHeartbeats 1000000 in
theorem bn_soldOff_71 {Γ : gx_T} {ι : Nat → ClassId} {a : Nat → Nat} {out : Int32 × gx_S} (hx : gx_std vwCl (gty ι) (gx_cl Γ) (gx_ty Γ)) (C : gx_ok Γ cX8_soldOff RX8 gx_U 9) (F : gx_finI Γ ((Option.some Jvm.ClassFile.FieldType.int)) (wM a ι) out ∧ gx_nL Γ = 9) {k71 : Int32 × Int32 → Option (Int32 × gx_S)} {x1 : Int32} {x2 : Int32} {x3 : Int32} {x4 : Int32} {x5 : Int32} {x6 : Int32} {S : gx_S} (hk71 : ∀ (x57 : Int32) (x67 : Int32), k71 (x57, x67) = some out → gx_G Γ 0 0 71 [.ref (a 0), .int x1, .int x2, .int x3, .int x4, .int x57, .int x67, .null, .null] [] (wM a ι S)) (h : n_soldOff_71 x1 x2 x3 x4 S (x5, x6) k71 = some out) : gx_G Γ 0 0 71 [.ref (a 0), .int x1, .int x2, .int x3, .int x4, .int x5, .int x6, .null, .null] [] (wM a ι S) := by
  obtain ⟨F, hnL⟩ := F
  unfold n_soldOff_71 at h
  dsimp only at h
  refine gx_iload C dX8_soldOff_71 rfl ?_
  refine gx_aload_0 C dX8_soldOff_73 rfl ?_
  refine gs_getf (q := 0) C fl_X8_98 (cls_X8 hx) lt_M_Model (oc_M_Model a ι _) rfl dX8_soldOff_74 ?_
  refine gx_icmp_ge (tgt := 121) C dX8_soldOff_77 (by decide) (fun hc4 => ?_) (fun hc4 => ?_)
  · have h := gi_t hc4 h
    refine gx_iconstm1 C dX8_soldOff_121 ?_
    refine gx_istore C dX8_soldOff_122 (by rw [hnL]; decide) trivial ?_
    refine gx_iconst0 C dX8_soldOff_124 ?_
    refine gx_istore C dX8_soldOff_125 (by rw [hnL]; decide) trivial ?_
    refine gx_weak (gx_le_k rfl (gx_le_k rfl (gx_le_k rfl (gx_le_k rfl (gx_le_k rfl (gx_le_k rfl (gx_le_k rfl (gx_le_k rfl (gx_le_n gx_le_0))))))))) (gi_loop (P := fun t => gx_G Γ 0 0 127 [.ref (a 0), .int x1, .int x2, .int x3, .int x4, .int x5, .int t.1, .int t.2.1, .null] [] (wM a ι t.2.2)) (fun kk t hk h => ?_) 5000 _ h)
    obtain ⟨x69, x79, S'9⟩ := t
    exact bn_soldOff_127 hx C ⟨F, hnL⟩ (k127 := kk) (fun x68 x78 S'8 h => hk (x68, x78, S'8) h) h
  · have h := gi_f hc4 h
    refine gx_iload C dX8_soldOff_80 rfl ?_
    refine gx_aload_0 C dX8_soldOff_82 rfl ?_
    refine gs_getf (q := 0) C fl_X8_20 (cls_X8 hx) lt_M_Model (oc_M_Model a ι _) rfl dX8_soldOff_83 ?_
    refine gx_iload C dX8_soldOff_86 rfl ?_
    obtain ⟨hi1, h⟩ := gi_ck h
    refine gs_iald (q := 4) C (ac_M_M_ownerOf hx a) lt_M_M_ownerOf hi1 dX8_soldOff_88 ?_
    refine gx_iload_1 C dX8_soldOff_89 rfl ?_
    refine gx_icmp_eq (tgt := 104) C dX8_soldOff_90 (by decide) (fun hc3 => ?_) (fun hc3 => ?_)
    · have h := gi_t hc3 h
      exact gx_weak (gx_le_k rfl (gx_le_k rfl (gx_le_k rfl (gx_le_k rfl (gx_le_k rfl (gx_le_n (gx_le_k rfl (gx_le_n (gx_le_n gx_le_0))))))))) (bn_soldOff_104 hx C ⟨F, hnL⟩ hk71 h)
    · have h := gi_f hc3 h
      refine gx_aload_0 C dX8_soldOff_93 rfl ?_
      refine gs_getf (q := 0) C fl_X8_20 (cls_X8 hx) lt_M_Model (oc_M_Model a ι _) rfl dX8_soldOff_94 ?_
      refine gx_iload C dX8_soldOff_97 rfl ?_
      refine gs_iald (q := 4) C (ac_M_M_ownerOf hx a) lt_M_M_ownerOf hi1 dX8_soldOff_99 ?_
      refine gx_iload_2 C dX8_soldOff_100 rfl ?_
      refine gx_icmp_ne (tgt := 111) C dX8_soldOff_101 (by decide) (fun hc2 => ?_) (fun hc2 => ?_)
      · have h := gi_f hc2 h
        refine gx_iconst0 C dX8_soldOff_111 ?_
        exact gx_weak (gx_le_k rfl (gx_le_k rfl (gx_le_k rfl (gx_le_k rfl (gx_le_k rfl (gx_le_n (gx_le_k rfl (gx_le_n (gx_le_n gx_le_0))))))))) (bn_soldOff_112 hx C ⟨F, hnL⟩ hk71 h)
      · have h := gi_t hc2 h
        exact gx_weak (gx_le_k rfl (gx_le_k rfl (gx_le_k rfl (gx_le_k rfl (gx_le_k rfl (gx_le_n (gx_le_k rfl (gx_le_n (gx_le_n gx_le_0))))))))) (bn_soldOff_104 hx C ⟨F, hnL⟩ hk71 h)
def n_soldOff (x1 : Int32) (x2 : Int32) (x3 : Int32) (x4 : Int32) (S : gx_S) : Option (Int32 × gx_S) := gx_cp (n_areTwo x1 x2 S) fun v2 => if v2 = 0 then some ((-101), S) else gx_cp (n_isOwner x3 S) fun v4 => if v4 = 0 then some ((-101), S) else if x3 = x1 then some ((-101), S) else if x3 = x2 then some ((-101), S) else gx_cp (n_within x4 0 9 S) fun v6 => if v6 = 0 then some ((-102), S) else gx_cp (n_fits x1 x2 S) fun v8 => if v8 = 0 then some ((-103), S) else gx_cs (n_layBefore S) fun v11 S10 => if v11 = 0 then some ((-1), S10) else gx_loop (n_soldOff_71 x1 x2 x3 x4 S10) 5000 (0, 0)
set_option maxRecDepth 20000 in
set_option maxHeartbeats 1000000 in
theorem cn_soldOff (l : Launch) (D : va_G) {cl : List vw_C} {tys : List (ClassId × FieldType)} {ι : Nat → ClassId} (hx : gx_std vwCl (gty ι) cl tys) (a : Nat → Nat) (x1 : Int32) (x2 : Int32) (x3 : Int32) (x4 : Int32) (S : gx_S) {out : Int32 × gx_S} (h : n_soldOff x1 x2 x3 x4 S = some out) : gx_mI l D cl tys yX8_soldOff (.code yX8_soldOff cX8_soldOff 9 ((Option.some Jvm.ClassFile.FieldType.int)) :: gx_U) (gx_rm 9) [.ref (a 0), .int x1, .int x2, .int x3, .int x4] (wM a ι S) (wM a ι) out := by
  unfold n_soldOff at h
  refine gx_startI (V := [.ref (a 0), .int x1, .int x2, .int x3, .int x4, .null, .null, .null, .null]) 4 (by decide +kernel) (Nat.le_of_ble_eq_true rfl) rfl (fun Γ hl hD hcl hty hnL C F => ?_)
  subst hl; subst hD; subst hcl; subst hty
  refine gx_aload_0 C dX8_soldOff_0 rfl ?_
  refine gx_iload_1 C dX8_soldOff_1 rfl ?_
  refine gx_iload_2 C dX8_soldOff_2 rfl ?_
  obtain ⟨v2, e1, h⟩ := gi_cp h
  refine gc_IV C (cn_areTwo (gx_l Γ) (gx_D Γ) hx a _ _ _ e1) (gx_cw C gx_uu lk_X8_200 (by decide) (by decide)) (cls_X8 hx).1 (gs_recv (q := 0) lt_M_Model (oc_M_Model a ι _)) rfl rfl (Nat.le_of_ble_eq_true rfl) ⟨Nat.zero_le _, Nat.zero_le _⟩ dX8_soldOff_3 ?_
  refine gx_if_eq (tgt := 27) C dX8_soldOff_6 (by decide) (fun hc18 => ?_) (fun hc18 => ?_)
  · have h := gi_t hc18 h
    refine gx_bipush (v := (-101)) C dX8_soldOff_27 (by decide) ?_
    exact gx_iret C F rfl dX8_soldOff_29 (Option.some.inj h)
  · have h := gi_f hc18 h
    refine gx_aload_0 C dX8_soldOff_9 rfl ?_
    refine gx_iload_3 C dX8_soldOff_10 rfl ?_
    obtain ⟨v4, e3, h⟩ := gi_cp h
    refine gc_IV C (cn_isOwner (gx_l Γ) (gx_D Γ) hx a _ _ e3) (gx_cw C gx_uu lk_X8_104 (by decide) (by decide)) (cls_X8 hx).1 (gs_recv (q := 0) lt_M_Model (oc_M_Model a ι _)) rfl rfl (Nat.le_of_ble_eq_true rfl) ⟨Nat.zero_le _, Nat.zero_le _⟩ dX8_soldOff_11 ?_
    refine gx_if_eq (tgt := 27) C dX8_soldOff_14 (by decide) (fun hc17 => ?_) (fun hc17 => ?_)
    · have h := gi_t hc17 h
      refine gx_bipush (v := (-101)) C dX8_soldOff_27 (by decide) ?_
      exact gx_iret C F rfl dX8_soldOff_29 (Option.some.inj h)
    · have h := gi_f hc17 h
      refine gx_iload_3 C dX8_soldOff_17 rfl ?_
      refine gx_iload_1 C dX8_soldOff_18 rfl ?_
      refine gx_icmp_eq (tgt := 27) C dX8_soldOff_19 (by decide) (fun hc16 => ?_) (fun hc16 => ?_)
      · have h := gi_t hc16 h
        refine gx_bipush (v := (-101)) C dX8_soldOff_27 (by decide) ?_
        exact gx_iret C F rfl dX8_soldOff_29 (Option.some.inj h)
      · have h := gi_f hc16 h
        refine gx_iload_3 C dX8_soldOff_22 rfl ?_
        refine gx_iload_2 C dX8_soldOff_23 rfl ?_
        refine gx_icmp_ne (tgt := 30) C dX8_soldOff_24 (by decide) (fun hc15 => ?_) (fun hc15 => ?_)
        · have h := gi_f hc15 h
          refine gx_iload C dX8_soldOff_30 rfl ?_
          refine gx_iconst0 C dX8_soldOff_32 ?_
          refine gx_bipush (v := 9) C dX8_soldOff_33 (by decide) ?_
          obtain ⟨v6, e5, h⟩ := gi_cp h
          refine gc_IS C (cn_within (gx_l Γ) (gx_D Γ) hx a _ _ _ _ e5) (gx_cwS C gx_uu lk_X8_94 (by decide) (by decide)) rfl rfl (Nat.le_of_ble_eq_true rfl) ⟨Nat.zero_le _, Nat.zero_le _⟩ dX8_soldOff_35 ?_
          refine gx_if_ne (tgt := 44) C dX8_soldOff_38 (by decide) (fun hc14 => ?_) (fun hc14 => ?_)
          · have h := gi_f hc14 h
            refine gx_aload_0 C dX8_soldOff_44 rfl ?_
            refine gx_iload_1 C dX8_soldOff_45 rfl ?_
            refine gx_iload_2 C dX8_soldOff_46 rfl ?_
            obtain ⟨v8, e7, h⟩ := gi_cp h
            refine gc_IV C (cn_fits (gx_l Γ) (gx_D Γ) hx a _ _ _ e7) (gx_cw C gx_uu lk_X8_203 (by decide) (by decide)) (cls_X8 hx).1 (gs_recv (q := 0) lt_M_Model (oc_M_Model a ι _)) rfl rfl (Nat.le_of_ble_eq_true rfl) ⟨Nat.zero_le _, Nat.zero_le _⟩ dX8_soldOff_47 ?_
            refine gx_if_ne (tgt := 56) C dX8_soldOff_50 (by decide) (fun hc13 => ?_) (fun hc13 => ?_)
            · have h := gi_f hc13 h
              refine gx_aload_0 C dX8_soldOff_56 rfl ?_
              obtain ⟨v11, S10, e9, h⟩ := gi_cs h
              refine gc_IV C (cn_layBefore (gx_l Γ) (gx_D Γ) hx a _ e9) (gx_cw C gx_uu lk_X8_213 (by decide) (by decide)) (cls_X8 hx).1 (gs_recv (q := 0) lt_M_Model (oc_M_Model a ι _)) rfl rfl (Nat.le_of_ble_eq_true rfl) ⟨Nat.zero_le _, Nat.zero_le _⟩ dX8_soldOff_57 ?_
              refine gx_if_ne (tgt := 65) C dX8_soldOff_60 (by decide) (fun hc12 => ?_) (fun hc12 => ?_)
              · have h := gi_f hc12 h
                refine gx_iconst0 C dX8_soldOff_65 ?_
                refine gx_istore C dX8_soldOff_66 (by rw [hnL]; decide) trivial ?_
                refine gx_iconst0 C dX8_soldOff_68 ?_
                refine gx_istore C dX8_soldOff_69 (by rw [hnL]; decide) trivial ?_
                refine gx_weak (gx_le_k rfl (gx_le_k rfl (gx_le_k rfl (gx_le_k rfl (gx_le_k rfl (gx_le_k rfl (gx_le_k rfl (gx_le_n (gx_le_n gx_le_0))))))))) (gi_loop (P := fun t => gx_G Γ 0 0 71 [.ref (a 0), .int x1, .int x2, .int x3, .int x4, .int t.1, .int t.2, .null, .null] [] (wM a ι S10)) (fun kk t hk h => ?_) 5000 _ h)
                obtain ⟨x59, x69⟩ := t
                exact bn_soldOff_71 hx C ⟨F, hnL⟩ (k71 := kk) (fun x58 x68 h => hk (x58, x68) h) h
              · have h := gi_t hc12 h
                refine gx_iconstm1 C dX8_soldOff_63 ?_
                exact gx_iret C F rfl dX8_soldOff_64 (Option.some.inj h)
            · have h := gi_t hc13 h
              refine gx_bipush (v := (-103)) C dX8_soldOff_53 (by decide) ?_
              exact gx_iret C F rfl dX8_soldOff_55 (Option.some.inj h)
          · have h := gi_t hc14 h
            refine gx_bipush (v := (-102)) C dX8_soldOff_41 (by decide) ?_
            exact gx_iret C F rfl dX8_soldOff_43 (Option.some.inj h)
        · have h := gi_t hc15 h
          refine gx_bipush (v := (-101)) C dX8_soldOff_27 (by decide) ?_
          exact gx_iret C F rfl dX8_soldOff_29 (Option.some.inj h)
def n_twice_137 (s0 : Int32) (S : gx_S) : Option (Int32 × gx_S) := if s0 = 0 then some ((-1), S) else gx_cp (n_harmNow 0 S) fun v2 => some (v2, S)
set_option maxRecDepth 20000 in
set_option maxHeartbeats 1000000 in
theorem bn_twice_137 {Γ : gx_T} {ι : Nat → ClassId} {a : Nat → Nat} {out : Int32 × gx_S} (hx : gx_std vwCl (gty ι) (gx_cl Γ) (gx_ty Γ)) (C : gx_ok Γ cX8_twice RX8 gx_U 9) (F : gx_finI Γ ((Option.some Jvm.ClassFile.FieldType.int)) (wM a ι) out ∧ gx_nL Γ = 7) {s0 : Int32} {S : gx_S} (h : n_twice_137 s0 S = some out) : gx_G Γ 0 0 137 [.ref (a 0), .null, .null, .null, .null, .null, .null] [.int s0] (wM a ι S) := by
  obtain ⟨F, hnL⟩ := F
  unfold n_twice_137 at h
  refine gx_istore C dX8_twice_137 (by rw [hnL]; decide) trivial ?_
  refine gx_iload C dX8_twice_139 rfl ?_
  refine gx_if_eq (tgt := 152) C dX8_twice_141 (by decide) (fun hc3 => ?_) (fun hc3 => ?_)
  · have h := gi_t hc3 h
    refine gx_iconstm1 C dX8_twice_152 ?_
    exact gx_iret C F rfl dX8_twice_153 (Option.some.inj h)
  · have h := gi_f hc3 h
    refine gx_aload_0 C dX8_twice_144 rfl ?_
    refine gx_iconst0 C dX8_twice_145 ?_
    obtain ⟨v2, e1, h⟩ := gi_cp h
    refine gc_IV C (cn_harmNow (gx_l Γ) (gx_D Γ) hx a _ _ e1) (gx_cw C gx_uu lk_X8_221 (by decide) (by decide)) (cls_X8 hx).1 (gs_recv (q := 0) lt_M_Model (oc_M_Model a ι _)) rfl rfl (Nat.le_of_ble_eq_true rfl) ⟨Nat.zero_le _, Nat.zero_le _⟩ dX8_twice_146 ?_
    refine gx_goto (tgt := 153) C dX8_twice_149 (by decide) ?_
    exact gx_iret C F rfl dX8_twice_153 (Option.some.inj h)
def n_twice_132 (S : gx_S) : Option (Int32 × gx_S) := n_twice_137 1 S
set_option maxRecDepth 20000 in
set_option maxHeartbeats 1000000 in
theorem bn_twice_132 {Γ : gx_T} {ι : Nat → ClassId} {a : Nat → Nat} {out : Int32 × gx_S} (hx : gx_std vwCl (gty ι) (gx_cl Γ) (gx_ty Γ)) (C : gx_ok Γ cX8_twice RX8 gx_U 9) (F : gx_finI Γ ((Option.some Jvm.ClassFile.FieldType.int)) (wM a ι) out ∧ gx_nL Γ = 7) {S : gx_S} (h : n_twice_132 S = some out) : gx_G Γ 0 0 132 [.ref (a 0), .null, .null, .null, .null, .null, .null] [] (wM a ι S) := by
  obtain ⟨F, hnL⟩ := F
  unfold n_twice_132 at h
  refine gx_iconst1 C dX8_twice_132 ?_
  refine gx_goto (tgt := 137) C dX8_twice_133 (by decide) ?_
  exact gx_weak (gx_le_k rfl (gx_le_n (gx_le_n (gx_le_n (gx_le_n (gx_le_n (gx_le_n gx_le_0))))))) (bn_twice_137 hx C ⟨F, hnL⟩ h)
def n_twice_136 (S : gx_S) : Option (Int32 × gx_S) := n_twice_137 0 S
set_option maxRecDepth 20000 in
set_option maxHeartbeats 1000000 in
theorem bn_twice_136 {Γ : gx_T} {ι : Nat → ClassId} {a : Nat → Nat} {out : Int32 × gx_S} (hx : gx_std vwCl (gty ι) (gx_cl Γ) (gx_ty Γ)) (C : gx_ok Γ cX8_twice RX8 gx_U 9) (F : gx_finI Γ ((Option.some Jvm.ClassFile.FieldType.int)) (wM a ι) out ∧ gx_nL Γ = 7) {S : gx_S} (h : n_twice_136 S = some out) : gx_G Γ 0 0 136 [.ref (a 0), .null, .null, .null, .null, .null, .null] [] (wM a ι S) := by
  obtain ⟨F, hnL⟩ := F
  unfold n_twice_136 at h
  refine gx_iconst0 C dX8_twice_136 ?_
  exact gx_weak (gx_le_k rfl (gx_le_n (gx_le_n (gx_le_n (gx_le_n (gx_le_n (gx_le_n gx_le_0))))))) (bn_twice_137 hx C ⟨F, hnL⟩ h)
def n_twice_122 (x4 : Int32) (s1 : Int32) (s2 : Int32) (s3 : Int32) (S : gx_S) : Option (Int32 × gx_S) := gx_cs (n_layBehind s1 s2 s3 x4 0 (-1) S) fun v3 S2 => if v3 = 0 then n_twice_136 S2 else n_twice_132 S2
set_option maxRecDepth 20000 in
set_option maxHeartbeats 1000000 in
theorem bn_twice_122 {Γ : gx_T} {ι : Nat → ClassId} {a : Nat → Nat} {out : Int32 × gx_S} (hx : gx_std vwCl (gty ι) (gx_cl Γ) (gx_ty Γ)) (C : gx_ok Γ cX8_twice RX8 gx_U 9) (F : gx_finI Γ ((Option.some Jvm.ClassFile.FieldType.int)) (wM a ι) out ∧ gx_nL Γ = 7) {x4 : Int32} {s1 : Int32} {s2 : Int32} {s3 : Int32} {S : gx_S} (h : n_twice_122 x4 s1 s2 s3 S = some out) : gx_G Γ 0 0 122 [.ref (a 0), .null, .null, .null, .int x4, .null, .null] [.int s3, .int s2, .int s1, .ref (a 0)] (wM a ι S) := by
  obtain ⟨F, hnL⟩ := F
  unfold n_twice_122 at h
  refine gx_iload C dX8_twice_122 rfl ?_
  refine gx_iconst0 C dX8_twice_124 ?_
  refine gx_iconstm1 C dX8_twice_125 ?_
  obtain ⟨v3, S2, e1, h⟩ := gi_cs h
  refine gc_IV C (cn_layBehind (gx_l Γ) (gx_D Γ) hx a _ _ _ _ _ _ _ e1) (gx_cw C gx_uu lk_X8_217 (by decide) (by decide)) (cls_X8 hx).1 (gs_recv (q := 0) lt_M_Model (oc_M_Model a ι _)) rfl rfl (Nat.le_of_ble_eq_true rfl) ⟨Nat.zero_le _, Nat.zero_le _⟩ dX8_twice_126 ?_
  refine gx_if_eq (tgt := 136) C dX8_twice_129 (by decide) (fun hc4 => ?_) (fun hc4 => ?_)
  · have h := gi_t hc4 h
    exact gx_weak (gx_le_k rfl (gx_le_n (gx_le_n (gx_le_n (gx_le_n (gx_le_n (gx_le_n gx_le_0))))))) (bn_twice_136 hx C ⟨F, hnL⟩ h)
  · have h := gi_f hc4 h
    exact gx_weak (gx_le_k rfl (gx_le_n (gx_le_n (gx_le_n (gx_le_n (gx_le_n (gx_le_n gx_le_0))))))) (bn_twice_132 hx C ⟨F, hnL⟩ h)
def n_twice (x1 : Int32) (x2 : Int32) (x3 : Int32) (x4 : Int32) (x5 : Int32) (S : gx_S) : Option (Int32 × gx_S) := gx_cp (n_areTwo x1 x2 S) fun v2 => if v2 = 0 then some ((-101), S) else gx_cp (n_areTwo x3 x4 S) fun v4 => if v4 = 0 then some ((-101), S) else if x1 = x3 then some ((-101), S) else if x1 = x4 then some ((-101), S) else if x2 = x3 then some ((-101), S) else if x2 = x4 then some ((-101), S) else gx_cp (n_within x5 0 2 S) fun v6 => if v6 = 0 then some ((-102), S) else gx_cp (n_fits x1 x2 S) fun v8 => if v8 = 0 then some ((-103), S) else gx_cp (n_fits x3 x4 S) fun v10 => if v10 = 0 then some ((-103), S) else gx_cs (n_layBefore S) fun v13 S12 => if v13 = 0 then n_twice_136 S12 else if x5 = 1 then gx_cs (n_layBehind x3 x4 (-1) (-1) 0 (-1) S12) fun v17 S16 => if v17 = 0 then n_twice_136 S16 else n_twice_132 S16 else if x5 = 0 then n_twice_122 x4 x1 x2 (-1) S12 else n_twice_122 x4 x1 x2 x3 S12
set_option maxRecDepth 20000 in
set_option maxHeartbeats 1000000 in
theorem cn_twice (l : Launch) (D : va_G) {cl : List vw_C} {tys : List (ClassId × FieldType)} {ι : Nat → ClassId} (hx : gx_std vwCl (gty ι) cl tys) (a : Nat → Nat) (x1 : Int32) (x2 : Int32) (x3 : Int32) (x4 : Int32) (x5 : Int32) (S : gx_S) {out : Int32 × gx_S} (h : n_twice x1 x2 x3 x4 x5 S = some out) : gx_mI l D cl tys yX8_twice (.code yX8_twice cX8_twice 7 ((Option.some Jvm.ClassFile.FieldType.int)) :: gx_U) (gx_rm 9) [.ref (a 0), .int x1, .int x2, .int x3, .int x4, .int x5] (wM a ι S) (wM a ι) out := by
  unfold n_twice at h
  refine gx_startI (V := [.ref (a 0), .int x1, .int x2, .int x3, .int x4, .int x5, .null]) 1 (by decide +kernel) (Nat.le_of_ble_eq_true rfl) rfl (fun Γ hl hD hcl hty hnL C F => ?_)
  subst hl; subst hD; subst hcl; subst hty
  refine gx_aload_0 C dX8_twice_0 rfl ?_
  refine gx_iload_1 C dX8_twice_1 rfl ?_
  refine gx_iload_2 C dX8_twice_2 rfl ?_
  obtain ⟨v2, e1, h⟩ := gi_cp h
  refine gc_IV C (cn_areTwo (gx_l Γ) (gx_D Γ) hx a _ _ _ e1) (gx_cw C gx_uu lk_X8_200 (by decide) (by decide)) (cls_X8 hx).1 (gs_recv (q := 0) lt_M_Model (oc_M_Model a ι _)) rfl rfl (Nat.le_of_ble_eq_true rfl) ⟨Nat.zero_le _, Nat.zero_le _⟩ dX8_twice_3 ?_
  refine gx_if_eq (tgt := 41) C dX8_twice_6 (by decide) (fun hc29 => ?_) (fun hc29 => ?_)
  · have h := gi_t hc29 h
    refine gx_bipush (v := (-101)) C dX8_twice_41 (by decide) ?_
    exact gx_iret C F rfl dX8_twice_43 (Option.some.inj h)
  · have h := gi_f hc29 h
    refine gx_aload_0 C dX8_twice_9 rfl ?_
    refine gx_iload_3 C dX8_twice_10 rfl ?_
    refine gx_iload C dX8_twice_11 rfl ?_
    obtain ⟨v4, e3, h⟩ := gi_cp h
    refine gc_IV C (cn_areTwo (gx_l Γ) (gx_D Γ) hx a _ _ _ e3) (gx_cw C gx_uu lk_X8_200 (by decide) (by decide)) (cls_X8 hx).1 (gs_recv (q := 0) lt_M_Model (oc_M_Model a ι _)) rfl rfl (Nat.le_of_ble_eq_true rfl) ⟨Nat.zero_le _, Nat.zero_le _⟩ dX8_twice_13 ?_
    refine gx_if_eq (tgt := 41) C dX8_twice_16 (by decide) (fun hc28 => ?_) (fun hc28 => ?_)
    · have h := gi_t hc28 h
      refine gx_bipush (v := (-101)) C dX8_twice_41 (by decide) ?_
      exact gx_iret C F rfl dX8_twice_43 (Option.some.inj h)
    · have h := gi_f hc28 h
      refine gx_iload_1 C dX8_twice_19 rfl ?_
      refine gx_iload_3 C dX8_twice_20 rfl ?_
      refine gx_icmp_eq (tgt := 41) C dX8_twice_21 (by decide) (fun hc27 => ?_) (fun hc27 => ?_)
      · have h := gi_t hc27 h
        refine gx_bipush (v := (-101)) C dX8_twice_41 (by decide) ?_
        exact gx_iret C F rfl dX8_twice_43 (Option.some.inj h)
      · have h := gi_f hc27 h
        refine gx_iload_1 C dX8_twice_24 rfl ?_
        refine gx_iload C dX8_twice_25 rfl ?_
        refine gx_icmp_eq (tgt := 41) C dX8_twice_27 (by decide) (fun hc26 => ?_) (fun hc26 => ?_)
        · have h := gi_t hc26 h
          refine gx_bipush (v := (-101)) C dX8_twice_41 (by decide) ?_
          exact gx_iret C F rfl dX8_twice_43 (Option.some.inj h)
        · have h := gi_f hc26 h
          refine gx_iload_2 C dX8_twice_30 rfl ?_
          refine gx_iload_3 C dX8_twice_31 rfl ?_
          refine gx_icmp_eq (tgt := 41) C dX8_twice_32 (by decide) (fun hc25 => ?_) (fun hc25 => ?_)
          · have h := gi_t hc25 h
            refine gx_bipush (v := (-101)) C dX8_twice_41 (by decide) ?_
            exact gx_iret C F rfl dX8_twice_43 (Option.some.inj h)
          · have h := gi_f hc25 h
            refine gx_iload_2 C dX8_twice_35 rfl ?_
            refine gx_iload C dX8_twice_36 rfl ?_
            refine gx_icmp_ne (tgt := 44) C dX8_twice_38 (by decide) (fun hc24 => ?_) (fun hc24 => ?_)
            · have h := gi_f hc24 h
              refine gx_iload C dX8_twice_44 rfl ?_
              refine gx_iconst0 C dX8_twice_46 ?_
              refine gx_iconst2 C dX8_twice_47 ?_
              obtain ⟨v6, e5, h⟩ := gi_cp h
              refine gc_IS C (cn_within (gx_l Γ) (gx_D Γ) hx a _ _ _ _ e5) (gx_cwS C gx_uu lk_X8_94 (by decide) (by decide)) rfl rfl (Nat.le_of_ble_eq_true rfl) ⟨Nat.zero_le _, Nat.zero_le _⟩ dX8_twice_48 ?_
              refine gx_if_ne (tgt := 57) C dX8_twice_51 (by decide) (fun hc23 => ?_) (fun hc23 => ?_)
              · have h := gi_f hc23 h
                refine gx_aload_0 C dX8_twice_57 rfl ?_
                refine gx_iload_1 C dX8_twice_58 rfl ?_
                refine gx_iload_2 C dX8_twice_59 rfl ?_
                obtain ⟨v8, e7, h⟩ := gi_cp h
                refine gc_IV C (cn_fits (gx_l Γ) (gx_D Γ) hx a _ _ _ e7) (gx_cw C gx_uu lk_X8_203 (by decide) (by decide)) (cls_X8 hx).1 (gs_recv (q := 0) lt_M_Model (oc_M_Model a ι _)) rfl rfl (Nat.le_of_ble_eq_true rfl) ⟨Nat.zero_le _, Nat.zero_le _⟩ dX8_twice_60 ?_
                refine gx_if_eq (tgt := 76) C dX8_twice_63 (by decide) (fun hc22 => ?_) (fun hc22 => ?_)
                · have h := gi_t hc22 h
                  refine gx_bipush (v := (-103)) C dX8_twice_76 (by decide) ?_
                  exact gx_iret C F rfl dX8_twice_78 (Option.some.inj h)
                · have h := gi_f hc22 h
                  refine gx_aload_0 C dX8_twice_66 rfl ?_
                  refine gx_iload_3 C dX8_twice_67 rfl ?_
                  refine gx_iload C dX8_twice_68 rfl ?_
                  obtain ⟨v10, e9, h⟩ := gi_cp h
                  refine gc_IV C (cn_fits (gx_l Γ) (gx_D Γ) hx a _ _ _ e9) (gx_cw C gx_uu lk_X8_203 (by decide) (by decide)) (cls_X8 hx).1 (gs_recv (q := 0) lt_M_Model (oc_M_Model a ι _)) rfl rfl (Nat.le_of_ble_eq_true rfl) ⟨Nat.zero_le _, Nat.zero_le _⟩ dX8_twice_70 ?_
                  refine gx_if_ne (tgt := 79) C dX8_twice_73 (by decide) (fun hc21 => ?_) (fun hc21 => ?_)
                  · have h := gi_f hc21 h
                    refine gx_aload_0 C dX8_twice_79 rfl ?_
                    obtain ⟨v13, S12, e11, h⟩ := gi_cs h
                    refine gc_IV C (cn_layBefore (gx_l Γ) (gx_D Γ) hx a _ e11) (gx_cw C gx_uu lk_X8_213 (by decide) (by decide)) (cls_X8 hx).1 (gs_recv (q := 0) lt_M_Model (oc_M_Model a ι _)) rfl rfl (Nat.le_of_ble_eq_true rfl) ⟨Nat.zero_le _, Nat.zero_le _⟩ dX8_twice_80 ?_
                    refine gx_if_eq (tgt := 136) C dX8_twice_83 (by decide) (fun hc20 => ?_) (fun hc20 => ?_)
                    · have h := gi_t hc20 h
                      exact gx_weak (gx_le_k rfl (gx_le_n (gx_le_n (gx_le_n (gx_le_n (gx_le_n (gx_le_n gx_le_0))))))) (bn_twice_136 hx C ⟨F, hnL⟩ h)
                    · have h := gi_f hc20 h
                      refine gx_iload C dX8_twice_86 rfl ?_
                      refine gx_iconst1 C dX8_twice_88 ?_
                      refine gx_icmp_ne (tgt := 109) C dX8_twice_89 (by decide) (fun hc19 => ?_) (fun hc19 => ?_)
                      · have h := gi_f hc19 h
                        refine gx_aload_0 C dX8_twice_109 rfl ?_
                        refine gx_iload_1 C dX8_twice_110 rfl ?_
                        refine gx_iload_2 C dX8_twice_111 rfl ?_
                        refine gx_iload C dX8_twice_112 rfl ?_
                        refine gx_if_ne (tgt := 121) C dX8_twice_114 (by decide) (fun hc14 => ?_) (fun hc14 => ?_)
                        · have h := gi_f hc14 h
                          refine gx_iload_3 C dX8_twice_121 rfl ?_
                          exact gx_weak (gx_le_k rfl (gx_le_n (gx_le_n (gx_le_n (gx_le_k rfl (gx_le_n (gx_le_n gx_le_0))))))) (bn_twice_122 hx C ⟨F, hnL⟩ h)
                        · have h := gi_t hc14 h
                          refine gx_iconstm1 C dX8_twice_117 ?_
                          refine gx_goto (tgt := 122) C dX8_twice_118 (by decide) ?_
                          exact gx_weak (gx_le_k rfl (gx_le_n (gx_le_n (gx_le_n (gx_le_k rfl (gx_le_n (gx_le_n gx_le_0))))))) (bn_twice_122 hx C ⟨F, hnL⟩ h)
                      · have h := gi_t hc19 h
                        refine gx_aload_0 C dX8_twice_92 rfl ?_
                        refine gx_iload_3 C dX8_twice_93 rfl ?_
                        refine gx_iload C dX8_twice_94 rfl ?_
                        refine gx_iconstm1 C dX8_twice_96 ?_
                        refine gx_iconstm1 C dX8_twice_97 ?_
                        refine gx_iconst0 C dX8_twice_98 ?_
                        refine gx_iconstm1 C dX8_twice_99 ?_
                        obtain ⟨v17, S16, e15, h⟩ := gi_cs h
                        refine gc_IV C (cn_layBehind (gx_l Γ) (gx_D Γ) hx a _ _ _ _ _ _ _ e15) (gx_cw C gx_uu lk_X8_217 (by decide) (by decide)) (cls_X8 hx).1 (gs_recv (q := 0) lt_M_Model (oc_M_Model a ι _)) rfl rfl (Nat.le_of_ble_eq_true rfl) ⟨Nat.zero_le _, Nat.zero_le _⟩ dX8_twice_100 ?_
                        refine gx_if_eq (tgt := 136) C dX8_twice_103 (by decide) (fun hc18 => ?_) (fun hc18 => ?_)
                        · have h := gi_t hc18 h
                          exact gx_weak (gx_le_k rfl (gx_le_n (gx_le_n (gx_le_n (gx_le_n (gx_le_n (gx_le_n gx_le_0))))))) (bn_twice_136 hx C ⟨F, hnL⟩ h)
                        · have h := gi_f hc18 h
                          refine gx_goto (tgt := 132) C dX8_twice_106 (by decide) ?_
                          exact gx_weak (gx_le_k rfl (gx_le_n (gx_le_n (gx_le_n (gx_le_n (gx_le_n (gx_le_n gx_le_0))))))) (bn_twice_132 hx C ⟨F, hnL⟩ h)
                  · have h := gi_t hc21 h
                    refine gx_bipush (v := (-103)) C dX8_twice_76 (by decide) ?_
                    exact gx_iret C F rfl dX8_twice_78 (Option.some.inj h)
              · have h := gi_t hc23 h
                refine gx_bipush (v := (-102)) C dX8_twice_54 (by decide) ?_
                exact gx_iret C F rfl dX8_twice_56 (Option.some.inj h)
            · have h := gi_t hc24 h
              refine gx_bipush (v := (-101)) C dX8_twice_41 (by decide) ?_
              exact gx_iret C F rfl dX8_twice_43 (Option.some.inj h)
def n_letters_77 (k8 : Int32 × Int32 × Int32 → Option (Int32 × gx_S)) (x1 : Int64) (x4 : Int32) (x5 : Int32) (s0 : Int32) (s1 : Int32) (S : gx_S) : Option (Int32 × gx_S) := k8 ((s0 + s1), x4, (x5 + 1))
set_option maxRecDepth 20000 in
set_option maxHeartbeats 1000000 in
theorem bn_letters_77 {Γ : gx_T} {ι : Nat → ClassId} {a : Nat → Nat} {out : Int32 × gx_S} (hx : gx_std vwCl (gty ι) (gx_cl Γ) (gx_ty Γ)) (C : gx_ok Γ cX8_letters RX8 gx_U 0) (F : gx_finI Γ ((Option.some Jvm.ClassFile.FieldType.int)) (wM a ι) out ∧ gx_nL Γ = 7) {k8 : Int32 × Int32 × Int32 → Option (Int32 × gx_S)} {x1 : Int64} {x4 : Int32} {x5 : Int32} {s0 : Int32} {s1 : Int32} {S : gx_S} (hk8 : ∀ (x37 : Int32) (x47 : Int32) (x57 : Int32), k8 (x37, x47, x57) = some out → gx_G Γ 0 0 8 [.ref (a 0), .long x1, .null, .int x37, .int x47, .int x57, .null] [] (wM a ι S)) (h : n_letters_77 k8 x1 x4 x5 s0 s1 S = some out) : gx_G Γ 0 0 77 [.ref (a 0), .long x1, .null, .null, .int x4, .int x5, .null] [.int s1, .int s0] (wM a ι S) := by
  obtain ⟨F, hnL⟩ := F
  unfold n_letters_77 at h
  refine gx_iadd C dX8_letters_77 ?_
  refine gx_istore_3 C dX8_letters_78 (by rw [hnL]; decide) trivial ?_
  refine gx_iinc1 C dX8_letters_79 rfl (by rw [hnL]; decide) trivial ?_
  refine gx_goto (tgt := 8) C dX8_letters_82 (by decide) ?_
  exact gx_weak (gx_le_k rfl (gx_le_k rfl (gx_le_n (gx_le_k rfl (gx_le_k rfl (gx_le_k rfl (gx_le_n gx_le_0))))))) (hk8 _ _ _ h)
def n_letters_64 (k8 : Int32 × Int32 × Int32 → Option (Int32 × gx_S)) (x1 : Int64) (x3 : Int32) (x5 : Int32) (x6 : Int32) (s0 : Int32) (S : gx_S) : Option (Int32 × gx_S) := if x6 = 0 then n_letters_77 k8 x1 s0 x5 x3 0 S else n_letters_77 k8 x1 s0 x5 x3 1 S
set_option maxRecDepth 20000 in
set_option maxHeartbeats 1000000 in
theorem bn_letters_64 {Γ : gx_T} {ι : Nat → ClassId} {a : Nat → Nat} {out : Int32 × gx_S} (hx : gx_std vwCl (gty ι) (gx_cl Γ) (gx_ty Γ)) (C : gx_ok Γ cX8_letters RX8 gx_U 0) (F : gx_finI Γ ((Option.some Jvm.ClassFile.FieldType.int)) (wM a ι) out ∧ gx_nL Γ = 7) {k8 : Int32 × Int32 × Int32 → Option (Int32 × gx_S)} {x1 : Int64} {x3 : Int32} {x5 : Int32} {x6 : Int32} {s0 : Int32} {S : gx_S} (hk8 : ∀ (x37 : Int32) (x47 : Int32) (x57 : Int32), k8 (x37, x47, x57) = some out → gx_G Γ 0 0 8 [.ref (a 0), .long x1, .null, .int x37, .int x47, .int x57, .null] [] (wM a ι S)) (h : n_letters_64 k8 x1 x3 x5 x6 s0 S = some out) : gx_G Γ 0 0 64 [.ref (a 0), .long x1, .null, .int x3, .null, .int x5, .int x6] [.int s0] (wM a ι S) := by
  obtain ⟨F, hnL⟩ := F
  unfold n_letters_64 at h
  refine gx_istore C dX8_letters_64 (by rw [hnL]; decide) trivial ?_
  refine gx_iload_3 C dX8_letters_66 rfl ?_
  refine gx_iload C dX8_letters_67 rfl ?_
  refine gx_if_ne (tgt := 76) C dX8_letters_69 (by decide) (fun hc1 => ?_) (fun hc1 => ?_)
  · have h := gi_f hc1 h
    refine gx_iconst1 C dX8_letters_76 ?_
    exact gx_weak (gx_le_k rfl (gx_le_k rfl (gx_le_n (gx_le_n (gx_le_k rfl (gx_le_k rfl (gx_le_n gx_le_0))))))) (bn_letters_77 hx C ⟨F, hnL⟩ hk8 h)
  · have h := gi_t hc1 h
    refine gx_iconst0 C dX8_letters_72 ?_
    refine gx_goto (tgt := 77) C dX8_letters_73 (by decide) ?_
    exact gx_weak (gx_le_k rfl (gx_le_k rfl (gx_le_n (gx_le_n (gx_le_k rfl (gx_le_k rfl (gx_le_n gx_le_0))))))) (bn_letters_77 hx C ⟨F, hnL⟩ hk8 h)
def n_letters_59 (k8 : Int32 × Int32 × Int32 → Option (Int32 × gx_S)) (x1 : Int64) (x3 : Int32) (x5 : Int32) (x6 : Int32) (S : gx_S) : Option (Int32 × gx_S) := n_letters_64 k8 x1 x3 x5 x6 1 S
set_option maxRecDepth 20000 in
set_option maxHeartbeats 1000000 in
theorem bn_letters_59 {Γ : gx_T} {ι : Nat → ClassId} {a : Nat → Nat} {out : Int32 × gx_S} (hx : gx_std vwCl (gty ι) (gx_cl Γ) (gx_ty Γ)) (C : gx_ok Γ cX8_letters RX8 gx_U 0) (F : gx_finI Γ ((Option.some Jvm.ClassFile.FieldType.int)) (wM a ι) out ∧ gx_nL Γ = 7) {k8 : Int32 × Int32 × Int32 → Option (Int32 × gx_S)} {x1 : Int64} {x3 : Int32} {x5 : Int32} {x6 : Int32} {S : gx_S} (hk8 : ∀ (x37 : Int32) (x47 : Int32) (x57 : Int32), k8 (x37, x47, x57) = some out → gx_G Γ 0 0 8 [.ref (a 0), .long x1, .null, .int x37, .int x47, .int x57, .null] [] (wM a ι S)) (h : n_letters_59 k8 x1 x3 x5 x6 S = some out) : gx_G Γ 0 0 59 [.ref (a 0), .long x1, .null, .int x3, .null, .int x5, .int x6] [] (wM a ι S) := by
  obtain ⟨F, hnL⟩ := F
  unfold n_letters_59 at h
  refine gx_iconst1 C dX8_letters_59 ?_
  refine gx_goto (tgt := 64) C dX8_letters_60 (by decide) ?_
  exact gx_weak (gx_le_k rfl (gx_le_k rfl (gx_le_n (gx_le_k rfl (gx_le_n (gx_le_k rfl (gx_le_k rfl gx_le_0))))))) (bn_letters_64 hx C ⟨F, hnL⟩ hk8 h)
def n_letters_49 (k8 : Int32 × Int32 × Int32 → Option (Int32 × gx_S)) (x1 : Int64) (x3 : Int32) (x4 : Int32) (x5 : Int32) (x6 : Int32) (S : gx_S) : Option (Int32 × gx_S) := if x4 = 0 then if x6 = 0 then n_letters_59 k8 x1 x3 x5 x6 S else n_letters_64 k8 x1 x3 x5 x6 0 S else n_letters_59 k8 x1 x3 x5 x6 S
set_option maxRecDepth 20000 in
set_option maxHeartbeats 1000000 in
theorem bn_letters_49 {Γ : gx_T} {ι : Nat → ClassId} {a : Nat → Nat} {out : Int32 × gx_S} (hx : gx_std vwCl (gty ι) (gx_cl Γ) (gx_ty Γ)) (C : gx_ok Γ cX8_letters RX8 gx_U 0) (F : gx_finI Γ ((Option.some Jvm.ClassFile.FieldType.int)) (wM a ι) out ∧ gx_nL Γ = 7) {k8 : Int32 × Int32 × Int32 → Option (Int32 × gx_S)} {x1 : Int64} {x3 : Int32} {x4 : Int32} {x5 : Int32} {x6 : Int32} {S : gx_S} (hk8 : ∀ (x37 : Int32) (x47 : Int32) (x57 : Int32), k8 (x37, x47, x57) = some out → gx_G Γ 0 0 8 [.ref (a 0), .long x1, .null, .int x37, .int x47, .int x57, .null] [] (wM a ι S)) (h : n_letters_49 k8 x1 x3 x4 x5 x6 S = some out) : gx_G Γ 0 0 49 [.ref (a 0), .long x1, .null, .int x3, .int x4, .int x5, .int x6] [] (wM a ι S) := by
  obtain ⟨F, hnL⟩ := F
  unfold n_letters_49 at h
  refine gx_iload C dX8_letters_49 rfl ?_
  refine gx_if_ne (tgt := 59) C dX8_letters_51 (by decide) (fun hc2 => ?_) (fun hc2 => ?_)
  · have h := gi_f hc2 h
    exact gx_weak (gx_le_k rfl (gx_le_k rfl (gx_le_n (gx_le_k rfl (gx_le_n (gx_le_k rfl (gx_le_k rfl gx_le_0))))))) (bn_letters_59 hx C ⟨F, hnL⟩ hk8 h)
  · have h := gi_t hc2 h
    refine gx_iload C dX8_letters_54 rfl ?_
    refine gx_if_ne (tgt := 63) C dX8_letters_56 (by decide) (fun hc1 => ?_) (fun hc1 => ?_)
    · have h := gi_f hc1 h
      refine gx_iconst0 C dX8_letters_63 ?_
      exact gx_weak (gx_le_k rfl (gx_le_k rfl (gx_le_n (gx_le_k rfl (gx_le_n (gx_le_k rfl (gx_le_k rfl gx_le_0))))))) (bn_letters_64 hx C ⟨F, hnL⟩ hk8 h)
    · have h := gi_t hc1 h
      exact gx_weak (gx_le_k rfl (gx_le_k rfl (gx_le_n (gx_le_k rfl (gx_le_n (gx_le_k rfl (gx_le_k rfl gx_le_0))))))) (bn_letters_59 hx C ⟨F, hnL⟩ hk8 h)
def n_letters_102 (x1 : Int64) (x3 : Int32) (t : Int32 × gx_S) (k102 : Int32 × gx_S → Option (Int32 × gx_S)) : Option (Int32 × gx_S) := match t with
  | (x5, S) => if x3 ≤ x5 then gx_let (gx_st S 0 14 ((S 0 14) + x3)) fun S1 => some (S1 0 14, S1) else gx_ck 50 ((S 0 14) + x5) (gx_let (gx_st S 11 ((S 0 14) + x5).toNatClampNeg (vp_nar .byte (((x1 >>> (((8 : Int32) * x5).toInt64 &&& 63)).toInt32).toInt8.toInt32))) fun S4 => k102 ((x5 + 1), S4))
set_option maxRecDepth 20000 in
set_option maxHeartbeats 1000000 in
theorem bn_letters_102 {Γ : gx_T} {ι : Nat → ClassId} {a : Nat → Nat} {out : Int32 × gx_S} (hx : gx_std vwCl (gty ι) (gx_cl Γ) (gx_ty Γ)) (C : gx_ok Γ cX8_letters RX8 gx_U 0) (F : gx_finI Γ ((Option.some Jvm.ClassFile.FieldType.int)) (wM a ι) out ∧ gx_nL Γ = 7) {k102 : Int32 × gx_S → Option (Int32 × gx_S)} {x1 : Int64} {x3 : Int32} {x5 : Int32} {S : gx_S} (hk102 : ∀ (x57 : Int32) (S7 : gx_S), k102 (x57, S7) = some out → gx_G Γ 0 0 102 [.ref (a 0), .long x1, .null, .int x3, .null, .int x57, .null] [] (wM a ι S7)) (h : n_letters_102 x1 x3 (x5, S) k102 = some out) : gx_G Γ 0 0 102 [.ref (a 0), .long x1, .null, .int x3, .null, .int x5, .null] [] (wM a ι S) := by
  obtain ⟨F, hnL⟩ := F
  unfold n_letters_102 at h
  dsimp only at h
  refine gx_iload C dX8_letters_102 rfl ?_
  refine gx_iload_3 C dX8_letters_104 rfl ?_
  refine gx_icmp_ge (tgt := 135) C dX8_letters_105 (by decide) (fun hc6 => ?_) (fun hc6 => ?_)
  · have h := gi_t hc6 h
    refine gx_aload_0 C dX8_letters_135 rfl ?_
    refine gx_dup C dX8_letters_136 rfl ?_
    refine gs_getf (q := 0) C fl_X8_230 (cls_X8 hx) lt_M_Model (oc_M_Model a ι _) rfl dX8_letters_137 ?_
    refine gx_iload_3 C dX8_letters_140 rfl ?_
    refine gx_iadd C dX8_letters_141 ?_
    obtain ⟨S1, e2, h⟩ := gi_let h
    refine gs_puti (q := 0) C fl_X8_230 (cls_X8 hx) lt_M_Model (oc_M_Model a ι _) (oc_M_Model a ι _) rfl rfl rfl (Nat.le_of_ble_eq_true rfl) e2 dX8_letters_142 ?_
    refine gx_aload_0 C dX8_letters_145 rfl ?_
    refine gs_getf (q := 0) C fl_X8_230 (cls_X8 hx) lt_M_Model (oc_M_Model a ι _) rfl dX8_letters_146 ?_
    exact gx_iret C F rfl dX8_letters_149 (Option.some.inj h)
  · have h := gi_f hc6 h
    refine gx_aload_0 C dX8_letters_108 rfl ?_
    refine gs_getf (q := 0) C fl_X8_42 (cls_X8 hx) lt_M_Model (oc_M_Model a ι _) rfl dX8_letters_109 ?_
    refine gx_aload_0 C dX8_letters_112 rfl ?_
    refine gs_getf (q := 0) C fl_X8_230 (cls_X8 hx) lt_M_Model (oc_M_Model a ι _) rfl dX8_letters_113 ?_
    refine gx_iload C dX8_letters_116 rfl ?_
    refine gx_iadd C dX8_letters_118 ?_
    refine gx_lload_1 C dX8_letters_119 rfl ?_
    refine gx_bipush (v := 8) C dX8_letters_120 (by decide) ?_
    refine gx_iload C dX8_letters_122 rfl ?_
    refine gx_imul C dX8_letters_124 ?_
    refine gx_lshr C dX8_letters_125 ?_
    refine gx_l2i C dX8_letters_126 ?_
    refine gx_i2b C dX8_letters_127 ?_
    obtain ⟨hi3, h⟩ := gi_ck h
    obtain ⟨S4, e5, h⟩ := gi_let h
    refine gs_bast (q := 11) C (ac_M_M_page hx a) lt_M_M_page hi3 e5 dX8_letters_128 ?_
    refine gx_iinc1 C dX8_letters_129 rfl (by rw [hnL]; decide) trivial ?_
    refine gx_goto (tgt := 102) C dX8_letters_132 (by decide) ?_
    exact gx_weak (gx_le_k rfl (gx_le_k rfl (gx_le_n (gx_le_k rfl (gx_le_n (gx_le_k rfl (gx_le_n gx_le_0))))))) (hk102 _ _ h)
def n_letters_8 (x1 : Int64) (S : gx_S) (t : Int32 × Int32 × Int32) (k8 : Int32 × Int32 × Int32 → Option (Int32 × gx_S)) : Option (Int32 × gx_S) := match t with
  | (x3, x4, x5) => if 8 ≤ x5 then if ((S 0 14) + x3) ≤ 50 then gx_loop (n_letters_102 x1 x3) 5000 (0, S) else some ((-104), S) else if 126 < (((x1 >>> (((8 : Int32) * x5).toInt64 &&& 63)) &&& (255 : Int64)).toInt32) then some ((-102), S) else if x4 = 0 then n_letters_49 k8 x1 x3 x4 x5 (((x1 >>> (((8 : Int32) * x5).toInt64 &&& 63)) &&& (255 : Int64)).toInt32) S else if (((x1 >>> (((8 : Int32) * x5).toInt64 &&& 63)) &&& (255 : Int64)).toInt32) = 0 then n_letters_49 k8 x1 x3 x4 x5 (((x1 >>> (((8 : Int32) * x5).toInt64 &&& 63)) &&& (255 : Int64)).toInt32) S else some ((-102), S)
set_option maxRecDepth 20000 in
set_option maxHeartbeats 1000000 in
theorem bn_letters_8 {Γ : gx_T} {ι : Nat → ClassId} {a : Nat → Nat} {out : Int32 × gx_S} (hx : gx_std vwCl (gty ι) (gx_cl Γ) (gx_ty Γ)) (C : gx_ok Γ cX8_letters RX8 gx_U 0) (F : gx_finI Γ ((Option.some Jvm.ClassFile.FieldType.int)) (wM a ι) out ∧ gx_nL Γ = 7) {k8 : Int32 × Int32 × Int32 → Option (Int32 × gx_S)} {x1 : Int64} {x3 : Int32} {x4 : Int32} {x5 : Int32} {S : gx_S} (hk8 : ∀ (x37 : Int32) (x47 : Int32) (x57 : Int32), k8 (x37, x47, x57) = some out → gx_G Γ 0 0 8 [.ref (a 0), .long x1, .null, .int x37, .int x47, .int x57, .null] [] (wM a ι S)) (h : n_letters_8 x1 S (x3, x4, x5) k8 = some out) : gx_G Γ 0 0 8 [.ref (a 0), .long x1, .null, .int x3, .int x4, .int x5, .null] [] (wM a ι S) := by
  obtain ⟨F, hnL⟩ := F
  unfold n_letters_8 at h
  dsimp only at h
  refine gx_iload C dX8_letters_8 rfl ?_
  refine gx_bipush (v := 8) C dX8_letters_10 (by decide) ?_
  refine gx_icmp_ge (tgt := 85) C dX8_letters_12 (by decide) (fun hc5 => ?_) (fun hc5 => ?_)
  · have h := gi_t hc5 h
    refine gx_aload_0 C dX8_letters_85 rfl ?_
    refine gs_getf (q := 0) C fl_X8_230 (cls_X8 hx) lt_M_Model (oc_M_Model a ι _) rfl dX8_letters_86 ?_
    refine gx_iload_3 C dX8_letters_89 rfl ?_
    refine gx_iadd C dX8_letters_90 ?_
    refine gx_bipush (v := 50) C dX8_letters_91 (by decide) ?_
    refine gx_icmp_le (tgt := 99) C dX8_letters_93 (by decide) (fun hc1 => ?_) (fun hc1 => ?_)
    · have h := gi_t hc1 h
      refine gx_iconst0 C dX8_letters_99 ?_
      refine gx_istore C dX8_letters_100 (by rw [hnL]; decide) trivial ?_
      refine gx_weak (gx_le_k rfl (gx_le_k rfl (gx_le_n (gx_le_k rfl (gx_le_n (gx_le_k rfl (gx_le_n gx_le_0))))))) (gi_loop (P := fun t => gx_G Γ 0 0 102 [.ref (a 0), .long x1, .null, .int x3, .null, .int t.1, .null] [] (wM a ι t.2)) (fun kk t hk h => ?_) 5000 _ h)
      obtain ⟨x59, S'9⟩ := t
      exact bn_letters_102 hx C ⟨F, hnL⟩ (k102 := kk) (fun x58 S'8 h => hk (x58, S'8) h) h
    · have h := gi_f hc1 h
      refine gx_bipush (v := (-104)) C dX8_letters_96 (by decide) ?_
      exact gx_iret C F rfl dX8_letters_98 (Option.some.inj h)
  · have h := gi_f hc5 h
    refine gx_lload_1 C dX8_letters_15 rfl ?_
    refine gx_bipush (v := 8) C dX8_letters_16 (by decide) ?_
    refine gx_iload C dX8_letters_18 rfl ?_
    refine gx_imul C dX8_letters_20 ?_
    refine gx_lshr C dX8_letters_21 ?_
    refine gx_ldc2 (v := 255) C dX8_letters_22 kX8_228 ?_
    refine gx_land C dX8_letters_25 ?_
    refine gx_l2i C dX8_letters_26 ?_
    refine gx_istore C dX8_letters_27 (by rw [hnL]; decide) trivial ?_
    refine gx_iload C dX8_letters_29 rfl ?_
    refine gx_bipush (v := 126) C dX8_letters_31 (by decide) ?_
    refine gx_icmp_gt (tgt := 46) C dX8_letters_33 (by decide) (fun hc4 => ?_) (fun hc4 => ?_)
    · have h := gi_t hc4 h
      refine gx_bipush (v := (-102)) C dX8_letters_46 (by decide) ?_
      exact gx_iret C F rfl dX8_letters_48 (Option.some.inj h)
    · have h := gi_f hc4 h
      refine gx_iload C dX8_letters_36 rfl ?_
      refine gx_if_eq (tgt := 49) C dX8_letters_38 (by decide) (fun hc3 => ?_) (fun hc3 => ?_)
      · have h := gi_t hc3 h
        exact gx_weak (gx_le_k rfl (gx_le_k rfl (gx_le_n (gx_le_k rfl (gx_le_k rfl (gx_le_k rfl (gx_le_k rfl gx_le_0))))))) (bn_letters_49 hx C ⟨F, hnL⟩ hk8 h)
      · have h := gi_f hc3 h
        refine gx_iload C dX8_letters_41 rfl ?_
        refine gx_if_eq (tgt := 49) C dX8_letters_43 (by decide) (fun hc2 => ?_) (fun hc2 => ?_)
        · have h := gi_t hc2 h
          exact gx_weak (gx_le_k rfl (gx_le_k rfl (gx_le_n (gx_le_k rfl (gx_le_k rfl (gx_le_k rfl (gx_le_k rfl gx_le_0))))))) (bn_letters_49 hx C ⟨F, hnL⟩ hk8 h)
        · have h := gi_f hc2 h
          refine gx_bipush (v := (-102)) C dX8_letters_46 (by decide) ?_
          exact gx_iret C F rfl dX8_letters_48 (Option.some.inj h)
def n_letters (x1 : Int64) (S : gx_S) : Option (Int32 × gx_S) := gx_loop (n_letters_8 x1 S) 5000 (0, 0, 0)
set_option maxRecDepth 20000 in
set_option maxHeartbeats 1000000 in
theorem cn_letters (l : Launch) (D : va_G) {cl : List vw_C} {tys : List (ClassId × FieldType)} {ι : Nat → ClassId} (hx : gx_std vwCl (gty ι) cl tys) (a : Nat → Nat) (x1 : Int64) (S : gx_S) {out : Int32 × gx_S} (h : n_letters x1 S = some out) : gx_mI l D cl tys yX8_letters (.code yX8_letters cX8_letters 7 ((Option.some Jvm.ClassFile.FieldType.int)) :: gx_U) (gx_rm 0) [.ref (a 0), .long x1] (wM a ι S) (wM a ι) out := by
  unfold n_letters at h
  refine gx_startI (V := [.ref (a 0), .long x1, .null, .null, .null, .null, .null]) 4 (by decide +kernel) (Nat.le_of_ble_eq_true rfl) rfl (fun Γ hl hD hcl hty hnL C F => ?_)
  subst hl; subst hD; subst hcl; subst hty
  refine gx_iconst0 C dX8_letters_0 ?_
  refine gx_istore_3 C dX8_letters_1 (by rw [hnL]; decide) trivial ?_
  refine gx_iconst0 C dX8_letters_2 ?_
  refine gx_istore C dX8_letters_3 (by rw [hnL]; decide) trivial ?_
  refine gx_iconst0 C dX8_letters_5 ?_
  refine gx_istore C dX8_letters_6 (by rw [hnL]; decide) trivial ?_
  refine gx_weak (gx_le_k rfl (gx_le_k rfl (gx_le_n (gx_le_k rfl (gx_le_k rfl (gx_le_k rfl (gx_le_n gx_le_0))))))) (gi_loop (P := fun t => gx_G Γ 0 0 8 [.ref (a 0), .long x1, .null, .int t.1, .int t.2.1, .int t.2.2, .null] [] (wM a ι S)) (fun kk t hk h => ?_) 5000 _ h)
  obtain ⟨x39, x49, x59⟩ := t
  exact bn_letters_8 hx C ⟨F, hnL⟩ (k8 := kk) (fun x38 x48 x58 h => hk (x38, x48, x58) h) h
def n_blank (S : gx_S) : Option (Int32 × gx_S) := gx_let (gx_st S 0 14 0) fun S1 => some (S 0 14, S1)
set_option maxRecDepth 20000 in
set_option maxHeartbeats 1000000 in
theorem cn_blank (l : Launch) (D : va_G) {cl : List vw_C} {tys : List (ClassId × FieldType)} {ι : Nat → ClassId} (hx : gx_std vwCl (gty ι) cl tys) (a : Nat → Nat) (S : gx_S) {out : Int32 × gx_S} (h : n_blank  S = some out) : gx_mI l D cl tys yX8_blank (.code yX8_blank cX8_blank 2 ((Option.some Jvm.ClassFile.FieldType.int)) :: gx_U) (gx_rm 0) [.ref (a 0)] (wM a ι S) (wM a ι) out := by
  unfold n_blank at h
  refine gx_startI (V := [.ref (a 0), .null]) 1 (by decide +kernel) (Nat.le_of_ble_eq_true rfl) rfl (fun Γ hl hD hcl hty hnL C F => ?_)
  subst hl; subst hD; subst hcl; subst hty
  refine gx_aload_0 C dX8_blank_0 rfl ?_
  refine gs_getf (q := 0) C fl_X8_230 (cls_X8 hx) lt_M_Model (oc_M_Model a ι _) rfl dX8_blank_1 ?_
  refine gx_istore_1 C dX8_blank_4 (by rw [hnL]; decide) trivial ?_
  refine gx_aload_0 C dX8_blank_5 rfl ?_
  refine gx_iconst0 C dX8_blank_6 ?_
  obtain ⟨S1, e2, h⟩ := gi_let h
  refine gs_puti (q := 0) C fl_X8_230 (cls_X8 hx) lt_M_Model (oc_M_Model a ι _) (oc_M_Model a ι _) rfl rfl rfl (Nat.le_of_ble_eq_true rfl) e2 dX8_blank_7 ?_
  refine gx_iload_1 C dX8_blank_10 rfl ?_
  exact gx_iret C F rfl dX8_blank_11 (Option.some.inj h)
def n_isDigit (x0 : Int32) (S : gx_S) : Option (Int32) := gx_cp (n_within x0 48 57 S) fun v2 => gx_bz v2 (some v2)
set_option maxRecDepth 20000 in
set_option maxHeartbeats 1000000 in
theorem cn_isDigit (l : Launch) (D : va_G) {cl : List vw_C} {tys : List (ClassId × FieldType)} {ι : Nat → ClassId} (hx : gx_std vwCl (gty ι) cl tys) (a : Nat → Nat) (x0 : Int32) (S : gx_S) {out : Int32} (h : n_isDigit x0 S = some out) : gx_mI l D cl tys yX8_isDigit (.code yX8_isDigit cX8_isDigit 1 ((Option.some Jvm.ClassFile.FieldType.boolean)) :: gx_U) (gx_rm 1) [.int x0] (wM a ι S) (wM a ι) (out, S) := by
  unfold n_isDigit at h
  refine gx_startI (V := [.int x0]) 0 (by decide +kernel) (Nat.le_of_ble_eq_true rfl) rfl (fun Γ hl hD hcl hty hnL C F => ?_)
  subst hl; subst hD; subst hcl; subst hty
  refine gx_iload_0 C dX8_isDigit_0 rfl ?_
  refine gx_bipush (v := 48) C dX8_isDigit_1 (by decide) ?_
  refine gx_bipush (v := 57) C dX8_isDigit_3 (by decide) ?_
  obtain ⟨v2, e1, h⟩ := gi_cp h
  refine gc_IS C (cn_within (gx_l Γ) (gx_D Γ) hx a _ _ _ _ e1) (gx_cwS C gx_uu lk_X8_94 (by decide) (by decide)) rfl rfl (Nat.le_of_ble_eq_true rfl) ⟨Nat.zero_le _, Nat.zero_le _⟩ dX8_isDigit_5 ?_
  obtain ⟨hz3, h⟩ := gi_bz h
  exact gx_iret C F hz3.1 dX8_isDigit_8 (congrArg (fun z => (z, S)) (Option.some.inj h))
def n_isName_24 (S : gx_S) : Option (Int32) := some 1
set_option maxRecDepth 20000 in
set_option maxHeartbeats 1000000 in
theorem bn_isName_24 {Γ : gx_T} {ι : Nat → ClassId} {a : Nat → Nat} {out : Int32} {S : gx_S} (hx : gx_std vwCl (gty ι) (gx_cl Γ) (gx_ty Γ)) (C : gx_ok Γ cX8_isName RX8 gx_U 0) (F : gx_finI Γ ((Option.some Jvm.ClassFile.FieldType.boolean)) (wM a ι) (out, S) ∧ gx_nL Γ = 1) (h : n_isName_24 S = some out) : gx_G Γ 0 0 24 [.null] [] (wM a ι S) := by
  obtain ⟨F, hnL⟩ := F
  unfold n_isName_24 at h
  refine gx_iconst1 C dX8_isName_24 ?_
  refine gx_goto (tgt := 29) C dX8_isName_25 (by decide) ?_
  exact gx_iret C F (by decide) dX8_isName_29 (congrArg (fun z => (z, S)) (Option.some.inj h))
def n_isName (x0 : Int32) (S : gx_S) : Option (Int32) := if x0 = 115 then n_isName_24 S else if x0 = 111 then n_isName_24 S else if x0 = 114 then n_isName_24 S else if x0 = 100 then n_isName_24 S else some 0
set_option maxRecDepth 20000 in
set_option maxHeartbeats 1000000 in
theorem cn_isName (l : Launch) (D : va_G) {cl : List vw_C} {tys : List (ClassId × FieldType)} {ι : Nat → ClassId} (hx : gx_std vwCl (gty ι) cl tys) (a : Nat → Nat) (x0 : Int32) (S : gx_S) {out : Int32} (h : n_isName x0 S = some out) : gx_mI l D cl tys yX8_isName (.code yX8_isName cX8_isName 1 ((Option.some Jvm.ClassFile.FieldType.boolean)) :: gx_U) (gx_rm 0) [.int x0] (wM a ι S) (wM a ι) (out, S) := by
  unfold n_isName at h
  refine gx_startI (V := [.int x0]) 0 (by decide +kernel) (Nat.le_of_ble_eq_true rfl) rfl (fun Γ hl hD hcl hty hnL C F => ?_)
  subst hl; subst hD; subst hcl; subst hty
  refine gx_iload_0 C dX8_isName_0 rfl ?_
  refine gx_bipush (v := 115) C dX8_isName_1 (by decide) ?_
  refine gx_icmp_eq (tgt := 24) C dX8_isName_3 (by decide) (fun hc4 => ?_) (fun hc4 => ?_)
  · have h := gi_t hc4 h
    exact gx_weak (gx_le_n gx_le_0) (bn_isName_24 hx C ⟨F, hnL⟩ h)
  · have h := gi_f hc4 h
    refine gx_iload_0 C dX8_isName_6 rfl ?_
    refine gx_bipush (v := 111) C dX8_isName_7 (by decide) ?_
    refine gx_icmp_eq (tgt := 24) C dX8_isName_9 (by decide) (fun hc3 => ?_) (fun hc3 => ?_)
    · have h := gi_t hc3 h
      exact gx_weak (gx_le_n gx_le_0) (bn_isName_24 hx C ⟨F, hnL⟩ h)
    · have h := gi_f hc3 h
      refine gx_iload_0 C dX8_isName_12 rfl ?_
      refine gx_bipush (v := 114) C dX8_isName_13 (by decide) ?_
      refine gx_icmp_eq (tgt := 24) C dX8_isName_15 (by decide) (fun hc2 => ?_) (fun hc2 => ?_)
      · have h := gi_t hc2 h
        exact gx_weak (gx_le_n gx_le_0) (bn_isName_24 hx C ⟨F, hnL⟩ h)
      · have h := gi_f hc2 h
        refine gx_iload_0 C dX8_isName_18 rfl ?_
        refine gx_bipush (v := 100) C dX8_isName_19 (by decide) ?_
        refine gx_icmp_ne (tgt := 28) C dX8_isName_21 (by decide) (fun hc1 => ?_) (fun hc1 => ?_)
        · have h := gi_f hc1 h
          refine gx_iconst0 C dX8_isName_28 ?_
          exact gx_iret C F (by decide) dX8_isName_29 (congrArg (fun z => (z, S)) (Option.some.inj h))
        · have h := gi_t hc1 h
          exact gx_weak (gx_le_n gx_le_0) (bn_isName_24 hx C ⟨F, hnL⟩ h)
def n_readPage_211 (k9 : Int32 × Int32 × Int32 × Int32 → Option (gx_S)) (x1 : Int32) (x2 : Int32) (x4 : Int32) (s0 : Int32) (s1 : Int32) (S : gx_S) : Option (gx_S) := k9 (x1, x2, (s0 + s1), x4)
set_option maxRecDepth 20000 in
set_option maxHeartbeats 1000000 in
theorem bn_readPage_211 {Γ : gx_T} {ι : Nat → ClassId} {a : Nat → Nat} {out : gx_S} (hx : gx_std vwCl (gty ι) (gx_cl Γ) (gx_ty Γ)) (C : gx_ok Γ cX8_readPage RX8 gx_U 2) (F : gx_finV Γ ((Option.none : Option Jvm.ClassFile.FieldType)) (wM a ι) out ∧ gx_nL Γ = 7) {k9 : Int32 × Int32 × Int32 × Int32 → Option (gx_S)} {x1 : Int32} {x2 : Int32} {x4 : Int32} {s0 : Int32} {s1 : Int32} {S : gx_S} (hk9 : ∀ (x17 : Int32) (x27 : Int32) (x37 : Int32) (x47 : Int32), k9 (x17, x27, x37, x47) = some out → gx_G Γ 0 0 9 [.ref (a 0), .int x17, .int x27, .int x37, .int x47, .null, .null] [] (wM a ι S)) (h : n_readPage_211 k9 x1 x2 x4 s0 s1 S = some out) : gx_G Γ 0 0 211 [.ref (a 0), .int x1, .int x2, .null, .int x4, .null, .null] [.int s1, .int s0] (wM a ι S) := by
  obtain ⟨F, hnL⟩ := F
  unfold n_readPage_211 at h
  refine gx_iadd C dX8_readPage_211 ?_
  refine gx_istore_3 C dX8_readPage_212 (by rw [hnL]; decide) trivial ?_
  refine gx_goto (tgt := 9) C dX8_readPage_213 (by decide) ?_
  exact gx_weak (gx_le_k rfl (gx_le_k rfl (gx_le_k rfl (gx_le_k rfl (gx_le_k rfl (gx_le_n (gx_le_n gx_le_0))))))) (hk9 _ _ _ _ h)
def n_readPage_200 (k9 : Int32 × Int32 × Int32 × Int32 → Option (gx_S)) (x1 : Int32) (x2 : Int32) (x3 : Int32) (x4 : Int32) (S : gx_S) : Option (gx_S) := if x4 = 0 then n_readPage_211 k9 x1 x2 x4 x3 0 S else n_readPage_211 k9 x1 x2 x4 x3 1 S
set_option maxRecDepth 20000 in
set_option maxHeartbeats 1000000 in
theorem bn_readPage_200 {Γ : gx_T} {ι : Nat → ClassId} {a : Nat → Nat} {out : gx_S} (hx : gx_std vwCl (gty ι) (gx_cl Γ) (gx_ty Γ)) (C : gx_ok Γ cX8_readPage RX8 gx_U 2) (F : gx_finV Γ ((Option.none : Option Jvm.ClassFile.FieldType)) (wM a ι) out ∧ gx_nL Γ = 7) {k9 : Int32 × Int32 × Int32 × Int32 → Option (gx_S)} {x1 : Int32} {x2 : Int32} {x3 : Int32} {x4 : Int32} {S : gx_S} (hk9 : ∀ (x17 : Int32) (x27 : Int32) (x37 : Int32) (x47 : Int32), k9 (x17, x27, x37, x47) = some out → gx_G Γ 0 0 9 [.ref (a 0), .int x17, .int x27, .int x37, .int x47, .null, .null] [] (wM a ι S)) (h : n_readPage_200 k9 x1 x2 x3 x4 S = some out) : gx_G Γ 0 0 200 [.ref (a 0), .int x1, .int x2, .int x3, .int x4, .null, .null] [] (wM a ι S) := by
  obtain ⟨F, hnL⟩ := F
  unfold n_readPage_200 at h
  refine gx_iload_3 C dX8_readPage_200 rfl ?_
  refine gx_iload C dX8_readPage_201 rfl ?_
  refine gx_if_eq (tgt := 210) C dX8_readPage_203 (by decide) (fun hc1 => ?_) (fun hc1 => ?_)
  · have h := gi_t hc1 h
    refine gx_iconst0 C dX8_readPage_210 ?_
    exact gx_weak (gx_le_k rfl (gx_le_k rfl (gx_le_k rfl (gx_le_n (gx_le_k rfl (gx_le_n (gx_le_n gx_le_0))))))) (bn_readPage_211 hx C ⟨F, hnL⟩ hk9 h)
  · have h := gi_f hc1 h
    refine gx_iconst1 C dX8_readPage_206 ?_
    refine gx_goto (tgt := 211) C dX8_readPage_207 (by decide) ?_
    exact gx_weak (gx_le_k rfl (gx_le_k rfl (gx_le_k rfl (gx_le_n (gx_le_k rfl (gx_le_n (gx_le_n gx_le_0))))))) (bn_readPage_211 hx C ⟨F, hnL⟩ hk9 h)
def n_readPage_118 (k9 : Int32 × Int32 × Int32 × Int32 → Option (gx_S)) (x2 : Int32) (x3 : Int32) (x4 : Int32) (S : gx_S) : Option (gx_S) := n_readPage_200 k9 2 x2 x3 x4 S
set_option maxRecDepth 20000 in
set_option maxHeartbeats 1000000 in
theorem bn_readPage_118 {Γ : gx_T} {ι : Nat → ClassId} {a : Nat → Nat} {out : gx_S} (hx : gx_std vwCl (gty ι) (gx_cl Γ) (gx_ty Γ)) (C : gx_ok Γ cX8_readPage RX8 gx_U 2) (F : gx_finV Γ ((Option.none : Option Jvm.ClassFile.FieldType)) (wM a ι) out ∧ gx_nL Γ = 7) {k9 : Int32 × Int32 × Int32 × Int32 → Option (gx_S)} {x2 : Int32} {x3 : Int32} {x4 : Int32} {S : gx_S} (hk9 : ∀ (x17 : Int32) (x27 : Int32) (x37 : Int32) (x47 : Int32), k9 (x17, x27, x37, x47) = some out → gx_G Γ 0 0 9 [.ref (a 0), .int x17, .int x27, .int x37, .int x47, .null, .null] [] (wM a ι S)) (h : n_readPage_118 k9 x2 x3 x4 S = some out) : gx_G Γ 0 0 118 [.ref (a 0), .null, .int x2, .int x3, .int x4, .null, .null] [] (wM a ι S) := by
  obtain ⟨F, hnL⟩ := F
  unfold n_readPage_118 at h
  refine gx_iconst2 C dX8_readPage_118 ?_
  refine gx_istore_1 C dX8_readPage_119 (by rw [hnL]; decide) trivial ?_
  refine gx_goto (tgt := 200) C dX8_readPage_120 (by decide) ?_
  exact gx_weak (gx_le_k rfl (gx_le_k rfl (gx_le_k rfl (gx_le_k rfl (gx_le_k rfl (gx_le_n (gx_le_n gx_le_0))))))) (bn_readPage_200 hx C ⟨F, hnL⟩ hk9 h)
def n_readPage_167 (k9 : Int32 × Int32 × Int32 × Int32 → Option (gx_S)) (x2 : Int32) (x3 : Int32) (x4 : Int32) (S : gx_S) : Option (gx_S) := n_readPage_200 k9 0 x2 x3 x4 S
set_option maxRecDepth 20000 in
set_option maxHeartbeats 1000000 in
theorem bn_readPage_167 {Γ : gx_T} {ι : Nat → ClassId} {a : Nat → Nat} {out : gx_S} (hx : gx_std vwCl (gty ι) (gx_cl Γ) (gx_ty Γ)) (C : gx_ok Γ cX8_readPage RX8 gx_U 2) (F : gx_finV Γ ((Option.none : Option Jvm.ClassFile.FieldType)) (wM a ι) out ∧ gx_nL Γ = 7) {k9 : Int32 × Int32 × Int32 × Int32 → Option (gx_S)} {x2 : Int32} {x3 : Int32} {x4 : Int32} {S : gx_S} (hk9 : ∀ (x17 : Int32) (x27 : Int32) (x37 : Int32) (x47 : Int32), k9 (x17, x27, x37, x47) = some out → gx_G Γ 0 0 9 [.ref (a 0), .int x17, .int x27, .int x37, .int x47, .null, .null] [] (wM a ι S)) (h : n_readPage_167 k9 x2 x3 x4 S = some out) : gx_G Γ 0 0 167 [.ref (a 0), .null, .int x2, .int x3, .int x4, .null, .null] [] (wM a ι S) := by
  obtain ⟨F, hnL⟩ := F
  unfold n_readPage_167 at h
  refine gx_iconst0 C dX8_readPage_167 ?_
  refine gx_istore_1 C dX8_readPage_168 (by rw [hnL]; decide) trivial ?_
  refine gx_goto (tgt := 200) C dX8_readPage_169 (by decide) ?_
  exact gx_weak (gx_le_k rfl (gx_le_k rfl (gx_le_k rfl (gx_le_k rfl (gx_le_k rfl (gx_le_n (gx_le_n gx_le_0))))))) (bn_readPage_200 hx C ⟨F, hnL⟩ hk9 h)
def n_readPage_197 (k9 : Int32 × Int32 × Int32 × Int32 → Option (gx_S)) (x1 : Int32) (x2 : Int32) (x3 : Int32) (S : gx_S) : Option (gx_S) := n_readPage_200 k9 x1 x2 x3 0 S
set_option maxRecDepth 20000 in
set_option maxHeartbeats 1000000 in
theorem bn_readPage_197 {Γ : gx_T} {ι : Nat → ClassId} {a : Nat → Nat} {out : gx_S} (hx : gx_std vwCl (gty ι) (gx_cl Γ) (gx_ty Γ)) (C : gx_ok Γ cX8_readPage RX8 gx_U 2) (F : gx_finV Γ ((Option.none : Option Jvm.ClassFile.FieldType)) (wM a ι) out ∧ gx_nL Γ = 7) {k9 : Int32 × Int32 × Int32 × Int32 → Option (gx_S)} {x1 : Int32} {x2 : Int32} {x3 : Int32} {S : gx_S} (hk9 : ∀ (x17 : Int32) (x27 : Int32) (x37 : Int32) (x47 : Int32), k9 (x17, x27, x37, x47) = some out → gx_G Γ 0 0 9 [.ref (a 0), .int x17, .int x27, .int x37, .int x47, .null, .null] [] (wM a ι S)) (h : n_readPage_197 k9 x1 x2 x3 S = some out) : gx_G Γ 0 0 197 [.ref (a 0), .int x1, .int x2, .int x3, .null, .null, .null] [] (wM a ι S) := by
  obtain ⟨F, hnL⟩ := F
  unfold n_readPage_197 at h
  refine gx_iconst0 C dX8_readPage_197 ?_
  refine gx_istore C dX8_readPage_198 (by rw [hnL]; decide) trivial ?_
  exact gx_weak (gx_le_k rfl (gx_le_k rfl (gx_le_k rfl (gx_le_k rfl (gx_le_k rfl (gx_le_n (gx_le_n gx_le_0))))))) (bn_readPage_200 hx C ⟨F, hnL⟩ hk9 h)
def n_readPage_172 (k9 : Int32 × Int32 × Int32 × Int32 → Option (gx_S)) (x1 : Int32) (x2 : Int32) (x3 : Int32) (x4 : Int32) (x5 : Int32) (x6 : Int32) (S : gx_S) : Option (gx_S) := if x6 = 0 then n_readPage_197 k9 x1 x2 x3 S else if x5 = 41 then if x2 ≤ 0 then n_readPage_197 k9 x1 x2 x3 S else n_readPage_200 k9 7 (x2 + (-1)) x3 x4 S else n_readPage_197 k9 x1 x2 x3 S
set_option maxRecDepth 20000 in
set_option maxHeartbeats 1000000 in
theorem bn_readPage_172 {Γ : gx_T} {ι : Nat → ClassId} {a : Nat → Nat} {out : gx_S} (hx : gx_std vwCl (gty ι) (gx_cl Γ) (gx_ty Γ)) (C : gx_ok Γ cX8_readPage RX8 gx_U 2) (F : gx_finV Γ ((Option.none : Option Jvm.ClassFile.FieldType)) (wM a ι) out ∧ gx_nL Γ = 7) {k9 : Int32 × Int32 × Int32 × Int32 → Option (gx_S)} {x1 : Int32} {x2 : Int32} {x3 : Int32} {x4 : Int32} {x5 : Int32} {x6 : Int32} {S : gx_S} (hk9 : ∀ (x17 : Int32) (x27 : Int32) (x37 : Int32) (x47 : Int32), k9 (x17, x27, x37, x47) = some out → gx_G Γ 0 0 9 [.ref (a 0), .int x17, .int x27, .int x37, .int x47, .null, .null] [] (wM a ι S)) (h : n_readPage_172 k9 x1 x2 x3 x4 x5 x6 S = some out) : gx_G Γ 0 0 172 [.ref (a 0), .int x1, .int x2, .int x3, .int x4, .int x5, .int x6] [] (wM a ι S) := by
  obtain ⟨F, hnL⟩ := F
  unfold n_readPage_172 at h
  refine gx_iload C dX8_readPage_172 rfl ?_
  refine gx_if_eq (tgt := 197) C dX8_readPage_174 (by decide) (fun hc3 => ?_) (fun hc3 => ?_)
  · have h := gi_t hc3 h
    exact gx_weak (gx_le_k rfl (gx_le_k rfl (gx_le_k rfl (gx_le_k rfl (gx_le_n (gx_le_n (gx_le_n gx_le_0))))))) (bn_readPage_197 hx C ⟨F, hnL⟩ hk9 h)
  · have h := gi_f hc3 h
    refine gx_iload C dX8_readPage_177 rfl ?_
    refine gx_bipush (v := 41) C dX8_readPage_179 (by decide) ?_
    refine gx_icmp_ne (tgt := 197) C dX8_readPage_181 (by decide) (fun hc2 => ?_) (fun hc2 => ?_)
    · have h := gi_f hc2 h
      exact gx_weak (gx_le_k rfl (gx_le_k rfl (gx_le_k rfl (gx_le_k rfl (gx_le_n (gx_le_n (gx_le_n gx_le_0))))))) (bn_readPage_197 hx C ⟨F, hnL⟩ hk9 h)
    · have h := gi_t hc2 h
      refine gx_iload_2 C dX8_readPage_184 rfl ?_
      refine gx_if_le (tgt := 197) C dX8_readPage_185 (by decide) (fun hc1 => ?_) (fun hc1 => ?_)
      · have h := gi_t hc1 h
        exact gx_weak (gx_le_k rfl (gx_le_k rfl (gx_le_k rfl (gx_le_k rfl (gx_le_n (gx_le_n (gx_le_n gx_le_0))))))) (bn_readPage_197 hx C ⟨F, hnL⟩ hk9 h)
      · have h := gi_f hc1 h
        refine gx_iinc C dX8_readPage_188 rfl rfl (by rw [hnL]; decide) trivial ?_
        refine gx_bipush (v := 7) C dX8_readPage_191 (by decide) ?_
        refine gx_istore_1 C dX8_readPage_193 (by rw [hnL]; decide) trivial ?_
        refine gx_goto (tgt := 200) C dX8_readPage_194 (by decide) ?_
        exact gx_weak (gx_le_k rfl (gx_le_k rfl (gx_le_k rfl (gx_le_k rfl (gx_le_k rfl (gx_le_n (gx_le_n gx_le_0))))))) (bn_readPage_200 hx C ⟨F, hnL⟩ hk9 h)
def n_readPage_148 (k9 : Int32 × Int32 × Int32 × Int32 → Option (gx_S)) (x1 : Int32) (x2 : Int32) (x3 : Int32) (x4 : Int32) (x5 : Int32) (x6 : Int32) (S : gx_S) : Option (gx_S) := if x6 = 0 then n_readPage_172 k9 x1 x2 x3 x4 x5 x6 S else if x5 = 38 then n_readPage_167 k9 x2 x3 x4 S else if x5 = 124 then n_readPage_167 k9 x2 x3 x4 S else n_readPage_172 k9 x1 x2 x3 x4 x5 x6 S
set_option maxRecDepth 20000 in
set_option maxHeartbeats 1000000 in
theorem bn_readPage_148 {Γ : gx_T} {ι : Nat → ClassId} {a : Nat → Nat} {out : gx_S} (hx : gx_std vwCl (gty ι) (gx_cl Γ) (gx_ty Γ)) (C : gx_ok Γ cX8_readPage RX8 gx_U 2) (F : gx_finV Γ ((Option.none : Option Jvm.ClassFile.FieldType)) (wM a ι) out ∧ gx_nL Γ = 7) {k9 : Int32 × Int32 × Int32 × Int32 → Option (gx_S)} {x1 : Int32} {x2 : Int32} {x3 : Int32} {x4 : Int32} {x5 : Int32} {x6 : Int32} {S : gx_S} (hk9 : ∀ (x17 : Int32) (x27 : Int32) (x37 : Int32) (x47 : Int32), k9 (x17, x27, x37, x47) = some out → gx_G Γ 0 0 9 [.ref (a 0), .int x17, .int x27, .int x37, .int x47, .null, .null] [] (wM a ι S)) (h : n_readPage_148 k9 x1 x2 x3 x4 x5 x6 S = some out) : gx_G Γ 0 0 148 [.ref (a 0), .int x1, .int x2, .int x3, .int x4, .int x5, .int x6] [] (wM a ι S) := by
  obtain ⟨F, hnL⟩ := F
  unfold n_readPage_148 at h
  refine gx_iload C dX8_readPage_148 rfl ?_
  refine gx_if_eq (tgt := 172) C dX8_readPage_150 (by decide) (fun hc3 => ?_) (fun hc3 => ?_)
  · have h := gi_t hc3 h
    exact gx_weak (gx_le_k rfl (gx_le_k rfl (gx_le_k rfl (gx_le_k rfl (gx_le_k rfl (gx_le_k rfl (gx_le_k rfl gx_le_0))))))) (bn_readPage_172 hx C ⟨F, hnL⟩ hk9 h)
  · have h := gi_f hc3 h
    refine gx_iload C dX8_readPage_153 rfl ?_
    refine gx_bipush (v := 38) C dX8_readPage_155 (by decide) ?_
    refine gx_icmp_eq (tgt := 167) C dX8_readPage_157 (by decide) (fun hc2 => ?_) (fun hc2 => ?_)
    · have h := gi_t hc2 h
      exact gx_weak (gx_le_k rfl (gx_le_n (gx_le_k rfl (gx_le_k rfl (gx_le_k rfl (gx_le_n (gx_le_n gx_le_0))))))) (bn_readPage_167 hx C ⟨F, hnL⟩ hk9 h)
    · have h := gi_f hc2 h
      refine gx_iload C dX8_readPage_160 rfl ?_
      refine gx_bipush (v := 124) C dX8_readPage_162 (by decide) ?_
      refine gx_icmp_ne (tgt := 172) C dX8_readPage_164 (by decide) (fun hc1 => ?_) (fun hc1 => ?_)
      · have h := gi_f hc1 h
        exact gx_weak (gx_le_k rfl (gx_le_k rfl (gx_le_k rfl (gx_le_k rfl (gx_le_k rfl (gx_le_k rfl (gx_le_k rfl gx_le_0))))))) (bn_readPage_172 hx C ⟨F, hnL⟩ hk9 h)
      · have h := gi_t hc1 h
        exact gx_weak (gx_le_k rfl (gx_le_n (gx_le_k rfl (gx_le_k rfl (gx_le_k rfl (gx_le_n (gx_le_n gx_le_0))))))) (bn_readPage_167 hx C ⟨F, hnL⟩ hk9 h)
def n_readPage_123 (k9 : Int32 × Int32 × Int32 × Int32 → Option (gx_S)) (x1 : Int32) (x2 : Int32) (x3 : Int32) (x4 : Int32) (x5 : Int32) (x6 : Int32) (S : gx_S) : Option (gx_S) := if x1 ≤ 1 then n_readPage_148 k9 x1 x2 x3 x4 x5 x6 S else if 6 ≤ x1 then n_readPage_148 k9 x1 x2 x3 x4 x5 x6 S else gx_cp (n_isDigit x5 S) fun v2 => if v2 = 0 then n_readPage_148 k9 x1 x2 x3 x4 x5 x6 S else n_readPage_200 k9 (x1 + 1) x2 x3 x4 S
set_option maxRecDepth 20000 in
set_option maxHeartbeats 1000000 in
theorem bn_readPage_123 {Γ : gx_T} {ι : Nat → ClassId} {a : Nat → Nat} {out : gx_S} (hx : gx_std vwCl (gty ι) (gx_cl Γ) (gx_ty Γ)) (C : gx_ok Γ cX8_readPage RX8 gx_U 2) (F : gx_finV Γ ((Option.none : Option Jvm.ClassFile.FieldType)) (wM a ι) out ∧ gx_nL Γ = 7) {k9 : Int32 × Int32 × Int32 × Int32 → Option (gx_S)} {x1 : Int32} {x2 : Int32} {x3 : Int32} {x4 : Int32} {x5 : Int32} {x6 : Int32} {S : gx_S} (hk9 : ∀ (x17 : Int32) (x27 : Int32) (x37 : Int32) (x47 : Int32), k9 (x17, x27, x37, x47) = some out → gx_G Γ 0 0 9 [.ref (a 0), .int x17, .int x27, .int x37, .int x47, .null, .null] [] (wM a ι S)) (h : n_readPage_123 k9 x1 x2 x3 x4 x5 x6 S = some out) : gx_G Γ 0 0 123 [.ref (a 0), .int x1, .int x2, .int x3, .int x4, .int x5, .int x6] [] (wM a ι S) := by
  obtain ⟨F, hnL⟩ := F
  unfold n_readPage_123 at h
  refine gx_iload_1 C dX8_readPage_123 rfl ?_
  refine gx_iconst1 C dX8_readPage_124 ?_
  refine gx_icmp_le (tgt := 148) C dX8_readPage_125 (by decide) (fun hc5 => ?_) (fun hc5 => ?_)
  · have h := gi_t hc5 h
    exact gx_weak (gx_le_k rfl (gx_le_k rfl (gx_le_k rfl (gx_le_k rfl (gx_le_k rfl (gx_le_k rfl (gx_le_k rfl gx_le_0))))))) (bn_readPage_148 hx C ⟨F, hnL⟩ hk9 h)
  · have h := gi_f hc5 h
    refine gx_iload_1 C dX8_readPage_128 rfl ?_
    refine gx_bipush (v := 6) C dX8_readPage_129 (by decide) ?_
    refine gx_icmp_ge (tgt := 148) C dX8_readPage_131 (by decide) (fun hc4 => ?_) (fun hc4 => ?_)
    · have h := gi_t hc4 h
      exact gx_weak (gx_le_k rfl (gx_le_k rfl (gx_le_k rfl (gx_le_k rfl (gx_le_k rfl (gx_le_k rfl (gx_le_k rfl gx_le_0))))))) (bn_readPage_148 hx C ⟨F, hnL⟩ hk9 h)
    · have h := gi_f hc4 h
      refine gx_iload C dX8_readPage_134 rfl ?_
      obtain ⟨v2, e1, h⟩ := gi_cp h
      refine gc_IS C (cn_isDigit (gx_l Γ) (gx_D Γ) hx a _ _ e1) (gx_cwS C gx_uu lk_X8_236 (by decide) (by decide)) rfl rfl (Nat.le_of_ble_eq_true rfl) ⟨Nat.zero_le _, Nat.zero_le _⟩ dX8_readPage_136 ?_
      refine gx_if_eq (tgt := 148) C dX8_readPage_139 (by decide) (fun hc3 => ?_) (fun hc3 => ?_)
      · have h := gi_t hc3 h
        exact gx_weak (gx_le_k rfl (gx_le_k rfl (gx_le_k rfl (gx_le_k rfl (gx_le_k rfl (gx_le_k rfl (gx_le_k rfl gx_le_0))))))) (bn_readPage_148 hx C ⟨F, hnL⟩ hk9 h)
      · have h := gi_f hc3 h
        refine gx_iinc1 C dX8_readPage_142 rfl (by rw [hnL]; decide) trivial ?_
        refine gx_goto (tgt := 200) C dX8_readPage_145 (by decide) ?_
        exact gx_weak (gx_le_k rfl (gx_le_k rfl (gx_le_k rfl (gx_le_k rfl (gx_le_k rfl (gx_le_n (gx_le_n gx_le_0))))))) (bn_readPage_200 hx C ⟨F, hnL⟩ hk9 h)
def n_readPage_92 (k9 : Int32 × Int32 × Int32 × Int32 → Option (gx_S)) (x1 : Int32) (x2 : Int32) (x3 : Int32) (x4 : Int32) (x5 : Int32) (x6 : Int32) (S : gx_S) : Option (gx_S) := if x1 = 1 then if x5 = 60 then n_readPage_118 k9 x2 x3 x4 S else if x5 = 61 then n_readPage_118 k9 x2 x3 x4 S else if x5 = 62 then n_readPage_118 k9 x2 x3 x4 S else n_readPage_123 k9 x1 x2 x3 x4 x5 x6 S else n_readPage_123 k9 x1 x2 x3 x4 x5 x6 S
set_option maxRecDepth 20000 in
set_option maxHeartbeats 1000000 in
theorem bn_readPage_92 {Γ : gx_T} {ι : Nat → ClassId} {a : Nat → Nat} {out : gx_S} (hx : gx_std vwCl (gty ι) (gx_cl Γ) (gx_ty Γ)) (C : gx_ok Γ cX8_readPage RX8 gx_U 2) (F : gx_finV Γ ((Option.none : Option Jvm.ClassFile.FieldType)) (wM a ι) out ∧ gx_nL Γ = 7) {k9 : Int32 × Int32 × Int32 × Int32 → Option (gx_S)} {x1 : Int32} {x2 : Int32} {x3 : Int32} {x4 : Int32} {x5 : Int32} {x6 : Int32} {S : gx_S} (hk9 : ∀ (x17 : Int32) (x27 : Int32) (x37 : Int32) (x47 : Int32), k9 (x17, x27, x37, x47) = some out → gx_G Γ 0 0 9 [.ref (a 0), .int x17, .int x27, .int x37, .int x47, .null, .null] [] (wM a ι S)) (h : n_readPage_92 k9 x1 x2 x3 x4 x5 x6 S = some out) : gx_G Γ 0 0 92 [.ref (a 0), .int x1, .int x2, .int x3, .int x4, .int x5, .int x6] [] (wM a ι S) := by
  obtain ⟨F, hnL⟩ := F
  unfold n_readPage_92 at h
  refine gx_iload_1 C dX8_readPage_92 rfl ?_
  refine gx_iconst1 C dX8_readPage_93 ?_
  refine gx_icmp_ne (tgt := 123) C dX8_readPage_94 (by decide) (fun hc4 => ?_) (fun hc4 => ?_)
  · have h := gi_f hc4 h
    exact gx_weak (gx_le_k rfl (gx_le_k rfl (gx_le_k rfl (gx_le_k rfl (gx_le_k rfl (gx_le_k rfl (gx_le_k rfl gx_le_0))))))) (bn_readPage_123 hx C ⟨F, hnL⟩ hk9 h)
  · have h := gi_t hc4 h
    refine gx_iload C dX8_readPage_97 rfl ?_
    refine gx_bipush (v := 60) C dX8_readPage_99 (by decide) ?_
    refine gx_icmp_eq (tgt := 118) C dX8_readPage_101 (by decide) (fun hc3 => ?_) (fun hc3 => ?_)
    · have h := gi_t hc3 h
      exact gx_weak (gx_le_k rfl (gx_le_n (gx_le_k rfl (gx_le_k rfl (gx_le_k rfl (gx_le_n (gx_le_n gx_le_0))))))) (bn_readPage_118 hx C ⟨F, hnL⟩ hk9 h)
    · have h := gi_f hc3 h
      refine gx_iload C dX8_readPage_104 rfl ?_
      refine gx_bipush (v := 61) C dX8_readPage_106 (by decide) ?_
      refine gx_icmp_eq (tgt := 118) C dX8_readPage_108 (by decide) (fun hc2 => ?_) (fun hc2 => ?_)
      · have h := gi_t hc2 h
        exact gx_weak (gx_le_k rfl (gx_le_n (gx_le_k rfl (gx_le_k rfl (gx_le_k rfl (gx_le_n (gx_le_n gx_le_0))))))) (bn_readPage_118 hx C ⟨F, hnL⟩ hk9 h)
      · have h := gi_f hc2 h
        refine gx_iload C dX8_readPage_111 rfl ?_
        refine gx_bipush (v := 62) C dX8_readPage_113 (by decide) ?_
        refine gx_icmp_ne (tgt := 123) C dX8_readPage_115 (by decide) (fun hc1 => ?_) (fun hc1 => ?_)
        · have h := gi_f hc1 h
          exact gx_weak (gx_le_k rfl (gx_le_k rfl (gx_le_k rfl (gx_le_k rfl (gx_le_k rfl (gx_le_k rfl (gx_le_k rfl gx_le_0))))))) (bn_readPage_123 hx C ⟨F, hnL⟩ hk9 h)
        · have h := gi_t hc1 h
          exact gx_weak (gx_le_k rfl (gx_le_n (gx_le_k rfl (gx_le_k rfl (gx_le_k rfl (gx_le_n (gx_le_n gx_le_0))))))) (bn_readPage_118 hx C ⟨F, hnL⟩ hk9 h)
def n_readPage_75 (k9 : Int32 × Int32 × Int32 × Int32 → Option (gx_S)) (x1 : Int32) (x2 : Int32) (x3 : Int32) (x4 : Int32) (x5 : Int32) (x6 : Int32) (S : gx_S) : Option (gx_S) := if x1 = 0 then gx_cp (n_isName x5 S) fun v2 => if v2 = 0 then n_readPage_92 k9 x1 x2 x3 x4 x5 x6 S else n_readPage_200 k9 1 x2 x3 x4 S else n_readPage_92 k9 x1 x2 x3 x4 x5 x6 S
set_option maxRecDepth 20000 in
set_option maxHeartbeats 1000000 in
theorem bn_readPage_75 {Γ : gx_T} {ι : Nat → ClassId} {a : Nat → Nat} {out : gx_S} (hx : gx_std vwCl (gty ι) (gx_cl Γ) (gx_ty Γ)) (C : gx_ok Γ cX8_readPage RX8 gx_U 2) (F : gx_finV Γ ((Option.none : Option Jvm.ClassFile.FieldType)) (wM a ι) out ∧ gx_nL Γ = 7) {k9 : Int32 × Int32 × Int32 × Int32 → Option (gx_S)} {x1 : Int32} {x2 : Int32} {x3 : Int32} {x4 : Int32} {x5 : Int32} {x6 : Int32} {S : gx_S} (hk9 : ∀ (x17 : Int32) (x27 : Int32) (x37 : Int32) (x47 : Int32), k9 (x17, x27, x37, x47) = some out → gx_G Γ 0 0 9 [.ref (a 0), .int x17, .int x27, .int x37, .int x47, .null, .null] [] (wM a ι S)) (h : n_readPage_75 k9 x1 x2 x3 x4 x5 x6 S = some out) : gx_G Γ 0 0 75 [.ref (a 0), .int x1, .int x2, .int x3, .int x4, .int x5, .int x6] [] (wM a ι S) := by
  obtain ⟨F, hnL⟩ := F
  unfold n_readPage_75 at h
  refine gx_iload_1 C dX8_readPage_75 rfl ?_
  refine gx_if_ne (tgt := 92) C dX8_readPage_76 (by decide) (fun hc4 => ?_) (fun hc4 => ?_)
  · have h := gi_f hc4 h
    exact gx_weak (gx_le_k rfl (gx_le_k rfl (gx_le_k rfl (gx_le_k rfl (gx_le_k rfl (gx_le_k rfl (gx_le_k rfl gx_le_0))))))) (bn_readPage_92 hx C ⟨F, hnL⟩ hk9 h)
  · have h := gi_t hc4 h
    refine gx_iload C dX8_readPage_79 rfl ?_
    obtain ⟨v2, e1, h⟩ := gi_cp h
    refine gc_IS C (cn_isName (gx_l Γ) (gx_D Γ) hx a _ _ e1) (gx_cwS C gx_uu lk_X8_233 (by decide) (by decide)) rfl rfl (Nat.le_of_ble_eq_true rfl) ⟨Nat.zero_le _, Nat.zero_le _⟩ dX8_readPage_81 ?_
    refine gx_if_eq (tgt := 92) C dX8_readPage_84 (by decide) (fun hc3 => ?_) (fun hc3 => ?_)
    · have h := gi_t hc3 h
      exact gx_weak (gx_le_k rfl (gx_le_k rfl (gx_le_k rfl (gx_le_k rfl (gx_le_k rfl (gx_le_k rfl (gx_le_k rfl gx_le_0))))))) (bn_readPage_92 hx C ⟨F, hnL⟩ hk9 h)
    · have h := gi_f hc3 h
      refine gx_iconst1 C dX8_readPage_87 ?_
      refine gx_istore_1 C dX8_readPage_88 (by rw [hnL]; decide) trivial ?_
      refine gx_goto (tgt := 200) C dX8_readPage_89 (by decide) ?_
      exact gx_weak (gx_le_k rfl (gx_le_k rfl (gx_le_k rfl (gx_le_k rfl (gx_le_k rfl (gx_le_n (gx_le_n gx_le_0))))))) (bn_readPage_200 hx C ⟨F, hnL⟩ hk9 h)
def n_readPage_58 (k9 : Int32 × Int32 × Int32 × Int32 → Option (gx_S)) (x1 : Int32) (x2 : Int32) (x3 : Int32) (x4 : Int32) (x5 : Int32) (x6 : Int32) (S : gx_S) : Option (gx_S) := if x1 = 0 then if x5 = 40 then n_readPage_200 k9 x1 (x2 + 1) x3 x4 S else n_readPage_75 k9 x1 x2 x3 x4 x5 x6 S else n_readPage_75 k9 x1 x2 x3 x4 x5 x6 S
set_option maxRecDepth 20000 in
set_option maxHeartbeats 1000000 in
theorem bn_readPage_58 {Γ : gx_T} {ι : Nat → ClassId} {a : Nat → Nat} {out : gx_S} (hx : gx_std vwCl (gty ι) (gx_cl Γ) (gx_ty Γ)) (C : gx_ok Γ cX8_readPage RX8 gx_U 2) (F : gx_finV Γ ((Option.none : Option Jvm.ClassFile.FieldType)) (wM a ι) out ∧ gx_nL Γ = 7) {k9 : Int32 × Int32 × Int32 × Int32 → Option (gx_S)} {x1 : Int32} {x2 : Int32} {x3 : Int32} {x4 : Int32} {x5 : Int32} {x6 : Int32} {S : gx_S} (hk9 : ∀ (x17 : Int32) (x27 : Int32) (x37 : Int32) (x47 : Int32), k9 (x17, x27, x37, x47) = some out → gx_G Γ 0 0 9 [.ref (a 0), .int x17, .int x27, .int x37, .int x47, .null, .null] [] (wM a ι S)) (h : n_readPage_58 k9 x1 x2 x3 x4 x5 x6 S = some out) : gx_G Γ 0 0 58 [.ref (a 0), .int x1, .int x2, .int x3, .int x4, .int x5, .int x6] [] (wM a ι S) := by
  obtain ⟨F, hnL⟩ := F
  unfold n_readPage_58 at h
  refine gx_iload_1 C dX8_readPage_58 rfl ?_
  refine gx_if_ne (tgt := 75) C dX8_readPage_59 (by decide) (fun hc2 => ?_) (fun hc2 => ?_)
  · have h := gi_f hc2 h
    exact gx_weak (gx_le_k rfl (gx_le_k rfl (gx_le_k rfl (gx_le_k rfl (gx_le_k rfl (gx_le_k rfl (gx_le_k rfl gx_le_0))))))) (bn_readPage_75 hx C ⟨F, hnL⟩ hk9 h)
  · have h := gi_t hc2 h
    refine gx_iload C dX8_readPage_62 rfl ?_
    refine gx_bipush (v := 40) C dX8_readPage_64 (by decide) ?_
    refine gx_icmp_ne (tgt := 75) C dX8_readPage_66 (by decide) (fun hc1 => ?_) (fun hc1 => ?_)
    · have h := gi_f hc1 h
      exact gx_weak (gx_le_k rfl (gx_le_k rfl (gx_le_k rfl (gx_le_k rfl (gx_le_k rfl (gx_le_k rfl (gx_le_k rfl gx_le_0))))))) (bn_readPage_75 hx C ⟨F, hnL⟩ hk9 h)
    · have h := gi_t hc1 h
      refine gx_iinc1 C dX8_readPage_69 rfl (by rw [hnL]; decide) trivial ?_
      refine gx_goto (tgt := 200) C dX8_readPage_72 (by decide) ?_
      exact gx_weak (gx_le_k rfl (gx_le_k rfl (gx_le_k rfl (gx_le_k rfl (gx_le_k rfl (gx_le_n (gx_le_n gx_le_0))))))) (bn_readPage_200 hx C ⟨F, hnL⟩ hk9 h)
def n_readPage_40 (k9 : Int32 × Int32 × Int32 × Int32 → Option (gx_S)) (x1 : Int32) (x2 : Int32) (x3 : Int32) (x4 : Int32) (x5 : Int32) (s0 : Int32) (S : gx_S) : Option (gx_S) := if x1 = 0 then if x5 = 33 then n_readPage_200 k9 0 x2 x3 x4 S else n_readPage_58 k9 x1 x2 x3 x4 x5 s0 S else n_readPage_58 k9 x1 x2 x3 x4 x5 s0 S
set_option maxRecDepth 20000 in
set_option maxHeartbeats 1000000 in
theorem bn_readPage_40 {Γ : gx_T} {ι : Nat → ClassId} {a : Nat → Nat} {out : gx_S} (hx : gx_std vwCl (gty ι) (gx_cl Γ) (gx_ty Γ)) (C : gx_ok Γ cX8_readPage RX8 gx_U 2) (F : gx_finV Γ ((Option.none : Option Jvm.ClassFile.FieldType)) (wM a ι) out ∧ gx_nL Γ = 7) {k9 : Int32 × Int32 × Int32 × Int32 → Option (gx_S)} {x1 : Int32} {x2 : Int32} {x3 : Int32} {x4 : Int32} {x5 : Int32} {s0 : Int32} {S : gx_S} (hk9 : ∀ (x17 : Int32) (x27 : Int32) (x37 : Int32) (x47 : Int32), k9 (x17, x27, x37, x47) = some out → gx_G Γ 0 0 9 [.ref (a 0), .int x17, .int x27, .int x37, .int x47, .null, .null] [] (wM a ι S)) (h : n_readPage_40 k9 x1 x2 x3 x4 x5 s0 S = some out) : gx_G Γ 0 0 40 [.ref (a 0), .int x1, .int x2, .int x3, .int x4, .int x5, .null] [.int s0] (wM a ι S) := by
  obtain ⟨F, hnL⟩ := F
  unfold n_readPage_40 at h
  refine gx_istore C dX8_readPage_40 (by rw [hnL]; decide) trivial ?_
  refine gx_iload_1 C dX8_readPage_42 rfl ?_
  refine gx_if_ne (tgt := 58) C dX8_readPage_43 (by decide) (fun hc2 => ?_) (fun hc2 => ?_)
  · have h := gi_f hc2 h
    exact gx_weak (gx_le_k rfl (gx_le_k rfl (gx_le_k rfl (gx_le_k rfl (gx_le_k rfl (gx_le_k rfl (gx_le_k rfl gx_le_0))))))) (bn_readPage_58 hx C ⟨F, hnL⟩ hk9 h)
  · have h := gi_t hc2 h
    refine gx_iload C dX8_readPage_46 rfl ?_
    refine gx_bipush (v := 33) C dX8_readPage_48 (by decide) ?_
    refine gx_icmp_ne (tgt := 58) C dX8_readPage_50 (by decide) (fun hc1 => ?_) (fun hc1 => ?_)
    · have h := gi_f hc1 h
      exact gx_weak (gx_le_k rfl (gx_le_k rfl (gx_le_k rfl (gx_le_k rfl (gx_le_k rfl (gx_le_k rfl (gx_le_k rfl gx_le_0))))))) (bn_readPage_58 hx C ⟨F, hnL⟩ hk9 h)
    · have h := gi_t hc1 h
      refine gx_iconst0 C dX8_readPage_53 ?_
      refine gx_istore_1 C dX8_readPage_54 (by rw [hnL]; decide) trivial ?_
      refine gx_goto (tgt := 200) C dX8_readPage_55 (by decide) ?_
      exact gx_weak (gx_le_k rfl (gx_le_k rfl (gx_le_k rfl (gx_le_k rfl (gx_le_k rfl (gx_le_n (gx_le_n gx_le_0))))))) (bn_readPage_200 hx C ⟨F, hnL⟩ hk9 h)
def n_readPage_244 (s1 : Int32) (S : gx_S) : Option (gx_S) := gx_bz s1 (gx_let (gx_st S 0 36 s1) fun S1 => some S1)
set_option maxRecDepth 20000 in
set_option maxHeartbeats 1000000 in
theorem bn_readPage_244 {Γ : gx_T} {ι : Nat → ClassId} {a : Nat → Nat} {out : gx_S} (hx : gx_std vwCl (gty ι) (gx_cl Γ) (gx_ty Γ)) (C : gx_ok Γ cX8_readPage RX8 gx_U 2) (F : gx_finV Γ ((Option.none : Option Jvm.ClassFile.FieldType)) (wM a ι) out ∧ gx_nL Γ = 7) {s1 : Int32} {S : gx_S} (h : n_readPage_244 s1 S = some out) : gx_G Γ 0 0 244 [.ref (a 0), .null, .null, .null, .null, .null, .null] [.int s1, .ref (a 0)] (wM a ι S) := by
  obtain ⟨F, hnL⟩ := F
  unfold n_readPage_244 at h
  obtain ⟨hz3, h⟩ := gi_bz h
  obtain ⟨S1, e2, h⟩ := gi_let h
  refine gs_puti (q := 0) C fl_X8_242 (cls_X8 hx) lt_M_Model (oc_M_Model a ι _) (oc_M_Model a ι _) rfl hz3.1 hz3.2 (Nat.le_of_ble_eq_true rfl) e2 dX8_readPage_244 ?_
  exact gx_vret C F dX8_readPage_247 (Option.some.inj h)
def n_readPage_243 (S : gx_S) : Option (gx_S) := n_readPage_244 0 S
set_option maxRecDepth 20000 in
set_option maxHeartbeats 1000000 in
theorem bn_readPage_243 {Γ : gx_T} {ι : Nat → ClassId} {a : Nat → Nat} {out : gx_S} (hx : gx_std vwCl (gty ι) (gx_cl Γ) (gx_ty Γ)) (C : gx_ok Γ cX8_readPage RX8 gx_U 2) (F : gx_finV Γ ((Option.none : Option Jvm.ClassFile.FieldType)) (wM a ι) out ∧ gx_nL Γ = 7) {S : gx_S} (h : n_readPage_243 S = some out) : gx_G Γ 0 0 243 [.ref (a 0), .null, .null, .null, .null, .null, .null] [.ref (a 0)] (wM a ι S) := by
  obtain ⟨F, hnL⟩ := F
  unfold n_readPage_243 at h
  refine gx_iconst0 C dX8_readPage_243 ?_
  exact gx_weak (gx_le_k rfl (gx_le_n (gx_le_n (gx_le_n (gx_le_n (gx_le_n (gx_le_n gx_le_0))))))) (bn_readPage_244 hx C ⟨F, hnL⟩ h)
def n_readPage_216 (x1 : Int32) (x2 : Int32) (x3 : Int32) (S : gx_S) : Option (gx_S) := gx_let (gx_st S 0 35 x3) fun S1 => if x3 = (S1 0 14) then if x1 ≤ 2 then n_readPage_243 S1 else if x2 = 0 then n_readPage_244 1 S1 else n_readPage_243 S1 else n_readPage_243 S1
set_option maxRecDepth 20000 in
set_option maxHeartbeats 1000000 in
theorem bn_readPage_216 {Γ : gx_T} {ι : Nat → ClassId} {a : Nat → Nat} {out : gx_S} (hx : gx_std vwCl (gty ι) (gx_cl Γ) (gx_ty Γ)) (C : gx_ok Γ cX8_readPage RX8 gx_U 2) (F : gx_finV Γ ((Option.none : Option Jvm.ClassFile.FieldType)) (wM a ι) out ∧ gx_nL Γ = 7) {x1 : Int32} {x2 : Int32} {x3 : Int32} {S : gx_S} (h : n_readPage_216 x1 x2 x3 S = some out) : gx_G Γ 0 0 216 [.ref (a 0), .int x1, .int x2, .int x3, .null, .null, .null] [] (wM a ι S) := by
  obtain ⟨F, hnL⟩ := F
  unfold n_readPage_216 at h
  refine gx_aload_0 C dX8_readPage_216 rfl ?_
  refine gx_iload_3 C dX8_readPage_217 rfl ?_
  obtain ⟨S1, e2, h⟩ := gi_let h
  refine gs_puti (q := 0) C fl_X8_239 (cls_X8 hx) lt_M_Model (oc_M_Model a ι _) (oc_M_Model a ι _) rfl rfl rfl (Nat.le_of_ble_eq_true rfl) e2 dX8_readPage_218 ?_
  refine gx_aload_0 C dX8_readPage_221 rfl ?_
  refine gx_iload_3 C dX8_readPage_222 rfl ?_
  refine gx_aload_0 C dX8_readPage_223 rfl ?_
  refine gs_getf (q := 0) C fl_X8_230 (cls_X8 hx) lt_M_Model (oc_M_Model a ι _) rfl dX8_readPage_224 ?_
  refine gx_icmp_ne (tgt := 243) C dX8_readPage_227 (by decide) (fun hc5 => ?_) (fun hc5 => ?_)
  · have h := gi_f hc5 h
    exact gx_weak (gx_le_k rfl (gx_le_n (gx_le_n (gx_le_n (gx_le_n (gx_le_n (gx_le_n gx_le_0))))))) (bn_readPage_243 hx C ⟨F, hnL⟩ h)
  · have h := gi_t hc5 h
    refine gx_iload_1 C dX8_readPage_230 rfl ?_
    refine gx_iconst2 C dX8_readPage_231 ?_
    refine gx_icmp_le (tgt := 243) C dX8_readPage_232 (by decide) (fun hc4 => ?_) (fun hc4 => ?_)
    · have h := gi_t hc4 h
      exact gx_weak (gx_le_k rfl (gx_le_n (gx_le_n (gx_le_n (gx_le_n (gx_le_n (gx_le_n gx_le_0))))))) (bn_readPage_243 hx C ⟨F, hnL⟩ h)
    · have h := gi_f hc4 h
      refine gx_iload_2 C dX8_readPage_235 rfl ?_
      refine gx_if_ne (tgt := 243) C dX8_readPage_236 (by decide) (fun hc3 => ?_) (fun hc3 => ?_)
      · have h := gi_f hc3 h
        exact gx_weak (gx_le_k rfl (gx_le_n (gx_le_n (gx_le_n (gx_le_n (gx_le_n (gx_le_n gx_le_0))))))) (bn_readPage_243 hx C ⟨F, hnL⟩ h)
      · have h := gi_t hc3 h
        refine gx_iconst1 C dX8_readPage_239 ?_
        refine gx_goto (tgt := 244) C dX8_readPage_240 (by decide) ?_
        exact gx_weak (gx_le_k rfl (gx_le_n (gx_le_n (gx_le_n (gx_le_n (gx_le_n (gx_le_n gx_le_0))))))) (bn_readPage_244 hx C ⟨F, hnL⟩ h)
def n_readPage_9 (S : gx_S) (t : Int32 × Int32 × Int32 × Int32) (k9 : Int32 × Int32 × Int32 × Int32 → Option (gx_S)) : Option (gx_S) := match t with
  | (x1, x2, x3, x4) => if (S 0 14) ≤ x3 then n_readPage_216 x1 x2 x3 S else if x4 = 0 then n_readPage_216 x1 x2 x3 S else gx_ck 50 x3 (if x1 ≤ 2 then n_readPage_40 k9 x1 x2 x3 x4 (S 11 x3.toNatClampNeg) 0 S else n_readPage_40 k9 x1 x2 x3 x4 (S 11 x3.toNatClampNeg) 1 S)
set_option maxRecDepth 20000 in
set_option maxHeartbeats 1000000 in
theorem bn_readPage_9 {Γ : gx_T} {ι : Nat → ClassId} {a : Nat → Nat} {out : gx_S} (hx : gx_std vwCl (gty ι) (gx_cl Γ) (gx_ty Γ)) (C : gx_ok Γ cX8_readPage RX8 gx_U 2) (F : gx_finV Γ ((Option.none : Option Jvm.ClassFile.FieldType)) (wM a ι) out ∧ gx_nL Γ = 7) {k9 : Int32 × Int32 × Int32 × Int32 → Option (gx_S)} {x1 : Int32} {x2 : Int32} {x3 : Int32} {x4 : Int32} {S : gx_S} (hk9 : ∀ (x17 : Int32) (x27 : Int32) (x37 : Int32) (x47 : Int32), k9 (x17, x27, x37, x47) = some out → gx_G Γ 0 0 9 [.ref (a 0), .int x17, .int x27, .int x37, .int x47, .null, .null] [] (wM a ι S)) (h : n_readPage_9 S (x1, x2, x3, x4) k9 = some out) : gx_G Γ 0 0 9 [.ref (a 0), .int x1, .int x2, .int x3, .int x4, .null, .null] [] (wM a ι S) := by
  obtain ⟨F, hnL⟩ := F
  unfold n_readPage_9 at h
  dsimp only at h
  refine gx_iload_3 C dX8_readPage_9 rfl ?_
  refine gx_aload_0 C dX8_readPage_10 rfl ?_
  refine gs_getf (q := 0) C fl_X8_230 (cls_X8 hx) lt_M_Model (oc_M_Model a ι _) rfl dX8_readPage_11 ?_
  refine gx_icmp_ge (tgt := 216) C dX8_readPage_14 (by decide) (fun hc4 => ?_) (fun hc4 => ?_)
  · have h := gi_t hc4 h
    exact gx_weak (gx_le_k rfl (gx_le_k rfl (gx_le_k rfl (gx_le_k rfl (gx_le_n (gx_le_n (gx_le_n gx_le_0))))))) (bn_readPage_216 hx C ⟨F, hnL⟩ h)
  · have h := gi_f hc4 h
    refine gx_iload C dX8_readPage_17 rfl ?_
    refine gx_if_eq (tgt := 216) C dX8_readPage_19 (by decide) (fun hc3 => ?_) (fun hc3 => ?_)
    · have h := gi_t hc3 h
      exact gx_weak (gx_le_k rfl (gx_le_k rfl (gx_le_k rfl (gx_le_k rfl (gx_le_n (gx_le_n (gx_le_n gx_le_0))))))) (bn_readPage_216 hx C ⟨F, hnL⟩ h)
    · have h := gi_f hc3 h
      refine gx_aload_0 C dX8_readPage_22 rfl ?_
      refine gs_getf (q := 0) C fl_X8_42 (cls_X8 hx) lt_M_Model (oc_M_Model a ι _) rfl dX8_readPage_23 ?_
      refine gx_iload_3 C dX8_readPage_26 rfl ?_
      obtain ⟨hi1, h⟩ := gi_ck h
      refine gs_bald (q := 11) C (ac_M_M_page hx a) lt_M_M_page hi1 dX8_readPage_27 ?_
      refine gx_istore C dX8_readPage_28 (by rw [hnL]; decide) trivial ?_
      refine gx_iload_1 C dX8_readPage_30 rfl ?_
      refine gx_iconst2 C dX8_readPage_31 ?_
      refine gx_icmp_le (tgt := 39) C dX8_readPage_32 (by decide) (fun hc2 => ?_) (fun hc2 => ?_)
      · have h := gi_t hc2 h
        refine gx_iconst0 C dX8_readPage_39 ?_
        exact gx_weak (gx_le_k rfl (gx_le_k rfl (gx_le_k rfl (gx_le_k rfl (gx_le_k rfl (gx_le_k rfl (gx_le_n gx_le_0))))))) (bn_readPage_40 hx C ⟨F, hnL⟩ hk9 h)
      · have h := gi_f hc2 h
        refine gx_iconst1 C dX8_readPage_35 ?_
        refine gx_goto (tgt := 40) C dX8_readPage_36 (by decide) ?_
        exact gx_weak (gx_le_k rfl (gx_le_k rfl (gx_le_k rfl (gx_le_k rfl (gx_le_k rfl (gx_le_k rfl (gx_le_n gx_le_0))))))) (bn_readPage_40 hx C ⟨F, hnL⟩ hk9 h)
def n_readPage (S : gx_S) : Option (gx_S) := gx_loop (n_readPage_9 S) 5000 (0, 0, 0, 1)
set_option maxRecDepth 20000 in
set_option maxHeartbeats 1000000 in
theorem cn_readPage (l : Launch) (D : va_G) {cl : List vw_C} {tys : List (ClassId × FieldType)} {ι : Nat → ClassId} (hx : gx_std vwCl (gty ι) cl tys) (a : Nat → Nat) (S : gx_S) {out : gx_S} (h : n_readPage  S = some out) : gx_mV l D cl tys yX8_readPage (.code yX8_readPage cX8_readPage 7 ((Option.none : Option Jvm.ClassFile.FieldType)) :: gx_U) (gx_rm 2) [.ref (a 0)] (wM a ι S) (wM a ι) out := by
  unfold n_readPage at h
  refine gx_startV (V := [.ref (a 0), .null, .null, .null, .null, .null, .null]) 6 (by decide +kernel) (Nat.le_of_ble_eq_true rfl) rfl (fun Γ hl hD hcl hty hnL C F => ?_)
  subst hl; subst hD; subst hcl; subst hty
  refine gx_iconst0 C dX8_readPage_0 ?_
  refine gx_istore_1 C dX8_readPage_1 (by rw [hnL]; decide) trivial ?_
  refine gx_iconst0 C dX8_readPage_2 ?_
  refine gx_istore_2 C dX8_readPage_3 (by rw [hnL]; decide) trivial ?_
  refine gx_iconst0 C dX8_readPage_4 ?_
  refine gx_istore_3 C dX8_readPage_5 (by rw [hnL]; decide) trivial ?_
  refine gx_iconst1 C dX8_readPage_6 ?_
  refine gx_istore C dX8_readPage_7 (by rw [hnL]; decide) trivial ?_
  refine gx_Veq (V' := [.ref (a 0), .int 0, .int 0, .int 0, .int 1, .null, .null]) rfl ?_
  refine gx_weak (gx_le_k rfl (gx_le_k rfl (gx_le_k rfl (gx_le_k rfl (gx_le_k rfl (gx_le_n (gx_le_n gx_le_0))))))) (gi_loop (P := fun t => gx_G Γ 0 0 9 [.ref (a 0), .int t.1, .int t.2.1, .int t.2.2.1, .int t.2.2.2, .null, .null] [] (wM a ι S)) (fun kk t hk h => ?_) 5000 _ h)
  obtain ⟨x19, x29, x39, x49⟩ := t
  exact bn_readPage_9 hx C ⟨F, hnL⟩ (k9 := kk) (fun x18 x28 x38 x48 h => hk (x18, x28, x38, x48) h) h
def n_fault (S : gx_S) : Option (Int32 × gx_S) := gx_cp (n_readPage S) fun S2 => some (S2 0 35, S2)
set_option maxRecDepth 20000 in
set_option maxHeartbeats 1000000 in
theorem cn_fault (l : Launch) (D : va_G) {cl : List vw_C} {tys : List (ClassId × FieldType)} {ι : Nat → ClassId} (hx : gx_std vwCl (gty ι) cl tys) (a : Nat → Nat) (S : gx_S) {out : Int32 × gx_S} (h : n_fault  S = some out) : gx_mI l D cl tys yX8_fault (.code yX8_fault cX8_fault 1 ((Option.some Jvm.ClassFile.FieldType.int)) :: gx_U) (gx_rm 3) [.ref (a 0)] (wM a ι S) (wM a ι) out := by
  unfold n_fault at h
  refine gx_startI (V := [.ref (a 0)]) 0 (by decide +kernel) (Nat.le_of_ble_eq_true rfl) rfl (fun Γ hl hD hcl hty hnL C F => ?_)
  subst hl; subst hD; subst hcl; subst hty
  refine gx_aload_0 C dX8_fault_0 rfl ?_
  obtain ⟨S2, e1, h⟩ := gi_cp h
  refine gc_VV C (cn_readPage (gx_l Γ) (gx_D Γ) hx a _ e1) (gx_cw C gx_uu lk_X8_245 (by decide) (by decide)) (cls_X8 hx).1 (gs_recv (q := 0) lt_M_Model (oc_M_Model a ι _)) rfl rfl (Nat.le_of_ble_eq_true rfl) ⟨Nat.zero_le _, Nat.zero_le _⟩ dX8_fault_1 ?_
  refine gx_aload_0 C dX8_fault_4 rfl ?_
  refine gs_getf (q := 0) C fl_X8_239 (cls_X8 hx) lt_M_Model (oc_M_Model a ι _) rfl dX8_fault_5 ?_
  exact gx_iret C F rfl dX8_fault_8 (Option.some.inj h)

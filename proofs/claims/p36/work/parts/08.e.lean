def r_cell (xs : Nat → Int32) (L : Nat) (x1 : Int32) : Option (Int32) := if (Int32.ofNat L) ≤ x1 then some ((((7919 : Int32) * x1) + (13 : Int32)) &&& (2147483647 : Int32)) else gx_ck L x1 (some ((xs x1.toNatClampNeg) &&& (2147483647 : Int32)))
set_option maxRecDepth 20000 in
set_option maxHeartbeats 4000000 in
theorem cr_cell (l : Launch) (D : va_G) {cl : List vw_C} {tys : List (ClassId × FieldType)} {ι : Nat → ClassId} (hx : gx_std vwCl (gty ι) cl tys) {b0 L : Nat} {xs : Nat → Int32} (x1 : Int32) {out : Int32} (h : r_cell xs L x1 = some out) : gy_m l D cl tys yL_cell (.code yL_cell cL_cell 2 ((Option.some Jvm.ClassFile.FieldType.int)) :: gx_U) (gx_rmc 0 0 0) [.ref b0, .int x1] ([] : va_W) (fun _ : Unit => ([] : va_W)) (some (b0, L, xs)) (out, ()) 0 0 := by
  unfold r_cell at h
  refine gy_start (V := [.ref b0, .int x1]) 0 (by decide +kernel) (Nat.le_of_ble_eq_true rfl) rfl (fun Γ hl hD hcl hty hnL C F X => ?_)
  subst hl; subst hD; subst hcl; subst hty
  have ht0 : (gx_ty Γ)[0]? = some (ι 0, .int) := by rw [hx.2]; rfl
  refine gx_iload_1 C dL_cell_0 rfl ?_
  refine gx_aload_0 C dL_cell_1 rfl ?_
  refine gl_slen C X dL_cell_2 ?_
  refine gx_icmp_ge (tgt := 12) C dL_cell_3 (by decide) (fun hc2 => ?_) (fun hc2 => ?_)
  · have h := gi_t hc2 h
    refine gx_sipush (v := 7919) C dL_cell_12 (by decide) ?_
    refine gx_iload_1 C dL_cell_15 rfl ?_
    refine gx_imul C dL_cell_16 ?_
    refine gx_bipush (v := 13) C dL_cell_17 (by decide) ?_
    refine gx_iadd C dL_cell_19 ?_
    refine gx_ldc (v := 2147483647) C dL_cell_20 kL_7 ?_
    refine gx_iand C dL_cell_22 ?_
    have e := Option.some.inj h
    exact gy_iret () C F rfl (Nat.le_refl _) (Nat.le_refl _) dL_cell_23 (by rw [e])
  · have h := gi_f hc2 h
    refine gx_aload_0 C dL_cell_6 rfl ?_
    refine gx_iload_1 C dL_cell_7 rfl ?_
    obtain ⟨hi1, h⟩ := gi_ck h
    refine gl_sld C X hi1 dL_cell_8 ?_
    refine gx_goto (tgt := 20) C dL_cell_9 (by decide) ?_
    refine gx_ldc (v := 2147483647) C dL_cell_20 kL_7 ?_
    refine gx_iand C dL_cell_22 ?_
    have e := Option.some.inj h
    exact gy_iret () C F rfl (Nat.le_refl _) (Nat.le_refl _) dL_cell_23 (by rw [e])
def r_open_26 (S : gx_S) : Option (Int32) := some 1
set_option maxRecDepth 20000 in
set_option maxHeartbeats 1000000 in
theorem br_open_26 {Γ : gx_T} {ι : Nat → ClassId} {a : Nat → Nat} {out : Int32} {S : gx_S} (hx : gx_std vwCl (gty ι) (gx_cl Γ) (gx_ty Γ)) (C : gx_ok Γ cL_open RL gx_U 0) (F : gx_finI Γ ((Option.some Jvm.ClassFile.FieldType.boolean)) (wR a ι) (out, S) ∧ gx_nL Γ = 3) (h : r_open_26 S = some out) : gx_G Γ 0 0 26 [.ref (a 0), .null, .null] [] (wR a ι S) := by
  obtain ⟨F, hnL⟩ := F
  unfold r_open_26 at h
  refine gx_iconst1 C dL_open_26 ?_
  refine gx_goto (tgt := 31) C dL_open_27 (by decide) ?_
  exact gx_iret C F (by decide) dL_open_31 (congrArg (fun z => (z, S)) (Option.some.inj h))
def r_open (x1 : Int32) (S : gx_S) : Option (Int32) := gx_ck 45 ((33 : Int32) + x1) (gx_ck 45 ((3 : Int32) + (S 0 ((33 : Int32) + x1).toNatClampNeg)) (if (S 0 ((3 : Int32) + (S 0 ((33 : Int32) + x1).toNatClampNeg)).toNatClampNeg) = 4 then gx_ck 45 ((39 : Int32) + (S 0 ((33 : Int32) + x1).toNatClampNeg)) (if (S 0 ((39 : Int32) + (S 0 ((33 : Int32) + x1).toNatClampNeg)).toNatClampNeg) = 1 then r_open_26 S else some 0) else r_open_26 S))
set_option maxRecDepth 20000 in
set_option maxHeartbeats 1000000 in
theorem cr_open (l : Launch) (D : va_G) {cl : List vw_C} {tys : List (ClassId × FieldType)} {ι : Nat → ClassId} (hx : gx_std vwCl (gty ι) cl tys) (a : Nat → Nat) (x1 : Int32) (S : gx_S) {out : Int32} (h : r_open x1 S = some out) : gx_mI l D cl tys yL_open (.code yL_open cL_open 3 ((Option.some Jvm.ClassFile.FieldType.boolean)) :: gx_U) (gx_rm 0) [.ref (a 0), .int x1] (wR a ι S) (wR a ι) (out, S) := by
  unfold r_open at h
  refine gx_startI (V := [.ref (a 0), .int x1, .null]) 1 (by decide +kernel) (Nat.le_of_ble_eq_true rfl) rfl (fun Γ hl hD hcl hty hnL C F => ?_)
  subst hl; subst hD; subst hcl; subst hty
  refine gx_aload_0 C dL_open_0 rfl ?_
  refine gx_bipush (v := 33) C dL_open_1 (by decide) ?_
  refine gx_iload_1 C dL_open_3 rfl ?_
  refine gx_iadd C dL_open_4 ?_
  obtain ⟨hi1, h⟩ := gi_ck h
  refine gs_iald (q := 0) C (ac_R_row hx a) lt_R_row hi1 dL_open_5 ?_
  refine gx_istore_2 C dL_open_6 (by rw [hnL]; decide) trivial ?_
  refine gx_aload_0 C dL_open_7 rfl ?_
  refine gx_iconst3 C dL_open_8 ?_
  refine gx_iload_2 C dL_open_9 rfl ?_
  refine gx_iadd C dL_open_10 ?_
  obtain ⟨hi2, h⟩ := gi_ck h
  refine gs_iald (q := 0) C (ac_R_row hx a) lt_R_row hi2 dL_open_11 ?_
  refine gx_iconst4 C dL_open_12 ?_
  refine gx_icmp_ne (tgt := 26) C dL_open_13 (by decide) (fun hc5 => ?_) (fun hc5 => ?_)
  · have h := gi_f hc5 h
    exact gx_weak (gx_le_k rfl (gx_le_n (gx_le_n gx_le_0))) (br_open_26 hx C ⟨F, hnL⟩ h)
  · have h := gi_t hc5 h
    refine gx_aload_0 C dL_open_16 rfl ?_
    refine gx_bipush (v := 39) C dL_open_17 (by decide) ?_
    refine gx_iload_2 C dL_open_19 rfl ?_
    refine gx_iadd C dL_open_20 ?_
    obtain ⟨hi3, h⟩ := gi_ck h
    refine gs_iald (q := 0) C (ac_R_row hx a) lt_R_row hi3 dL_open_21 ?_
    refine gx_iconst1 C dL_open_22 ?_
    refine gx_icmp_ne (tgt := 30) C dL_open_23 (by decide) (fun hc4 => ?_) (fun hc4 => ?_)
    · have h := gi_f hc4 h
      refine gx_iconst0 C dL_open_30 ?_
      exact gx_iret C F (by decide) dL_open_31 (congrArg (fun z => (z, S)) (Option.some.inj h))
    · have h := gi_t hc4 h
      exact gx_weak (gx_le_k rfl (gx_le_n (gx_le_n gx_le_0))) (br_open_26 hx C ⟨F, hnL⟩ h)
def r_is_42 (x2 : Int32) (x3 : Int32) (s0 : Int32) (s1 : Int32) (s2 : Int32) (S : gx_S) : Option (Int32) := gx_ck 48 (((6 : Int32) * x2) + (4 : Int32)) (if (S 1 (((6 : Int32) * x2) + (4 : Int32)).toNatClampNeg) = x3 then gx_ck 48 (((6 : Int32) * x2) + (5 : Int32)) (some ((s0 + (s1 * s2)) - (S 1 (((6 : Int32) * x2) + (5 : Int32)).toNatClampNeg))) else some ((s0 + (s1 * s2)) - (0 : Int32)))
set_option maxRecDepth 20000 in
set_option maxHeartbeats 1000000 in
theorem br_is_42 {Γ : gx_T} {ι : Nat → ClassId} {a : Nat → Nat} {out : Int32} {S : gx_S} (hx : gx_std vwCl (gty ι) (gx_cl Γ) (gx_ty Γ)) (C : gx_ok Γ cL_is RL gx_U 0) (F : gx_finI Γ ((Option.some Jvm.ClassFile.FieldType.int)) (wR a ι) (out, S) ∧ gx_nL Γ = 5) {x2 : Int32} {x3 : Int32} {s0 : Int32} {s1 : Int32} {s2 : Int32} (h : r_is_42 x2 x3 s0 s1 s2 S = some out) : gx_G Γ 0 0 42 [.ref (a 0), .ref (a 1), .int x2, .int x3, .null] [.int s2, .int s1, .int s0] (wR a ι S) := by
  obtain ⟨F, hnL⟩ := F
  unfold r_is_42 at h
  refine gx_imul C dL_is_42 ?_
  refine gx_iadd C dL_is_43 ?_
  refine gx_aload_1 C dL_is_44 rfl ?_
  refine gx_bipush (v := 6) C dL_is_45 (by decide) ?_
  refine gx_iload_2 C dL_is_47 rfl ?_
  refine gx_imul C dL_is_48 ?_
  refine gx_iconst4 C dL_is_49 ?_
  refine gx_iadd C dL_is_50 ?_
  obtain ⟨hi1, h⟩ := gi_ck h
  refine gs_iald (q := 1) C (ac_R_sort hx a) lt_R_sort hi1 dL_is_51 ?_
  refine gx_iload_3 C dL_is_52 rfl ?_
  refine gx_icmp_ne (tgt := 67) C dL_is_53 (by decide) (fun hc3 => ?_) (fun hc3 => ?_)
  · have h := gi_f hc3 h
    refine gx_iconst0 C dL_is_67 ?_
    refine gx_isub C dL_is_68 ?_
    exact gx_iret C F rfl dL_is_69 (congrArg (fun z => (z, S)) (Option.some.inj h))
  · have h := gi_t hc3 h
    refine gx_aload_1 C dL_is_56 rfl ?_
    refine gx_bipush (v := 6) C dL_is_57 (by decide) ?_
    refine gx_iload_2 C dL_is_59 rfl ?_
    refine gx_imul C dL_is_60 ?_
    refine gx_iconst5 C dL_is_61 ?_
    refine gx_iadd C dL_is_62 ?_
    obtain ⟨hi2, h⟩ := gi_ck h
    refine gs_iald (q := 1) C (ac_R_sort hx a) lt_R_sort hi2 dL_is_63 ?_
    refine gx_goto (tgt := 68) C dL_is_64 (by decide) ?_
    refine gx_isub C dL_is_68 ?_
    exact gx_iret C F rfl dL_is_69 (congrArg (fun z => (z, S)) (Option.some.inj h))
def r_is (x2 : Int32) (x3 : Int32) (S : gx_S) : Option (Int32) := gx_ck 45 ((15 : Int32) + x3) (gx_ck 48 ((6 : Int32) * x2) (gx_ck 45 ((27 : Int32) + x3) (gx_ck 48 (((6 : Int32) * x2) + (2 : Int32)) (if 0 ≤ ((S 0 ((15 : Int32) + x3).toNatClampNeg) - (S 1 ((6 : Int32) * x2).toNatClampNeg)) then r_is_42 x2 x3 (S 0 ((27 : Int32) + x3).toNatClampNeg) (S 1 (((6 : Int32) * x2) + (2 : Int32)).toNatClampNeg) ((S 0 ((15 : Int32) + x3).toNatClampNeg) - (S 1 ((6 : Int32) * x2).toNatClampNeg)) S else r_is_42 x2 x3 (S 0 ((27 : Int32) + x3).toNatClampNeg) (S 1 (((6 : Int32) * x2) + (2 : Int32)).toNatClampNeg) (-((S 0 ((15 : Int32) + x3).toNatClampNeg) - (S 1 ((6 : Int32) * x2).toNatClampNeg))) S))))
set_option maxRecDepth 20000 in
set_option maxHeartbeats 1000000 in
theorem cr_is (l : Launch) (D : va_G) {cl : List vw_C} {tys : List (ClassId × FieldType)} {ι : Nat → ClassId} (hx : gx_std vwCl (gty ι) cl tys) (a : Nat → Nat) (x2 : Int32) (x3 : Int32) (S : gx_S) {out : Int32} (h : r_is x2 x3 S = some out) : gx_mI l D cl tys yL_is (.code yL_is cL_is 5 ((Option.some Jvm.ClassFile.FieldType.int)) :: gx_U) (gx_rm 0) [.ref (a 0), .ref (a 1), .int x2, .int x3] (wR a ι S) (wR a ι) (out, S) := by
  unfold r_is at h
  refine gx_startI (V := [.ref (a 0), .ref (a 1), .int x2, .int x3, .null]) 1 (by decide +kernel) (Nat.le_of_ble_eq_true rfl) rfl (fun Γ hl hD hcl hty hnL C F => ?_)
  subst hl; subst hD; subst hcl; subst hty
  refine gx_aload_0 C dL_is_0 rfl ?_
  refine gx_bipush (v := 15) C dL_is_1 (by decide) ?_
  refine gx_iload_3 C dL_is_3 rfl ?_
  refine gx_iadd C dL_is_4 ?_
  obtain ⟨hi1, h⟩ := gi_ck h
  refine gs_iald (q := 0) C (ac_R_row hx a) lt_R_row hi1 dL_is_5 ?_
  refine gx_aload_1 C dL_is_6 rfl ?_
  refine gx_bipush (v := 6) C dL_is_7 (by decide) ?_
  refine gx_iload_2 C dL_is_9 rfl ?_
  refine gx_imul C dL_is_10 ?_
  obtain ⟨hi2, h⟩ := gi_ck h
  refine gs_iald (q := 1) C (ac_R_sort hx a) lt_R_sort hi2 dL_is_11 ?_
  refine gx_isub C dL_is_12 ?_
  refine gx_istore C dL_is_13 (by rw [hnL]; decide) trivial ?_
  refine gx_aload_0 C dL_is_15 rfl ?_
  refine gx_bipush (v := 27) C dL_is_16 (by decide) ?_
  refine gx_iload_3 C dL_is_18 rfl ?_
  refine gx_iadd C dL_is_19 ?_
  obtain ⟨hi3, h⟩ := gi_ck h
  refine gs_iald (q := 0) C (ac_R_row hx a) lt_R_row hi3 dL_is_20 ?_
  refine gx_aload_1 C dL_is_21 rfl ?_
  refine gx_bipush (v := 6) C dL_is_22 (by decide) ?_
  refine gx_iload_2 C dL_is_24 rfl ?_
  refine gx_imul C dL_is_25 ?_
  refine gx_iconst2 C dL_is_26 ?_
  refine gx_iadd C dL_is_27 ?_
  obtain ⟨hi4, h⟩ := gi_ck h
  refine gs_iald (q := 1) C (ac_R_sort hx a) lt_R_sort hi4 dL_is_28 ?_
  refine gx_iload C dL_is_29 rfl ?_
  refine gx_if_ge (tgt := 40) C dL_is_31 (by decide) (fun hc5 => ?_) (fun hc5 => ?_)
  · have h := gi_t hc5 h
    refine gx_iload C dL_is_40 rfl ?_
    exact gx_weak (gx_le_k rfl (gx_le_k rfl (gx_le_k rfl (gx_le_k rfl (gx_le_n gx_le_0))))) (br_is_42 hx C ⟨F, hnL⟩ h)
  · have h := gi_f hc5 h
    refine gx_iload C dL_is_34 rfl ?_
    refine gx_ineg C dL_is_36 ?_
    refine gx_goto (tgt := 42) C dL_is_37 (by decide) ?_
    exact gx_weak (gx_le_k rfl (gx_le_k rfl (gx_le_k rfl (gx_le_k rfl (gx_le_n gx_le_0))))) (br_is_42 hx C ⟨F, hnL⟩ h)
def r_goes_92 (k10 : Int32 × Int32 → Option (Int32)) (x2 : Int32) (x3 : Int32) (x5 : Int32) (s0 : Int32) (S : gx_S) : Option (Int32) := k10 (s0, (x5 + (-1)))
set_option maxRecDepth 20000 in
set_option maxHeartbeats 1000000 in
theorem br_goes_92 {Γ : gx_T} {ι : Nat → ClassId} {a : Nat → Nat} {out : Int32} {S : gx_S} (hx : gx_std vwCl (gty ι) (gx_cl Γ) (gx_ty Γ)) (C : gx_ok Γ cL_goes RL gx_U 1) (F : gx_finI Γ ((Option.some Jvm.ClassFile.FieldType.int)) (wR a ι) (out, S) ∧ gx_nL Γ = 7) {k10 : Int32 × Int32 → Option (Int32)} {x2 : Int32} {x3 : Int32} {x5 : Int32} {s0 : Int32} (hk10 : ∀ (x47 : Int32) (x57 : Int32), k10 (x47, x57) = some out → gx_G Γ 0 0 10 [.ref (a 0), .ref (a 1), .int x2, .int x3, .int x47, .int x57, .null] [] (wR a ι S)) (h : r_goes_92 k10 x2 x3 x5 s0 S = some out) : gx_G Γ 0 0 92 [.ref (a 0), .ref (a 1), .int x2, .int x3, .null, .int x5, .null] [.int s0] (wR a ι S) := by
  obtain ⟨F, hnL⟩ := F
  unfold r_goes_92 at h
  refine gx_istore C dL_goes_92 (by rw [hnL]; decide) trivial ?_
  refine gx_iinc C dL_goes_94 rfl rfl (by rw [hnL]; decide) trivial ?_
  refine gx_goto (tgt := 10) C dL_goes_97 (by decide) ?_
  exact gx_weak (gx_le_k rfl (gx_le_k rfl (gx_le_k rfl (gx_le_k rfl (gx_le_k rfl (gx_le_k rfl (gx_le_n gx_le_0))))))) (hk10 _ _ h)
def r_goes_85 (k10 : Int32 × Int32 → Option (Int32)) (x2 : Int32) (x3 : Int32) (x5 : Int32) (S : gx_S) : Option (Int32) := r_goes_92 k10 x2 x3 x5 x5 S
set_option maxRecDepth 20000 in
set_option maxHeartbeats 1000000 in
theorem br_goes_85 {Γ : gx_T} {ι : Nat → ClassId} {a : Nat → Nat} {out : Int32} {S : gx_S} (hx : gx_std vwCl (gty ι) (gx_cl Γ) (gx_ty Γ)) (C : gx_ok Γ cL_goes RL gx_U 1) (F : gx_finI Γ ((Option.some Jvm.ClassFile.FieldType.int)) (wR a ι) (out, S) ∧ gx_nL Γ = 7) {k10 : Int32 × Int32 → Option (Int32)} {x2 : Int32} {x3 : Int32} {x5 : Int32} (hk10 : ∀ (x47 : Int32) (x57 : Int32), k10 (x47, x57) = some out → gx_G Γ 0 0 10 [.ref (a 0), .ref (a 1), .int x2, .int x3, .int x47, .int x57, .null] [] (wR a ι S)) (h : r_goes_85 k10 x2 x3 x5 S = some out) : gx_G Γ 0 0 85 [.ref (a 0), .ref (a 1), .int x2, .int x3, .null, .int x5, .null] [] (wR a ι S) := by
  obtain ⟨F, hnL⟩ := F
  unfold r_goes_85 at h
  refine gx_iload C dL_goes_85 rfl ?_
  refine gx_goto (tgt := 92) C dL_goes_87 (by decide) ?_
  exact gx_weak (gx_le_k rfl (gx_le_k rfl (gx_le_k rfl (gx_le_k rfl (gx_le_n (gx_le_k rfl (gx_le_n gx_le_0))))))) (br_goes_92 hx C ⟨F, hnL⟩ hk10 h)
def r_goes_90 (k10 : Int32 × Int32 → Option (Int32)) (x2 : Int32) (x3 : Int32) (x4 : Int32) (x5 : Int32) (S : gx_S) : Option (Int32) := r_goes_92 k10 x2 x3 x5 x4 S
set_option maxRecDepth 20000 in
set_option maxHeartbeats 1000000 in
theorem br_goes_90 {Γ : gx_T} {ι : Nat → ClassId} {a : Nat → Nat} {out : Int32} {S : gx_S} (hx : gx_std vwCl (gty ι) (gx_cl Γ) (gx_ty Γ)) (C : gx_ok Γ cL_goes RL gx_U 1) (F : gx_finI Γ ((Option.some Jvm.ClassFile.FieldType.int)) (wR a ι) (out, S) ∧ gx_nL Γ = 7) {k10 : Int32 × Int32 → Option (Int32)} {x2 : Int32} {x3 : Int32} {x4 : Int32} {x5 : Int32} (hk10 : ∀ (x47 : Int32) (x57 : Int32), k10 (x47, x57) = some out → gx_G Γ 0 0 10 [.ref (a 0), .ref (a 1), .int x2, .int x3, .int x47, .int x57, .null] [] (wR a ι S)) (h : r_goes_90 k10 x2 x3 x4 x5 S = some out) : gx_G Γ 0 0 90 [.ref (a 0), .ref (a 1), .int x2, .int x3, .int x4, .int x5, .null] [] (wR a ι S) := by
  obtain ⟨F, hnL⟩ := F
  unfold r_goes_90 at h
  refine gx_iload C dL_goes_90 rfl ?_
  exact gx_weak (gx_le_k rfl (gx_le_k rfl (gx_le_k rfl (gx_le_k rfl (gx_le_n (gx_le_k rfl (gx_le_n gx_le_0))))))) (br_goes_92 hx C ⟨F, hnL⟩ hk10 h)
def r_goes_54 (k10 : Int32 × Int32 → Option (Int32)) (x2 : Int32) (x3 : Int32) (x4 : Int32) (x5 : Int32) (s0 : Int32) (S : gx_S) : Option (Int32) := if s0 = 0 then r_goes_90 k10 x2 x3 x4 x5 S else if x4 < 0 then r_goes_85 k10 x2 x3 x5 S else gx_cp (r_is x2 x5 S) fun v2 => gx_cp (r_is x2 x4 S) fun v4 => if v4 < v2 then r_goes_90 k10 x2 x3 x4 x5 S else r_goes_85 k10 x2 x3 x5 S
set_option maxRecDepth 20000 in
set_option maxHeartbeats 1000000 in
theorem br_goes_54 {Γ : gx_T} {ι : Nat → ClassId} {a : Nat → Nat} {out : Int32} {S : gx_S} (hx : gx_std vwCl (gty ι) (gx_cl Γ) (gx_ty Γ)) (C : gx_ok Γ cL_goes RL gx_U 1) (F : gx_finI Γ ((Option.some Jvm.ClassFile.FieldType.int)) (wR a ι) (out, S) ∧ gx_nL Γ = 7) {k10 : Int32 × Int32 → Option (Int32)} {x2 : Int32} {x3 : Int32} {x4 : Int32} {x5 : Int32} {s0 : Int32} (hk10 : ∀ (x47 : Int32) (x57 : Int32), k10 (x47, x57) = some out → gx_G Γ 0 0 10 [.ref (a 0), .ref (a 1), .int x2, .int x3, .int x47, .int x57, .null] [] (wR a ι S)) (h : r_goes_54 k10 x2 x3 x4 x5 s0 S = some out) : gx_G Γ 0 0 54 [.ref (a 0), .ref (a 1), .int x2, .int x3, .int x4, .int x5, .null] [.int s0] (wR a ι S) := by
  obtain ⟨F, hnL⟩ := F
  unfold r_goes_54 at h
  refine gx_istore C dL_goes_54 (by rw [hnL]; decide) trivial ?_
  refine gx_iload C dL_goes_56 rfl ?_
  refine gx_if_eq (tgt := 90) C dL_goes_58 (by decide) (fun hc7 => ?_) (fun hc7 => ?_)
  · have h := gi_t hc7 h
    exact gx_weak (gx_le_k rfl (gx_le_k rfl (gx_le_k rfl (gx_le_k rfl (gx_le_k rfl (gx_le_k rfl (gx_le_n gx_le_0))))))) (br_goes_90 hx C ⟨F, hnL⟩ hk10 h)
  · have h := gi_f hc7 h
    refine gx_iload C dL_goes_61 rfl ?_
    refine gx_if_lt (tgt := 85) C dL_goes_63 (by decide) (fun hc6 => ?_) (fun hc6 => ?_)
    · have h := gi_t hc6 h
      exact gx_weak (gx_le_k rfl (gx_le_k rfl (gx_le_k rfl (gx_le_k rfl (gx_le_n (gx_le_k rfl (gx_le_n gx_le_0))))))) (br_goes_85 hx C ⟨F, hnL⟩ hk10 h)
    · have h := gi_f hc6 h
      refine gx_aload_0 C dL_goes_66 rfl ?_
      refine gx_aload_1 C dL_goes_67 rfl ?_
      refine gx_iload_2 C dL_goes_68 rfl ?_
      refine gx_iload C dL_goes_69 rfl ?_
      obtain ⟨v2, e1, h⟩ := gi_cp h
      refine gc_IS C (cr_is (gx_l Γ) (gx_D Γ) hx a _ _ _ e1) (gx_cwS C gx_uu lk_L_39 (by decide) (by decide)) rfl rfl (Nat.le_of_ble_eq_true rfl) ⟨Nat.zero_le _, Nat.zero_le _⟩ dL_goes_71 ?_
      refine gx_aload_0 C dL_goes_74 rfl ?_
      refine gx_aload_1 C dL_goes_75 rfl ?_
      refine gx_iload_2 C dL_goes_76 rfl ?_
      refine gx_iload C dL_goes_77 rfl ?_
      obtain ⟨v4, e3, h⟩ := gi_cp h
      refine gc_IS C (cr_is (gx_l Γ) (gx_D Γ) hx a _ _ _ e3) (gx_cwS C gx_uu lk_L_39 (by decide) (by decide)) rfl rfl (Nat.le_of_ble_eq_true rfl) ⟨Nat.zero_le _, Nat.zero_le _⟩ dL_goes_79 ?_
      refine gx_icmp_gt (tgt := 90) C dL_goes_82 (by decide) (fun hc5 => ?_) (fun hc5 => ?_)
      · have h := gi_t hc5 h
        exact gx_weak (gx_le_k rfl (gx_le_k rfl (gx_le_k rfl (gx_le_k rfl (gx_le_k rfl (gx_le_k rfl (gx_le_n gx_le_0))))))) (br_goes_90 hx C ⟨F, hnL⟩ hk10 h)
      · have h := gi_f hc5 h
        exact gx_weak (gx_le_k rfl (gx_le_k rfl (gx_le_k rfl (gx_le_k rfl (gx_le_n (gx_le_k rfl (gx_le_n gx_le_0))))))) (br_goes_85 hx C ⟨F, hnL⟩ hk10 h)
def r_goes_53 (k10 : Int32 × Int32 → Option (Int32)) (x2 : Int32) (x3 : Int32) (x4 : Int32) (x5 : Int32) (S : gx_S) : Option (Int32) := r_goes_54 k10 x2 x3 x4 x5 0 S
set_option maxRecDepth 20000 in
set_option maxHeartbeats 1000000 in
theorem br_goes_53 {Γ : gx_T} {ι : Nat → ClassId} {a : Nat → Nat} {out : Int32} {S : gx_S} (hx : gx_std vwCl (gty ι) (gx_cl Γ) (gx_ty Γ)) (C : gx_ok Γ cL_goes RL gx_U 1) (F : gx_finI Γ ((Option.some Jvm.ClassFile.FieldType.int)) (wR a ι) (out, S) ∧ gx_nL Γ = 7) {k10 : Int32 × Int32 → Option (Int32)} {x2 : Int32} {x3 : Int32} {x4 : Int32} {x5 : Int32} (hk10 : ∀ (x47 : Int32) (x57 : Int32), k10 (x47, x57) = some out → gx_G Γ 0 0 10 [.ref (a 0), .ref (a 1), .int x2, .int x3, .int x47, .int x57, .null] [] (wR a ι S)) (h : r_goes_53 k10 x2 x3 x4 x5 S = some out) : gx_G Γ 0 0 53 [.ref (a 0), .ref (a 1), .int x2, .int x3, .int x4, .int x5, .null] [] (wR a ι S) := by
  obtain ⟨F, hnL⟩ := F
  unfold r_goes_53 at h
  refine gx_iconst0 C dL_goes_53 ?_
  exact gx_weak (gx_le_k rfl (gx_le_k rfl (gx_le_k rfl (gx_le_k rfl (gx_le_k rfl (gx_le_k rfl (gx_le_n gx_le_0))))))) (br_goes_54 hx C ⟨F, hnL⟩ hk10 h)
def r_goes_10 (x2 : Int32) (x3 : Int32) (S : gx_S) (t : Int32 × Int32) (k10 : Int32 × Int32 → Option (Int32)) : Option (Int32) := match t with
  | (x4, x5) => if x5 < 0 then some x4 else if x5 = x3 then r_goes_53 k10 x2 x3 x4 x5 S else gx_cp (r_open x5 S) fun v2 => if v2 = 0 then r_goes_53 k10 x2 x3 x4 x5 S else gx_cp (r_is x2 x5 S) fun v4 => gx_ck 48 (((6 : Int32) * x2) + (3 : Int32)) (if (S 1 (((6 : Int32) * x2) + (3 : Int32)).toNatClampNeg) < v4 then r_goes_53 k10 x2 x3 x4 x5 S else r_goes_54 k10 x2 x3 x4 x5 1 S)
set_option maxRecDepth 20000 in
set_option maxHeartbeats 1000000 in
theorem br_goes_10 {Γ : gx_T} {ι : Nat → ClassId} {a : Nat → Nat} {out : Int32} {S : gx_S} (hx : gx_std vwCl (gty ι) (gx_cl Γ) (gx_ty Γ)) (C : gx_ok Γ cL_goes RL gx_U 1) (F : gx_finI Γ ((Option.some Jvm.ClassFile.FieldType.int)) (wR a ι) (out, S) ∧ gx_nL Γ = 7) {k10 : Int32 × Int32 → Option (Int32)} {x2 : Int32} {x3 : Int32} {x4 : Int32} {x5 : Int32} (hk10 : ∀ (x47 : Int32) (x57 : Int32), k10 (x47, x57) = some out → gx_G Γ 0 0 10 [.ref (a 0), .ref (a 1), .int x2, .int x3, .int x47, .int x57, .null] [] (wR a ι S)) (h : r_goes_10 x2 x3 S (x4, x5) k10 = some out) : gx_G Γ 0 0 10 [.ref (a 0), .ref (a 1), .int x2, .int x3, .int x4, .int x5, .null] [] (wR a ι S) := by
  obtain ⟨F, hnL⟩ := F
  unfold r_goes_10 at h
  dsimp only at h
  refine gx_iload C dL_goes_10 rfl ?_
  refine gx_if_lt (tgt := 100) C dL_goes_12 (by decide) (fun hc9 => ?_) (fun hc9 => ?_)
  · have h := gi_t hc9 h
    refine gx_iload C dL_goes_100 rfl ?_
    exact gx_iret C F rfl dL_goes_102 (congrArg (fun z => (z, S)) (Option.some.inj h))
  · have h := gi_f hc9 h
    refine gx_iload C dL_goes_15 rfl ?_
    refine gx_iload_3 C dL_goes_17 rfl ?_
    refine gx_icmp_eq (tgt := 53) C dL_goes_18 (by decide) (fun hc8 => ?_) (fun hc8 => ?_)
    · have h := gi_t hc8 h
      exact gx_weak (gx_le_k rfl (gx_le_k rfl (gx_le_k rfl (gx_le_k rfl (gx_le_k rfl (gx_le_k rfl (gx_le_n gx_le_0))))))) (br_goes_53 hx C ⟨F, hnL⟩ hk10 h)
    · have h := gi_f hc8 h
      refine gx_aload_0 C dL_goes_21 rfl ?_
      refine gx_iload C dL_goes_22 rfl ?_
      obtain ⟨v2, e1, h⟩ := gi_cp h
      refine gc_IS C (cr_open (gx_l Γ) (gx_D Γ) hx a _ _ e1) (gx_cwS C gx_uu lk_L_35 (by decide) (by decide)) rfl rfl (Nat.le_of_ble_eq_true rfl) ⟨Nat.zero_le _, Nat.zero_le _⟩ dL_goes_24 ?_
      refine gx_if_eq (tgt := 53) C dL_goes_27 (by decide) (fun hc7 => ?_) (fun hc7 => ?_)
      · have h := gi_t hc7 h
        exact gx_weak (gx_le_k rfl (gx_le_k rfl (gx_le_k rfl (gx_le_k rfl (gx_le_k rfl (gx_le_k rfl (gx_le_n gx_le_0))))))) (br_goes_53 hx C ⟨F, hnL⟩ hk10 h)
      · have h := gi_f hc7 h
        refine gx_aload_0 C dL_goes_30 rfl ?_
        refine gx_aload_1 C dL_goes_31 rfl ?_
        refine gx_iload_2 C dL_goes_32 rfl ?_
        refine gx_iload C dL_goes_33 rfl ?_
        obtain ⟨v4, e3, h⟩ := gi_cp h
        refine gc_IS C (cr_is (gx_l Γ) (gx_D Γ) hx a _ _ _ e3) (gx_cwS C gx_uu lk_L_39 (by decide) (by decide)) rfl rfl (Nat.le_of_ble_eq_true rfl) ⟨Nat.zero_le _, Nat.zero_le _⟩ dL_goes_35 ?_
        refine gx_aload_1 C dL_goes_38 rfl ?_
        refine gx_bipush (v := 6) C dL_goes_39 (by decide) ?_
        refine gx_iload_2 C dL_goes_41 rfl ?_
        refine gx_imul C dL_goes_42 ?_
        refine gx_iconst3 C dL_goes_43 ?_
        refine gx_iadd C dL_goes_44 ?_
        obtain ⟨hi5, h⟩ := gi_ck h
        refine gs_iald (q := 1) C (ac_R_sort hx a) lt_R_sort hi5 dL_goes_45 ?_
        refine gx_icmp_gt (tgt := 53) C dL_goes_46 (by decide) (fun hc6 => ?_) (fun hc6 => ?_)
        · have h := gi_t hc6 h
          exact gx_weak (gx_le_k rfl (gx_le_k rfl (gx_le_k rfl (gx_le_k rfl (gx_le_k rfl (gx_le_k rfl (gx_le_n gx_le_0))))))) (br_goes_53 hx C ⟨F, hnL⟩ hk10 h)
        · have h := gi_f hc6 h
          refine gx_iconst1 C dL_goes_49 ?_
          refine gx_goto (tgt := 54) C dL_goes_50 (by decide) ?_
          exact gx_weak (gx_le_k rfl (gx_le_k rfl (gx_le_k rfl (gx_le_k rfl (gx_le_k rfl (gx_le_k rfl (gx_le_n gx_le_0))))))) (br_goes_54 hx C ⟨F, hnL⟩ hk10 h)
def r_goes (x2 : Int32) (x3 : Int32) (S : gx_S) : Option (Int32) := gx_ck 45 (1 : Int32) (gx_loop (r_goes_10 x2 x3 S) 5000 ((-1), ((S 0 (1 : Int32).toNatClampNeg) - (1 : Int32))))
set_option maxRecDepth 20000 in
set_option maxHeartbeats 1000000 in
theorem cr_goes (l : Launch) (D : va_G) {cl : List vw_C} {tys : List (ClassId × FieldType)} {ι : Nat → ClassId} (hx : gx_std vwCl (gty ι) cl tys) (a : Nat → Nat) (x2 : Int32) (x3 : Int32) (S : gx_S) {out : Int32} (h : r_goes x2 x3 S = some out) : gx_mI l D cl tys yL_goes (.code yL_goes cL_goes 7 ((Option.some Jvm.ClassFile.FieldType.int)) :: gx_U) (gx_rm 1) [.ref (a 0), .ref (a 1), .int x2, .int x3] (wR a ι S) (wR a ι) (out, S) := by
  unfold r_goes at h
  refine gx_startI (V := [.ref (a 0), .ref (a 1), .int x2, .int x3, .null, .null, .null]) 3 (by decide +kernel) (Nat.le_of_ble_eq_true rfl) rfl (fun Γ hl hD hcl hty hnL C F => ?_)
  subst hl; subst hD; subst hcl; subst hty
  refine gx_iconstm1 C dL_goes_0 ?_
  refine gx_istore C dL_goes_1 (by rw [hnL]; decide) trivial ?_
  refine gx_aload_0 C dL_goes_3 rfl ?_
  refine gx_iconst1 C dL_goes_4 ?_
  obtain ⟨hi1, h⟩ := gi_ck h
  refine gs_iald (q := 0) C (ac_R_row hx a) lt_R_row hi1 dL_goes_5 ?_
  refine gx_iconst1 C dL_goes_6 ?_
  refine gx_isub C dL_goes_7 ?_
  refine gx_istore C dL_goes_8 (by rw [hnL]; decide) trivial ?_
  refine gx_weak (gx_le_k rfl (gx_le_k rfl (gx_le_k rfl (gx_le_k rfl (gx_le_k rfl (gx_le_k rfl (gx_le_n gx_le_0))))))) (gi_loop (P := fun t => gx_G Γ 0 0 10 [.ref (a 0), .ref (a 1), .int x2, .int x3, .int t.1, .int t.2, .null] [] (wR a ι S)) (fun kk t hk h => ?_) 5000 _ h)
  obtain ⟨x49, x59⟩ := t
  exact br_goes_10 hx C ⟨F, hnL⟩ (k10 := kk) (fun x48 x58 h => hk (x48, x58) h) h
def r_spare (x2 : Int32) (S : gx_S) : Option (Int32) := gx_cp (r_goes x2 (-1) S) fun v2 => if 0 ≤ v2 then gx_ck 48 (((6 : Int32) * x2) + (3 : Int32)) (gx_cp (r_is x2 v2 S) fun v5 => some ((S 1 (((6 : Int32) * x2) + (3 : Int32)).toNatClampNeg) - v5)) else some 0
set_option maxRecDepth 20000 in
set_option maxHeartbeats 1000000 in
theorem cr_spare (l : Launch) (D : va_G) {cl : List vw_C} {tys : List (ClassId × FieldType)} {ι : Nat → ClassId} (hx : gx_std vwCl (gty ι) cl tys) (a : Nat → Nat) (x2 : Int32) (S : gx_S) {out : Int32} (h : r_spare x2 S = some out) : gx_mI l D cl tys yL_spare (.code yL_spare cL_spare 4 ((Option.some Jvm.ClassFile.FieldType.int)) :: gx_U) (gx_rm 2) [.ref (a 0), .ref (a 1), .int x2] (wR a ι S) (wR a ι) (out, S) := by
  unfold r_spare at h
  refine gx_startI (V := [.ref (a 0), .ref (a 1), .int x2, .null]) 1 (by decide +kernel) (Nat.le_of_ble_eq_true rfl) rfl (fun Γ hl hD hcl hty hnL C F => ?_)
  subst hl; subst hD; subst hcl; subst hty
  refine gx_aload_0 C dL_spare_0 rfl ?_
  refine gx_aload_1 C dL_spare_1 rfl ?_
  refine gx_iload_2 C dL_spare_2 rfl ?_
  refine gx_iconstm1 C dL_spare_3 ?_
  obtain ⟨v2, e1, h⟩ := gi_cp h
  refine gc_IS C (cr_goes (gx_l Γ) (gx_D Γ) hx a _ _ _ e1) (gx_cwS C gx_uu lk_L_43 (by decide) (by decide)) rfl rfl (Nat.le_of_ble_eq_true rfl) ⟨Nat.zero_le _, Nat.zero_le _⟩ dL_spare_4 ?_
  refine gx_istore_3 C dL_spare_7 (by rw [hnL]; decide) trivial ?_
  refine gx_iload_3 C dL_spare_8 rfl ?_
  refine gx_if_ge (tgt := 16) C dL_spare_9 (by decide) (fun hc6 => ?_) (fun hc6 => ?_)
  · have h := gi_t hc6 h
    refine gx_aload_1 C dL_spare_16 rfl ?_
    refine gx_bipush (v := 6) C dL_spare_17 (by decide) ?_
    refine gx_iload_2 C dL_spare_19 rfl ?_
    refine gx_imul C dL_spare_20 ?_
    refine gx_iconst3 C dL_spare_21 ?_
    refine gx_iadd C dL_spare_22 ?_
    obtain ⟨hi3, h⟩ := gi_ck h
    refine gs_iald (q := 1) C (ac_R_sort hx a) lt_R_sort hi3 dL_spare_23 ?_
    refine gx_aload_0 C dL_spare_24 rfl ?_
    refine gx_aload_1 C dL_spare_25 rfl ?_
    refine gx_iload_2 C dL_spare_26 rfl ?_
    refine gx_iload_3 C dL_spare_27 rfl ?_
    obtain ⟨v5, e4, h⟩ := gi_cp h
    refine gc_IS C (cr_is (gx_l Γ) (gx_D Γ) hx a _ _ _ e4) (gx_cwS C gx_uu lk_L_39 (by decide) (by decide)) rfl rfl (Nat.le_of_ble_eq_true rfl) ⟨Nat.zero_le _, Nat.zero_le _⟩ dL_spare_28 ?_
    refine gx_isub C dL_spare_31 ?_
    exact gx_iret C F rfl dL_spare_32 (congrArg (fun z => (z, S)) (Option.some.inj h))
  · have h := gi_f hc6 h
    refine gx_iconst0 C dL_spare_12 ?_
    refine gx_goto (tgt := 32) C dL_spare_13 (by decide) ?_
    exact gx_iret C F rfl dL_spare_32 (congrArg (fun z => (z, S)) (Option.some.inj h))
def r_sold_39 (k5 : Int32 × Int32 → Option (Int32)) (x2 : Int32) (x4 : Int32) (s0 : Int32) (s1 : Int32) (S : gx_S) : Option (Int32) := k5 ((s0 + s1), (x4 + 1))
set_option maxRecDepth 20000 in
set_option maxHeartbeats 1000000 in
theorem br_sold_39 {Γ : gx_T} {ι : Nat → ClassId} {a : Nat → Nat} {out : Int32} {S : gx_S} (hx : gx_std vwCl (gty ι) (gx_cl Γ) (gx_ty Γ)) (C : gx_ok Γ cL_sold RL gx_U 2) (F : gx_finI Γ ((Option.some Jvm.ClassFile.FieldType.int)) (wR a ι) (out, S) ∧ gx_nL Γ = 5) {k5 : Int32 × Int32 → Option (Int32)} {x2 : Int32} {x4 : Int32} {s0 : Int32} {s1 : Int32} (hk5 : ∀ (x37 : Int32) (x47 : Int32), k5 (x37, x47) = some out → gx_G Γ 0 0 5 [.ref (a 0), .ref (a 1), .int x2, .int x37, .int x47] [] (wR a ι S)) (h : r_sold_39 k5 x2 x4 s0 s1 S = some out) : gx_G Γ 0 0 39 [.ref (a 0), .ref (a 1), .int x2, .null, .int x4] [.int s1, .int s0] (wR a ι S) := by
  obtain ⟨F, hnL⟩ := F
  unfold r_sold_39 at h
  refine gx_iadd C dL_sold_39 ?_
  refine gx_istore_3 C dL_sold_40 (by rw [hnL]; decide) trivial ?_
  refine gx_iinc1 C dL_sold_41 rfl (by rw [hnL]; decide) trivial ?_
  refine gx_goto (tgt := 5) C dL_sold_44 (by decide) ?_
  exact gx_weak (gx_le_k rfl (gx_le_k rfl (gx_le_k rfl (gx_le_k rfl (gx_le_k rfl gx_le_0))))) (hk5 _ _ h)
def r_sold_5 (x2 : Int32) (S : gx_S) (t : Int32 × Int32) (k5 : Int32 × Int32 → Option (Int32)) : Option (Int32) := match t with
  | (x3, x4) => gx_ck 45 (2 : Int32) (if (S 0 (2 : Int32).toNatClampNeg) ≤ x4 then some x3 else gx_cp (r_goes x4 (-1) S) fun v3 => if v3 = x2 then gx_ck 48 (((6 : Int32) * x4) + (1 : Int32)) (r_sold_39 k5 x2 x4 x3 (S 1 (((6 : Int32) * x4) + (1 : Int32)).toNatClampNeg) S) else r_sold_39 k5 x2 x4 x3 0 S)
set_option maxRecDepth 20000 in
set_option maxHeartbeats 1000000 in
theorem br_sold_5 {Γ : gx_T} {ι : Nat → ClassId} {a : Nat → Nat} {out : Int32} {S : gx_S} (hx : gx_std vwCl (gty ι) (gx_cl Γ) (gx_ty Γ)) (C : gx_ok Γ cL_sold RL gx_U 2) (F : gx_finI Γ ((Option.some Jvm.ClassFile.FieldType.int)) (wR a ι) (out, S) ∧ gx_nL Γ = 5) {k5 : Int32 × Int32 → Option (Int32)} {x2 : Int32} {x3 : Int32} {x4 : Int32} (hk5 : ∀ (x37 : Int32) (x47 : Int32), k5 (x37, x47) = some out → gx_G Γ 0 0 5 [.ref (a 0), .ref (a 1), .int x2, .int x37, .int x47] [] (wR a ι S)) (h : r_sold_5 x2 S (x3, x4) k5 = some out) : gx_G Γ 0 0 5 [.ref (a 0), .ref (a 1), .int x2, .int x3, .int x4] [] (wR a ι S) := by
  obtain ⟨F, hnL⟩ := F
  unfold r_sold_5 at h
  dsimp only at h
  refine gx_iload C dL_sold_5 rfl ?_
  refine gx_aload_0 C dL_sold_7 rfl ?_
  refine gx_iconst2 C dL_sold_8 ?_
  obtain ⟨hi1, h⟩ := gi_ck h
  refine gs_iald (q := 0) C (ac_R_row hx a) lt_R_row hi1 dL_sold_9 ?_
  refine gx_icmp_ge (tgt := 47) C dL_sold_10 (by decide) (fun hc6 => ?_) (fun hc6 => ?_)
  · have h := gi_t hc6 h
    refine gx_iload_3 C dL_sold_47 rfl ?_
    exact gx_iret C F rfl dL_sold_48 (congrArg (fun z => (z, S)) (Option.some.inj h))
  · have h := gi_f hc6 h
    refine gx_iload_3 C dL_sold_13 rfl ?_
    refine gx_aload_0 C dL_sold_14 rfl ?_
    refine gx_aload_1 C dL_sold_15 rfl ?_
    refine gx_iload C dL_sold_16 rfl ?_
    refine gx_iconstm1 C dL_sold_18 ?_
    obtain ⟨v3, e2, h⟩ := gi_cp h
    refine gc_IS C (cr_goes (gx_l Γ) (gx_D Γ) hx a _ _ _ e2) (gx_cwS C gx_uu lk_L_43 (by decide) (by decide)) rfl rfl (Nat.le_of_ble_eq_true rfl) ⟨Nat.zero_le _, Nat.zero_le _⟩ dL_sold_19 ?_
    refine gx_iload_2 C dL_sold_22 rfl ?_
    refine gx_icmp_ne (tgt := 38) C dL_sold_23 (by decide) (fun hc5 => ?_) (fun hc5 => ?_)
    · have h := gi_f hc5 h
      refine gx_iconst0 C dL_sold_38 ?_
      exact gx_weak (gx_le_k rfl (gx_le_k rfl (gx_le_k rfl (gx_le_n (gx_le_k rfl gx_le_0))))) (br_sold_39 hx C ⟨F, hnL⟩ hk5 h)
    · have h := gi_t hc5 h
      refine gx_aload_1 C dL_sold_26 rfl ?_
      refine gx_bipush (v := 6) C dL_sold_27 (by decide) ?_
      refine gx_iload C dL_sold_29 rfl ?_
      refine gx_imul C dL_sold_31 ?_
      refine gx_iconst1 C dL_sold_32 ?_
      refine gx_iadd C dL_sold_33 ?_
      obtain ⟨hi4, h⟩ := gi_ck h
      refine gs_iald (q := 1) C (ac_R_sort hx a) lt_R_sort hi4 dL_sold_34 ?_
      refine gx_goto (tgt := 39) C dL_sold_35 (by decide) ?_
      exact gx_weak (gx_le_k rfl (gx_le_k rfl (gx_le_k rfl (gx_le_n (gx_le_k rfl gx_le_0))))) (br_sold_39 hx C ⟨F, hnL⟩ hk5 h)
def r_sold (x2 : Int32) (S : gx_S) : Option (Int32) := gx_loop (r_sold_5 x2 S) 5000 (0, 0)
set_option maxRecDepth 20000 in
set_option maxHeartbeats 1000000 in
theorem cr_sold (l : Launch) (D : va_G) {cl : List vw_C} {tys : List (ClassId × FieldType)} {ι : Nat → ClassId} (hx : gx_std vwCl (gty ι) cl tys) (a : Nat → Nat) (x2 : Int32) (S : gx_S) {out : Int32} (h : r_sold x2 S = some out) : gx_mI l D cl tys yL_sold (.code yL_sold cL_sold 5 ((Option.some Jvm.ClassFile.FieldType.int)) :: gx_U) (gx_rm 2) [.ref (a 0), .ref (a 1), .int x2] (wR a ι S) (wR a ι) (out, S) := by
  unfold r_sold at h
  refine gx_startI (V := [.ref (a 0), .ref (a 1), .int x2, .null, .null]) 2 (by decide +kernel) (Nat.le_of_ble_eq_true rfl) rfl (fun Γ hl hD hcl hty hnL C F => ?_)
  subst hl; subst hD; subst hcl; subst hty
  refine gx_iconst0 C dL_sold_0 ?_
  refine gx_istore_3 C dL_sold_1 (by rw [hnL]; decide) trivial ?_
  refine gx_iconst0 C dL_sold_2 ?_
  refine gx_istore C dL_sold_3 (by rw [hnL]; decide) trivial ?_
  refine gx_weak (gx_le_k rfl (gx_le_k rfl (gx_le_k rfl (gx_le_k rfl (gx_le_k rfl gx_le_0))))) (gi_loop (P := fun t => gx_G Γ 0 0 5 [.ref (a 0), .ref (a 1), .int x2, .int t.1, .int t.2] [] (wR a ι S)) (fun kk t hk h => ?_) 5000 _ h)
  obtain ⟨x39, x49⟩ := t
  exact br_sold_5 hx C ⟨F, hnL⟩ (k5 := kk) (fun x38 x48 h => hk (x38, x48) h) h
def r_profit_94 (k5 : Int32 × Int32 → Option (Int32)) (x2 : Int32) (x3 : Int32) (x4 : Int32) (S : gx_S) : Option (Int32) := k5 (x3, (x4 + 1))
set_option maxRecDepth 20000 in
set_option maxHeartbeats 1000000 in
theorem br_profit_94 {Γ : gx_T} {ι : Nat → ClassId} {a : Nat → Nat} {out : Int32} {S : gx_S} (hx : gx_std vwCl (gty ι) (gx_cl Γ) (gx_ty Γ)) (C : gx_ok Γ cL_profit RL gx_U 3) (F : gx_finI Γ ((Option.some Jvm.ClassFile.FieldType.int)) (wR a ι) (out, S) ∧ gx_nL Γ = 7) {k5 : Int32 × Int32 → Option (Int32)} {x2 : Int32} {x3 : Int32} {x4 : Int32} (hk5 : ∀ (x37 : Int32) (x47 : Int32), k5 (x37, x47) = some out → gx_G Γ 0 0 5 [.ref (a 0), .ref (a 1), .int x2, .int x37, .int x47, .null, .null] [] (wR a ι S)) (h : r_profit_94 k5 x2 x3 x4 S = some out) : gx_G Γ 0 0 94 [.ref (a 0), .ref (a 1), .int x2, .int x3, .int x4, .null, .null] [] (wR a ι S) := by
  obtain ⟨F, hnL⟩ := F
  unfold r_profit_94 at h
  refine gx_iinc1 C dL_profit_94 rfl (by rw [hnL]; decide) trivial ?_
  refine gx_goto (tgt := 5) C dL_profit_97 (by decide) ?_
  exact gx_weak (gx_le_k rfl (gx_le_k rfl (gx_le_k rfl (gx_le_k rfl (gx_le_k rfl (gx_le_n (gx_le_n gx_le_0))))))) (hk5 _ _ h)
def r_profit_71 (k5 : Int32 × Int32 → Option (Int32)) (x2 : Int32) (x3 : Int32) (x4 : Int32) (s0 : Int32) (S : gx_S) : Option (Int32) := gx_cp (r_sold x4 S) fun v2 => gx_ck 45 ((27 : Int32) + x4) (r_profit_94 k5 x2 (x3 + (v2 * ((S 0 ((27 : Int32) + x4).toNatClampNeg) - s0))) x4 S)
set_option maxRecDepth 20000 in
set_option maxHeartbeats 1000000 in
theorem br_profit_71 {Γ : gx_T} {ι : Nat → ClassId} {a : Nat → Nat} {out : Int32} {S : gx_S} (hx : gx_std vwCl (gty ι) (gx_cl Γ) (gx_ty Γ)) (C : gx_ok Γ cL_profit RL gx_U 3) (F : gx_finI Γ ((Option.some Jvm.ClassFile.FieldType.int)) (wR a ι) (out, S) ∧ gx_nL Γ = 7) {k5 : Int32 × Int32 → Option (Int32)} {x2 : Int32} {x3 : Int32} {x4 : Int32} {s0 : Int32} (hk5 : ∀ (x37 : Int32) (x47 : Int32), k5 (x37, x47) = some out → gx_G Γ 0 0 5 [.ref (a 0), .ref (a 1), .int x2, .int x37, .int x47, .null, .null] [] (wR a ι S)) (h : r_profit_71 k5 x2 x3 x4 s0 S = some out) : gx_G Γ 0 0 71 [.ref (a 0), .ref (a 1), .int x2, .int x3, .int x4, .null, .null] [.int s0] (wR a ι S) := by
  obtain ⟨F, hnL⟩ := F
  unfold r_profit_71 at h
  refine gx_istore C dL_profit_71 (by rw [hnL]; decide) trivial ?_
  refine gx_iload_3 C dL_profit_73 rfl ?_
  refine gx_aload_0 C dL_profit_74 rfl ?_
  refine gx_aload_1 C dL_profit_75 rfl ?_
  refine gx_iload C dL_profit_76 rfl ?_
  obtain ⟨v2, e1, h⟩ := gi_cp h
  refine gc_IS C (cr_sold (gx_l Γ) (gx_D Γ) hx a _ _ e1) (gx_cwS C gx_uu lk_L_46 (by decide) (by decide)) rfl rfl (Nat.le_of_ble_eq_true rfl) ⟨Nat.zero_le _, Nat.zero_le _⟩ dL_profit_78 ?_
  refine gx_aload_0 C dL_profit_81 rfl ?_
  refine gx_bipush (v := 27) C dL_profit_82 (by decide) ?_
  refine gx_iload C dL_profit_84 rfl ?_
  refine gx_iadd C dL_profit_86 ?_
  obtain ⟨hi3, h⟩ := gi_ck h
  refine gs_iald (q := 0) C (ac_R_row hx a) lt_R_row hi3 dL_profit_87 ?_
  refine gx_iload C dL_profit_88 rfl ?_
  refine gx_isub C dL_profit_90 ?_
  refine gx_imul C dL_profit_91 ?_
  refine gx_iadd C dL_profit_92 ?_
  refine gx_istore_3 C dL_profit_93 (by rw [hnL]; decide) trivial ?_
  exact gx_weak (gx_le_k rfl (gx_le_k rfl (gx_le_k rfl (gx_le_k rfl (gx_le_k rfl (gx_le_n (gx_le_n gx_le_0))))))) (br_profit_94 hx C ⟨F, hnL⟩ hk5 h)
def r_profit_43 (k5 : Int32 × Int32 → Option (Int32)) (x2 : Int32) (x3 : Int32) (x4 : Int32) (s0 : Int32) (S : gx_S) : Option (Int32) := gx_ck 45 ((21 : Int32) + x4) (if (S 0 ((21 : Int32) + x4).toNatClampNeg) ≤ s0 then r_profit_71 k5 x2 x3 x4 0 S else r_profit_71 k5 x2 x3 x4 ((S 0 ((21 : Int32) + x4).toNatClampNeg) - s0) S)
set_option maxRecDepth 20000 in
set_option maxHeartbeats 1000000 in
theorem br_profit_43 {Γ : gx_T} {ι : Nat → ClassId} {a : Nat → Nat} {out : Int32} {S : gx_S} (hx : gx_std vwCl (gty ι) (gx_cl Γ) (gx_ty Γ)) (C : gx_ok Γ cL_profit RL gx_U 3) (F : gx_finI Γ ((Option.some Jvm.ClassFile.FieldType.int)) (wR a ι) (out, S) ∧ gx_nL Γ = 7) {k5 : Int32 × Int32 → Option (Int32)} {x2 : Int32} {x3 : Int32} {x4 : Int32} {s0 : Int32} (hk5 : ∀ (x37 : Int32) (x47 : Int32), k5 (x37, x47) = some out → gx_G Γ 0 0 5 [.ref (a 0), .ref (a 1), .int x2, .int x37, .int x47, .null, .null] [] (wR a ι S)) (h : r_profit_43 k5 x2 x3 x4 s0 S = some out) : gx_G Γ 0 0 43 [.ref (a 0), .ref (a 1), .int x2, .int x3, .int x4, .null, .null] [.int s0] (wR a ι S) := by
  obtain ⟨F, hnL⟩ := F
  unfold r_profit_43 at h
  refine gx_istore C dL_profit_43 (by rw [hnL]; decide) trivial ?_
  refine gx_aload_0 C dL_profit_45 rfl ?_
  refine gx_bipush (v := 21) C dL_profit_46 (by decide) ?_
  refine gx_iload C dL_profit_48 rfl ?_
  refine gx_iadd C dL_profit_50 ?_
  obtain ⟨hi1, h⟩ := gi_ck h
  refine gs_iald (q := 0) C (ac_R_row hx a) lt_R_row hi1 dL_profit_51 ?_
  refine gx_iload C dL_profit_52 rfl ?_
  refine gx_icmp_le (tgt := 70) C dL_profit_54 (by decide) (fun hc2 => ?_) (fun hc2 => ?_)
  · have h := gi_t hc2 h
    refine gx_iconst0 C dL_profit_70 ?_
    exact gx_weak (gx_le_k rfl (gx_le_k rfl (gx_le_k rfl (gx_le_k rfl (gx_le_k rfl (gx_le_n (gx_le_n gx_le_0))))))) (br_profit_71 hx C ⟨F, hnL⟩ hk5 h)
  · have h := gi_f hc2 h
    refine gx_aload_0 C dL_profit_57 rfl ?_
    refine gx_bipush (v := 21) C dL_profit_58 (by decide) ?_
    refine gx_iload C dL_profit_60 rfl ?_
    refine gx_iadd C dL_profit_62 ?_
    refine gs_iald (q := 0) C (ac_R_row hx a) lt_R_row hi1 dL_profit_63 ?_
    refine gx_iload C dL_profit_64 rfl ?_
    refine gx_isub C dL_profit_66 ?_
    refine gx_goto (tgt := 71) C dL_profit_67 (by decide) ?_
    exact gx_weak (gx_le_k rfl (gx_le_k rfl (gx_le_k rfl (gx_le_k rfl (gx_le_k rfl (gx_le_n (gx_le_n gx_le_0))))))) (br_profit_71 hx C ⟨F, hnL⟩ hk5 h)
def r_profit_5 (x2 : Int32) (S : gx_S) (t : Int32 × Int32) (k5 : Int32 × Int32 → Option (Int32)) : Option (Int32) := match t with
  | (x3, x4) => gx_ck 45 (1 : Int32) (if (S 0 (1 : Int32).toNatClampNeg) ≤ x4 then some x3 else gx_ck 45 ((33 : Int32) + x4) (if (S 0 ((33 : Int32) + x4).toNatClampNeg) = x2 then gx_ck 45 ((3 : Int32) + x2) (if (S 0 ((3 : Int32) + x2).toNatClampNeg) = 3 then gx_ck 45 ((9 : Int32) + x2) (r_profit_43 k5 x2 x3 x4 (S 0 ((9 : Int32) + x2).toNatClampNeg) S) else r_profit_43 k5 x2 x3 x4 0 S) else r_profit_94 k5 x2 x3 x4 S))
set_option maxRecDepth 20000 in
set_option maxHeartbeats 1000000 in
theorem br_profit_5 {Γ : gx_T} {ι : Nat → ClassId} {a : Nat → Nat} {out : Int32} {S : gx_S} (hx : gx_std vwCl (gty ι) (gx_cl Γ) (gx_ty Γ)) (C : gx_ok Γ cL_profit RL gx_U 3) (F : gx_finI Γ ((Option.some Jvm.ClassFile.FieldType.int)) (wR a ι) (out, S) ∧ gx_nL Γ = 7) {k5 : Int32 × Int32 → Option (Int32)} {x2 : Int32} {x3 : Int32} {x4 : Int32} (hk5 : ∀ (x37 : Int32) (x47 : Int32), k5 (x37, x47) = some out → gx_G Γ 0 0 5 [.ref (a 0), .ref (a 1), .int x2, .int x37, .int x47, .null, .null] [] (wR a ι S)) (h : r_profit_5 x2 S (x3, x4) k5 = some out) : gx_G Γ 0 0 5 [.ref (a 0), .ref (a 1), .int x2, .int x3, .int x4, .null, .null] [] (wR a ι S) := by
  obtain ⟨F, hnL⟩ := F
  unfold r_profit_5 at h
  dsimp only at h
  refine gx_iload C dL_profit_5 rfl ?_
  refine gx_aload_0 C dL_profit_7 rfl ?_
  refine gx_iconst1 C dL_profit_8 ?_
  obtain ⟨hi1, h⟩ := gi_ck h
  refine gs_iald (q := 0) C (ac_R_row hx a) lt_R_row hi1 dL_profit_9 ?_
  refine gx_icmp_ge (tgt := 100) C dL_profit_10 (by decide) (fun hc7 => ?_) (fun hc7 => ?_)
  · have h := gi_t hc7 h
    refine gx_iload_3 C dL_profit_100 rfl ?_
    exact gx_iret C F rfl dL_profit_101 (congrArg (fun z => (z, S)) (Option.some.inj h))
  · have h := gi_f hc7 h
    refine gx_aload_0 C dL_profit_13 rfl ?_
    refine gx_bipush (v := 33) C dL_profit_14 (by decide) ?_
    refine gx_iload C dL_profit_16 rfl ?_
    refine gx_iadd C dL_profit_18 ?_
    obtain ⟨hi2, h⟩ := gi_ck h
    refine gs_iald (q := 0) C (ac_R_row hx a) lt_R_row hi2 dL_profit_19 ?_
    refine gx_iload_2 C dL_profit_20 rfl ?_
    refine gx_icmp_ne (tgt := 94) C dL_profit_21 (by decide) (fun hc6 => ?_) (fun hc6 => ?_)
    · have h := gi_f hc6 h
      exact gx_weak (gx_le_k rfl (gx_le_k rfl (gx_le_k rfl (gx_le_k rfl (gx_le_k rfl (gx_le_n (gx_le_n gx_le_0))))))) (br_profit_94 hx C ⟨F, hnL⟩ hk5 h)
    · have h := gi_t hc6 h
      refine gx_aload_0 C dL_profit_24 rfl ?_
      refine gx_iconst3 C dL_profit_25 ?_
      refine gx_iload_2 C dL_profit_26 rfl ?_
      refine gx_iadd C dL_profit_27 ?_
      obtain ⟨hi3, h⟩ := gi_ck h
      refine gs_iald (q := 0) C (ac_R_row hx a) lt_R_row hi3 dL_profit_28 ?_
      refine gx_iconst3 C dL_profit_29 ?_
      refine gx_icmp_ne (tgt := 42) C dL_profit_30 (by decide) (fun hc5 => ?_) (fun hc5 => ?_)
      · have h := gi_f hc5 h
        refine gx_iconst0 C dL_profit_42 ?_
        exact gx_weak (gx_le_k rfl (gx_le_k rfl (gx_le_k rfl (gx_le_k rfl (gx_le_k rfl (gx_le_n (gx_le_n gx_le_0))))))) (br_profit_43 hx C ⟨F, hnL⟩ hk5 h)
      · have h := gi_t hc5 h
        refine gx_aload_0 C dL_profit_33 rfl ?_
        refine gx_bipush (v := 9) C dL_profit_34 (by decide) ?_
        refine gx_iload_2 C dL_profit_36 rfl ?_
        refine gx_iadd C dL_profit_37 ?_
        obtain ⟨hi4, h⟩ := gi_ck h
        refine gs_iald (q := 0) C (ac_R_row hx a) lt_R_row hi4 dL_profit_38 ?_
        refine gx_goto (tgt := 43) C dL_profit_39 (by decide) ?_
        exact gx_weak (gx_le_k rfl (gx_le_k rfl (gx_le_k rfl (gx_le_k rfl (gx_le_k rfl (gx_le_n (gx_le_n gx_le_0))))))) (br_profit_43 hx C ⟨F, hnL⟩ hk5 h)
def r_profit (x2 : Int32) (S : gx_S) : Option (Int32) := gx_loop (r_profit_5 x2 S) 5000 (0, 0)
set_option maxRecDepth 20000 in
set_option maxHeartbeats 1000000 in
theorem cr_profit (l : Launch) (D : va_G) {cl : List vw_C} {tys : List (ClassId × FieldType)} {ι : Nat → ClassId} (hx : gx_std vwCl (gty ι) cl tys) (a : Nat → Nat) (x2 : Int32) (S : gx_S) {out : Int32} (h : r_profit x2 S = some out) : gx_mI l D cl tys yL_profit (.code yL_profit cL_profit 7 ((Option.some Jvm.ClassFile.FieldType.int)) :: gx_U) (gx_rm 3) [.ref (a 0), .ref (a 1), .int x2] (wR a ι S) (wR a ι) (out, S) := by
  unfold r_profit at h
  refine gx_startI (V := [.ref (a 0), .ref (a 1), .int x2, .null, .null, .null, .null]) 4 (by decide +kernel) (Nat.le_of_ble_eq_true rfl) rfl (fun Γ hl hD hcl hty hnL C F => ?_)
  subst hl; subst hD; subst hcl; subst hty
  refine gx_iconst0 C dL_profit_0 ?_
  refine gx_istore_3 C dL_profit_1 (by rw [hnL]; decide) trivial ?_
  refine gx_iconst0 C dL_profit_2 ?_
  refine gx_istore C dL_profit_3 (by rw [hnL]; decide) trivial ?_
  refine gx_weak (gx_le_k rfl (gx_le_k rfl (gx_le_k rfl (gx_le_k rfl (gx_le_k rfl (gx_le_n (gx_le_n gx_le_0))))))) (gi_loop (P := fun t => gx_G Γ 0 0 5 [.ref (a 0), .ref (a 1), .int x2, .int t.1, .int t.2, .null, .null] [] (wR a ι S)) (fun kk t hk h => ?_) 5000 _ h)
  obtain ⟨x39, x49⟩ := t
  exact br_profit_5 hx C ⟨F, hnL⟩ (k5 := kk) (fun x38 x48 h => hk (x38, x48) h) h
def r_copy_2 (t : Int32 × gx_S) (k2 : Int32 × gx_S → Option (gx_S)) : Option (gx_S) := match t with
  | (x2, S) => if 45 ≤ x2 then some S else gx_ck 45 x2 (gx_let (gx_st S 1 x2.toNatClampNeg (S 0 x2.toNatClampNeg)) fun S2 => k2 ((x2 + 1), S2))
set_option maxRecDepth 20000 in
set_option maxHeartbeats 1000000 in
theorem br_copy_2 {Γ : gx_T} {ι : Nat → ClassId} {a : Nat → Nat} {out : gx_S} (hx : gx_std vwCl (gty ι) (gx_cl Γ) (gx_ty Γ)) (C : gx_ok Γ cL_copy RL gx_U 0) (F : gx_finV Γ ((Option.none : Option Jvm.ClassFile.FieldType)) (wC a ι) out ∧ gx_nL Γ = 3) {k2 : Int32 × gx_S → Option (gx_S)} {x2 : Int32} {S : gx_S} (hk2 : ∀ (x27 : Int32) (S7 : gx_S), k2 (x27, S7) = some out → gx_G Γ 0 0 2 [.ref (a 0), .ref (a 1), .int x27] [] (wC a ι S7)) (h : r_copy_2 (x2, S) k2 = some out) : gx_G Γ 0 0 2 [.ref (a 0), .ref (a 1), .int x2] [] (wC a ι S) := by
  obtain ⟨F, hnL⟩ := F
  unfold r_copy_2 at h
  dsimp only at h
  refine gx_iload_2 C dL_copy_2 rfl ?_
  refine gx_bipush (v := 45) C dL_copy_3 (by decide) ?_
  refine gx_icmp_ge (tgt := 20) C dL_copy_5 (by decide) (fun hc4 => ?_) (fun hc4 => ?_)
  · have h := gi_t hc4 h
    exact gx_vret C F dL_copy_20 (Option.some.inj h)
  · have h := gi_f hc4 h
    refine gx_aload_1 C dL_copy_8 rfl ?_
    refine gx_iload_2 C dL_copy_9 rfl ?_
    refine gx_aload_0 C dL_copy_10 rfl ?_
    refine gx_iload_2 C dL_copy_11 rfl ?_
    obtain ⟨hi1, h⟩ := gi_ck h
    refine gs_iald (q := 0) C (ac_C_from hx a) lt_C_from hi1 dL_copy_12 ?_
    obtain ⟨S2, e3, h⟩ := gi_let h
    refine gs_iast (q := 1) C (ac_C_to hx a) lt_C_to hi1 e3 dL_copy_13 ?_
    refine gx_iinc1 C dL_copy_14 rfl (by rw [hnL]; decide) trivial ?_
    refine gx_goto (tgt := 2) C dL_copy_17 (by decide) ?_
    exact gx_weak (gx_le_k rfl (gx_le_k rfl (gx_le_k rfl gx_le_0))) (hk2 _ _ h)
def r_copy (S : gx_S) : Option (gx_S) := gx_loop (r_copy_2) 5000 (0, S)
set_option maxRecDepth 20000 in
set_option maxHeartbeats 1000000 in
theorem cr_copy (l : Launch) (D : va_G) {cl : List vw_C} {tys : List (ClassId × FieldType)} {ι : Nat → ClassId} (hx : gx_std vwCl (gty ι) cl tys) (a : Nat → Nat) (S : gx_S) {out : gx_S} (h : r_copy  S = some out) : gx_mV l D cl tys yL_copy (.code yL_copy cL_copy 3 ((Option.none : Option Jvm.ClassFile.FieldType)) :: gx_U) (gx_rm 0) [.ref (a 0), .ref (a 1)] (wC a ι S) (wC a ι) out := by
  unfold r_copy at h
  refine gx_startV (V := [.ref (a 0), .ref (a 1), .null]) 1 (by decide +kernel) (Nat.le_of_ble_eq_true rfl) rfl (fun Γ hl hD hcl hty hnL C F => ?_)
  subst hl; subst hD; subst hcl; subst hty
  refine gx_iconst0 C dL_copy_0 ?_
  refine gx_istore_2 C dL_copy_1 (by rw [hnL]; decide) trivial ?_
  refine gx_weak (gx_le_k rfl (gx_le_k rfl (gx_le_k rfl gx_le_0))) (gi_loop (P := fun t => gx_G Γ 0 0 2 [.ref (a 0), .ref (a 1), .int t.1] [] (wC a ι t.2)) (fun kk t hk h => ?_) 5000 _ h)
  obtain ⟨x29, S'9⟩ := t
  exact br_copy_2 hx C ⟨F, hnL⟩ (k2 := kk) (fun x28 S'8 h => hk (x28, S'8) h) h

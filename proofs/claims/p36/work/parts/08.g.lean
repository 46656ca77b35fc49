def r_rest_13 (k2 : Int32 × gx_S × Nat → Option (Int32 × gx_S)) (x2 : Int32) (t : Int32 × Int32 × gx_S × Nat) (k13 : Int32 × Int32 × gx_S × Nat → Option (Int32 × gx_S)) : Option (Int32 × gx_S) := match t with
  | (x3, x4, T, c) => gx_ck 45 (0 : Int32) (if (T 0 (0 : Int32).toNatClampNeg) ≤ x4 then if x3 = 0 then some (x2, T) else k2 ((x2 + 1), T, c) else gy_lim 240 (c + 2) (gx_cs (r_turn x4 T) fun v4 T7 => k13 ((x3 + v4), (x4 + 1), T7, (c + 2))))
set_option maxRecDepth 20000 in
set_option maxHeartbeats 4000000 in
theorem br_rest_13 {Γ : gx_T} {ι : Nat → ClassId} {ρ : Nat → Nat} {out : Int32 × gx_S} (hx : gx_std vwCl (gty ι) (gx_cl Γ) (gx_ty Γ)) (C : gx_ok Γ cL_rest RL gx_U 5) (F : gy_fin Γ (some .int) (fun z : gx_S => ([] : va_W) ++ wR ρ ι z) out 240 10800 ∧ gx_nL Γ = 5) {k2 : Int32 × gx_S × Nat → Option (Int32 × gx_S)} {k13 : Int32 × Int32 × gx_S × Nat → Option (Int32 × gx_S)} {x2 : Int32} {x3 : Int32} {x4 : Int32} {T : gx_S} {c : Nat} (hk2 : ∀ (x27 : Int32) (T7 : gx_S) (c7 : Nat), c7 ≤ 240 → k2 (x27, T7, c7) = some out → gx_G Γ (0 + c7) (0 + 45 * c7) 2 [.ref (ρ 0), .ref (ρ 1), .int x27, .null, .null] [] (([] : va_W) ++ wR ρ ι T7)) (hk13 : ∀ (x37 : Int32) (x47 : Int32) (T7 : gx_S) (c7 : Nat), c7 ≤ 240 → k13 (x37, x47, T7, c7) = some out → gx_G Γ (0 + c7) (0 + 45 * c7) 13 [.ref (ρ 0), .ref (ρ 1), .int x2, .int x37, .int x47] [] (([] : va_W) ++ wR ρ ι T7)) (hc : c ≤ 240) (h : r_rest_13 k2 x2 (x3, x4, T, c) k13 = some out) : gx_G Γ (0 + c) (0 + 45 * c) 13 [.ref (ρ 0), .ref (ρ 1), .int x2, .int x3, .int x4] [] (([] : va_W) ++ wR ρ ι T) := by
  obtain ⟨F, hnL⟩ := F
  have ht0 : (gx_ty Γ)[0]? = some (ι 0, .int) := by rw [hx.2]; rfl
  have hroom : ∀ c2 : Nat, c2 ≤ 240 → 0 + c2 ≤ (gx_R Γ).cells ∧ 0 + 45 * c2 ≤ (gx_R Γ).slots := fun c2 h => by
    rw [F.1, F.2.1]
    exact ⟨by omega, by omega⟩
  have hb := hroom _ hc
  unfold r_rest_13 at h
  dsimp only at h
  refine gx_iload C dL_rest_13 rfl ?_
  refine gx_aload_0 C dL_rest_15 rfl ?_
  refine gx_iconst0 C dL_rest_16 ?_
  obtain ⟨hi1, h⟩ := gi_ck h
  refine gy_iald C my_0 ht0 hi1 dL_rest_17 ?_
  refine gx_icmp_ge (tgt := 37) C dL_rest_18 (by decide) (fun hc8 => ?_) (fun hc8 => ?_)
  · have h := gi_t hc8 h
    refine gx_iload_3 C dL_rest_37 rfl ?_
    refine gx_if_ne (tgt := 43) C dL_rest_38 (by decide) (fun hc2 => ?_) (fun hc2 => ?_)
    · have h := gi_f hc2 h
      refine gx_iinc1 C dL_rest_43 rfl (by rw [hnL]; decide) trivial ?_
      refine gx_goto (tgt := 2) C dL_rest_46 (by decide) ?_
      exact gx_weak (gx_le_k rfl (gx_le_k rfl (gx_le_k rfl (gx_le_n (gx_le_n gx_le_0))))) (hk2 _ _ _ hc h)
    · have h := gi_t hc2 h
      refine gx_iload_2 C dL_rest_41 rfl ?_
      exact gy_iret T C F rfl (by omega) (by omega) dL_rest_42 (Option.some.inj h)
  · have h := gi_f hc8 h
    refine gx_iload_3 C dL_rest_21 rfl ?_
    refine gx_aload_0 C dL_rest_22 rfl ?_
    refine gx_aload_1 C dL_rest_23 rfl ?_
    refine gx_iload C dL_rest_24 rfl ?_
    obtain ⟨hl5, h⟩ := gi_lim h
    have hb6 := hroom _ hl5
    obtain ⟨v4, T7, e3, h⟩ := gi_cs h
    refine gy_callS C (cr_turn (gx_l Γ) (gx_D Γ) hx ρ _ _ e3) trivial gx_uu lk_L_54 (by decide) (by decide) rfl rfl (Nat.le_of_ble_eq_true rfl) ⟨Nat.le_trans (by omega) hb6.1, Nat.le_trans (by omega) hb6.2⟩ dL_rest_26 py_R py_R.symm ?_
    refine gx_widen (k' := 0 + (c + 2)) (n' := 0 + 45 * (c + 2)) (by omega) (by omega) ?_
    refine gx_iadd C dL_rest_29 ?_
    refine gx_istore_3 C dL_rest_30 (by rw [hnL]; decide) trivial ?_
    refine gx_iinc1 C dL_rest_31 rfl (by rw [hnL]; decide) trivial ?_
    refine gx_goto (tgt := 13) C dL_rest_34 (by decide) ?_
    exact gx_weak (gx_le_k rfl (gx_le_k rfl (gx_le_k rfl (gx_le_k rfl (gx_le_k rfl gx_le_0))))) (hk13 _ _ _ _ hl5 h)
def r_rest_2 (t : Int32 × gx_S × Nat) (k2 : Int32 × gx_S × Nat → Option (Int32 × gx_S)) : Option (Int32 × gx_S) := match t with
  | (x2, T, c) => if 20 ≤ x2 then some (20, T) else gx_loop (r_rest_13 k2 x2) 5000 (0, 0, T, c)
set_option maxRecDepth 20000 in
set_option maxHeartbeats 4000000 in
theorem br_rest_2 {Γ : gx_T} {ι : Nat → ClassId} {ρ : Nat → Nat} {out : Int32 × gx_S} (hx : gx_std vwCl (gty ι) (gx_cl Γ) (gx_ty Γ)) (C : gx_ok Γ cL_rest RL gx_U 5) (F : gy_fin Γ (some .int) (fun z : gx_S => ([] : va_W) ++ wR ρ ι z) out 240 10800 ∧ gx_nL Γ = 5) {k2 : Int32 × gx_S × Nat → Option (Int32 × gx_S)} {x2 : Int32} {T : gx_S} {c : Nat} (hk2 : ∀ (x27 : Int32) (T7 : gx_S) (c7 : Nat), c7 ≤ 240 → k2 (x27, T7, c7) = some out → gx_G Γ (0 + c7) (0 + 45 * c7) 2 [.ref (ρ 0), .ref (ρ 1), .int x27, .null, .null] [] (([] : va_W) ++ wR ρ ι T7)) (hc : c ≤ 240) (h : r_rest_2 (x2, T, c) k2 = some out) : gx_G Γ (0 + c) (0 + 45 * c) 2 [.ref (ρ 0), .ref (ρ 1), .int x2, .null, .null] [] (([] : va_W) ++ wR ρ ι T) := by
  obtain ⟨F, hnL⟩ := F
  have ht0 : (gx_ty Γ)[0]? = some (ι 0, .int) := by rw [hx.2]; rfl
  have hroom : ∀ c2 : Nat, c2 ≤ 240 → 0 + c2 ≤ (gx_R Γ).cells ∧ 0 + 45 * c2 ≤ (gx_R Γ).slots := fun c2 h => by
    rw [F.1, F.2.1]
    exact ⟨by omega, by omega⟩
  have hb := hroom _ hc
  unfold r_rest_2 at h
  dsimp only at h
  refine gx_iload_2 C dL_rest_2 rfl ?_
  refine gx_bipush (v := 20) C dL_rest_3 (by decide) ?_
  refine gx_icmp_ge (tgt := 49) C dL_rest_5 (by decide) (fun hc1 => ?_) (fun hc1 => ?_)
  · have h := gi_t hc1 h
    refine gx_bipush (v := 20) C dL_rest_49 (by decide) ?_
    exact gy_iret T C F rfl (by omega) (by omega) dL_rest_51 (Option.some.inj h)
  · have h := gi_f hc1 h
    refine gx_iconst0 C dL_rest_8 ?_
    refine gx_istore_3 C dL_rest_9 (by rw [hnL]; decide) trivial ?_
    refine gx_iconst0 C dL_rest_10 ?_
    refine gx_istore C dL_rest_11 (by rw [hnL]; decide) trivial ?_
    refine gx_weak (gx_le_k rfl (gx_le_k rfl (gx_le_k rfl (gx_le_k rfl (gx_le_k rfl gx_le_0))))) (gi_loop (P := fun t => t.2.2.2 ≤ 240 → gx_G Γ (0 + t.2.2.2) (0 + 45 * t.2.2.2) 13 [.ref (ρ 0), .ref (ρ 1), .int x2, .int t.1, .int t.2.1] [] (([] : va_W) ++ wR ρ ι t.2.2.1)) (fun kk t hk h => ?_) 5000 _ h hc)
    obtain ⟨x39, x49, T9, c9⟩ := t
    intro hc9
    exact br_rest_13 hx C ⟨F, hnL⟩ hk2 (k13 := kk) (fun x38 x48 T8 c8 hc8 h => hk (x38, x48, T8, c8) h hc8) hc9 h
def r_rest (T : gx_S) : Option (Int32 × gx_S) := gx_loop (r_rest_2) 5000 (0, T, 0)
set_option maxRecDepth 20000 in
set_option maxHeartbeats 4000000 in
theorem cr_rest (l : Launch) (D : va_G) {cl : List vw_C} {tys : List (ClassId × FieldType)} {ι : Nat → ClassId} (hx : gx_std vwCl (gty ι) cl tys) (ρ : Nat → Nat) (T : gx_S) {out : Int32 × gx_S} (h : r_rest T = some out) : gy_m l D cl tys yL_rest (.code yL_rest cL_rest 5 ((Option.some Jvm.ClassFile.FieldType.int)) :: gx_U) (gx_rmc 5 240 10800) [.ref (ρ 0), .ref (ρ 1)] (([] : va_W) ++ wR ρ ι T) (fun z : gx_S => ([] : va_W) ++ wR ρ ι z) none out 240 10800 := by
  unfold r_rest at h
  refine gy_start (V := [.ref (ρ 0), .ref (ρ 1), .null, .null, .null]) 3 (by decide +kernel) (Nat.le_of_ble_eq_true rfl) rfl (fun Γ hl hD hcl hty hnL C F X => ?_)
  subst hl; subst hD; subst hcl; subst hty
  have hc : 0 ≤ 240 := Nat.zero_le _
  have ht0 : (gx_ty Γ)[0]? = some (ι 0, .int) := by rw [hx.2]; rfl
  have hroom : ∀ c2 : Nat, c2 ≤ 240 → 0 + c2 ≤ (gx_R Γ).cells ∧ 0 + 45 * c2 ≤ (gx_R Γ).slots := fun c2 h => by
    rw [F.1, F.2.1]
    exact ⟨by omega, by omega⟩
  have hb := hroom _ hc
  refine gx_widen (k' := 0 + 0) (n' := 0 + 45 * 0) (Nat.le_refl _) (Nat.le_refl _) ?_
  refine gx_iconst0 C dL_rest_0 ?_
  refine gx_istore_2 C dL_rest_1 (by rw [hnL]; decide) trivial ?_
  refine gx_weak (gx_le_k rfl (gx_le_k rfl (gx_le_k rfl (gx_le_n (gx_le_n gx_le_0))))) (gi_loop (P := fun t => t.2.2 ≤ 240 → gx_G Γ (0 + t.2.2) (0 + 45 * t.2.2) 2 [.ref (ρ 0), .ref (ρ 1), .int t.1, .null, .null] [] (([] : va_W) ++ wR ρ ι t.2.1)) (fun kk t hk h => ?_) 5000 _ h hc)
  obtain ⟨x29, T9, c9⟩ := t
  intro hc9
  exact br_rest_2 hx C ⟨F, hnL⟩ (k2 := kk) (fun x28 T8 c8 hc8 h => hk (x28, T8, c8) h hc8) hc9 h

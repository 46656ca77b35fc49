def ml_158 (xs : Nat → Int32) (L : Nat) (k33 : Int32 × gx_S × gx_S × Nat → Option (Unit)) (k45 : Int32 × Int32 × gx_S × gx_S × Nat → Option (Unit)) (x4 : Int32) (x5 : Int32) (x6 : Int32) (x7 : Int32) (s0 : Int32) (s1 : Int32) (S : gx_S) (T : gx_S) (c : Nat) : Option (Unit) := if s0 = s1 then gx_cp (m_ShopsAsOne_about x6 5 S) fun v2 => if v2 = x7 then k45 (x5, (x6 + 1), S, T, c) else none else none
set_option maxRecDepth 20000 in
set_option maxHeartbeats 4000000 in
theorem bl_158 {Γ : gx_T} {ι : Nat → ClassId} {a : Nat → Nat} {ρ : Nat → Nat} {b0 L : Nat} {xs : Nat → Int32} (hx : gx_std vwCl (gty ι) (gx_cl Γ) (gx_ty Γ)) (C : gx_ok Γ code RL gx_U 40) (F : gl_fin Γ b0 ∧ gx_nL Γ = 12) (X : gx_scr Γ b0 L xs) {k33 : Int32 × gx_S × gx_S × Nat → Option (Unit)} {k45 : Int32 × Int32 × gx_S × gx_S × Nat → Option (Unit)} {x4 : Int32} {x5 : Int32} {x6 : Int32} {x7 : Int32} {s0 : Int32} {s1 : Int32} {S : gx_S} {T : gx_S} {c : Nat} (hk33 : ∀ (x47 : Int32) (S7 : gx_S) (T7 : gx_S) (c7 : Nat), c7 ≤ 3000 → k33 (x47, S7, T7, c7) = some () → gx_G Γ (84 + c7) (962 + 45 * c7) 33 [.ref b0, .ref (a 0), .ref (ρ 0), .ref (ρ 1), .int x47, .null, .null, .null, .null, .null, .null, .null] [] (wX a ι S7 ++ wR ρ ι T7)) (hk45 : ∀ (x57 : Int32) (x67 : Int32) (S7 : gx_S) (T7 : gx_S) (c7 : Nat), c7 ≤ 3000 → k45 (x57, x67, S7, T7, c7) = some () → gx_G Γ (84 + c7) (962 + 45 * c7) 45 [.ref b0, .ref (a 0), .ref (ρ 0), .ref (ρ 1), .int x4, .int x57, .int x67, .null, .null, .null, .null, .null] [] (wX a ι S7 ++ wR ρ ι T7)) (hc : c ≤ 3000) (h : ml_158 xs L k33 k45 x4 x5 x6 x7 s0 s1 S T c = some ()) : gx_G Γ (84 + c) (962 + 45 * c) 158 [.ref b0, .ref (a 0), .ref (ρ 0), .ref (ρ 1), .int x4, .int x5, .int x6, .int x7, .null, .null, .null, .null] [.int s1, .int s0] (wX a ι S ++ wR ρ ι T) := by
  obtain ⟨F, hnL⟩ := F
  have ht0 : (gx_ty Γ)[0]? = some (ι 0, .int) := by rw [hx.2]; rfl
  have hroom0 : ∀ c2 : Nat, c2 ≤ 3000 → 84 + c2 ≤ 600000 ∧ 962 + 45 * c2 ≤ 7302250 := fun c2 h => ⟨by omega, by omega⟩
  have hroom : ∀ c2 : Nat, c2 ≤ 3000 → 84 + c2 ≤ (gx_R Γ).cells ∧ 962 + 45 * c2 ≤ (gx_R Γ).slots := fun c2 h => by
    rw [F.2.2.2.2.1]
    exact hroom0 c2 h
  have hb := hroom _ hc
  unfold ml_158 at h
  refine gx_icmp_ne (tgt := 173) C dL_law_158 (by decide) (fun hc4 => ?_) (fun hc4 => ?_)
  · have h := gi_f hc4 h
    refine gx_iconst0 C dL_law_173 ?_
    cases h
  · have h := gi_t hc4 h
    refine gx_aload_1 C dL_law_161 rfl ?_
    refine gx_iload C dL_law_162 rfl ?_
    refine gx_iconst5 C dL_law_164 ?_
    obtain ⟨v2, e1, h⟩ := gi_cp h
    refine gc_IVf C (c_ShopsAsOne_about (gx_l Γ) (gx_D Γ) hx a _ _ _ e1) (gx_cw C gx_uu lk_L_62 (by decide) (by decide)) (cls_X7 hx).1 (gs_recv (q := 0) lt_X_ShopsAsOne (oc_X_ShopsAsOne a ι _)) rfl rfl (Nat.le_of_ble_eq_true rfl) hb dL_law_165 ?_
    refine gx_iload C dL_law_168 rfl ?_
    refine gx_icmp_eq (tgt := 175) C dL_law_170 (by decide) (fun hc3 => ?_) (fun hc3 => ?_)
    · have h := gi_t hc3 h
      refine gx_iinc1 C dL_law_175 rfl (by rw [hnL]; decide) trivial ?_
      refine gx_goto (tgt := 45) C dL_law_178 (by decide) ?_
      exact gx_weak (gx_le_k rfl (gx_le_k rfl (gx_le_k rfl (gx_le_k rfl (gx_le_k rfl (gx_le_k rfl (gx_le_k rfl (gx_le_n (gx_le_n (gx_le_n (gx_le_n (gx_le_n gx_le_0)))))))))))) (hk45 _ _ _ _ _ hc h)
    · have h := gi_f hc3 h
      refine gx_iconst0 C dL_law_173 ?_
      cases h
def ml_195 (xs : Nat → Int32) (L : Nat) (k33 : Int32 × gx_S × gx_S × Nat → Option (Unit)) (k184 : Int32 × gx_S × gx_S × Nat → Option (Unit)) (x4 : Int32) (x5 : Int32) (x6 : Int32) (t : Int32 × gx_S × gx_S × Nat) (k195 : Int32 × gx_S × gx_S × Nat → Option (Unit)) : Option (Unit) := match t with
  | (x7, S, T, c) => gx_ck 45 (1 : Int32) (if (T 0 (1 : Int32).toNatClampNeg) ≤ x7 then gx_cp (m_ShopsAsOne_goes x6 S) fun v3 => gx_cp (r_goes x6 (-1) T) fun v5 => if v3 = v5 then gx_cp (m_ShopsAsOne_spare x6 S) fun v7 => gx_cp (r_spare x6 T) fun v9 => if v7 = v9 then k184 ((x6 + 1), S, T, c) else none else none else gx_cp (m_ShopsAsOne_is x6 x7 S) fun v13 => gx_cp (r_is x6 x7 T) fun v15 => if v13 = v15 then gx_cp (m_ShopsAsOne_instead x6 x7 S) fun v17 => gx_cp (r_goes x6 x7 T) fun v19 => if v17 = v19 then k195 ((x7 + 1), S, T, c) else none else none)
set_option maxRecDepth 20000 in
set_option maxHeartbeats 4000000 in
theorem bl_195 {Γ : gx_T} {ι : Nat → ClassId} {a : Nat → Nat} {ρ : Nat → Nat} {b0 L : Nat} {xs : Nat → Int32} (hx : gx_std vwCl (gty ι) (gx_cl Γ) (gx_ty Γ)) (C : gx_ok Γ code RL gx_U 40) (F : gl_fin Γ b0 ∧ gx_nL Γ = 12) (X : gx_scr Γ b0 L xs) {k33 : Int32 × gx_S × gx_S × Nat → Option (Unit)} {k184 : Int32 × gx_S × gx_S × Nat → Option (Unit)} {k195 : Int32 × gx_S × gx_S × Nat → Option (Unit)} {x4 : Int32} {x5 : Int32} {x6 : Int32} {x7 : Int32} {S : gx_S} {T : gx_S} {c : Nat} (hk33 : ∀ (x47 : Int32) (S7 : gx_S) (T7 : gx_S) (c7 : Nat), c7 ≤ 3000 → k33 (x47, S7, T7, c7) = some () → gx_G Γ (84 + c7) (962 + 45 * c7) 33 [.ref b0, .ref (a 0), .ref (ρ 0), .ref (ρ 1), .int x47, .null, .null, .null, .null, .null, .null, .null] [] (wX a ι S7 ++ wR ρ ι T7)) (hk184 : ∀ (x67 : Int32) (S7 : gx_S) (T7 : gx_S) (c7 : Nat), c7 ≤ 3000 → k184 (x67, S7, T7, c7) = some () → gx_G Γ (84 + c7) (962 + 45 * c7) 184 [.ref b0, .ref (a 0), .ref (ρ 0), .ref (ρ 1), .int x4, .int x5, .int x67, .null, .null, .null, .null, .null] [] (wX a ι S7 ++ wR ρ ι T7)) (hk195 : ∀ (x77 : Int32) (S7 : gx_S) (T7 : gx_S) (c7 : Nat), c7 ≤ 3000 → k195 (x77, S7, T7, c7) = some () → gx_G Γ (84 + c7) (962 + 45 * c7) 195 [.ref b0, .ref (a 0), .ref (ρ 0), .ref (ρ 1), .int x4, .int x5, .int x6, .int x77, .null, .null, .null, .null] [] (wX a ι S7 ++ wR ρ ι T7)) (hc : c ≤ 3000) (h : ml_195 xs L k33 k184 x4 x5 x6 (x7, S, T, c) k195 = some ()) : gx_G Γ (84 + c) (962 + 45 * c) 195 [.ref b0, .ref (a 0), .ref (ρ 0), .ref (ρ 1), .int x4, .int x5, .int x6, .int x7, .null, .null, .null, .null] [] (wX a ι S ++ wR ρ ι T) := by
  obtain ⟨F, hnL⟩ := F
  have ht0 : (gx_ty Γ)[0]? = some (ι 0, .int) := by rw [hx.2]; rfl
  have hroom0 : ∀ c2 : Nat, c2 ≤ 3000 → 84 + c2 ≤ 600000 ∧ 962 + 45 * c2 ≤ 7302250 := fun c2 h => ⟨by omega, by omega⟩
  have hroom : ∀ c2 : Nat, c2 ≤ 3000 → 84 + c2 ≤ (gx_R Γ).cells ∧ 962 + 45 * c2 ≤ (gx_R Γ).slots := fun c2 h => by
    rw [F.2.2.2.2.1]
    exact hroom0 c2 h
  have hb := hroom _ hc
  unfold ml_195 at h
  dsimp only at h
  refine gx_iload C dL_law_195 rfl ?_
  refine gx_aload_2 C dL_law_197 rfl ?_
  refine gx_iconst1 C dL_law_198 ?_
  obtain ⟨hi1, h⟩ := gi_ck h
  refine gy_iald C my_0 ht0 hi1 dL_law_199 ?_
  refine gx_icmp_ge (tgt := 251) C dL_law_200 (by decide) (fun hc22 => ?_) (fun hc22 => ?_)
  · have h := gi_t hc22 h
    refine gx_aload_1 C dL_law_251 rfl ?_
    refine gx_iload C dL_law_252 rfl ?_
    obtain ⟨v3, e2, h⟩ := gi_cp h
    refine gc_IVf C (c_ShopsAsOne_goes (gx_l Γ) (gx_D Γ) hx a _ _ e2) (gx_cw C gx_uu lk_L_70 (by decide) (by decide)) (cls_X7 hx).1 (gs_recv (q := 0) lt_X_ShopsAsOne (oc_X_ShopsAsOne a ι _)) rfl rfl (Nat.le_of_ble_eq_true rfl) hb dL_law_254 ?_
    refine gx_aload_2 C dL_law_257 rfl ?_
    refine gx_aload_3 C dL_law_258 rfl ?_
    refine gx_iload C dL_law_259 rfl ?_
    refine gx_iconstm1 C dL_law_261 ?_
    obtain ⟨v5, e4, h⟩ := gi_cp h
    refine gy_IS C (cr_goes (gx_l Γ) (gx_D Γ) hx ρ _ _ _ e4) (gx_cwS C gx_uu lk_L_43 (by decide) (by decide)) rfl rfl (Nat.le_of_ble_eq_true rfl) hb dL_law_262 py_R py_R.symm ?_
    refine gx_icmp_ne (tgt := 284) C dL_law_265 (by decide) (fun hc11 => ?_) (fun hc11 => ?_)
    · have h := gi_f hc11 h
      refine gx_iconst0 C dL_law_284 ?_
      cases h
    · have h := gi_t hc11 h
      refine gx_aload_1 C dL_law_268 rfl ?_
      refine gx_iload C dL_law_269 rfl ?_
      obtain ⟨v7, e6, h⟩ := gi_cp h
      refine gc_IVf C (c_ShopsAsOne_spare (gx_l Γ) (gx_D Γ) hx a _ _ e6) (gx_cw C gx_uu lk_L_73 (by decide) (by decide)) (cls_X7 hx).1 (gs_recv (q := 0) lt_X_ShopsAsOne (oc_X_ShopsAsOne a ι _)) rfl rfl (Nat.le_of_ble_eq_true rfl) hb dL_law_271 ?_
      refine gx_aload_2 C dL_law_274 rfl ?_
      refine gx_aload_3 C dL_law_275 rfl ?_
      refine gx_iload C dL_law_276 rfl ?_
      obtain ⟨v9, e8, h⟩ := gi_cp h
      refine gy_IS C (cr_spare (gx_l Γ) (gx_D Γ) hx ρ _ _ e8) (gx_cwS C gx_uu lk_L_76 (by decide) (by decide)) rfl rfl (Nat.le_of_ble_eq_true rfl) hb dL_law_278 py_R py_R.symm ?_
      refine gx_icmp_eq (tgt := 286) C dL_law_281 (by decide) (fun hc10 => ?_) (fun hc10 => ?_)
      · have h := gi_t hc10 h
        refine gx_iinc1 C dL_law_286 rfl (by rw [hnL]; decide) trivial ?_
        refine gx_goto (tgt := 184) C dL_law_289 (by decide) ?_
        exact gx_weak (gx_le_k rfl (gx_le_k rfl (gx_le_k rfl (gx_le_k rfl (gx_le_k rfl (gx_le_k rfl (gx_le_k rfl (gx_le_n (gx_le_n (gx_le_n (gx_le_n (gx_le_n gx_le_0)))))))))))) (hk184 _ _ _ _ hc h)
      · have h := gi_f hc10 h
        refine gx_iconst0 C dL_law_284 ?_
        cases h
  · have h := gi_f hc22 h
    refine gx_aload_1 C dL_law_203 rfl ?_
    refine gx_iload C dL_law_204 rfl ?_
    refine gx_iload C dL_law_206 rfl ?_
    obtain ⟨v13, e12, h⟩ := gi_cp h
    refine gc_IVf C (c_ShopsAsOne_is (gx_l Γ) (gx_D Γ) hx a _ _ _ e12) (gx_cw C gx_uu lk_L_65 (by decide) (by decide)) (cls_X7 hx).1 (gs_recv (q := 0) lt_X_ShopsAsOne (oc_X_ShopsAsOne a ι _)) rfl rfl (Nat.le_of_ble_eq_true rfl) hb dL_law_208 ?_
    refine gx_aload_2 C dL_law_211 rfl ?_
    refine gx_aload_3 C dL_law_212 rfl ?_
    refine gx_iload C dL_law_213 rfl ?_
    refine gx_iload C dL_law_215 rfl ?_
    obtain ⟨v15, e14, h⟩ := gi_cp h
    refine gy_IS C (cr_is (gx_l Γ) (gx_D Γ) hx ρ _ _ _ e14) (gx_cwS C gx_uu lk_L_39 (by decide) (by decide)) rfl rfl (Nat.le_of_ble_eq_true rfl) hb dL_law_217 py_R py_R.symm ?_
    refine gx_icmp_ne (tgt := 243) C dL_law_220 (by decide) (fun hc21 => ?_) (fun hc21 => ?_)
    · have h := gi_f hc21 h
      refine gx_iconst0 C dL_law_243 ?_
      cases h
    · have h := gi_t hc21 h
      refine gx_aload_1 C dL_law_223 rfl ?_
      refine gx_iload C dL_law_224 rfl ?_
      refine gx_iload C dL_law_226 rfl ?_
      obtain ⟨v17, e16, h⟩ := gi_cp h
      refine gc_IVf C (c_ShopsAsOne_instead (gx_l Γ) (gx_D Γ) hx a _ _ _ e16) (gx_cw C gx_uu lk_L_67 (by decide) (by decide)) (cls_X7 hx).1 (gs_recv (q := 0) lt_X_ShopsAsOne (oc_X_ShopsAsOne a ι _)) rfl rfl (Nat.le_of_ble_eq_true rfl) hb dL_law_228 ?_
      refine gx_aload_2 C dL_law_231 rfl ?_
      refine gx_aload_3 C dL_law_232 rfl ?_
      refine gx_iload C dL_law_233 rfl ?_
      refine gx_iload C dL_law_235 rfl ?_
      obtain ⟨v19, e18, h⟩ := gi_cp h
      refine gy_IS C (cr_goes (gx_l Γ) (gx_D Γ) hx ρ _ _ _ e18) (gx_cwS C gx_uu lk_L_43 (by decide) (by decide)) rfl rfl (Nat.le_of_ble_eq_true rfl) hb dL_law_237 py_R py_R.symm ?_
      refine gx_icmp_eq (tgt := 245) C dL_law_240 (by decide) (fun hc20 => ?_) (fun hc20 => ?_)
      · have h := gi_t hc20 h
        refine gx_iinc1 C dL_law_245 rfl (by rw [hnL]; decide) trivial ?_
        refine gx_goto (tgt := 195) C dL_law_248 (by decide) ?_
        exact gx_weak (gx_le_k rfl (gx_le_k rfl (gx_le_k rfl (gx_le_k rfl (gx_le_k rfl (gx_le_k rfl (gx_le_k rfl (gx_le_k rfl (gx_le_n (gx_le_n (gx_le_n (gx_le_n gx_le_0)))))))))))) (hk195 _ _ _ _ hc h)
      · have h := gi_f hc20 h
        refine gx_iconst0 C dL_law_243 ?_
        cases h
def ml_481 (xs : Nat → Int32) (L : Nat) (k33 : Int32 × gx_S × gx_S × Nat → Option (Unit)) (k314 : Int32 × Int32 × gx_S × gx_S × Nat → Option (Unit)) (k404 : Int32 × gx_S × gx_S × Nat → Option (Unit)) (x4 : Int32) (x6 : Int32) (x7 : Int32) (x10 : Int32) (U : Nat → Int32) (S : gx_S) (T : gx_S) (c : Nat) : Option (Unit) := k404 ((x10 + 1), S, T, c)
set_option maxRecDepth 20000 in
set_option maxHeartbeats 4000000 in
theorem bl_481 {Γ : gx_T} {ι : Nat → ClassId} {a : Nat → Nat} {ρ : Nat → Nat} {b0 L : Nat} {xs : Nat → Int32} (hx : gx_std vwCl (gty ι) (gx_cl Γ) (gx_ty Γ)) (C : gx_ok Γ code RL gx_U 40) (F : gl_fin Γ b0 ∧ gx_nL Γ = 12) (X : gx_scr Γ b0 L xs) {k33 : Int32 × gx_S × gx_S × Nat → Option (Unit)} {k314 : Int32 × Int32 × gx_S × gx_S × Nat → Option (Unit)} {k404 : Int32 × gx_S × gx_S × Nat → Option (Unit)} {x4 : Int32} {x6 : Int32} {x7 : Int32} {x10 : Int32} {t0 : Nat} {U : Nat → Int32} {S : gx_S} {T : gx_S} {c : Nat} (hk33 : ∀ (x47 : Int32) (S7 : gx_S) (T7 : gx_S) (c7 : Nat), c7 ≤ 3000 → k33 (x47, S7, T7, c7) = some () → gx_G Γ (84 + c7) (962 + 45 * c7) 33 [.ref b0, .ref (a 0), .ref (ρ 0), .ref (ρ 1), .int x47, .null, .null, .null, .null, .null, .null, .null] [] (wX a ι S7 ++ wR ρ ι T7)) (hk314 : ∀ (x67 : Int32) (x77 : Int32) (S7 : gx_S) (T7 : gx_S) (c7 : Nat), c7 ≤ 3000 → k314 (x67, x77, S7, T7, c7) = some () → gx_G Γ (84 + c7) (962 + 45 * c7) 314 [.ref b0, .ref (a 0), .ref (ρ 0), .ref (ρ 1), .int x4, .null, .int x67, .int x77, .null, .null, .null, .null] [] (wX a ι S7 ++ wR ρ ι T7)) (hk404 : ∀ (x107 : Int32) (S7 : gx_S) (T7 : gx_S) (c7 : Nat), c7 ≤ 3000 → k404 (x107, S7, T7, c7) = some () → gx_G Γ (84 + c7) (962 + 45 * c7) 404 [.ref b0, .ref (a 0), .ref (ρ 0), .ref (ρ 1), .int x4, .null, .int x6, .int x7, .ref t0, .null, .int x107, .null] [] (wX a ι S7 ++ (wR ρ ι T7 ++ wN ι t0 U))) (hc : c ≤ 3000) (h : ml_481 xs L k33 k314 k404 x4 x6 x7 x10 U S T c = some ()) : gx_G Γ (84 + c) (962 + 45 * c) 481 [.ref b0, .ref (a 0), .ref (ρ 0), .ref (ρ 1), .int x4, .null, .int x6, .int x7, .ref t0, .null, .int x10, .null] [] (wX a ι S ++ (wR ρ ι T ++ wN ι t0 U)) := by
  obtain ⟨F, hnL⟩ := F
  have ht0 : (gx_ty Γ)[0]? = some (ι 0, .int) := by rw [hx.2]; rfl
  have hroom0 : ∀ c2 : Nat, c2 ≤ 3000 → 84 + c2 ≤ 600000 ∧ 962 + 45 * c2 ≤ 7302250 := fun c2 h => ⟨by omega, by omega⟩
  have hroom : ∀ c2 : Nat, c2 ≤ 3000 → 84 + c2 ≤ (gx_R Γ).cells ∧ 962 + 45 * c2 ≤ (gx_R Γ).slots := fun c2 h => by
    rw [F.2.2.2.2.1]
    exact hroom0 c2 h
  have hb := hroom _ hc
  unfold ml_481 at h
  refine gx_iinc1 C dL_law_481 rfl (by rw [hnL]; decide) trivial ?_
  refine gx_goto (tgt := 404) C dL_law_484 (by decide) ?_
  exact gx_weak (gx_le_k rfl (gx_le_k rfl (gx_le_k rfl (gx_le_k rfl (gx_le_k rfl (gx_le_n (gx_le_k rfl (gx_le_k rfl (gx_le_k rfl (gx_le_n (gx_le_k rfl (gx_le_n gx_le_0)))))))))))) (hk404 _ _ _ _ hc h)
def ml_476 (xs : Nat → Int32) (L : Nat) (k33 : Int32 × gx_S × gx_S × Nat → Option (Unit)) (k314 : Int32 × Int32 × gx_S × gx_S × Nat → Option (Unit)) (k404 : Int32 × gx_S × gx_S × Nat → Option (Unit)) (x4 : Int32) (x6 : Int32) (x7 : Int32) (x10 : Int32) (s0 : Int32) (s1 : Int32) (U : Nat → Int32) (S : gx_S) (T : gx_S) (c : Nat) : Option (Unit) := if s0 = s1 then ml_481 xs L k33 k314 k404 x4 x6 x7 x10 U S T c else none
set_option maxRecDepth 20000 in
set_option maxHeartbeats 4000000 in
theorem bl_476 {Γ : gx_T} {ι : Nat → ClassId} {a : Nat → Nat} {ρ : Nat → Nat} {b0 L : Nat} {xs : Nat → Int32} (hx : gx_std vwCl (gty ι) (gx_cl Γ) (gx_ty Γ)) (C : gx_ok Γ code RL gx_U 40) (F : gl_fin Γ b0 ∧ gx_nL Γ = 12) (X : gx_scr Γ b0 L xs) {k33 : Int32 × gx_S × gx_S × Nat → Option (Unit)} {k314 : Int32 × Int32 × gx_S × gx_S × Nat → Option (Unit)} {k404 : Int32 × gx_S × gx_S × Nat → Option (Unit)} {x4 : Int32} {x6 : Int32} {x7 : Int32} {x10 : Int32} {s0 : Int32} {s1 : Int32} {t0 : Nat} {U : Nat → Int32} {S : gx_S} {T : gx_S} {c : Nat} (hk33 : ∀ (x47 : Int32) (S7 : gx_S) (T7 : gx_S) (c7 : Nat), c7 ≤ 3000 → k33 (x47, S7, T7, c7) = some () → gx_G Γ (84 + c7) (962 + 45 * c7) 33 [.ref b0, .ref (a 0), .ref (ρ 0), .ref (ρ 1), .int x47, .null, .null, .null, .null, .null, .null, .null] [] (wX a ι S7 ++ wR ρ ι T7)) (hk314 : ∀ (x67 : Int32) (x77 : Int32) (S7 : gx_S) (T7 : gx_S) (c7 : Nat), c7 ≤ 3000 → k314 (x67, x77, S7, T7, c7) = some () → gx_G Γ (84 + c7) (962 + 45 * c7) 314 [.ref b0, .ref (a 0), .ref (ρ 0), .ref (ρ 1), .int x4, .null, .int x67, .int x77, .null, .null, .null, .null] [] (wX a ι S7 ++ wR ρ ι T7)) (hk404 : ∀ (x107 : Int32) (S7 : gx_S) (T7 : gx_S) (c7 : Nat), c7 ≤ 3000 → k404 (x107, S7, T7, c7) = some () → gx_G Γ (84 + c7) (962 + 45 * c7) 404 [.ref b0, .ref (a 0), .ref (ρ 0), .ref (ρ 1), .int x4, .null, .int x6, .int x7, .ref t0, .null, .int x107, .null] [] (wX a ι S7 ++ (wR ρ ι T7 ++ wN ι t0 U))) (hc : c ≤ 3000) (h : ml_476 xs L k33 k314 k404 x4 x6 x7 x10 s0 s1 U S T c = some ()) : gx_G Γ (84 + c) (962 + 45 * c) 476 [.ref b0, .ref (a 0), .ref (ρ 0), .ref (ρ 1), .int x4, .null, .int x6, .int x7, .ref t0, .null, .int x10, .null] [.int s1, .int s0] (wX a ι S ++ (wR ρ ι T ++ wN ι t0 U)) := by
  obtain ⟨F, hnL⟩ := F
  have ht0 : (gx_ty Γ)[0]? = some (ι 0, .int) := by rw [hx.2]; rfl
  have hroom0 : ∀ c2 : Nat, c2 ≤ 3000 → 84 + c2 ≤ 600000 ∧ 962 + 45 * c2 ≤ 7302250 := fun c2 h => ⟨by omega, by omega⟩
  have hroom : ∀ c2 : Nat, c2 ≤ 3000 → 84 + c2 ≤ (gx_R Γ).cells ∧ 962 + 45 * c2 ≤ (gx_R Γ).slots := fun c2 h => by
    rw [F.2.2.2.2.1]
    exact hroom0 c2 h
  have hb := hroom _ hc
  unfold ml_476 at h
  refine gx_icmp_eq (tgt := 481) C dL_law_476 (by decide) (fun hc1 => ?_) (fun hc1 => ?_)
  · have h := gi_t hc1 h
    exact gx_weak (gx_le_k rfl (gx_le_k rfl (gx_le_k rfl (gx_le_k rfl (gx_le_k rfl (gx_le_n (gx_le_k rfl (gx_le_k rfl (gx_le_k rfl (gx_le_n (gx_le_k rfl (gx_le_n gx_le_0)))))))))))) (bl_481 hx C ⟨F, hnL⟩ X hk33 hk314 hk404 hc h)
  · have h := gi_f hc1 h
    refine gx_iconst0 C dL_law_479 ?_
    cases h
def ml_429 (xs : Nat → Int32) (L : Nat) (k33 : Int32 × gx_S × gx_S × Nat → Option (Unit)) (k314 : Int32 × Int32 × gx_S × gx_S × Nat → Option (Unit)) (k404 : Int32 × gx_S × gx_S × Nat → Option (Unit)) (x4 : Int32) (x6 : Int32) (x7 : Int32) (x10 : Int32) (s0 : Int32) (U : Nat → Int32) (S : gx_S) (T : gx_S) (c : Nat) : Option (Unit) := if s0 = 0 then ml_481 xs L k33 k314 k404 x4 x6 x7 x10 U S T c else gx_cs (m_ShopsAsOne_best x10 0 S) fun v2 S3 => gx_ck 45 ((27 : Int32) + x10) (if v2 = (U ((27 : Int32) + x10).toNatClampNeg) then gx_cs (m_ShopsAsOne_best x10 1 S3) fun v6 S7 => gx_cp (r_open x10 (gy_Tt T U)) fun v9 => if v9 = 0 then ml_476 xs L k33 k314 k404 x4 x6 x7 x10 v6 0 U S7 T c else ml_476 xs L k33 k314 k404 x4 x6 x7 x10 v6 1 U S7 T c else none)
set_option maxRecDepth 20000 in
set_option maxHeartbeats 4000000 in
theorem bl_429 {Γ : gx_T} {ι : Nat → ClassId} {a : Nat → Nat} {ρ : Nat → Nat} {b0 L : Nat} {xs : Nat → Int32} (hx : gx_std vwCl (gty ι) (gx_cl Γ) (gx_ty Γ)) (C : gx_ok Γ code RL gx_U 40) (F : gl_fin Γ b0 ∧ gx_nL Γ = 12) (X : gx_scr Γ b0 L xs) {k33 : Int32 × gx_S × gx_S × Nat → Option (Unit)} {k314 : Int32 × Int32 × gx_S × gx_S × Nat → Option (Unit)} {k404 : Int32 × gx_S × gx_S × Nat → Option (Unit)} {x4 : Int32} {x6 : Int32} {x7 : Int32} {x10 : Int32} {s0 : Int32} {t0 : Nat} {U : Nat → Int32} {S : gx_S} {T : gx_S} {c : Nat} (hk33 : ∀ (x47 : Int32) (S7 : gx_S) (T7 : gx_S) (c7 : Nat), c7 ≤ 3000 → k33 (x47, S7, T7, c7) = some () → gx_G Γ (84 + c7) (962 + 45 * c7) 33 [.ref b0, .ref (a 0), .ref (ρ 0), .ref (ρ 1), .int x47, .null, .null, .null, .null, .null, .null, .null] [] (wX a ι S7 ++ wR ρ ι T7)) (hk314 : ∀ (x67 : Int32) (x77 : Int32) (S7 : gx_S) (T7 : gx_S) (c7 : Nat), c7 ≤ 3000 → k314 (x67, x77, S7, T7, c7) = some () → gx_G Γ (84 + c7) (962 + 45 * c7) 314 [.ref b0, .ref (a 0), .ref (ρ 0), .ref (ρ 1), .int x4, .null, .int x67, .int x77, .null, .null, .null, .null] [] (wX a ι S7 ++ wR ρ ι T7)) (hk404 : ∀ (x107 : Int32) (S7 : gx_S) (T7 : gx_S) (c7 : Nat), c7 ≤ 3000 → k404 (x107, S7, T7, c7) = some () → gx_G Γ (84 + c7) (962 + 45 * c7) 404 [.ref b0, .ref (a 0), .ref (ρ 0), .ref (ρ 1), .int x4, .null, .int x6, .int x7, .ref t0, .null, .int x107, .null] [] (wX a ι S7 ++ (wR ρ ι T7 ++ wN ι t0 U))) (hc : c ≤ 3000) (h : ml_429 xs L k33 k314 k404 x4 x6 x7 x10 s0 U S T c = some ()) : gx_G Γ (84 + c) (962 + 45 * c) 429 [.ref b0, .ref (a 0), .ref (ρ 0), .ref (ρ 1), .int x4, .null, .int x6, .int x7, .ref t0, .null, .int x10, .null] [.int s0] (wX a ι S ++ (wR ρ ι T ++ wN ι t0 U)) := by
  obtain ⟨F, hnL⟩ := F
  have ht0 : (gx_ty Γ)[0]? = some (ι 0, .int) := by rw [hx.2]; rfl
  have hroom0 : ∀ c2 : Nat, c2 ≤ 3000 → 84 + c2 ≤ 600000 ∧ 962 + 45 * c2 ≤ 7302250 := fun c2 h => ⟨by omega, by omega⟩
  have hroom : ∀ c2 : Nat, c2 ≤ 3000 → 84 + c2 ≤ (gx_R Γ).cells ∧ 962 + 45 * c2 ≤ (gx_R Γ).slots := fun c2 h => by
    rw [F.2.2.2.2.1]
    exact hroom0 c2 h
  have hb := hroom _ hc
  unfold ml_429 at h
  refine gx_istore C dL_law_429 (by rw [hnL]; decide) trivial ?_
  refine gx_iload C dL_law_431 rfl ?_
  refine gx_if_eq (tgt := 481) C dL_law_433 (by decide) (fun hc12 => ?_) (fun hc12 => ?_)
  · have h := gi_t hc12 h
    exact gx_weak (gx_le_k rfl (gx_le_k rfl (gx_le_k rfl (gx_le_k rfl (gx_le_k rfl (gx_le_n (gx_le_k rfl (gx_le_k rfl (gx_le_k rfl (gx_le_n (gx_le_k rfl (gx_le_n gx_le_0)))))))))))) (bl_481 hx C ⟨F, hnL⟩ X hk33 hk314 hk404 hc h)
  · have h := gi_f hc12 h
    refine gx_aload_1 C dL_law_436 rfl ?_
    refine gx_iload C dL_law_437 rfl ?_
    refine gx_iconst0 C dL_law_439 ?_
    obtain ⟨v2, S3, e1, h⟩ := gi_cs h
    refine gc_IVf C (c_ShopsAsOne_best (gx_l Γ) (gx_D Γ) hx a _ _ _ e1) (gx_cw C gx_uu lk_L_90 (by decide) (by decide)) (cls_X7 hx).1 (gs_recv (q := 0) lt_X_ShopsAsOne (oc_X_ShopsAsOne a ι _)) rfl rfl (Nat.le_of_ble_eq_true rfl) hb dL_law_440 ?_
    refine gx_aload C dL_law_443 rfl ?_
    refine gx_bipush (v := 27) C dL_law_445 (by decide) ?_
    refine gx_iload C dL_law_447 rfl ?_
    refine gx_iadd C dL_law_449 ?_
    obtain ⟨hi4, h⟩ := gi_ck h
    refine gy_iald C my_t ht0 hi4 dL_law_450 ?_
    refine gx_icmp_ne (tgt := 479) C dL_law_451 (by decide) (fun hc11 => ?_) (fun hc11 => ?_)
    · have h := gi_f hc11 h
      refine gx_iconst0 C dL_law_479 ?_
      cases h
    · have h := gi_t hc11 h
      refine gx_aload_1 C dL_law_454 rfl ?_
      refine gx_iload C dL_law_455 rfl ?_
      refine gx_iconst1 C dL_law_457 ?_
      obtain ⟨v6, S7, e5, h⟩ := gi_cs h
      refine gc_IVf C (c_ShopsAsOne_best (gx_l Γ) (gx_D Γ) hx a _ _ _ e5) (gx_cw C gx_uu lk_L_90 (by decide) (by decide)) (cls_X7 hx).1 (gs_recv (q := 0) lt_X_ShopsAsOne (oc_X_ShopsAsOne a ι _)) rfl rfl (Nat.le_of_ble_eq_true rfl) hb dL_law_458 ?_
      refine gx_aload C dL_law_461 rfl ?_
      refine gx_iload C dL_law_463 rfl ?_
      obtain ⟨v9, e8, h⟩ := gi_cp h
      refine gy_IS C (cr_open (gx_l Γ) (gx_D Γ) hx (gy_rt ρ t0) _ _ e8) (gx_cwS C gx_uu lk_L_35 (by decide) (by decide)) rfl rfl (Nat.le_of_ble_eq_true rfl) hb dL_law_465 py_t py_t.symm ?_
      refine gx_if_eq (tgt := 475) C dL_law_468 (by decide) (fun hc10 => ?_) (fun hc10 => ?_)
      · have h := gi_t hc10 h
        refine gx_iconst0 C dL_law_475 ?_
        exact gx_weak (gx_le_k rfl (gx_le_k rfl (gx_le_k rfl (gx_le_k rfl (gx_le_k rfl (gx_le_n (gx_le_k rfl (gx_le_k rfl (gx_le_k rfl (gx_le_n (gx_le_k rfl (gx_le_n gx_le_0)))))))))))) (bl_476 hx C ⟨F, hnL⟩ X hk33 hk314 hk404 hc h)
      · have h := gi_f hc10 h
        refine gx_iconst1 C dL_law_471 ?_
        refine gx_goto (tgt := 476) C dL_law_472 (by decide) ?_
        exact gx_weak (gx_le_k rfl (gx_le_k rfl (gx_le_k rfl (gx_le_k rfl (gx_le_k rfl (gx_le_n (gx_le_k rfl (gx_le_k rfl (gx_le_k rfl (gx_le_n (gx_le_k rfl (gx_le_n gx_le_0)))))))))))) (bl_476 hx C ⟨F, hnL⟩ X hk33 hk314 hk404 hc h)
def ml_404 (xs : Nat → Int32) (L : Nat) (k33 : Int32 × gx_S × gx_S × Nat → Option (Unit)) (k314 : Int32 × Int32 × gx_S × gx_S × Nat → Option (Unit)) (x4 : Int32) (x6 : Int32) (x7 : Int32) (U : Nat → Int32) (t : Int32 × gx_S × gx_S × Nat) (k404 : Int32 × gx_S × gx_S × Nat → Option (Unit)) : Option (Unit) := match t with
  | (x10, S, T, c) => gx_ck 45 (1 : Int32) (if (T 0 (1 : Int32).toNatClampNeg) ≤ x10 then k314 (x6, (x7 + (-1)), S, T, c) else gx_ck 45 ((33 : Int32) + x10) (if (T 0 ((33 : Int32) + x10).toNatClampNeg) = x7 then ml_429 xs L k33 k314 k404 x4 x6 x7 x10 1 U S T c else ml_429 xs L k33 k314 k404 x4 x6 x7 x10 0 U S T c))
set_option maxRecDepth 20000 in
set_option maxHeartbeats 4000000 in
theorem bl_404 {Γ : gx_T} {ι : Nat → ClassId} {a : Nat → Nat} {ρ : Nat → Nat} {b0 L : Nat} {xs : Nat → Int32} (hx : gx_std vwCl (gty ι) (gx_cl Γ) (gx_ty Γ)) (C : gx_ok Γ code RL gx_U 40) (F : gl_fin Γ b0 ∧ gx_nL Γ = 12) (X : gx_scr Γ b0 L xs) {k33 : Int32 × gx_S × gx_S × Nat → Option (Unit)} {k314 : Int32 × Int32 × gx_S × gx_S × Nat → Option (Unit)} {k404 : Int32 × gx_S × gx_S × Nat → Option (Unit)} {x4 : Int32} {x6 : Int32} {x7 : Int32} {x10 : Int32} {t0 : Nat} {U : Nat → Int32} {S : gx_S} {T : gx_S} {c : Nat} (hk33 : ∀ (x47 : Int32) (S7 : gx_S) (T7 : gx_S) (c7 : Nat), c7 ≤ 3000 → k33 (x47, S7, T7, c7) = some () → gx_G Γ (84 + c7) (962 + 45 * c7) 33 [.ref b0, .ref (a 0), .ref (ρ 0), .ref (ρ 1), .int x47, .null, .null, .null, .null, .null, .null, .null] [] (wX a ι S7 ++ wR ρ ι T7)) (hk314 : ∀ (x67 : Int32) (x77 : Int32) (S7 : gx_S) (T7 : gx_S) (c7 : Nat), c7 ≤ 3000 → k314 (x67, x77, S7, T7, c7) = some () → gx_G Γ (84 + c7) (962 + 45 * c7) 314 [.ref b0, .ref (a 0), .ref (ρ 0), .ref (ρ 1), .int x4, .null, .int x67, .int x77, .null, .null, .null, .null] [] (wX a ι S7 ++ wR ρ ι T7)) (hk404 : ∀ (x107 : Int32) (S7 : gx_S) (T7 : gx_S) (c7 : Nat), c7 ≤ 3000 → k404 (x107, S7, T7, c7) = some () → gx_G Γ (84 + c7) (962 + 45 * c7) 404 [.ref b0, .ref (a 0), .ref (ρ 0), .ref (ρ 1), .int x4, .null, .int x6, .int x7, .ref t0, .null, .int x107, .null] [] (wX a ι S7 ++ (wR ρ ι T7 ++ wN ι t0 U))) (hc : c ≤ 3000) (h : ml_404 xs L k33 k314 x4 x6 x7 U (x10, S, T, c) k404 = some ()) : gx_G Γ (84 + c) (962 + 45 * c) 404 [.ref b0, .ref (a 0), .ref (ρ 0), .ref (ρ 1), .int x4, .null, .int x6, .int x7, .ref t0, .null, .int x10, .null] [] (wX a ι S ++ (wR ρ ι T ++ wN ι t0 U)) := by
  obtain ⟨F, hnL⟩ := F
  have ht0 : (gx_ty Γ)[0]? = some (ι 0, .int) := by rw [hx.2]; rfl
  have hroom0 : ∀ c2 : Nat, c2 ≤ 3000 → 84 + c2 ≤ 600000 ∧ 962 + 45 * c2 ≤ 7302250 := fun c2 h => ⟨by omega, by omega⟩
  have hroom : ∀ c2 : Nat, c2 ≤ 3000 → 84 + c2 ≤ (gx_R Γ).cells ∧ 962 + 45 * c2 ≤ (gx_R Γ).slots := fun c2 h => by
    rw [F.2.2.2.2.1]
    exact hroom0 c2 h
  have hb := hroom _ hc
  unfold ml_404 at h
  dsimp only at h
  refine gx_iload C dL_law_404 rfl ?_
  refine gx_aload_2 C dL_law_406 rfl ?_
  refine gx_iconst1 C dL_law_407 ?_
  obtain ⟨hi1, h⟩ := gi_ck h
  refine gy_iald C my_0t ht0 hi1 dL_law_408 ?_
  refine gx_icmp_ge (tgt := 487) C dL_law_409 (by decide) (fun hc4 => ?_) (fun hc4 => ?_)
  · have h := gi_t hc4 h
    refine gx_iinc C dL_law_487 rfl rfl (by rw [hnL]; decide) trivial ?_
    refine gx_goto (tgt := 314) C dL_law_490 (by decide) ?_
    refine gy_dN ?_
    exact gx_weak (gx_le_k rfl (gx_le_k rfl (gx_le_k rfl (gx_le_k rfl (gx_le_k rfl (gx_le_n (gx_le_k rfl (gx_le_k rfl (gx_le_n (gx_le_n (gx_le_n (gx_le_n gx_le_0)))))))))))) (hk314 _ _ _ _ _ hc h)
  · have h := gi_f hc4 h
    refine gx_aload_2 C dL_law_412 rfl ?_
    refine gx_bipush (v := 33) C dL_law_413 (by decide) ?_
    refine gx_iload C dL_law_415 rfl ?_
    refine gx_iadd C dL_law_417 ?_
    obtain ⟨hi2, h⟩ := gi_ck h
    refine gy_iald C my_0t ht0 hi2 dL_law_418 ?_
    refine gx_iload C dL_law_419 rfl ?_
    refine gx_icmp_ne (tgt := 428) C dL_law_421 (by decide) (fun hc3 => ?_) (fun hc3 => ?_)
    · have h := gi_f hc3 h
      refine gx_iconst0 C dL_law_428 ?_
      exact gx_weak (gx_le_k rfl (gx_le_k rfl (gx_le_k rfl (gx_le_k rfl (gx_le_k rfl (gx_le_n (gx_le_k rfl (gx_le_k rfl (gx_le_k rfl (gx_le_n (gx_le_k rfl (gx_le_n gx_le_0)))))))))))) (bl_429 hx C ⟨F, hnL⟩ X hk33 hk314 hk404 hc h)
    · have h := gi_t hc3 h
      refine gx_iconst1 C dL_law_424 ?_
      refine gx_goto (tgt := 429) C dL_law_425 (by decide) ?_
      exact gx_weak (gx_le_k rfl (gx_le_k rfl (gx_le_k rfl (gx_le_k rfl (gx_le_k rfl (gx_le_n (gx_le_k rfl (gx_le_k rfl (gx_le_k rfl (gx_le_n (gx_le_k rfl (gx_le_n gx_le_0)))))))))))) (bl_429 hx C ⟨F, hnL⟩ X hk33 hk314 hk404 hc h)
def ml_370 (xs : Nat → Int32) (L : Nat) (k33 : Int32 × gx_S × gx_S × Nat → Option (Unit)) (k314 : Int32 × Int32 × gx_S × gx_S × Nat → Option (Unit)) (x4 : Int32) (x7 : Int32) (x9 : Int32) (s0 : Int32) (U : Nat → Int32) (S : gx_S) (T : gx_S) (c : Nat) : Option (Unit) := gx_cp (m_ShopsAsOne_profit x7 S) fun v2 => gx_cp (r_profit x7 T) fun v4 => if v2 = v4 then gx_cs (m_ShopsAsOne_gain x7 S) fun v6 S7 => if v6 = x9 then gx_loop (ml_404 xs L k33 k314 x4 s0 x7 U) 5000 (0, S7, T, c) else none else none
set_option maxRecDepth 20000 in
set_option maxHeartbeats 4000000 in
theorem bl_370 {Γ : gx_T} {ι : Nat → ClassId} {a : Nat → Nat} {ρ : Nat → Nat} {b0 L : Nat} {xs : Nat → Int32} (hx : gx_std vwCl (gty ι) (gx_cl Γ) (gx_ty Γ)) (C : gx_ok Γ code RL gx_U 40) (F : gl_fin Γ b0 ∧ gx_nL Γ = 12) (X : gx_scr Γ b0 L xs) {k33 : Int32 × gx_S × gx_S × Nat → Option (Unit)} {k314 : Int32 × Int32 × gx_S × gx_S × Nat → Option (Unit)} {x4 : Int32} {x7 : Int32} {x9 : Int32} {s0 : Int32} {t0 : Nat} {U : Nat → Int32} {S : gx_S} {T : gx_S} {c : Nat} (hk33 : ∀ (x47 : Int32) (S7 : gx_S) (T7 : gx_S) (c7 : Nat), c7 ≤ 3000 → k33 (x47, S7, T7, c7) = some () → gx_G Γ (84 + c7) (962 + 45 * c7) 33 [.ref b0, .ref (a 0), .ref (ρ 0), .ref (ρ 1), .int x47, .null, .null, .null, .null, .null, .null, .null] [] (wX a ι S7 ++ wR ρ ι T7)) (hk314 : ∀ (x67 : Int32) (x77 : Int32) (S7 : gx_S) (T7 : gx_S) (c7 : Nat), c7 ≤ 3000 → k314 (x67, x77, S7, T7, c7) = some () → gx_G Γ (84 + c7) (962 + 45 * c7) 314 [.ref b0, .ref (a 0), .ref (ρ 0), .ref (ρ 1), .int x4, .null, .int x67, .int x77, .null, .null, .null, .null] [] (wX a ι S7 ++ wR ρ ι T7)) (hc : c ≤ 3000) (h : ml_370 xs L k33 k314 x4 x7 x9 s0 U S T c = some ()) : gx_G Γ (84 + c) (962 + 45 * c) 370 [.ref b0, .ref (a 0), .ref (ρ 0), .ref (ρ 1), .int x4, .null, .null, .int x7, .ref t0, .int x9, .null, .null] [.int s0] (wX a ι S ++ (wR ρ ι T ++ wN ι t0 U)) := by
  obtain ⟨F, hnL⟩ := F
  have ht0 : (gx_ty Γ)[0]? = some (ι 0, .int) := by rw [hx.2]; rfl
  have hroom0 : ∀ c2 : Nat, c2 ≤ 3000 → 84 + c2 ≤ 600000 ∧ 962 + 45 * c2 ≤ 7302250 := fun c2 h => ⟨by omega, by omega⟩
  have hroom : ∀ c2 : Nat, c2 ≤ 3000 → 84 + c2 ≤ (gx_R Γ).cells ∧ 962 + 45 * c2 ≤ (gx_R Γ).slots := fun c2 h => by
    rw [F.2.2.2.2.1]
    exact hroom0 c2 h
  have hb := hroom _ hc
  unfold ml_370 at h
  refine gx_istore C dL_law_370 (by rw [hnL]; decide) trivial ?_
  refine gx_aload_1 C dL_law_372 rfl ?_
  refine gx_iload C dL_law_373 rfl ?_
  obtain ⟨v2, e1, h⟩ := gi_cp h
  refine gc_IVf C (c_ShopsAsOne_profit (gx_l Γ) (gx_D Γ) hx a _ _ e1) (gx_cw C gx_uu lk_L_85 (by decide) (by decide)) (cls_X7 hx).1 (gs_recv (q := 0) lt_X_ShopsAsOne (oc_X_ShopsAsOne a ι _)) rfl rfl (Nat.le_of_ble_eq_true rfl) hb dL_law_375 ?_
  refine gx_aload_2 C dL_law_378 rfl ?_
  refine gx_aload_3 C dL_law_379 rfl ?_
  refine gx_iload C dL_law_380 rfl ?_
  obtain ⟨v4, e3, h⟩ := gi_cp h
  refine gy_IS C (cr_profit (gx_l Γ) (gx_D Γ) hx ρ _ _ e3) (gx_cwS C gx_uu lk_L_51 (by decide) (by decide)) rfl rfl (Nat.le_of_ble_eq_true rfl) hb dL_law_382 py_Rt py_Rt.symm ?_
  refine gx_icmp_ne (tgt := 399) C dL_law_385 (by decide) (fun hc9 => ?_) (fun hc9 => ?_)
  · have h := gi_f hc9 h
    refine gx_iconst0 C dL_law_399 ?_
    cases h
  · have h := gi_t hc9 h
    refine gx_aload_1 C dL_law_388 rfl ?_
    refine gx_iload C dL_law_389 rfl ?_
    obtain ⟨v6, S7, e5, h⟩ := gi_cs h
    refine gc_IVf C (c_ShopsAsOne_gain (gx_l Γ) (gx_D Γ) hx a _ _ e5) (gx_cw C gx_uu lk_L_87 (by decide) (by decide)) (cls_X7 hx).1 (gs_recv (q := 0) lt_X_ShopsAsOne (oc_X_ShopsAsOne a ι _)) rfl rfl (Nat.le_of_ble_eq_true rfl) hb dL_law_391 ?_
    refine gx_iload C dL_law_394 rfl ?_
    refine gx_icmp_eq (tgt := 401) C dL_law_396 (by decide) (fun hc8 => ?_) (fun hc8 => ?_)
    · have h := gi_t hc8 h
      refine gx_iconst0 C dL_law_401 ?_
      refine gx_istore C dL_law_402 (by rw [hnL]; decide) trivial ?_
      refine gx_weak (gx_le_k rfl (gx_le_k rfl (gx_le_k rfl (gx_le_k rfl (gx_le_k rfl (gx_le_n (gx_le_k rfl (gx_le_k rfl (gx_le_k rfl (gx_le_n (gx_le_k rfl (gx_le_n gx_le_0)))))))))))) (gi_loop (P := fun t => t.2.2.2 ≤ 3000 → gx_G Γ (84 + t.2.2.2) (962 + 45 * t.2.2.2) 404 [.ref b0, .ref (a 0), .ref (ρ 0), .ref (ρ 1), .int x4, .null, .int s0, .int x7, .ref t0, .null, .int t.1, .null] [] (wX a ι t.2.1 ++ (wR ρ ι t.2.2.1 ++ wN ι t0 U))) (fun kk t hk h => ?_) 5000 _ h hc)
      obtain ⟨x109, S9, T9, c9⟩ := t
      intro hc9
      exact bl_404 hx C ⟨F, hnL⟩ X hk33 hk314 (k404 := kk) (fun x108 S8 T8 c8 hc8 h => hk (x108, S8, T8, c8) h hc8) hc9 h
    · have h := gi_f hc8 h
      refine gx_iconst0 C dL_law_399 ?_
      cases h
def ml_611 (xs : Nat → Int32) (L : Nat) (k33 : Int32 × gx_S × gx_S × Nat → Option (Unit)) (x4 : Int32) (S : gx_S) (T : gx_S) (c : Nat) : Option (Unit) := k33 ((x4 + 1), S, T, c)
set_option maxRecDepth 20000 in
set_option maxHeartbeats 4000000 in
theorem bl_611 {Γ : gx_T} {ι : Nat → ClassId} {a : Nat → Nat} {ρ : Nat → Nat} {b0 L : Nat} {xs : Nat → Int32} (hx : gx_std vwCl (gty ι) (gx_cl Γ) (gx_ty Γ)) (C : gx_ok Γ code RL gx_U 40) (F : gl_fin Γ b0 ∧ gx_nL Γ = 12) (X : gx_scr Γ b0 L xs) {k33 : Int32 × gx_S × gx_S × Nat → Option (Unit)} {x4 : Int32} {S : gx_S} {T : gx_S} {c : Nat} (hk33 : ∀ (x47 : Int32) (S7 : gx_S) (T7 : gx_S) (c7 : Nat), c7 ≤ 3000 → k33 (x47, S7, T7, c7) = some () → gx_G Γ (84 + c7) (962 + 45 * c7) 33 [.ref b0, .ref (a 0), .ref (ρ 0), .ref (ρ 1), .int x47, .null, .null, .null, .null, .null, .null, .null] [] (wX a ι S7 ++ wR ρ ι T7)) (hc : c ≤ 3000) (h : ml_611 xs L k33 x4 S T c = some ()) : gx_G Γ (84 + c) (962 + 45 * c) 611 [.ref b0, .ref (a 0), .ref (ρ 0), .ref (ρ 1), .int x4, .null, .null, .null, .null, .null, .null, .null] [] (wX a ι S ++ wR ρ ι T) := by
  obtain ⟨F, hnL⟩ := F
  have ht0 : (gx_ty Γ)[0]? = some (ι 0, .int) := by rw [hx.2]; rfl
  have hroom0 : ∀ c2 : Nat, c2 ≤ 3000 → 84 + c2 ≤ 600000 ∧ 962 + 45 * c2 ≤ 7302250 := fun c2 h => ⟨by omega, by omega⟩
  have hroom : ∀ c2 : Nat, c2 ≤ 3000 → 84 + c2 ≤ (gx_R Γ).cells ∧ 962 + 45 * c2 ≤ (gx_R Γ).slots := fun c2 h => by
    rw [F.2.2.2.2.1]
    exact hroom0 c2 h
  have hb := hroom _ hc
  unfold ml_611 at h
  refine gx_iinc1 C dL_law_611 rfl (by rw [hnL]; decide) trivial ?_
  refine gx_goto (tgt := 33) C dL_law_614 (by decide) ?_
  exact gx_weak (gx_le_k rfl (gx_le_k rfl (gx_le_k rfl (gx_le_k rfl (gx_le_k rfl (gx_le_n (gx_le_n (gx_le_n (gx_le_n (gx_le_n (gx_le_n (gx_le_n gx_le_0)))))))))))) (hk33 _ _ _ _ hc h)
def ml_593 (xs : Nat → Int32) (L : Nat) (k33 : Int32 × gx_S × gx_S × Nat → Option (Unit)) (x4 : Int32) (x8 : Int32) (S : gx_S) (T : gx_S) (c : Nat) : Option (Unit) := gx_cs (m_ShopsAsOne_turn x8 S) fun v2 S3 => gy_lim 3000 (c + 2) (gx_cs (r_turn x8 T) fun v5 T8 => if v2 = v5 then ml_611 xs L k33 x4 S3 T8 (c + 2) else none)
set_option maxRecDepth 20000 in
set_option maxHeartbeats 4000000 in
theorem bl_593 {Γ : gx_T} {ι : Nat → ClassId} {a : Nat → Nat} {ρ : Nat → Nat} {b0 L : Nat} {xs : Nat → Int32} (hx : gx_std vwCl (gty ι) (gx_cl Γ) (gx_ty Γ)) (C : gx_ok Γ code RL gx_U 40) (F : gl_fin Γ b0 ∧ gx_nL Γ = 12) (X : gx_scr Γ b0 L xs) {k33 : Int32 × gx_S × gx_S × Nat → Option (Unit)} {x4 : Int32} {x8 : Int32} {S : gx_S} {T : gx_S} {c : Nat} (hk33 : ∀ (x47 : Int32) (S7 : gx_S) (T7 : gx_S) (c7 : Nat), c7 ≤ 3000 → k33 (x47, S7, T7, c7) = some () → gx_G Γ (84 + c7) (962 + 45 * c7) 33 [.ref b0, .ref (a 0), .ref (ρ 0), .ref (ρ 1), .int x47, .null, .null, .null, .null, .null, .null, .null] [] (wX a ι S7 ++ wR ρ ι T7)) (hc : c ≤ 3000) (h : ml_593 xs L k33 x4 x8 S T c = some ()) : gx_G Γ (84 + c) (962 + 45 * c) 593 [.ref b0, .ref (a 0), .ref (ρ 0), .ref (ρ 1), .int x4, .null, .null, .null, .int x8, .null, .null, .null] [] (wX a ι S ++ wR ρ ι T) := by
  obtain ⟨F, hnL⟩ := F
  have ht0 : (gx_ty Γ)[0]? = some (ι 0, .int) := by rw [hx.2]; rfl
  have hroom0 : ∀ c2 : Nat, c2 ≤ 3000 → 84 + c2 ≤ 600000 ∧ 962 + 45 * c2 ≤ 7302250 := fun c2 h => ⟨by omega, by omega⟩
  have hroom : ∀ c2 : Nat, c2 ≤ 3000 → 84 + c2 ≤ (gx_R Γ).cells ∧ 962 + 45 * c2 ≤ (gx_R Γ).slots := fun c2 h => by
    rw [F.2.2.2.2.1]
    exact hroom0 c2 h
  have hb := hroom _ hc
  unfold ml_593 at h
  refine gx_aload_1 C dL_law_593 rfl ?_
  refine gx_iload C dL_law_594 rfl ?_
  obtain ⟨v2, S3, e1, h⟩ := gi_cs h
  refine gc_IVf C (c_ShopsAsOne_turn (gx_l Γ) (gx_D Γ) hx a _ _ e1) (gx_cw C gx_uu lk_L_100 (by decide) (by decide)) (cls_X7 hx).1 (gs_recv (q := 0) lt_X_ShopsAsOne (oc_X_ShopsAsOne a ι _)) rfl rfl (Nat.le_of_ble_eq_true rfl) hb dL_law_596 ?_
  refine gx_aload_2 C dL_law_599 rfl ?_
  refine gx_aload_3 C dL_law_600 rfl ?_
  refine gx_iload C dL_law_601 rfl ?_
  obtain ⟨hl6, h⟩ := gi_lim h
  have hb7 := hroom _ hl6
  obtain ⟨v5, T8, e4, h⟩ := gi_cs h
  refine gy_callS C (cr_turn (gx_l Γ) (gx_D Γ) hx ρ _ _ e4) trivial gx_uu lk_L_54 (by decide) (by decide) rfl rfl (Nat.le_of_ble_eq_true rfl) ⟨Nat.le_trans (by omega) hb7.1, Nat.le_trans (by omega) hb7.2⟩ dL_law_603 py_R py_R.symm ?_
  refine gx_widen (k' := 84 + (c + 2)) (n' := 962 + 45 * (c + 2)) (by omega) (by omega) ?_
  refine gx_icmp_eq (tgt := 611) C dL_law_606 (by decide) (fun hc9 => ?_) (fun hc9 => ?_)
  · have h := gi_t hc9 h
    exact gx_weak (gx_le_k rfl (gx_le_k rfl (gx_le_k rfl (gx_le_k rfl (gx_le_k rfl (gx_le_n (gx_le_n (gx_le_n (gx_le_n (gx_le_n (gx_le_n (gx_le_n gx_le_0)))))))))))) (bl_611 hx C ⟨F, hnL⟩ X hk33 hl6 h)
  · have h := gi_f hc9 h
    refine gx_iconst0 C dL_law_609 ?_
    cases h
def ml_314 (xs : Nat → Int32) (L : Nat) (k33 : Int32 × gx_S × gx_S × Nat → Option (Unit)) (x4 : Int32) (t : Int32 × Int32 × gx_S × gx_S × Nat) (k314 : Int32 × Int32 × gx_S × gx_S × Nat → Option (Unit)) : Option (Unit) := match t with
  | (x6, x7, S, T, c) => if x7 < 0 then gx_cs (m_ShopsAsOne_otherwise S) fun v2 S3 => if v2 = x6 then gx_cp (r_cell xs L ((18 : Int32) + x4)) fun v5 => gx_ck 45 (0 : Int32) (gx_nz (T 0 (0 : Int32).toNatClampNeg) (if ((v5 / 8) - (v5 / 8) / 3 * 3) = 0 then gx_ck 45 (1 : Int32) (if (T 0 (1 : Int32).toNatClampNeg) ≤ 0 then ml_593 xs L k33 x4 (v5 - v5 / (T 0 (0 : Int32).toNatClampNeg) * (T 0 (0 : Int32).toNatClampNeg)) S3 T c else gx_nz (T 0 (1 : Int32).toNatClampNeg) (gx_cs (m_ShopsAsOne_price ((v5 / 32) - (v5 / 32) / (T 0 (1 : Int32).toNatClampNeg) * (T 0 (1 : Int32).toNatClampNeg)) ((v5 / 256) - (v5 / 256) / 10 * 10) S3) fun v11 S12 => gx_ck 45 ((27 : Int32) + ((v5 / 32) - (v5 / 32) / (T 0 (1 : Int32).toNatClampNeg) * (T 0 (1 : Int32).toNatClampNeg))) (if v11 = (T 0 ((27 : Int32) + ((v5 / 32) - (v5 / 32) / (T 0 (1 : Int32).toNatClampNeg) * (T 0 (1 : Int32).toNatClampNeg))).toNatClampNeg) then gx_let (gx_st T 0 ((27 : Int32) + ((v5 / 32) - (v5 / 32) / (T 0 (1 : Int32).toNatClampNeg) * (T 0 (1 : Int32).toNatClampNeg))).toNatClampNeg ((v5 / 256) - (v5 / 256) / 10 * 10)) fun T14 => ml_611 xs L k33 x4 S12 T14 c else none))) else ml_593 xs L k33 x4 (v5 - v5 / (T 0 (0 : Int32).toNatClampNeg) * (T 0 (0 : Int32).toNatClampNeg)) S3 T c)) else none else gy_lim 3000 (c + 1) (gx_cp (r_copy (gy_Tc T (fun _ => 0))) fun T25 => gy_lim 3000 (c + 1 + 2) (gx_cs (r_turn x7 (gy_Tt (gy_T0 T (T25 0)) (T25 1))) fun v27 T30 => gx_cp (r_profit x7 (gy_Tt (gy_T1 (gy_T0 T (T25 0)) T30) (T30 0))) fun v32 => gx_cp (r_profit x7 (gy_T1 (gy_T0 T (T25 0)) T30)) fun v34 => if (v32 - v34) ≤ 0 then ml_370 xs L k33 k314 x4 x7 (v32 - v34) x6 (T30 0) S (gy_T1 (gy_T0 T (T25 0)) T30) (c + 1 + 2) else ml_370 xs L k33 k314 x4 x7 (v32 - v34) x7 (T30 0) S (gy_T1 (gy_T0 T (T25 0)) T30) (c + 1 + 2)))
set_option maxRecDepth 20000 in
set_option maxHeartbeats 4000000 in
theorem bl_314 {Γ : gx_T} {ι : Nat → ClassId} {a : Nat → Nat} {ρ : Nat → Nat} {b0 L : Nat} {xs : Nat → Int32} (hx : gx_std vwCl (gty ι) (gx_cl Γ) (gx_ty Γ)) (C : gx_ok Γ code RL gx_U 40) (F : gl_fin Γ b0 ∧ gx_nL Γ = 12) (X : gx_scr Γ b0 L xs) {k33 : Int32 × gx_S × gx_S × Nat → Option (Unit)} {k314 : Int32 × Int32 × gx_S × gx_S × Nat → Option (Unit)} {x4 : Int32} {x6 : Int32} {x7 : Int32} {S : gx_S} {T : gx_S} {c : Nat} (hk33 : ∀ (x47 : Int32) (S7 : gx_S) (T7 : gx_S) (c7 : Nat), c7 ≤ 3000 → k33 (x47, S7, T7, c7) = some () → gx_G Γ (84 + c7) (962 + 45 * c7) 33 [.ref b0, .ref (a 0), .ref (ρ 0), .ref (ρ 1), .int x47, .null, .null, .null, .null, .null, .null, .null] [] (wX a ι S7 ++ wR ρ ι T7)) (hk314 : ∀ (x67 : Int32) (x77 : Int32) (S7 : gx_S) (T7 : gx_S) (c7 : Nat), c7 ≤ 3000 → k314 (x67, x77, S7, T7, c7) = some () → gx_G Γ (84 + c7) (962 + 45 * c7) 314 [.ref b0, .ref (a 0), .ref (ρ 0), .ref (ρ 1), .int x4, .null, .int x67, .int x77, .null, .null, .null, .null] [] (wX a ι S7 ++ wR ρ ι T7)) (hc : c ≤ 3000) (h : ml_314 xs L k33 x4 (x6, x7, S, T, c) k314 = some ()) : gx_G Γ (84 + c) (962 + 45 * c) 314 [.ref b0, .ref (a 0), .ref (ρ 0), .ref (ρ 1), .int x4, .null, .int x6, .int x7, .null, .null, .null, .null] [] (wX a ι S ++ wR ρ ι T) := by
  obtain ⟨F, hnL⟩ := F
  have ht0 : (gx_ty Γ)[0]? = some (ι 0, .int) := by rw [hx.2]; rfl
  have hroom0 : ∀ c2 : Nat, c2 ≤ 3000 → 84 + c2 ≤ 600000 ∧ 962 + 45 * c2 ≤ 7302250 := fun c2 h => ⟨by omega, by omega⟩
  have hroom : ∀ c2 : Nat, c2 ≤ 3000 → 84 + c2 ≤ (gx_R Γ).cells ∧ 962 + 45 * c2 ≤ (gx_R Γ).slots := fun c2 h => by
    rw [F.2.2.2.2.1]
    exact hroom0 c2 h
  have hb := hroom _ hc
  unfold ml_314 at h
  dsimp only at h
  refine gx_iload C dL_law_314 rfl ?_
  refine gx_if_lt (tgt := 493) C dL_law_316 (by decide) (fun hc36 => ?_) (fun hc36 => ?_)
  · have h := gi_t hc36 h
    refine gx_aload_1 C dL_law_493 rfl ?_
    obtain ⟨v2, S3, e1, h⟩ := gi_cs h
    refine gc_IVf C (c_ShopsAsOne_otherwise (gx_l Γ) (gx_D Γ) hx a _ e1) (gx_cw C gx_uu lk_L_93 (by decide) (by decide)) (cls_X7 hx).1 (gs_recv (q := 0) lt_X_ShopsAsOne (oc_X_ShopsAsOne a ι _)) rfl rfl (Nat.le_of_ble_eq_true rfl) hb dL_law_494 ?_
    refine gx_iload C dL_law_497 rfl ?_
    refine gx_icmp_eq (tgt := 504) C dL_law_499 (by decide) (fun hc19 => ?_) (fun hc19 => ?_)
    · have h := gi_t hc19 h
      refine gx_aload_0 C dL_law_504 rfl ?_
      refine gx_bipush (v := 18) C dL_law_505 (by decide) ?_
      refine gx_iload C dL_law_507 rfl ?_
      refine gx_iadd C dL_law_509 ?_
      obtain ⟨v5, e4, h⟩ := gi_cp h
      refine gy_callS (w := []) (w2 := (wX a ι S3 ++ wR ρ ι T)) (ws1 := (wX a ι S3 ++ wR ρ ι T)) C (cr_cell (gx_l Γ) (gx_D Γ) hx _ e4) X gx_uu lk_L_14 (by decide) (by decide) rfl rfl (Nat.le_of_ble_eq_true rfl) hb dL_law_510 (List.Perm.refl _) (List.Perm.refl _) ?_
      refine gx_istore C dL_law_513 (by rw [hnL]; decide) trivial ?_
      refine gx_iload C dL_law_515 rfl ?_
      refine gx_aload_2 C dL_law_517 rfl ?_
      refine gx_iconst0 C dL_law_518 ?_
      obtain ⟨hi6, h⟩ := gi_ck h
      refine gy_iald C my_0 ht0 hi6 dL_law_519 ?_
      obtain ⟨hz7, h⟩ := gi_nz h
      refine gx_irem C dL_law_520 hz7 ?_
      refine gx_istore C dL_law_521 (by rw [hnL]; decide) trivial ?_
      refine gx_iload C dL_law_523 rfl ?_
      refine gx_bipush (v := 8) C dL_law_525 (by decide) ?_
      refine gx_idiv C dL_law_527 (by decide) ?_
      refine gx_iconst3 C dL_law_528 ?_
      refine gx_irem C dL_law_529 (by decide) ?_
      refine gx_if_ne (tgt := 593) C dL_law_530 (by decide) (fun hc18 => ?_) (fun hc18 => ?_)
      · have h := gi_f hc18 h
        exact gx_weak (gx_le_k rfl (gx_le_k rfl (gx_le_k rfl (gx_le_k rfl (gx_le_k rfl (gx_le_n (gx_le_n (gx_le_n (gx_le_k rfl (gx_le_n (gx_le_n (gx_le_n gx_le_0)))))))))))) (bl_593 hx C ⟨F, hnL⟩ X hk33 hc h)
      · have h := gi_t hc18 h
        refine gx_aload_2 C dL_law_533 rfl ?_
        refine gx_iconst1 C dL_law_534 ?_
        obtain ⟨hi8, h⟩ := gi_ck h
        refine gy_iald C my_0 ht0 hi8 dL_law_535 ?_
        refine gx_if_le (tgt := 593) C dL_law_536 (by decide) (fun hc17 => ?_) (fun hc17 => ?_)
        · have h := gi_t hc17 h
          exact gx_weak (gx_le_k rfl (gx_le_k rfl (gx_le_k rfl (gx_le_k rfl (gx_le_k rfl (gx_le_n (gx_le_n (gx_le_n (gx_le_k rfl (gx_le_n (gx_le_n (gx_le_n gx_le_0)))))))))))) (bl_593 hx C ⟨F, hnL⟩ X hk33 hc h)
        · have h := gi_f hc17 h
          refine gx_iload C dL_law_539 rfl ?_
          refine gx_bipush (v := 32) C dL_law_541 (by decide) ?_
          refine gx_idiv C dL_law_543 (by decide) ?_
          refine gx_aload_2 C dL_law_544 rfl ?_
          refine gx_iconst1 C dL_law_545 ?_
          refine gy_iald C my_0 ht0 hi8 dL_law_546 ?_
          obtain ⟨hz9, h⟩ := gi_nz h
          refine gx_irem C dL_law_547 hz9 ?_
          refine gx_istore C dL_law_548 (by rw [hnL]; decide) trivial ?_
          refine gx_iload C dL_law_550 rfl ?_
          refine gx_sipush (v := 256) C dL_law_552 (by decide) ?_
          refine gx_idiv C dL_law_555 (by decide) ?_
          refine gx_bipush (v := 10) C dL_law_556 (by decide) ?_
          refine gx_irem C dL_law_558 (by decide) ?_
          refine gx_istore C dL_law_559 (by rw [hnL]; decide) trivial ?_
          refine gx_Veq (V' := [.ref b0, .ref (a 0), .ref (ρ 0), .ref (ρ 1), .int x4, .null, .int x6, .int v5, .int (v5 - v5 / (T 0 (0 : Int32).toNatClampNeg) * (T 0 (0 : Int32).toNatClampNeg)), .int ((v5 / 32) - (v5 / 32) / (T 0 (1 : Int32).toNatClampNeg) * (T 0 (1 : Int32).toNatClampNeg)), .int ((v5 / 256) - (v5 / 256) / 10 * 10), .null]) rfl ?_
          refine gx_aload_1 C dL_law_561 rfl ?_
          refine gx_iload C dL_law_562 rfl ?_
          refine gx_iload C dL_law_564 rfl ?_
          obtain ⟨v11, S12, e10, h⟩ := gi_cs h
          refine gc_IVf C (c_ShopsAsOne_price (gx_l Γ) (gx_D Γ) hx a _ _ _ e10) (gx_cw C gx_uu lk_L_97 (by decide) (by decide)) (cls_X7 hx).1 (gs_recv (q := 0) lt_X_ShopsAsOne (oc_X_ShopsAsOne a ι _)) rfl rfl (Nat.le_of_ble_eq_true rfl) hb dL_law_566 ?_
          refine gx_aload_2 C dL_law_569 rfl ?_
          refine gx_bipush (v := 27) C dL_law_570 (by decide) ?_
          refine gx_iload C dL_law_572 rfl ?_
          refine gx_iadd C dL_law_574 ?_
          obtain ⟨hi13, h⟩ := gi_ck h
          refine gy_iald C my_0 ht0 hi13 dL_law_575 ?_
          refine gx_icmp_eq (tgt := 581) C dL_law_576 (by decide) (fun hc16 => ?_) (fun hc16 => ?_)
          · have h := gi_t hc16 h
            refine gx_aload_2 C dL_law_581 rfl ?_
            refine gx_bipush (v := 27) C dL_law_582 (by decide) ?_
            refine gx_iload C dL_law_584 rfl ?_
            refine gx_iadd C dL_law_586 ?_
            refine gx_iload C dL_law_587 rfl ?_
            obtain ⟨T14, e15, h⟩ := gi_let h
            refine gy_iast C py_s0 ht0 hi13 dL_law_589 py_u0 ?_
            rw [← e15]
            refine gx_goto (tgt := 611) C dL_law_590 (by decide) ?_
            exact gx_weak (gx_le_k rfl (gx_le_k rfl (gx_le_k rfl (gx_le_k rfl (gx_le_k rfl (gx_le_n (gx_le_n (gx_le_n (gx_le_n (gx_le_n (gx_le_n (gx_le_n gx_le_0)))))))))))) (bl_611 hx C ⟨F, hnL⟩ X hk33 hc h)
          · have h := gi_f hc16 h
            refine gx_iconst0 C dL_law_579 ?_
            cases h
    · have h := gi_f hc19 h
      refine gx_iconst0 C dL_law_502 ?_
      cases h
  · have h := gi_f hc36 h
    refine gx_bipush (v := 45) C dL_law_319 (by decide) ?_
    obtain ⟨hl20, h⟩ := gi_lim h
    have hb21 := hroom _ hl20
    refine gy_newa (N := 45) C (gx_mu (gx_t_1 (List.mem_of_getElem? (i := 91) rfl)) rfl) ht0 (by decide) rfl (by decide) (Nat.le_trans (by omega) hb21.1) (Nat.le_trans (by omega) hb21.2) dL_law_321 (fun q22 => ?_)
    refine gx_widen (k' := 84 + (c + 1)) (n' := 962 + 45 * (c + 1)) (by omega) (by omega) ?_
    refine gx_world (ws' := (wX a ι S ++ (wR ρ ι T ++ wN ι q22 (fun _ => 0)))) (List.append_assoc _ _ _) ?_
    refine gx_astore C dL_law_323 (by rw [hnL]; decide) trivial ?_
    refine gx_Veq (V' := [.ref b0, .ref (a 0), .ref (ρ 0), .ref (ρ 1), .int x4, .null, .int x6, .int x7, .ref q22, .null, .null, .null]) rfl ?_
    refine gx_aload_2 C dL_law_325 rfl ?_
    refine gx_aload C dL_law_326 rfl ?_
    obtain ⟨T25, e23, h⟩ := gi_cp h
    refine gy_VS C (cr_copy (gx_l Γ) (gx_D Γ) hx (gy_rc ρ q22) _ e23) (gx_cwS C gx_uu lk_L_81 (by decide) (by decide)) rfl rfl (Nat.le_of_ble_eq_true rfl) hb21 dL_law_328 py_c py_c1 ?_
    refine gx_aload C dL_law_331 rfl ?_
    refine gx_aload_3 C dL_law_333 rfl ?_
    refine gx_iload C dL_law_334 rfl ?_
    obtain ⟨hl28, h⟩ := gi_lim h
    have hb29 := hroom _ hl28
    obtain ⟨v27, T30, e26, h⟩ := gi_cs h
    refine gy_callS C (cr_turn (gx_l Γ) (gx_D Γ) hx (gy_rt ρ q22) _ _ e26) trivial gx_uu lk_L_54 (by decide) (by decide) rfl rfl (Nat.le_of_ble_eq_true rfl) ⟨Nat.le_trans (by omega) hb29.1, Nat.le_trans (by omega) hb29.2⟩ dL_law_336 py_t py_t1 ?_
    refine gx_widen (k' := 84 + (c + 1 + 2)) (n' := 962 + 45 * (c + 1 + 2)) (by omega) (by omega) ?_
    refine gx_pop C dL_law_339 rfl ?_
    refine gx_aload C dL_law_340 rfl ?_
    refine gx_aload_3 C dL_law_342 rfl ?_
    refine gx_iload C dL_law_343 rfl ?_
    obtain ⟨v32, e31, h⟩ := gi_cp h
    refine gy_IS C (cr_profit (gx_l Γ) (gx_D Γ) hx (gy_rt ρ q22) _ _ e31) (gx_cwS C gx_uu lk_L_51 (by decide) (by decide)) rfl rfl (Nat.le_of_ble_eq_true rfl) hb29 dL_law_345 py_t py_t.symm ?_
    refine gx_aload_2 C dL_law_348 rfl ?_
    refine gx_aload_3 C dL_law_349 rfl ?_
    refine gx_iload C dL_law_350 rfl ?_
    obtain ⟨v34, e33, h⟩ := gi_cp h
    refine gy_IS C (cr_profit (gx_l Γ) (gx_D Γ) hx ρ _ _ e33) (gx_cwS C gx_uu lk_L_51 (by decide) (by decide)) rfl rfl (Nat.le_of_ble_eq_true rfl) hb29 dL_law_352 py_Rt py_Rt.symm ?_
    refine gx_isub C dL_law_355 ?_
    refine gx_istore C dL_law_356 (by rw [hnL]; decide) trivial ?_
    refine gx_iload C dL_law_358 rfl ?_
    refine gx_if_le (tgt := 368) C dL_law_360 (by decide) (fun hc35 => ?_) (fun hc35 => ?_)
    · have h := gi_t hc35 h
      refine gx_iload C dL_law_368 rfl ?_
      exact gx_weak (gx_le_k rfl (gx_le_k rfl (gx_le_k rfl (gx_le_k rfl (gx_le_k rfl (gx_le_n (gx_le_n (gx_le_k rfl (gx_le_k rfl (gx_le_k rfl (gx_le_n (gx_le_n gx_le_0)))))))))))) (bl_370 hx C ⟨F, hnL⟩ X hk33 hk314 hl28 h)
    · have h := gi_f hc35 h
      refine gx_iload C dL_law_363 rfl ?_
      refine gx_goto (tgt := 370) C dL_law_365 (by decide) ?_
      exact gx_weak (gx_le_k rfl (gx_le_k rfl (gx_le_k rfl (gx_le_k rfl (gx_le_k rfl (gx_le_n (gx_le_n (gx_le_k rfl (gx_le_k rfl (gx_le_k rfl (gx_le_n (gx_le_n gx_le_0)))))))))))) (bl_370 hx C ⟨F, hnL⟩ X hk33 hk314 hl28 h)
def ml_184 (xs : Nat → Int32) (L : Nat) (k33 : Int32 × gx_S × gx_S × Nat → Option (Unit)) (x4 : Int32) (x5 : Int32) (t : Int32 × gx_S × gx_S × Nat) (k184 : Int32 × gx_S × gx_S × Nat → Option (Unit)) : Option (Unit) := match t with
  | (x6, S, T, c) => gx_ck 45 (2 : Int32) (if (T 0 (2 : Int32).toNatClampNeg) ≤ x6 then gx_cp (m_ShopsAsOne_count 5 S) fun v3 => if v3 = x5 then gx_ck 45 (0 : Int32) (gx_loop (ml_314 xs L k33 x4) 5000 ((-1), ((T 0 (0 : Int32).toNatClampNeg) - (1 : Int32)), S, T, c)) else none else gx_loop (ml_195 xs L k33 k184 x4 x5 x6) 5000 (0, S, T, c))
set_option maxRecDepth 20000 in
set_option maxHeartbeats 4000000 in
theorem bl_184 {Γ : gx_T} {ι : Nat → ClassId} {a : Nat → Nat} {ρ : Nat → Nat} {b0 L : Nat} {xs : Nat → Int32} (hx : gx_std vwCl (gty ι) (gx_cl Γ) (gx_ty Γ)) (C : gx_ok Γ code RL gx_U 40) (F : gl_fin Γ b0 ∧ gx_nL Γ = 12) (X : gx_scr Γ b0 L xs) {k33 : Int32 × gx_S × gx_S × Nat → Option (Unit)} {k184 : Int32 × gx_S × gx_S × Nat → Option (Unit)} {x4 : Int32} {x5 : Int32} {x6 : Int32} {S : gx_S} {T : gx_S} {c : Nat} (hk33 : ∀ (x47 : Int32) (S7 : gx_S) (T7 : gx_S) (c7 : Nat), c7 ≤ 3000 → k33 (x47, S7, T7, c7) = some () → gx_G Γ (84 + c7) (962 + 45 * c7) 33 [.ref b0, .ref (a 0), .ref (ρ 0), .ref (ρ 1), .int x47, .null, .null, .null, .null, .null, .null, .null] [] (wX a ι S7 ++ wR ρ ι T7)) (hk184 : ∀ (x67 : Int32) (S7 : gx_S) (T7 : gx_S) (c7 : Nat), c7 ≤ 3000 → k184 (x67, S7, T7, c7) = some () → gx_G Γ (84 + c7) (962 + 45 * c7) 184 [.ref b0, .ref (a 0), .ref (ρ 0), .ref (ρ 1), .int x4, .int x5, .int x67, .null, .null, .null, .null, .null] [] (wX a ι S7 ++ wR ρ ι T7)) (hc : c ≤ 3000) (h : ml_184 xs L k33 x4 x5 (x6, S, T, c) k184 = some ()) : gx_G Γ (84 + c) (962 + 45 * c) 184 [.ref b0, .ref (a 0), .ref (ρ 0), .ref (ρ 1), .int x4, .int x5, .int x6, .null, .null, .null, .null, .null] [] (wX a ι S ++ wR ρ ι T) := by
  obtain ⟨F, hnL⟩ := F
  have ht0 : (gx_ty Γ)[0]? = some (ι 0, .int) := by rw [hx.2]; rfl
  have hroom0 : ∀ c2 : Nat, c2 ≤ 3000 → 84 + c2 ≤ 600000 ∧ 962 + 45 * c2 ≤ 7302250 := fun c2 h => ⟨by omega, by omega⟩
  have hroom : ∀ c2 : Nat, c2 ≤ 3000 → 84 + c2 ≤ (gx_R Γ).cells ∧ 962 + 45 * c2 ≤ (gx_R Γ).slots := fun c2 h => by
    rw [F.2.2.2.2.1]
    exact hroom0 c2 h
  have hb := hroom _ hc
  unfold ml_184 at h
  dsimp only at h
  refine gx_iload C dL_law_184 rfl ?_
  refine gx_aload_2 C dL_law_186 rfl ?_
  refine gx_iconst2 C dL_law_187 ?_
  obtain ⟨hi1, h⟩ := gi_ck h
  refine gy_iald C my_0 ht0 hi1 dL_law_188 ?_
  refine gx_icmp_ge (tgt := 292) C dL_law_189 (by decide) (fun hc6 => ?_) (fun hc6 => ?_)
  · have h := gi_t hc6 h
    refine gx_aload_1 C dL_law_292 rfl ?_
    refine gx_iconst5 C dL_law_293 ?_
    obtain ⟨v3, e2, h⟩ := gi_cp h
    refine gc_IVf C (c_ShopsAsOne_count (gx_l Γ) (gx_D Γ) hx a _ _ e2) (gx_cw C gx_uu lk_L_78 (by decide) (by decide)) (cls_X7 hx).1 (gs_recv (q := 0) lt_X_ShopsAsOne (oc_X_ShopsAsOne a ι _)) rfl rfl (Nat.le_of_ble_eq_true rfl) hb dL_law_294 ?_
    refine gx_iload C dL_law_297 rfl ?_
    refine gx_icmp_eq (tgt := 304) C dL_law_299 (by decide) (fun hc5 => ?_) (fun hc5 => ?_)
    · have h := gi_t hc5 h
      refine gx_iconstm1 C dL_law_304 ?_
      refine gx_istore C dL_law_305 (by rw [hnL]; decide) trivial ?_
      refine gx_aload_2 C dL_law_307 rfl ?_
      refine gx_iconst0 C dL_law_308 ?_
      obtain ⟨hi4, h⟩ := gi_ck h
      refine gy_iald C my_0 ht0 hi4 dL_law_309 ?_
      refine gx_iconst1 C dL_law_310 ?_
      refine gx_isub C dL_law_311 ?_
      refine gx_istore C dL_law_312 (by rw [hnL]; decide) trivial ?_
      refine gx_weak (gx_le_k rfl (gx_le_k rfl (gx_le_k rfl (gx_le_k rfl (gx_le_k rfl (gx_le_n (gx_le_k rfl (gx_le_k rfl (gx_le_n (gx_le_n (gx_le_n (gx_le_n gx_le_0)))))))))))) (gi_loop (P := fun t => t.2.2.2.2 ≤ 3000 → gx_G Γ (84 + t.2.2.2.2) (962 + 45 * t.2.2.2.2) 314 [.ref b0, .ref (a 0), .ref (ρ 0), .ref (ρ 1), .int x4, .null, .int t.1, .int t.2.1, .null, .null, .null, .null] [] (wX a ι t.2.2.1 ++ wR ρ ι t.2.2.2.1)) (fun kk t hk h => ?_) 5000 _ h hc)
      obtain ⟨x69, x79, S9, T9, c9⟩ := t
      intro hc9
      exact bl_314 hx C ⟨F, hnL⟩ X hk33 (k314 := kk) (fun x68 x78 S8 T8 c8 hc8 h => hk (x68, x78, S8, T8, c8) h hc8) hc9 h
    · have h := gi_f hc5 h
      refine gx_iconst0 C dL_law_302 ?_
      cases h
  · have h := gi_f hc6 h
    refine gx_iconst0 C dL_law_192 ?_
    refine gx_istore C dL_law_193 (by rw [hnL]; decide) trivial ?_
    refine gx_weak (gx_le_k rfl (gx_le_k rfl (gx_le_k rfl (gx_le_k rfl (gx_le_k rfl (gx_le_k rfl (gx_le_k rfl (gx_le_k rfl (gx_le_n (gx_le_n (gx_le_n (gx_le_n gx_le_0)))))))))))) (gi_loop (P := fun t => t.2.2.2 ≤ 3000 → gx_G Γ (84 + t.2.2.2) (962 + 45 * t.2.2.2) 195 [.ref b0, .ref (a 0), .ref (ρ 0), .ref (ρ 1), .int x4, .int x5, .int x6, .int t.1, .null, .null, .null, .null] [] (wX a ι t.2.1 ++ wR ρ ι t.2.2.1)) (fun kk t hk h => ?_) 5000 _ h hc)
    obtain ⟨x79, S9, T9, c9⟩ := t
    intro hc9
    exact bl_195 hx C ⟨F, hnL⟩ X hk33 hk184 (k195 := kk) (fun x78 S8 T8 c8 hc8 h => hk (x78, S8, T8, c8) h hc8) hc9 h
def ml_45 (xs : Nat → Int32) (L : Nat) (k33 : Int32 × gx_S × gx_S × Nat → Option (Unit)) (x4 : Int32) (t : Int32 × Int32 × gx_S × gx_S × Nat) (k45 : Int32 × Int32 × gx_S × gx_S × Nat → Option (Unit)) : Option (Unit) := match t with
  | (x5, x6, S, T, c) => gx_ck 45 (1 : Int32) (if (T 0 (1 : Int32).toNatClampNeg) ≤ x6 then gx_loop (ml_184 xs L k33 x4 x5) 5000 (0, S, T, c) else gx_cp (r_sold x6 T) fun v3 => gx_cp (m_ShopsAsOne_about x6 0 S) fun v5 => gx_ck 45 ((33 : Int32) + x6) (if v5 = (T 0 ((33 : Int32) + x6).toNatClampNeg) then gx_cp (m_ShopsAsOne_about x6 1 S) fun v8 => gx_ck 45 ((15 : Int32) + x6) (if v8 = (T 0 ((15 : Int32) + x6).toNatClampNeg) then gx_cp (m_ShopsAsOne_about x6 2 S) fun v11 => gx_ck 45 ((21 : Int32) + x6) (if v11 = (T 0 ((21 : Int32) + x6).toNatClampNeg) then gx_cp (m_ShopsAsOne_about x6 3 S) fun v14 => gx_ck 45 ((27 : Int32) + x6) (if v14 = (T 0 ((27 : Int32) + x6).toNatClampNeg) then gx_cp (m_ShopsAsOne_about x6 4 S) fun v17 => gx_cp (r_open x6 T) fun v19 => if v19 = 0 then ml_158 xs L k33 k45 x4 (x5 + v3) x6 v3 v17 0 S T c else ml_158 xs L k33 k45 x4 (x5 + v3) x6 v3 v17 1 S T c else none) else none) else none) else none))
set_option maxRecDepth 20000 in
set_option maxHeartbeats 4000000 in
theorem bl_45 {Γ : gx_T} {ι : Nat → ClassId} {a : Nat → Nat} {ρ : Nat → Nat} {b0 L : Nat} {xs : Nat → Int32} (hx : gx_std vwCl (gty ι) (gx_cl Γ) (gx_ty Γ)) (C : gx_ok Γ code RL gx_U 40) (F : gl_fin Γ b0 ∧ gx_nL Γ = 12) (X : gx_scr Γ b0 L xs) {k33 : Int32 × gx_S × gx_S × Nat → Option (Unit)} {k45 : Int32 × Int32 × gx_S × gx_S × Nat → Option (Unit)} {x4 : Int32} {x5 : Int32} {x6 : Int32} {S : gx_S} {T : gx_S} {c : Nat} (hk33 : ∀ (x47 : Int32) (S7 : gx_S) (T7 : gx_S) (c7 : Nat), c7 ≤ 3000 → k33 (x47, S7, T7, c7) = some () → gx_G Γ (84 + c7) (962 + 45 * c7) 33 [.ref b0, .ref (a 0), .ref (ρ 0), .ref (ρ 1), .int x47, .null, .null, .null, .null, .null, .null, .null] [] (wX a ι S7 ++ wR ρ ι T7)) (hk45 : ∀ (x57 : Int32) (x67 : Int32) (S7 : gx_S) (T7 : gx_S) (c7 : Nat), c7 ≤ 3000 → k45 (x57, x67, S7, T7, c7) = some () → gx_G Γ (84 + c7) (962 + 45 * c7) 45 [.ref b0, .ref (a 0), .ref (ρ 0), .ref (ρ 1), .int x4, .int x57, .int x67, .null, .null, .null, .null, .null] [] (wX a ι S7 ++ wR ρ ι T7)) (hc : c ≤ 3000) (h : ml_45 xs L k33 x4 (x5, x6, S, T, c) k45 = some ()) : gx_G Γ (84 + c) (962 + 45 * c) 45 [.ref b0, .ref (a 0), .ref (ρ 0), .ref (ρ 1), .int x4, .int x5, .int x6, .null, .null, .null, .null, .null] [] (wX a ι S ++ wR ρ ι T) := by
  obtain ⟨F, hnL⟩ := F
  have ht0 : (gx_ty Γ)[0]? = some (ι 0, .int) := by rw [hx.2]; rfl
  have hroom0 : ∀ c2 : Nat, c2 ≤ 3000 → 84 + c2 ≤ 600000 ∧ 962 + 45 * c2 ≤ 7302250 := fun c2 h => ⟨by omega, by omega⟩
  have hroom : ∀ c2 : Nat, c2 ≤ 3000 → 84 + c2 ≤ (gx_R Γ).cells ∧ 962 + 45 * c2 ≤ (gx_R Γ).slots := fun c2 h => by
    rw [F.2.2.2.2.1]
    exact hroom0 c2 h
  have hb := hroom _ hc
  unfold ml_45 at h
  dsimp only at h
  refine gx_iload C dL_law_45 rfl ?_
  refine gx_aload_2 C dL_law_47 rfl ?_
  refine gx_iconst1 C dL_law_48 ?_
  obtain ⟨hi1, h⟩ := gi_ck h
  refine gy_iald C my_0 ht0 hi1 dL_law_49 ?_
  refine gx_icmp_ge (tgt := 181) C dL_law_50 (by decide) (fun hc25 => ?_) (fun hc25 => ?_)
  · have h := gi_t hc25 h
    refine gx_iconst0 C dL_law_181 ?_
    refine gx_istore C dL_law_182 (by rw [hnL]; decide) trivial ?_
    refine gx_weak (gx_le_k rfl (gx_le_k rfl (gx_le_k rfl (gx_le_k rfl (gx_le_k rfl (gx_le_k rfl (gx_le_k rfl (gx_le_n (gx_le_n (gx_le_n (gx_le_n (gx_le_n gx_le_0)))))))))))) (gi_loop (P := fun t => t.2.2.2 ≤ 3000 → gx_G Γ (84 + t.2.2.2) (962 + 45 * t.2.2.2) 184 [.ref b0, .ref (a 0), .ref (ρ 0), .ref (ρ 1), .int x4, .int x5, .int t.1, .null, .null, .null, .null, .null] [] (wX a ι t.2.1 ++ wR ρ ι t.2.2.1)) (fun kk t hk h => ?_) 5000 _ h hc)
    obtain ⟨x69, S9, T9, c9⟩ := t
    intro hc9
    exact bl_184 hx C ⟨F, hnL⟩ X hk33 (k184 := kk) (fun x68 S8 T8 c8 hc8 h => hk (x68, S8, T8, c8) h hc8) hc9 h
  · have h := gi_f hc25 h
    refine gx_aload_2 C dL_law_53 rfl ?_
    refine gx_aload_3 C dL_law_54 rfl ?_
    refine gx_iload C dL_law_55 rfl ?_
    obtain ⟨v3, e2, h⟩ := gi_cp h
    refine gy_IS C (cr_sold (gx_l Γ) (gx_D Γ) hx ρ _ _ e2) (gx_cwS C gx_uu lk_L_46 (by decide) (by decide)) rfl rfl (Nat.le_of_ble_eq_true rfl) hb dL_law_57 py_R py_R.symm ?_
    refine gx_istore C dL_law_60 (by rw [hnL]; decide) trivial ?_
    refine gx_iload C dL_law_62 rfl ?_
    refine gx_iload C dL_law_64 rfl ?_
    refine gx_iadd C dL_law_66 ?_
    refine gx_istore C dL_law_67 (by rw [hnL]; decide) trivial ?_
    refine gx_aload_1 C dL_law_69 rfl ?_
    refine gx_iload C dL_law_70 rfl ?_
    refine gx_iconst0 C dL_law_72 ?_
    obtain ⟨v5, e4, h⟩ := gi_cp h
    refine gc_IVf C (c_ShopsAsOne_about (gx_l Γ) (gx_D Γ) hx a _ _ _ e4) (gx_cw C gx_uu lk_L_62 (by decide) (by decide)) (cls_X7 hx).1 (gs_recv (q := 0) lt_X_ShopsAsOne (oc_X_ShopsAsOne a ι _)) rfl rfl (Nat.le_of_ble_eq_true rfl) hb dL_law_73 ?_
    refine gx_aload_2 C dL_law_76 rfl ?_
    refine gx_bipush (v := 33) C dL_law_77 (by decide) ?_
    refine gx_iload C dL_law_79 rfl ?_
    refine gx_iadd C dL_law_81 ?_
    obtain ⟨hi6, h⟩ := gi_ck h
    refine gy_iald C my_0 ht0 hi6 dL_law_82 ?_
    refine gx_icmp_ne (tgt := 173) C dL_law_83 (by decide) (fun hc24 => ?_) (fun hc24 => ?_)
    · have h := gi_f hc24 h
      refine gx_iconst0 C dL_law_173 ?_
      cases h
    · have h := gi_t hc24 h
      refine gx_aload_1 C dL_law_86 rfl ?_
      refine gx_iload C dL_law_87 rfl ?_
      refine gx_iconst1 C dL_law_89 ?_
      obtain ⟨v8, e7, h⟩ := gi_cp h
      refine gc_IVf C (c_ShopsAsOne_about (gx_l Γ) (gx_D Γ) hx a _ _ _ e7) (gx_cw C gx_uu lk_L_62 (by decide) (by decide)) (cls_X7 hx).1 (gs_recv (q := 0) lt_X_ShopsAsOne (oc_X_ShopsAsOne a ι _)) rfl rfl (Nat.le_of_ble_eq_true rfl) hb dL_law_90 ?_
      refine gx_aload_2 C dL_law_93 rfl ?_
      refine gx_bipush (v := 15) C dL_law_94 (by decide) ?_
      refine gx_iload C dL_law_96 rfl ?_
      refine gx_iadd C dL_law_98 ?_
      obtain ⟨hi9, h⟩ := gi_ck h
      refine gy_iald C my_0 ht0 hi9 dL_law_99 ?_
      refine gx_icmp_ne (tgt := 173) C dL_law_100 (by decide) (fun hc23 => ?_) (fun hc23 => ?_)
      · have h := gi_f hc23 h
        refine gx_iconst0 C dL_law_173 ?_
        cases h
      · have h := gi_t hc23 h
        refine gx_aload_1 C dL_law_103 rfl ?_
        refine gx_iload C dL_law_104 rfl ?_
        refine gx_iconst2 C dL_law_106 ?_
        obtain ⟨v11, e10, h⟩ := gi_cp h
        refine gc_IVf C (c_ShopsAsOne_about (gx_l Γ) (gx_D Γ) hx a _ _ _ e10) (gx_cw C gx_uu lk_L_62 (by decide) (by decide)) (cls_X7 hx).1 (gs_recv (q := 0) lt_X_ShopsAsOne (oc_X_ShopsAsOne a ι _)) rfl rfl (Nat.le_of_ble_eq_true rfl) hb dL_law_107 ?_
        refine gx_aload_2 C dL_law_110 rfl ?_
        refine gx_bipush (v := 21) C dL_law_111 (by decide) ?_
        refine gx_iload C dL_law_113 rfl ?_
        refine gx_iadd C dL_law_115 ?_
        obtain ⟨hi12, h⟩ := gi_ck h
        refine gy_iald C my_0 ht0 hi12 dL_law_116 ?_
        refine gx_icmp_ne (tgt := 173) C dL_law_117 (by decide) (fun hc22 => ?_) (fun hc22 => ?_)
        · have h := gi_f hc22 h
          refine gx_iconst0 C dL_law_173 ?_
          cases h
        · have h := gi_t hc22 h
          refine gx_aload_1 C dL_law_120 rfl ?_
          refine gx_iload C dL_law_121 rfl ?_
          refine gx_iconst3 C dL_law_123 ?_
          obtain ⟨v14, e13, h⟩ := gi_cp h
          refine gc_IVf C (c_ShopsAsOne_about (gx_l Γ) (gx_D Γ) hx a _ _ _ e13) (gx_cw C gx_uu lk_L_62 (by decide) (by decide)) (cls_X7 hx).1 (gs_recv (q := 0) lt_X_ShopsAsOne (oc_X_ShopsAsOne a ι _)) rfl rfl (Nat.le_of_ble_eq_true rfl) hb dL_law_124 ?_
          refine gx_aload_2 C dL_law_127 rfl ?_
          refine gx_bipush (v := 27) C dL_law_128 (by decide) ?_
          refine gx_iload C dL_law_130 rfl ?_
          refine gx_iadd C dL_law_132 ?_
          obtain ⟨hi15, h⟩ := gi_ck h
          refine gy_iald C my_0 ht0 hi15 dL_law_133 ?_
          refine gx_icmp_ne (tgt := 173) C dL_law_134 (by decide) (fun hc21 => ?_) (fun hc21 => ?_)
          · have h := gi_f hc21 h
            refine gx_iconst0 C dL_law_173 ?_
            cases h
          · have h := gi_t hc21 h
            refine gx_aload_1 C dL_law_137 rfl ?_
            refine gx_iload C dL_law_138 rfl ?_
            refine gx_iconst4 C dL_law_140 ?_
            obtain ⟨v17, e16, h⟩ := gi_cp h
            refine gc_IVf C (c_ShopsAsOne_about (gx_l Γ) (gx_D Γ) hx a _ _ _ e16) (gx_cw C gx_uu lk_L_62 (by decide) (by decide)) (cls_X7 hx).1 (gs_recv (q := 0) lt_X_ShopsAsOne (oc_X_ShopsAsOne a ι _)) rfl rfl (Nat.le_of_ble_eq_true rfl) hb dL_law_141 ?_
            refine gx_aload_2 C dL_law_144 rfl ?_
            refine gx_iload C dL_law_145 rfl ?_
            obtain ⟨v19, e18, h⟩ := gi_cp h
            refine gy_IS C (cr_open (gx_l Γ) (gx_D Γ) hx ρ _ _ e18) (gx_cwS C gx_uu lk_L_35 (by decide) (by decide)) rfl rfl (Nat.le_of_ble_eq_true rfl) hb dL_law_147 py_R py_R.symm ?_
            refine gx_if_eq (tgt := 157) C dL_law_150 (by decide) (fun hc20 => ?_) (fun hc20 => ?_)
            · have h := gi_t hc20 h
              refine gx_iconst0 C dL_law_157 ?_
              exact gx_weak (gx_le_k rfl (gx_le_k rfl (gx_le_k rfl (gx_le_k rfl (gx_le_k rfl (gx_le_k rfl (gx_le_k rfl (gx_le_k rfl (gx_le_n (gx_le_n (gx_le_n (gx_le_n gx_le_0)))))))))))) (bl_158 hx C ⟨F, hnL⟩ X hk33 hk45 hc h)
            · have h := gi_f hc20 h
              refine gx_iconst1 C dL_law_153 ?_
              refine gx_goto (tgt := 158) C dL_law_154 (by decide) ?_
              exact gx_weak (gx_le_k rfl (gx_le_k rfl (gx_le_k rfl (gx_le_k rfl (gx_le_k rfl (gx_le_k rfl (gx_le_k rfl (gx_le_k rfl (gx_le_n (gx_le_n (gx_le_n (gx_le_n gx_le_0)))))))))))) (bl_158 hx C ⟨F, hnL⟩ X hk33 hk45 hc h)
def ml_823 (xs : Nat → Int32) (L : Nat) (k693 : Int32 × gx_S × gx_S × Nat → Option (Unit)) (k759 : Int32 × gx_S × gx_S × Nat → Option (Unit)) (k773 : Int32 × Int32 × gx_S × gx_S × Nat → Option (Unit)) (x6 : Int32) (x7 : Int32) (x9 : Int32) (s0 : Int32) (s1 : Int32) (S : gx_S) (T : gx_S) (c : Nat) : Option (Unit) := k773 ((s0 + s1), (x9 + 1), S, T, c)
set_option maxRecDepth 20000 in
set_option maxHeartbeats 4000000 in
theorem bl_823 {Γ : gx_T} {ι : Nat → ClassId} {a : Nat → Nat} {ρ : Nat → Nat} {b0 L : Nat} {xs : Nat → Int32} (hx : gx_std vwCl (gty ι) (gx_cl Γ) (gx_ty Γ)) (C : gx_ok Γ code RL gx_U 40) (F : gl_fin Γ b0 ∧ gx_nL Γ = 12) (X : gx_scr Γ b0 L xs) {k693 : Int32 × gx_S × gx_S × Nat → Option (Unit)} {k759 : Int32 × gx_S × gx_S × Nat → Option (Unit)} {k773 : Int32 × Int32 × gx_S × gx_S × Nat → Option (Unit)} {x6 : Int32} {x7 : Int32} {x9 : Int32} {s0 : Int32} {s1 : Int32} {S : gx_S} {T : gx_S} {c : Nat} (hk693 : ∀ (x67 : Int32) (S7 : gx_S) (T7 : gx_S) (c7 : Nat), c7 ≤ 3000 → k693 (x67, S7, T7, c7) = some () → gx_G Γ (84 + c7) (962 + 45 * c7) 693 [.ref b0, .ref (a 0), .ref (ρ 0), .ref (ρ 1), .null, .null, .int x67, .null, .null, .null, .null, .null] [] (wX a ι S7 ++ wR ρ ι T7)) (hk759 : ∀ (x77 : Int32) (S7 : gx_S) (T7 : gx_S) (c7 : Nat), c7 ≤ 3000 → k759 (x77, S7, T7, c7) = some () → gx_G Γ (84 + c7) (962 + 45 * c7) 759 [.ref b0, .ref (a 0), .ref (ρ 0), .ref (ρ 1), .null, .null, .int x6, .int x77, .null, .null, .null, .null] [] (wX a ι S7 ++ wR ρ ι T7)) (hk773 : ∀ (x87 : Int32) (x97 : Int32) (S7 : gx_S) (T7 : gx_S) (c7 : Nat), c7 ≤ 3000 → k773 (x87, x97, S7, T7, c7) = some () → gx_G Γ (84 + c7) (962 + 45 * c7) 773 [.ref b0, .ref (a 0), .ref (ρ 0), .ref (ρ 1), .null, .null, .int x6, .int x7, .int x87, .int x97, .null, .null] [] (wX a ι S7 ++ wR ρ ι T7)) (hc : c ≤ 3000) (h : ml_823 xs L k693 k759 k773 x6 x7 x9 s0 s1 S T c = some ()) : gx_G Γ (84 + c) (962 + 45 * c) 823 [.ref b0, .ref (a 0), .ref (ρ 0), .ref (ρ 1), .null, .null, .int x6, .int x7, .null, .int x9, .null, .null] [.int s1, .int s0] (wX a ι S ++ wR ρ ι T) := by
  obtain ⟨F, hnL⟩ := F
  have ht0 : (gx_ty Γ)[0]? = some (ι 0, .int) := by rw [hx.2]; rfl
  have hroom0 : ∀ c2 : Nat, c2 ≤ 3000 → 84 + c2 ≤ 600000 ∧ 962 + 45 * c2 ≤ 7302250 := fun c2 h => ⟨by omega, by omega⟩
  have hroom : ∀ c2 : Nat, c2 ≤ 3000 → 84 + c2 ≤ (gx_R Γ).cells ∧ 962 + 45 * c2 ≤ (gx_R Γ).slots := fun c2 h => by
    rw [F.2.2.2.2.1]
    exact hroom0 c2 h
  have hb := hroom _ hc
  unfold ml_823 at h
  refine gx_iadd C dL_law_823 ?_
  refine gx_istore C dL_law_824 (by rw [hnL]; decide) trivial ?_
  refine gx_iinc1 C dL_law_826 rfl (by rw [hnL]; decide) trivial ?_
  refine gx_goto (tgt := 773) C dL_law_829 (by decide) ?_
  exact gx_weak (gx_le_k rfl (gx_le_k rfl (gx_le_k rfl (gx_le_k rfl (gx_le_n (gx_le_n (gx_le_k rfl (gx_le_k rfl (gx_le_k rfl (gx_le_k rfl (gx_le_n (gx_le_n gx_le_0)))))))))))) (hk773 _ _ _ _ _ hc h)
def ml_822 (xs : Nat → Int32) (L : Nat) (k693 : Int32 × gx_S × gx_S × Nat → Option (Unit)) (k759 : Int32 × gx_S × gx_S × Nat → Option (Unit)) (k773 : Int32 × Int32 × gx_S × gx_S × Nat → Option (Unit)) (x6 : Int32) (x7 : Int32) (x9 : Int32) (s0 : Int32) (S : gx_S) (T : gx_S) (c : Nat) : Option (Unit) := ml_823 xs L k693 k759 k773 x6 x7 x9 s0 0 S T c
set_option maxRecDepth 20000 in
set_option maxHeartbeats 4000000 in
theorem bl_822 {Γ : gx_T} {ι : Nat → ClassId} {a : Nat → Nat} {ρ : Nat → Nat} {b0 L : Nat} {xs : Nat → Int32} (hx : gx_std vwCl (gty ι) (gx_cl Γ) (gx_ty Γ)) (C : gx_ok Γ code RL gx_U 40) (F : gl_fin Γ b0 ∧ gx_nL Γ = 12) (X : gx_scr Γ b0 L xs) {k693 : Int32 × gx_S × gx_S × Nat → Option (Unit)} {k759 : Int32 × gx_S × gx_S × Nat → Option (Unit)} {k773 : Int32 × Int32 × gx_S × gx_S × Nat → Option (Unit)} {x6 : Int32} {x7 : Int32} {x9 : Int32} {s0 : Int32} {S : gx_S} {T : gx_S} {c : Nat} (hk693 : ∀ (x67 : Int32) (S7 : gx_S) (T7 : gx_S) (c7 : Nat), c7 ≤ 3000 → k693 (x67, S7, T7, c7) = some () → gx_G Γ (84 + c7) (962 + 45 * c7) 693 [.ref b0, .ref (a 0), .ref (ρ 0), .ref (ρ 1), .null, .null, .int x67, .null, .null, .null, .null, .null] [] (wX a ι S7 ++ wR ρ ι T7)) (hk759 : ∀ (x77 : Int32) (S7 : gx_S) (T7 : gx_S) (c7 : Nat), c7 ≤ 3000 → k759 (x77, S7, T7, c7) = some () → gx_G Γ (84 + c7) (962 + 45 * c7) 759 [.ref b0, .ref (a 0), .ref (ρ 0), .ref (ρ 1), .null, .null, .int x6, .int x77, .null, .null, .null, .null] [] (wX a ι S7 ++ wR ρ ι T7)) (hk773 : ∀ (x87 : Int32) (x97 : Int32) (S7 : gx_S) (T7 : gx_S) (c7 : Nat), c7 ≤ 3000 → k773 (x87, x97, S7, T7, c7) = some () → gx_G Γ (84 + c7) (962 + 45 * c7) 773 [.ref b0, .ref (a 0), .ref (ρ 0), .ref (ρ 1), .null, .null, .int x6, .int x7, .int x87, .int x97, .null, .null] [] (wX a ι S7 ++ wR ρ ι T7)) (hc : c ≤ 3000) (h : ml_822 xs L k693 k759 k773 x6 x7 x9 s0 S T c = some ()) : gx_G Γ (84 + c) (962 + 45 * c) 822 [.ref b0, .ref (a 0), .ref (ρ 0), .ref (ρ 1), .null, .null, .int x6, .int x7, .null, .int x9, .null, .null] [.int s0] (wX a ι S ++ wR ρ ι T) := by
  obtain ⟨F, hnL⟩ := F
  have ht0 : (gx_ty Γ)[0]? = some (ι 0, .int) := by rw [hx.2]; rfl
  have hroom0 : ∀ c2 : Nat, c2 ≤ 3000 → 84 + c2 ≤ 600000 ∧ 962 + 45 * c2 ≤ 7302250 := fun c2 h => ⟨by omega, by omega⟩
  have hroom : ∀ c2 : Nat, c2 ≤ 3000 → 84 + c2 ≤ (gx_R Γ).cells ∧ 962 + 45 * c2 ≤ (gx_R Γ).slots := fun c2 h => by
    rw [F.2.2.2.2.1]
    exact hroom0 c2 h
  have hb := hroom _ hc
  unfold ml_822 at h
  refine gx_iconst0 C dL_law_822 ?_
  exact gx_weak (gx_le_k rfl (gx_le_k rfl (gx_le_k rfl (gx_le_k rfl (gx_le_n (gx_le_n (gx_le_k rfl (gx_le_k rfl (gx_le_n (gx_le_k rfl (gx_le_n (gx_le_n gx_le_0)))))))))))) (bl_823 hx C ⟨F, hnL⟩ X hk693 hk759 hk773 hc h)
def ml_854 (xs : Nat → Int32) (L : Nat) (k693 : Int32 × gx_S × gx_S × Nat → Option (Unit)) (k759 : Int32 × gx_S × gx_S × Nat → Option (Unit)) (x6 : Int32) (x7 : Int32) (s0 : Int32) (s1 : Int32) (S : gx_S) (T : gx_S) (c : Nat) : Option (Unit) := if s0 = s1 then k759 ((x7 + 1), S, T, c) else none
set_option maxRecDepth 20000 in
set_option maxHeartbeats 4000000 in
theorem bl_854 {Γ : gx_T} {ι : Nat → ClassId} {a : Nat → Nat} {ρ : Nat → Nat} {b0 L : Nat} {xs : Nat → Int32} (hx : gx_std vwCl (gty ι) (gx_cl Γ) (gx_ty Γ)) (C : gx_ok Γ code RL gx_U 40) (F : gl_fin Γ b0 ∧ gx_nL Γ = 12) (X : gx_scr Γ b0 L xs) {k693 : Int32 × gx_S × gx_S × Nat → Option (Unit)} {k759 : Int32 × gx_S × gx_S × Nat → Option (Unit)} {x6 : Int32} {x7 : Int32} {s0 : Int32} {s1 : Int32} {S : gx_S} {T : gx_S} {c : Nat} (hk693 : ∀ (x67 : Int32) (S7 : gx_S) (T7 : gx_S) (c7 : Nat), c7 ≤ 3000 → k693 (x67, S7, T7, c7) = some () → gx_G Γ (84 + c7) (962 + 45 * c7) 693 [.ref b0, .ref (a 0), .ref (ρ 0), .ref (ρ 1), .null, .null, .int x67, .null, .null, .null, .null, .null] [] (wX a ι S7 ++ wR ρ ι T7)) (hk759 : ∀ (x77 : Int32) (S7 : gx_S) (T7 : gx_S) (c7 : Nat), c7 ≤ 3000 → k759 (x77, S7, T7, c7) = some () → gx_G Γ (84 + c7) (962 + 45 * c7) 759 [.ref b0, .ref (a 0), .ref (ρ 0), .ref (ρ 1), .null, .null, .int x6, .int x77, .null, .null, .null, .null] [] (wX a ι S7 ++ wR ρ ι T7)) (hc : c ≤ 3000) (h : ml_854 xs L k693 k759 x6 x7 s0 s1 S T c = some ()) : gx_G Γ (84 + c) (962 + 45 * c) 854 [.ref b0, .ref (a 0), .ref (ρ 0), .ref (ρ 1), .null, .null, .int x6, .int x7, .null, .null, .null, .null] [.int s1, .int s0] (wX a ι S ++ wR ρ ι T) := by
  obtain ⟨F, hnL⟩ := F
  have ht0 : (gx_ty Γ)[0]? = some (ι 0, .int) := by rw [hx.2]; rfl
  have hroom0 : ∀ c2 : Nat, c2 ≤ 3000 → 84 + c2 ≤ 600000 ∧ 962 + 45 * c2 ≤ 7302250 := fun c2 h => ⟨by omega, by omega⟩
  have hroom : ∀ c2 : Nat, c2 ≤ 3000 → 84 + c2 ≤ (gx_R Γ).cells ∧ 962 + 45 * c2 ≤ (gx_R Γ).slots := fun c2 h => by
    rw [F.2.2.2.2.1]
    exact hroom0 c2 h
  have hb := hroom _ hc
  unfold ml_854 at h
  refine gx_icmp_eq (tgt := 859) C dL_law_854 (by decide) (fun hc1 => ?_) (fun hc1 => ?_)
  · have h := gi_t hc1 h
    refine gx_iinc1 C dL_law_859 rfl (by rw [hnL]; decide) trivial ?_
    refine gx_goto (tgt := 759) C dL_law_862 (by decide) ?_
    exact gx_weak (gx_le_k rfl (gx_le_k rfl (gx_le_k rfl (gx_le_k rfl (gx_le_n (gx_le_n (gx_le_k rfl (gx_le_k rfl (gx_le_n (gx_le_n (gx_le_n (gx_le_n gx_le_0)))))))))))) (hk759 _ _ _ _ hc h)
  · have h := gi_f hc1 h
    refine gx_iconst0 C dL_law_857 ?_
    cases h
def ml_773 (xs : Nat → Int32) (L : Nat) (k693 : Int32 × gx_S × gx_S × Nat → Option (Unit)) (k759 : Int32 × gx_S × gx_S × Nat → Option (Unit)) (x6 : Int32) (x7 : Int32) (t : Int32 × Int32 × gx_S × gx_S × Nat) (k773 : Int32 × Int32 × gx_S × gx_S × Nat → Option (Unit)) : Option (Unit) := match t with
  | (x8, x9, S, T, c) => gx_ck 45 (2 : Int32) (if (T 0 (2 : Int32).toNatClampNeg) ≤ x9 then gx_cp (m_ShopsAsOne_from x6 x7 S) fun v3 => if x7 = x6 then ml_854 xs L k693 k759 x6 x7 v3 (-101) S T c else ml_854 xs L k693 k759 x6 x7 v3 x8 S T c else gx_cp (r_goes x9 (-1) T) fun v6 => if v6 = x6 then gx_cp (r_goes x9 x6 T) fun v8 => if v8 = x7 then gx_ck 48 (((6 : Int32) * x9) + (1 : Int32)) (ml_823 xs L k693 k759 k773 x6 x7 x9 x8 (T 1 (((6 : Int32) * x9) + (1 : Int32)).toNatClampNeg) S T c) else ml_822 xs L k693 k759 k773 x6 x7 x9 x8 S T c else ml_822 xs L k693 k759 k773 x6 x7 x9 x8 S T c)
set_option maxRecDepth 20000 in
set_option maxHeartbeats 4000000 in
theorem bl_773 {Γ : gx_T} {ι : Nat → ClassId} {a : Nat → Nat} {ρ : Nat → Nat} {b0 L : Nat} {xs : Nat → Int32} (hx : gx_std vwCl (gty ι) (gx_cl Γ) (gx_ty Γ)) (C : gx_ok Γ code RL gx_U 40) (F : gl_fin Γ b0 ∧ gx_nL Γ = 12) (X : gx_scr Γ b0 L xs) {k693 : Int32 × gx_S × gx_S × Nat → Option (Unit)} {k759 : Int32 × gx_S × gx_S × Nat → Option (Unit)} {k773 : Int32 × Int32 × gx_S × gx_S × Nat → Option (Unit)} {x6 : Int32} {x7 : Int32} {x8 : Int32} {x9 : Int32} {S : gx_S} {T : gx_S} {c : Nat} (hk693 : ∀ (x67 : Int32) (S7 : gx_S) (T7 : gx_S) (c7 : Nat), c7 ≤ 3000 → k693 (x67, S7, T7, c7) = some () → gx_G Γ (84 + c7) (962 + 45 * c7) 693 [.ref b0, .ref (a 0), .ref (ρ 0), .ref (ρ 1), .null, .null, .int x67, .null, .null, .null, .null, .null] [] (wX a ι S7 ++ wR ρ ι T7)) (hk759 : ∀ (x77 : Int32) (S7 : gx_S) (T7 : gx_S) (c7 : Nat), c7 ≤ 3000 → k759 (x77, S7, T7, c7) = some () → gx_G Γ (84 + c7) (962 + 45 * c7) 759 [.ref b0, .ref (a 0), .ref (ρ 0), .ref (ρ 1), .null, .null, .int x6, .int x77, .null, .null, .null, .null] [] (wX a ι S7 ++ wR ρ ι T7)) (hk773 : ∀ (x87 : Int32) (x97 : Int32) (S7 : gx_S) (T7 : gx_S) (c7 : Nat), c7 ≤ 3000 → k773 (x87, x97, S7, T7, c7) = some () → gx_G Γ (84 + c7) (962 + 45 * c7) 773 [.ref b0, .ref (a 0), .ref (ρ 0), .ref (ρ 1), .null, .null, .int x6, .int x7, .int x87, .int x97, .null, .null] [] (wX a ι S7 ++ wR ρ ι T7)) (hc : c ≤ 3000) (h : ml_773 xs L k693 k759 x6 x7 (x8, x9, S, T, c) k773 = some ()) : gx_G Γ (84 + c) (962 + 45 * c) 773 [.ref b0, .ref (a 0), .ref (ρ 0), .ref (ρ 1), .null, .null, .int x6, .int x7, .int x8, .int x9, .null, .null] [] (wX a ι S ++ wR ρ ι T) := by
  obtain ⟨F, hnL⟩ := F
  have ht0 : (gx_ty Γ)[0]? = some (ι 0, .int) := by rw [hx.2]; rfl
  have hroom0 : ∀ c2 : Nat, c2 ≤ 3000 → 84 + c2 ≤ 600000 ∧ 962 + 45 * c2 ≤ 7302250 := fun c2 h => ⟨by omega, by omega⟩
  have hroom : ∀ c2 : Nat, c2 ≤ 3000 → 84 + c2 ≤ (gx_R Γ).cells ∧ 962 + 45 * c2 ≤ (gx_R Γ).slots := fun c2 h => by
    rw [F.2.2.2.2.1]
    exact hroom0 c2 h
  have hb := hroom _ hc
  unfold ml_773 at h
  dsimp only at h
  refine gx_iload C dL_law_773 rfl ?_
  refine gx_aload_2 C dL_law_775 rfl ?_
  refine gx_iconst2 C dL_law_776 ?_
  obtain ⟨hi1, h⟩ := gi_ck h
  refine gy_iald C my_0 ht0 hi1 dL_law_777 ?_
  refine gx_icmp_ge (tgt := 832) C dL_law_778 (by decide) (fun hc12 => ?_) (fun hc12 => ?_)
  · have h := gi_t hc12 h
    refine gx_aload_1 C dL_law_832 rfl ?_
    refine gx_iload C dL_law_833 rfl ?_
    refine gx_iload C dL_law_835 rfl ?_
    obtain ⟨v3, e2, h⟩ := gi_cp h
    refine gc_IVf C (c_ShopsAsOne_from (gx_l Γ) (gx_D Γ) hx a _ _ _ e2) (gx_cw C gx_uu lk_L_108 (by decide) (by decide)) (cls_X7 hx).1 (gs_recv (q := 0) lt_X_ShopsAsOne (oc_X_ShopsAsOne a ι _)) rfl rfl (Nat.le_of_ble_eq_true rfl) hb dL_law_837 ?_
    refine gx_iload C dL_law_840 rfl ?_
    refine gx_iload C dL_law_842 rfl ?_
    refine gx_icmp_ne (tgt := 852) C dL_law_844 (by decide) (fun hc4 => ?_) (fun hc4 => ?_)
    · have h := gi_f hc4 h
      refine gx_iload C dL_law_852 rfl ?_
      exact gx_weak (gx_le_k rfl (gx_le_k rfl (gx_le_k rfl (gx_le_k rfl (gx_le_n (gx_le_n (gx_le_k rfl (gx_le_k rfl (gx_le_n (gx_le_n (gx_le_n (gx_le_n gx_le_0)))))))))))) (bl_854 hx C ⟨F, hnL⟩ X hk693 hk759 hc h)
    · have h := gi_t hc4 h
      refine gx_bipush (v := (-101)) C dL_law_847 (by decide) ?_
      refine gx_goto (tgt := 854) C dL_law_849 (by decide) ?_
      exact gx_weak (gx_le_k rfl (gx_le_k rfl (gx_le_k rfl (gx_le_k rfl (gx_le_n (gx_le_n (gx_le_k rfl (gx_le_k rfl (gx_le_n (gx_le_n (gx_le_n (gx_le_n gx_le_0)))))))))))) (bl_854 hx C ⟨F, hnL⟩ X hk693 hk759 hc h)
  · have h := gi_f hc12 h
    refine gx_iload C dL_law_781 rfl ?_
    refine gx_aload_2 C dL_law_783 rfl ?_
    refine gx_aload_3 C dL_law_784 rfl ?_
    refine gx_iload C dL_law_785 rfl ?_
    refine gx_iconstm1 C dL_law_787 ?_
    obtain ⟨v6, e5, h⟩ := gi_cp h
    refine gy_IS C (cr_goes (gx_l Γ) (gx_D Γ) hx ρ _ _ _ e5) (gx_cwS C gx_uu lk_L_43 (by decide) (by decide)) rfl rfl (Nat.le_of_ble_eq_true rfl) hb dL_law_788 py_R py_R.symm ?_
    refine gx_iload C dL_law_791 rfl ?_
    refine gx_icmp_ne (tgt := 822) C dL_law_793 (by decide) (fun hc11 => ?_) (fun hc11 => ?_)
    · have h := gi_f hc11 h
      exact gx_weak (gx_le_k rfl (gx_le_k rfl (gx_le_k rfl (gx_le_k rfl (gx_le_n (gx_le_n (gx_le_k rfl (gx_le_k rfl (gx_le_n (gx_le_k rfl (gx_le_n (gx_le_n gx_le_0)))))))))))) (bl_822 hx C ⟨F, hnL⟩ X hk693 hk759 hk773 hc h)
    · have h := gi_t hc11 h
      refine gx_aload_2 C dL_law_796 rfl ?_
      refine gx_aload_3 C dL_law_797 rfl ?_
      refine gx_iload C dL_law_798 rfl ?_
      refine gx_iload C dL_law_800 rfl ?_
      obtain ⟨v8, e7, h⟩ := gi_cp h
      refine gy_IS C (cr_goes (gx_l Γ) (gx_D Γ) hx ρ _ _ _ e7) (gx_cwS C gx_uu lk_L_43 (by decide) (by decide)) rfl rfl (Nat.le_of_ble_eq_true rfl) hb dL_law_802 py_R py_R.symm ?_
      refine gx_iload C dL_law_805 rfl ?_
      refine gx_icmp_ne (tgt := 822) C dL_law_807 (by decide) (fun hc10 => ?_) (fun hc10 => ?_)
      · have h := gi_f hc10 h
        exact gx_weak (gx_le_k rfl (gx_le_k rfl (gx_le_k rfl (gx_le_k rfl (gx_le_n (gx_le_n (gx_le_k rfl (gx_le_k rfl (gx_le_n (gx_le_k rfl (gx_le_n (gx_le_n gx_le_0)))))))))))) (bl_822 hx C ⟨F, hnL⟩ X hk693 hk759 hk773 hc h)
      · have h := gi_t hc10 h
        refine gx_aload_3 C dL_law_810 rfl ?_
        refine gx_bipush (v := 6) C dL_law_811 (by decide) ?_
        refine gx_iload C dL_law_813 rfl ?_
        refine gx_imul C dL_law_815 ?_
        refine gx_iconst1 C dL_law_816 ?_
        refine gx_iadd C dL_law_817 ?_
        obtain ⟨hi9, h⟩ := gi_ck h
        refine gy_iald C my_1 ht0 hi9 dL_law_818 ?_
        refine gx_goto (tgt := 823) C dL_law_819 (by decide) ?_
        exact gx_weak (gx_le_k rfl (gx_le_k rfl (gx_le_k rfl (gx_le_k rfl (gx_le_n (gx_le_n (gx_le_k rfl (gx_le_k rfl (gx_le_n (gx_le_k rfl (gx_le_n (gx_le_n gx_le_0)))))))))))) (bl_823 hx C ⟨F, hnL⟩ X hk693 hk759 hk773 hc h)
def ml_759 (xs : Nat → Int32) (L : Nat) (k693 : Int32 × gx_S × gx_S × Nat → Option (Unit)) (x6 : Int32) (t : Int32 × gx_S × gx_S × Nat) (k759 : Int32 × gx_S × gx_S × Nat → Option (Unit)) : Option (Unit) := match t with
  | (x7, S, T, c) => gx_ck 45 (1 : Int32) (if (T 0 (1 : Int32).toNatClampNeg) ≤ x7 then k693 ((x6 + 1), S, T, c) else gx_loop (ml_773 xs L k693 k759 x6 x7) 5000 (0, 0, S, T, c))
set_option maxRecDepth 20000 in
set_option maxHeartbeats 4000000 in
theorem bl_759 {Γ : gx_T} {ι : Nat → ClassId} {a : Nat → Nat} {ρ : Nat → Nat} {b0 L : Nat} {xs : Nat → Int32} (hx : gx_std vwCl (gty ι) (gx_cl Γ) (gx_ty Γ)) (C : gx_ok Γ code RL gx_U 40) (F : gl_fin Γ b0 ∧ gx_nL Γ = 12) (X : gx_scr Γ b0 L xs) {k693 : Int32 × gx_S × gx_S × Nat → Option (Unit)} {k759 : Int32 × gx_S × gx_S × Nat → Option (Unit)} {x6 : Int32} {x7 : Int32} {S : gx_S} {T : gx_S} {c : Nat} (hk693 : ∀ (x67 : Int32) (S7 : gx_S) (T7 : gx_S) (c7 : Nat), c7 ≤ 3000 → k693 (x67, S7, T7, c7) = some () → gx_G Γ (84 + c7) (962 + 45 * c7) 693 [.ref b0, .ref (a 0), .ref (ρ 0), .ref (ρ 1), .null, .null, .int x67, .null, .null, .null, .null, .null] [] (wX a ι S7 ++ wR ρ ι T7)) (hk759 : ∀ (x77 : Int32) (S7 : gx_S) (T7 : gx_S) (c7 : Nat), c7 ≤ 3000 → k759 (x77, S7, T7, c7) = some () → gx_G Γ (84 + c7) (962 + 45 * c7) 759 [.ref b0, .ref (a 0), .ref (ρ 0), .ref (ρ 1), .null, .null, .int x6, .int x77, .null, .null, .null, .null] [] (wX a ι S7 ++ wR ρ ι T7)) (hc : c ≤ 3000) (h : ml_759 xs L k693 x6 (x7, S, T, c) k759 = some ()) : gx_G Γ (84 + c) (962 + 45 * c) 759 [.ref b0, .ref (a 0), .ref (ρ 0), .ref (ρ 1), .null, .null, .int x6, .int x7, .null, .null, .null, .null] [] (wX a ι S ++ wR ρ ι T) := by
  obtain ⟨F, hnL⟩ := F
  have ht0 : (gx_ty Γ)[0]? = some (ι 0, .int) := by rw [hx.2]; rfl
  have hroom0 : ∀ c2 : Nat, c2 ≤ 3000 → 84 + c2 ≤ 600000 ∧ 962 + 45 * c2 ≤ 7302250 := fun c2 h => ⟨by omega, by omega⟩
  have hroom : ∀ c2 : Nat, c2 ≤ 3000 → 84 + c2 ≤ (gx_R Γ).cells ∧ 962 + 45 * c2 ≤ (gx_R Γ).slots := fun c2 h => by
    rw [F.2.2.2.2.1]
    exact hroom0 c2 h
  have hb := hroom _ hc
  unfold ml_759 at h
  dsimp only at h
  refine gx_iload C dL_law_759 rfl ?_
  refine gx_aload_2 C dL_law_761 rfl ?_
  refine gx_iconst1 C dL_law_762 ?_
  obtain ⟨hi1, h⟩ := gi_ck h
  refine gy_iald C my_0 ht0 hi1 dL_law_763 ?_
  refine gx_icmp_ge (tgt := 865) C dL_law_764 (by decide) (fun hc2 => ?_) (fun hc2 => ?_)
  · have h := gi_t hc2 h
    refine gx_iinc1 C dL_law_865 rfl (by rw [hnL]; decide) trivial ?_
    refine gx_goto (tgt := 693) C dL_law_868 (by decide) ?_
    exact gx_weak (gx_le_k rfl (gx_le_k rfl (gx_le_k rfl (gx_le_k rfl (gx_le_n (gx_le_n (gx_le_k rfl (gx_le_n (gx_le_n (gx_le_n (gx_le_n (gx_le_n gx_le_0)))))))))))) (hk693 _ _ _ _ hc h)
  · have h := gi_f hc2 h
    refine gx_iconst0 C dL_law_767 ?_
    refine gx_istore C dL_law_768 (by rw [hnL]; decide) trivial ?_
    refine gx_iconst0 C dL_law_770 ?_
    refine gx_istore C dL_law_771 (by rw [hnL]; decide) trivial ?_
    refine gx_weak (gx_le_k rfl (gx_le_k rfl (gx_le_k rfl (gx_le_k rfl (gx_le_n (gx_le_n (gx_le_k rfl (gx_le_k rfl (gx_le_k rfl (gx_le_k rfl (gx_le_n (gx_le_n gx_le_0)))))))))))) (gi_loop (P := fun t => t.2.2.2.2 ≤ 3000 → gx_G Γ (84 + t.2.2.2.2) (962 + 45 * t.2.2.2.2) 773 [.ref b0, .ref (a 0), .ref (ρ 0), .ref (ρ 1), .null, .null, .int x6, .int x7, .int t.1, .int t.2.1, .null, .null] [] (wX a ι t.2.2.1 ++ wR ρ ι t.2.2.2.1)) (fun kk t hk h => ?_) 5000 _ h hc)
    obtain ⟨x89, x99, S9, T9, c9⟩ := t
    intro hc9
    exact bl_773 hx C ⟨F, hnL⟩ X hk693 hk759 (k773 := kk) (fun x88 x98 S8 T8 c8 hc8 h => hk (x88, x98, S8, T8, c8) h hc8) hc9 h
def ml_739 (xs : Nat → Int32) (L : Nat) (k693 : Int32 × gx_S × gx_S × Nat → Option (Unit)) (x6 : Int32) (s0 : Int32) (s1 : Int32) (S : gx_S) (T : gx_S) (c : Nat) : Option (Unit) := if s0 = s1 then gx_cs (m_ShopsAsOne_best x6 2 S) fun v2 S3 => if v2 = (-102) then gx_loop (ml_759 xs L k693 x6) 5000 (0, S3, T, c) else none else none
set_option maxRecDepth 20000 in
set_option maxHeartbeats 4000000 in
theorem bl_739 {Γ : gx_T} {ι : Nat → ClassId} {a : Nat → Nat} {ρ : Nat → Nat} {b0 L : Nat} {xs : Nat → Int32} (hx : gx_std vwCl (gty ι) (gx_cl Γ) (gx_ty Γ)) (C : gx_ok Γ code RL gx_U 40) (F : gl_fin Γ b0 ∧ gx_nL Γ = 12) (X : gx_scr Γ b0 L xs) {k693 : Int32 × gx_S × gx_S × Nat → Option (Unit)} {x6 : Int32} {s0 : Int32} {s1 : Int32} {S : gx_S} {T : gx_S} {c : Nat} (hk693 : ∀ (x67 : Int32) (S7 : gx_S) (T7 : gx_S) (c7 : Nat), c7 ≤ 3000 → k693 (x67, S7, T7, c7) = some () → gx_G Γ (84 + c7) (962 + 45 * c7) 693 [.ref b0, .ref (a 0), .ref (ρ 0), .ref (ρ 1), .null, .null, .int x67, .null, .null, .null, .null, .null] [] (wX a ι S7 ++ wR ρ ι T7)) (hc : c ≤ 3000) (h : ml_739 xs L k693 x6 s0 s1 S T c = some ()) : gx_G Γ (84 + c) (962 + 45 * c) 739 [.ref b0, .ref (a 0), .ref (ρ 0), .ref (ρ 1), .null, .null, .int x6, .null, .null, .null, .null, .null] [.int s1, .int s0] (wX a ι S ++ wR ρ ι T) := by
  obtain ⟨F, hnL⟩ := F
  have ht0 : (gx_ty Γ)[0]? = some (ι 0, .int) := by rw [hx.2]; rfl
  have hroom0 : ∀ c2 : Nat, c2 ≤ 3000 → 84 + c2 ≤ 600000 ∧ 962 + 45 * c2 ≤ 7302250 := fun c2 h => ⟨by omega, by omega⟩
  have hroom : ∀ c2 : Nat, c2 ≤ 3000 → 84 + c2 ≤ (gx_R Γ).cells ∧ 962 + 45 * c2 ≤ (gx_R Γ).slots := fun c2 h => by
    rw [F.2.2.2.2.1]
    exact hroom0 c2 h
  have hb := hroom _ hc
  unfold ml_739 at h
  refine gx_icmp_ne (tgt := 754) C dL_law_739 (by decide) (fun hc5 => ?_) (fun hc5 => ?_)
  · have h := gi_f hc5 h
    refine gx_iconst0 C dL_law_754 ?_
    cases h
  · have h := gi_t hc5 h
    refine gx_aload_1 C dL_law_742 rfl ?_
    refine gx_iload C dL_law_743 rfl ?_
    refine gx_iconst2 C dL_law_745 ?_
    obtain ⟨v2, S3, e1, h⟩ := gi_cs h
    refine gc_IVf C (c_ShopsAsOne_best (gx_l Γ) (gx_D Γ) hx a _ _ _ e1) (gx_cw C gx_uu lk_L_90 (by decide) (by decide)) (cls_X7 hx).1 (gs_recv (q := 0) lt_X_ShopsAsOne (oc_X_ShopsAsOne a ι _)) rfl rfl (Nat.le_of_ble_eq_true rfl) hb dL_law_746 ?_
    refine gx_bipush (v := (-102)) C dL_law_749 (by decide) ?_
    refine gx_icmp_eq (tgt := 756) C dL_law_751 (by decide) (fun hc4 => ?_) (fun hc4 => ?_)
    · have h := gi_t hc4 h
      refine gx_iconst0 C dL_law_756 ?_
      refine gx_istore C dL_law_757 (by rw [hnL]; decide) trivial ?_
      refine gx_weak (gx_le_k rfl (gx_le_k rfl (gx_le_k rfl (gx_le_k rfl (gx_le_n (gx_le_n (gx_le_k rfl (gx_le_k rfl (gx_le_n (gx_le_n (gx_le_n (gx_le_n gx_le_0)))))))))))) (gi_loop (P := fun t => t.2.2.2 ≤ 3000 → gx_G Γ (84 + t.2.2.2) (962 + 45 * t.2.2.2) 759 [.ref b0, .ref (a 0), .ref (ρ 0), .ref (ρ 1), .null, .null, .int x6, .int t.1, .null, .null, .null, .null] [] (wX a ι t.2.1 ++ wR ρ ι t.2.2.1)) (fun kk t hk h => ?_) 5000 _ h hc)
      obtain ⟨x79, S9, T9, c9⟩ := t
      intro hc9
      exact bl_759 hx C ⟨F, hnL⟩ X hk693 (k759 := kk) (fun x78 S8 T8 c8 hc8 h => hk (x78, S8, T8, c8) h hc8) hc9 h
    · have h := gi_f hc4 h
      refine gx_iconst0 C dL_law_754 ?_
      cases h
def ml_1012 (xs : Nat → Int32) (L : Nat) (S : gx_S) (T : gx_S) (c : Nat) : Option (Unit) := none
set_option maxRecDepth 20000 in
set_option maxHeartbeats 4000000 in
theorem bl_1012 {Γ : gx_T} {ι : Nat → ClassId} {a : Nat → Nat} {ρ : Nat → Nat} {b0 L : Nat} {xs : Nat → Int32} (hx : gx_std vwCl (gty ι) (gx_cl Γ) (gx_ty Γ)) (C : gx_ok Γ code RL gx_U 40) (F : gl_fin Γ b0 ∧ gx_nL Γ = 12) (X : gx_scr Γ b0 L xs) {S : gx_S} {T : gx_S} {c : Nat} (hc : c ≤ 3000) (h : ml_1012 xs L S T c = some ()) : gx_G Γ (84 + c) (962 + 45 * c) 1012 [.ref b0, .ref (a 0), .ref (ρ 0), .ref (ρ 1), .null, .null, .null, .null, .null, .null, .null, .null] [] (wX a ι S ++ wR ρ ι T) := by
  obtain ⟨F, hnL⟩ := F
  have ht0 : (gx_ty Γ)[0]? = some (ι 0, .int) := by rw [hx.2]; rfl
  have hroom0 : ∀ c2 : Nat, c2 ≤ 3000 → 84 + c2 ≤ 600000 ∧ 962 + 45 * c2 ≤ 7302250 := fun c2 h => ⟨by omega, by omega⟩
  have hroom : ∀ c2 : Nat, c2 ≤ 3000 → 84 + c2 ≤ (gx_R Γ).cells ∧ 962 + 45 * c2 ≤ (gx_R Γ).slots := fun c2 h => by
    rw [F.2.2.2.2.1]
    exact hroom0 c2 h
  have hb := hroom _ hc
  unfold ml_1012 at h
  refine gx_iconst0 C dL_law_1012 ?_
  cases h
def ml_693 (xs : Nat → Int32) (L : Nat) (t : Int32 × gx_S × gx_S × Nat) (k693 : Int32 × gx_S × gx_S × Nat → Option (Unit)) : Option (Unit) := match t with
  | (x6, S, T, c) => gx_ck 45 (1 : Int32) (if (T 0 (1 : Int32).toNatClampNeg) ≤ x6 then gx_ck 45 (2 : Int32) (gx_cp (m_ShopsAsOne_is (T 0 (2 : Int32).toNatClampNeg) 0 S) fun v4 => if v4 = (-1001) then gx_cp (m_ShopsAsOne_goes (T 0 (2 : Int32).toNatClampNeg) S) fun v6 => if v6 = (-101) then gx_cp (m_ShopsAsOne_spare (-1) S) fun v8 => if v8 = (-101) then gx_ck 45 (0 : Int32) (gx_cp (m_ShopsAsOne_profit (T 0 (0 : Int32).toNatClampNeg) S) fun v11 => if v11 = (-1000001) then gx_cs (m_ShopsAsOne_gain (T 0 (0 : Int32).toNatClampNeg) S) fun v13 S14 => if v13 = (-1000001) then gx_cs (m_ShopsAsOne_turn (T 0 (0 : Int32).toNatClampNeg) S14) fun v16 S17 => if v16 = (-101) then gx_cs (m_ShopsAsOne_best (T 0 (1 : Int32).toNatClampNeg) 0 S17) fun v19 S20 => if v19 = (-101) then gx_cs (m_ShopsAsOne_price (T 0 (1 : Int32).toNatClampNeg) 0 S20) fun v22 S23 => if v22 = (-101) then gx_cp (m_ShopsAsOne_instead (T 0 (2 : Int32).toNatClampNeg) 0 S23) fun v25 => if v25 = (-101) then gx_cp (m_ShopsAsOne_from 0 (T 0 (1 : Int32).toNatClampNeg) S23) fun v27 => if v27 = (-101) then gx_cp (m_ShopsAsOne_about (T 0 (1 : Int32).toNatClampNeg) 0 S23) fun v29 => if v29 = (-101) then some () else ml_1012 xs L S23 T c else ml_1012 xs L S23 T c else ml_1012 xs L S23 T c else ml_1012 xs L S23 T c else ml_1012 xs L S20 T c else ml_1012 xs L S17 T c else ml_1012 xs L S14 T c else ml_1012 xs L S T c) else ml_1012 xs L S T c else ml_1012 xs L S T c else ml_1012 xs L S T c) else gx_cp (m_ShopsAsOne_about x6 3 S) fun v42 => gx_ck 45 ((27 : Int32) + x6) (if v42 = (T 0 ((27 : Int32) + x6).toNatClampNeg) then gx_cp (m_ShopsAsOne_about x6 4 S) fun v45 => gx_cp (r_open x6 T) fun v47 => if v47 = 0 then ml_739 xs L k693 x6 v45 0 S T c else ml_739 xs L k693 x6 v45 1 S T c else none))
set_option maxRecDepth 20000 in
set_option maxHeartbeats 4000000 in
theorem bl_693 {Γ : gx_T} {ι : Nat → ClassId} {a : Nat → Nat} {ρ : Nat → Nat} {b0 L : Nat} {xs : Nat → Int32} (hx : gx_std vwCl (gty ι) (gx_cl Γ) (gx_ty Γ)) (C : gx_ok Γ code RL gx_U 40) (F : gl_fin Γ b0 ∧ gx_nL Γ = 12) (X : gx_scr Γ b0 L xs) {k693 : Int32 × gx_S × gx_S × Nat → Option (Unit)} {x6 : Int32} {S : gx_S} {T : gx_S} {c : Nat} (hk693 : ∀ (x67 : Int32) (S7 : gx_S) (T7 : gx_S) (c7 : Nat), c7 ≤ 3000 → k693 (x67, S7, T7, c7) = some () → gx_G Γ (84 + c7) (962 + 45 * c7) 693 [.ref b0, .ref (a 0), .ref (ρ 0), .ref (ρ 1), .null, .null, .int x67, .null, .null, .null, .null, .null] [] (wX a ι S7 ++ wR ρ ι T7)) (hc : c ≤ 3000) (h : ml_693 xs L (x6, S, T, c) k693 = some ()) : gx_G Γ (84 + c) (962 + 45 * c) 693 [.ref b0, .ref (a 0), .ref (ρ 0), .ref (ρ 1), .null, .null, .int x6, .null, .null, .null, .null, .null] [] (wX a ι S ++ wR ρ ι T) := by
  obtain ⟨F, hnL⟩ := F
  have ht0 : (gx_ty Γ)[0]? = some (ι 0, .int) := by rw [hx.2]; rfl
  have hroom0 : ∀ c2 : Nat, c2 ≤ 3000 → 84 + c2 ≤ 600000 ∧ 962 + 45 * c2 ≤ 7302250 := fun c2 h => ⟨by omega, by omega⟩
  have hroom : ∀ c2 : Nat, c2 ≤ 3000 → 84 + c2 ≤ (gx_R Γ).cells ∧ 962 + 45 * c2 ≤ (gx_R Γ).slots := fun c2 h => by
    rw [F.2.2.2.2.1]
    exact hroom0 c2 h
  have hb := hroom _ hc
  unfold ml_693 at h
  dsimp only at h
  refine gx_iload C dL_law_693 rfl ?_
  refine gx_aload_2 C dL_law_695 rfl ?_
  refine gx_iconst1 C dL_law_696 ?_
  obtain ⟨hi1, h⟩ := gi_ck h
  refine gy_iald C my_0 ht0 hi1 dL_law_697 ?_
  refine gx_icmp_ge (tgt := 871) C dL_law_698 (by decide) (fun hc50 => ?_) (fun hc50 => ?_)
  · have h := gi_t hc50 h
    refine gx_aload_1 C dL_law_871 rfl ?_
    refine gx_aload_2 C dL_law_872 rfl ?_
    refine gx_iconst2 C dL_law_873 ?_
    obtain ⟨hi2, h⟩ := gi_ck h
    refine gy_iald C my_0 ht0 hi2 dL_law_874 ?_
    refine gx_iconst0 C dL_law_875 ?_
    obtain ⟨v4, e3, h⟩ := gi_cp h
    refine gc_IVf C (c_ShopsAsOne_is (gx_l Γ) (gx_D Γ) hx a _ _ _ e3) (gx_cw C gx_uu lk_L_65 (by decide) (by decide)) (cls_X7 hx).1 (gs_recv (q := 0) lt_X_ShopsAsOne (oc_X_ShopsAsOne a ι _)) rfl rfl (Nat.le_of_ble_eq_true rfl) hb dL_law_876 ?_
    refine gx_sipush (v := (-1001)) C dL_law_879 (by decide) ?_
    refine gx_icmp_ne (tgt := 1012) C dL_law_882 (by decide) (fun hc40 => ?_) (fun hc40 => ?_)
    · have h := gi_f hc40 h
      exact gx_weak (gx_le_k rfl (gx_le_k rfl (gx_le_k rfl (gx_le_k rfl (gx_le_n (gx_le_n (gx_le_n (gx_le_n (gx_le_n (gx_le_n (gx_le_n (gx_le_n gx_le_0)))))))))))) (bl_1012 hx C ⟨F, hnL⟩ X hc h)
    · have h := gi_t hc40 h
      refine gx_aload_1 C dL_law_885 rfl ?_
      refine gx_aload_2 C dL_law_886 rfl ?_
      refine gx_iconst2 C dL_law_887 ?_
      refine gy_iald C my_0 ht0 hi2 dL_law_888 ?_
      obtain ⟨v6, e5, h⟩ := gi_cp h
      refine gc_IVf C (c_ShopsAsOne_goes (gx_l Γ) (gx_D Γ) hx a _ _ e5) (gx_cw C gx_uu lk_L_70 (by decide) (by decide)) (cls_X7 hx).1 (gs_recv (q := 0) lt_X_ShopsAsOne (oc_X_ShopsAsOne a ι _)) rfl rfl (Nat.le_of_ble_eq_true rfl) hb dL_law_889 ?_
      refine gx_bipush (v := (-101)) C dL_law_892 (by decide) ?_
      refine gx_icmp_ne (tgt := 1012) C dL_law_894 (by decide) (fun hc39 => ?_) (fun hc39 => ?_)
      · have h := gi_f hc39 h
        exact gx_weak (gx_le_k rfl (gx_le_k rfl (gx_le_k rfl (gx_le_k rfl (gx_le_n (gx_le_n (gx_le_n (gx_le_n (gx_le_n (gx_le_n (gx_le_n (gx_le_n gx_le_0)))))))))))) (bl_1012 hx C ⟨F, hnL⟩ X hc h)
      · have h := gi_t hc39 h
        refine gx_aload_1 C dL_law_897 rfl ?_
        refine gx_iconstm1 C dL_law_898 ?_
        obtain ⟨v8, e7, h⟩ := gi_cp h
        refine gc_IVf C (c_ShopsAsOne_spare (gx_l Γ) (gx_D Γ) hx a _ _ e7) (gx_cw C gx_uu lk_L_73 (by decide) (by decide)) (cls_X7 hx).1 (gs_recv (q := 0) lt_X_ShopsAsOne (oc_X_ShopsAsOne a ι _)) rfl rfl (Nat.le_of_ble_eq_true rfl) hb dL_law_899 ?_
        refine gx_bipush (v := (-101)) C dL_law_902 (by decide) ?_
        refine gx_icmp_ne (tgt := 1012) C dL_law_904 (by decide) (fun hc38 => ?_) (fun hc38 => ?_)
        · have h := gi_f hc38 h
          exact gx_weak (gx_le_k rfl (gx_le_k rfl (gx_le_k rfl (gx_le_k rfl (gx_le_n (gx_le_n (gx_le_n (gx_le_n (gx_le_n (gx_le_n (gx_le_n (gx_le_n gx_le_0)))))))))))) (bl_1012 hx C ⟨F, hnL⟩ X hc h)
        · have h := gi_t hc38 h
          refine gx_aload_1 C dL_law_907 rfl ?_
          refine gx_aload_2 C dL_law_908 rfl ?_
          refine gx_iconst0 C dL_law_909 ?_
          obtain ⟨hi9, h⟩ := gi_ck h
          refine gy_iald C my_0 ht0 hi9 dL_law_910 ?_
          obtain ⟨v11, e10, h⟩ := gi_cp h
          refine gc_IVf C (c_ShopsAsOne_profit (gx_l Γ) (gx_D Γ) hx a _ _ e10) (gx_cw C gx_uu lk_L_85 (by decide) (by decide)) (cls_X7 hx).1 (gs_recv (q := 0) lt_X_ShopsAsOne (oc_X_ShopsAsOne a ι _)) rfl rfl (Nat.le_of_ble_eq_true rfl) hb dL_law_911 ?_
          refine gx_ldc (v := (-1000001)) C dL_law_914 kL_111 ?_
          refine gx_icmp_ne (tgt := 1012) C dL_law_916 (by decide) (fun hc37 => ?_) (fun hc37 => ?_)
          · have h := gi_f hc37 h
            exact gx_weak (gx_le_k rfl (gx_le_k rfl (gx_le_k rfl (gx_le_k rfl (gx_le_n (gx_le_n (gx_le_n (gx_le_n (gx_le_n (gx_le_n (gx_le_n (gx_le_n gx_le_0)))))))))))) (bl_1012 hx C ⟨F, hnL⟩ X hc h)
          · have h := gi_t hc37 h
            refine gx_aload_1 C dL_law_919 rfl ?_
            refine gx_aload_2 C dL_law_920 rfl ?_
            refine gx_iconst0 C dL_law_921 ?_
            refine gy_iald C my_0 ht0 hi9 dL_law_922 ?_
            obtain ⟨v13, S14, e12, h⟩ := gi_cs h
            refine gc_IVf C (c_ShopsAsOne_gain (gx_l Γ) (gx_D Γ) hx a _ _ e12) (gx_cw C gx_uu lk_L_87 (by decide) (by decide)) (cls_X7 hx).1 (gs_recv (q := 0) lt_X_ShopsAsOne (oc_X_ShopsAsOne a ι _)) rfl rfl (Nat.le_of_ble_eq_true rfl) hb dL_law_923 ?_
            refine gx_ldc (v := (-1000001)) C dL_law_926 kL_111 ?_
            refine gx_icmp_ne (tgt := 1012) C dL_law_928 (by decide) (fun hc36 => ?_) (fun hc36 => ?_)
            · have h := gi_f hc36 h
              exact gx_weak (gx_le_k rfl (gx_le_k rfl (gx_le_k rfl (gx_le_k rfl (gx_le_n (gx_le_n (gx_le_n (gx_le_n (gx_le_n (gx_le_n (gx_le_n (gx_le_n gx_le_0)))))))))))) (bl_1012 hx C ⟨F, hnL⟩ X hc h)
            · have h := gi_t hc36 h
              refine gx_aload_1 C dL_law_931 rfl ?_
              refine gx_aload_2 C dL_law_932 rfl ?_
              refine gx_iconst0 C dL_law_933 ?_
              refine gy_iald C my_0 ht0 hi9 dL_law_934 ?_
              obtain ⟨v16, S17, e15, h⟩ := gi_cs h
              refine gc_IVf C (c_ShopsAsOne_turn (gx_l Γ) (gx_D Γ) hx a _ _ e15) (gx_cw C gx_uu lk_L_100 (by decide) (by decide)) (cls_X7 hx).1 (gs_recv (q := 0) lt_X_ShopsAsOne (oc_X_ShopsAsOne a ι _)) rfl rfl (Nat.le_of_ble_eq_true rfl) hb dL_law_935 ?_
              refine gx_bipush (v := (-101)) C dL_law_938 (by decide) ?_
              refine gx_icmp_ne (tgt := 1012) C dL_law_940 (by decide) (fun hc35 => ?_) (fun hc35 => ?_)
              · have h := gi_f hc35 h
                exact gx_weak (gx_le_k rfl (gx_le_k rfl (gx_le_k rfl (gx_le_k rfl (gx_le_n (gx_le_n (gx_le_n (gx_le_n (gx_le_n (gx_le_n (gx_le_n (gx_le_n gx_le_0)))))))))))) (bl_1012 hx C ⟨F, hnL⟩ X hc h)
              · have h := gi_t hc35 h
                refine gx_aload_1 C dL_law_943 rfl ?_
                refine gx_aload_2 C dL_law_944 rfl ?_
                refine gx_iconst1 C dL_law_945 ?_
                refine gy_iald C my_0 ht0 hi1 dL_law_946 ?_
                refine gx_iconst0 C dL_law_947 ?_
                obtain ⟨v19, S20, e18, h⟩ := gi_cs h
                refine gc_IVf C (c_ShopsAsOne_best (gx_l Γ) (gx_D Γ) hx a _ _ _ e18) (gx_cw C gx_uu lk_L_90 (by decide) (by decide)) (cls_X7 hx).1 (gs_recv (q := 0) lt_X_ShopsAsOne (oc_X_ShopsAsOne a ι _)) rfl rfl (Nat.le_of_ble_eq_true rfl) hb dL_law_948 ?_
                refine gx_bipush (v := (-101)) C dL_law_951 (by decide) ?_
                refine gx_icmp_ne (tgt := 1012) C dL_law_953 (by decide) (fun hc34 => ?_) (fun hc34 => ?_)
                · have h := gi_f hc34 h
                  exact gx_weak (gx_le_k rfl (gx_le_k rfl (gx_le_k rfl (gx_le_k rfl (gx_le_n (gx_le_n (gx_le_n (gx_le_n (gx_le_n (gx_le_n (gx_le_n (gx_le_n gx_le_0)))))))))))) (bl_1012 hx C ⟨F, hnL⟩ X hc h)
                · have h := gi_t hc34 h
                  refine gx_aload_1 C dL_law_956 rfl ?_
                  refine gx_aload_2 C dL_law_957 rfl ?_
                  refine gx_iconst1 C dL_law_958 ?_
                  refine gy_iald C my_0 ht0 hi1 dL_law_959 ?_
                  refine gx_iconst0 C dL_law_960 ?_
                  obtain ⟨v22, S23, e21, h⟩ := gi_cs h
                  refine gc_IVf C (c_ShopsAsOne_price (gx_l Γ) (gx_D Γ) hx a _ _ _ e21) (gx_cw C gx_uu lk_L_97 (by decide) (by decide)) (cls_X7 hx).1 (gs_recv (q := 0) lt_X_ShopsAsOne (oc_X_ShopsAsOne a ι _)) rfl rfl (Nat.le_of_ble_eq_true rfl) hb dL_law_961 ?_
                  refine gx_bipush (v := (-101)) C dL_law_964 (by decide) ?_
                  refine gx_icmp_ne (tgt := 1012) C dL_law_966 (by decide) (fun hc33 => ?_) (fun hc33 => ?_)
                  · have h := gi_f hc33 h
                    exact gx_weak (gx_le_k rfl (gx_le_k rfl (gx_le_k rfl (gx_le_k rfl (gx_le_n (gx_le_n (gx_le_n (gx_le_n (gx_le_n (gx_le_n (gx_le_n (gx_le_n gx_le_0)))))))))))) (bl_1012 hx C ⟨F, hnL⟩ X hc h)
                  · have h := gi_t hc33 h
                    refine gx_aload_1 C dL_law_969 rfl ?_
                    refine gx_aload_2 C dL_law_970 rfl ?_
                    refine gx_iconst2 C dL_law_971 ?_
                    refine gy_iald C my_0 ht0 hi2 dL_law_972 ?_
                    refine gx_iconst0 C dL_law_973 ?_
                    obtain ⟨v25, e24, h⟩ := gi_cp h
                    refine gc_IVf C (c_ShopsAsOne_instead (gx_l Γ) (gx_D Γ) hx a _ _ _ e24) (gx_cw C gx_uu lk_L_67 (by decide) (by decide)) (cls_X7 hx).1 (gs_recv (q := 0) lt_X_ShopsAsOne (oc_X_ShopsAsOne a ι _)) rfl rfl (Nat.le_of_ble_eq_true rfl) hb dL_law_974 ?_
                    refine gx_bipush (v := (-101)) C dL_law_977 (by decide) ?_
                    refine gx_icmp_ne (tgt := 1012) C dL_law_979 (by decide) (fun hc32 => ?_) (fun hc32 => ?_)
                    · have h := gi_f hc32 h
                      exact gx_weak (gx_le_k rfl (gx_le_k rfl (gx_le_k rfl (gx_le_k rfl (gx_le_n (gx_le_n (gx_le_n (gx_le_n (gx_le_n (gx_le_n (gx_le_n (gx_le_n gx_le_0)))))))))))) (bl_1012 hx C ⟨F, hnL⟩ X hc h)
                    · have h := gi_t hc32 h
                      refine gx_aload_1 C dL_law_982 rfl ?_
                      refine gx_iconst0 C dL_law_983 ?_
                      refine gx_aload_2 C dL_law_984 rfl ?_
                      refine gx_iconst1 C dL_law_985 ?_
                      refine gy_iald C my_0 ht0 hi1 dL_law_986 ?_
                      obtain ⟨v27, e26, h⟩ := gi_cp h
                      refine gc_IVf C (c_ShopsAsOne_from (gx_l Γ) (gx_D Γ) hx a _ _ _ e26) (gx_cw C gx_uu lk_L_108 (by decide) (by decide)) (cls_X7 hx).1 (gs_recv (q := 0) lt_X_ShopsAsOne (oc_X_ShopsAsOne a ι _)) rfl rfl (Nat.le_of_ble_eq_true rfl) hb dL_law_987 ?_
                      refine gx_bipush (v := (-101)) C dL_law_990 (by decide) ?_
                      refine gx_icmp_ne (tgt := 1012) C dL_law_992 (by decide) (fun hc31 => ?_) (fun hc31 => ?_)
                      · have h := gi_f hc31 h
                        exact gx_weak (gx_le_k rfl (gx_le_k rfl (gx_le_k rfl (gx_le_k rfl (gx_le_n (gx_le_n (gx_le_n (gx_le_n (gx_le_n (gx_le_n (gx_le_n (gx_le_n gx_le_0)))))))))))) (bl_1012 hx C ⟨F, hnL⟩ X hc h)
                      · have h := gi_t hc31 h
                        refine gx_aload_1 C dL_law_995 rfl ?_
                        refine gx_aload_2 C dL_law_996 rfl ?_
                        refine gx_iconst1 C dL_law_997 ?_
                        refine gy_iald C my_0 ht0 hi1 dL_law_998 ?_
                        refine gx_iconst0 C dL_law_999 ?_
                        obtain ⟨v29, e28, h⟩ := gi_cp h
                        refine gc_IVf C (c_ShopsAsOne_about (gx_l Γ) (gx_D Γ) hx a _ _ _ e28) (gx_cw C gx_uu lk_L_62 (by decide) (by decide)) (cls_X7 hx).1 (gs_recv (q := 0) lt_X_ShopsAsOne (oc_X_ShopsAsOne a ι _)) rfl rfl (Nat.le_of_ble_eq_true rfl) hb dL_law_1000 ?_
                        refine gx_bipush (v := (-101)) C dL_law_1003 (by decide) ?_
                        refine gx_icmp_ne (tgt := 1012) C dL_law_1005 (by decide) (fun hc30 => ?_) (fun hc30 => ?_)
                        · have h := gi_f hc30 h
                          exact gx_weak (gx_le_k rfl (gx_le_k rfl (gx_le_k rfl (gx_le_k rfl (gx_le_n (gx_le_n (gx_le_n (gx_le_n (gx_le_n (gx_le_n (gx_le_n (gx_le_n gx_le_0)))))))))))) (bl_1012 hx C ⟨F, hnL⟩ X hc h)
                        · have h := gi_t hc30 h
                          refine gx_iconst1 C dL_law_1008 ?_
                          refine gx_goto (tgt := 1013) C dL_law_1009 (by decide) ?_
                          exact gl_ret C F (hroom0 _ hc).1 (hroom0 _ hc).2 dL_law_1013
  · have h := gi_f hc50 h
    refine gx_aload_1 C dL_law_701 rfl ?_
    refine gx_iload C dL_law_702 rfl ?_
    refine gx_iconst3 C dL_law_704 ?_
    obtain ⟨v42, e41, h⟩ := gi_cp h
    refine gc_IVf C (c_ShopsAsOne_about (gx_l Γ) (gx_D Γ) hx a _ _ _ e41) (gx_cw C gx_uu lk_L_62 (by decide) (by decide)) (cls_X7 hx).1 (gs_recv (q := 0) lt_X_ShopsAsOne (oc_X_ShopsAsOne a ι _)) rfl rfl (Nat.le_of_ble_eq_true rfl) hb dL_law_705 ?_
    refine gx_aload_2 C dL_law_708 rfl ?_
    refine gx_bipush (v := 27) C dL_law_709 (by decide) ?_
    refine gx_iload C dL_law_711 rfl ?_
    refine gx_iadd C dL_law_713 ?_
    obtain ⟨hi43, h⟩ := gi_ck h
    refine gy_iald C my_0 ht0 hi43 dL_law_714 ?_
    refine gx_icmp_ne (tgt := 754) C dL_law_715 (by decide) (fun hc49 => ?_) (fun hc49 => ?_)
    · have h := gi_f hc49 h
      refine gx_iconst0 C dL_law_754 ?_
      cases h
    · have h := gi_t hc49 h
      refine gx_aload_1 C dL_law_718 rfl ?_
      refine gx_iload C dL_law_719 rfl ?_
      refine gx_iconst4 C dL_law_721 ?_
      obtain ⟨v45, e44, h⟩ := gi_cp h
      refine gc_IVf C (c_ShopsAsOne_about (gx_l Γ) (gx_D Γ) hx a _ _ _ e44) (gx_cw C gx_uu lk_L_62 (by decide) (by decide)) (cls_X7 hx).1 (gs_recv (q := 0) lt_X_ShopsAsOne (oc_X_ShopsAsOne a ι _)) rfl rfl (Nat.le_of_ble_eq_true rfl) hb dL_law_722 ?_
      refine gx_aload_2 C dL_law_725 rfl ?_
      refine gx_iload C dL_law_726 rfl ?_
      obtain ⟨v47, e46, h⟩ := gi_cp h
      refine gy_IS C (cr_open (gx_l Γ) (gx_D Γ) hx ρ _ _ e46) (gx_cwS C gx_uu lk_L_35 (by decide) (by decide)) rfl rfl (Nat.le_of_ble_eq_true rfl) hb dL_law_728 py_R py_R.symm ?_
      refine gx_if_eq (tgt := 738) C dL_law_731 (by decide) (fun hc48 => ?_) (fun hc48 => ?_)
      · have h := gi_t hc48 h
        refine gx_iconst0 C dL_law_738 ?_
        exact gx_weak (gx_le_k rfl (gx_le_k rfl (gx_le_k rfl (gx_le_k rfl (gx_le_n (gx_le_n (gx_le_k rfl (gx_le_n (gx_le_n (gx_le_n (gx_le_n (gx_le_n gx_le_0)))))))))))) (bl_739 hx C ⟨F, hnL⟩ X hk693 hc h)
      · have h := gi_f hc48 h
        refine gx_iconst1 C dL_law_734 ?_
        refine gx_goto (tgt := 739) C dL_law_735 (by decide) ?_
        exact gx_weak (gx_le_k rfl (gx_le_k rfl (gx_le_k rfl (gx_le_k rfl (gx_le_n (gx_le_n (gx_le_k rfl (gx_le_n (gx_le_n (gx_le_n (gx_le_n (gx_le_n gx_le_0)))))))))))) (bl_739 hx C ⟨F, hnL⟩ X hk693 hc h)
def ml_690 (xs : Nat → Int32) (L : Nat) (S : gx_S) (T : gx_S) (c : Nat) : Option (Unit) := gx_loop (ml_693 xs L) 5000 (0, S, T, c)
set_option maxRecDepth 20000 in
set_option maxHeartbeats 4000000 in
theorem bl_690 {Γ : gx_T} {ι : Nat → ClassId} {a : Nat → Nat} {ρ : Nat → Nat} {b0 L : Nat} {xs : Nat → Int32} (hx : gx_std vwCl (gty ι) (gx_cl Γ) (gx_ty Γ)) (C : gx_ok Γ code RL gx_U 40) (F : gl_fin Γ b0 ∧ gx_nL Γ = 12) (X : gx_scr Γ b0 L xs) {S : gx_S} {T : gx_S} {c : Nat} (hc : c ≤ 3000) (h : ml_690 xs L S T c = some ()) : gx_G Γ (84 + c) (962 + 45 * c) 690 [.ref b0, .ref (a 0), .ref (ρ 0), .ref (ρ 1), .null, .null, .null, .null, .null, .null, .null, .null] [] (wX a ι S ++ wR ρ ι T) := by
  obtain ⟨F, hnL⟩ := F
  have ht0 : (gx_ty Γ)[0]? = some (ι 0, .int) := by rw [hx.2]; rfl
  have hroom0 : ∀ c2 : Nat, c2 ≤ 3000 → 84 + c2 ≤ 600000 ∧ 962 + 45 * c2 ≤ 7302250 := fun c2 h => ⟨by omega, by omega⟩
  have hroom : ∀ c2 : Nat, c2 ≤ 3000 → 84 + c2 ≤ (gx_R Γ).cells ∧ 962 + 45 * c2 ≤ (gx_R Γ).slots := fun c2 h => by
    rw [F.2.2.2.2.1]
    exact hroom0 c2 h
  have hb := hroom _ hc
  unfold ml_690 at h
  refine gx_iconst0 C dL_law_690 ?_
  refine gx_istore C dL_law_691 (by rw [hnL]; decide) trivial ?_
  refine gx_weak (gx_le_k rfl (gx_le_k rfl (gx_le_k rfl (gx_le_k rfl (gx_le_n (gx_le_n (gx_le_k rfl (gx_le_n (gx_le_n (gx_le_n (gx_le_n (gx_le_n gx_le_0)))))))))))) (gi_loop (P := fun t => t.2.2.2 ≤ 3000 → gx_G Γ (84 + t.2.2.2) (962 + 45 * t.2.2.2) 693 [.ref b0, .ref (a 0), .ref (ρ 0), .ref (ρ 1), .null, .null, .int t.1, .null, .null, .null, .null, .null] [] (wX a ι t.2.1 ++ wR ρ ι t.2.2.1)) (fun kk t hk h => ?_) 5000 _ h hc)
  obtain ⟨x69, S9, T9, c9⟩ := t
  intro hc9
  exact bl_693 hx C ⟨F, hnL⟩ X (k693 := kk) (fun x68 S8 T8 c8 hc8 h => hk (x68, S8, T8, c8) h hc8) hc9 h
def ml_655 (xs : Nat → Int32) (L : Nat) (x5 : Int32) (s0 : Int32) (s1 : Int32) (U : Nat → Int32) (S : gx_S) (T : gx_S) (c : Nat) : Option (Unit) := if s0 = s1 then if 20 ≤ x5 then ml_690 xs L S T c else gx_cp (r_copy (gy_Td T U)) fun T3 => gx_cs (m_ShopsAsOne_otherwise S) fun v5 S6 => if v5 = (-1) then gx_cs (m_ShopsAsOne_rest S6) fun v8 S9 => if v8 = 0 then ml_690 xs L S9 (gy_T0 T (T3 1)) c else none else none else none
set_option maxRecDepth 20000 in
set_option maxHeartbeats 4000000 in
theorem bl_655 {Γ : gx_T} {ι : Nat → ClassId} {a : Nat → Nat} {ρ : Nat → Nat} {b0 L : Nat} {xs : Nat → Int32} (hx : gx_std vwCl (gty ι) (gx_cl Γ) (gx_ty Γ)) (C : gx_ok Γ code RL gx_U 40) (F : gl_fin Γ b0 ∧ gx_nL Γ = 12) (X : gx_scr Γ b0 L xs) {x5 : Int32} {s0 : Int32} {s1 : Int32} {t0 : Nat} {U : Nat → Int32} {S : gx_S} {T : gx_S} {c : Nat} (hc : c ≤ 3000) (h : ml_655 xs L x5 s0 s1 U S T c = some ()) : gx_G Γ (84 + c) (962 + 45 * c) 655 [.ref b0, .ref (a 0), .ref (ρ 0), .ref (ρ 1), .ref t0, .int x5, .null, .null, .null, .null, .null, .null] [.int s1, .int s0] (wX a ι S ++ (wR ρ ι T ++ wN ι t0 U)) := by
  obtain ⟨F, hnL⟩ := F
  have ht0 : (gx_ty Γ)[0]? = some (ι 0, .int) := by rw [hx.2]; rfl
  have hroom0 : ∀ c2 : Nat, c2 ≤ 3000 → 84 + c2 ≤ 600000 ∧ 962 + 45 * c2 ≤ 7302250 := fun c2 h => ⟨by omega, by omega⟩
  have hroom : ∀ c2 : Nat, c2 ≤ 3000 → 84 + c2 ≤ (gx_R Γ).cells ∧ 962 + 45 * c2 ≤ (gx_R Γ).slots := fun c2 h => by
    rw [F.2.2.2.2.1]
    exact hroom0 c2 h
  have hb := hroom _ hc
  unfold ml_655 at h
  refine gx_icmp_eq (tgt := 660) C dL_law_655 (by decide) (fun hc13 => ?_) (fun hc13 => ?_)
  · have h := gi_t hc13 h
    refine gx_iload C dL_law_660 rfl ?_
    refine gx_bipush (v := 20) C dL_law_662 (by decide) ?_
    refine gx_icmp_ge (tgt := 690) C dL_law_664 (by decide) (fun hc12 => ?_) (fun hc12 => ?_)
    · have h := gi_t hc12 h
      refine gy_dN ?_
      exact gx_weak (gx_le_k rfl (gx_le_k rfl (gx_le_k rfl (gx_le_k rfl (gx_le_n (gx_le_n (gx_le_n (gx_le_n (gx_le_n (gx_le_n (gx_le_n (gx_le_n gx_le_0)))))))))))) (bl_690 hx C ⟨F, hnL⟩ X hc h)
    · have h := gi_f hc12 h
      refine gx_aload C dL_law_667 rfl ?_
      refine gx_aload_2 C dL_law_669 rfl ?_
      obtain ⟨T3, e1, h⟩ := gi_cp h
      refine gy_VS C (cr_copy (gx_l Γ) (gx_D Γ) hx (gy_rd ρ t0) _ e1) (gx_cwS C gx_uu lk_L_81 (by decide) (by decide)) rfl rfl (Nat.le_of_ble_eq_true rfl) hb dL_law_670 py_d py_d1 ?_
      refine gx_aload_1 C dL_law_673 rfl ?_
      obtain ⟨v5, S6, e4, h⟩ := gi_cs h
      refine gc_IVf C (c_ShopsAsOne_otherwise (gx_l Γ) (gx_D Γ) hx a _ e4) (gx_cw C gx_uu lk_L_93 (by decide) (by decide)) (cls_X7 hx).1 (gs_recv (q := 0) lt_X_ShopsAsOne (oc_X_ShopsAsOne a ι _)) rfl rfl (Nat.le_of_ble_eq_true rfl) hb dL_law_674 ?_
      refine gx_iconstm1 C dL_law_677 ?_
      refine gx_icmp_ne (tgt := 688) C dL_law_678 (by decide) (fun hc11 => ?_) (fun hc11 => ?_)
      · have h := gi_f hc11 h
        refine gx_iconst0 C dL_law_688 ?_
        cases h
      · have h := gi_t hc11 h
        refine gx_aload_1 C dL_law_681 rfl ?_
        obtain ⟨v8, S9, e7, h⟩ := gi_cs h
        refine gc_IVf C (c_ShopsAsOne_rest (gx_l Γ) (gx_D Γ) hx a _ e7) (gx_cw C gx_uu lk_L_106 (by decide) (by decide)) (cls_X7 hx).1 (gs_recv (q := 0) lt_X_ShopsAsOne (oc_X_ShopsAsOne a ι _)) rfl rfl (Nat.le_of_ble_eq_true rfl) hb dL_law_682 ?_
        refine gx_if_eq (tgt := 690) C dL_law_685 (by decide) (fun hc10 => ?_) (fun hc10 => ?_)
        · have h := gi_t hc10 h
          refine gy_dN ?_
          exact gx_weak (gx_le_k rfl (gx_le_k rfl (gx_le_k rfl (gx_le_k rfl (gx_le_n (gx_le_n (gx_le_n (gx_le_n (gx_le_n (gx_le_n (gx_le_n (gx_le_n gx_le_0)))))))))))) (bl_690 hx C ⟨F, hnL⟩ X hc h)
        · have h := gi_f hc10 h
          refine gx_iconst0 C dL_law_688 ?_
          cases h
  · have h := gi_f hc13 h
    refine gx_iconst0 C dL_law_658 ?_
    cases h
def ml_33 (xs : Nat → Int32) (L : Nat) (t : Int32 × gx_S × gx_S × Nat) (k33 : Int32 × gx_S × gx_S × Nat → Option (Unit)) : Option (Unit) := match t with
  | (x4, S, T, c) => if 4 ≤ x4 then gy_lim 3000 (c + 1) (gx_cp (r_copy (gy_Tc T (fun _ => 0))) fun T6 => gy_lim 3000 (c + 1 + 240) (gx_cs (r_rest (gy_Tt (gy_T0 T (T6 0)) (T6 1))) fun v8 T11 => gx_cs (m_ShopsAsOne_rest S) fun v13 S14 => if 20 ≤ v8 then ml_655 xs L v8 v13 (-103) (T11 0) S14 (gy_T1 (gy_T0 T (T6 0)) T11) (c + 1 + 240) else ml_655 xs L v8 v13 v8 (T11 0) S14 (gy_T1 (gy_T0 T (T6 0)) T11) (c + 1 + 240))) else gx_loop (ml_45 xs L k33 x4) 5000 (0, 0, S, T, c)
set_option maxRecDepth 20000 in
set_option maxHeartbeats 4000000 in
theorem bl_33 {Γ : gx_T} {ι : Nat → ClassId} {a : Nat → Nat} {ρ : Nat → Nat} {b0 L : Nat} {xs : Nat → Int32} (hx : gx_std vwCl (gty ι) (gx_cl Γ) (gx_ty Γ)) (C : gx_ok Γ code RL gx_U 40) (F : gl_fin Γ b0 ∧ gx_nL Γ = 12) (X : gx_scr Γ b0 L xs) {k33 : Int32 × gx_S × gx_S × Nat → Option (Unit)} {x4 : Int32} {S : gx_S} {T : gx_S} {c : Nat} (hk33 : ∀ (x47 : Int32) (S7 : gx_S) (T7 : gx_S) (c7 : Nat), c7 ≤ 3000 → k33 (x47, S7, T7, c7) = some () → gx_G Γ (84 + c7) (962 + 45 * c7) 33 [.ref b0, .ref (a 0), .ref (ρ 0), .ref (ρ 1), .int x47, .null, .null, .null, .null, .null, .null, .null] [] (wX a ι S7 ++ wR ρ ι T7)) (hc : c ≤ 3000) (h : ml_33 xs L (x4, S, T, c) k33 = some ()) : gx_G Γ (84 + c) (962 + 45 * c) 33 [.ref b0, .ref (a 0), .ref (ρ 0), .ref (ρ 1), .int x4, .null, .null, .null, .null, .null, .null, .null] [] (wX a ι S ++ wR ρ ι T) := by
  obtain ⟨F, hnL⟩ := F
  have ht0 : (gx_ty Γ)[0]? = some (ι 0, .int) := by rw [hx.2]; rfl
  have hroom0 : ∀ c2 : Nat, c2 ≤ 3000 → 84 + c2 ≤ 600000 ∧ 962 + 45 * c2 ≤ 7302250 := fun c2 h => ⟨by omega, by omega⟩
  have hroom : ∀ c2 : Nat, c2 ≤ 3000 → 84 + c2 ≤ (gx_R Γ).cells ∧ 962 + 45 * c2 ≤ (gx_R Γ).slots := fun c2 h => by
    rw [F.2.2.2.2.1]
    exact hroom0 c2 h
  have hb := hroom _ hc
  unfold ml_33 at h
  dsimp only at h
  refine gx_iload C dL_law_33 rfl ?_
  refine gx_iconst4 C dL_law_35 ?_
  refine gx_icmp_ge (tgt := 617) C dL_law_36 (by decide) (fun hc16 => ?_) (fun hc16 => ?_)
  · have h := gi_t hc16 h
    refine gx_bipush (v := 45) C dL_law_617 (by decide) ?_
    obtain ⟨hl1, h⟩ := gi_lim h
    have hb2 := hroom _ hl1
    refine gy_newa (N := 45) C (gx_mu (gx_t_1 (List.mem_of_getElem? (i := 91) rfl)) rfl) ht0 (by decide) rfl (by decide) (Nat.le_trans (by omega) hb2.1) (Nat.le_trans (by omega) hb2.2) dL_law_619 (fun q3 => ?_)
    refine gx_widen (k' := 84 + (c + 1)) (n' := 962 + 45 * (c + 1)) (by omega) (by omega) ?_
    refine gx_world (ws' := (wX a ι S ++ (wR ρ ι T ++ wN ι q3 (fun _ => 0)))) (List.append_assoc _ _ _) ?_
    refine gx_astore C dL_law_621 (by rw [hnL]; decide) trivial ?_
    refine gx_Veq (V' := [.ref b0, .ref (a 0), .ref (ρ 0), .ref (ρ 1), .ref q3, .null, .null, .null, .null, .null, .null, .null]) rfl ?_
    refine gx_aload_2 C dL_law_623 rfl ?_
    refine gx_aload C dL_law_624 rfl ?_
    obtain ⟨T6, e4, h⟩ := gi_cp h
    refine gy_VS C (cr_copy (gx_l Γ) (gx_D Γ) hx (gy_rc ρ q3) _ e4) (gx_cwS C gx_uu lk_L_81 (by decide) (by decide)) rfl rfl (Nat.le_of_ble_eq_true rfl) hb2 dL_law_626 py_c py_c1 ?_
    refine gx_aload C dL_law_629 rfl ?_
    refine gx_aload_3 C dL_law_631 rfl ?_
    obtain ⟨hl9, h⟩ := gi_lim h
    have hb10 := hroom _ hl9
    obtain ⟨v8, T11, e7, h⟩ := gi_cs h
    refine gy_callS C (cr_rest (gx_l Γ) (gx_D Γ) hx (gy_rt ρ q3) _ e7) trivial gx_uu lk_L_102 (by decide) (by decide) rfl rfl (Nat.le_of_ble_eq_true rfl) ⟨Nat.le_trans (by omega) hb10.1, Nat.le_trans (by omega) hb10.2⟩ dL_law_632 py_t py_t1 ?_
    refine gx_widen (k' := 84 + (c + 1 + 240)) (n' := 962 + 45 * (c + 1 + 240)) (by omega) (by omega) ?_
    refine gx_istore C dL_law_635 (by rw [hnL]; decide) trivial ?_
    refine gx_aload_1 C dL_law_637 rfl ?_
    obtain ⟨v13, S14, e12, h⟩ := gi_cs h
    refine gc_IVf C (c_ShopsAsOne_rest (gx_l Γ) (gx_D Γ) hx a _ e12) (gx_cw C gx_uu lk_L_106 (by decide) (by decide)) (cls_X7 hx).1 (gs_recv (q := 0) lt_X_ShopsAsOne (oc_X_ShopsAsOne a ι _)) rfl rfl (Nat.le_of_ble_eq_true rfl) hb10 dL_law_638 ?_
    refine gx_iload C dL_law_641 rfl ?_
    refine gx_bipush (v := 20) C dL_law_643 (by decide) ?_
    refine gx_icmp_ge (tgt := 653) C dL_law_645 (by decide) (fun hc15 => ?_) (fun hc15 => ?_)
    · have h := gi_t hc15 h
      refine gx_bipush (v := (-103)) C dL_law_653 (by decide) ?_
      exact gx_weak (gx_le_k rfl (gx_le_k rfl (gx_le_k rfl (gx_le_k rfl (gx_le_k rfl (gx_le_k rfl (gx_le_n (gx_le_n (gx_le_n (gx_le_n (gx_le_n (gx_le_n gx_le_0)))))))))))) (bl_655 hx C ⟨F, hnL⟩ X hl9 h)
    · have h := gi_f hc15 h
      refine gx_iload C dL_law_648 rfl ?_
      refine gx_goto (tgt := 655) C dL_law_650 (by decide) ?_
      exact gx_weak (gx_le_k rfl (gx_le_k rfl (gx_le_k rfl (gx_le_k rfl (gx_le_k rfl (gx_le_k rfl (gx_le_n (gx_le_n (gx_le_n (gx_le_n (gx_le_n (gx_le_n gx_le_0)))))))))))) (bl_655 hx C ⟨F, hnL⟩ X hl9 h)
  · have h := gi_f hc16 h
    refine gx_iconst0 C dL_law_39 ?_
    refine gx_istore C dL_law_40 (by rw [hnL]; decide) trivial ?_
    refine gx_iconst0 C dL_law_42 ?_
    refine gx_istore C dL_law_43 (by rw [hnL]; decide) trivial ?_
    refine gx_weak (gx_le_k rfl (gx_le_k rfl (gx_le_k rfl (gx_le_k rfl (gx_le_k rfl (gx_le_k rfl (gx_le_k rfl (gx_le_n (gx_le_n (gx_le_n (gx_le_n (gx_le_n gx_le_0)))))))))))) (gi_loop (P := fun t => t.2.2.2.2 ≤ 3000 → gx_G Γ (84 + t.2.2.2.2) (962 + 45 * t.2.2.2.2) 45 [.ref b0, .ref (a 0), .ref (ρ 0), .ref (ρ 1), .int x4, .int t.1, .int t.2.1, .null, .null, .null, .null, .null] [] (wX a ι t.2.2.1 ++ wR ρ ι t.2.2.2.1)) (fun kk t hk h => ?_) 5000 _ h hc)
    obtain ⟨x59, x69, S9, T9, c9⟩ := t
    intro hc9
    exact bl_45 hx C ⟨F, hnL⟩ X hk33 (k45 := kk) (fun x58 x68 S8 T8 c8 hc8 h => hk (x58, x68, S8, T8, c8) h hc8) hc9 h
def ml (xs : Nat → Int32) (L : Nat) (S : gx_S) (T : gx_S) : Option (Unit) := gx_cp (r_tell xs L S T) fun z3 => if (1 : Int32) = 0 then none else gx_loop (ml_33 xs L) 5000 (0, z3.1, z3.2, 0)
set_option maxRecDepth 20000 in
set_option maxHeartbeats 4000000 in
theorem bl {Γ : gx_T} {ι : Nat → ClassId} {a : Nat → Nat} {ρ : Nat → Nat} {b0 L : Nat} {xs : Nat → Int32} (hx : gx_std vwCl (gty ι) (gx_cl Γ) (gx_ty Γ)) (C : gx_ok Γ code RL gx_U 40) (F : gl_fin Γ b0 ∧ gx_nL Γ = 12) (X : gx_scr Γ b0 L xs) {S : gx_S} {T : gx_S} (h : ml xs L S T = some ()) : gx_G Γ (84 + 0) (962 + 45 * 0) 18 [.ref b0, .ref (a 0), .ref (ρ 0), .ref (ρ 1), .null, .null, .null, .null, .null, .null, .null, .null] [] (wX a ι S ++ wR ρ ι T) := by
  have hc : 0 ≤ 3000 := Nat.zero_le _
  obtain ⟨F, hnL⟩ := F
  have ht0 : (gx_ty Γ)[0]? = some (ι 0, .int) := by rw [hx.2]; rfl
  have hroom0 : ∀ c2 : Nat, c2 ≤ 3000 → 84 + c2 ≤ 600000 ∧ 962 + 45 * c2 ≤ 7302250 := fun c2 h => ⟨by omega, by omega⟩
  have hroom : ∀ c2 : Nat, c2 ≤ 3000 → 84 + c2 ≤ (gx_R Γ).cells ∧ 962 + 45 * c2 ≤ (gx_R Γ).slots := fun c2 h => by
    rw [F.2.2.2.2.1]
    exact hroom0 c2 h
  have hb := hroom _ hc
  unfold ml at h
  refine gx_aload_1 C dL_law_18 rfl ?_
  refine gx_aload_0 C dL_law_19 rfl ?_
  refine gx_aload_2 C dL_law_20 rfl ?_
  refine gx_aload_3 C dL_law_21 rfl ?_
  obtain ⟨z3, e1, h⟩ := gi_cp h
  refine gy_callS (w2 := []) (ws1 := (wX a ι z3.1 ++ wR ρ ι z3.2)) C (cr_tell (gx_l Γ) (gx_D Γ) hx a ρ _ _ e1) X gx_uu lk_L_58 (by decide) (by decide) rfl rfl (Nat.le_of_ble_eq_true rfl) hb dL_law_22 (by rw [List.append_nil]) (by rw [List.append_nil]) ?_
  refine gx_if_ne (tgt := 30) C dL_law_25 (by decide) (fun hc4 => ?_) (fun hc4 => ?_)
  · have h := gi_f hc4 h
    refine gx_iconst0 C dL_law_30 ?_
    refine gx_istore C dL_law_31 (by rw [hnL]; decide) trivial ?_
    refine gx_weak (gx_le_k rfl (gx_le_k rfl (gx_le_k rfl (gx_le_k rfl (gx_le_k rfl (gx_le_n (gx_le_n (gx_le_n (gx_le_n (gx_le_n (gx_le_n (gx_le_n gx_le_0)))))))))))) (gi_loop (P := fun t => t.2.2.2 ≤ 3000 → gx_G Γ (84 + t.2.2.2) (962 + 45 * t.2.2.2) 33 [.ref b0, .ref (a 0), .ref (ρ 0), .ref (ρ 1), .int t.1, .null, .null, .null, .null, .null, .null, .null] [] (wX a ι t.2.1 ++ wR ρ ι t.2.2.1)) (fun kk t hk h => ?_) 5000 _ h hc)
    obtain ⟨x49, S9, T9, c9⟩ := t
    intro hc9
    exact bl_33 hx C ⟨F, hnL⟩ X (k33 := kk) (fun x48 S8 T8 c8 hc8 h => hk (x48, S8, T8, c8) h hc8) hc9 h
  · have h := gi_t hc4 h
    refine gx_iconst0 C dL_law_28 ?_
    cases h

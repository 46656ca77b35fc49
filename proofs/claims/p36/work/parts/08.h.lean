def r_tell_102 (xs : Nat → Int32) (L : Nat) (k33 : Int32 × gx_S × gx_S → Option (gx_S × gx_S)) (x4 : Int32) (x5 : Int32) (s1 : Int32) (s2 : Int32) (s3 : Int32) (S : gx_S) (T : gx_S) : Option (gx_S × gx_S) := gx_nz s3 (gx_ck 45 s1 (gx_let (gx_st T 0 s1.toNatClampNeg (s2 - s2 / s3 * s3)) fun T3 => gx_ck 45 ((3 : Int32) + x5) (gx_ck 45 ((9 : Int32) + x5) (gx_cs (m_ShopsAsOne_owner (T3 0 ((3 : Int32) + x5).toNatClampNeg) (T3 0 ((9 : Int32) + x5).toNatClampNeg) S) fun v8 S9 => if v8 = x5 then k33 ((x5 + 1), S9, T3) else none))))
set_option maxRecDepth 20000 in
set_option maxHeartbeats 4000000 in
theorem br_tell_102 {Γ : gx_T} {ι : Nat → ClassId} {a : Nat → Nat} {ρ : Nat → Nat} {b0 L : Nat} {xs : Nat → Int32} {out : gx_S × gx_S} (hx : gx_std vwCl (gty ι) (gx_cl Γ) (gx_ty Γ)) (C : gx_ok Γ cL_tell RL gx_U 4) (F : gy_fin Γ (some .boolean) (fun z : gx_S × gx_S => wX a ι z.1 ++ wR ρ ι z.2) (1, out) 0 0 ∧ gx_nL Γ = 11) (X : gx_scr Γ b0 L xs) {k33 : Int32 × gx_S × gx_S → Option (gx_S × gx_S)} {x4 : Int32} {x5 : Int32} {s1 : Int32} {s2 : Int32} {s3 : Int32} {S : gx_S} {T : gx_S} (hk33 : ∀ (x57 : Int32) (S7 : gx_S) (T7 : gx_S), k33 (x57, S7, T7) = some out → gx_G Γ 0 0 33 [.ref (a 0), .ref b0, .ref (ρ 0), .ref (ρ 1), .int x4, .int x57, .null, .null, .null, .null, .null] [] (wX a ι S7 ++ wR ρ ι T7)) (h : r_tell_102 xs L k33 x4 x5 s1 s2 s3 S T = some out) : gx_G Γ 0 0 102 [.ref (a 0), .ref b0, .ref (ρ 0), .ref (ρ 1), .int x4, .int x5, .null, .null, .null, .null, .null] [.int s3, .int s2, .int s1, .ref (ρ 0)] (wX a ι S ++ wR ρ ι T) := by
  obtain ⟨F, hnL⟩ := F
  have ht0 : (gx_ty Γ)[0]? = some (ι 0, .int) := by rw [hx.2]; rfl
  unfold r_tell_102 at h
  obtain ⟨hz1, h⟩ := gi_nz h
  refine gx_irem C dL_tell_102 hz1 ?_
  obtain ⟨hi2, h⟩ := gi_ck h
  obtain ⟨T3, e4, h⟩ := gi_let h
  refine gy_iast C py_s0 ht0 hi2 dL_tell_103 py_u0 ?_
  rw [← e4]
  refine gx_aload_0 C dL_tell_104 rfl ?_
  refine gx_aload_2 C dL_tell_105 rfl ?_
  refine gx_iconst3 C dL_tell_106 ?_
  refine gx_iload C dL_tell_107 rfl ?_
  refine gx_iadd C dL_tell_109 ?_
  obtain ⟨hi5, h⟩ := gi_ck h
  refine gy_iald C my_0 ht0 hi5 dL_tell_110 ?_
  refine gx_aload_2 C dL_tell_111 rfl ?_
  refine gx_bipush (v := 9) C dL_tell_112 (by decide) ?_
  refine gx_iload C dL_tell_114 rfl ?_
  refine gx_iadd C dL_tell_116 ?_
  obtain ⟨hi6, h⟩ := gi_ck h
  refine gy_iald C my_0 ht0 hi6 dL_tell_117 ?_
  obtain ⟨v8, S9, e7, h⟩ := gi_cs h
  refine gc_IVf C (c_ShopsAsOne_owner (gx_l Γ) (gx_D Γ) hx a _ _ _ e7) (gx_cw C gx_uu lk_L_20 (by decide) (by decide)) (cls_X7 hx).1 (gs_recv (q := 0) lt_X_ShopsAsOne (oc_X_ShopsAsOne a ι _)) rfl rfl (Nat.le_of_ble_eq_true rfl) ⟨Nat.zero_le _, Nat.zero_le _⟩ dL_tell_118 ?_
  refine gx_iload C dL_tell_121 rfl ?_
  refine gx_icmp_eq (tgt := 128) C dL_tell_123 (by decide) (fun hc10 => ?_) (fun hc10 => ?_)
  · have h := gi_t hc10 h
    refine gx_iinc1 C dL_tell_128 rfl (by rw [hnL]; decide) trivial ?_
    refine gx_goto (tgt := 33) C dL_tell_131 (by decide) ?_
    exact gx_weak (gx_le_k rfl (gx_le_k rfl (gx_le_k rfl (gx_le_k rfl (gx_le_k rfl (gx_le_k rfl (gx_le_n (gx_le_n (gx_le_n (gx_le_n (gx_le_n gx_le_0))))))))))) (hk33 _ _ _ h)
  · have h := gi_f hc10 h
    refine gx_iconst0 C dL_tell_126 ?_
    cases h
def r_tell_73 (xs : Nat → Int32) (L : Nat) (k33 : Int32 × gx_S × gx_S → Option (gx_S × gx_S)) (x4 : Int32) (x5 : Int32) (x6 : Int32) (s1 : Int32) (s2 : Int32) (S : gx_S) (T : gx_S) : Option (gx_S × gx_S) := gx_ck 45 s1 (gx_let (gx_st T 0 s1.toNatClampNeg s2) fun T2 => gx_ck 45 ((3 : Int32) + x5) (if (T2 0 ((3 : Int32) + x5).toNatClampNeg) = 3 then r_tell_102 xs L k33 x4 x5 ((9 : Int32) + x5) (x6 / 16) 6 S T2 else r_tell_102 xs L k33 x4 x5 ((9 : Int32) + x5) (x6 / 16) 60 S T2))
set_option maxRecDepth 20000 in
set_option maxHeartbeats 4000000 in
theorem br_tell_73 {Γ : gx_T} {ι : Nat → ClassId} {a : Nat → Nat} {ρ : Nat → Nat} {b0 L : Nat} {xs : Nat → Int32} {out : gx_S × gx_S} (hx : gx_std vwCl (gty ι) (gx_cl Γ) (gx_ty Γ)) (C : gx_ok Γ cL_tell RL gx_U 4) (F : gy_fin Γ (some .boolean) (fun z : gx_S × gx_S => wX a ι z.1 ++ wR ρ ι z.2) (1, out) 0 0 ∧ gx_nL Γ = 11) (X : gx_scr Γ b0 L xs) {k33 : Int32 × gx_S × gx_S → Option (gx_S × gx_S)} {x4 : Int32} {x5 : Int32} {x6 : Int32} {s1 : Int32} {s2 : Int32} {S : gx_S} {T : gx_S} (hk33 : ∀ (x57 : Int32) (S7 : gx_S) (T7 : gx_S), k33 (x57, S7, T7) = some out → gx_G Γ 0 0 33 [.ref (a 0), .ref b0, .ref (ρ 0), .ref (ρ 1), .int x4, .int x57, .null, .null, .null, .null, .null] [] (wX a ι S7 ++ wR ρ ι T7)) (h : r_tell_73 xs L k33 x4 x5 x6 s1 s2 S T = some out) : gx_G Γ 0 0 73 [.ref (a 0), .ref b0, .ref (ρ 0), .ref (ρ 1), .int x4, .int x5, .int x6, .null, .null, .null, .null] [.int s2, .int s1, .ref (ρ 0)] (wX a ι S ++ wR ρ ι T) := by
  obtain ⟨F, hnL⟩ := F
  have ht0 : (gx_ty Γ)[0]? = some (ι 0, .int) := by rw [hx.2]; rfl
  unfold r_tell_73 at h
  obtain ⟨hi1, h⟩ := gi_ck h
  obtain ⟨T2, e3, h⟩ := gi_let h
  refine gy_iast C py_s0 ht0 hi1 dL_tell_73 py_u0 ?_
  rw [← e3]
  refine gx_aload_2 C dL_tell_74 rfl ?_
  refine gx_bipush (v := 9) C dL_tell_75 (by decide) ?_
  refine gx_iload C dL_tell_77 rfl ?_
  refine gx_iadd C dL_tell_79 ?_
  refine gx_iload C dL_tell_80 rfl ?_
  refine gx_bipush (v := 16) C dL_tell_82 (by decide) ?_
  refine gx_idiv C dL_tell_84 (by decide) ?_
  refine gx_aload_2 C dL_tell_85 rfl ?_
  refine gx_iconst3 C dL_tell_86 ?_
  refine gx_iload C dL_tell_87 rfl ?_
  refine gx_iadd C dL_tell_89 ?_
  obtain ⟨hi4, h⟩ := gi_ck h
  refine gy_iald C my_0 ht0 hi4 dL_tell_90 ?_
  refine gx_iconst3 C dL_tell_91 ?_
  refine gx_icmp_ne (tgt := 100) C dL_tell_92 (by decide) (fun hc5 => ?_) (fun hc5 => ?_)
  · have h := gi_f hc5 h
    refine gx_bipush (v := 60) C dL_tell_100 (by decide) ?_
    exact gx_weak (gx_le_k rfl (gx_le_k rfl (gx_le_k rfl (gx_le_k rfl (gx_le_k rfl (gx_le_k rfl (gx_le_n (gx_le_n (gx_le_n (gx_le_n (gx_le_n gx_le_0))))))))))) (br_tell_102 hx C ⟨F, hnL⟩ X hk33 h)
  · have h := gi_t hc5 h
    refine gx_bipush (v := 6) C dL_tell_95 (by decide) ?_
    refine gx_goto (tgt := 102) C dL_tell_97 (by decide) ?_
    exact gx_weak (gx_le_k rfl (gx_le_k rfl (gx_le_k rfl (gx_le_k rfl (gx_le_k rfl (gx_le_k rfl (gx_le_n (gx_le_n (gx_le_n (gx_le_n (gx_le_n gx_le_0))))))))))) (br_tell_102 hx C ⟨F, hnL⟩ X hk33 h)
def r_tell_205 (xs : Nat → Int32) (L : Nat) (k147 : Int32 × gx_S × gx_S → Option (gx_S × gx_S)) (k178 : Int32 × Int32 × gx_S × gx_S → Option (gx_S × gx_S)) (x5 : Int32) (x6 : Int32) (x7 : Int32) (x8 : Int32) (x10 : Int32) (s0 : Int32) (s1 : Int32) (S : gx_S) (T : gx_S) : Option (gx_S × gx_S) := k178 ((s0 + s1), (x10 + 1), S, T)
set_option maxRecDepth 20000 in
set_option maxHeartbeats 4000000 in
theorem br_tell_205 {Γ : gx_T} {ι : Nat → ClassId} {a : Nat → Nat} {ρ : Nat → Nat} {b0 L : Nat} {xs : Nat → Int32} {out : gx_S × gx_S} (hx : gx_std vwCl (gty ι) (gx_cl Γ) (gx_ty Γ)) (C : gx_ok Γ cL_tell RL gx_U 4) (F : gy_fin Γ (some .boolean) (fun z : gx_S × gx_S => wX a ι z.1 ++ wR ρ ι z.2) (1, out) 0 0 ∧ gx_nL Γ = 11) (X : gx_scr Γ b0 L xs) {k147 : Int32 × gx_S × gx_S → Option (gx_S × gx_S)} {k178 : Int32 × Int32 × gx_S × gx_S → Option (gx_S × gx_S)} {x5 : Int32} {x6 : Int32} {x7 : Int32} {x8 : Int32} {x10 : Int32} {s0 : Int32} {s1 : Int32} {S : gx_S} {T : gx_S} (hk147 : ∀ (x67 : Int32) (S7 : gx_S) (T7 : gx_S), k147 (x67, S7, T7) = some out → gx_G Γ 0 0 147 [.ref (a 0), .ref b0, .ref (ρ 0), .ref (ρ 1), .null, .int x5, .int x67, .null, .null, .null, .null] [] (wX a ι S7 ++ wR ρ ι T7)) (hk178 : ∀ (x97 : Int32) (x107 : Int32) (S7 : gx_S) (T7 : gx_S), k178 (x97, x107, S7, T7) = some out → gx_G Γ 0 0 178 [.ref (a 0), .ref b0, .ref (ρ 0), .ref (ρ 1), .null, .int x5, .int x6, .int x7, .int x8, .int x97, .int x107] [] (wX a ι S7 ++ wR ρ ι T7)) (h : r_tell_205 xs L k147 k178 x5 x6 x7 x8 x10 s0 s1 S T = some out) : gx_G Γ 0 0 205 [.ref (a 0), .ref b0, .ref (ρ 0), .ref (ρ 1), .null, .int x5, .int x6, .int x7, .int x8, .null, .int x10] [.int s1, .int s0] (wX a ι S ++ wR ρ ι T) := by
  obtain ⟨F, hnL⟩ := F
  have ht0 : (gx_ty Γ)[0]? = some (ι 0, .int) := by rw [hx.2]; rfl
  unfold r_tell_205 at h
  refine gx_iadd C dL_tell_205 ?_
  refine gx_istore C dL_tell_206 (by rw [hnL]; decide) trivial ?_
  refine gx_iinc1 C dL_tell_208 rfl (by rw [hnL]; decide) trivial ?_
  refine gx_goto (tgt := 178) C dL_tell_211 (by decide) ?_
  exact gx_weak (gx_le_k rfl (gx_le_k rfl (gx_le_k rfl (gx_le_k rfl (gx_le_n (gx_le_k rfl (gx_le_k rfl (gx_le_k rfl (gx_le_k rfl (gx_le_k rfl (gx_le_k rfl gx_le_0))))))))))) (hk178 _ _ _ _ h)
def r_tell_334 (xs : Nat → Int32) (L : Nat) (k147 : Int32 × gx_S × gx_S → Option (gx_S × gx_S)) (x5 : Int32) (x6 : Int32) (s1 : Int32) (s2 : Int32) (s3 : Int32) (S : gx_S) (T : gx_S) : Option (gx_S × gx_S) := gx_ck 45 s1 (gx_let (gx_st T 0 s1.toNatClampNeg (s2 + s3)) fun T2 => k147 ((x6 + 1), S, T2))
set_option maxRecDepth 20000 in
set_option maxHeartbeats 4000000 in
theorem br_tell_334 {Γ : gx_T} {ι : Nat → ClassId} {a : Nat → Nat} {ρ : Nat → Nat} {b0 L : Nat} {xs : Nat → Int32} {out : gx_S × gx_S} (hx : gx_std vwCl (gty ι) (gx_cl Γ) (gx_ty Γ)) (C : gx_ok Γ cL_tell RL gx_U 4) (F : gy_fin Γ (some .boolean) (fun z : gx_S × gx_S => wX a ι z.1 ++ wR ρ ι z.2) (1, out) 0 0 ∧ gx_nL Γ = 11) (X : gx_scr Γ b0 L xs) {k147 : Int32 × gx_S × gx_S → Option (gx_S × gx_S)} {x5 : Int32} {x6 : Int32} {s1 : Int32} {s2 : Int32} {s3 : Int32} {S : gx_S} {T : gx_S} (hk147 : ∀ (x67 : Int32) (S7 : gx_S) (T7 : gx_S), k147 (x67, S7, T7) = some out → gx_G Γ 0 0 147 [.ref (a 0), .ref b0, .ref (ρ 0), .ref (ρ 1), .null, .int x5, .int x67, .null, .null, .null, .null] [] (wX a ι S7 ++ wR ρ ι T7)) (h : r_tell_334 xs L k147 x5 x6 s1 s2 s3 S T = some out) : gx_G Γ 0 0 334 [.ref (a 0), .ref b0, .ref (ρ 0), .ref (ρ 1), .null, .int x5, .int x6, .null, .null, .null, .null] [.int s3, .int s2, .int s1, .ref (ρ 0)] (wX a ι S ++ wR ρ ι T) := by
  obtain ⟨F, hnL⟩ := F
  have ht0 : (gx_ty Γ)[0]? = some (ι 0, .int) := by rw [hx.2]; rfl
  unfold r_tell_334 at h
  refine gx_iadd C dL_tell_334 ?_
  obtain ⟨hi1, h⟩ := gi_ck h
  obtain ⟨T2, e3, h⟩ := gi_let h
  refine gy_iast C py_s0 ht0 hi1 dL_tell_335 py_u0 ?_
  rw [← e3]
  refine gx_iinc1 C dL_tell_336 rfl (by rw [hnL]; decide) trivial ?_
  refine gx_goto (tgt := 147) C dL_tell_339 (by decide) ?_
  exact gx_weak (gx_le_k rfl (gx_le_k rfl (gx_le_k rfl (gx_le_k rfl (gx_le_n (gx_le_k rfl (gx_le_k rfl (gx_le_n (gx_le_n (gx_le_n (gx_le_n gx_le_0))))))))))) (hk147 _ _ _ h)
def r_tell_314 (xs : Nat → Int32) (L : Nat) (k147 : Int32 × gx_S × gx_S → Option (gx_S × gx_S)) (x5 : Int32) (x6 : Int32) (x9 : Int32) (s0 : Int32) (s1 : Int32) (S : gx_S) (T : gx_S) : Option (gx_S × gx_S) := if s0 = s1 then gx_ck 45 (1 : Int32) (if x9 = 3 then r_tell_334 xs L k147 x5 x6 1 (T 0 (1 : Int32).toNatClampNeg) 0 S T else r_tell_334 xs L k147 x5 x6 1 (T 0 (1 : Int32).toNatClampNeg) 1 S T) else none
set_option maxRecDepth 20000 in
set_option maxHeartbeats 4000000 in
theorem br_tell_314 {Γ : gx_T} {ι : Nat → ClassId} {a : Nat → Nat} {ρ : Nat → Nat} {b0 L : Nat} {xs : Nat → Int32} {out : gx_S × gx_S} (hx : gx_std vwCl (gty ι) (gx_cl Γ) (gx_ty Γ)) (C : gx_ok Γ cL_tell RL gx_U 4) (F : gy_fin Γ (some .boolean) (fun z : gx_S × gx_S => wX a ι z.1 ++ wR ρ ι z.2) (1, out) 0 0 ∧ gx_nL Γ = 11) (X : gx_scr Γ b0 L xs) {k147 : Int32 × gx_S × gx_S → Option (gx_S × gx_S)} {x5 : Int32} {x6 : Int32} {x9 : Int32} {s0 : Int32} {s1 : Int32} {S : gx_S} {T : gx_S} (hk147 : ∀ (x67 : Int32) (S7 : gx_S) (T7 : gx_S), k147 (x67, S7, T7) = some out → gx_G Γ 0 0 147 [.ref (a 0), .ref b0, .ref (ρ 0), .ref (ρ 1), .null, .int x5, .int x67, .null, .null, .null, .null] [] (wX a ι S7 ++ wR ρ ι T7)) (h : r_tell_314 xs L k147 x5 x6 x9 s0 s1 S T = some out) : gx_G Γ 0 0 314 [.ref (a 0), .ref b0, .ref (ρ 0), .ref (ρ 1), .null, .int x5, .int x6, .null, .null, .int x9, .null] [.int s1, .int s0] (wX a ι S ++ wR ρ ι T) := by
  obtain ⟨F, hnL⟩ := F
  have ht0 : (gx_ty Γ)[0]? = some (ι 0, .int) := by rw [hx.2]; rfl
  unfold r_tell_314 at h
  refine gx_icmp_eq (tgt := 319) C dL_tell_314 (by decide) (fun hc3 => ?_) (fun hc3 => ?_)
  · have h := gi_t hc3 h
    refine gx_aload_2 C dL_tell_319 rfl ?_
    refine gx_iconst1 C dL_tell_320 ?_
    refine gx_dup2 C dL_tell_321 rfl rfl ?_
    obtain ⟨hi1, h⟩ := gi_ck h
    refine gy_iald C my_0 ht0 hi1 dL_tell_322 ?_
    refine gx_iload C dL_tell_323 rfl ?_
    refine gx_iconst3 C dL_tell_325 ?_
    refine gx_icmp_ne (tgt := 333) C dL_tell_326 (by decide) (fun hc2 => ?_) (fun hc2 => ?_)
    · have h := gi_f hc2 h
      refine gx_iconst1 C dL_tell_333 ?_
      exact gx_weak (gx_le_k rfl (gx_le_k rfl (gx_le_k rfl (gx_le_k rfl (gx_le_n (gx_le_k rfl (gx_le_k rfl (gx_le_n (gx_le_n (gx_le_n (gx_le_n gx_le_0))))))))))) (br_tell_334 hx C ⟨F, hnL⟩ X hk147 h)
    · have h := gi_t hc2 h
      refine gx_iconst0 C dL_tell_329 ?_
      refine gx_goto (tgt := 334) C dL_tell_330 (by decide) ?_
      exact gx_weak (gx_le_k rfl (gx_le_k rfl (gx_le_k rfl (gx_le_k rfl (gx_le_n (gx_le_k rfl (gx_le_k rfl (gx_le_n (gx_le_n (gx_le_n (gx_le_n gx_le_0))))))))))) (br_tell_334 hx C ⟨F, hnL⟩ X hk147 h)
  · have h := gi_f hc3 h
    refine gx_iconst0 C dL_tell_317 ?_
    cases h
def r_tell_178 (xs : Nat → Int32) (L : Nat) (k147 : Int32 × gx_S × gx_S → Option (gx_S × gx_S)) (x5 : Int32) (x6 : Int32) (x7 : Int32) (x8 : Int32) (t : Int32 × Int32 × gx_S × gx_S) (k178 : Int32 × Int32 × gx_S × gx_S → Option (gx_S × gx_S)) : Option (gx_S × gx_S) := match t with
  | (x9, x10, S, T) => gx_ck 45 (1 : Int32) (if (T 0 (1 : Int32).toNatClampNeg) ≤ x10 then gx_ck 45 ((15 : Int32) + (T 0 (1 : Int32).toNatClampNeg)) (gx_let (gx_st T 0 ((15 : Int32) + (T 0 (1 : Int32).toNatClampNeg)).toNatClampNeg ((x7 / 8) - (x7 / 8) / 10 * 10)) fun T3 => gx_ck 45 ((21 : Int32) + (T 0 (1 : Int32).toNatClampNeg)) (gx_let (gx_st T3 0 ((21 : Int32) + (T 0 (1 : Int32).toNatClampNeg)).toNatClampNeg ((x7 / 128) - (x7 / 128) / 5 * 5)) fun T6 => gx_ck 45 ((27 : Int32) + (T 0 (1 : Int32).toNatClampNeg)) (gx_let (gx_st T6 0 ((27 : Int32) + (T 0 (1 : Int32).toNatClampNeg)).toNatClampNeg ((x7 / 1024) - (x7 / 1024) / 10 * 10)) fun T9 => gx_ck 45 ((33 : Int32) + (T 0 (1 : Int32).toNatClampNeg)) (gx_let (gx_st T9 0 ((33 : Int32) + (T 0 (1 : Int32).toNatClampNeg)).toNatClampNeg x8) fun T12 => gx_cs (m_ShopsAsOne_shop x8 (T12 0 ((15 : Int32) + (T 0 (1 : Int32).toNatClampNeg)).toNatClampNeg) (T12 0 ((21 : Int32) + (T 0 (1 : Int32).toNatClampNeg)).toNatClampNeg) (T12 0 ((27 : Int32) + (T 0 (1 : Int32).toNatClampNeg)).toNatClampNeg) S) fun v15 S16 => if x9 = 3 then r_tell_314 xs L k147 x5 x6 x9 v15 (-104) S16 T12 else r_tell_314 xs L k147 x5 x6 x9 v15 (T 0 (1 : Int32).toNatClampNeg) S16 T12)))) else gx_ck 45 ((33 : Int32) + x10) (if (T 0 ((33 : Int32) + x10).toNatClampNeg) = x8 then r_tell_205 xs L k147 k178 x5 x6 x7 x8 x10 x9 1 S T else r_tell_205 xs L k147 k178 x5 x6 x7 x8 x10 x9 0 S T))
set_option maxRecDepth 20000 in
set_option maxHeartbeats 4000000 in
theorem br_tell_178 {Γ : gx_T} {ι : Nat → ClassId} {a : Nat → Nat} {ρ : Nat → Nat} {b0 L : Nat} {xs : Nat → Int32} {out : gx_S × gx_S} (hx : gx_std vwCl (gty ι) (gx_cl Γ) (gx_ty Γ)) (C : gx_ok Γ cL_tell RL gx_U 4) (F : gy_fin Γ (some .boolean) (fun z : gx_S × gx_S => wX a ι z.1 ++ wR ρ ι z.2) (1, out) 0 0 ∧ gx_nL Γ = 11) (X : gx_scr Γ b0 L xs) {k147 : Int32 × gx_S × gx_S → Option (gx_S × gx_S)} {k178 : Int32 × Int32 × gx_S × gx_S → Option (gx_S × gx_S)} {x5 : Int32} {x6 : Int32} {x7 : Int32} {x8 : Int32} {x9 : Int32} {x10 : Int32} {S : gx_S} {T : gx_S} (hk147 : ∀ (x67 : Int32) (S7 : gx_S) (T7 : gx_S), k147 (x67, S7, T7) = some out → gx_G Γ 0 0 147 [.ref (a 0), .ref b0, .ref (ρ 0), .ref (ρ 1), .null, .int x5, .int x67, .null, .null, .null, .null] [] (wX a ι S7 ++ wR ρ ι T7)) (hk178 : ∀ (x97 : Int32) (x107 : Int32) (S7 : gx_S) (T7 : gx_S), k178 (x97, x107, S7, T7) = some out → gx_G Γ 0 0 178 [.ref (a 0), .ref b0, .ref (ρ 0), .ref (ρ 1), .null, .int x5, .int x6, .int x7, .int x8, .int x97, .int x107] [] (wX a ι S7 ++ wR ρ ι T7)) (h : r_tell_178 xs L k147 x5 x6 x7 x8 (x9, x10, S, T) k178 = some out) : gx_G Γ 0 0 178 [.ref (a 0), .ref b0, .ref (ρ 0), .ref (ρ 1), .null, .int x5, .int x6, .int x7, .int x8, .int x9, .int x10] [] (wX a ι S ++ wR ρ ι T) := by
  obtain ⟨F, hnL⟩ := F
  have ht0 : (gx_ty Γ)[0]? = some (ι 0, .int) := by rw [hx.2]; rfl
  unfold r_tell_178 at h
  dsimp only at h
  refine gx_iload C dL_tell_178 rfl ?_
  refine gx_aload_2 C dL_tell_180 rfl ?_
  refine gx_iconst1 C dL_tell_181 ?_
  obtain ⟨hi1, h⟩ := gi_ck h
  refine gy_iald C my_0 ht0 hi1 dL_tell_182 ?_
  refine gx_icmp_ge (tgt := 214) C dL_tell_183 (by decide) (fun hc20 => ?_) (fun hc20 => ?_)
  · have h := gi_t hc20 h
    refine gx_aload_2 C dL_tell_214 rfl ?_
    refine gx_iconst1 C dL_tell_215 ?_
    refine gy_iald C my_0 ht0 hi1 dL_tell_216 ?_
    refine gx_istore C dL_tell_217 (by rw [hnL]; decide) trivial ?_
    refine gx_aload_2 C dL_tell_219 rfl ?_
    refine gx_bipush (v := 15) C dL_tell_220 (by decide) ?_
    refine gx_iload C dL_tell_222 rfl ?_
    refine gx_iadd C dL_tell_224 ?_
    refine gx_iload C dL_tell_225 rfl ?_
    refine gx_bipush (v := 8) C dL_tell_227 (by decide) ?_
    refine gx_idiv C dL_tell_229 (by decide) ?_
    refine gx_bipush (v := 10) C dL_tell_230 (by decide) ?_
    refine gx_irem C dL_tell_232 (by decide) ?_
    obtain ⟨hi2, h⟩ := gi_ck h
    obtain ⟨T3, e4, h⟩ := gi_let h
    refine gy_iast C py_s0 ht0 hi2 dL_tell_233 py_u0 ?_
    rw [← e4]
    refine gx_aload_2 C dL_tell_234 rfl ?_
    refine gx_bipush (v := 21) C dL_tell_235 (by decide) ?_
    refine gx_iload C dL_tell_237 rfl ?_
    refine gx_iadd C dL_tell_239 ?_
    refine gx_iload C dL_tell_240 rfl ?_
    refine gx_sipush (v := 128) C dL_tell_242 (by decide) ?_
    refine gx_idiv C dL_tell_245 (by decide) ?_
    refine gx_iconst5 C dL_tell_246 ?_
    refine gx_irem C dL_tell_247 (by decide) ?_
    obtain ⟨hi5, h⟩ := gi_ck h
    obtain ⟨T6, e7, h⟩ := gi_let h
    refine gy_iast C py_s0 ht0 hi5 dL_tell_248 py_u0 ?_
    rw [← e7]
    refine gx_aload_2 C dL_tell_249 rfl ?_
    refine gx_bipush (v := 27) C dL_tell_250 (by decide) ?_
    refine gx_iload C dL_tell_252 rfl ?_
    refine gx_iadd C dL_tell_254 ?_
    refine gx_iload C dL_tell_255 rfl ?_
    refine gx_sipush (v := 1024) C dL_tell_257 (by decide) ?_
    refine gx_idiv C dL_tell_260 (by decide) ?_
    refine gx_bipush (v := 10) C dL_tell_261 (by decide) ?_
    refine gx_irem C dL_tell_263 (by decide) ?_
    obtain ⟨hi8, h⟩ := gi_ck h
    obtain ⟨T9, e10, h⟩ := gi_let h
    refine gy_iast C py_s0 ht0 hi8 dL_tell_264 py_u0 ?_
    rw [← e10]
    refine gx_aload_2 C dL_tell_265 rfl ?_
    refine gx_bipush (v := 33) C dL_tell_266 (by decide) ?_
    refine gx_iload C dL_tell_268 rfl ?_
    refine gx_iadd C dL_tell_270 ?_
    refine gx_iload C dL_tell_271 rfl ?_
    obtain ⟨hi11, h⟩ := gi_ck h
    obtain ⟨T12, e13, h⟩ := gi_let h
    refine gy_iast C py_s0 ht0 hi11 dL_tell_273 py_u0 ?_
    rw [← e13]
    refine gx_aload_0 C dL_tell_274 rfl ?_
    refine gx_iload C dL_tell_275 rfl ?_
    refine gx_aload_2 C dL_tell_277 rfl ?_
    refine gx_bipush (v := 15) C dL_tell_278 (by decide) ?_
    refine gx_iload C dL_tell_280 rfl ?_
    refine gx_iadd C dL_tell_282 ?_
    refine gy_iald C my_0 ht0 hi2 dL_tell_283 ?_
    refine gx_aload_2 C dL_tell_284 rfl ?_
    refine gx_bipush (v := 21) C dL_tell_285 (by decide) ?_
    refine gx_iload C dL_tell_287 rfl ?_
    refine gx_iadd C dL_tell_289 ?_
    refine gy_iald C my_0 ht0 hi5 dL_tell_290 ?_
    refine gx_aload_2 C dL_tell_291 rfl ?_
    refine gx_bipush (v := 27) C dL_tell_292 (by decide) ?_
    refine gx_iload C dL_tell_294 rfl ?_
    refine gx_iadd C dL_tell_296 ?_
    refine gy_iald C my_0 ht0 hi8 dL_tell_297 ?_
    obtain ⟨v15, S16, e14, h⟩ := gi_cs h
    refine gc_IVf C (c_ShopsAsOne_shop (gx_l Γ) (gx_D Γ) hx a _ _ _ _ _ e14) (gx_cw C gx_uu lk_L_24 (by decide) (by decide)) (cls_X7 hx).1 (gs_recv (q := 0) lt_X_ShopsAsOne (oc_X_ShopsAsOne a ι _)) rfl rfl (Nat.le_of_ble_eq_true rfl) ⟨Nat.zero_le _, Nat.zero_le _⟩ dL_tell_298 ?_
    refine gx_iload C dL_tell_301 rfl ?_
    refine gx_iconst3 C dL_tell_303 ?_
    refine gx_icmp_ne (tgt := 312) C dL_tell_304 (by decide) (fun hc17 => ?_) (fun hc17 => ?_)
    · have h := gi_f hc17 h
      refine gx_iload C dL_tell_312 rfl ?_
      exact gx_weak (gx_le_k rfl (gx_le_k rfl (gx_le_k rfl (gx_le_k rfl (gx_le_n (gx_le_k rfl (gx_le_k rfl (gx_le_n (gx_le_n (gx_le_k rfl (gx_le_n gx_le_0))))))))))) (br_tell_314 hx C ⟨F, hnL⟩ X hk147 h)
    · have h := gi_t hc17 h
      refine gx_bipush (v := (-104)) C dL_tell_307 (by decide) ?_
      refine gx_goto (tgt := 314) C dL_tell_309 (by decide) ?_
      exact gx_weak (gx_le_k rfl (gx_le_k rfl (gx_le_k rfl (gx_le_k rfl (gx_le_n (gx_le_k rfl (gx_le_k rfl (gx_le_n (gx_le_n (gx_le_k rfl (gx_le_n gx_le_0))))))))))) (br_tell_314 hx C ⟨F, hnL⟩ X hk147 h)
  · have h := gi_f hc20 h
    refine gx_iload C dL_tell_186 rfl ?_
    refine gx_aload_2 C dL_tell_188 rfl ?_
    refine gx_bipush (v := 33) C dL_tell_189 (by decide) ?_
    refine gx_iload C dL_tell_191 rfl ?_
    refine gx_iadd C dL_tell_193 ?_
    obtain ⟨hi18, h⟩ := gi_ck h
    refine gy_iald C my_0 ht0 hi18 dL_tell_194 ?_
    refine gx_iload C dL_tell_195 rfl ?_
    refine gx_icmp_ne (tgt := 204) C dL_tell_197 (by decide) (fun hc19 => ?_) (fun hc19 => ?_)
    · have h := gi_f hc19 h
      refine gx_iconst0 C dL_tell_204 ?_
      exact gx_weak (gx_le_k rfl (gx_le_k rfl (gx_le_k rfl (gx_le_k rfl (gx_le_n (gx_le_k rfl (gx_le_k rfl (gx_le_k rfl (gx_le_k rfl (gx_le_n (gx_le_k rfl gx_le_0))))))))))) (br_tell_205 hx C ⟨F, hnL⟩ X hk147 hk178 h)
    · have h := gi_t hc19 h
      refine gx_iconst1 C dL_tell_200 ?_
      refine gx_goto (tgt := 205) C dL_tell_201 (by decide) ?_
      exact gx_weak (gx_le_k rfl (gx_le_k rfl (gx_le_k rfl (gx_le_k rfl (gx_le_n (gx_le_k rfl (gx_le_k rfl (gx_le_k rfl (gx_le_k rfl (gx_le_n (gx_le_k rfl gx_le_0))))))))))) (br_tell_205 hx C ⟨F, hnL⟩ X hk147 hk178 h)
def r_tell_459 (xs : Nat → Int32) (L : Nat) (k345 : Int32 × gx_S × gx_S → Option (gx_S × gx_S)) (x6 : Int32) (x7 : Int32) (x8 : Int32) (s1 : Int32) (s2 : Int32) (S : gx_S) (T : gx_S) : Option (gx_S × gx_S) := gx_ck 48 s1 (gx_let (gx_st T 1 s1.toNatClampNeg s2) fun T2 => gx_ck 48 (x8 + (5 : Int32)) (gx_let (gx_st T2 1 (x8 + (5 : Int32)).toNatClampNeg ((x7 / 2097152) - (x7 / 2097152) / 10 * 10)) fun T5 => gx_ck 48 x8 (gx_ck 48 (x8 + (1 : Int32)) (gx_ck 48 (x8 + (2 : Int32)) (gx_ck 48 (x8 + (3 : Int32)) (gx_ck 48 (x8 + (4 : Int32)) (gx_cs (m_ShopsAsOne_sort (T5 1 x8.toNatClampNeg) (T5 1 (x8 + (1 : Int32)).toNatClampNeg) (T5 1 (x8 + (2 : Int32)).toNatClampNeg) (T5 1 (x8 + (3 : Int32)).toNatClampNeg) (T5 1 (x8 + (4 : Int32)).toNatClampNeg) (T5 1 (x8 + (5 : Int32)).toNatClampNeg) S) fun v13 S14 => if v13 = x6 then k345 ((x6 + 1), S14, T5) else none)))))))
set_option maxRecDepth 20000 in
set_option maxHeartbeats 4000000 in
theorem br_tell_459 {Γ : gx_T} {ι : Nat → ClassId} {a : Nat → Nat} {ρ : Nat → Nat} {b0 L : Nat} {xs : Nat → Int32} {out : gx_S × gx_S} (hx : gx_std vwCl (gty ι) (gx_cl Γ) (gx_ty Γ)) (C : gx_ok Γ cL_tell RL gx_U 4) (F : gy_fin Γ (some .boolean) (fun z : gx_S × gx_S => wX a ι z.1 ++ wR ρ ι z.2) (1, out) 0 0 ∧ gx_nL Γ = 11) (X : gx_scr Γ b0 L xs) {k345 : Int32 × gx_S × gx_S → Option (gx_S × gx_S)} {x6 : Int32} {x7 : Int32} {x8 : Int32} {s1 : Int32} {s2 : Int32} {S : gx_S} {T : gx_S} (hk345 : ∀ (x67 : Int32) (S7 : gx_S) (T7 : gx_S), k345 (x67, S7, T7) = some out → gx_G Γ 0 0 345 [.ref (a 0), .ref b0, .ref (ρ 0), .ref (ρ 1), .null, .null, .int x67, .null, .null, .null, .null] [] (wX a ι S7 ++ wR ρ ι T7)) (h : r_tell_459 xs L k345 x6 x7 x8 s1 s2 S T = some out) : gx_G Γ 0 0 459 [.ref (a 0), .ref b0, .ref (ρ 0), .ref (ρ 1), .null, .null, .int x6, .int x7, .int x8, .null, .null] [.int s2, .int s1, .ref (ρ 1)] (wX a ι S ++ wR ρ ι T) := by
  obtain ⟨F, hnL⟩ := F
  have ht0 : (gx_ty Γ)[0]? = some (ι 0, .int) := by rw [hx.2]; rfl
  unfold r_tell_459 at h
  obtain ⟨hi1, h⟩ := gi_ck h
  obtain ⟨T2, e3, h⟩ := gi_let h
  refine gy_iast C py_s1 ht0 hi1 dL_tell_459 py_u1 ?_
  rw [← e3]
  refine gx_aload_3 C dL_tell_460 rfl ?_
  refine gx_iload C dL_tell_461 rfl ?_
  refine gx_iconst5 C dL_tell_463 ?_
  refine gx_iadd C dL_tell_464 ?_
  refine gx_iload C dL_tell_465 rfl ?_
  refine gx_ldc (v := 2097152) C dL_tell_467 kL_30 ?_
  refine gx_idiv C dL_tell_469 (by decide) ?_
  refine gx_bipush (v := 10) C dL_tell_470 (by decide) ?_
  refine gx_irem C dL_tell_472 (by decide) ?_
  obtain ⟨hi4, h⟩ := gi_ck h
  obtain ⟨T5, e6, h⟩ := gi_let h
  refine gy_iast C py_s1 ht0 hi4 dL_tell_473 py_u1 ?_
  rw [← e6]
  refine gx_aload_0 C dL_tell_474 rfl ?_
  refine gx_aload_3 C dL_tell_475 rfl ?_
  refine gx_iload C dL_tell_476 rfl ?_
  obtain ⟨hi7, h⟩ := gi_ck h
  refine gy_iald C my_1 ht0 hi7 dL_tell_478 ?_
  refine gx_aload_3 C dL_tell_479 rfl ?_
  refine gx_iload C dL_tell_480 rfl ?_
  refine gx_iconst1 C dL_tell_482 ?_
  refine gx_iadd C dL_tell_483 ?_
  obtain ⟨hi8, h⟩ := gi_ck h
  refine gy_iald C my_1 ht0 hi8 dL_tell_484 ?_
  refine gx_aload_3 C dL_tell_485 rfl ?_
  refine gx_iload C dL_tell_486 rfl ?_
  refine gx_iconst2 C dL_tell_488 ?_
  refine gx_iadd C dL_tell_489 ?_
  obtain ⟨hi9, h⟩ := gi_ck h
  refine gy_iald C my_1 ht0 hi9 dL_tell_490 ?_
  refine gx_aload_3 C dL_tell_491 rfl ?_
  refine gx_iload C dL_tell_492 rfl ?_
  refine gx_iconst3 C dL_tell_494 ?_
  refine gx_iadd C dL_tell_495 ?_
  obtain ⟨hi10, h⟩ := gi_ck h
  refine gy_iald C my_1 ht0 hi10 dL_tell_496 ?_
  refine gx_aload_3 C dL_tell_497 rfl ?_
  refine gx_iload C dL_tell_498 rfl ?_
  refine gx_iconst4 C dL_tell_500 ?_
  refine gx_iadd C dL_tell_501 ?_
  obtain ⟨hi11, h⟩ := gi_ck h
  refine gy_iald C my_1 ht0 hi11 dL_tell_502 ?_
  refine gx_aload_3 C dL_tell_503 rfl ?_
  refine gx_iload C dL_tell_504 rfl ?_
  refine gx_iconst5 C dL_tell_506 ?_
  refine gx_iadd C dL_tell_507 ?_
  refine gy_iald C my_1 ht0 hi4 dL_tell_508 ?_
  obtain ⟨v13, S14, e12, h⟩ := gi_cs h
  refine gc_IVf C (c_ShopsAsOne_sort (gx_l Γ) (gx_D Γ) hx a _ _ _ _ _ _ _ e12) (gx_cw C gx_uu lk_L_31 (by decide) (by decide)) (cls_X7 hx).1 (gs_recv (q := 0) lt_X_ShopsAsOne (oc_X_ShopsAsOne a ι _)) rfl rfl (Nat.le_of_ble_eq_true rfl) ⟨Nat.zero_le _, Nat.zero_le _⟩ dL_tell_509 ?_
  refine gx_iload C dL_tell_512 rfl ?_
  refine gx_icmp_eq (tgt := 519) C dL_tell_514 (by decide) (fun hc15 => ?_) (fun hc15 => ?_)
  · have h := gi_t hc15 h
    refine gx_iinc1 C dL_tell_519 rfl (by rw [hnL]; decide) trivial ?_
    refine gx_goto (tgt := 345) C dL_tell_522 (by decide) ?_
    exact gx_weak (gx_le_k rfl (gx_le_k rfl (gx_le_k rfl (gx_le_k rfl (gx_le_n (gx_le_n (gx_le_k rfl (gx_le_n (gx_le_n (gx_le_n (gx_le_n gx_le_0))))))))))) (hk345 _ _ _ h)
  · have h := gi_f hc15 h
    refine gx_iconst0 C dL_tell_517 ?_
    cases h
def r_tell_446 (xs : Nat → Int32) (L : Nat) (k345 : Int32 × gx_S × gx_S → Option (gx_S × gx_S)) (x6 : Int32) (x7 : Int32) (x8 : Int32) (s1 : Int32) (S : gx_S) (T : gx_S) : Option (gx_S × gx_S) := r_tell_459 xs L k345 x6 x7 x8 s1 (-1) S T
set_option maxRecDepth 20000 in
set_option maxHeartbeats 4000000 in
theorem br_tell_446 {Γ : gx_T} {ι : Nat → ClassId} {a : Nat → Nat} {ρ : Nat → Nat} {b0 L : Nat} {xs : Nat → Int32} {out : gx_S × gx_S} (hx : gx_std vwCl (gty ι) (gx_cl Γ) (gx_ty Γ)) (C : gx_ok Γ cL_tell RL gx_U 4) (F : gy_fin Γ (some .boolean) (fun z : gx_S × gx_S => wX a ι z.1 ++ wR ρ ι z.2) (1, out) 0 0 ∧ gx_nL Γ = 11) (X : gx_scr Γ b0 L xs) {k345 : Int32 × gx_S × gx_S → Option (gx_S × gx_S)} {x6 : Int32} {x7 : Int32} {x8 : Int32} {s1 : Int32} {S : gx_S} {T : gx_S} (hk345 : ∀ (x67 : Int32) (S7 : gx_S) (T7 : gx_S), k345 (x67, S7, T7) = some out → gx_G Γ 0 0 345 [.ref (a 0), .ref b0, .ref (ρ 0), .ref (ρ 1), .null, .null, .int x67, .null, .null, .null, .null] [] (wX a ι S7 ++ wR ρ ι T7)) (h : r_tell_446 xs L k345 x6 x7 x8 s1 S T = some out) : gx_G Γ 0 0 446 [.ref (a 0), .ref b0, .ref (ρ 0), .ref (ρ 1), .null, .null, .int x6, .int x7, .int x8, .null, .null] [.int s1, .ref (ρ 1)] (wX a ι S ++ wR ρ ι T) := by
  obtain ⟨F, hnL⟩ := F
  have ht0 : (gx_ty Γ)[0]? = some (ι 0, .int) := by rw [hx.2]; rfl
  unfold r_tell_446 at h
  refine gx_iconstm1 C dL_tell_446 ?_
  refine gx_goto (tgt := 459) C dL_tell_447 (by decide) ?_
  exact gx_weak (gx_le_k rfl (gx_le_k rfl (gx_le_k rfl (gx_le_k rfl (gx_le_n (gx_le_n (gx_le_k rfl (gx_le_k rfl (gx_le_k rfl (gx_le_n (gx_le_n gx_le_0))))))))))) (br_tell_459 hx C ⟨F, hnL⟩ X hk345 h)
def r_tell_345 (xs : Nat → Int32) (L : Nat) (t : Int32 × gx_S × gx_S) (k345 : Int32 × gx_S × gx_S → Option (gx_S × gx_S)) : Option (gx_S × gx_S) := match t with
  | (x6, S, T) => gx_ck 45 (2 : Int32) (if (T 0 (2 : Int32).toNatClampNeg) ≤ x6 then some (S, T) else gx_cp (r_cell xs L ((11 : Int32) + x6)) fun v3 => gx_ck 48 ((6 : Int32) * x6) (gx_let (gx_st T 1 ((6 : Int32) * x6).toNatClampNeg (v3 - v3 / 10 * 10)) fun T5 => gx_ck 48 (((6 : Int32) * x6) + (1 : Int32)) (gx_let (gx_st T5 1 (((6 : Int32) * x6) + (1 : Int32)).toNatClampNeg ((1 : Int32) + ((v3 / 16) - (v3 / 16) / 50 * 50))) fun T8 => gx_ck 48 (((6 : Int32) * x6) + (2 : Int32)) (gx_let (gx_st T8 1 (((6 : Int32) * x6) + (2 : Int32)).toNatClampNeg ((v3 / 1024) - (v3 / 1024) / 4 * 4)) fun T11 => gx_ck 48 (((6 : Int32) * x6) + (3 : Int32)) (gx_let (gx_st T11 1 (((6 : Int32) * x6) + (3 : Int32)).toNatClampNeg ((v3 / 4096) - (v3 / 4096) / 25 * 25)) fun T14 => gx_ck 45 (1 : Int32) (if (T14 0 (1 : Int32).toNatClampNeg) = 0 then r_tell_446 xs L k345 x6 v3 ((6 : Int32) * x6) (((6 : Int32) * x6) + (4 : Int32)) S T14 else if ((v3 / 131072) - (v3 / 131072) / 2 * 2) = 0 then r_tell_446 xs L k345 x6 v3 ((6 : Int32) * x6) (((6 : Int32) * x6) + (4 : Int32)) S T14 else gx_nz (T14 0 (1 : Int32).toNatClampNeg) (r_tell_459 xs L k345 x6 v3 ((6 : Int32) * x6) (((6 : Int32) * x6) + (4 : Int32)) ((v3 / 262144) - (v3 / 262144) / (T14 0 (1 : Int32).toNatClampNeg) * (T14 0 (1 : Int32).toNatClampNeg)) S T14)))))))
set_option maxRecDepth 20000 in
set_option maxHeartbeats 4000000 in
theorem br_tell_345 {Γ : gx_T} {ι : Nat → ClassId} {a : Nat → Nat} {ρ : Nat → Nat} {b0 L : Nat} {xs : Nat → Int32} {out : gx_S × gx_S} (hx : gx_std vwCl (gty ι) (gx_cl Γ) (gx_ty Γ)) (C : gx_ok Γ cL_tell RL gx_U 4) (F : gy_fin Γ (some .boolean) (fun z : gx_S × gx_S => wX a ι z.1 ++ wR ρ ι z.2) (1, out) 0 0 ∧ gx_nL Γ = 11) (X : gx_scr Γ b0 L xs) {k345 : Int32 × gx_S × gx_S → Option (gx_S × gx_S)} {x6 : Int32} {S : gx_S} {T : gx_S} (hk345 : ∀ (x67 : Int32) (S7 : gx_S) (T7 : gx_S), k345 (x67, S7, T7) = some out → gx_G Γ 0 0 345 [.ref (a 0), .ref b0, .ref (ρ 0), .ref (ρ 1), .null, .null, .int x67, .null, .null, .null, .null] [] (wX a ι S7 ++ wR ρ ι T7)) (h : r_tell_345 xs L (x6, S, T) k345 = some out) : gx_G Γ 0 0 345 [.ref (a 0), .ref b0, .ref (ρ 0), .ref (ρ 1), .null, .null, .int x6, .null, .null, .null, .null] [] (wX a ι S ++ wR ρ ι T) := by
  obtain ⟨F, hnL⟩ := F
  have ht0 : (gx_ty Γ)[0]? = some (ι 0, .int) := by rw [hx.2]; rfl
  unfold r_tell_345 at h
  dsimp only at h
  refine gx_iload C dL_tell_345 rfl ?_
  refine gx_aload_2 C dL_tell_347 rfl ?_
  refine gx_iconst2 C dL_tell_348 ?_
  obtain ⟨hi1, h⟩ := gi_ck h
  refine gy_iald C my_0 ht0 hi1 dL_tell_349 ?_
  refine gx_icmp_ge (tgt := 525) C dL_tell_350 (by decide) (fun hc20 => ?_) (fun hc20 => ?_)
  · have h := gi_t hc20 h
    refine gx_iconst1 C dL_tell_525 ?_
    have e := Option.some.inj h
    exact gy_iret (S, T) C F (by decide) (Nat.le_refl _) (Nat.le_refl _) dL_tell_526 (by rw [e])
  · have h := gi_f hc20 h
    refine gx_aload_1 C dL_tell_353 rfl ?_
    refine gx_bipush (v := 11) C dL_tell_354 (by decide) ?_
    refine gx_iload C dL_tell_356 rfl ?_
    refine gx_iadd C dL_tell_358 ?_
    obtain ⟨v3, e2, h⟩ := gi_cp h
    refine gy_callS (w := []) (w2 := (wX a ι S ++ wR ρ ι T)) (ws1 := (wX a ι S ++ wR ρ ι T)) C (cr_cell (gx_l Γ) (gx_D Γ) hx _ e2) X gx_uu lk_L_14 (by decide) (by decide) rfl rfl (Nat.le_of_ble_eq_true rfl) ⟨Nat.zero_le _, Nat.zero_le _⟩ dL_tell_359 (List.Perm.refl _) (List.Perm.refl _) ?_
    refine gx_istore C dL_tell_362 (by rw [hnL]; decide) trivial ?_
    refine gx_bipush (v := 6) C dL_tell_364 (by decide) ?_
    refine gx_iload C dL_tell_366 rfl ?_
    refine gx_imul C dL_tell_368 ?_
    refine gx_istore C dL_tell_369 (by rw [hnL]; decide) trivial ?_
    refine gx_aload_3 C dL_tell_371 rfl ?_
    refine gx_iload C dL_tell_372 rfl ?_
    refine gx_iload C dL_tell_374 rfl ?_
    refine gx_bipush (v := 10) C dL_tell_376 (by decide) ?_
    refine gx_irem C dL_tell_378 (by decide) ?_
    obtain ⟨hi4, h⟩ := gi_ck h
    obtain ⟨T5, e6, h⟩ := gi_let h
    refine gy_iast C py_s1 ht0 hi4 dL_tell_379 py_u1 ?_
    rw [← e6]
    refine gx_aload_3 C dL_tell_380 rfl ?_
    refine gx_iload C dL_tell_381 rfl ?_
    refine gx_iconst1 C dL_tell_383 ?_
    refine gx_iadd C dL_tell_384 ?_
    refine gx_iconst1 C dL_tell_385 ?_
    refine gx_iload C dL_tell_386 rfl ?_
    refine gx_bipush (v := 16) C dL_tell_388 (by decide) ?_
    refine gx_idiv C dL_tell_390 (by decide) ?_
    refine gx_bipush (v := 50) C dL_tell_391 (by decide) ?_
    refine gx_irem C dL_tell_393 (by decide) ?_
    refine gx_iadd C dL_tell_394 ?_
    obtain ⟨hi7, h⟩ := gi_ck h
    obtain ⟨T8, e9, h⟩ := gi_let h
    refine gy_iast C py_s1 ht0 hi7 dL_tell_395 py_u1 ?_
    rw [← e9]
    refine gx_aload_3 C dL_tell_396 rfl ?_
    refine gx_iload C dL_tell_397 rfl ?_
    refine gx_iconst2 C dL_tell_399 ?_
    refine gx_iadd C dL_tell_400 ?_
    refine gx_iload C dL_tell_401 rfl ?_
    refine gx_sipush (v := 1024) C dL_tell_403 (by decide) ?_
    refine gx_idiv C dL_tell_406 (by decide) ?_
    refine gx_iconst4 C dL_tell_407 ?_
    refine gx_irem C dL_tell_408 (by decide) ?_
    obtain ⟨hi10, h⟩ := gi_ck h
    obtain ⟨T11, e12, h⟩ := gi_let h
    refine gy_iast C py_s1 ht0 hi10 dL_tell_409 py_u1 ?_
    rw [← e12]
    refine gx_aload_3 C dL_tell_410 rfl ?_
    refine gx_iload C dL_tell_411 rfl ?_
    refine gx_iconst3 C dL_tell_413 ?_
    refine gx_iadd C dL_tell_414 ?_
    refine gx_iload C dL_tell_415 rfl ?_
    refine gx_sipush (v := 4096) C dL_tell_417 (by decide) ?_
    refine gx_idiv C dL_tell_420 (by decide) ?_
    refine gx_bipush (v := 25) C dL_tell_421 (by decide) ?_
    refine gx_irem C dL_tell_423 (by decide) ?_
    obtain ⟨hi13, h⟩ := gi_ck h
    obtain ⟨T14, e15, h⟩ := gi_let h
    refine gy_iast C py_s1 ht0 hi13 dL_tell_424 py_u1 ?_
    rw [← e15]
    refine gx_aload_3 C dL_tell_425 rfl ?_
    refine gx_iload C dL_tell_426 rfl ?_
    refine gx_iconst4 C dL_tell_428 ?_
    refine gx_iadd C dL_tell_429 ?_
    refine gx_aload_2 C dL_tell_430 rfl ?_
    refine gx_iconst1 C dL_tell_431 ?_
    obtain ⟨hi16, h⟩ := gi_ck h
    refine gy_iald C my_0 ht0 hi16 dL_tell_432 ?_
    refine gx_if_eq (tgt := 446) C dL_tell_433 (by decide) (fun hc19 => ?_) (fun hc19 => ?_)
    · have h := gi_t hc19 h
      exact gx_weak (gx_le_k rfl (gx_le_k rfl (gx_le_k rfl (gx_le_k rfl (gx_le_n (gx_le_n (gx_le_k rfl (gx_le_k rfl (gx_le_k rfl (gx_le_n (gx_le_n gx_le_0))))))))))) (br_tell_446 hx C ⟨F, hnL⟩ X hk345 h)
    · have h := gi_f hc19 h
      refine gx_iload C dL_tell_436 rfl ?_
      refine gx_ldc (v := 131072) C dL_tell_438 kL_28 ?_
      refine gx_idiv C dL_tell_440 (by decide) ?_
      refine gx_iconst2 C dL_tell_441 ?_
      refine gx_irem C dL_tell_442 (by decide) ?_
      refine gx_if_ne (tgt := 450) C dL_tell_443 (by decide) (fun hc18 => ?_) (fun hc18 => ?_)
      · have h := gi_f hc18 h
        refine gx_iload C dL_tell_450 rfl ?_
        refine gx_ldc (v := 262144) C dL_tell_452 kL_29 ?_
        refine gx_idiv C dL_tell_454 (by decide) ?_
        refine gx_aload_2 C dL_tell_455 rfl ?_
        refine gx_iconst1 C dL_tell_456 ?_
        refine gy_iald C my_0 ht0 hi16 dL_tell_457 ?_
        obtain ⟨hz17, h⟩ := gi_nz h
        refine gx_irem C dL_tell_458 hz17 ?_
        exact gx_weak (gx_le_k rfl (gx_le_k rfl (gx_le_k rfl (gx_le_k rfl (gx_le_n (gx_le_n (gx_le_k rfl (gx_le_k rfl (gx_le_k rfl (gx_le_n (gx_le_n gx_le_0))))))))))) (br_tell_459 hx C ⟨F, hnL⟩ X hk345 h)
      · have h := gi_t hc18 h
        exact gx_weak (gx_le_k rfl (gx_le_k rfl (gx_le_k rfl (gx_le_k rfl (gx_le_n (gx_le_n (gx_le_k rfl (gx_le_k rfl (gx_le_k rfl (gx_le_n (gx_le_n gx_le_0))))))))))) (br_tell_446 hx C ⟨F, hnL⟩ X hk345 h)
def r_tell_147 (xs : Nat → Int32) (L : Nat) (x5 : Int32) (t : Int32 × gx_S × gx_S) (k147 : Int32 × gx_S × gx_S → Option (gx_S × gx_S)) : Option (gx_S × gx_S) := match t with
  | (x6, S, T) => if x5 ≤ x6 then gx_loop (r_tell_345 xs L) 5000 (0, S, T) else gx_cp (r_cell xs L ((5 : Int32) + x6)) fun v2 => gx_ck 45 (0 : Int32) (gx_nz (T 0 (0 : Int32).toNatClampNeg) (gx_loop (r_tell_178 xs L k147 x5 x6 v2 (v2 - v2 / (T 0 (0 : Int32).toNatClampNeg) * (T 0 (0 : Int32).toNatClampNeg))) 5000 (0, 0, S, T)))
set_option maxRecDepth 20000 in
set_option maxHeartbeats 4000000 in
theorem br_tell_147 {Γ : gx_T} {ι : Nat → ClassId} {a : Nat → Nat} {ρ : Nat → Nat} {b0 L : Nat} {xs : Nat → Int32} {out : gx_S × gx_S} (hx : gx_std vwCl (gty ι) (gx_cl Γ) (gx_ty Γ)) (C : gx_ok Γ cL_tell RL gx_U 4) (F : gy_fin Γ (some .boolean) (fun z : gx_S × gx_S => wX a ι z.1 ++ wR ρ ι z.2) (1, out) 0 0 ∧ gx_nL Γ = 11) (X : gx_scr Γ b0 L xs) {k147 : Int32 × gx_S × gx_S → Option (gx_S × gx_S)} {x5 : Int32} {x6 : Int32} {S : gx_S} {T : gx_S} (hk147 : ∀ (x67 : Int32) (S7 : gx_S) (T7 : gx_S), k147 (x67, S7, T7) = some out → gx_G Γ 0 0 147 [.ref (a 0), .ref b0, .ref (ρ 0), .ref (ρ 1), .null, .int x5, .int x67, .null, .null, .null, .null] [] (wX a ι S7 ++ wR ρ ι T7)) (h : r_tell_147 xs L x5 (x6, S, T) k147 = some out) : gx_G Γ 0 0 147 [.ref (a 0), .ref b0, .ref (ρ 0), .ref (ρ 1), .null, .int x5, .int x6, .null, .null, .null, .null] [] (wX a ι S ++ wR ρ ι T) := by
  obtain ⟨F, hnL⟩ := F
  have ht0 : (gx_ty Γ)[0]? = some (ι 0, .int) := by rw [hx.2]; rfl
  unfold r_tell_147 at h
  dsimp only at h
  refine gx_iload C dL_tell_147 rfl ?_
  refine gx_iload C dL_tell_149 rfl ?_
  refine gx_icmp_ge (tgt := 342) C dL_tell_151 (by decide) (fun hc5 => ?_) (fun hc5 => ?_)
  · have h := gi_t hc5 h
    refine gx_iconst0 C dL_tell_342 ?_
    refine gx_istore C dL_tell_343 (by rw [hnL]; decide) trivial ?_
    refine gx_weak (gx_le_k rfl (gx_le_k rfl (gx_le_k rfl (gx_le_k rfl (gx_le_n (gx_le_n (gx_le_k rfl (gx_le_n (gx_le_n (gx_le_n (gx_le_n gx_le_0))))))))))) (gi_loop (P := fun t => gx_G Γ 0 0 345 [.ref (a 0), .ref b0, .ref (ρ 0), .ref (ρ 1), .null, .null, .int t.1, .null, .null, .null, .null] [] (wX a ι t.2.1 ++ wR ρ ι t.2.2)) (fun kk t hk h => ?_) 5000 _ h)
    obtain ⟨x69, S9, T9⟩ := t
    exact br_tell_345 hx C ⟨F, hnL⟩ X (k345 := kk) (fun x68 S8 T8 h => hk (x68, S8, T8) h) h
  · have h := gi_f hc5 h
    refine gx_aload_1 C dL_tell_154 rfl ?_
    refine gx_iconst5 C dL_tell_155 ?_
    refine gx_iload C dL_tell_156 rfl ?_
    refine gx_iadd C dL_tell_158 ?_
    obtain ⟨v2, e1, h⟩ := gi_cp h
    refine gy_callS (w := []) (w2 := (wX a ι S ++ wR ρ ι T)) (ws1 := (wX a ι S ++ wR ρ ι T)) C (cr_cell (gx_l Γ) (gx_D Γ) hx _ e1) X gx_uu lk_L_14 (by decide) (by decide) rfl rfl (Nat.le_of_ble_eq_true rfl) ⟨Nat.zero_le _, Nat.zero_le _⟩ dL_tell_159 (List.Perm.refl _) (List.Perm.refl _) ?_
    refine gx_istore C dL_tell_162 (by rw [hnL]; decide) trivial ?_
    refine gx_iload C dL_tell_164 rfl ?_
    refine gx_aload_2 C dL_tell_166 rfl ?_
    refine gx_iconst0 C dL_tell_167 ?_
    obtain ⟨hi3, h⟩ := gi_ck h
    refine gy_iald C my_0 ht0 hi3 dL_tell_168 ?_
    obtain ⟨hz4, h⟩ := gi_nz h
    refine gx_irem C dL_tell_169 hz4 ?_
    refine gx_istore C dL_tell_170 (by rw [hnL]; decide) trivial ?_
    refine gx_iconst0 C dL_tell_172 ?_
    refine gx_istore C dL_tell_173 (by rw [hnL]; decide) trivial ?_
    refine gx_iconst0 C dL_tell_175 ?_
    refine gx_istore C dL_tell_176 (by rw [hnL]; decide) trivial ?_
    refine gx_Veq (V' := [.ref (a 0), .ref b0, .ref (ρ 0), .ref (ρ 1), .null, .int x5, .int x6, .int v2, .int (v2 - v2 / (T 0 (0 : Int32).toNatClampNeg) * (T 0 (0 : Int32).toNatClampNeg)), .int 0, .int 0]) rfl ?_
    refine gx_weak (gx_le_k rfl (gx_le_k rfl (gx_le_k rfl (gx_le_k rfl (gx_le_n (gx_le_k rfl (gx_le_k rfl (gx_le_k rfl (gx_le_k rfl (gx_le_k rfl (gx_le_k rfl gx_le_0))))))))))) (gi_loop (P := fun t => gx_G Γ 0 0 178 [.ref (a 0), .ref b0, .ref (ρ 0), .ref (ρ 1), .null, .int x5, .int x6, .int v2, .int (v2 - v2 / (T 0 (0 : Int32).toNatClampNeg) * (T 0 (0 : Int32).toNatClampNeg)), .int t.1, .int t.2.1] [] (wX a ι t.2.2.1 ++ wR ρ ι t.2.2.2)) (fun kk t hk h => ?_) 5000 _ h)
    obtain ⟨x99, x109, S9, T9⟩ := t
    exact br_tell_178 hx C ⟨F, hnL⟩ X hk147 (k178 := kk) (fun x98 x108 S8 T8 h => hk (x98, x108, S8, T8) h) h
def r_tell_33 (xs : Nat → Int32) (L : Nat) (x4 : Int32) (t : Int32 × gx_S × gx_S) (k33 : Int32 × gx_S × gx_S → Option (gx_S × gx_S)) : Option (gx_S × gx_S) := match t with
  | (x5, S, T) => gx_ck 45 (0 : Int32) (if (T 0 (0 : Int32).toNatClampNeg) ≤ x5 then gx_loop (r_tell_147 xs L ((x4 / 32) - (x4 / 32) / 6 * 6)) 5000 (0, S, T) else gx_cp (r_cell xs L ((1 : Int32) + x5)) fun v3 => if (v3 - v3 / 2 * 2) = 0 then r_tell_73 xs L k33 x4 x5 v3 ((3 : Int32) + x5) 0 S T else r_tell_73 xs L k33 x4 x5 v3 ((3 : Int32) + x5) ((v3 / 2) - (v3 / 2) / 5 * 5) S T)
set_option maxRecDepth 20000 in
set_option maxHeartbeats 4000000 in
theorem br_tell_33 {Γ : gx_T} {ι : Nat → ClassId} {a : Nat → Nat} {ρ : Nat → Nat} {b0 L : Nat} {xs : Nat → Int32} {out : gx_S × gx_S} (hx : gx_std vwCl (gty ι) (gx_cl Γ) (gx_ty Γ)) (C : gx_ok Γ cL_tell RL gx_U 4) (F : gy_fin Γ (some .boolean) (fun z : gx_S × gx_S => wX a ι z.1 ++ wR ρ ι z.2) (1, out) 0 0 ∧ gx_nL Γ = 11) (X : gx_scr Γ b0 L xs) {k33 : Int32 × gx_S × gx_S → Option (gx_S × gx_S)} {x4 : Int32} {x5 : Int32} {S : gx_S} {T : gx_S} (hk33 : ∀ (x57 : Int32) (S7 : gx_S) (T7 : gx_S), k33 (x57, S7, T7) = some out → gx_G Γ 0 0 33 [.ref (a 0), .ref b0, .ref (ρ 0), .ref (ρ 1), .int x4, .int x57, .null, .null, .null, .null, .null] [] (wX a ι S7 ++ wR ρ ι T7)) (h : r_tell_33 xs L x4 (x5, S, T) k33 = some out) : gx_G Γ 0 0 33 [.ref (a 0), .ref b0, .ref (ρ 0), .ref (ρ 1), .int x4, .int x5, .null, .null, .null, .null, .null] [] (wX a ι S ++ wR ρ ι T) := by
  obtain ⟨F, hnL⟩ := F
  have ht0 : (gx_ty Γ)[0]? = some (ι 0, .int) := by rw [hx.2]; rfl
  unfold r_tell_33 at h
  dsimp only at h
  refine gx_iload C dL_tell_33 rfl ?_
  refine gx_aload_2 C dL_tell_35 rfl ?_
  refine gx_iconst0 C dL_tell_36 ?_
  obtain ⟨hi1, h⟩ := gi_ck h
  refine gy_iald C my_0 ht0 hi1 dL_tell_37 ?_
  refine gx_icmp_ge (tgt := 134) C dL_tell_38 (by decide) (fun hc5 => ?_) (fun hc5 => ?_)
  · have h := gi_t hc5 h
    refine gx_iload C dL_tell_134 rfl ?_
    refine gx_bipush (v := 32) C dL_tell_136 (by decide) ?_
    refine gx_idiv C dL_tell_138 (by decide) ?_
    refine gx_bipush (v := 6) C dL_tell_139 (by decide) ?_
    refine gx_irem C dL_tell_141 (by decide) ?_
    refine gx_istore C dL_tell_142 (by rw [hnL]; decide) trivial ?_
    refine gx_iconst0 C dL_tell_144 ?_
    refine gx_istore C dL_tell_145 (by rw [hnL]; decide) trivial ?_
    refine gx_weak (gx_le_k rfl (gx_le_k rfl (gx_le_k rfl (gx_le_k rfl (gx_le_n (gx_le_k rfl (gx_le_k rfl (gx_le_n (gx_le_n (gx_le_n (gx_le_n gx_le_0))))))))))) (gi_loop (P := fun t => gx_G Γ 0 0 147 [.ref (a 0), .ref b0, .ref (ρ 0), .ref (ρ 1), .null, .int ((x4 / 32) - (x4 / 32) / 6 * 6), .int t.1, .null, .null, .null, .null] [] (wX a ι t.2.1 ++ wR ρ ι t.2.2)) (fun kk t hk h => ?_) 5000 _ h)
    obtain ⟨x69, S9, T9⟩ := t
    exact br_tell_147 hx C ⟨F, hnL⟩ X (k147 := kk) (fun x68 S8 T8 h => hk (x68, S8, T8) h) h
  · have h := gi_f hc5 h
    refine gx_aload_1 C dL_tell_41 rfl ?_
    refine gx_iconst1 C dL_tell_42 ?_
    refine gx_iload C dL_tell_43 rfl ?_
    refine gx_iadd C dL_tell_45 ?_
    obtain ⟨v3, e2, h⟩ := gi_cp h
    refine gy_callS (w := []) (w2 := (wX a ι S ++ wR ρ ι T)) (ws1 := (wX a ι S ++ wR ρ ι T)) C (cr_cell (gx_l Γ) (gx_D Γ) hx _ e2) X gx_uu lk_L_14 (by decide) (by decide) rfl rfl (Nat.le_of_ble_eq_true rfl) ⟨Nat.zero_le _, Nat.zero_le _⟩ dL_tell_46 (List.Perm.refl _) (List.Perm.refl _) ?_
    refine gx_istore C dL_tell_49 (by rw [hnL]; decide) trivial ?_
    refine gx_aload_2 C dL_tell_51 rfl ?_
    refine gx_iconst3 C dL_tell_52 ?_
    refine gx_iload C dL_tell_53 rfl ?_
    refine gx_iadd C dL_tell_55 ?_
    refine gx_iload C dL_tell_56 rfl ?_
    refine gx_iconst2 C dL_tell_58 ?_
    refine gx_irem C dL_tell_59 (by decide) ?_
    refine gx_if_ne (tgt := 67) C dL_tell_60 (by decide) (fun hc4 => ?_) (fun hc4 => ?_)
    · have h := gi_f hc4 h
      refine gx_iload C dL_tell_67 rfl ?_
      refine gx_iconst2 C dL_tell_69 ?_
      refine gx_idiv C dL_tell_70 (by decide) ?_
      refine gx_iconst5 C dL_tell_71 ?_
      refine gx_irem C dL_tell_72 (by decide) ?_
      exact gx_weak (gx_le_k rfl (gx_le_k rfl (gx_le_k rfl (gx_le_k rfl (gx_le_k rfl (gx_le_k rfl (gx_le_k rfl (gx_le_n (gx_le_n (gx_le_n (gx_le_n gx_le_0))))))))))) (br_tell_73 hx C ⟨F, hnL⟩ X hk33 h)
    · have h := gi_t hc4 h
      refine gx_iconst0 C dL_tell_63 ?_
      refine gx_goto (tgt := 73) C dL_tell_64 (by decide) ?_
      exact gx_weak (gx_le_k rfl (gx_le_k rfl (gx_le_k rfl (gx_le_k rfl (gx_le_k rfl (gx_le_k rfl (gx_le_k rfl (gx_le_n (gx_le_n (gx_le_n (gx_le_n gx_le_0))))))))))) (br_tell_73 hx C ⟨F, hnL⟩ X hk33 h)
def r_tell (xs : Nat → Int32) (L : Nat) (S : gx_S) (T : gx_S) : Option (gx_S × gx_S) := gx_cp (r_cell xs L 0) fun v2 => gx_ck 45 (0 : Int32) (gx_let (gx_st T 0 (0 : Int32).toNatClampNeg ((1 : Int32) + (v2 - v2 / 4 * 4))) fun T4 => gx_ck 45 (1 : Int32) (gx_let (gx_st T4 0 (1 : Int32).toNatClampNeg (0 : Int32)) fun T7 => gx_ck 45 (2 : Int32) (gx_let (gx_st T7 0 (2 : Int32).toNatClampNeg ((v2 / 4) - (v2 / 4) / 7 * 7)) fun T10 => gx_loop (r_tell_33 xs L v2) 5000 (0, S, T10))))
set_option maxRecDepth 20000 in
set_option maxHeartbeats 4000000 in
theorem cr_tell (l : Launch) (D : va_G) {cl : List vw_C} {tys : List (ClassId × FieldType)} {ι : Nat → ClassId} (hx : gx_std vwCl (gty ι) cl tys) (a : Nat → Nat) (ρ : Nat → Nat) {b0 L : Nat} {xs : Nat → Int32} (S : gx_S) (T : gx_S) {out : gx_S × gx_S} (h : r_tell xs L S T = some out) : gy_m l D cl tys yL_tell (.code yL_tell cL_tell 11 ((Option.some Jvm.ClassFile.FieldType.boolean)) :: gx_U) (gx_rmc 4 0 0) [.ref (a 0), .ref b0, .ref (ρ 0), .ref (ρ 1)] (wX a ι S ++ wR ρ ι T) (fun z : gx_S × gx_S => wX a ι z.1 ++ wR ρ ι z.2) (some (b0, L, xs)) (1, out) 0 0 := by
  unfold r_tell at h
  refine gy_start (V := [.ref (a 0), .ref b0, .ref (ρ 0), .ref (ρ 1), .null, .null, .null, .null, .null, .null, .null]) 7 (by decide +kernel) (Nat.le_of_ble_eq_true rfl) rfl (fun Γ hl hD hcl hty hnL C F X => ?_)
  subst hl; subst hD; subst hcl; subst hty
  have ht0 : (gx_ty Γ)[0]? = some (ι 0, .int) := by rw [hx.2]; rfl
  refine gx_aload_1 C dL_tell_0 rfl ?_
  refine gx_iconst0 C dL_tell_1 ?_
  obtain ⟨v2, e1, h⟩ := gi_cp h
  refine gy_callS (w := []) (w2 := (wX a ι S ++ wR ρ ι T)) (ws1 := (wX a ι S ++ wR ρ ι T)) C (cr_cell (gx_l Γ) (gx_D Γ) hx _ e1) X gx_uu lk_L_14 (by decide) (by decide) rfl rfl (Nat.le_of_ble_eq_true rfl) ⟨Nat.zero_le _, Nat.zero_le _⟩ dL_tell_2 (List.Perm.refl _) (List.Perm.refl _) ?_
  refine gx_istore C dL_tell_5 (by rw [hnL]; decide) trivial ?_
  refine gx_aload_2 C dL_tell_7 rfl ?_
  refine gx_iconst0 C dL_tell_8 ?_
  refine gx_iconst1 C dL_tell_9 ?_
  refine gx_iload C dL_tell_10 rfl ?_
  refine gx_iconst4 C dL_tell_12 ?_
  refine gx_irem C dL_tell_13 (by decide) ?_
  refine gx_iadd C dL_tell_14 ?_
  obtain ⟨hi3, h⟩ := gi_ck h
  obtain ⟨T4, e5, h⟩ := gi_let h
  refine gy_iast C py_s0 ht0 hi3 dL_tell_15 py_u0 ?_
  rw [← e5]
  refine gx_aload_2 C dL_tell_16 rfl ?_
  refine gx_iconst1 C dL_tell_17 ?_
  refine gx_iconst0 C dL_tell_18 ?_
  obtain ⟨hi6, h⟩ := gi_ck h
  obtain ⟨T7, e8, h⟩ := gi_let h
  refine gy_iast C py_s0 ht0 hi6 dL_tell_19 py_u0 ?_
  rw [← e8]
  refine gx_aload_2 C dL_tell_20 rfl ?_
  refine gx_iconst2 C dL_tell_21 ?_
  refine gx_iload C dL_tell_22 rfl ?_
  refine gx_iconst4 C dL_tell_24 ?_
  refine gx_idiv C dL_tell_25 (by decide) ?_
  refine gx_bipush (v := 7) C dL_tell_26 (by decide) ?_
  refine gx_irem C dL_tell_28 (by decide) ?_
  obtain ⟨hi9, h⟩ := gi_ck h
  obtain ⟨T10, e11, h⟩ := gi_let h
  refine gy_iast C py_s0 ht0 hi9 dL_tell_29 py_u0 ?_
  rw [← e11]
  refine gx_iconst0 C dL_tell_30 ?_
  refine gx_istore C dL_tell_31 (by rw [hnL]; decide) trivial ?_
  refine gx_weak (gx_le_k rfl (gx_le_k rfl (gx_le_k rfl (gx_le_k rfl (gx_le_k rfl (gx_le_k rfl (gx_le_n (gx_le_n (gx_le_n (gx_le_n (gx_le_n gx_le_0))))))))))) (gi_loop (P := fun t => gx_G Γ 0 0 33 [.ref (a 0), .ref b0, .ref (ρ 0), .ref (ρ 1), .int v2, .int t.1, .null, .null, .null, .null, .null] [] (wX a ι t.2.1 ++ wR ρ ι t.2.2)) (fun kk t hk h => ?_) 5000 _ h)
  obtain ⟨x59, S9, T9⟩ := t
  exact br_tell_33 hx C ⟨F, hnL⟩ X (k33 := kk) (fun x58 S8 T8 h => hk (x58, S8, T8) h) h

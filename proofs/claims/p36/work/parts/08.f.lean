def r_turn_87 (k32 : Int32 × Int32 × gx_S → Option (Int32 × gx_S)) (x2 : Int32) (x3 : Int32) (x6 : Int32) (x8 : Int32) (s0 : Int32) (s1 : Int32) (S : gx_S) : Option (Int32 × gx_S) := k32 ((s0 + s1), (x8 + 1), S)
set_option maxRecDepth 20000 in
set_option maxHeartbeats 1000000 in
theorem br_turn_87 {Γ : gx_T} {ι : Nat → ClassId} {a : Nat → Nat} {out : Int32 × gx_S} (hx : gx_std vwCl (gty ι) (gx_cl Γ) (gx_ty Γ)) (C : gx_ok Γ cL_turn RL gx_U 4) (F : ((gy_fin Γ (some .int) (wR a ι) out 2 12) ∧ True) ∧ gx_nL Γ = 15) {k32 : Int32 × Int32 × gx_S → Option (Int32 × gx_S)} {x2 : Int32} {x3 : Int32} {x6 : Int32} {x8 : Int32} {s0 : Int32} {s1 : Int32} {S : gx_S} (hk32 : ∀ (x77 : Int32) (x87 : Int32) (S7 : gx_S), k32 (x77, x87, S7) = some out → gx_G Γ 2 12 32 [.ref (a 0), .ref (a 1), .int x2, .int x3, .ref (a 2), .ref (a 3), .int x6, .int x77, .int x87, .null, .null, .null, .null, .null, .null] [] (wT a ι S7)) (h : r_turn_87 k32 x2 x3 x6 x8 s0 s1 S = some out) : gx_G Γ 2 12 87 [.ref (a 0), .ref (a 1), .int x2, .int x3, .ref (a 2), .ref (a 3), .int x6, .null, .int x8, .null, .null, .null, .null, .null, .null] [.int s1, .int s0] (wT a ι S) := by
  obtain ⟨F, hnL⟩ := F
  unfold r_turn_87 at h
  refine gx_iadd C dL_turn_87 ?_
  refine gx_istore C dL_turn_88 (by rw [hnL]; decide) trivial ?_
  refine gx_iinc1 C dL_turn_90 rfl (by rw [hnL]; decide) trivial ?_
  refine gx_goto (tgt := 32) C dL_turn_93 (by decide) ?_
  exact gx_weak (gx_le_k rfl (gx_le_k rfl (gx_le_k rfl (gx_le_k rfl (gx_le_k rfl (gx_le_k rfl (gx_le_k rfl (gx_le_k rfl (gx_le_k rfl (gx_le_n (gx_le_n (gx_le_n (gx_le_n (gx_le_n (gx_le_n gx_le_0))))))))))))))) (hk32 _ _ _ h)
def r_turn_86 (k32 : Int32 × Int32 × gx_S → Option (Int32 × gx_S)) (x2 : Int32) (x3 : Int32) (x6 : Int32) (x8 : Int32) (s0 : Int32) (S : gx_S) : Option (Int32 × gx_S) := r_turn_87 k32 x2 x3 x6 x8 s0 0 S
set_option maxRecDepth 20000 in
set_option maxHeartbeats 1000000 in
theorem br_turn_86 {Γ : gx_T} {ι : Nat → ClassId} {a : Nat → Nat} {out : Int32 × gx_S} (hx : gx_std vwCl (gty ι) (gx_cl Γ) (gx_ty Γ)) (C : gx_ok Γ cL_turn RL gx_U 4) (F : ((gy_fin Γ (some .int) (wR a ι) out 2 12) ∧ True) ∧ gx_nL Γ = 15) {k32 : Int32 × Int32 × gx_S → Option (Int32 × gx_S)} {x2 : Int32} {x3 : Int32} {x6 : Int32} {x8 : Int32} {s0 : Int32} {S : gx_S} (hk32 : ∀ (x77 : Int32) (x87 : Int32) (S7 : gx_S), k32 (x77, x87, S7) = some out → gx_G Γ 2 12 32 [.ref (a 0), .ref (a 1), .int x2, .int x3, .ref (a 2), .ref (a 3), .int x6, .int x77, .int x87, .null, .null, .null, .null, .null, .null] [] (wT a ι S7)) (h : r_turn_86 k32 x2 x3 x6 x8 s0 S = some out) : gx_G Γ 2 12 86 [.ref (a 0), .ref (a 1), .int x2, .int x3, .ref (a 2), .ref (a 3), .int x6, .null, .int x8, .null, .null, .null, .null, .null, .null] [.int s0] (wT a ι S) := by
  obtain ⟨F, hnL⟩ := F
  unfold r_turn_86 at h
  refine gx_iconst0 C dL_turn_86 ?_
  exact gx_weak (gx_le_k rfl (gx_le_k rfl (gx_le_k rfl (gx_le_k rfl (gx_le_k rfl (gx_le_k rfl (gx_le_k rfl (gx_le_n (gx_le_k rfl (gx_le_n (gx_le_n (gx_le_n (gx_le_n (gx_le_n (gx_le_n gx_le_0))))))))))))))) (br_turn_87 hx C ⟨F, hnL⟩ hk32 h)
def r_turn_260 (k192 : Int32 × Int32 × Int32 × gx_S → Option (Int32 × gx_S)) (k209 : Int32 × Int32 × gx_S → Option (Int32 × gx_S)) (x2 : Int32) (x3 : Int32) (x6 : Int32) (x8 : Int32) (x9 : Int32) (x10 : Int32) (x11 : Int32) (x12 : Int32) (x13 : Int32) (S : gx_S) : Option (Int32 × gx_S) := k209 (x12, (x13 + 1), S)
set_option maxRecDepth 20000 in
set_option maxHeartbeats 1000000 in
theorem br_turn_260 {Γ : gx_T} {ι : Nat → ClassId} {a : Nat → Nat} {out : Int32 × gx_S} (hx : gx_std vwCl (gty ι) (gx_cl Γ) (gx_ty Γ)) (C : gx_ok Γ cL_turn RL gx_U 4) (F : ((gy_fin Γ (some .int) (wR a ι) out 2 12) ∧ True) ∧ gx_nL Γ = 15) {k192 : Int32 × Int32 × Int32 × gx_S → Option (Int32 × gx_S)} {k209 : Int32 × Int32 × gx_S → Option (Int32 × gx_S)} {x2 : Int32} {x3 : Int32} {x6 : Int32} {x10 : Int32} {x8 : Int32} {x9 : Int32} {x11 : Int32} {x12 : Int32} {x13 : Int32} {S : gx_S} (hk192 : ∀ (x87 : Int32) (x97 : Int32) (x117 : Int32) (S7 : gx_S), k192 (x87, x97, x117, S7) = some out → gx_G Γ 2 12 192 [.ref (a 0), .ref (a 1), .int x2, .int x3, .ref (a 2), .ref (a 3), .int x6, .null, .int x87, .int x97, .int x10, .int x117, .null, .null, .null] [] (wT a ι S7)) (hk209 : ∀ (x127 : Int32) (x137 : Int32) (S7 : gx_S), k209 (x127, x137, S7) = some out → gx_G Γ 2 12 209 [.ref (a 0), .ref (a 1), .int x2, .int x3, .ref (a 2), .ref (a 3), .int x6, .null, .int x8, .int x9, .int x10, .int x11, .int x127, .int x137, .null] [] (wT a ι S7)) (h : r_turn_260 k192 k209 x2 x3 x6 x8 x9 x10 x11 x12 x13 S = some out) : gx_G Γ 2 12 260 [.ref (a 0), .ref (a 1), .int x2, .int x3, .ref (a 2), .ref (a 3), .int x6, .null, .int x8, .int x9, .int x10, .int x11, .int x12, .int x13, .null] [] (wT a ι S) := by
  obtain ⟨F, hnL⟩ := F
  unfold r_turn_260 at h
  refine gx_iinc1 C dL_turn_260 rfl (by rw [hnL]; decide) trivial ?_
  refine gx_goto (tgt := 209) C dL_turn_263 (by decide) ?_
  exact gx_weak (gx_le_k rfl (gx_le_k rfl (gx_le_k rfl (gx_le_k rfl (gx_le_k rfl (gx_le_k rfl (gx_le_k rfl (gx_le_n (gx_le_k rfl (gx_le_k rfl (gx_le_k rfl (gx_le_k rfl (gx_le_k rfl (gx_le_k rfl (gx_le_n gx_le_0))))))))))))))) (hk209 _ _ _ h)
def r_turn_258 (k192 : Int32 × Int32 × Int32 × gx_S → Option (Int32 × gx_S)) (k209 : Int32 × Int32 × gx_S → Option (Int32 × gx_S)) (x2 : Int32) (x3 : Int32) (x6 : Int32) (x8 : Int32) (x9 : Int32) (x10 : Int32) (x11 : Int32) (x13 : Int32) (s0 : Int32) (S : gx_S) : Option (Int32 × gx_S) := r_turn_260 k192 k209 x2 x3 x6 x8 x9 x10 x11 s0 x13 S
set_option maxRecDepth 20000 in
set_option maxHeartbeats 1000000 in
theorem br_turn_258 {Γ : gx_T} {ι : Nat → ClassId} {a : Nat → Nat} {out : Int32 × gx_S} (hx : gx_std vwCl (gty ι) (gx_cl Γ) (gx_ty Γ)) (C : gx_ok Γ cL_turn RL gx_U 4) (F : ((gy_fin Γ (some .int) (wR a ι) out 2 12) ∧ True) ∧ gx_nL Γ = 15) {k192 : Int32 × Int32 × Int32 × gx_S → Option (Int32 × gx_S)} {k209 : Int32 × Int32 × gx_S → Option (Int32 × gx_S)} {x2 : Int32} {x3 : Int32} {x6 : Int32} {x10 : Int32} {x8 : Int32} {x9 : Int32} {x11 : Int32} {x13 : Int32} {s0 : Int32} {S : gx_S} (hk192 : ∀ (x87 : Int32) (x97 : Int32) (x117 : Int32) (S7 : gx_S), k192 (x87, x97, x117, S7) = some out → gx_G Γ 2 12 192 [.ref (a 0), .ref (a 1), .int x2, .int x3, .ref (a 2), .ref (a 3), .int x6, .null, .int x87, .int x97, .int x10, .int x117, .null, .null, .null] [] (wT a ι S7)) (hk209 : ∀ (x127 : Int32) (x137 : Int32) (S7 : gx_S), k209 (x127, x137, S7) = some out → gx_G Γ 2 12 209 [.ref (a 0), .ref (a 1), .int x2, .int x3, .ref (a 2), .ref (a 3), .int x6, .null, .int x8, .int x9, .int x10, .int x11, .int x127, .int x137, .null] [] (wT a ι S7)) (h : r_turn_258 k192 k209 x2 x3 x6 x8 x9 x10 x11 x13 s0 S = some out) : gx_G Γ 2 12 258 [.ref (a 0), .ref (a 1), .int x2, .int x3, .ref (a 2), .ref (a 3), .int x6, .null, .int x8, .int x9, .int x10, .int x11, .null, .int x13, .null] [.int s0] (wT a ι S) := by
  obtain ⟨F, hnL⟩ := F
  unfold r_turn_258 at h
  refine gx_istore C dL_turn_258 (by rw [hnL]; decide) trivial ?_
  exact gx_weak (gx_le_k rfl (gx_le_k rfl (gx_le_k rfl (gx_le_k rfl (gx_le_k rfl (gx_le_k rfl (gx_le_k rfl (gx_le_n (gx_le_k rfl (gx_le_k rfl (gx_le_k rfl (gx_le_k rfl (gx_le_k rfl (gx_le_k rfl (gx_le_n gx_le_0))))))))))))))) (br_turn_260 hx C ⟨F, hnL⟩ hk192 hk209 h)
def r_turn_316 (k192 : Int32 × Int32 × Int32 × gx_S → Option (Int32 × gx_S)) (x2 : Int32) (x3 : Int32) (x6 : Int32) (x8 : Int32) (x9 : Int32) (x10 : Int32) (x11 : Int32) (S : gx_S) : Option (Int32 × gx_S) := k192 (x8, x9, (x11 + 1), S)
set_option maxRecDepth 20000 in
set_option maxHeartbeats 1000000 in
theorem br_turn_316 {Γ : gx_T} {ι : Nat → ClassId} {a : Nat → Nat} {out : Int32 × gx_S} (hx : gx_std vwCl (gty ι) (gx_cl Γ) (gx_ty Γ)) (C : gx_ok Γ cL_turn RL gx_U 4) (F : ((gy_fin Γ (some .int) (wR a ι) out 2 12) ∧ True) ∧ gx_nL Γ = 15) {k192 : Int32 × Int32 × Int32 × gx_S → Option (Int32 × gx_S)} {x2 : Int32} {x3 : Int32} {x6 : Int32} {x10 : Int32} {x8 : Int32} {x9 : Int32} {x11 : Int32} {S : gx_S} (hk192 : ∀ (x87 : Int32) (x97 : Int32) (x117 : Int32) (S7 : gx_S), k192 (x87, x97, x117, S7) = some out → gx_G Γ 2 12 192 [.ref (a 0), .ref (a 1), .int x2, .int x3, .ref (a 2), .ref (a 3), .int x6, .null, .int x87, .int x97, .int x10, .int x117, .null, .null, .null] [] (wT a ι S7)) (h : r_turn_316 k192 x2 x3 x6 x8 x9 x10 x11 S = some out) : gx_G Γ 2 12 316 [.ref (a 0), .ref (a 1), .int x2, .int x3, .ref (a 2), .ref (a 3), .int x6, .null, .int x8, .int x9, .int x10, .int x11, .null, .null, .null] [] (wT a ι S) := by
  obtain ⟨F, hnL⟩ := F
  unfold r_turn_316 at h
  refine gx_iinc1 C dL_turn_316 rfl (by rw [hnL]; decide) trivial ?_
  refine gx_goto (tgt := 192) C dL_turn_319 (by decide) ?_
  exact gx_weak (gx_le_k rfl (gx_le_k rfl (gx_le_k rfl (gx_le_k rfl (gx_le_k rfl (gx_le_k rfl (gx_le_k rfl (gx_le_n (gx_le_k rfl (gx_le_k rfl (gx_le_k rfl (gx_le_k rfl (gx_le_n (gx_le_n (gx_le_n gx_le_0))))))))))))))) (hk192 _ _ _ _ h)
def r_turn_291 (k192 : Int32 × Int32 × Int32 × gx_S → Option (Int32 × gx_S)) (x2 : Int32) (x3 : Int32) (x6 : Int32) (x8 : Int32) (x9 : Int32) (x10 : Int32) (x11 : Int32) (t : Int32 × gx_S) (k291 : Int32 × gx_S → Option (Int32 × gx_S)) : Option (Int32 × gx_S) := match t with
  | (x14, S) => if 6 ≤ x14 then r_turn_316 k192 x2 x3 x6 x8 x9 x10 x11 S else gx_ck 45 ((27 : Int32) + x14) (gx_ck 6 x14 (gx_let (gx_st S 3 x14.toNatClampNeg (S 0 ((27 : Int32) + x14).toNatClampNeg)) fun S3 => k291 ((x14 + 1), S3)))
set_option maxRecDepth 20000 in
set_option maxHeartbeats 1000000 in
theorem br_turn_291 {Γ : gx_T} {ι : Nat → ClassId} {a : Nat → Nat} {out : Int32 × gx_S} (hx : gx_std vwCl (gty ι) (gx_cl Γ) (gx_ty Γ)) (C : gx_ok Γ cL_turn RL gx_U 4) (F : ((gy_fin Γ (some .int) (wR a ι) out 2 12) ∧ True) ∧ gx_nL Γ = 15) {k192 : Int32 × Int32 × Int32 × gx_S → Option (Int32 × gx_S)} {k291 : Int32 × gx_S → Option (Int32 × gx_S)} {x2 : Int32} {x3 : Int32} {x6 : Int32} {x10 : Int32} {x8 : Int32} {x9 : Int32} {x11 : Int32} {x14 : Int32} {S : gx_S} (hk192 : ∀ (x87 : Int32) (x97 : Int32) (x117 : Int32) (S7 : gx_S), k192 (x87, x97, x117, S7) = some out → gx_G Γ 2 12 192 [.ref (a 0), .ref (a 1), .int x2, .int x3, .ref (a 2), .ref (a 3), .int x6, .null, .int x87, .int x97, .int x10, .int x117, .null, .null, .null] [] (wT a ι S7)) (hk291 : ∀ (x147 : Int32) (S7 : gx_S), k291 (x147, S7) = some out → gx_G Γ 2 12 291 [.ref (a 0), .ref (a 1), .int x2, .int x3, .ref (a 2), .ref (a 3), .int x6, .null, .int x8, .int x9, .int x10, .int x11, .null, .null, .int x147] [] (wT a ι S7)) (h : r_turn_291 k192 x2 x3 x6 x8 x9 x10 x11 (x14, S) k291 = some out) : gx_G Γ 2 12 291 [.ref (a 0), .ref (a 1), .int x2, .int x3, .ref (a 2), .ref (a 3), .int x6, .null, .int x8, .int x9, .int x10, .int x11, .null, .null, .int x14] [] (wT a ι S) := by
  obtain ⟨F, hnL⟩ := F
  unfold r_turn_291 at h
  dsimp only at h
  refine gx_iload C dL_turn_291 rfl ?_
  refine gx_bipush (v := 6) C dL_turn_293 (by decide) ?_
  refine gx_icmp_ge (tgt := 316) C dL_turn_295 (by decide) (fun hc5 => ?_) (fun hc5 => ?_)
  · have h := gi_t hc5 h
    exact gx_weak (gx_le_k rfl (gx_le_k rfl (gx_le_k rfl (gx_le_k rfl (gx_le_k rfl (gx_le_k rfl (gx_le_k rfl (gx_le_n (gx_le_k rfl (gx_le_k rfl (gx_le_k rfl (gx_le_k rfl (gx_le_n (gx_le_n (gx_le_n gx_le_0))))))))))))))) (br_turn_316 hx C ⟨F, hnL⟩ hk192 h)
  · have h := gi_f hc5 h
    refine gx_aload C dL_turn_298 rfl ?_
    refine gx_iload C dL_turn_300 rfl ?_
    refine gx_aload_0 C dL_turn_302 rfl ?_
    refine gx_bipush (v := 27) C dL_turn_303 (by decide) ?_
    refine gx_iload C dL_turn_305 rfl ?_
    refine gx_iadd C dL_turn_307 ?_
    obtain ⟨hi1, h⟩ := gi_ck h
    refine gs_iald (q := 0) C (ac_T_row hx a) lt_T_row hi1 dL_turn_308 ?_
    obtain ⟨hi2, h⟩ := gi_ck h
    obtain ⟨S3, e4, h⟩ := gi_let h
    refine gs_iast (q := 3) C (ac_T_best hx a) lt_T_best hi2 e4 dL_turn_309 ?_
    refine gx_iinc1 C dL_turn_310 rfl (by rw [hnL]; decide) trivial ?_
    refine gx_goto (tgt := 291) C dL_turn_313 (by decide) ?_
    exact gx_weak (gx_le_k rfl (gx_le_k rfl (gx_le_k rfl (gx_le_k rfl (gx_le_k rfl (gx_le_k rfl (gx_le_k rfl (gx_le_n (gx_le_k rfl (gx_le_k rfl (gx_le_k rfl (gx_le_k rfl (gx_le_n (gx_le_n (gx_le_k rfl gx_le_0))))))))))))))) (hk291 _ _ h)
def r_turn_209 (k192 : Int32 × Int32 × Int32 × gx_S → Option (Int32 × gx_S)) (x2 : Int32) (x3 : Int32) (x6 : Int32) (x8 : Int32) (x9 : Int32) (x10 : Int32) (x11 : Int32) (t : Int32 × Int32 × gx_S) (k209 : Int32 × Int32 × gx_S → Option (Int32 × gx_S)) : Option (Int32 × gx_S) := match t with
  | (x12, x13, S) => gx_ck 45 (1 : Int32) (if (S 0 (1 : Int32).toNatClampNeg) ≤ x13 then gx_cp (r_profit x2 S) fun v3 => if v3 ≤ x8 then r_turn_316 k192 x2 x3 x6 x8 x9 x10 x11 S else gx_loop (r_turn_291 k192 x2 x3 x6 v3 1 x10 x11) 5000 (0, S) else gx_ck 45 ((33 : Int32) + x13) (if (S 0 ((33 : Int32) + x13).toNatClampNeg) = x2 then gx_nz x12 (gx_ck 45 ((27 : Int32) + x13) (gx_let (gx_st S 0 ((27 : Int32) + x13).toNatClampNeg ((x11 / x12) - (x11 / x12) / 10 * 10)) fun S8 => if x12 ≤ 1 then r_turn_258 k192 k209 x2 x3 x6 x8 x9 x10 x11 x13 1 S8 else r_turn_258 k192 k209 x2 x3 x6 x8 x9 x10 x11 x13 (x12 / 10) S8)) else r_turn_260 k192 k209 x2 x3 x6 x8 x9 x10 x11 x12 x13 S))
set_option maxRecDepth 20000 in
set_option maxHeartbeats 1000000 in
theorem br_turn_209 {Γ : gx_T} {ι : Nat → ClassId} {a : Nat → Nat} {out : Int32 × gx_S} (hx : gx_std vwCl (gty ι) (gx_cl Γ) (gx_ty Γ)) (C : gx_ok Γ cL_turn RL gx_U 4) (F : ((gy_fin Γ (some .int) (wR a ι) out 2 12) ∧ True) ∧ gx_nL Γ = 15) {k192 : Int32 × Int32 × Int32 × gx_S → Option (Int32 × gx_S)} {k209 : Int32 × Int32 × gx_S → Option (Int32 × gx_S)} {x2 : Int32} {x3 : Int32} {x6 : Int32} {x10 : Int32} {x8 : Int32} {x9 : Int32} {x11 : Int32} {x12 : Int32} {x13 : Int32} {S : gx_S} (hk192 : ∀ (x87 : Int32) (x97 : Int32) (x117 : Int32) (S7 : gx_S), k192 (x87, x97, x117, S7) = some out → gx_G Γ 2 12 192 [.ref (a 0), .ref (a 1), .int x2, .int x3, .ref (a 2), .ref (a 3), .int x6, .null, .int x87, .int x97, .int x10, .int x117, .null, .null, .null] [] (wT a ι S7)) (hk209 : ∀ (x127 : Int32) (x137 : Int32) (S7 : gx_S), k209 (x127, x137, S7) = some out → gx_G Γ 2 12 209 [.ref (a 0), .ref (a 1), .int x2, .int x3, .ref (a 2), .ref (a 3), .int x6, .null, .int x8, .int x9, .int x10, .int x11, .int x127, .int x137, .null] [] (wT a ι S7)) (h : r_turn_209 k192 x2 x3 x6 x8 x9 x10 x11 (x12, x13, S) k209 = some out) : gx_G Γ 2 12 209 [.ref (a 0), .ref (a 1), .int x2, .int x3, .ref (a 2), .ref (a 3), .int x6, .null, .int x8, .int x9, .int x10, .int x11, .int x12, .int x13, .null] [] (wT a ι S) := by
  obtain ⟨F, hnL⟩ := F
  unfold r_turn_209 at h
  dsimp only at h
  refine gx_iload C dL_turn_209 rfl ?_
  refine gx_aload_0 C dL_turn_211 rfl ?_
  refine gx_iconst1 C dL_turn_212 ?_
  obtain ⟨hi1, h⟩ := gi_ck h
  refine gs_iald (q := 0) C (ac_T_row hx a) lt_T_row hi1 dL_turn_213 ?_
  refine gx_icmp_ge (tgt := 266) C dL_turn_214 (by decide) (fun hc12 => ?_) (fun hc12 => ?_)
  · have h := gi_t hc12 h
    refine gx_aload_0 C dL_turn_266 rfl ?_
    refine gx_aload_1 C dL_turn_267 rfl ?_
    refine gx_iload_2 C dL_turn_268 rfl ?_
    obtain ⟨v3, e2, h⟩ := gi_cp h
    refine gx_world (wT_R a ι S) ?_
    refine gc_ISf C (cr_profit (gx_l Γ) (gx_D Γ) hx a _ _ e2) (gx_cwS C gx_uu lk_L_51 (by decide) (by decide)) rfl rfl (Nat.le_of_ble_eq_true rfl) ⟨by rw [F.1.1]; exact Nat.le_refl _, by rw [F.1.2.1]; exact Nat.le_refl _⟩ dL_turn_269 ?_
    refine gx_world (wT_R a ι S).symm ?_
    refine gx_istore C dL_turn_272 (by rw [hnL]; decide) trivial ?_
    refine gx_iload C dL_turn_274 rfl ?_
    refine gx_iload C dL_turn_276 rfl ?_
    refine gx_icmp_le (tgt := 316) C dL_turn_278 (by decide) (fun hc4 => ?_) (fun hc4 => ?_)
    · have h := gi_t hc4 h
      exact gx_weak (gx_le_k rfl (gx_le_k rfl (gx_le_k rfl (gx_le_k rfl (gx_le_k rfl (gx_le_k rfl (gx_le_k rfl (gx_le_n (gx_le_k rfl (gx_le_k rfl (gx_le_k rfl (gx_le_k rfl (gx_le_n (gx_le_n (gx_le_n gx_le_0))))))))))))))) (br_turn_316 hx C ⟨F, hnL⟩ hk192 h)
    · have h := gi_f hc4 h
      refine gx_iload C dL_turn_281 rfl ?_
      refine gx_istore C dL_turn_283 (by rw [hnL]; decide) trivial ?_
      refine gx_iconst1 C dL_turn_285 ?_
      refine gx_istore C dL_turn_286 (by rw [hnL]; decide) trivial ?_
      refine gx_iconst0 C dL_turn_288 ?_
      refine gx_istore C dL_turn_289 (by rw [hnL]; decide) trivial ?_
      refine gx_Veq (V' := [.ref (a 0), .ref (a 1), .int x2, .int x3, .ref (a 2), .ref (a 3), .int x6, .null, .int v3, .int 1, .int x10, .int x11, .int x12, .int v3, .int 0]) rfl ?_
      refine gx_weak (gx_le_k rfl (gx_le_k rfl (gx_le_k rfl (gx_le_k rfl (gx_le_k rfl (gx_le_k rfl (gx_le_k rfl (gx_le_n (gx_le_k rfl (gx_le_k rfl (gx_le_k rfl (gx_le_k rfl (gx_le_n (gx_le_n (gx_le_k rfl gx_le_0))))))))))))))) (gi_loop (P := fun t => gx_G Γ 2 12 291 [.ref (a 0), .ref (a 1), .int x2, .int x3, .ref (a 2), .ref (a 3), .int x6, .null, .int v3, .int 1, .int x10, .int x11, .null, .null, .int t.1] [] (wT a ι t.2)) (fun kk t hk h => ?_) 5000 _ h)
      obtain ⟨x149, S'9⟩ := t
      exact br_turn_291 hx C ⟨F, hnL⟩ hk192 (k291 := kk) (fun x148 S'8 h => hk (x148, S'8) h) h
  · have h := gi_f hc12 h
    refine gx_aload_0 C dL_turn_217 rfl ?_
    refine gx_bipush (v := 33) C dL_turn_218 (by decide) ?_
    refine gx_iload C dL_turn_220 rfl ?_
    refine gx_iadd C dL_turn_222 ?_
    obtain ⟨hi5, h⟩ := gi_ck h
    refine gs_iald (q := 0) C (ac_T_row hx a) lt_T_row hi5 dL_turn_223 ?_
    refine gx_iload_2 C dL_turn_224 rfl ?_
    refine gx_icmp_ne (tgt := 260) C dL_turn_225 (by decide) (fun hc11 => ?_) (fun hc11 => ?_)
    · have h := gi_f hc11 h
      exact gx_weak (gx_le_k rfl (gx_le_k rfl (gx_le_k rfl (gx_le_k rfl (gx_le_k rfl (gx_le_k rfl (gx_le_k rfl (gx_le_n (gx_le_k rfl (gx_le_k rfl (gx_le_k rfl (gx_le_k rfl (gx_le_k rfl (gx_le_k rfl (gx_le_n gx_le_0))))))))))))))) (br_turn_260 hx C ⟨F, hnL⟩ hk192 hk209 h)
    · have h := gi_t hc11 h
      refine gx_aload_0 C dL_turn_228 rfl ?_
      refine gx_bipush (v := 27) C dL_turn_229 (by decide) ?_
      refine gx_iload C dL_turn_231 rfl ?_
      refine gx_iadd C dL_turn_233 ?_
      refine gx_iload C dL_turn_234 rfl ?_
      refine gx_iload C dL_turn_236 rfl ?_
      obtain ⟨hz6, h⟩ := gi_nz h
      refine gx_idiv C dL_turn_238 hz6 ?_
      refine gx_bipush (v := 10) C dL_turn_239 (by decide) ?_
      refine gx_irem C dL_turn_241 (by decide) ?_
      obtain ⟨hi7, h⟩ := gi_ck h
      obtain ⟨S8, e9, h⟩ := gi_let h
      refine gs_iast (q := 0) C (ac_T_row hx a) lt_T_row hi7 e9 dL_turn_242 ?_
      refine gx_iload C dL_turn_243 rfl ?_
      refine gx_iconst1 C dL_turn_245 ?_
      refine gx_icmp_le (tgt := 257) C dL_turn_246 (by decide) (fun hc10 => ?_) (fun hc10 => ?_)
      · have h := gi_t hc10 h
        refine gx_iconst1 C dL_turn_257 ?_
        exact gx_weak (gx_le_k rfl (gx_le_k rfl (gx_le_k rfl (gx_le_k rfl (gx_le_k rfl (gx_le_k rfl (gx_le_k rfl (gx_le_n (gx_le_k rfl (gx_le_k rfl (gx_le_k rfl (gx_le_k rfl (gx_le_n (gx_le_k rfl (gx_le_n gx_le_0))))))))))))))) (br_turn_258 hx C ⟨F, hnL⟩ hk192 hk209 h)
      · have h := gi_f hc10 h
        refine gx_iload C dL_turn_249 rfl ?_
        refine gx_bipush (v := 10) C dL_turn_251 (by decide) ?_
        refine gx_idiv C dL_turn_253 (by decide) ?_
        refine gx_goto (tgt := 258) C dL_turn_254 (by decide) ?_
        exact gx_weak (gx_le_k rfl (gx_le_k rfl (gx_le_k rfl (gx_le_k rfl (gx_le_k rfl (gx_le_k rfl (gx_le_k rfl (gx_le_n (gx_le_k rfl (gx_le_k rfl (gx_le_k rfl (gx_le_k rfl (gx_le_n (gx_le_k rfl (gx_le_n gx_le_0))))))))))))))) (br_turn_258 hx C ⟨F, hnL⟩ hk192 hk209 h)
def r_turn_403 (k364 : Int32 × Int32 × gx_S → Option (Int32 × gx_S)) (x12 : Int32) (s0 : Int32) (s1 : Int32) (S : gx_S) : Option (Int32 × gx_S) := k364 ((s0 + s1), (x12 + 1), S)
set_option maxRecDepth 20000 in
set_option maxHeartbeats 1000000 in
theorem br_turn_403 {Γ : gx_T} {ι : Nat → ClassId} {a : Nat → Nat} {out : Int32 × gx_S} (hx : gx_std vwCl (gty ι) (gx_cl Γ) (gx_ty Γ)) (C : gx_ok Γ cL_turn RL gx_U 4) (F : ((gy_fin Γ (some .int) (wR a ι) out 2 12) ∧ True) ∧ gx_nL Γ = 15) {k364 : Int32 × Int32 × gx_S → Option (Int32 × gx_S)} {x12 : Int32} {s0 : Int32} {s1 : Int32} {S : gx_S} (hk364 : ∀ (x117 : Int32) (x127 : Int32) (S7 : gx_S), k364 (x117, x127, S7) = some out → gx_G Γ 2 12 364 [.ref (a 0), .ref (a 1), .null, .null, .ref (a 2), .ref (a 3), .null, .null, .null, .null, .null, .int x117, .int x127, .null, .null] [] (wT a ι S7)) (h : r_turn_403 k364 x12 s0 s1 S = some out) : gx_G Γ 2 12 403 [.ref (a 0), .ref (a 1), .null, .null, .ref (a 2), .ref (a 3), .null, .null, .null, .null, .null, .null, .int x12, .null, .null] [.int s1, .int s0] (wT a ι S) := by
  obtain ⟨F, hnL⟩ := F
  unfold r_turn_403 at h
  refine gx_iadd C dL_turn_403 ?_
  refine gx_istore C dL_turn_404 (by rw [hnL]; decide) trivial ?_
  refine gx_iinc1 C dL_turn_406 rfl (by rw [hnL]; decide) trivial ?_
  refine gx_goto (tgt := 364) C dL_turn_409 (by decide) ?_
  exact gx_weak (gx_le_k rfl (gx_le_k rfl (gx_le_n (gx_le_n (gx_le_k rfl (gx_le_k rfl (gx_le_n (gx_le_n (gx_le_n (gx_le_n (gx_le_n (gx_le_k rfl (gx_le_k rfl (gx_le_n (gx_le_n gx_le_0))))))))))))))) (hk364 _ _ _ h)
def r_turn_364 (t : Int32 × Int32 × gx_S) (k364 : Int32 × Int32 × gx_S → Option (Int32 × gx_S)) : Option (Int32 × gx_S) := match t with
  | (x11, x12, S) => if 6 ≤ x12 then some (x11, S) else gx_ck 6 x12 (gx_ck 45 ((27 : Int32) + x12) (gx_let (gx_st S 0 ((27 : Int32) + x12).toNatClampNeg (S 3 x12.toNatClampNeg)) fun S3 => if (S3 3 x12.toNatClampNeg) = (S3 2 x12.toNatClampNeg) then r_turn_403 k364 x12 x11 0 S3 else r_turn_403 k364 x12 x11 1 S3))
set_option maxRecDepth 20000 in
set_option maxHeartbeats 1000000 in
theorem br_turn_364 {Γ : gx_T} {ι : Nat → ClassId} {a : Nat → Nat} {out : Int32 × gx_S} (hx : gx_std vwCl (gty ι) (gx_cl Γ) (gx_ty Γ)) (C : gx_ok Γ cL_turn RL gx_U 4) (F : ((gy_fin Γ (some .int) (wR a ι) out 2 12) ∧ True) ∧ gx_nL Γ = 15) {k364 : Int32 × Int32 × gx_S → Option (Int32 × gx_S)} {x11 : Int32} {x12 : Int32} {S : gx_S} (hk364 : ∀ (x117 : Int32) (x127 : Int32) (S7 : gx_S), k364 (x117, x127, S7) = some out → gx_G Γ 2 12 364 [.ref (a 0), .ref (a 1), .null, .null, .ref (a 2), .ref (a 3), .null, .null, .null, .null, .null, .int x117, .int x127, .null, .null] [] (wT a ι S7)) (h : r_turn_364 (x11, x12, S) k364 = some out) : gx_G Γ 2 12 364 [.ref (a 0), .ref (a 1), .null, .null, .ref (a 2), .ref (a 3), .null, .null, .null, .null, .null, .int x11, .int x12, .null, .null] [] (wT a ι S) := by
  obtain ⟨F, hnL⟩ := F
  unfold r_turn_364 at h
  dsimp only at h
  refine gx_iload C dL_turn_364 rfl ?_
  refine gx_bipush (v := 6) C dL_turn_366 (by decide) ?_
  refine gx_icmp_ge (tgt := 412) C dL_turn_368 (by decide) (fun hc6 => ?_) (fun hc6 => ?_)
  · have h := gi_t hc6 h
    refine gx_iload C dL_turn_412 rfl ?_
    refine gx_world (wT_R a ι S) ?_
    refine gy_drop ?_
    exact gy_iret S C F.1 rfl (by decide) (by decide) dL_turn_414 (Option.some.inj h)
  · have h := gi_f hc6 h
    refine gx_aload_0 C dL_turn_371 rfl ?_
    refine gx_bipush (v := 27) C dL_turn_372 (by decide) ?_
    refine gx_iload C dL_turn_374 rfl ?_
    refine gx_iadd C dL_turn_376 ?_
    refine gx_aload C dL_turn_377 rfl ?_
    refine gx_iload C dL_turn_379 rfl ?_
    obtain ⟨hi1, h⟩ := gi_ck h
    refine gs_iald (q := 3) C (ac_T_best hx a) lt_T_best hi1 dL_turn_381 ?_
    obtain ⟨hi2, h⟩ := gi_ck h
    obtain ⟨S3, e4, h⟩ := gi_let h
    refine gs_iast (q := 0) C (ac_T_row hx a) lt_T_row hi2 e4 dL_turn_382 ?_
    refine gx_iload C dL_turn_383 rfl ?_
    refine gx_aload C dL_turn_385 rfl ?_
    refine gx_iload C dL_turn_387 rfl ?_
    refine gs_iald (q := 3) C (ac_T_best hx a) lt_T_best hi1 dL_turn_389 ?_
    refine gx_aload C dL_turn_390 rfl ?_
    refine gx_iload C dL_turn_392 rfl ?_
    refine gs_iald (q := 2) C (ac_T_was hx a) lt_T_was hi1 dL_turn_394 ?_
    refine gx_icmp_ne (tgt := 402) C dL_turn_395 (by decide) (fun hc5 => ?_) (fun hc5 => ?_)
    · have h := gi_f hc5 h
      refine gx_iconst1 C dL_turn_402 ?_
      exact gx_weak (gx_le_k rfl (gx_le_k rfl (gx_le_n (gx_le_n (gx_le_k rfl (gx_le_k rfl (gx_le_n (gx_le_n (gx_le_n (gx_le_n (gx_le_n (gx_le_n (gx_le_k rfl (gx_le_n (gx_le_n gx_le_0))))))))))))))) (br_turn_403 hx C ⟨F, hnL⟩ hk364 h)
    · have h := gi_t hc5 h
      refine gx_iconst0 C dL_turn_398 ?_
      refine gx_goto (tgt := 403) C dL_turn_399 (by decide) ?_
      exact gx_weak (gx_le_k rfl (gx_le_k rfl (gx_le_n (gx_le_n (gx_le_k rfl (gx_le_k rfl (gx_le_n (gx_le_n (gx_le_n (gx_le_n (gx_le_n (gx_le_n (gx_le_k rfl (gx_le_n (gx_le_n gx_le_0))))))))))))))) (br_turn_403 hx C ⟨F, hnL⟩ hk364 h)
def r_turn_359 (s0 : Int32) (S : gx_S) : Option (Int32 × gx_S) := gx_loop (r_turn_364) 5000 (s0, 0, S)
set_option maxRecDepth 20000 in
set_option maxHeartbeats 1000000 in
theorem br_turn_359 {Γ : gx_T} {ι : Nat → ClassId} {a : Nat → Nat} {out : Int32 × gx_S} (hx : gx_std vwCl (gty ι) (gx_cl Γ) (gx_ty Γ)) (C : gx_ok Γ cL_turn RL gx_U 4) (F : ((gy_fin Γ (some .int) (wR a ι) out 2 12) ∧ True) ∧ gx_nL Γ = 15) {s0 : Int32} {S : gx_S} (h : r_turn_359 s0 S = some out) : gx_G Γ 2 12 359 [.ref (a 0), .ref (a 1), .null, .null, .ref (a 2), .ref (a 3), .null, .null, .null, .null, .null, .null, .null, .null, .null] [.int s0] (wT a ι S) := by
  obtain ⟨F, hnL⟩ := F
  unfold r_turn_359 at h
  refine gx_istore C dL_turn_359 (by rw [hnL]; decide) trivial ?_
  refine gx_iconst0 C dL_turn_361 ?_
  refine gx_istore C dL_turn_362 (by rw [hnL]; decide) trivial ?_
  refine gx_weak (gx_le_k rfl (gx_le_k rfl (gx_le_n (gx_le_n (gx_le_k rfl (gx_le_k rfl (gx_le_n (gx_le_n (gx_le_n (gx_le_n (gx_le_n (gx_le_k rfl (gx_le_k rfl (gx_le_n (gx_le_n gx_le_0))))))))))))))) (gi_loop (P := fun t => gx_G Γ 2 12 364 [.ref (a 0), .ref (a 1), .null, .null, .ref (a 2), .ref (a 3), .null, .null, .null, .null, .null, .int t.1, .int t.2.1, .null, .null] [] (wT a ι t.2.2)) (fun kk t hk h => ?_) 5000 _ h)
  obtain ⟨x119, x129, S'9⟩ := t
  exact br_turn_364 hx C ⟨F, hnL⟩ (k364 := kk) (fun x118 x128 S'8 h => hk (x118, x128, S'8) h) h
def r_turn_342 (x2 : Int32) (x6 : Int32) (s1 : Int32) (s2 : Int32) (S : gx_S) : Option (Int32 × gx_S) := gx_ck 45 s1 (gx_let (gx_st S 0 s1.toNatClampNeg s2) fun S2 => gx_ck 45 ((39 : Int32) + x2) (if (S2 0 ((39 : Int32) + x2).toNatClampNeg) = x6 then r_turn_359 0 S2 else r_turn_359 1 S2))
set_option maxRecDepth 20000 in
set_option maxHeartbeats 1000000 in
theorem br_turn_342 {Γ : gx_T} {ι : Nat → ClassId} {a : Nat → Nat} {out : Int32 × gx_S} (hx : gx_std vwCl (gty ι) (gx_cl Γ) (gx_ty Γ)) (C : gx_ok Γ cL_turn RL gx_U 4) (F : ((gy_fin Γ (some .int) (wR a ι) out 2 12) ∧ True) ∧ gx_nL Γ = 15) {x2 : Int32} {x6 : Int32} {s1 : Int32} {s2 : Int32} {S : gx_S} (h : r_turn_342 x2 x6 s1 s2 S = some out) : gx_G Γ 2 12 342 [.ref (a 0), .ref (a 1), .int x2, .null, .ref (a 2), .ref (a 3), .int x6, .null, .null, .null, .null, .null, .null, .null, .null] [.int s2, .int s1, .ref (a 0)] (wT a ι S) := by
  obtain ⟨F, hnL⟩ := F
  unfold r_turn_342 at h
  obtain ⟨hi1, h⟩ := gi_ck h
  obtain ⟨S2, e3, h⟩ := gi_let h
  refine gs_iast (q := 0) C (ac_T_row hx a) lt_T_row hi1 e3 dL_turn_342 ?_
  refine gx_aload_0 C dL_turn_343 rfl ?_
  refine gx_bipush (v := 39) C dL_turn_344 (by decide) ?_
  refine gx_iload_2 C dL_turn_346 rfl ?_
  refine gx_iadd C dL_turn_347 ?_
  obtain ⟨hi4, h⟩ := gi_ck h
  refine gs_iald (q := 0) C (ac_T_row hx a) lt_T_row hi4 dL_turn_348 ?_
  refine gx_iload C dL_turn_349 rfl ?_
  refine gx_icmp_ne (tgt := 358) C dL_turn_351 (by decide) (fun hc5 => ?_) (fun hc5 => ?_)
  · have h := gi_f hc5 h
    refine gx_iconst1 C dL_turn_358 ?_
    exact gx_weak (gx_le_k rfl (gx_le_k rfl (gx_le_n (gx_le_n (gx_le_k rfl (gx_le_k rfl (gx_le_n (gx_le_n (gx_le_n (gx_le_n (gx_le_n (gx_le_n (gx_le_n (gx_le_n (gx_le_n gx_le_0))))))))))))))) (br_turn_359 hx C ⟨F, hnL⟩ h)
  · have h := gi_t hc5 h
    refine gx_iconst0 C dL_turn_354 ?_
    refine gx_goto (tgt := 359) C dL_turn_355 (by decide) ?_
    exact gx_weak (gx_le_k rfl (gx_le_k rfl (gx_le_n (gx_le_n (gx_le_k rfl (gx_le_k rfl (gx_le_n (gx_le_n (gx_le_n (gx_le_n (gx_le_n (gx_le_n (gx_le_n (gx_le_n (gx_le_n gx_le_0))))))))))))))) (br_turn_359 hx C ⟨F, hnL⟩ h)
def r_turn_341 (x2 : Int32) (x6 : Int32) (s1 : Int32) (S : gx_S) : Option (Int32 × gx_S) := r_turn_342 x2 x6 s1 0 S
set_option maxRecDepth 20000 in
set_option maxHeartbeats 1000000 in
theorem br_turn_341 {Γ : gx_T} {ι : Nat → ClassId} {a : Nat → Nat} {out : Int32 × gx_S} (hx : gx_std vwCl (gty ι) (gx_cl Γ) (gx_ty Γ)) (C : gx_ok Γ cL_turn RL gx_U 4) (F : ((gy_fin Γ (some .int) (wR a ι) out 2 12) ∧ True) ∧ gx_nL Γ = 15) {x2 : Int32} {x6 : Int32} {s1 : Int32} {S : gx_S} (h : r_turn_341 x2 x6 s1 S = some out) : gx_G Γ 2 12 341 [.ref (a 0), .ref (a 1), .int x2, .null, .ref (a 2), .ref (a 3), .int x6, .null, .null, .null, .null, .null, .null, .null, .null] [.int s1, .ref (a 0)] (wT a ι S) := by
  obtain ⟨F, hnL⟩ := F
  unfold r_turn_341 at h
  refine gx_iconst0 C dL_turn_341 ?_
  exact gx_weak (gx_le_k rfl (gx_le_k rfl (gx_le_k rfl (gx_le_n (gx_le_k rfl (gx_le_k rfl (gx_le_k rfl (gx_le_n (gx_le_n (gx_le_n (gx_le_n (gx_le_n (gx_le_n (gx_le_n (gx_le_n gx_le_0))))))))))))))) (br_turn_342 hx C ⟨F, hnL⟩ h)
def r_turn_192 (x2 : Int32) (x3 : Int32) (x6 : Int32) (x10 : Int32) (t : Int32 × Int32 × Int32 × gx_S) (k192 : Int32 × Int32 × Int32 × gx_S → Option (Int32 × gx_S)) : Option (Int32 × gx_S) := match t with
  | (x8, x9, x11, S) => if x10 ≤ x11 then if x3 = 4 then if x9 = 0 then r_turn_341 x2 x6 ((39 : Int32) + x2) S else r_turn_342 x2 x6 ((39 : Int32) + x2) 1 S else r_turn_341 x2 x6 ((39 : Int32) + x2) S else gx_loop (r_turn_209 k192 x2 x3 x6 x8 x9 x10 x11) 5000 ((x10 / 10), 0, S)
set_option maxRecDepth 20000 in
set_option maxHeartbeats 1000000 in
theorem br_turn_192 {Γ : gx_T} {ι : Nat → ClassId} {a : Nat → Nat} {out : Int32 × gx_S} (hx : gx_std vwCl (gty ι) (gx_cl Γ) (gx_ty Γ)) (C : gx_ok Γ cL_turn RL gx_U 4) (F : ((gy_fin Γ (some .int) (wR a ι) out 2 12) ∧ True) ∧ gx_nL Γ = 15) {k192 : Int32 × Int32 × Int32 × gx_S → Option (Int32 × gx_S)} {x2 : Int32} {x3 : Int32} {x6 : Int32} {x10 : Int32} {x8 : Int32} {x9 : Int32} {x11 : Int32} {S : gx_S} (hk192 : ∀ (x87 : Int32) (x97 : Int32) (x117 : Int32) (S7 : gx_S), k192 (x87, x97, x117, S7) = some out → gx_G Γ 2 12 192 [.ref (a 0), .ref (a 1), .int x2, .int x3, .ref (a 2), .ref (a 3), .int x6, .null, .int x87, .int x97, .int x10, .int x117, .null, .null, .null] [] (wT a ι S7)) (h : r_turn_192 x2 x3 x6 x10 (x8, x9, x11, S) k192 = some out) : gx_G Γ 2 12 192 [.ref (a 0), .ref (a 1), .int x2, .int x3, .ref (a 2), .ref (a 3), .int x6, .null, .int x8, .int x9, .int x10, .int x11, .null, .null, .null] [] (wT a ι S) := by
  obtain ⟨F, hnL⟩ := F
  unfold r_turn_192 at h
  dsimp only at h
  refine gx_iload C dL_turn_192 rfl ?_
  refine gx_iload C dL_turn_194 rfl ?_
  refine gx_icmp_ge (tgt := 322) C dL_turn_196 (by decide) (fun hc3 => ?_) (fun hc3 => ?_)
  · have h := gi_t hc3 h
    refine gx_aload_0 C dL_turn_322 rfl ?_
    refine gx_bipush (v := 39) C dL_turn_323 (by decide) ?_
    refine gx_iload_2 C dL_turn_325 rfl ?_
    refine gx_iadd C dL_turn_326 ?_
    refine gx_iload_3 C dL_turn_327 rfl ?_
    refine gx_iconst4 C dL_turn_328 ?_
    refine gx_icmp_ne (tgt := 341) C dL_turn_329 (by decide) (fun hc2 => ?_) (fun hc2 => ?_)
    · have h := gi_f hc2 h
      exact gx_weak (gx_le_k rfl (gx_le_k rfl (gx_le_k rfl (gx_le_n (gx_le_k rfl (gx_le_k rfl (gx_le_k rfl (gx_le_n (gx_le_n (gx_le_n (gx_le_n (gx_le_n (gx_le_n (gx_le_n (gx_le_n gx_le_0))))))))))))))) (br_turn_341 hx C ⟨F, hnL⟩ h)
    · have h := gi_t hc2 h
      refine gx_iload C dL_turn_332 rfl ?_
      refine gx_if_eq (tgt := 341) C dL_turn_334 (by decide) (fun hc1 => ?_) (fun hc1 => ?_)
      · have h := gi_t hc1 h
        exact gx_weak (gx_le_k rfl (gx_le_k rfl (gx_le_k rfl (gx_le_n (gx_le_k rfl (gx_le_k rfl (gx_le_k rfl (gx_le_n (gx_le_n (gx_le_n (gx_le_n (gx_le_n (gx_le_n (gx_le_n (gx_le_n gx_le_0))))))))))))))) (br_turn_341 hx C ⟨F, hnL⟩ h)
      · have h := gi_f hc1 h
        refine gx_iconst1 C dL_turn_337 ?_
        refine gx_goto (tgt := 342) C dL_turn_338 (by decide) ?_
        exact gx_weak (gx_le_k rfl (gx_le_k rfl (gx_le_k rfl (gx_le_n (gx_le_k rfl (gx_le_k rfl (gx_le_k rfl (gx_le_n (gx_le_n (gx_le_n (gx_le_n (gx_le_n (gx_le_n (gx_le_n (gx_le_n gx_le_0))))))))))))))) (br_turn_342 hx C ⟨F, hnL⟩ h)
  · have h := gi_f hc3 h
    refine gx_iload C dL_turn_199 rfl ?_
    refine gx_bipush (v := 10) C dL_turn_201 (by decide) ?_
    refine gx_idiv C dL_turn_203 (by decide) ?_
    refine gx_istore C dL_turn_204 (by rw [hnL]; decide) trivial ?_
    refine gx_iconst0 C dL_turn_206 ?_
    refine gx_istore C dL_turn_207 (by rw [hnL]; decide) trivial ?_
    refine gx_weak (gx_le_k rfl (gx_le_k rfl (gx_le_k rfl (gx_le_k rfl (gx_le_k rfl (gx_le_k rfl (gx_le_k rfl (gx_le_n (gx_le_k rfl (gx_le_k rfl (gx_le_k rfl (gx_le_k rfl (gx_le_k rfl (gx_le_k rfl (gx_le_n gx_le_0))))))))))))))) (gi_loop (P := fun t => gx_G Γ 2 12 209 [.ref (a 0), .ref (a 1), .int x2, .int x3, .ref (a 2), .ref (a 3), .int x6, .null, .int x8, .int x9, .int x10, .int x11, .int t.1, .int t.2.1, .null] [] (wT a ι t.2.2)) (fun kk t hk h => ?_) 5000 _ h)
    obtain ⟨x129, x139, S'9⟩ := t
    exact br_turn_209 hx C ⟨F, hnL⟩ hk192 (k209 := kk) (fun x128 x138 S'8 h => hk (x128, x138, S'8) h) h
def r_turn_187 (x2 : Int32) (x3 : Int32) (x6 : Int32) (x8 : Int32) (x9 : Int32) (s0 : Int32) (S : gx_S) : Option (Int32 × gx_S) := gx_loop (r_turn_192 x2 x3 x6 s0) 5000 (x8, x9, 0, S)
set_option maxRecDepth 20000 in
set_option maxHeartbeats 1000000 in
theorem br_turn_187 {Γ : gx_T} {ι : Nat → ClassId} {a : Nat → Nat} {out : Int32 × gx_S} (hx : gx_std vwCl (gty ι) (gx_cl Γ) (gx_ty Γ)) (C : gx_ok Γ cL_turn RL gx_U 4) (F : ((gy_fin Γ (some .int) (wR a ι) out 2 12) ∧ True) ∧ gx_nL Γ = 15) {x2 : Int32} {x3 : Int32} {x6 : Int32} {x8 : Int32} {x9 : Int32} {s0 : Int32} {S : gx_S} (h : r_turn_187 x2 x3 x6 x8 x9 s0 S = some out) : gx_G Γ 2 12 187 [.ref (a 0), .ref (a 1), .int x2, .int x3, .ref (a 2), .ref (a 3), .int x6, .null, .int x8, .int x9, .null, .null, .null, .null, .null] [.int s0] (wT a ι S) := by
  obtain ⟨F, hnL⟩ := F
  unfold r_turn_187 at h
  refine gx_istore C dL_turn_187 (by rw [hnL]; decide) trivial ?_
  refine gx_iconst0 C dL_turn_189 ?_
  refine gx_istore C dL_turn_190 (by rw [hnL]; decide) trivial ?_
  refine gx_weak (gx_le_k rfl (gx_le_k rfl (gx_le_k rfl (gx_le_k rfl (gx_le_k rfl (gx_le_k rfl (gx_le_k rfl (gx_le_n (gx_le_k rfl (gx_le_k rfl (gx_le_k rfl (gx_le_k rfl (gx_le_n (gx_le_n (gx_le_n gx_le_0))))))))))))))) (gi_loop (P := fun t => gx_G Γ 2 12 192 [.ref (a 0), .ref (a 1), .int x2, .int x3, .ref (a 2), .ref (a 3), .int x6, .null, .int t.1, .int t.2.1, .int s0, .int t.2.2.1, .null, .null, .null] [] (wT a ι t.2.2.2)) (fun kk t hk h => ?_) 5000 _ h)
  obtain ⟨x89, x99, x119, S'9⟩ := t
  exact br_turn_192 hx C ⟨F, hnL⟩ (k192 := kk) (fun x88 x98 x118 S'8 h => hk (x88, x98, x118, S'8) h) h
def r_turn_143 (x2 : Int32) (x3 : Int32) (x6 : Int32) (x8 : Int32) (x9 : Int32) (S : gx_S) : Option (Int32 × gx_S) := r_turn_187 x2 x3 x6 x8 x9 0 S
set_option maxRecDepth 20000 in
set_option maxHeartbeats 1000000 in
theorem br_turn_143 {Γ : gx_T} {ι : Nat → ClassId} {a : Nat → Nat} {out : Int32 × gx_S} (hx : gx_std vwCl (gty ι) (gx_cl Γ) (gx_ty Γ)) (C : gx_ok Γ cL_turn RL gx_U 4) (F : ((gy_fin Γ (some .int) (wR a ι) out 2 12) ∧ True) ∧ gx_nL Γ = 15) {x2 : Int32} {x3 : Int32} {x6 : Int32} {x8 : Int32} {x9 : Int32} {S : gx_S} (h : r_turn_143 x2 x3 x6 x8 x9 S = some out) : gx_G Γ 2 12 143 [.ref (a 0), .ref (a 1), .int x2, .int x3, .ref (a 2), .ref (a 3), .int x6, .null, .int x8, .int x9, .null, .null, .null, .null, .null] [] (wT a ι S) := by
  obtain ⟨F, hnL⟩ := F
  unfold r_turn_143 at h
  refine gx_iconst0 C dL_turn_143 ?_
  refine gx_goto (tgt := 187) C dL_turn_144 (by decide) ?_
  exact gx_weak (gx_le_k rfl (gx_le_k rfl (gx_le_k rfl (gx_le_k rfl (gx_le_k rfl (gx_le_k rfl (gx_le_k rfl (gx_le_n (gx_le_k rfl (gx_le_k rfl (gx_le_n (gx_le_n (gx_le_n (gx_le_n (gx_le_n gx_le_0))))))))))))))) (br_turn_187 hx C ⟨F, hnL⟩ h)
def r_turn_157 (x2 : Int32) (x3 : Int32) (x6 : Int32) (x8 : Int32) (x9 : Int32) (S : gx_S) : Option (Int32 × gx_S) := r_turn_187 x2 x3 x6 x8 x9 10 S
set_option maxRecDepth 20000 in
set_option maxHeartbeats 1000000 in
theorem br_turn_157 {Γ : gx_T} {ι : Nat → ClassId} {a : Nat → Nat} {out : Int32 × gx_S} (hx : gx_std vwCl (gty ι) (gx_cl Γ) (gx_ty Γ)) (C : gx_ok Γ cL_turn RL gx_U 4) (F : ((gy_fin Γ (some .int) (wR a ι) out 2 12) ∧ True) ∧ gx_nL Γ = 15) {x2 : Int32} {x3 : Int32} {x6 : Int32} {x8 : Int32} {x9 : Int32} {S : gx_S} (h : r_turn_157 x2 x3 x6 x8 x9 S = some out) : gx_G Γ 2 12 157 [.ref (a 0), .ref (a 1), .int x2, .int x3, .ref (a 2), .ref (a 3), .int x6, .null, .int x8, .int x9, .null, .null, .null, .null, .null] [] (wT a ι S) := by
  obtain ⟨F, hnL⟩ := F
  unfold r_turn_157 at h
  refine gx_bipush (v := 10) C dL_turn_157 (by decide) ?_
  refine gx_goto (tgt := 187) C dL_turn_159 (by decide) ?_
  exact gx_weak (gx_le_k rfl (gx_le_k rfl (gx_le_k rfl (gx_le_k rfl (gx_le_k rfl (gx_le_k rfl (gx_le_k rfl (gx_le_n (gx_le_k rfl (gx_le_k rfl (gx_le_n (gx_le_n (gx_le_n (gx_le_n (gx_le_n gx_le_0))))))))))))))) (br_turn_187 hx C ⟨F, hnL⟩ h)
def r_turn_128 (x2 : Int32) (x3 : Int32) (x6 : Int32) (x7 : Int32) (s0 : Int32) (S : gx_S) : Option (Int32 × gx_S) := if x7 = 0 then r_turn_143 x2 x3 x6 s0 0 S else if x3 = 2 then r_turn_143 x2 x3 x6 s0 0 S else if x3 = 1 then r_turn_157 x2 x3 x6 s0 0 S else if x3 = 4 then r_turn_157 x2 x3 x6 s0 0 S else if x7 = 1 then r_turn_187 x2 x3 x6 s0 0 10 S else if x7 = 2 then r_turn_187 x2 x3 x6 s0 0 100 S else r_turn_187 x2 x3 x6 s0 0 1000 S
set_option maxRecDepth 20000 in
set_option maxHeartbeats 1000000 in
theorem br_turn_128 {Γ : gx_T} {ι : Nat → ClassId} {a : Nat → Nat} {out : Int32 × gx_S} (hx : gx_std vwCl (gty ι) (gx_cl Γ) (gx_ty Γ)) (C : gx_ok Γ cL_turn RL gx_U 4) (F : ((gy_fin Γ (some .int) (wR a ι) out 2 12) ∧ True) ∧ gx_nL Γ = 15) {x2 : Int32} {x3 : Int32} {x6 : Int32} {x7 : Int32} {s0 : Int32} {S : gx_S} (h : r_turn_128 x2 x3 x6 x7 s0 S = some out) : gx_G Γ 2 12 128 [.ref (a 0), .ref (a 1), .int x2, .int x3, .ref (a 2), .ref (a 3), .int x6, .int x7, .null, .null, .null, .null, .null, .null, .null] [.int s0] (wT a ι S) := by
  obtain ⟨F, hnL⟩ := F
  unfold r_turn_128 at h
  refine gx_istore C dL_turn_128 (by rw [hnL]; decide) trivial ?_
  refine gx_iconst0 C dL_turn_130 ?_
  refine gx_istore C dL_turn_131 (by rw [hnL]; decide) trivial ?_
  refine gx_iload C dL_turn_133 rfl ?_
  refine gx_if_eq (tgt := 143) C dL_turn_135 (by decide) (fun hc6 => ?_) (fun hc6 => ?_)
  · have h := gi_t hc6 h
    exact gx_weak (gx_le_k rfl (gx_le_k rfl (gx_le_k rfl (gx_le_k rfl (gx_le_k rfl (gx_le_k rfl (gx_le_k rfl (gx_le_n (gx_le_k rfl (gx_le_k rfl (gx_le_n (gx_le_n (gx_le_n (gx_le_n (gx_le_n gx_le_0))))))))))))))) (br_turn_143 hx C ⟨F, hnL⟩ h)
  · have h := gi_f hc6 h
    refine gx_iload_3 C dL_turn_138 rfl ?_
    refine gx_iconst2 C dL_turn_139 ?_
    refine gx_icmp_ne (tgt := 147) C dL_turn_140 (by decide) (fun hc5 => ?_) (fun hc5 => ?_)
    · have h := gi_f hc5 h
      refine gx_iload_3 C dL_turn_147 rfl ?_
      refine gx_iconst1 C dL_turn_148 ?_
      refine gx_icmp_eq (tgt := 157) C dL_turn_149 (by decide) (fun hc4 => ?_) (fun hc4 => ?_)
      · have h := gi_t hc4 h
        exact gx_weak (gx_le_k rfl (gx_le_k rfl (gx_le_k rfl (gx_le_k rfl (gx_le_k rfl (gx_le_k rfl (gx_le_k rfl (gx_le_n (gx_le_k rfl (gx_le_k rfl (gx_le_n (gx_le_n (gx_le_n (gx_le_n (gx_le_n gx_le_0))))))))))))))) (br_turn_157 hx C ⟨F, hnL⟩ h)
      · have h := gi_f hc4 h
        refine gx_iload_3 C dL_turn_152 rfl ?_
        refine gx_iconst4 C dL_turn_153 ?_
        refine gx_icmp_ne (tgt := 162) C dL_turn_154 (by decide) (fun hc3 => ?_) (fun hc3 => ?_)
        · have h := gi_f hc3 h
          refine gx_iload C dL_turn_162 rfl ?_
          refine gx_iconst1 C dL_turn_164 ?_
          refine gx_icmp_ne (tgt := 173) C dL_turn_165 (by decide) (fun hc2 => ?_) (fun hc2 => ?_)
          · have h := gi_f hc2 h
            refine gx_iload C dL_turn_173 rfl ?_
            refine gx_iconst2 C dL_turn_175 ?_
            refine gx_icmp_ne (tgt := 184) C dL_turn_176 (by decide) (fun hc1 => ?_) (fun hc1 => ?_)
            · have h := gi_f hc1 h
              refine gx_sipush (v := 1000) C dL_turn_184 (by decide) ?_
              exact gx_weak (gx_le_k rfl (gx_le_k rfl (gx_le_k rfl (gx_le_k rfl (gx_le_k rfl (gx_le_k rfl (gx_le_k rfl (gx_le_n (gx_le_k rfl (gx_le_k rfl (gx_le_n (gx_le_n (gx_le_n (gx_le_n (gx_le_n gx_le_0))))))))))))))) (br_turn_187 hx C ⟨F, hnL⟩ h)
            · have h := gi_t hc1 h
              refine gx_bipush (v := 100) C dL_turn_179 (by decide) ?_
              refine gx_goto (tgt := 187) C dL_turn_181 (by decide) ?_
              exact gx_weak (gx_le_k rfl (gx_le_k rfl (gx_le_k rfl (gx_le_k rfl (gx_le_k rfl (gx_le_k rfl (gx_le_k rfl (gx_le_n (gx_le_k rfl (gx_le_k rfl (gx_le_n (gx_le_n (gx_le_n (gx_le_n (gx_le_n gx_le_0))))))))))))))) (br_turn_187 hx C ⟨F, hnL⟩ h)
          · have h := gi_t hc2 h
            refine gx_bipush (v := 10) C dL_turn_168 (by decide) ?_
            refine gx_goto (tgt := 187) C dL_turn_170 (by decide) ?_
            exact gx_weak (gx_le_k rfl (gx_le_k rfl (gx_le_k rfl (gx_le_k rfl (gx_le_k rfl (gx_le_k rfl (gx_le_k rfl (gx_le_n (gx_le_k rfl (gx_le_k rfl (gx_le_n (gx_le_n (gx_le_n (gx_le_n (gx_le_n gx_le_0))))))))))))))) (br_turn_187 hx C ⟨F, hnL⟩ h)
        · have h := gi_t hc3 h
          exact gx_weak (gx_le_k rfl (gx_le_k rfl (gx_le_k rfl (gx_le_k rfl (gx_le_k rfl (gx_le_k rfl (gx_le_k rfl (gx_le_n (gx_le_k rfl (gx_le_k rfl (gx_le_n (gx_le_n (gx_le_n (gx_le_n (gx_le_n gx_le_0))))))))))))))) (br_turn_157 hx C ⟨F, hnL⟩ h)
    · have h := gi_t hc5 h
      exact gx_weak (gx_le_k rfl (gx_le_k rfl (gx_le_k rfl (gx_le_k rfl (gx_le_k rfl (gx_le_k rfl (gx_le_k rfl (gx_le_n (gx_le_k rfl (gx_le_k rfl (gx_le_n (gx_le_n (gx_le_n (gx_le_n (gx_le_n gx_le_0))))))))))))))) (br_turn_143 hx C ⟨F, hnL⟩ h)
def r_turn_111 (x2 : Int32) (x3 : Int32) (x6 : Int32) (x7 : Int32) (s1 : Int32) (s2 : Int32) (S : gx_S) : Option (Int32 × gx_S) := gx_ck 45 s1 (gx_let (gx_st S 0 s1.toNatClampNeg s2) fun S2 => if x3 = 4 then gx_ck 45 ((9 : Int32) + x2) (r_turn_128 x2 x3 x6 x7 (S2 0 ((9 : Int32) + x2).toNatClampNeg) S2) else r_turn_128 x2 x3 x6 x7 (-1000000) S2)
set_option maxRecDepth 20000 in
set_option maxHeartbeats 1000000 in
theorem br_turn_111 {Γ : gx_T} {ι : Nat → ClassId} {a : Nat → Nat} {out : Int32 × gx_S} (hx : gx_std vwCl (gty ι) (gx_cl Γ) (gx_ty Γ)) (C : gx_ok Γ cL_turn RL gx_U 4) (F : ((gy_fin Γ (some .int) (wR a ι) out 2 12) ∧ True) ∧ gx_nL Γ = 15) {x2 : Int32} {x3 : Int32} {x6 : Int32} {x7 : Int32} {s1 : Int32} {s2 : Int32} {S : gx_S} (h : r_turn_111 x2 x3 x6 x7 s1 s2 S = some out) : gx_G Γ 2 12 111 [.ref (a 0), .ref (a 1), .int x2, .int x3, .ref (a 2), .ref (a 3), .int x6, .int x7, .null, .null, .null, .null, .null, .null, .null] [.int s2, .int s1, .ref (a 0)] (wT a ι S) := by
  obtain ⟨F, hnL⟩ := F
  unfold r_turn_111 at h
  obtain ⟨hi1, h⟩ := gi_ck h
  obtain ⟨S2, e3, h⟩ := gi_let h
  refine gs_iast (q := 0) C (ac_T_row hx a) lt_T_row hi1 e3 dL_turn_111 ?_
  refine gx_iload_3 C dL_turn_112 rfl ?_
  refine gx_iconst4 C dL_turn_113 ?_
  refine gx_icmp_ne (tgt := 126) C dL_turn_114 (by decide) (fun hc5 => ?_) (fun hc5 => ?_)
  · have h := gi_f hc5 h
    refine gx_ldc (v := (-1000000)) C dL_turn_126 kL_50 ?_
    exact gx_weak (gx_le_k rfl (gx_le_k rfl (gx_le_k rfl (gx_le_k rfl (gx_le_k rfl (gx_le_k rfl (gx_le_k rfl (gx_le_k rfl (gx_le_n (gx_le_n (gx_le_n (gx_le_n (gx_le_n (gx_le_n (gx_le_n gx_le_0))))))))))))))) (br_turn_128 hx C ⟨F, hnL⟩ h)
  · have h := gi_t hc5 h
    refine gx_aload_0 C dL_turn_117 rfl ?_
    refine gx_bipush (v := 9) C dL_turn_118 (by decide) ?_
    refine gx_iload_2 C dL_turn_120 rfl ?_
    refine gx_iadd C dL_turn_121 ?_
    obtain ⟨hi4, h⟩ := gi_ck h
    refine gs_iald (q := 0) C (ac_T_row hx a) lt_T_row hi4 dL_turn_122 ?_
    refine gx_goto (tgt := 128) C dL_turn_123 (by decide) ?_
    exact gx_weak (gx_le_k rfl (gx_le_k rfl (gx_le_k rfl (gx_le_k rfl (gx_le_k rfl (gx_le_k rfl (gx_le_k rfl (gx_le_k rfl (gx_le_n (gx_le_n (gx_le_n (gx_le_n (gx_le_n (gx_le_n (gx_le_n gx_le_0))))))))))))))) (br_turn_128 hx C ⟨F, hnL⟩ h)
def r_turn_32 (x2 : Int32) (x3 : Int32) (x6 : Int32) (t : Int32 × Int32 × gx_S) (k32 : Int32 × Int32 × gx_S → Option (Int32 × gx_S)) : Option (Int32 × gx_S) := match t with
  | (x7, x8, S) => if 6 ≤ x8 then if x3 = 4 then r_turn_111 x2 x3 x6 x7 ((39 : Int32) + x2) 1 S else r_turn_111 x2 x3 x6 x7 ((39 : Int32) + x2) 0 S else gx_ck 45 ((27 : Int32) + x8) (gx_ck 6 x8 (gx_let (gx_st S 2 x8.toNatClampNeg (S 0 ((27 : Int32) + x8).toNatClampNeg)) fun S4 => gx_let (gx_st S4 3 x8.toNatClampNeg (S4 2 x8.toNatClampNeg)) fun S6 => gx_ck 45 (1 : Int32) (if (S6 0 (1 : Int32).toNatClampNeg) ≤ x8 then r_turn_86 k32 x2 x3 x6 x8 x7 S6 else gx_ck 45 ((33 : Int32) + x8) (if (S6 0 ((33 : Int32) + x8).toNatClampNeg) = x2 then r_turn_87 k32 x2 x3 x6 x8 x7 1 S6 else r_turn_86 k32 x2 x3 x6 x8 x7 S6))))
set_option maxRecDepth 20000 in
set_option maxHeartbeats 1000000 in
theorem br_turn_32 {Γ : gx_T} {ι : Nat → ClassId} {a : Nat → Nat} {out : Int32 × gx_S} (hx : gx_std vwCl (gty ι) (gx_cl Γ) (gx_ty Γ)) (C : gx_ok Γ cL_turn RL gx_U 4) (F : ((gy_fin Γ (some .int) (wR a ι) out 2 12) ∧ True) ∧ gx_nL Γ = 15) {k32 : Int32 × Int32 × gx_S → Option (Int32 × gx_S)} {x2 : Int32} {x3 : Int32} {x6 : Int32} {x7 : Int32} {x8 : Int32} {S : gx_S} (hk32 : ∀ (x77 : Int32) (x87 : Int32) (S7 : gx_S), k32 (x77, x87, S7) = some out → gx_G Γ 2 12 32 [.ref (a 0), .ref (a 1), .int x2, .int x3, .ref (a 2), .ref (a 3), .int x6, .int x77, .int x87, .null, .null, .null, .null, .null, .null] [] (wT a ι S7)) (h : r_turn_32 x2 x3 x6 (x7, x8, S) k32 = some out) : gx_G Γ 2 12 32 [.ref (a 0), .ref (a 1), .int x2, .int x3, .ref (a 2), .ref (a 3), .int x6, .int x7, .int x8, .null, .null, .null, .null, .null, .null] [] (wT a ι S) := by
  obtain ⟨F, hnL⟩ := F
  unfold r_turn_32 at h
  dsimp only at h
  refine gx_iload C dL_turn_32 rfl ?_
  refine gx_bipush (v := 6) C dL_turn_34 (by decide) ?_
  refine gx_icmp_ge (tgt := 96) C dL_turn_36 (by decide) (fun hc12 => ?_) (fun hc12 => ?_)
  · have h := gi_t hc12 h
    refine gx_aload_0 C dL_turn_96 rfl ?_
    refine gx_bipush (v := 39) C dL_turn_97 (by decide) ?_
    refine gx_iload_2 C dL_turn_99 rfl ?_
    refine gx_iadd C dL_turn_100 ?_
    refine gx_iload_3 C dL_turn_101 rfl ?_
    refine gx_iconst4 C dL_turn_102 ?_
    refine gx_icmp_ne (tgt := 110) C dL_turn_103 (by decide) (fun hc1 => ?_) (fun hc1 => ?_)
    · have h := gi_f hc1 h
      refine gx_iconst0 C dL_turn_110 ?_
      exact gx_weak (gx_le_k rfl (gx_le_k rfl (gx_le_k rfl (gx_le_k rfl (gx_le_k rfl (gx_le_k rfl (gx_le_k rfl (gx_le_k rfl (gx_le_n (gx_le_n (gx_le_n (gx_le_n (gx_le_n (gx_le_n (gx_le_n gx_le_0))))))))))))))) (br_turn_111 hx C ⟨F, hnL⟩ h)
    · have h := gi_t hc1 h
      refine gx_iconst1 C dL_turn_106 ?_
      refine gx_goto (tgt := 111) C dL_turn_107 (by decide) ?_
      exact gx_weak (gx_le_k rfl (gx_le_k rfl (gx_le_k rfl (gx_le_k rfl (gx_le_k rfl (gx_le_k rfl (gx_le_k rfl (gx_le_k rfl (gx_le_n (gx_le_n (gx_le_n (gx_le_n (gx_le_n (gx_le_n (gx_le_n gx_le_0))))))))))))))) (br_turn_111 hx C ⟨F, hnL⟩ h)
  · have h := gi_f hc12 h
    refine gx_aload C dL_turn_39 rfl ?_
    refine gx_iload C dL_turn_41 rfl ?_
    refine gx_aload_0 C dL_turn_43 rfl ?_
    refine gx_bipush (v := 27) C dL_turn_44 (by decide) ?_
    refine gx_iload C dL_turn_46 rfl ?_
    refine gx_iadd C dL_turn_48 ?_
    obtain ⟨hi2, h⟩ := gi_ck h
    refine gs_iald (q := 0) C (ac_T_row hx a) lt_T_row hi2 dL_turn_49 ?_
    obtain ⟨hi3, h⟩ := gi_ck h
    obtain ⟨S4, e5, h⟩ := gi_let h
    refine gs_iast (q := 2) C (ac_T_was hx a) lt_T_was hi3 e5 dL_turn_50 ?_
    refine gx_aload C dL_turn_51 rfl ?_
    refine gx_iload C dL_turn_53 rfl ?_
    refine gx_aload C dL_turn_55 rfl ?_
    refine gx_iload C dL_turn_57 rfl ?_
    refine gs_iald (q := 2) C (ac_T_was hx a) lt_T_was hi3 dL_turn_59 ?_
    obtain ⟨S6, e7, h⟩ := gi_let h
    refine gs_iast (q := 3) C (ac_T_best hx a) lt_T_best hi3 e7 dL_turn_60 ?_
    refine gx_iload C dL_turn_61 rfl ?_
    refine gx_iload C dL_turn_63 rfl ?_
    refine gx_aload_0 C dL_turn_65 rfl ?_
    refine gx_iconst1 C dL_turn_66 ?_
    obtain ⟨hi8, h⟩ := gi_ck h
    refine gs_iald (q := 0) C (ac_T_row hx a) lt_T_row hi8 dL_turn_67 ?_
    refine gx_icmp_ge (tgt := 86) C dL_turn_68 (by decide) (fun hc11 => ?_) (fun hc11 => ?_)
    · have h := gi_t hc11 h
      exact gx_weak (gx_le_k rfl (gx_le_k rfl (gx_le_k rfl (gx_le_k rfl (gx_le_k rfl (gx_le_k rfl (gx_le_k rfl (gx_le_n (gx_le_k rfl (gx_le_n (gx_le_n (gx_le_n (gx_le_n (gx_le_n (gx_le_n gx_le_0))))))))))))))) (br_turn_86 hx C ⟨F, hnL⟩ hk32 h)
    · have h := gi_f hc11 h
      refine gx_aload_0 C dL_turn_71 rfl ?_
      refine gx_bipush (v := 33) C dL_turn_72 (by decide) ?_
      refine gx_iload C dL_turn_74 rfl ?_
      refine gx_iadd C dL_turn_76 ?_
      obtain ⟨hi9, h⟩ := gi_ck h
      refine gs_iald (q := 0) C (ac_T_row hx a) lt_T_row hi9 dL_turn_77 ?_
      refine gx_iload_2 C dL_turn_78 rfl ?_
      refine gx_icmp_ne (tgt := 86) C dL_turn_79 (by decide) (fun hc10 => ?_) (fun hc10 => ?_)
      · have h := gi_f hc10 h
        exact gx_weak (gx_le_k rfl (gx_le_k rfl (gx_le_k rfl (gx_le_k rfl (gx_le_k rfl (gx_le_k rfl (gx_le_k rfl (gx_le_n (gx_le_k rfl (gx_le_n (gx_le_n (gx_le_n (gx_le_n (gx_le_n (gx_le_n gx_le_0))))))))))))))) (br_turn_86 hx C ⟨F, hnL⟩ hk32 h)
      · have h := gi_t hc10 h
        refine gx_iconst1 C dL_turn_82 ?_
        refine gx_goto (tgt := 87) C dL_turn_83 (by decide) ?_
        exact gx_weak (gx_le_k rfl (gx_le_k rfl (gx_le_k rfl (gx_le_k rfl (gx_le_k rfl (gx_le_k rfl (gx_le_k rfl (gx_le_n (gx_le_k rfl (gx_le_n (gx_le_n (gx_le_n (gx_le_n (gx_le_n (gx_le_n gx_le_0))))))))))))))) (br_turn_87 hx C ⟨F, hnL⟩ hk32 h)
def r_turn_w (x2 x3 : Int32) (S : gx_S) : Option (Int32 × gx_S) := gx_ck 45 ((39 : Int32) + x2) (gx_loop (r_turn_32 x2 x3 (S 0 ((39 : Int32) + x2).toNatClampNeg)) 5000 (0, 0, S))
set_option maxRecDepth 20000 in
set_option maxHeartbeats 1000000 in
theorem br_turn_w {Γ : gx_T} {ι : Nat → ClassId} {a : Nat → Nat} {out : Int32 × gx_S} (hx : gx_std vwCl (gty ι) (gx_cl Γ) (gx_ty Γ)) (C : gx_ok Γ cL_turn RL gx_U 4) (F : ((gy_fin Γ (some .int) (wR a ι) out 2 12) ∧ True) ∧ gx_nL Γ = 15) {x2 x3 : Int32} {S : gx_S} (h : r_turn_w x2 x3 S = some out) : gx_G Γ 2 12 18 [.ref (a 0), .ref (a 1), .int x2, .int x3, .ref (a 2), .ref (a 3), .null, .null, .null, .null, .null, .null, .null, .null, .null] [] (wT a ι S) := by
  obtain ⟨F, hnL⟩ := F
  unfold r_turn_w at h
  refine gx_aload_0 C dL_turn_18 rfl ?_
  refine gx_bipush (v := 39) C dL_turn_19 (by decide) ?_
  refine gx_iload_2 C dL_turn_21 rfl ?_
  refine gx_iadd C dL_turn_22 ?_
  obtain ⟨hi1, h⟩ := gi_ck h
  refine gs_iald (q := 0) C (ac_T_row hx a) lt_T_row hi1 dL_turn_23 ?_
  refine gx_istore C dL_turn_24 (by rw [hnL]; decide) trivial ?_
  refine gx_iconst0 C dL_turn_26 ?_
  refine gx_istore C dL_turn_27 (by rw [hnL]; decide) trivial ?_
  refine gx_iconst0 C dL_turn_29 ?_
  refine gx_istore C dL_turn_30 (by rw [hnL]; decide) trivial ?_
  refine gx_weak (gx_le_k rfl (gx_le_k rfl (gx_le_k rfl (gx_le_k rfl (gx_le_k rfl (gx_le_k rfl (gx_le_k rfl (gx_le_k rfl (gx_le_k rfl (gx_le_n (gx_le_n (gx_le_n (gx_le_n (gx_le_n (gx_le_n gx_le_0))))))))))))))) (gi_loop (P := fun t => gx_G Γ 2 12 32 [.ref (a 0), .ref (a 1), .int x2, .int x3, .ref (a 2), .ref (a 3), .int (S 0 ((39 : Int32) + x2).toNatClampNeg), .int t.1, .int t.2.1, .null, .null, .null, .null, .null, .null] [] (wT a ι t.2.2)) (fun kk t hk h => ?_) 5000 _ h)
  obtain ⟨x79, x89, S'9⟩ := t
  exact br_turn_32 hx C ⟨F, hnL⟩ (k32 := kk) (fun x78 x88 S'8 h => hk (x78, x88, S'8) h) h
def gy_T4 (S : gx_S) : gx_S := fun k => if k = 2 then fun _ => 0 else if k = 3 then fun _ => 0 else S k
def r_turn (x2 : Int32) (S : gx_S) : Option (Int32 × gx_S) := gx_ck 45 ((3 : Int32) + x2) (r_turn_w x2 (S 0 ((3 : Int32) + x2).toNatClampNeg) (gy_T4 S))
set_option maxRecDepth 20000 in
set_option maxHeartbeats 1000000 in
theorem cr_turn (l : Launch) (D : va_G) {cl : List vw_C} {tys : List (ClassId × FieldType)} {ι : Nat → ClassId} (hx : gx_std vwCl (gty ι) cl tys) (a : Nat → Nat) (x2 : Int32) (S : gx_S) {out : Int32 × gx_S} (h : r_turn x2 S = some out) : gy_m l D cl tys yL_turn (.code yL_turn cL_turn 15 ((Option.some Jvm.ClassFile.FieldType.int)) :: gx_U) (gx_rmc 4 2 12) [.ref (a 0), .ref (a 1), .int x2] (wR a ι S) (wR a ι) none out 2 12 := by
  unfold r_turn at h
  refine gy_start (V := [.ref (a 0), .ref (a 1), .int x2, .null, .null, .null, .null, .null, .null, .null, .null, .null, .null, .null, .null]) 12 (by decide +kernel) (Nat.le_of_ble_eq_true rfl) rfl (fun Γ hl hD hcl hty hnL C F X => ?_)
  subst hl; subst hD; subst hcl; subst hty
  have ht0 : (gx_ty Γ)[0]? = some (ι 0, .int) := by rw [hx.2]; rfl
  refine gx_aload_0 C dL_turn_0 rfl ?_
  refine gx_iconst3 C dL_turn_1 ?_
  refine gx_iload_2 C dL_turn_2 rfl ?_
  refine gx_iadd C dL_turn_3 ?_
  obtain ⟨hi1, h⟩ := gi_ck h
  refine gs_iald (q := 0) C (ac_R_row hx a) lt_R_row hi1 dL_turn_4 ?_
  refine gx_istore_3 C dL_turn_5 (by rw [hnL]; decide) trivial ?_
  refine gx_bipush (v := 6) C dL_turn_6 (by decide) ?_
  refine gy_newa (N := 6) C (gx_mu (gx_t_1 (List.mem_of_getElem? (i := 91) rfl)) rfl) ht0 (by decide) rfl (by decide) (by rw [F.1]; decide) (by rw [F.2.1]; decide) dL_turn_8 (fun q1 => ?_)
  refine gx_astore C dL_turn_10 (by rw [hnL]; decide) trivial ?_
  refine gx_bipush (v := 6) C dL_turn_12 (by decide) ?_
  refine gy_newa (N := 6) C (gx_mu (gx_t_1 (List.mem_of_getElem? (i := 91) rfl)) rfl) ht0 (by decide) rfl (by decide) (by rw [F.1]; decide) (by rw [F.2.1]; decide) dL_turn_14 (fun q2 => ?_)
  refine gx_astore C dL_turn_16 (by rw [hnL]; decide) trivial ?_
  obtain ⟨a4, ha4⟩ : ∃ a4 : Nat → Nat, a4 = fun k => if k = 2 then q1 else if k = 3 then q2 else a k := ⟨_, rfl⟩
  have e0 : a 0 = a4 0 := by rw [ha4]; rfl
  have e1 : a 1 = a4 1 := by rw [ha4]; rfl
  have e2 : q1 = a4 2 := by rw [ha4]; rfl
  have e3 : q2 = a4 3 := by rw [ha4]; rfl
  refine gx_world (ws' := wT a4 ι (gy_T4 S)) ?_ ?_
  · show (wR a ι S ++ _) ++ _ = _
    rw [wR_d, e0, e1, e2, e3]; rfl
  rw [show wR a ι = wR a4 ι from funext (fun S => by rw [wR_d, wR_d, e0, e1])] at F
  refine gx_Veq (V' := [.ref (a4 0), .ref (a4 1), .int x2, .int (S 0 ((3 : Int32) + x2).toNatClampNeg), .ref (a4 2), .ref (a4 3), .null, .null, .null, .null, .null, .null, .null, .null, .null]) ?_ ?_
  · rw [e0, e1, e2, e3]; rfl
  exact br_turn_w hx C ⟨⟨F, trivial⟩, hnL⟩ h

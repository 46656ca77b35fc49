/-! p1: one call on a fresh object -/
abbrev zS : gx_S := fun _ _ => 0
theorem gx_loop_s {L R : Type} {body : L → (L → Option R) → Option R} {n : Nat} {t : L} : gx_loop body (n + 1) t = body t (gx_loop body n) := rfl
theorem pz_lt (x : Int32) : ¬ x < 0 → ¬ x ≤ 0 - 1 := fun h h2 => by
  rw [Int32.lt_iff_toInt_lt] at h
  rw [Int32.le_iff_toInt_le] at h2
  have e : ((0 : Int32) - 1).toInt = -1 := by decide
  have e0 : (0 : Int32).toInt = 0 := by decide
  omega
theorem pz_lt2 (x : Int32) : ¬ x < 0 → (0 - 1 : Int32) < x := fun h => by
  rw [Int32.lt_iff_toInt_lt] at h ⊢
  have e : ((0 : Int32) - 1).toInt = -1 := by decide
  have e0 : (0 : Int32).toInt = 0 := by decide
  omega
theorem z_not (x : Int32) (S : gx_S) : m_ShopsAsOne_isNot x 0 (0 - 1) S = some 1 := by
  unfold m_ShopsAsOne_isNot m_ShopsAsOne_isNot_10
  by_cases h : x < 0
  · rw [if_pos h]
  · rw [if_neg h, if_neg (pz_lt x h)]
theorem z_wi (x : Int32) (S : gx_S) : n_within x 0 (0 - 1) S = some 0 := by
  unfold n_within n_within_14
  by_cases h : x < 0
  · rw [if_pos h]
  · rw [if_neg h, if_pos (pz_lt2 x h)]
theorem z_noOwner (x : Int32) : m_ShopsAsOne_isNoOwner x zS = some 1 := by
  unfold m_ShopsAsOne_isNoOwner
  show gx_cp (m_ShopsAsOne_isNot x 0 (0 - 1) zS) _ = _
  rw [z_not]
  rfl
theorem z_noShop (x : Int32) : m_ShopsAsOne_isNoShop x zS = some 1 := by
  unfold m_ShopsAsOne_isNoShop
  show gx_cp (m_ShopsAsOne_isNot x 0 (0 - 1) zS) _ = _
  rw [z_not]
  rfl
theorem z_noSort (x : Int32) : m_ShopsAsOne_isNoSort x zS = some 1 := by
  unfold m_ShopsAsOne_isNoSort
  show gx_cp (m_ShopsAsOne_isNot x 0 (0 - 1) zS) _ = _
  rw [z_not]
  rfl
theorem z_noTest (x : Int32) : m_ShopsAsOne_isNoTest x zS = some 1 := by
  unfold m_ShopsAsOne_isNoTest
  show gx_cp (m_ShopsAsOne_isNot x 0 (0 - 1) zS) _ = _
  rw [z_not]
  rfl
theorem z_owner (x : Int32) : n_isOwner x nT0 = some 0 := by
  have h := z_wi x nT0
  simp [n_isOwner, gx_cp, gx_bz, nT0] at h ⊢
  simp [h]
theorem z_shop (x : Int32) : n_isShop x nT0 = some 0 := by
  have h := z_wi x nT0
  simp [n_isShop, gx_cp, gx_bz, nT0] at h ⊢
  simp [h]
theorem z_sort (x : Int32) : n_isSort x nT0 = some 0 := by
  have h := z_wi x nT0
  simp [n_isSort, gx_cp, gx_bz, nT0] at h ⊢
  simp [h]
theorem z_test (x : Int32) : n_isTest x nT0 = some 0 := by
  have h := z_wi x nT0
  simp [n_isTest, gx_cp, gx_bz, nT0] at h ⊢
  simp [h]
/-- both isNot and within, of any bounds -/
theorem z_nw (x lo hi : Int32) (S T : gx_S) : (m_ShopsAsOne_isNot x lo hi S = some 0 ∧ n_within x lo hi T = some 1) ∨ (m_ShopsAsOne_isNot x lo hi S = some 1 ∧ n_within x lo hi T = some 0) := by
  unfold m_ShopsAsOne_isNot m_ShopsAsOne_isNot_10 n_within n_within_14
  by_cases h : x < lo
  · exact Or.inr ⟨if_pos h, if_pos h⟩
  · rw [if_neg h, if_neg h]
    by_cases h2 : x ≤ hi
    · have h3 : ¬ hi < x := by
        rw [Int32.lt_iff_toInt_lt]
        rw [Int32.le_iff_toInt_le] at h2
        omega
      exact Or.inl ⟨if_pos h2, if_neg h3⟩
    · have h3 : hi < x := by
        rw [Int32.lt_iff_toInt_lt]
        rw [Int32.le_iff_toInt_le] at h2
        omega
      exact Or.inr ⟨if_neg h2, if_pos h3⟩
/-- both answer v -/
def z_eqS (o1 o2 : Option (Int32 × gx_S)) : Prop := ∃ v, o1.map Prod.fst = some v ∧ o2.map Prod.fst = some v
theorem z_0 (x y : Int32) : z_eqS (m_ShopsAsOne_owner x y zS) (n_owner x y nT0) := by
  unfold m_ShopsAsOne_owner n_owner
  rcases z_nw x 0 4 zS nT0 with ⟨h1, h2⟩ | ⟨h1, h2⟩ <;> rw [h1, h2]
  · simp only [gx_cp]
    rcases z_nw y 0 99 zS nT0 with ⟨h3, h4⟩ | ⟨h3, h4⟩ <;> rw [h3, h4]
    · exact ⟨0, by simp [zS, gx_cs, m_Street_addOwner, gx_ck, gx_let, gx_st, va_up, upd], by simp [gx_ck, gx_let, gx_st, va_up, upd, nT0]⟩
    · exact ⟨-102, rfl, rfl⟩
  · exact ⟨-102, rfl, rfl⟩
theorem z_1 (x y : Int32) : m_ShopsAsOne_as x y zS = some (-101) ∧ n_as x y nT0 = some (-101) := by
  unfold m_ShopsAsOne_as n_as
  rw [z_noOwner, z_owner]
  exact ⟨rfl, rfl⟩
theorem z_2 (x y z w : Int32) : z_eqS (m_ShopsAsOne_shop x y z w zS) (n_shop x y z w nT0) := by
  unfold m_ShopsAsOne_shop n_shop
  rw [z_noOwner, z_owner]
  exact ⟨-101, rfl, rfl⟩
theorem z_3 (x y : Int32) : m_ShopsAsOne_about x y zS = some (-101) ∧ (n_about x y nT0).map Prod.fst = some (-101) := by
  unfold m_ShopsAsOne_about n_about
  rw [z_noShop, z_shop]
  exact ⟨rfl, rfl⟩
theorem z_4 (x y : Int32) : z_eqS (m_ShopsAsOne_price x y zS) (n_price x y nT0) := by
  unfold m_ShopsAsOne_price n_price
  rw [z_noShop, z_shop]
  exact ⟨-101, rfl, rfl⟩
theorem z_12 : z_eqS (m_ShopsAsOne_rest zS) (n_rest nT0) := ⟨0, by decide +kernel, by decide +kernel⟩
theorem z_13 : z_eqS (m_ShopsAsOne_otherwise zS) (n_otherwise nT0) := ⟨-1, by decide +kernel, by decide +kernel⟩
theorem z_24 : z_eqS (m_ShopsAsOne_blank zS) (n_blank nT0) := ⟨0, by decide +kernel, by decide +kernel⟩
theorem z_25 : z_eqS (m_ShopsAsOne_fault zS) (n_fault nT0) := ⟨0, by decide +kernel, by decide +kernel⟩
theorem z_26 : z_eqS (m_ShopsAsOne_test zS) (n_test nT0) := ⟨-103, by decide +kernel, by decide +kernel⟩
theorem z_29 : z_eqS (m_ShopsAsOne_image zS) (n_image nT0) := ⟨0, by decide +kernel, by decide +kernel⟩
theorem z_30 : z_eqS (m_ShopsAsOne_restore zS) (n_restore nT0) := ⟨-103, by decide +kernel, by decide +kernel⟩
theorem z_32 : ∃ v, (m_ShopsAsOne_digest zS).map Prod.fst = some v ∧ (n_digest nT0).map Prod.fst = some v := ⟨((m_ShopsAsOne_digest zS).map Prod.fst).getD 0, by decide +kernel, by decide +kernel⟩

theorem z_as88 (S : gx_S) (h : S 1 1 = 0) : gx_loop m_Street_addSort_88 5000 (0, S) = some (S 1 2 - 1, S) := by
  rw [show (5000 : Nat) = 4999 + 1 from rfl, gx_loop_s]
  simp only [m_Street_addSort_88, h]
  exact if_pos (by decide)
theorem gx_ck_t {R : Type} {N : Nat} {i : Int32} {k : Option R} (h : ¬ (i < 0 ∨ N ≤ i.toNatClampNeg)) : gx_ck N i k = k := if_neg h
theorem z_st (S : gx_S) (q j : Nat) (x : Int32) (h : S 1 2 = 0) (hq : q ≠ 1) : gx_st S q j x 1 2 = 0 := by
  unfold gx_st
  rw [va_up_ne _ _ (fun e => hq e.symm)]
  exact h
theorem z_st1 (S : gx_S) (q j : Nat) (x : Int32) (h : S 1 1 = 0) (hq : q ≠ 1) : gx_st S q j x 1 1 = 0 := by
  unfold gx_st
  rw [va_up_ne _ _ (fun e => hq e.symm)]
  exact h
theorem z_72 (x1 x2 x3 x4 x5 x6 : Int32) : (m_ShopsAsOne_sort_72 x1 x2 x3 x4 x5 x6 zS).map Prod.fst = some 0 := by
  have go : ∀ S : gx_S, S 1 1 = 0 → S 1 2 = 0 → (gx_cs (gx_let (gx_st S 1 2 ((S 1 2) + (1 : Int32))) fun S19 => gx_loop (m_Street_addSort_88) 5000 (0, S19)) fun v3 S2 => some (v3, S2)).map Prod.fst = some 0 := fun S h1 h2 => by
    unfold gx_let
    dsimp only
    rw [z_as88 _ (by unfold gx_st; rw [va_up_self]; exact h1)]
    have e : gx_st S 1 2 (S 1 2 + 1) 1 2 = 1 := by
      unfold gx_st
      rw [va_up_self, h2]
      rfl
    rw [e]
    rfl
  have ck : ∀ (S : gx_S) (k : Option (Int32 × gx_S)), S 1 2 = 0 → gx_ck 8 (S 1 2) k = k := fun S k h => gx_ck_t (by rw [h]; decide)
  unfold m_ShopsAsOne_sort_72 m_Street_addSort
  rw [if_pos (by decide)]
  have step : ∀ (q : Nat) (x : Int32) (S : gx_S) (K : gx_S → Option (Int32 × gx_S)), q ≠ 1 → S 1 1 = 0 → S 1 2 = 0 → (∀ S', S' 1 1 = 0 → S' 1 2 = 0 → (gx_cs (K S') fun v3 S2 => some (v3, S2)).map Prod.fst = some 0) → (gx_cs (gx_ck 8 (S 1 2) (gx_let (gx_st S q (S 1 2).toNatClampNeg x) K)) fun v3 S2 => some (v3, S2)).map Prod.fst = some 0 := fun q x S K hq h1 h2 hK => by
    rw [ck S _ h2]
    exact hK _ (z_st1 S q _ x h1 hq) (z_st S q _ x h2 hq)
  refine step 6 _ _ _ (by decide) rfl rfl (fun S h1 h2 => ?_)
  refine step 7 _ _ _ (by decide) h1 h2 (fun S h1 h2 => ?_)
  refine step 8 _ _ _ (by decide) h1 h2 (fun S h1 h2 => ?_)
  refine step 9 _ _ _ (by decide) h1 h2 (fun S h1 h2 => ?_)
  refine step 10 _ _ _ (by decide) h1 h2 (fun S h1 h2 => ?_)
  refine step 11 _ _ _ (by decide) h1 h2 (fun S h1 h2 => ?_)
  exact go S h1 h2
theorem z_stn (S : gx_S) (q j : Nat) (x : Int32) (h : S 0 9 = 0) (hq : q ≠ 0) : gx_st S q j x 0 9 = 0 := by
  unfold gx_st
  rw [va_up_ne _ _ (fun e => hq e.symm)]
  exact h
theorem z_72n (x1 x2 x3 x4 x5 x6 : Int32) : (n_sort_72 x1 x2 x3 x4 x5 x6 nT0).map Prod.fst = some 0 := by
  have step : ∀ (c : Int32) (z : Int32) (S : gx_S) (K : gx_S → Option (Int32 × gx_S)), ¬ (6 * (0 : Int32) + c < 0 ∨ 48 ≤ (6 * (0 : Int32) + c).toNatClampNeg) → S 0 9 = 0 → (∀ S', S' 0 9 = 0 → (K S').map Prod.fst = some 0) → (gx_ck 48 ((6 : Int32) * (S 0 9) + c) (gx_let (gx_st S 8 ((6 : Int32) * (S 0 9) + c).toNatClampNeg z) K)).map Prod.fst = some 0 := fun c z S K hc h hK => by
    rw [gx_ck_t (by rw [h]; exact hc)]
    exact hK _ (z_stn S 8 _ z h (by decide))
  have step0 : ∀ (z : Int32) (S : gx_S) (K : gx_S → Option (Int32 × gx_S)), S 0 9 = 0 → (∀ S', S' 0 9 = 0 → (K S').map Prod.fst = some 0) → (gx_ck 48 ((6 : Int32) * (S 0 9)) (gx_let (gx_st S 8 ((6 : Int32) * (S 0 9)).toNatClampNeg z) K)).map Prod.fst = some 0 := fun z S K h hK => by
    rw [gx_ck_t (by rw [h]; decide)]
    exact hK _ (z_stn S 8 _ z h (by decide))
  unfold n_sort_72
  rw [if_neg (by decide)]
  refine step0 _ _ _ rfl (fun S h => ?_)
  refine step 1 _ _ _ (by decide) h (fun S h => ?_)
  refine step 2 _ _ _ (by decide) h (fun S h => ?_)
  refine step 3 _ _ _ (by decide) h (fun S h => ?_)
  refine step 4 _ _ _ (by decide) h (fun S h => ?_)
  refine step 5 _ _ _ (by decide) h (fun S h => ?_)
  have e : gx_st S 0 9 (S 0 9 + 1) 0 9 = 1 := by
    unfold gx_st
    rw [va_up_self, h]
    rfl
  unfold gx_let
  dsimp only
  rw [e]
  rfl
theorem z_5 (x1 x2 x3 x4 x5 x6 : Int32) : z_eqS (m_ShopsAsOne_sort x1 x2 x3 x4 x5 x6 zS) (n_sort x1 x2 x3 x4 x5 x6 nT0) := by
  unfold m_ShopsAsOne_sort n_sort
  rcases z_nw x1 0 9 zS nT0 with ⟨h1, h2⟩ | ⟨h1, h2⟩ <;> rw [h1, h2] <;> simp only [gx_cp]
  · rcases z_nw x2 1 50 zS nT0 with ⟨h1, h2⟩ | ⟨h1, h2⟩ <;> rw [h1, h2]
    · rcases z_nw x3 0 5 zS nT0 with ⟨h1, h2⟩ | ⟨h1, h2⟩ <;> rw [h1, h2]
      · rcases z_nw x4 0 30 zS nT0 with ⟨h1, h2⟩ | ⟨h1, h2⟩ <;> rw [h1, h2]
        · rcases z_nw x6 0 9 zS nT0 with ⟨h1, h2⟩ | ⟨h1, h2⟩ <;> rw [h1, h2]
          · by_cases h : x5 = -1
            · subst h
              exact ⟨0, by simpa using z_72 x1 x2 x3 x4 (-1) x6, by simpa using z_72n x1 x2 x3 x4 (-1) x6⟩
            · exact ⟨-101, by simp [h, z_noShop], by simp [h, z_shop]⟩
          · exact ⟨-102, by simp, by simp⟩
        · exact ⟨-102, by simp, by simp⟩
      · exact ⟨-102, by simp, by simp⟩
    · exact ⟨-102, by simp, by simp⟩
  · exact ⟨-102, by simp, by simp⟩
theorem z_6 (x y : Int32) : m_ShopsAsOne_is x y zS = some (-1001) ∧ n_is x y nT0 = some (-1001) := by
  unfold m_ShopsAsOne_is n_is
  rw [z_noSort, z_sort]
  exact ⟨rfl, rfl⟩
theorem z_7 (x : Int32) : m_ShopsAsOne_goes x zS = some (-101) ∧ n_goes x nT0 = some (-101) := by
  unfold m_ShopsAsOne_goes n_goes
  rw [z_noSort, z_sort]
  exact ⟨rfl, rfl⟩
theorem z_8 (x : Int32) : m_ShopsAsOne_spare x zS = some (-101) ∧ n_spare x nT0 = some (-101) := by
  unfold m_ShopsAsOne_spare n_spare
  rw [z_noSort, z_sort]
  exact ⟨rfl, rfl⟩
theorem z_9 (x : Int32) : m_ShopsAsOne_profit x zS = some (-1000001) ∧ (n_profit x nT0).map Prod.fst = some (-1000001) := by
  unfold m_ShopsAsOne_profit n_profit
  rw [z_noOwner, z_owner]
  exact ⟨rfl, rfl⟩
theorem z_10 (x y : Int32) : z_eqS (m_ShopsAsOne_best x y zS) (n_best x y nT0) := by
  unfold m_ShopsAsOne_best n_best
  rw [z_noShop, z_shop]
  exact ⟨-101, rfl, rfl⟩
theorem z_11 (x : Int32) : z_eqS (m_ShopsAsOne_turn x zS) (n_turn x nT0) := by
  unfold m_ShopsAsOne_turn n_turn
  rw [z_noOwner, z_owner]
  exact ⟨-101, rfl, rfl⟩
theorem z_14 (x : Int32) : z_eqS (m_ShopsAsOne_gain x zS) (n_gain x nT0) := by
  unfold m_ShopsAsOne_gain n_gain
  rw [z_noOwner, z_owner]
  exact ⟨-1000001, rfl, rfl⟩
theorem z_15 (x y z : Int32) : z_eqS (m_ShopsAsOne_market x y z zS) (n_market x y z nT0) := by
  unfold m_ShopsAsOne_market n_market
  rw [z_noShop, z_shop]
  exact ⟨-101, rfl, rfl⟩
theorem z_16 (x y : Int32) : m_ShopsAsOne_instead x y zS = some (-101) ∧ (n_instead x y nT0).map Prod.fst = some (-101) := by
  unfold m_ShopsAsOne_instead n_instead
  rw [z_noSort, z_sort]
  exact ⟨rfl, rfl⟩
theorem z_17 (x y : Int32) : m_ShopsAsOne_from x y zS = some (-101) ∧ (n_from x y nT0).map Prod.fst = some (-101) := by
  unfold m_ShopsAsOne_from n_from
  rw [z_noShop, z_shop]
  exact ⟨rfl, rfl⟩
theorem z_two (x y : Int32) : m_ShopsAsOne_areNotTwo x y zS = some 1 ∧ n_areTwo x y nT0 = some 0 := by
  unfold m_ShopsAsOne_areNotTwo n_areTwo
  rw [z_noOwner, z_owner]
  exact ⟨rfl, rfl⟩
theorem z_18 (x y : Int32) : z_eqS (m_ShopsAsOne_merge x y zS) (n_merge x y nT0) := by
  unfold m_ShopsAsOne_merge n_merge
  rw [(z_two x y).1, (z_two x y).2]
  exact ⟨-101, rfl, rfl⟩
theorem z_19 (x y z : Int32) : z_eqS (m_ShopsAsOne_dearer x y z zS) (n_dearer x y z nT0) := by
  unfold m_ShopsAsOne_dearer n_dearer
  rw [(z_two x y).1, (z_two x y).2]
  exact ⟨-1001, rfl, rfl⟩
theorem z_20 (x y z : Int32) : z_eqS (m_ShopsAsOne_harm x y z zS) (n_harm x y z nT0) := by
  unfold m_ShopsAsOne_harm n_harm
  rw [(z_two x y).1, (z_two x y).2]
  exact ⟨-101, rfl, rfl⟩
theorem z_21 (x y z w : Int32) : z_eqS (m_ShopsAsOne_soldOff x y z w zS) (n_soldOff x y z w nT0) := by
  unfold m_ShopsAsOne_soldOff n_soldOff
  rw [(z_two x y).1, (z_two x y).2]
  exact ⟨-101, rfl, rfl⟩
theorem z_22 (x y z w v : Int32) : z_eqS (m_ShopsAsOne_twice x y z w v zS) (n_twice x y z w v nT0) := by
  unfold m_ShopsAsOne_twice n_twice
  rw [(z_two x y).1, (z_two x y).2]
  exact ⟨-101, rfl, rfl⟩
theorem z_27 (x y z : Int32) : z_eqS (m_ShopsAsOne_bars x y z zS) (n_bars x y z nT0) := by
  unfold m_ShopsAsOne_bars n_bars
  rw [z_noTest, z_test]
  exact ⟨-101, rfl, rfl⟩
theorem z_28 (x y : Int32) : z_eqS (m_ShopsAsOne_wrong x y zS) (n_wrong x y nT0) := by
  unfold m_ShopsAsOne_wrong n_wrong
  rw [z_noTest, z_test]
  exact ⟨-101, rfl, rfl⟩
theorem z_31 (x : Int32) : ∃ v, m_ShopsAsOne_count x zS = some v ∧ (n_count x nT0).map Prod.fst = some v := by
  unfold m_ShopsAsOne_count n_count n_howMany
  by_cases h0 : x = 0
  · subst h0; exact ⟨0, by decide +kernel, by decide +kernel⟩
  by_cases h1 : x = 1
  · subst h1; exact ⟨0, by decide +kernel, by decide +kernel⟩
  by_cases h2 : x = 2
  · subst h2; exact ⟨0, by decide +kernel, by decide +kernel⟩
  by_cases h3 : x = 3
  · subst h3; exact ⟨0, by decide +kernel, by decide +kernel⟩
  by_cases h4 : x = 4
  · subst h4; exact ⟨0, by decide +kernel, by decide +kernel⟩
  by_cases h5 : x = 5
  · subst h5; exact ⟨0, by decide +kernel, by decide +kernel⟩
  by_cases h6 : x = 6
  · subst h6; exact ⟨0, by decide +kernel, by decide +kernel⟩
  exact ⟨-102, by simp [h0, h1, h2, h3, h4, h5, h6], by simp [h0, h1, h2, h3, h4, h5, h6, gx_cs]⟩
/-! letters: both loops in step -/
def lw_c (w : Int64) (x : Int32) : Int32 := ((w >>> (((8 : Int32) * x).toInt64 &&& 63)) &&& (255 : Int64)).toInt32
theorem lw_bits (v : BitVec 64) (k : Nat) (hk : k ≤ 56) : (v >>> k) &&& 255#64 = (v.sshiftRight k) &&& 255#64 := by
  apply BitVec.eq_of_getLsbD_eq
  intro i hi
  simp only [BitVec.getLsbD_and, BitVec.getLsbD_ushiftRight, BitVec.getLsbD_sshiftRight]
  by_cases h : i < 8
  · have h2 : k + i < 64 := by omega
    have h3 : ¬ 64 ≤ i := by omega
    simp [h2, h3]
  · have h2 : (255#64).getLsbD i = false := by
      rw [BitVec.getLsbD_ofNat]
      have : Nat.testBit 255 i = false := by
        rw [show (255 : Nat) = 2 ^ 8 - 1 from rfl, Nat.testBit_two_pow_sub_one]
        simpa using h
      simp [this]
    rw [h2, Bool.and_false, Bool.and_false]
theorem lw_code (w : Int64) (S : gx_S) : ∀ i, i < 8 → m_ShopsAsOne_codeAt w (nI i) S = some (lw_c w (nI i)) := by
  have key : ∀ (a : UInt64) (b : Int64) (k : Nat), k ≤ 56 → a.toNat % 64 = k → (b.toBitVec.smod 64).toNat = k → (w.toUInt64 >>> a).toInt64 &&& (255 : Int64) = (w >>> b) &&& (255 : Int64) := by
    intro a b k hk ha hb
    apply Int64.toBitVec_inj.mp
    have h := lw_bits w.toBitVec k hk
    rw [Int64.toBitVec_and, Int64.toBitVec_and, Int64.toBitVec_shiftRight]
    have e1 : (w.toUInt64 >>> a).toInt64.toBitVec = w.toBitVec >>> k := by
      show (w.toUInt64 >>> a).toBitVec = _
      rw [UInt64.toBitVec_shiftRight]
      show w.toBitVec >>> (a.toBitVec % 64#64) = _
      rw [BitVec.ushiftRight_eq']
      congr 1
    have e2 : w.toBitVec.sshiftRight' (b.toBitVec.smod 64) = w.toBitVec.sshiftRight k := by
      unfold BitVec.sshiftRight'
      rw [hb]
    rw [e1]
    exact h.trans (by rw [e2]; rfl)
  intro i hi
  unfold m_ShopsAsOne_codeAt lw_c
  refine congrArg some (congrArg Int64.toInt32 ?_)
  match i, hi with
  | 0, _ => exact key _ _ 0 (by decide) (by decide) (by decide)
  | 1, _ => exact key _ _ 8 (by decide) (by decide) (by decide)
  | 2, _ => exact key _ _ 16 (by decide) (by decide) (by decide)
  | 3, _ => exact key _ _ 24 (by decide) (by decide) (by decide)
  | 4, _ => exact key _ _ 32 (by decide) (by decide) (by decide)
  | 5, _ => exact key _ _ 40 (by decide) (by decide) (by decide)
  | 6, _ => exact key _ _ 48 (by decide) (by decide) (by decide)
  | 7, _ => exact key _ _ 56 (by decide) (by decide) (by decide)
  | i + 8, h => exact absurd h (by omega)
/-- how many letters w tells; none: it is refused -/
def lt_go (w : Int64) : Nat → Nat → Int32 → Int32 → Option Int32
  | 0, _, f, _ => some f
  | d + 1, i, f, o => if 126 < lw_c w (nI i) then none else if o = 0 ∨ lw_c w (nI i) = 0 then lt_go w d (i + 1) (f + if lw_c w (nI i) = 0 then 0 else 1) (if lw_c w (nI i) = 0 then 1 else 0) else none
theorem lt_m1 (w : Int64) (S : gx_S) (f o : Int32) (i : Nat) (hi : i < 8) (k : Int32 × Int32 × Int32 → Option (Int32 × gx_S)) : m_ShopsAsOne_letters_8 w S (f, o, nI i) k = if 126 < lw_c w (nI i) then some (-102, S) else if o = 0 ∨ lw_c w (nI i) = 0 then k (f + (if lw_c w (nI i) = 0 then 0 else 1), (if lw_c w (nI i) = 0 then 1 else 0), nI (i + 1)) else some (-102, S) := by
  have h8 : ¬ (8 : Int32) ≤ nI i := nI_ge (b := 8) hi (by decide)
  simp only [m_ShopsAsOne_letters_8, if_neg h8, lw_code w S i hi, gx_cp, m_ShopsAsOne_letters_43, m_ShopsAsOne_letters_53, m_ShopsAsOne_letters_66, nI_1]
  by_cases h1 : 126 < lw_c w (nI i)
  · simp [h1]
  · by_cases h2 : o = 0 <;> by_cases h3 : lw_c w (nI i) = 0 <;> simp [h1, h2, h3]
theorem lt_n1 (w : Int64) (S : gx_S) (f o : Int32) (i : Nat) (hi : i < 8) (k : Int32 × Int32 × Int32 → Option (Int32 × gx_S)) : n_letters_8 w S (f, o, nI i) k = if 126 < lw_c w (nI i) then some (-102, S) else if o = 0 ∨ lw_c w (nI i) = 0 then k (f + (if lw_c w (nI i) = 0 then 0 else 1), (if lw_c w (nI i) = 0 then 1 else 0), nI (i + 1)) else some (-102, S) := by
  have h8 : ¬ (8 : Int32) ≤ nI i := nI_ge (b := 8) hi (by decide)
  have e : (((w >>> (((8 : Int32) * nI i).toInt64 &&& 63)) &&& (255 : Int64)).toInt32) = lw_c w (nI i) := rfl
  simp only [n_letters_8, if_neg h8, e, n_letters_49, n_letters_59, n_letters_64, n_letters_77, nI_1]
  by_cases h1 : 126 < lw_c w (nI i)
  · simp [h1]
  · by_cases h2 : o = 0 <;> by_cases h3 : lw_c w (nI i) = 0 <;> simp [h1, h2, h3]
theorem lt_mr (w : Int64) (S : gx_S) : ∀ (d i : Nat) (f o : Int32) (n : Nat), i + d = 8 → d < n → gx_loop (m_ShopsAsOne_letters_8 w S) n (f, o, nI i) = match lt_go w d i f o with
    | none => some (-102, S)
    | some g => if ((S 66 1) + g) ≤ 50 then gx_loop (m_ShopsAsOne_letters_94 w g) 5000 (0, S) else some ((-104), S)
  | 0, i, f, o, n, h, hn => by
    obtain ⟨n, rfl⟩ : ∃ z, n = z + 1 := ⟨n - 1, by omega⟩
    rw [gx_loop_s, show i = 8 by omega]
    simp only [m_ShopsAsOne_letters_8, lt_go]
    rw [if_pos (by decide)]
  | d + 1, i, f, o, n, h, hn => by
    obtain ⟨n, rfl⟩ : ∃ z, n = z + 1 := ⟨n - 1, by omega⟩
    rw [gx_loop_s, lt_m1 w S f o i (by omega)]
    unfold lt_go
    split
    · rfl
    · split
      · exact lt_mr w S d (i + 1) _ _ n (by omega) (by omega)
      · rfl
theorem lt_nr (w : Int64) (S : gx_S) : ∀ (d i : Nat) (f o : Int32) (n : Nat), i + d = 8 → d < n → gx_loop (n_letters_8 w S) n (f, o, nI i) = match lt_go w d i f o with
    | none => some (-102, S)
    | some g => if ((S 0 14) + g) ≤ 50 then gx_loop (n_letters_102 w g) 5000 (0, S) else some ((-104), S)
  | 0, i, f, o, n, h, hn => by
    obtain ⟨n, rfl⟩ : ∃ z, n = z + 1 := ⟨n - 1, by omega⟩
    rw [gx_loop_s, show i = 8 by omega]
    simp only [n_letters_8, lt_go]
    rw [if_pos (by decide)]
  | d + 1, i, f, o, n, h, hn => by
    obtain ⟨n, rfl⟩ : ∃ z, n = z + 1 := ⟨n - 1, by omega⟩
    rw [gx_loop_s, lt_n1 w S f o i (by omega)]
    unfold lt_go
    split
    · rfl
    · split
      · exact lt_nr w S d (i + 1) _ _ n (by omega) (by omega)
      · rfl
theorem lt_few (w : Int64) : ∀ (d i a : Nat) (o g : Int32), lt_go w d i (nI a) o = some g → ∃ m, m ≤ a + d ∧ g = nI m
  | 0, i, a, o, g, h => ⟨a, by omega, (Option.some.inj h).symm⟩
  | d + 1, i, a, o, g, h => by
    unfold lt_go at h
    split at h
    · cases h
    · split at h
      · by_cases h3 : lw_c w (nI i) = 0
        · rw [if_pos h3] at h
          have h := (show lt_go w d (i + 1) (nI a + 0) _ = some g from h)
          rw [show nI a + 0 = nI a by simp] at h
          obtain ⟨m, h1, h2⟩ := lt_few w d (i + 1) a _ g h
          exact ⟨m, by omega, h2⟩
        · rw [if_neg h3] at h
          have h := (show lt_go w d (i + 1) (nI a + 1) _ = some g from h)
          rw [nI_1] at h
          obtain ⟨m, h1, h2⟩ := lt_few w d (i + 1) (a + 1) _ g h
          exact ⟨m, by omega, h2⟩
      · cases h
theorem lt_in : ∀ i, i < 8 → ¬ (nI i < 0 ∨ 50 ≤ (nI i).toNatClampNeg) := by decide
theorem lt_lt : ∀ i, i < 8 → ¬ (50 : Int32) ≤ nI i := by decide
theorem lt_le : ∀ i, i < 9 → ∀ m, m < 9 → (nI m ≤ nI i ↔ m ≤ i) := by decide
theorem lt_p1 (c : Int32) (S : gx_S) (i : Nat) (hi : i < 8) (h : S 66 1 = nI i) : ∃ S', m_Text_append 0 c S = some S' ∧ S' 66 1 = nI (i + 1) := by
  unfold m_Text_append
  simp only [show 66 + 2 * 0 = 66 from rfl]
  rw [h, if_neg (lt_lt i hi), gx_ck_t (lt_in i hi)]
  refine ⟨_, rfl, ?_⟩
  simp [gx_st, va_up, upd, h, nI_1]
theorem lt_m2 (w : Int64) (m : Nat) (hm : m ≤ 8) : ∀ (d i : Nat) (S : gx_S) (n : Nat), i + d = m → d < n → S 66 1 = nI i → (gx_loop (m_ShopsAsOne_letters_94 w (nI m)) n (nI i, S)).map Prod.fst = some (nI m)
  | 0, i, S, n, h, hn, hS => by
    obtain ⟨n, rfl⟩ : ∃ z, n = z + 1 := ⟨n - 1, by omega⟩
    rw [gx_loop_s]
    simp only [m_ShopsAsOne_letters_94]
    rw [if_pos ((lt_le i (by omega) m (by omega)).mpr (by omega))]
    rw [hS, show i = m by omega]; rfl
  | d + 1, i, S, n, h, hn, hS => by
    obtain ⟨n, rfl⟩ : ∃ z, n = z + 1 := ⟨n - 1, by omega⟩
    rw [gx_loop_s]
    simp only [m_ShopsAsOne_letters_94]
    rw [if_neg (fun hh => absurd ((lt_le i (by omega) m (by omega)).mp hh) (by omega)), lw_code w S i (by omega)]
    obtain ⟨S', h1, h2⟩ := lt_p1 (((lw_c w (nI i)).toUInt32 % 65536).toInt32) S i (by omega) hS
    simp only [gx_cp]
    rw [h1]
    simp only [nI_1]
    exact lt_m2 w m hm d (i + 1) S' n (by omega) (by omega) h2
theorem lt_n2 (w : Int64) (m : Nat) (hm : m ≤ 8) : ∀ (d i : Nat) (S : gx_S) (n : Nat), i + d = m → d < n → S 0 14 = 0 → (gx_loop (n_letters_102 w (nI m)) n (nI i, S)).map Prod.fst = some (nI m)
  | 0, i, S, n, h, hn, hS => by
    obtain ⟨n, rfl⟩ : ∃ z, n = z + 1 := ⟨n - 1, by omega⟩
    rw [gx_loop_s]
    simp only [n_letters_102]
    rw [if_pos ((lt_le i (by omega) m (by omega)).mpr (by omega))]
    simp [gx_let, gx_st, va_up, upd, hS]
  | d + 1, i, S, n, h, hn, hS => by
    obtain ⟨n, rfl⟩ : ∃ z, n = z + 1 := ⟨n - 1, by omega⟩
    rw [gx_loop_s]
    simp only [n_letters_102]
    rw [if_neg (fun hh => absurd ((lt_le i (by omega) m (by omega)).mp hh) (by omega)), hS, show (0 : Int32) + nI i = nI i by simp, gx_ck_t (lt_in i (by omega))]
    simp only [gx_let, nI_1]
    exact lt_n2 w m hm d (i + 1) _ n (by omega) (by omega) (by simp only [gx_st, va_up, upd]; simpa using hS)
theorem lt_sum : ∀ m, m < 9 → (0 : Int32) + nI m ≤ 50 := by decide
theorem z_23 (w : Int64) : z_eqS (m_ShopsAsOne_letters w zS) (n_letters w nT0) := by
  unfold m_ShopsAsOne_letters n_letters
  have e1 := lt_mr w zS 8 0 0 0 5000 rfl (by decide)
  have e2 := lt_nr w nT0 8 0 0 0 5000 rfl (by decide)
  rw [show nI 0 = 0 from rfl] at e1 e2
  rw [e1, e2]
  cases hq : lt_go w 8 0 0 0 with
  | none => exact ⟨-102, rfl, rfl⟩
  | some g =>
    obtain ⟨m, hm, rfl⟩ := lt_few w 8 0 0 0 g hq
    have a1 : zS 66 1 = 0 := rfl
    have a2 : nT0 0 14 = 0 := by decide +kernel
    simp only [a1, a2]
    rw [if_pos (lt_sum m (by omega)), if_pos (lt_sum m (by omega))]
    exact ⟨nI m, lt_m2 w m (by omega) m 0 zS 5000 (by omega) (by omega) rfl, lt_n2 w m (by omega) m 0 nT0 5000 (by omega) (by omega) a2⟩
/-! the law's body on no more than one code -/
theorem lp_ite {c : Prop} [Decidable c] {a b r : Option Unit} (h1 : c → a = r) (h2 : ¬ c → b = r) : (if c then a else b) = r := by
  by_cases h : c
  · rw [if_pos h]; exact h1 h
  · rw [if_neg h]; exact h2 h
theorem lp_ck {N : Nat} {i : Int32} {k r : Option Unit} (h : ¬ (i < 0 ∨ N ≤ i.toNatClampNeg)) (h2 : k = r) : gx_ck N i k = r := (gx_ck_t h).trans h2
theorem lp_cs {A : Type} {o : Option (A × gx_S)} {v : A} {k : A → gx_S → Option Unit} {r : Option Unit} (h : o.map Prod.fst = some v) (h2 : ∀ S, k v S = r) : gx_cs o k = r := by
  cases o with
  | none => cases h
  | some p =>
    obtain ⟨a, S⟩ := p
    have e : a = v := Option.some.inj h
    subst e
    exact h2 S
theorem lp_cp {A : Type} {o : Option A} {v : A} {k : A → Option Unit} {r : Option Unit} (h : o = some v) (h2 : k v = r) : gx_cp o k = r := by
  subst h; exact h2
theorem lp_ss {o1 o2 : Option (Int32 × gx_S)} {K : gx_S → gx_S → Option Unit} {r : Option Unit} (h : z_eqS o1 o2) (h2 : ∀ S T, K S T = r) : (gx_cs o1 fun v S => gx_cs o2 fun v2 T => if v = v2 then K S T else none) = r := by
  obtain ⟨v, a, b⟩ := h
  exact lp_cs a fun S => lp_cs b fun T => (if_pos rfl).trans (h2 S T)
theorem lp_ps {o1 : Option Int32} {o2 : Option (Int32 × gx_S)} {v : Int32} {K : gx_S → Option Unit} {r : Option Unit} (h : o1 = some v ∧ o2.map Prod.fst = some v) (h2 : ∀ T, K T = r) : (gx_cp o1 fun v => gx_cs o2 fun v2 T => if v = v2 then K T else none) = r := by
  obtain ⟨a, b⟩ := h
  exact lp_cp a (lp_cs b fun T => (if_pos rfl).trans (h2 T))
theorem lp_pp {o1 o2 : Option Int32} {v : Int32} {K r : Option Unit} (h : o1 = some v ∧ o2 = some v) (h2 : K = r) : (gx_cp o1 fun v => gx_cp o2 fun v2 => if v = v2 then K else none) = r := by
  obtain ⟨a, b⟩ := h
  exact lp_cp a (lp_cp b ((if_pos rfl).trans h2))
theorem lp_cmp (v : Int64) : lg_cmp v v = 0 := by
  unfold lg_cmp
  simp
theorem lp_m2 (xs : Nat → Int32) (k : Int32 × gx_S × gx_S → Option Unit) (hk : ∀ S T, ml_1238 xs 7 k 0 S T = some ()) (v x y z : Int32) (S : gx_S) (h : (n_market x y z nT0).map Prod.fst = some v) : ml_698 xs 7 k 0 v x y z S nT0 = some () := by
  unfold ml_698
  exact lp_cs h fun T => (if_pos rfl).trans (hk S T)
theorem lp_mk (xs : Nat → Int32) (k : Int32 × gx_S × gx_S → Option Unit) (hk : ∀ S T, ml_1238 xs 7 k 0 S T = some ()) : (if (xs ((0 : Int32) + (3 : Int32)).toNatClampNeg) = 0 then ml_671 xs 7 k 0 (xs ((0 : Int32) + (1 : Int32)).toNatClampNeg) (xs ((0 : Int32) + (2 : Int32)).toNatClampNeg) 0 zS nT0 else ml_671 xs 7 k 0 (xs ((0 : Int32) + (1 : Int32)).toNatClampNeg) (xs ((0 : Int32) + (2 : Int32)).toNatClampNeg) 1 zS nT0) = some () := by
  refine lp_ite (fun h => ?_) (fun h => ?_)
  · unfold ml_671
    obtain ⟨v, a, b⟩ := z_15 (xs ((0 : Int32) + (1 : Int32)).toNatClampNeg) (xs ((0 : Int32) + (2 : Int32)).toNatClampNeg) 0
    refine lp_cs a fun S => ?_
    refine lp_ck (by decide) ?_; refine lp_ck (by decide) ?_; refine lp_ck (by decide) ?_
    exact lp_ite (fun _ => lp_m2 xs k hk v _ _ _ S b) (fun g => absurd h g)
  · unfold ml_671
    obtain ⟨v, a, b⟩ := z_15 (xs ((0 : Int32) + (1 : Int32)).toNatClampNeg) (xs ((0 : Int32) + (2 : Int32)).toNatClampNeg) 1
    refine lp_cs a fun S => ?_
    refine lp_ck (by decide) ?_; refine lp_ck (by decide) ?_; refine lp_ck (by decide) ?_
    exact lp_ite (fun g => absurd g h) (fun _ => lp_m2 xs k hk v _ _ _ S b)
theorem lp_step (xs : Nat → Int32) (k : Int32 × gx_S × gx_S → Option Unit) (hk : ∀ S T, ml_1238 xs 7 k 0 S T = some ()) : ml_18 xs 7 (0, (fun _ _ => 0), nT0) k = some () := by
  unfold ml_18
  dsimp only
  refine lp_ite (fun h => rfl) (fun _ => ?_)
  refine lp_ck (by decide) ?_
  refine lp_ite (fun _ => ?_) (fun _ => ?_)
  · refine lp_ck (by decide) ?_; refine lp_ck (by decide) ?_; exact lp_ss (z_0 _ _) hk
  refine lp_ite (fun _ => ?_) (fun _ => ?_)
  · refine lp_ck (by decide) ?_; refine lp_ck (by decide) ?_; exact lp_pp (z_1 _ _) (hk _ _)
  refine lp_ite (fun _ => ?_) (fun _ => ?_)
  · refine lp_ck (by decide) ?_; refine lp_ck (by decide) ?_; refine lp_ck (by decide) ?_; refine lp_ck (by decide) ?_; exact lp_ss (z_2 _ _ _ _) hk
  refine lp_ite (fun _ => ?_) (fun _ => ?_)
  · refine lp_ck (by decide) ?_; refine lp_ck (by decide) ?_; exact lp_ps (z_3 _ _) (hk _)
  refine lp_ite (fun _ => ?_) (fun _ => ?_)
  · refine lp_ck (by decide) ?_; refine lp_ck (by decide) ?_; exact lp_ss (z_4 _ _) hk
  refine lp_ite (fun _ => ?_) (fun _ => ?_)
  · refine lp_ck (by decide) ?_; refine lp_ck (by decide) ?_; refine lp_ck (by decide) ?_; refine lp_ck (by decide) ?_; refine lp_ck (by decide) ?_; refine lp_ck (by decide) ?_; exact lp_ss (z_5 _ _ _ _ _ _) hk
  refine lp_ite (fun _ => ?_) (fun _ => ?_)
  · refine lp_ck (by decide) ?_; refine lp_ck (by decide) ?_; exact lp_pp (z_6 _ _) (hk _ _)
  refine lp_ite (fun _ => ?_) (fun _ => ?_)
  · refine lp_ck (by decide) ?_; exact lp_pp (z_7 _) (hk _ _)
  refine lp_ite (fun _ => ?_) (fun _ => ?_)
  · refine lp_ck (by decide) ?_; exact lp_pp (z_8 _) (hk _ _)
  refine lp_ite (fun _ => ?_) (fun _ => ?_)
  · refine lp_ck (by decide) ?_; exact lp_ps (z_9 _) (hk _)
  refine lp_ite (fun _ => ?_) (fun _ => ?_)
  · refine lp_ck (by decide) ?_; refine lp_ck (by decide) ?_; exact lp_ss (z_10 _ _) hk
  refine lp_ite (fun _ => ?_) (fun _ => ?_)
  · refine lp_ck (by decide) ?_; exact lp_ss (z_11 _) hk
  refine lp_ite (fun _ => ?_) (fun _ => ?_)
  · exact lp_ss (z_12) hk
  refine lp_ite (fun _ => ?_) (fun _ => ?_)
  · exact lp_ss (z_13) hk
  refine lp_ite (fun _ => ?_) (fun _ => ?_)
  · refine lp_ck (by decide) ?_; exact lp_ss (z_14 _) hk
  refine lp_ite (fun _ => ?_) (fun _ => ?_)
  · refine lp_ck (by decide) ?_; refine lp_ck (by decide) ?_; refine lp_ck (by decide) ?_; exact lp_mk xs k hk
  refine lp_ite (fun _ => ?_) (fun _ => ?_)
  · refine lp_ck (by decide) ?_; refine lp_ck (by decide) ?_; exact lp_ps (z_16 _ _) (hk _)
  refine lp_ite (fun _ => ?_) (fun _ => ?_)
  · refine lp_ck (by decide) ?_; refine lp_ck (by decide) ?_; exact lp_ps (z_17 _ _) (hk _)
  refine lp_ite (fun _ => ?_) (fun _ => ?_)
  · refine lp_ck (by decide) ?_; refine lp_ck (by decide) ?_; exact lp_ss (z_18 _ _) hk
  refine lp_ite (fun _ => ?_) (fun _ => ?_)
  · refine lp_ck (by decide) ?_; refine lp_ck (by decide) ?_; refine lp_ck (by decide) ?_; exact lp_ss (z_19 _ _ _) hk
  refine lp_ite (fun _ => ?_) (fun _ => ?_)
  · refine lp_ck (by decide) ?_; refine lp_ck (by decide) ?_; refine lp_ck (by decide) ?_; exact lp_ss (z_20 _ _ _) hk
  refine lp_ite (fun _ => ?_) (fun _ => ?_)
  · refine lp_ck (by decide) ?_; refine lp_ck (by decide) ?_; refine lp_ck (by decide) ?_; refine lp_ck (by decide) ?_; exact lp_ss (z_21 _ _ _ _) hk
  refine lp_ite (fun _ => ?_) (fun _ => ?_)
  · refine lp_ck (by decide) ?_; refine lp_ck (by decide) ?_; refine lp_ck (by decide) ?_; refine lp_ck (by decide) ?_; refine lp_ck (by decide) ?_; exact lp_ss (z_22 _ _ _ _ _) hk
  refine lp_ite (fun _ => ?_) (fun _ => ?_)
  · refine lp_ck (by decide) ?_; refine lp_ck (by decide) ?_; exact lp_ss (z_23 _) hk
  refine lp_ite (fun _ => ?_) (fun _ => ?_)
  · exact lp_ss (z_24) hk
  refine lp_ite (fun _ => ?_) (fun _ => ?_)
  · exact lp_ss (z_25) hk
  refine lp_ite (fun _ => ?_) (fun _ => ?_)
  · exact lp_ss (z_26) hk
  refine lp_ite (fun _ => ?_) (fun _ => ?_)
  · refine lp_ck (by decide) ?_; refine lp_ck (by decide) ?_; refine lp_ck (by decide) ?_; exact lp_ss (z_27 _ _ _) hk
  refine lp_ite (fun _ => ?_) (fun _ => ?_)
  · refine lp_ck (by decide) ?_; refine lp_ck (by decide) ?_; exact lp_ss (z_28 _ _) hk
  refine lp_ite (fun _ => ?_) (fun _ => ?_)
  · exact lp_ss (z_29) hk
  refine lp_ite (fun _ => ?_) (fun _ => ?_)
  · exact lp_ss (z_30) hk
  refine lp_ite (fun _ => ?_) (fun _ => ?_)
  · refine lp_ck (by decide) ?_; obtain ⟨v, hv⟩ := z_31 (xs ((0 : Int32) + 1).toNatClampNeg); exact lp_ps hv (hk _)
  refine lp_ite (fun _ => ?_) (fun _ => ?_)
  · obtain ⟨v, a, b⟩ := z_32; exact lp_cs a fun S => lp_cs b fun T => (if_pos (lp_cmp v)).trans (hk S T)
  exact hk _ _
theorem law_pure (L : Nat) (xs : Nat → Int32) (hL : L ≤ 7) : ml xs L = some () := by
  unfold ml
  rw [show (5000 : Nat) = 4998 + 1 + 1 from rfl, gx_loop_s]
  by_cases h7 : L = 7
  · subst h7
    have nx : ∀ S T, ml_1238 xs 7 (gx_loop (ml_18 xs 7) (4998 + 1)) 0 S T = some () := by
      intro S T
      unfold ml_1238
      rw [gx_loop_s]
      unfold ml_18
      dsimp only
      exact if_pos (by decide)
    generalize gx_loop (ml_18 xs 7) (4998 + 1) = k at nx ⊢
    exact lp_step xs k nx
  · have h : ∀ L, L < 7 → Int32.ofNat L - 7 < 0 := by decide
    generalize gx_loop (ml_18 xs L) (4998 + 1) = k
    unfold ml_18
    dsimp only
    exact if_pos (h L (by omega))

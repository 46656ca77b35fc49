/-! b20: the reference: nearest market, instead, from, sold off -/
theorem fb_orp : ∀ n, n < 6 → ∀ m, m < 64 → m.testBit n = false → pc (m ||| 2 ^ n) = pc m + 1 := by decide +kernel
theorem fb_orl : ∀ e, e < 7 → ∀ n, n < e → ∀ m, m < 64 → m < 2 ^ e → (m ||| 2 ^ n) < 2 ^ e := by decide +kernel
theorem fb_pc2 : ∀ n, n < 6 → pc (2 ^ n) = 1 := by decide +kernel
theorem nea_gN {G D : gx_S} (hG : wG G) (i m : Nat) (hi : i < 6) : gN (fun k => ab (G 4 k - G 4 i)) (fun k => opn G D k && !m.testBit k) (nP G) = (nea G D i m (nP G)).1 := by
  have hP := (wG_P hG).2
  obtain ⟨l, hl⟩ := gN_isC (is := fun k => ab (G 4 k - G 4 i)) (op := fun k => opn G D k && !m.testBit k) (w := 98) (n := nP G) (by omega) (by decide)
  have hu := (isC_u hl (chN_isC _ _ _ _)).2
  unfold nea
  rw [← hu]
  rcases gN_c (fun k => ab (G 4 k - G 4 i)) (fun k => opn G D k && !m.testBit k) (nP G) (by omega) with ⟨e, _⟩ | ⟨x, hx, e, _⟩
  · rw [if_pos e, e]
  · rw [e, if_neg (nn_m1 (by omega)), nn_c (by omega), if_pos]
    obtain ⟨e1, h1⟩ := bw_n (n := 9) (by decide) (hG.2.2.1 x).1
    obtain ⟨e2, h2⟩ := bw_n (n := 9) (by decide) (hG.2.2.1 i).1
    rw [e1, e2, ab_n _ (by omega) _ (by omega), show (98 : Int32) = nn 98 from rfl, nn_le (by split <;> omega) (by omega)]
    split <;> omega
theorem u_nearestMarket {G D S : gx_S} (h : pU G D (-1) S) (hw : wD G D) {i k : Nat} (hi : i < nP G) (hk : k ≤ 5) : gt (n_nearestMarket (nn i) (nn k) S) fun t => t.1 = nmk G D i k (nP G) (2 ^ i) ∧ fM S t.2 ∧ pU G D (-1) t.2 := by
  have hG := h.1
  obtain ⟨eP, hP⟩ := wG_P hG
  have hop := mb_64 (opn G D) hP
  unfold n_nearestMarket
  rw [u_openSet h, cp_s, fb_1 i (by omega)]
  refine gt_loop (fun t => (fM S t.2 ∧ pU G D (-1) t.2) ∧ ((t.1 = -1 ∧ nmk G D i k (nP G) (2 ^ i) = -1) ∨ ∃ m n, t.1 = nn m ∧ m < 64 ∧ m < 2 ^ nP G ∧ n + pc m = nP G + 1 ∧ nmk G D i k n m = nmk G D i k (nP G) (2 ^ i))) (fun t => if t.1 = -1 then 0 else 8 - pc t.1.toNatClampNeg) ?_ 5000 _ ?_ ?_
  · rintro ⟨x3, T⟩ kk ⟨⟨f, p⟩, hI⟩ hkk
    simp only at f p hI hkk
    simp only [n_nearestMarket_10]
    rcases hI with ⟨e, er⟩ | ⟨m, n, rfl, hm, hmP, hn, er⟩
    · rw [if_pos e]
      exact gt_some ⟨by rw [er]; exact e, f, p⟩
    · rw [if_neg (nn_m1 (by omega))]
      have hpm := fb_pcn (nP G) (by omega) m hm hmP
      obtain ⟨n', hn'⟩ : ∃ n', n = n' + 1 := ⟨n - 1, by omega⟩
      subst hn'
      have er' : (if wpv G D m k = 0 then (if (nea G D i m (nP G)).1 = -1 then -1 else nmk G D i k n' (m ||| 2 ^ (nea G D i m (nP G)).1.toNatClampNeg)) else nn m) = nmk G D i k (nP G) (2 ^ i) := er
      refine gt_cs (u_pays p hw hm hk) (fun a U hU => ?_)
      obtain ⟨ua, ub, uc⟩ := hU
      simp only at ua ub uc
      rw [ua]
      by_cases q : wpv G D m k = 0
      · rw [if_pos q] at er' ⊢
        have e1 : U 0 4 = nn (nP G) := by rw [uc.2.2.1.1.2.1, eP]
        have el : gx_loop (n_nearestMarket_30 kk (nn i) (nn k) (nn m) (nn (mb (opn G D) (nP G))) U) 5000 ((-1), 0) = n_nearestMarket_145 kk (nn i) (nn k) (nn (mb (opn G D) (nP G))) (if gN (fun k => ab (G 4 k - G 4 i)) (fun k => opn G D k && !m.testBit k) (nP G) = -1 then -1 else nn m ||| ((1 : Int32) <<< (gN (fun k => ab (G 4 k - G 4 i)) (fun k => opn G D k && !m.testBit k) (nP G) &&& 31))) U := by
          refine lp_for (nP G) (fun j => (gN (fun k => ab (G 4 k - G 4 i)) (fun k => opn G D k && !m.testBit k) j, nn j)) (fun j k1 hj => ?_) (fun k1 => ?_) 0 5000 (by omega) (by omega)
          · simp only [n_nearestMarket_30, n_nearestMarket_63, n_nearestMarket_64, n_nearestMarket_114, n_nearestMarket_119, n_nearestMarket_121]
            have b1 := fb_bi m hm j (by omega)
            have b2 := fb_bi _ hop j (by omega)
            rw [tb_mb _ (by omega) hP] at b2
            unfold bi at b1 b2
            have hj' : decide (j < nP G) = true := by simpa using hj
            rw [hj', Bool.and_true] at b2
            rw [show gN (fun k => ab (G 4 k - G 4 i)) (fun k => opn G D k && !m.testBit k) (j + 1) = if (opn G D j && !m.testBit j) = true ∧ (gN (fun k => ab (G 4 k - G 4 i)) (fun k => opn G D k && !m.testBit k) j = -1 ∨ ab (G 4 j - G 4 i) < ab (G 4 (gN (fun k => ab (G 4 k - G 4 i)) (fun k => opn G D k && !m.testBit k) j).toNatClampNeg - G 4 i)) then nn j else gN (fun k => ab (G 4 k - G 4 i)) (fun k => opn G D k && !m.testBit k) j from rfl]
            obtain ⟨s1, _⟩ := uc.2.2.1.2.2.1 j (by omega)
            obtain ⟨s2, _⟩ := uc.2.2.1.2.2.1 i (by omega)
            simp (disch := omega) only [e1, nn_le, nn_s, b1, b2]
            rw [if_neg (by omega)]
            cases ho : opn G D j with
            | false =>
              rw [if_neg (by decide), if_pos trivial, if_neg (fun z => absurd z.1 (by simp))]
            | true =>
              cases hb : m.testBit j with
              | true =>
                rw [if_pos (by decide), if_neg (by decide), if_pos trivial, if_neg (fun z => absurd z.1 (by simp))]
              | false =>
                rw [if_pos (by decide), if_pos (by decide), if_neg (by decide)]
                rcases gN_c (fun k => ab (G 4 k - G 4 i)) (fun k => opn G D k && !m.testBit k) j (by omega) with ⟨e, _⟩ | ⟨x, hx, e, _⟩
                · rw [if_pos e, if_pos ⟨rfl, Or.inl e⟩]
                · obtain ⟨s3, _⟩ := uc.2.2.1.2.2.1 x (by omega)
                  rw [e, if_neg (nn_m1 (by omega))]
                  simp (disch := omega) only [ck_n, nn_c, s1, s2, s3, u_size, cp_s]
                  by_cases z : ab (G 4 x - G 4 i) ≤ ab (G 4 j - G 4 i)
                  · rw [if_pos z, if_neg]
                    rintro ⟨_, w | w⟩
                    · exact nn_m1 (by omega) w
                    · lia
                  · rw [if_neg z, if_pos ⟨rfl, Or.inr (by lia)⟩]
          · simp only [n_nearestMarket_30]
            simp (disch := omega) only [e1, nn_le]
            rw [if_pos (by omega)]
            split <;> rfl
        rw [el, nea_gN hG i m (by omega)]
        unfold n_nearestMarket_145
        rcases nea_n G D i m with y | ⟨x, hx, y, _, hb⟩
        · rw [if_pos y] at er' ⊢
          refine hkk _ ⟨⟨fM_t f ub, uc⟩, Or.inl ⟨rfl, er'.symm⟩⟩ ?_
          simp only
          rw [if_pos trivial, if_neg (nn_m1 (by omega)), nn_c (by omega)]
          omega
        · rw [y, if_neg (nn_m1 (by omega)), nn_c (by omega)] at er'
          have o1 := fb_orb x (by omega) m hm
          have o2 := fb_orp x (by omega) m hm hb
          rw [y, if_neg (nn_m1 (by omega)), o1.1]
          refine hkk _ ⟨⟨fM_t f ub, uc⟩, Or.inr ⟨_, n', rfl, o1.2, fb_orl _ (by omega) x hx m hm hmP, by omega, er'⟩⟩ ?_
          simp only
          rw [if_neg (nn_m1 (by omega)), if_neg (nn_m1 (by omega)), nn_c (by omega), nn_c (by omega)]
          omega
      · rw [if_neg q] at er' ⊢
        exact gt_some ⟨er', fM_t f ub, uc⟩
  · refine ⟨⟨fM_r S, h⟩, Or.inr ⟨2 ^ i, nP G, rfl, ?_, ?_, ?_, rfl⟩⟩
    · have : ∀ i, i < 6 → 2 ^ i < 64 := by decide
      exact this i (by omega)
    · exact Nat.pow_lt_pow_right (by decide) hi
    · rw [fb_pc2 i (by omega)]
  · simp only
    split <;> omega
theorem u_insteadOf {G D S : gx_S} (h : pU G D (-1) S) {s : Nat} (hs : s < nS G) (x : Int32) : gt (n_insteadOf (nn s) x S) fun t => t.1 = cho G D s x ∧ fM S t.2 ∧ pU G D (-1) t.2 := by
  have hS := (wG_S h.1).2
  unfold n_insteadOf
  refine gt_let ?_
  have p : pU G D x (gx_st S 0 23 x) := by
    obtain ⟨hG, h0, ⟨⟨a1, a2, a3⟩, b, c, d⟩, hd, e⟩ := h
    refine ⟨hG, h0, ⟨⟨?_, ?_, ?_⟩, fun o ho => ?_, fun k hk => ?_, fun s i hs hi => ?_⟩, fun j hj => ?_, gx_st_eq _ _ _ _⟩
    · rw [gx_st_j _ _ _ (by omega)]; exact a1
    · rw [gx_st_j _ _ _ (by omega)]; exact a2
    · rw [gx_st_j _ _ _ (by omega)]; exact a3
    · rw [gx_st_q _ _ _ _ (by omega), gx_st_q _ _ _ _ (by omega)]; exact b o ho
    · rw [gx_st_q _ _ _ _ (by omega), gx_st_q _ _ _ _ (by omega)]; exact c k hk
    · rw [gx_st_q _ _ _ _ (by omega)]; exact d s i hs hi
    · rw [gx_st_q _ _ _ _ (by omega), gx_st_q _ _ _ _ (by omega), gx_st_q _ _ _ _ (by omega)]; exact hd j hj
  rw [u_goesTo p hs, cp_s]
  refine gt_let ?_
  have f : ∀ q j, gx_st (gx_st S 0 23 x) 0 23 (-1) q j = S q j := fun q j => by
    by_cases z : q = 0
    · subst z
      by_cases y : j = 23
      · subst y; rw [gx_st_eq]; exact h.2.2.2.2.symm
      · rw [gx_st_j _ _ _ y, gx_st_j _ _ _ y]
    · rw [gx_st_q _ _ _ _ z, gx_st_q _ _ _ _ z]
  exact gt_some ⟨rfl, fun q j _ _ _ _ _ => f q j, pU_f h (fun q j _ => f q j)⟩
def fro (G D : gx_S) (a b : Nat) : Int32 := sm (fun s => if cho G D s (-1) = nn a ∧ cho G D s (nn a) = nn b then G 7 s else 0) (nS G)
theorem u_from {G D S : gx_S} (h : pU G D (-1) S) (a b : Nat) : gt (gx_loop (n_from_29 (nn a) (nn b)) 5000 (0, 0, S)) fun t => t.1 = fro G D a b ∧ fM S t.2 ∧ pU G D (-1) t.2 := by
  have hG := h.1
  obtain ⟨eS, hS⟩ := wG_S hG
  refine gt_for (nS G) (fun s t => t.1 = sm (fun s => if cho G D s (-1) = nn a ∧ cho G D s (nn a) = nn b then G 7 s else 0) s ∧ t.2.1 = nn s ∧ fM S t.2.2 ∧ pU G D (-1) t.2.2) ?_ ?_ 0 5000 _ (by omega) ⟨rfl, rfl, fM_r S, h⟩ (by omega)
  · rintro s ⟨_, _, T⟩ k hs ⟨rfl, rfl, f, p⟩ hk
    simp only at f p
    simp only [n_from_29, n_from_70, n_from_71]
    have e1 : T 0 9 = nn (nS G) := by rw [p.2.2.1.1.2.2, eS]
    simp (disch := omega) only [e1, nn_le, nn_s, u_goesTo p hs, cp_s]
    rw [if_neg (by omega)]
    have nx : ∀ x U, x = (if cho G D s (-1) = nn a ∧ cho G D s (nn a) = nn b then G 7 s else 0) → fM S U → pU G D (-1) U → gt (k (sm (fun s => if cho G D s (-1) = nn a ∧ cho G D s (nn a) = nn b then G 7 s else 0) s + x, nn (s + 1), U)) fun t => t.1 = fro G D a b ∧ fM S t.2 ∧ pU G D (-1) t.2 := fun x U hx hf hp => hk _ ⟨by rw [hx]; rfl, rfl, hf, hp⟩
    by_cases q : cho G D s (-1) = nn a
    · rw [if_pos q]
      refine gt_cs (u_insteadOf p hs (nn a)) (fun v U hU => ?_)
      obtain ⟨u1, u2, u3⟩ := hU
      simp only at u1 u2 u3
      have t1 : n_told (nn s) 1 U = some (G 7 s) := u_told u3.2.2.1 (i := 1) (by omega) (by omega)
      rw [u1, t1, cp_s]
      by_cases y : cho G D s (nn a) = nn b
      · rw [if_pos y]
        exact nx _ U (by rw [if_pos ⟨q, y⟩]) (fM_t f u2) u3
      · rw [if_neg y]
        exact nx _ U (by rw [if_neg (fun z => y z.2)]) (fM_t f u2) u3
    · rw [if_neg q]
      exact nx _ T (by rw [if_neg (fun z => q z.1)]) f p
  · rintro ⟨_, _, T⟩ k ⟨rfl, rfl, f, p⟩
    simp only at f p
    simp only [n_from_29]
    have e1 : T 0 9 = nn (nS G) := by rw [p.2.2.1.1.2.2, eS]
    simp (disch := omega) only [e1, nn_le]
    rw [if_pos (by omega)]
    exact gt_some ⟨rfl, f, p⟩
theorem x_from {G D S : gx_S} (h : pX 0 G D S) (a b : Nat) : gx_loop (m_ShopsAsOne_from_29 (nn a) (nn b) S) 5000 (0, 0) = some (fro G D a b) := by
  have v := h.2.2.1.1
  obtain ⟨eS, hS⟩ := wG_S h.1
  refine lp_for (nS G) (fun j => (sm (fun s => if cho G D s (-1) = nn a ∧ cho G D s (nn a) = nn b then G 7 s else 0) j, nn j)) (fun j k hj => ?_) (fun k => ?_) 0 5000 (by omega) (by omega)
  · simp only [m_ShopsAsOne_from_29, m_ShopsAsOne_from_82]
    simp (disch := omega) only [v, eS, nn_le, x_choice h hj, cp_s, nn_s, ck_n, nn_c]
    rw [if_neg (by omega)]
    rw [show sm (fun s => if cho G D s (-1) = nn a ∧ cho G D s (nn a) = nn b then G 7 s else 0) (j + 1) = sm (fun s => if cho G D s (-1) = nn a ∧ cho G D s (nn a) = nn b then G 7 s else 0) j + (if cho G D j (-1) = nn a ∧ cho G D j (nn a) = nn b then G 7 j else 0) from rfl]
    by_cases q : cho G D j (-1) = nn a
    · rw [if_pos q]
      by_cases y : cho G D j (nn a) = nn b
      · rw [if_pos y, if_pos ⟨q, y⟩]
      · rw [if_neg y, if_neg (fun z => y z.2), Int32.add_zero]
    · rw [if_neg q, if_neg (fun z => q z.1), Int32.add_zero]
  · simp only [m_ShopsAsOne_from_29]
    simp (disch := omega) only [v, eS, nn_le]
    rw [if_pos (by omega)]
    rfl

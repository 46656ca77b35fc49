/-! b33: prices, markets, two made one -/
theorem zD_tk {G D : gx_S} (h : zD G D) (o : Nat) : zD G (tk G D o) := fun j hj hn => by
  rw [tk_1, tk_2]
  unfold bP
  rw [if_neg (fun z => by have := z.1; omega)]
  exact h j hj hn
theorem zD_rnd {G : gx_S} : ∀ (o : Nat) {D : gx_S}, zD G D → zD G (rnd G o D).2
  | 0, _, h => h
  | o + 1, _, h => zD_tk (zD_rnd o h) o
theorem zD_stl {G : gx_S} : ∀ (f r : Nat) {D : gx_S}, zD G D → zD G (stl G f r D).2
  | 0, _, _, h => h
  | f + 1, r, D, h => by
    unfold stl
    split
    · exact zD_rnd _ h
    · exact zD_stl f (r + 1) (zD_rnd _ h)
theorem zD_gv {G D : gx_S} (h : zD G D) (a b : Nat) : zD G (gv G D a b) := fun j hj hn => by
  unfold gv
  rw [if_neg (fun z => absurd z.1 (by decide)), if_neg (fun z => by have := z.2.1; omega)]
  exact h j hj hn
theorem x_priceOf {G D S : gx_S} {o k : Nat} (hL : oL G D o S) (hc : ∀ k, k < nP G → ow D o k = true → S 45 (cu D o k) = bP G D o k) (h3 : cnt G D o ≤ 3) (hk : k < nP G) (hP : nP G ≤ 6) (ho : ow D o k = true) : m_Bests_priceOf (nn k) S = some (bP G D o k) := by
  refine gt_to ?_
  unfold m_Bests_priceOf
  have hck := cu_lt hk ho
  refine gt_for (cu D o k) (fun i t => t = nn i) ?_ ?_ 0 5000 _ (by omega) rfl (by omega)
  · rintro i t kk hi rfl hkk
    obtain ⟨k', h1, h2, h4⟩ := cn_at (ow D o) (n := nP G) (i := i) (by show i < cnt G D o; omega)
    have e42 : S 42 i = nn k' := by
      have := (hL.2 k' h1 h2).1
      have h5 : cu D o k' = i := h4
      rwa [h5] at this
    have hne : k' ≠ k := fun z => by
      subst z
      have h5 : cu D o k' = i := h4
      omega
    simp only [m_Bests_priceOf_2]
    simp (disch := omega) only [hL.1, nn_le, ck_n, nn_c, e42, nn_eq, nn_s]
    rw [if_neg (by omega), if_neg hne]
    exact hkk _ rfl
  · rintro t kk rfl
    obtain ⟨e1, _⟩ := hL.2 k hk ho
    simp only [m_Bests_priceOf_2]
    simp (disch := omega) only [hL.1, nn_le, ck_n, nn_c, e1, hc k hk ho]
    rw [if_neg (by omega), if_pos trivial]
    exact gt_some rfl
theorem st_best {S T : gx_S} (h : RR S T) (x y : Int32) : cSS (m_ShopsAsOne_best x y S) (n_best x y T) := by
  obtain ⟨A, hA, hS, hT, hK⟩ := id h
  have hP := (wG_P hA.1).2
  have hO := (wG_O hA.1).2
  unfold m_ShopsAsOne_best n_best m_ShopsAsOne_best_81 n_best_65
  rcases chkP (by omega) (RS_c hA hS).2.1 (RT_c hA hT).2.1 x with ⟨k, h1, rfl, h3, h4⟩ | ⟨h3, h4⟩
  · rw [h3, h4, cp_s, cp_s, if_pos rfl, if_neg i10]
    rcases chkR y 0 1 S T with ⟨_, g3, g4⟩ | ⟨g3, g4⟩
    · rw [g3, g4, cp_s, cp_s, if_pos rfl, if_neg i10]
      have pS := pX_R hA hS
      have pT := pU_R hA hT
      obtain ⟨ew, hw6⟩ := w0_w (wD_0 hA.2.2.1) (j := k) (by omega)
      have e23 : S 23 k = nn (wh (qD A) k) := by rw [← ew]; exact pS.2.2.2 2 k (by omega) (by omega) (by omega)
      have e4 : T 4 k = nn (wh (qD A) k) := by rw [← ew]; exact (pT.2.2.2.1 k (by omega)).2.1
      have hown : ow (qD A) (wh (qD A) k) k = true := by unfold ow; rw [decide_eq_true_eq]; exact ew
      rw [ck_n (by omega) (by omega), ck_n (by omega) (by omega), nn_c (by omega), e23, e4]
      obtain ⟨o, ho⟩ : ∃ o, o = wh (qD A) k := ⟨_, rfl⟩
      rw [← ho] at hw6 hown ⊢
      refine gt_cp (x_look pS hA.2.2.1 (by omega) hw6) (fun S' hS' => ?_)
      obtain ⟨s1, s2, s3, s4, s5⟩ := hS'
      have hl := u_layBest pT hA.2.2.1 hw6
      have fin : ∀ T', fL T T' → uD (qD A) T' → RR S' T' := fun T' f u => RR_M hA hS hT hK (fX_P (fB_X s1)) (fL_M f) u
      by_cases y0 : y = 0
      · rw [if_pos y0, x_priceOf s2 s5 (hA.2.2.1.2.2 o hw6) h1 hP hown, cp_s]
        refine gt_some (gt_cp hl (fun T' hT' => ?_))
        obtain ⟨t1, t2, t3, t4, t5⟩ := hT'
        rw [if_pos y0, t3 k h1]
        exact gt_some ⟨rfl, fin T' t1 t2⟩
      · rw [if_neg y0]
        have e2 : S' 2 o = qG A 2 o := by rw [s1 _ _ (by omega)]; exact hS.1.1 _ _ (by omega) (by omega)
        rw [ck_n hw6 (by omega), nn_c (by omega), e2, s4]
        have fin2 : ∀ v : Int32, v = (if qG A 2 o = 4 then (if bI (qG A) (qD A) o = 0 then 0 else 1) else 1) → gt (gx_cp (n_layBest (nn o) T) fun S7 => if y = 0 then some (S7 16 k, S7) else gx_ck 6 (nn o) (if (S7 1 o) = 4 then if (S7 0 26) = 0 then some (0, S7) else some (1, S7) else some (1, S7))) fun r' => v = r'.1 ∧ RR S' r'.2 := fun v hv => by
          refine gt_cp hl (fun T' hT' => ?_)
          obtain ⟨t1, t2, t3, t4, t5⟩ := hT'
          have e1 : T' 1 o = qG A 2 o := by
            rw [t1 _ _ (by omega) (by omega) (by omega) (by omega) (by omega) (by omega)]; exact (pT.2.2.1.2.1 o hw6).1
          rw [if_neg y0, ck_n hw6 (by omega), e1, t4]
          by_cases q4 : qG A 2 o = 4
          · rw [if_pos q4] at hv ⊢
            by_cases b0 : bI (qG A) (qD A) o = 0
            · rw [if_pos b0] at hv ⊢; exact gt_some ⟨hv, fin T' t1 t2⟩
            · rw [if_neg b0] at hv ⊢; exact gt_some ⟨hv, fin T' t1 t2⟩
          · rw [if_neg q4] at hv ⊢; exact gt_some ⟨hv, fin T' t1 t2⟩
        by_cases q4 : qG A 2 o = 4
        · rw [if_pos q4]
          by_cases b0 : bI (qG A) (qD A) o = 0
          · rw [if_pos b0]; exact gt_some (fin2 0 (by rw [if_pos q4, if_pos b0]))
          · rw [if_neg b0]; exact gt_some (fin2 1 (by rw [if_pos q4, if_neg b0]))
        · rw [if_neg q4]; exact gt_some (fin2 1 (by rw [if_neg q4]))
    · rw [g3, g4, cp_s, cp_s, if_neg i10, if_pos rfl]; exact cSS_s h
  · rw [h3, h4, cp_s, cp_s, if_neg i10, if_pos rfl]; exact cSS_s h
theorem st_turn {S T : gx_S} (h : RR S T) (x : Int32) : cSS (m_ShopsAsOne_turn x S) (n_turn x T) := by
  obtain ⟨A, hA, hS, hT, hK⟩ := id h
  have hO := (wG_O hA.1).2
  unfold m_ShopsAsOne_turn n_turn
  rcases chkO (by omega) (RS_c hA hS).1 (RT_c hA hT).1 x with ⟨o, h1, rfl, h3, h4⟩ | ⟨h3, h4⟩
  · rw [h3, h4, cp_s, cp_s, if_pos rfl, if_neg i10]
    have pS := pX_R hA hS
    have pT := pU_R hA hT
    refine gt_cp (x_look pS hA.2.2.1 (by omega) (by omega)) (fun S' hS' => ?_)
    obtain ⟨s1, s2, s3, s4, s5⟩ := hS'
    refine gt_cs (x_take (pX_f pS (by omega) s1) hA.2.2.1 (by omega) (by omega) s2 s4 s5) (fun v S2 h2 => ?_)
    obtain ⟨w1, w2, w3⟩ := h2
    simp only at w1 w2 w3
    refine gt_some (gt_cs (u_turnOf pT hA.2.2.1 (by omega)) (fun v' T' hT' => ?_))
    obtain ⟨t1, t2, t3⟩ := hT'
    simp only at t1 t2 t3
    exact gt_some ⟨by rw [w1, t1], RR_D hA hS hT hK (wD_tk hA.1 hA.2.2.1 o) (zD_tk hA.2.2.2.1 o) (fun q j hq => by show S2 q j = S q j; rw [w2 q j (by omega), s1 q j (by omega)]) w3 (fL_M t2) t3.2.2.2.1⟩
  · rw [h3, h4, cp_s, cp_s, if_neg i10, if_pos rfl]; exact cSS_s h
theorem st_rest {S T : gx_S} (h : RR S T) : cSS (m_ShopsAsOne_rest S) (n_rest T) := by
  obtain ⟨A, hA, hS, hT, hK⟩ := id h
  have hN := (wG_S hA.1).2
  have pS := pX_R hA hS
  have pT := pU_R hA hT
  unfold m_ShopsAsOne_rest n_rest
  refine gt_cp (x_become (r := 1) (r1 := 0) (by omega) hA.2.2.1 pS.2.2.2) (fun S2 h2 => ?_)
  obtain ⟨f2, d2⟩ := h2
  have p2 : pX 1 (qG A) (qD A) S2 := ⟨hA.1, pS.2.1, vG_f pS.2.2.1 hN (fun q j hq => f2 q j (by omega)), d2⟩
  refine gt_cs (x_settle p2 hA.2.2.1 (by omega)) (fun v S4 h4 => ?_)
  obtain ⟨e4, f4, d4⟩ := h4
  simp only at e4 f4 d4
  have f04 : fP S S4 := fun q j hq => (f4 q j (by omega) (by omega)).trans (f2 q j (by omega))
  rw [e4]
  have hR : gt (gx_cp (n_hold T) fun S2 => gx_cs (n_goOn S2) fun v5 S4 => if v5 = -1 then gx_cp (n_back S4) fun S7 => some ((-103), S7) else some (v5, S4)) fun r' => (if (ste (qG A) (qD A)).1 = -1 then r'.1 = -103 ∧ fM T r'.2 ∧ uD (qD A) r'.2 else r'.1 = (ste (qG A) (qD A)).1 ∧ fM T r'.2 ∧ uD (ste (qG A) (qD A)).2 r'.2) := by
    refine gt_cp (u_hold pT hA.2.2.1) (fun T2 h2 => ?_)
    obtain ⟨g2, hh⟩ := h2
    have m2 : fM T T2 := fun q j a1 a2 a3 a4 a5 => g2 q j (by omega) (by omega) (by omega)
    have pT2 : pU (qG A) (qD A) (-1) T2 := pU_M pT m2 pT.2.1 (fun j hj => by
      rw [g2 _ _ (by omega) (by omega) (by omega), g2 _ _ (by omega) (by omega) (by omega), g2 _ _ (by omega) (by omega) (by omega)]; exact pT.2.2.2.1 j hj)
    refine gt_cs (u_goOn pT2 hA.2.2.1) (fun v5 T4 h4 => ?_)
    obtain ⟨e5, f5, p5⟩ := h4
    simp only at e5 f5 p5
    have hh4 : hH (qD A) T4 := fun j hj => by
      rw [f5 _ _ (by omega) (by omega) (by omega) (by omega) (by omega) (by omega), f5 _ _ (by omega) (by omega) (by omega) (by omega) (by omega) (by omega), f5 _ _ (by omega) (by omega) (by omega) (by omega) (by omega) (by omega)]
      exact hh j hj
    rw [e5]
    by_cases q : (ste (qG A) (qD A)).1 = -1
    · rw [if_pos q]
      simp only [if_pos q]
      refine gt_cp (u_back hA.2.2.1 hh4) (fun T7 h7 => ?_)
      exact gt_some ⟨rfl, fun q j a1 a2 a3 a4 a5 => by show T7 q j = T q j; rw [h7.1 q j a1 a2 a3, fL_M f5 q j a1 a2 a3 a4 a5]; exact m2 q j a1 a2 a3 a4 a5, h7.2⟩
    · rw [if_neg q]
      simp only [if_neg q]
      exact gt_some ⟨rfl, fM_t m2 (fL_M f5), p5.2.2.2.1⟩
  by_cases q : (ste (qG A) (qD A)).1 = -1
  · simp only [if_pos q] at hR
    rw [if_pos q]
    exact gt_some (gt_mono hR (fun r' h' => ⟨h'.1.symm, RR_M hA hS hT hK f04 h'.2.1 h'.2.2⟩))
  · simp only [if_neg q] at hR
    rw [if_neg q]
    have hw := wD_ste hA.1 hA.2.2.1
    refine gt_cp (x_become (r := 0) (r1 := 1) (by omega) hw d4) (fun S7 h7 => ?_)
    obtain ⟨f7, d7⟩ := h7
    refine gt_some (gt_mono hR (fun r' h' => ⟨h'.1.symm, RR_D hA hS hT hK hw (zD_stl 20 0 hA.2.2.2.1) (fun q j hq => ?_) d7 h'.2.1 h'.2.2⟩))
    simp only
    rw [f7 q j (by omega)]; exact f04 q j (by omega)
theorem x_gainOf {G D S : gx_S} (p : pX 0 G D S) (hw : wD G D) {o : Nat} (ho : o < 6) : gt (m_ShopsAsOne_gainOf (nn o) S) fun t => t.1 = bG G D o - pro G D o ∧ fB S t.2 := by
  unfold m_ShopsAsOne_gainOf
  refine gt_cp (x_look p hw (by omega) ho) (fun S' h' => ?_)
  obtain ⟨s1, s2, s3, s4, s5⟩ := h'
  rw [x_profitOf (pX_f p (by omega) s1) ho, cp_s, s3]
  exact gt_some ⟨rfl, s1⟩
theorem st_gain {S T : gx_S} (h : RR S T) (x : Int32) : cSS (m_ShopsAsOne_gain x S) (n_gain x T) := by
  obtain ⟨A, hA, hS, hT, hK⟩ := id h
  have hO := (wG_O hA.1).2
  unfold m_ShopsAsOne_gain n_gain
  rcases chkO (by omega) (RS_c hA hS).1 (RT_c hA hT).1 x with ⟨o, h1, rfl, h3, h4⟩ | ⟨h3, h4⟩
  · rw [h3, h4, cp_s, cp_s, if_pos rfl, if_neg i10]
    refine gt_cs (x_gainOf (pX_R hA hS) hA.2.2.1 (by omega)) (fun v S' h' => ?_)
    refine gt_some (gt_cs (u_gainOf (pU_R hA hT) hA.2.2.1 (by omega)) (fun v' T' hT' => ?_))
    exact gt_some ⟨by have := h'.1; have := hT'.1; simp only at *; rw [h'.1, hT'.1], RR_M hA hS hT hK (fX_P (fB_X h'.2)) hT'.2.1 hT'.2.2.2.2.2.1⟩
  · rw [h3, h4, cp_s, cp_s, if_neg i10, if_pos rfl]; exact cSS_s h
theorem st_otherwise {S T : gx_S} (h : RR S T) : cSS (m_ShopsAsOne_otherwise S) (n_otherwise T) := by
  obtain ⟨A, hA, hS, hT, hK⟩ := id h
  have hO := (wG_O hA.1).2
  have pS := pX_R hA hS
  have key : gt (m_ShopsAsOne_otherwise S) fun t => t.1 = oth (qG A) (qD A) (nO (qG A)) 0 ∧ fB S t.2 := by
    unfold m_ShopsAsOne_otherwise
    refine gt_for (nO (qG A)) (fun j t => t.1 = nn j ∧ oth (qG A) (qD A) (nO (qG A) - j) j = oth (qG A) (qD A) (nO (qG A)) 0 ∧ fB S t.2) ?_ ?_ 0 5000 _ (by omega) ⟨rfl, rfl, fB_r S⟩ (by omega)
    · rintro j ⟨_, U⟩ k hj ⟨rfl, e, f⟩ hk
      simp only at e f
      simp only [m_ShopsAsOne_otherwise_2]
      have p := pX_f pS (by omega) f
      have e1 : U 1 0 = nn (nO (qG A)) := by rw [f _ _ (by omega)]; exact (RS_c hA hS).1
      simp (disch := omega) only [e1, nn_le, nn_s]
      rw [if_neg (by omega)]
      refine gt_cs (x_gainOf p hA.2.2.1 (o := j) (by omega)) (fun a V hV => ?_)
      obtain ⟨v1, v2⟩ := hV
      simp only at v1 v2
      obtain ⟨m, hm⟩ : ∃ m, nO (qG A) - j = m + 1 := ⟨nO (qG A) - j - 1, by omega⟩
      rw [hm] at e
      have e' : (if bG (qG A) (qD A) j - pro (qG A) (qD A) j ≤ 0 then oth (qG A) (qD A) m (j + 1) else nn j) = oth (qG A) (qD A) (nO (qG A)) 0 := e
      rw [v1]
      by_cases q : bG (qG A) (qD A) j - pro (qG A) (qD A) j ≤ 0
      · rw [if_pos q] at e' ⊢
        refine hk _ ⟨rfl, ?_, fB_t f v2⟩
        rw [show nO (qG A) - (j + 1) = m by omega]; exact e'
      · rw [if_neg q] at e' ⊢
        exact gt_some ⟨e', fB_t f v2⟩
    · rintro ⟨_, U⟩ k ⟨rfl, e, f⟩
      simp only at e f
      simp only [m_ShopsAsOne_otherwise_2]
      have e1 : U 1 0 = nn (nO (qG A)) := by rw [f _ _ (by omega)]; exact (RS_c hA hS).1
      simp (disch := omega) only [e1, nn_le]
      rw [if_pos (by omega)]
      rw [Nat.sub_self] at e
      exact gt_some ⟨e, f⟩
  refine gt_mono key (fun r hr => gt_mono (u_otherwise (pU_R hA hT) hA.2.2.1) (fun r' hr' => ⟨by rw [hr.1, hr'.1], RR_M hA hS hT hK (fX_P (fB_X hr.2)) hr'.2.1 hr'.2.2.2.2.2.1⟩))
theorem st_market {S T : gx_S} (h : RR S T) (x y z : Int32) : cSS (m_ShopsAsOne_market x y z S) (n_market x y z T) := by
  obtain ⟨A, hA, hS, hT, hK⟩ := id h
  have hP := (wG_P hA.1).2
  have pS := pX_R hA hS
  have pT := pU_R hA hT
  unfold m_ShopsAsOne_market n_market
  rcases chkP (by omega) (RS_c hA hS).2.1 (RT_c hA hT).2.1 x with ⟨i, h1, rfl, h3, h4⟩ | ⟨h3, h4⟩
  · rw [h3, h4, cp_s, cp_s, if_pos rfl, if_neg i10]
    rcases chkR y 1 5 S T with ⟨hb, g3, g4⟩ | ⟨g3, g4⟩
    · rw [g3, g4, cp_s, cp_s, if_pos rfl, if_neg i10]
      obtain ⟨ey, hy⟩ := bw_n (x := y) (n := 5) (by decide) ⟨by have := hb.1; lia, hb.2⟩
      rw [ey]
      generalize y.toNatClampNeg = k at hy
      rw [x_isOpen pS (by omega), u_isOpen pT (by omega), opx_m1 (by omega), cp_s, cp_s]
      simp only [ib_0]
      by_cases c : opn (qG A) (qD A) i = false
      · rw [if_pos c, if_pos c]; exact cSS_s h
      · rw [if_neg c, if_neg c]
        by_cases z0 : z = 0
        · rw [if_pos z0, if_pos z0]
          refine gt_cs (x_nearMarket pS hA.2.2.1 (by omega)) (fun v S' h' => ?_)
          refine gt_some (gt_cs (u_nearestMarket pT hA.2.2.1 h1 hy) (fun v' T' hT' => ?_))
          have e1 := h'.1
          have e2 := hT'.1
          simp only at e1 e2
          exact gt_some ⟨by rw [e1, e2], RR_M hA hS hT hK (fX_P h'.2) hT'.2.1 hT'.2.2.2.2.2.1⟩
        · rw [if_neg z0, if_neg z0]
          refine gt_cs (x_leastMarket pS hA.2.2.1 (by omega)) (fun v S' h' => ?_)
          refine gt_some (gt_cs (u_leastMarket pT hA.2.2.1 (by omega) hy) (fun v' T' hT' => ?_))
          exact gt_some ⟨lsm_u h'.1 hT'.1, RR_M hA hS hT hK (fX_P h'.2) hT'.2.1 hT'.2.2.2.2.2.1⟩
    · rw [g3, g4, cp_s, cp_s, if_neg i10, if_pos rfl]; exact cSS_s h
  · rw [h3, h4, cp_s, cp_s, if_neg i10, if_pos rfl]; exact cSS_s h
theorem st_merge {S T : gx_S} (h : RR S T) (x y : Int32) : cSS (m_ShopsAsOne_merge x y S) (n_merge x y T) := by
  obtain ⟨A, hA, hS, hT, hK⟩ := id h
  have hO := (wG_O hA.1).2
  have pS := pX_R hA hS
  have pT := pU_R hA hT
  unfold m_ShopsAsOne_merge n_merge
  rcases chkTwo (by omega) (RS_c hA hS).1 (RT_c hA hT).1 x y with ⟨a, b, h1, h2, hab, rfl, rfl, h3, h4⟩ | ⟨h3, h4⟩
  · rw [h3, h4, cp_s, cp_s, if_pos rfl, if_neg i10]
    rcases chkM pS pT a b with ⟨c3, g3, g4⟩ | ⟨_, g3, g4⟩
    · rw [g3, g4, cp_s, cp_s, if_pos rfl, if_neg i10]
      have hw := wD_gv hA.2.2.1 hO h1 h2 hab c3
      refine gt_cp (x_give pS (by omega) a b) (fun S' h' => ?_)
      obtain ⟨f, d⟩ := h'
      have pS' : pX 0 (qG A) (gv (qG A) (qD A) a b) S' := ⟨hA.1, wD_0 hw, vG_f pS.2.2.1 (wG_S hA.1).2 (fun q j hq => f q j (by omega)), d⟩
      rw [x_shopsOf pS', cp_s]
      refine gt_some (gt_cp (u_mergeNow pT a b) (fun T' hT' => ?_))
      obtain ⟨g, e⟩ := hT'
      have mT : fM T T' := fun q j a1 a2 a3 a4 a5 => g q j a2
      have dT : uD (gv (qG A) (qD A) a b) T' := fun j hj => by
        obtain ⟨a1, a2, a3⟩ := hT.2.1 j hj
        refine ⟨?_, e j hj, ?_⟩
        · rw [g _ _ (by omega), a1]; simp [gv]
        · rw [g _ _ (by omega), a3]; simp [gv]
      rw [u_shopsOf (pU_M pT mT (wD_0 hw) dT), cp_s]
      exact gt_some ⟨rfl, RR_D hA hS hT hK hw (zD_gv hA.2.2.2.1 a b) (fun q j hq => f q j (by omega)) d mT dT⟩
    · rw [g3, g4, cp_s, cp_s, if_neg i10, if_pos rfl]; exact cSS_s h
  · rw [h3, h4, cp_s, cp_s, if_neg i10, if_pos rfl]; exact cSS_s h

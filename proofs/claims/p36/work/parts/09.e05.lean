/-! e05: the class's calls over a street and a standing that are told -/
def KX (G D S : gx_S) : Prop := ∃ A T, RA A ∧ RS A S ∧ RT A T ∧ RK (qG A) S T ∧ qG A = G ∧ qD A = D
theorem KX_p {G D S : gx_S} (h : KX G D S) : pX 0 G D S := by
  obtain ⟨A, T, hA, hS, hT, hK, rfl, rfl⟩ := h
  exact pX_R hA hS
theorem KX_w {G D S : gx_S} (h : KX G D S) : wG G ∧ wD G D ∧ zD G D := by
  obtain ⟨A, T, hA, hS, hT, hK, rfl, rfl⟩ := h
  exact ⟨hA.1, hA.2.2.1, hA.2.2.2.1⟩
theorem KX_f {G D S S' : gx_S} (h : KX G D S) (f : fP S S') : KX G D S' := by
  obtain ⟨A, T, hA, hS, hT, hK, rfl, rfl⟩ := h
  exact ⟨A, T, hA, RS_P hA.1 hA.2.2.2.2.1 hS f, hT, RK_f hK (fun q j h => f q j (by omega)) (fun _ _ _ => rfl), rfl, rfl⟩
theorem KX_D {G D D' S S' : gx_S} (h : KX G D S) (hw : wD G D') (hz : zD G D') (f : ∀ q j, (q < 22 ∨ (28 < q ∧ q < 33) ∨ (65 < q ∧ q < 76)) → S' q j = S q j) (hd : vD 0 D' S') : KX G D' S' := by
  obtain ⟨A, T, hA, hS, hT, hK, rfl, rfl⟩ := h
  obtain ⟨T', hT'⟩ : ∃ T' : gx_S, T' = fun q j => if q = 7 ∧ j < 6 then D' 1 j else if q = 4 ∧ j < 6 then D' 2 j else if q = 3 ∧ j < 6 then D' 3 j else T q j := ⟨_, rfl⟩
  have g : fM T T' := fun q j a1 a2 a3 _ _ => by
    rw [hT']
    simp only
    rw [if_neg (fun z => a3 z.1), if_neg (fun z => a2 z.1), if_neg (fun z => a1 z.1)]
  have u : uD D' T' := fun j hj => by
    rw [hT']
    simp only
    refine ⟨if_pos ⟨trivial, hj⟩, ?_, ?_⟩
    · rw [if_neg (fun z => absurd z.1 (by omega)), if_pos ⟨trivial, hj⟩]
    · rw [if_neg (fun z => absurd z.1 (by omega)), if_neg (fun z => absurd z.1 (by omega)), if_pos ⟨trivial, hj⟩]
  exact ⟨(qG A, D', A.2.2), T', ⟨hA.1, hA.2.1, hw, hz, hA.2.2.2.2⟩, RS_D hA.1 hA.2.2.2.2.1 hS f hd, RT_M hT g u, RK_f hK (fun q j h => f q j (by omega)) (fun q j h => g q j (by omega) (by omega) (by omega) (by omega) (by omega)), rfl, rfl⟩
theorem KX_c {G D S : gx_S} (h : KX G D S) : S 1 0 = nn (nO G) ∧ S 1 1 = nn (nP G) ∧ S 1 2 = nn (nS G) := by
  obtain ⟨A, T, hA, hS, hT, hK, rfl, rfl⟩ := h
  exact RS_c hA hS
theorem y_not (x a b : Int32) (S : gx_S) : m_ShopsAsOne_isNot x a b S = some (if x < a then 1 else if x ≤ b then 0 else 1) := by
  unfold m_ShopsAsOne_isNot m_ShopsAsOne_isNot_10
  split
  · rfl
  · split <;> rfl
theorem y_in {n k : Nat} (hn : n < 1000) (hk : k < n) (S : gx_S) : m_ShopsAsOne_isNot (nn k) 0 (nn n - 1) S = some 0 := by
  rw [y_not, nn_p (by omega), nn_0, if_neg (by rw [nn_lt (by omega) (by omega)]; omega), if_pos (by rw [nn_le (by omega) (by omega)]; omega)]
theorem y_out {n : Nat} (hn : n < 1000) (S : gx_S) : m_ShopsAsOne_isNot (nn n) 0 (nn n - 1) S = some 1 := by
  rw [y_not]
  by_cases z : n = 0
  · subst z
    rw [if_neg (by decide), if_neg (by decide)]
  · rw [nn_p (by omega), nn_0, if_neg (by rw [nn_lt (by omega) (by omega)]; omega), if_neg (by rw [nn_le (by omega) (by omega)]; omega)]
theorem y_low (b : Int32) (S : gx_S) : m_ShopsAsOne_isNot (-1) 0 b S = some 1 := by
  rw [y_not, if_pos (by decide)]
section YY
variable {G D S : gx_S}
theorem y_P (h : KX G D S) {k : Nat} (hk : k < nP G) : m_ShopsAsOne_isNoShop (nn k) S = some 0 := by
  have := (wG_P (KX_w h).1).2
  unfold m_ShopsAsOne_isNoShop
  rw [(KX_c h).2.1, y_in (by omega) hk, cp_s]
  exact bz_0
theorem y_P1 (h : KX G D S) : m_ShopsAsOne_isNoShop (nn (nP G)) S = some 1 := by
  have := (wG_P (KX_w h).1).2
  unfold m_ShopsAsOne_isNoShop
  rw [(KX_c h).2.1, y_out (by omega), cp_s]
  exact bz_1
theorem y_O (h : KX G D S) {k : Nat} (hk : k < nO G) : m_ShopsAsOne_isNoOwner (nn k) S = some 0 := by
  have := (wG_O (KX_w h).1).2
  unfold m_ShopsAsOne_isNoOwner
  rw [(KX_c h).1, y_in (by omega) hk, cp_s]
  exact bz_0
theorem y_O1 (h : KX G D S) : m_ShopsAsOne_isNoOwner (nn (nO G)) S = some 1 := by
  have := (wG_O (KX_w h).1).2
  unfold m_ShopsAsOne_isNoOwner
  rw [(KX_c h).1, y_out (by omega), cp_s]
  exact bz_1
theorem y_S (h : KX G D S) {k : Nat} (hk : k < nS G) : m_ShopsAsOne_isNoSort (nn k) S = some 0 := by
  have := (wG_S (KX_w h).1).2
  unfold m_ShopsAsOne_isNoSort
  rw [(KX_c h).2.2, y_in (by omega) hk, cp_s]
  exact bz_0
theorem y_S1 (h : KX G D S) : m_ShopsAsOne_isNoSort (nn (nS G)) S = some 1 := by
  have := (wG_S (KX_w h).1).2
  unfold m_ShopsAsOne_isNoSort
  rw [(KX_c h).2.2, y_out (by omega), cp_s]
  exact bz_1
theorem y_Sm : m_ShopsAsOne_isNoSort (-1) S = some 1 := by
  unfold m_ShopsAsOne_isNoSort
  rw [y_low, cp_s]
  exact bz_1
theorem y_is (h : KX G D S) {s k : Nat} (hs : s < nS G) (hk : k < nP G) : m_ShopsAsOne_is (nn s) (nn k) S = some (isv G D s k) := by
  unfold m_ShopsAsOne_is
  rw [y_S h hs, cp_s, if_pos rfl, y_P h hk, cp_s, if_pos rfl, x_whatIs (KX_p h) hs hk, cp_s]
theorem y_is1 (h : KX G D S) : m_ShopsAsOne_is (nn (nS G)) 0 S = some (-1001) := by
  unfold m_ShopsAsOne_is m_ShopsAsOne_is_16
  rw [y_S1 h, cp_s, if_neg i10]
theorem y_goes (h : KX G D S) {s : Nat} (hs : s < nS G) : m_ShopsAsOne_goes (nn s) S = some (cho G D s (-1)) := by
  unfold m_ShopsAsOne_goes
  rw [y_S h hs, cp_s, if_pos rfl, x_choice (KX_p h) hs, cp_s]
theorem y_goes1 (h : KX G D S) : m_ShopsAsOne_goes (nn (nS G)) S = some (-101) := by
  unfold m_ShopsAsOne_goes
  rw [y_S1 h, cp_s, if_neg i10]
theorem y_spare (h : KX G D S) {s : Nat} (hs : s < nS G) : m_ShopsAsOne_spare (nn s) S = some (spa G D s) := by
  unfold m_ShopsAsOne_spare
  rw [y_S h hs, cp_s, if_pos rfl, x_spareOf (KX_p h) hs, cp_s]
theorem y_spare1 : m_ShopsAsOne_spare (-1) S = some (-101) := by
  unfold m_ShopsAsOne_spare
  rw [y_Sm, cp_s, if_neg i10]
theorem y_profit (h : KX G D S) {o : Nat} (ho : o < nO G) : m_ShopsAsOne_profit (nn o) S = some (pro G D o) := by
  have := (wG_O (KX_w h).1).2
  unfold m_ShopsAsOne_profit
  rw [y_O h ho, cp_s, if_pos rfl, x_profitOf (KX_p h) (by omega), cp_s]
theorem y_profit1 (h : KX G D S) : m_ShopsAsOne_profit (nn (nO G)) S = some (-1000001) := by
  unfold m_ShopsAsOne_profit
  rw [y_O1 h, cp_s, if_neg i10]
theorem y_about (h : KX G D S) {k : Nat} (hk : k < nP G) (y : Int32) : m_ShopsAsOne_about (nn k) y S = some (if 0 ≤ y ∧ y ≤ 5 then (if y = 0 then D 2 k else if y = 1 then G 4 k else if y = 2 then G 5 k else if y = 3 then D 1 k else if y = 4 then ib (opn G D k) else sl G D k) else -102) := x_about (KX_p h) hk y (y_P h hk)
theorem y_about1 (h : KX G D S) : m_ShopsAsOne_about (nn (nP G)) 0 S = some (-101) := by
  unfold m_ShopsAsOne_about
  rw [y_P1 h, cp_s, if_neg i10]
theorem y_instead (h : KX G D S) {s k : Nat} (hs : s < nS G) (hk : k < nP G) : m_ShopsAsOne_instead (nn s) (nn k) S = some (cho G D s (nn k)) := by
  unfold m_ShopsAsOne_instead
  rw [y_S h hs, cp_s, if_pos rfl, y_P h hk, cp_s, if_pos rfl, x_choice (KX_p h) hs, cp_s]
theorem y_instead1 (h : KX G D S) : m_ShopsAsOne_instead (nn (nS G)) 0 S = some (-101) := by
  unfold m_ShopsAsOne_instead m_ShopsAsOne_instead_16
  rw [y_S1 h, cp_s, if_neg i10]
theorem y_from (h : KX G D S) {a b : Nat} (ha : a < nP G) (hb : b < nP G) : m_ShopsAsOne_from (nn a) (nn b) S = some (if a = b then -101 else fro G D a b) := by
  have := (wG_P (KX_w h).1).2
  unfold m_ShopsAsOne_from
  rw [y_P h ha, cp_s, if_pos rfl, y_P h hb, cp_s, if_pos rfl, x_from (KX_p h)]
  by_cases z : a = b
  · rw [if_pos (by rw [z]), if_pos z]
  · rw [if_neg (by rw [nn_eq (by omega) (by omega)]; exact z), if_neg z]
theorem y_from1 (h : KX G D S) : m_ShopsAsOne_from 0 (nn (nP G)) S = some (-101) := by
  unfold m_ShopsAsOne_from
  by_cases z : nP G = 0
  · have := y_P1 h
    rw [z] at this
    have p0 : m_ShopsAsOne_isNoShop 0 S = some 1 := this
    rw [p0, cp_s, if_neg i10]
  · have p0 : m_ShopsAsOne_isNoShop 0 S = some 0 := y_P h (k := 0) (by omega)
    rw [p0, cp_s, if_pos rfl, y_P1 h, cp_s, if_neg i10]
theorem y_count (h : KX G D S) : m_ShopsAsOne_count 5 S = some (all G D) := by
  have hG := (KX_w h).1
  have hP := (wG_P hG).2
  have so : tot G D (gSo (-1)) = all G D := by
    have hb : ∀ k, k < 6 → gSo (-1) k = 1 := by
      intro k hk
      have : ∀ k, k < 6 → bi (-1) k = 1 := by unfold bi; decide +kernel
      unfold gSo
      rw [if_pos (this k hk)]
    unfold tot all
    refine sm_cg (fun s hs => ?_)
    rw [sx_d]
    rcases cho_n G D s (-1) with e | ⟨i, hi, e, _⟩
    · rw [if_pos e, if_pos e]
    · rw [e, if_neg (nn_m1 (by omega)), if_neg (nn_m1 (by omega)), nn_c (by omega), hb i (by omega), Int32.mul_one]
  unfold m_ShopsAsOne_count
  rw [if_neg (by decide), if_neg (by decide), if_neg (by decide), if_neg (by decide), if_neg (by decide), if_pos rfl, x_soldBy (KX_p h), cp_s, so]
theorem y_gain (h : KX G D S) {o : Nat} (ho : o < nO G) : gt (m_ShopsAsOne_gain (nn o) S) fun t => t.1 = bG G D o - pro G D o ∧ KX G D t.2 := by
  have hO := (wG_O (KX_w h).1).2
  unfold m_ShopsAsOne_gain
  rw [y_O h ho, cp_s, if_pos rfl]
  refine gt_cs (x_gainOf (KX_p h) (KX_w h).2.1 (by omega)) (fun v S' h' => gt_some ⟨h'.1, KX_f h (fX_P (fB_X h'.2))⟩)
theorem y_gain1 (h : KX G D S) : m_ShopsAsOne_gain (nn (nO G)) S = some (-1000001, S) := by
  unfold m_ShopsAsOne_gain
  rw [y_O1 h, cp_s, if_neg i10]
theorem y_look (h : KX G D S) {k : Nat} (hk : k < nP G) : wh D k < nO G ∧ wh D k < 6 ∧ S 23 k = nn (wh D k) ∧ ow D (wh D k) k = true := by
  have hP := (wG_P (KX_w h).1).2
  have hO := (wG_O (KX_w h).1).2
  obtain ⟨ew, hw6⟩ := w0_w (wD_0 (KX_w h).2.1) (j := k) (by omega)
  refine ⟨(KX_w h).2.1.2.1 k hk, hw6, ?_, ?_⟩
  · rw [← ew]; exact (KX_p h).2.2.2 2 k (by omega) (by omega) (by omega)
  · unfold ow; rw [decide_eq_true_eq]; exact ew
theorem y_best (h : KX G D S) {k : Nat} (hk : k < nP G) : gt (m_ShopsAsOne_best (nn k) 0 S) fun t => t.1 = bP G D (wh D k) k ∧ KX G D t.2 := by
  have hP := (wG_P (KX_w h).1).2
  obtain ⟨h1, h2, h3, h4⟩ := y_look h hk
  unfold m_ShopsAsOne_best
  rw [y_P h hk, cp_s, if_pos rfl, y_not, if_neg (by decide), if_pos (by decide), cp_s, if_pos rfl, ck_n (by omega) (by omega), nn_c (by omega), h3]
  refine gt_cp (x_look (KX_p h) (KX_w h).2.1 (by omega) h2) (fun S' hS' => ?_)
  obtain ⟨s1, s2, s3, s4, s5⟩ := hS'
  rw [if_pos rfl, x_priceOf s2 s5 ((KX_w h).2.1.2.2 _ h2) hk hP h4, cp_s]
  exact gt_some ⟨rfl, KX_f h (fX_P (fB_X s1))⟩
theorem y_best_in (h : KX G D S) {k : Nat} (hk : k < nP G) : gt (m_ShopsAsOne_best (nn k) 1 S) fun t => t.1 = ib (opn G (tk G D (wh D k)) k) ∧ KX G D t.2 := by
  have hP := (wG_P (KX_w h).1).2
  obtain ⟨h1, h2, h3, h4⟩ := y_look h hk
  unfold m_ShopsAsOne_best m_ShopsAsOne_best_81
  rw [y_P h hk, cp_s, if_pos rfl, y_not, if_neg (by decide), if_pos (by decide), cp_s, if_pos rfl, ck_n (by omega) (by omega), nn_c (by omega), h3]
  refine gt_cp (x_look (KX_p h) (KX_w h).2.1 (by omega) h2) (fun S' hS' => ?_)
  obtain ⟨s1, s2, s3, s4, s5⟩ := hS'
  have kx := KX_f h (fX_P (fB_X s1))
  have e2 : S' 2 (wh D k) = G 2 (wh D k) := by rw [s1 _ _ (by omega)]; exact (KX_p h).2.2.1.1 _ _ (by omega) (by omega)
  rw [if_neg i10, ck_n (by omega) (by omega), nn_c (by omega), e2, s4]
  have eo : opn G (tk G D (wh D k)) k = !(decide (G 2 (wh D k) = 4) && decide (bI G D (wh D k) = 0)) := by
    have e : wh (tk G D (wh D k)) k = wh D k := by
      show (tk G D (wh D k) 2 k).toNatClampNeg = _
      rw [tk_2]; rfl
    unfold opn
    rw [e, tk_3, if_pos rfl]
  rw [eo]
  by_cases q4 : G 2 (wh D k) = 4
  · rw [if_pos q4]
    by_cases b0 : bI G D (wh D k) = 0
    · rw [if_pos b0]; exact gt_some ⟨by simp [q4, b0, ib], kx⟩
    · rw [if_neg b0]; exact gt_some ⟨by simp [b0, ib], kx⟩
  · rw [if_neg q4]; exact gt_some ⟨by simp [q4, ib], kx⟩
theorem y_best2 (h : KX G D S) {k : Nat} (hk : k < nP G) : m_ShopsAsOne_best (nn k) 2 S = some (-102, S) := by
  unfold m_ShopsAsOne_best
  rw [y_P h hk, cp_s, if_pos rfl, y_not, if_neg (by decide), if_neg (by decide), cp_s, if_neg i10]
theorem y_best1 (h : KX G D S) : m_ShopsAsOne_best (nn (nP G)) 0 S = some (-101, S) := by
  unfold m_ShopsAsOne_best
  rw [y_P1 h, cp_s, if_neg i10]
theorem y_turn (h : KX G D S) {o : Nat} (ho : o < nO G) : gt (m_ShopsAsOne_turn (nn o) S) fun t => t.1 = nch G D o ∧ KX G (tk G D o) t.2 := by
  have hO := (wG_O (KX_w h).1).2
  obtain ⟨hG, hw, hz⟩ := KX_w h
  unfold m_ShopsAsOne_turn
  rw [y_O h ho, cp_s, if_pos rfl]
  refine gt_cp (x_look (KX_p h) hw (by omega) (by omega)) (fun S' hS' => ?_)
  obtain ⟨s1, s2, s3, s4, s5⟩ := hS'
  refine gt_cs (x_take (pX_f (KX_p h) (by omega) s1) hw (by omega) (by omega) s2 s4 s5) (fun v S2 h2 => ?_)
  obtain ⟨w1, w2, w3⟩ := h2
  simp only at w1 w2 w3
  exact gt_some ⟨w1, KX_D h (wD_tk hG hw o) (zD_tk hz o) (fun q j hq => by show S2 q j = S q j; rw [w2 q j (by omega), s1 q j (by omega)]) w3⟩
theorem y_turn1 (h : KX G D S) : m_ShopsAsOne_turn (nn (nO G)) S = some (-101, S) := by
  unfold m_ShopsAsOne_turn
  rw [y_O1 h, cp_s, if_neg i10]
theorem y_rest (h : KX G D S) : gt (m_ShopsAsOne_rest S) fun t => ((ste G D).1 = -1 → t.1 = -103 ∧ KX G D t.2) ∧ (¬ (ste G D).1 = -1 → t.1 = (ste G D).1 ∧ KX G (ste G D).2 t.2) := by
  obtain ⟨hG, hw, hz⟩ := KX_w h
  have hN := (wG_S hG).2
  have pS := KX_p h
  unfold m_ShopsAsOne_rest
  refine gt_cp (x_become (r := 1) (r1 := 0) (by omega) hw pS.2.2.2) (fun S2 h2 => ?_)
  obtain ⟨f2, d2⟩ := h2
  have p2 : pX 1 G D S2 := ⟨hG, pS.2.1, vG_f pS.2.2.1 hN (fun q j hq => f2 q j (by omega)), d2⟩
  refine gt_cs (x_settle p2 hw (by omega)) (fun v S4 h4 => ?_)
  obtain ⟨e4, f4, d4⟩ := h4
  simp only at e4 f4 d4
  have f04 : fP S S4 := fun q j hq => (f4 q j (by omega) (by omega)).trans (f2 q j (by omega))
  rw [e4]
  by_cases q : (ste G D).1 = -1
  · rw [if_pos q]
    exact gt_some ⟨fun _ => ⟨rfl, KX_f h f04⟩, fun z => absurd q z⟩
  · rw [if_neg q]
    have hws := wD_ste hG hw
    refine gt_cp (x_become (r := 0) (r1 := 1) (by omega) hws d4) (fun S7 h7 => ?_)
    obtain ⟨f7, d7⟩ := h7
    refine gt_some ⟨fun z => absurd z q, fun _ => ⟨rfl, KX_D h hws (zD_stl 20 0 hz) (fun q j hq => ?_) d7⟩⟩
    simp only
    rw [f7 q j (by omega)]; exact f04 q j (by omega)
theorem y_otherwise (h : KX G D S) : gt (m_ShopsAsOne_otherwise S) fun t => t.1 = oth G D (nO G) 0 ∧ KX G D t.2 := by
  obtain ⟨hG, hw, hz⟩ := KX_w h
  have hO := (wG_O hG).2
  have pS := KX_p h
  have key : gt (m_ShopsAsOne_otherwise S) fun t => t.1 = oth G D (nO G) 0 ∧ fB S t.2 := by
    unfold m_ShopsAsOne_otherwise
    refine gt_for (nO G) (fun j t => t.1 = nn j ∧ oth G D (nO G - j) j = oth G D (nO G) 0 ∧ fB S t.2) ?_ ?_ 0 5000 _ (by omega) ⟨rfl, rfl, fB_r S⟩ (by omega)
    · rintro j ⟨_, U⟩ k hj ⟨rfl, e, f⟩ hk
      simp only at e f
      simp only [m_ShopsAsOne_otherwise_2]
      have p := pX_f pS (by omega) f
      have e1 : U 1 0 = nn (nO G) := by rw [f _ _ (by omega)]; exact (KX_c h).1
      simp (disch := omega) only [e1, nn_le, nn_s]
      rw [if_neg (by omega)]
      refine gt_cs (x_gainOf p hw (o := j) (by omega)) (fun a V hV => ?_)
      obtain ⟨v1, v2⟩ := hV
      simp only at v1 v2
      obtain ⟨m, hm⟩ : ∃ m, nO G - j = m + 1 := ⟨nO G - j - 1, by omega⟩
      rw [hm] at e
      have e' : (if bG G D j - pro G D j ≤ 0 then oth G D m (j + 1) else nn j) = oth G D (nO G) 0 := e
      rw [v1]
      by_cases q : bG G D j - pro G D j ≤ 0
      · rw [if_pos q] at e' ⊢
        refine hk _ ⟨rfl, ?_, fB_t f v2⟩
        rw [show nO G - (j + 1) = m by omega]; exact e'
      · rw [if_neg q] at e' ⊢
        exact gt_some ⟨e', fB_t f v2⟩
    · rintro ⟨_, U⟩ k ⟨rfl, e, f⟩
      simp only at e f
      simp only [m_ShopsAsOne_otherwise_2]
      have e1 : U 1 0 = nn (nO G) := by rw [f _ _ (by omega)]; exact (KX_c h).1
      simp (disch := omega) only [e1, nn_le]
      rw [if_pos (by omega)]
      rw [Nat.sub_self] at e
      exact gt_some ⟨e, f⟩
  exact gt_mono key (fun r hr => ⟨hr.1, KX_f h (fX_P (fB_X hr.2))⟩)
/-- a price told -/
def dp (D : gx_S) (k : Nat) (v : Int32) : gx_S := fun i j => if i = 1 ∧ j = k then v else D i j
theorem dp_1 (D : gx_S) (k : Nat) (v : Int32) (j : Nat) : dp D k v 1 j = if j = k then v else D 1 j := by simp [dp]
theorem dp_2 (D : gx_S) (k : Nat) (v : Int32) (j : Nat) : dp D k v 2 j = D 2 j := by simp [dp]
theorem dp_3 (D : gx_S) (k : Nat) (v : Int32) (j : Nat) : dp D k v 3 j = D 3 j := by simp [dp]
theorem wD_dp (hw : wD G D) {k : Nat} {v : Int32} (hv : bw v 0 9) : wD G (dp D k v) := by
  refine ⟨fun j hj => ⟨?_, ?_, ?_⟩, fun j hj => ?_, fun o ho => ?_⟩
  · rw [dp_1]; split
    · exact hv
    · exact (hw.1 j hj).1
  · rw [dp_2]; exact (hw.1 j hj).2.1
  · rw [dp_3]; exact (hw.1 j hj).2.2
  · unfold wh; rw [dp_2]; exact hw.2.1 j hj
  · have : cnt G (dp D k v) o = cnt G D o := cn_cg (fun j _ => by unfold ow; rw [dp_2])
    rw [this]; exact hw.2.2 o ho
theorem y_price (h : KX G D S) {k : Nat} (hk : k < nP G) {v : Int32} (hv : bw v 0 9) : gt (m_ShopsAsOne_price (nn k) v S) fun t => t.1 = D 1 k ∧ KX G (dp D k v) t.2 := by
  obtain ⟨hG, hw, hz⟩ := KX_w h
  have hP := (wG_P hG).2
  have e1 : S 22 k = D 1 k := (KX_p h).2.2.2 1 k (by omega) (by omega) (by omega)
  unfold m_ShopsAsOne_price
  rw [y_P h hk, cp_s, if_pos rfl, y_not, if_neg (by have := hv.1; lia), if_pos hv.2, cp_s, if_pos rfl]
  simp (disch := omega) only [ck_n, nn_c, e1, let_s]
  refine gt_some ⟨rfl, KX_D h (wD_dp hw hv) (fun j hj hn => ?_) (fun q j hq => gx_st_q _ _ _ _ (by omega)) (fun i j a b c => ?_)⟩
  · rw [dp_1, dp_2, if_neg (by omega)]; exact hz j hj hn
  · match i, a, b with
    | 1, _, _ =>
      show gx_st S 22 k v 22 j = _
      rw [dp_1]
      by_cases z : j = k
      · subst z; rw [gx_st_eq, if_pos rfl]
      · rw [gx_st_j _ _ _ z, if_neg z]; exact (KX_p h).2.2.2 1 j (by omega) (by omega) c
    | 2, _, _ =>
      show gx_st S 22 k v 23 j = _
      rw [dp_2, gx_st_q _ _ _ _ (by omega)]; exact (KX_p h).2.2.2 2 j (by omega) (by omega) c
    | 3, _, _ =>
      show gx_st S 22 k v 24 j = _
      rw [dp_3, gx_st_q _ _ _ _ (by omega)]; exact (KX_p h).2.2.2 3 j (by omega) (by omega) c
theorem y_price1 (h : KX G D S) : m_ShopsAsOne_price (nn (nP G)) 0 S = some (-101, S) := by
  unfold m_ShopsAsOne_price
  rw [y_P1 h, cp_s, if_neg i10]
end YY

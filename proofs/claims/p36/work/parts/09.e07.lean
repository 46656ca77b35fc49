/-! e07: the law's end: prices at rest, who would come over, refusals -/
theorem LX_cg {G D R R' : gx_S} (h : LX G D R) (h0 : ∀ j, j < 45 → R' 0 j = R 0 j) (h1 : R' 1 = R 1) : LX G D R' := by
  have hP := (wG_P h.1).2
  have hO := (wG_O h.1).2
  refine ⟨h.1, h.2.1, ⟨?_, ?_, ?_⟩, fun u hu => ⟨?_, ?_, ?_⟩, fun k hk => ⟨?_, ?_, ?_, ?_⟩, fun s i hs hi => ?_⟩
  · rw [h0 _ (by omega)]; exact h.2.2.1.1
  · rw [h0 _ (by omega)]; exact h.2.2.1.2.1
  · rw [h0 _ (by omega)]; exact h.2.2.1.2.2
  · rw [h0 _ (by omega)]; exact (h.2.2.2.1 u hu).1
  · rw [h0 _ (by omega)]; exact (h.2.2.2.1 u hu).2.1
  · rw [h0 _ (by omega)]; exact (h.2.2.2.1 u hu).2.2
  · rw [h0 _ (by omega)]; exact (h.2.2.2.2.1 k hk).1
  · rw [h0 _ (by omega)]; exact (h.2.2.2.2.1 k hk).2.1
  · rw [h0 _ (by omega)]; exact (h.2.2.2.2.1 k hk).2.2.1
  · rw [h0 _ (by omega)]; exact (h.2.2.2.2.1 k hk).2.2.2
  · rw [h1]; exact h.2.2.2.2.2 s i hs hi
/-- the row of one, the sorts of another -/
theorem LX_T1 {G D D' R R' : gx_S} (h : LX G D R) (h' : LX G D' R') : LX G D (gy_T1 R R') :=
  ⟨h.1, h.2.1, h.2.2.1, h.2.2.2.1, h.2.2.2.2.1, h'.2.2.2.2.2⟩
theorem ya_0 {G D S : gx_S} (h : KX G D S) {k : Nat} (hk : k < nP G) : m_ShopsAsOne_about (nn k) 0 S = some (D 2 k) := by
  rw [y_about h hk, if_pos (by decide), if_pos rfl]
theorem ya_1 {G D S : gx_S} (h : KX G D S) {k : Nat} (hk : k < nP G) : m_ShopsAsOne_about (nn k) 1 S = some (G 4 k) := by
  rw [y_about h hk, if_pos (by decide), if_neg (by decide), if_pos rfl]
theorem ya_2 {G D S : gx_S} (h : KX G D S) {k : Nat} (hk : k < nP G) : m_ShopsAsOne_about (nn k) 2 S = some (G 5 k) := by
  rw [y_about h hk, if_pos (by decide), if_neg (by decide), if_neg (by decide), if_pos rfl]
theorem ya_3 {G D S : gx_S} (h : KX G D S) {k : Nat} (hk : k < nP G) : m_ShopsAsOne_about (nn k) 3 S = some (D 1 k) := by
  rw [y_about h hk, if_pos (by decide), if_neg (by decide), if_neg (by decide), if_neg (by decide), if_pos rfl]
theorem ya_4 {G D S : gx_S} (h : KX G D S) {k : Nat} (hk : k < nP G) : m_ShopsAsOne_about (nn k) 4 S = some (ib (opn G D k)) := by
  rw [y_about h hk, if_pos (by decide), if_neg (by decide), if_neg (by decide), if_neg (by decide), if_neg (by decide), if_pos rfl]
theorem ya_5 {G D S : gx_S} (h : KX G D S) {k : Nat} (hk : k < nP G) : m_ShopsAsOne_about (nn k) 5 S = some (sl G D k) := by
  rw [y_about h hk, if_pos (by decide), if_neg (by decide), if_neg (by decide), if_neg (by decide), if_neg (by decide), if_neg (by decide)]
theorem ib_1 (b : Bool) (h : ¬ ib b = 0) : ib b = 1 := by cases b <;> first | rfl | exact absurd rfl h
theorem f_773 {G D S T : gx_S} (hS : KX G D S) (hT : LX G D T) {a b c : Nat} (ha : a < nP G) (hb : b < nP G) {xs : Nat → Int32} {L : Nat} {k693 k759 : Int32 × gx_S × gx_S × Nat → Option Unit} {P : Unit → Prop} (hk : gt (k759 (nn (b + 1), S, T, c)) P) : gt (gx_loop (ml_773 xs L k693 k759 (nn a) (nn b)) 5000 (0, 0, S, T, c)) P := by
  have hP := (wG_P hT.1).2
  have hn := (wG_S hT.1).2
  have er : T 0 2 = nn (nS G) := hT.2.2.1.2.2
  refine gt_for (nS G) (fun s t => t.1 = sm (fun s => if cho G D s (-1) = nn a ∧ cho G D s (nn a) = nn b then G 7 s else 0) s ∧ t.2 = (nn s, S, T, c)) ?_ ?_ 0 5000 _ (by omega) ⟨rfl, rfl⟩ (by omega)
  · rintro s ⟨x, _, _, _, _⟩ kk hs ⟨ex, e⟩ hkk
    simp only at ex e
    cases e
    have t1 : T 1 (6 * s + 1) = G 7 s := hT.2.2.2.2.2 s 1 hs (by omega)
    simp only [ml_773, ml_822, ml_823, jk_2, jl_2]
    simp (disch := omega) only [er, nn_le, l_goes hT hs, cp_s, jm_6, jb_1, ck_n, nn_c, t1]
    rw [if_neg (by omega)]
    have nx : ∀ y, y = (if cho G D s (-1) = nn a ∧ cho G D s (nn a) = nn b then G 7 s else 0) → gt (kk (x + y, nn (s + 1), S, T, c)) P := fun y hy => by
      refine hkk _ ⟨?_, rfl⟩
      simp only
      rw [ex, hy]; rfl
    by_cases z : cho G D s (-1) = nn a
    · rw [if_pos z]
      by_cases y : cho G D s (nn a) = nn b
      · rw [if_pos y]; exact nx _ (by rw [if_pos ⟨z, y⟩])
      · rw [if_neg y]; exact nx _ (by rw [if_neg (fun w => y w.2)])
    · rw [if_neg z]; exact nx _ (by rw [if_neg (fun w => z w.1)])
  · rintro ⟨x, _, _, _, _⟩ kk ⟨ex, e⟩
    simp only at ex e
    cases e
    simp only [ml_773, ml_854, jk_2, jl_2]
    simp (disch := omega) only [er, nn_le, y_from hS ha hb, cp_s, nn_eq, jb_1]
    rw [if_pos (by omega)]
    by_cases z : b = a
    · rw [if_pos z, if_pos (by rw [if_pos z.symm])]; exact hk
    · rw [if_neg z, if_pos (by rw [if_neg (fun w => z w.symm)]; exact ex.symm)]; exact hk
theorem f_693 {G D : gx_S} {xs : Nat → Int32} {L : Nat} (S T : gx_S) (c : Nat) (hS : KX G D S) (hT : LX G D T) : gt (ml_690 xs L S T c) fun _ => True := by
  have hP := (wG_P hT.1).2
  have r0 : T 0 0 = nn (nO G) := hT.2.2.1.1
  have r1 : T 0 1 = nn (nP G) := hT.2.2.1.2.1
  have r2 : T 0 2 = nn (nS G) := hT.2.2.1.2.2
  unfold ml_690
  refine gt_for (nP G) (fun j t => t.1 = nn j ∧ KX G D t.2.1 ∧ t.2.2 = (T, c)) ?_ ?_ 0 5000 _ (by omega) ⟨rfl, hS, rfl⟩ (by omega)
  · rintro j ⟨_, U, _, _⟩ kk hj ⟨rfl, hU, e⟩ hk
    simp only at hU e
    cases e
    obtain ⟨_, _, e27, _⟩ := hT.2.2.2.2.1 j hj
    simp only [ml_693, jk_1, jl_1]
    rw [r1, if_neg (show ¬ nn (nP G) ≤ nn j by rw [nn_le (by omega) (by omega)]; omega)]
    simp (disch := omega) only [ja_27, ck_n, nn_c, e27, ya_3 hU hj, ya_4 hU hj, l_open hT hj, cp_s]
    rw [if_pos trivial]
    have key : ∀ s1, s1 = ib (opn G D j) → gt (ml_739 xs L kk (nn j) (ib (opn G D j)) s1 U T c) fun _ => True := fun s1 h1 => by
      unfold ml_739
      rw [if_pos h1.symm, y_best2 hU hj, cs_s, if_pos rfl]
      refine gt_for (nP G) (fun i t => t.1 = nn i ∧ t.2 = (U, T, c)) ?_ ?_ 0 5000 _ (by omega) ⟨rfl, rfl⟩ (by omega)
      · rintro i ⟨_, _, _, _⟩ k2 hi ⟨rfl, e⟩ hk2
        cases e
        simp only [ml_759, jk_1, jl_1]
        simp (disch := omega) only [r1, nn_le]
        rw [if_neg (by omega)]
        exact f_773 hU hT hj hi (hk2 _ ⟨rfl, rfl⟩)
      · rintro ⟨_, _, _, _⟩ k2 ⟨rfl, e⟩
        cases e
        simp only [ml_759, jk_1, jl_1]
        simp (disch := omega) only [r1, nn_le, jb_1]
        rw [if_pos (by omega)]
        exact hk _ ⟨rfl, hU, rfl⟩
    by_cases z : ib (opn G D j) = 0
    · rw [if_pos z]; exact key 0 z.symm
    · rw [if_neg z]; exact key 1 (ib_1 _ z).symm
  · rintro ⟨_, U, _, _⟩ kk ⟨rfl, hU, e⟩
    simp only at hU e
    cases e
    simp only [ml_693, jk_0, jk_1, jk_2, jl_0, jl_1, jl_2]
    rw [r1, if_pos (Int32.le_refl _), r2, r0]
    rw [y_is1 hU, cp_s, if_pos rfl, y_goes1 hU, cp_s, if_pos rfl, y_spare1, cp_s, if_pos rfl, y_profit1 hU, cp_s, if_pos rfl, y_gain1 hU, cs_s, if_pos rfl, y_turn1 hU, cs_s, if_pos rfl, y_best1 hU, cs_s, if_pos rfl, y_price1 hU, cs_s, if_pos rfl, y_instead1 hU, cp_s, if_pos rfl, y_from1 hU, cp_s, if_pos rfl, y_about1 hU, cp_s, if_pos rfl]
    exact gt_some trivial
theorem oth_n {G D : gx_S} : ∀ (f o : Nat), (∀ u, u < o + f → bG G D u - pro G D u ≤ 0) → oth G D f o = -1
  | 0, _, _ => rfl
  | f + 1, o, h => by
    show (if bG G D o - pro G D o ≤ 0 then oth G D f (o + 1) else nn o) = -1
    rw [if_pos (h o (by omega))]
    exact oth_n f (o + 1) (fun u hu => h u (by omega))
/-- the rest, and what is behind it -/
theorem f_end {G D : gx_S} {xs : Nat → Int32} {L : Nat} {S T : gx_S} {c : Nat} (hS : KX G D S) (hT : LX G D T) (hc : c ≤ 80) : gt (gy_lim 3000 (c + 1) (gx_cp (r_copy (gy_Tc T (fun _ => 0))) fun T6 => gy_lim 3000 (c + 1 + 240) (gx_cs (r_rest (gy_Tt (gy_T0 T (T6 0)) (T6 1))) fun v8 T11 => gx_cs (m_ShopsAsOne_rest S) fun v13 S14 => if 20 ≤ v8 then ml_655 xs L v8 v13 (-103) (T11 0) S14 (gy_T1 (gy_T0 T (T6 0)) T11) (c + 1 + 240) else ml_655 xs L v8 v13 v8 (T11 0) S14 (gy_T1 (gy_T0 T (T6 0)) T11) (c + 1 + 240)))) fun _ => True := by
  have hG := hT.1
  have hO := (wG_O hG).2
  unfold gy_lim
  rw [if_pos (by omega)]
  refine gt_cp (l_copy _) (fun T6 h6 => ?_)
  obtain ⟨c0, c1⟩ := h6
  rw [if_pos (by omega)]
  have e0 : gy_T0 T (T6 0) = T := by
    funext k
    unfold gy_T0
    by_cases z : k = 0
    · rw [if_pos z, c0, z]; rfl
    · rw [if_neg z]
  rw [e0]
  have hl : LX G D (gy_Tt T (T6 1)) := LX_cg hT (fun j hj => c1 j hj) rfl
  refine gt_cs (l_rest hl) (fun v8 T11 h11 => ?_)
  obtain ⟨r, er, hr, hl2⟩ := h11
  simp only at er hl2
  subst er
  refine gt_cs (y_rest hS) (fun v13 S14 h14 => ?_)
  obtain ⟨y1, y2⟩ := h14
  simp only at y1 y2
  rcases hr with ⟨hr, hz⟩ | ⟨hr, hz⟩
  · obtain ⟨w1, w2⟩ := y1 hz
    subst hr
    rw [if_pos (show (20 : Int32) ≤ nn 20 from Int32.le_refl _)]
    unfold ml_655
    rw [if_pos w1, if_pos (show (20 : Int32) ≤ nn 20 from Int32.le_refl _)]
    exact f_693 _ _ _ w2 (LX_T1 hT hl2)
  · have hne : ¬ (ste G D).1 = -1 := by rw [hz]; exact nn_m1 (by omega)
    obtain ⟨w1, w2⟩ := y2 hne
    have hr20 : ¬ (20 : Int32) ≤ nn r := by rw [show (20 : Int32) = nn 20 from rfl, nn_le (by omega) (by omega)]; omega
    rw [if_neg hr20]
    unfold ml_655
    rw [if_pos (by rw [w1, hz]), if_neg hr20]
    refine gt_cp (l_copy _) (fun T3 h3 => ?_)
    obtain ⟨d0, d1⟩ := h3
    obtain ⟨s1, s2⟩ := ste_r hG hne
    have hw2 := (KX_w w2).2.1
    have hoth : oth G (ste G D).2 (nO G) 0 = -1 := by
      refine oth_n _ _ (fun u hu => ?_)
      have := pro_tk hG hw2 (o := u) (by omega)
      rw [s1 u (by omega)] at this
      rw [← this, Int32.sub_self]
      exact Int32.le_refl _
    refine gt_cs (y_otherwise w2) (fun v5 S6 h6 => ?_)
    obtain ⟨z1, z2⟩ := h6
    simp only at z1 z2
    rw [if_pos (by rw [z1, hoth])]
    refine gt_cs (y_rest z2) (fun v8 S9 h9 => ?_)
    have hne2 : ¬ (ste G (ste G D).2).1 = -1 := by rw [s2]; exact show ¬ (0 : Int32) = -1 by decide
    obtain ⟨x1, x2⟩ := h9.2 hne2
    simp only at x1 x2
    rw [s2] at x1 x2
    rw [if_pos x1]
    refine f_693 _ _ _ x2 (LX_cg (R := T11) hl2 (fun j hj => ?_) rfl)
    exact d1 j hj

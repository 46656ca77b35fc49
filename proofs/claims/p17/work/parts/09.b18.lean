/-! b18: the reference: before and behind, harm -/
theorem u_mergeNow {G D S : gx_S} {sh : Int32} (h : pU G D sh S) (a b : Nat) : gt (n_mergeNow (nn a) (nn b) S) fun T => (∀ q j, q ≠ 4 → T q j = S q j) ∧ ∀ k, k < 6 → T 4 k = gv G D a b 2 k := by
  have hG := h.1
  have hu := h.2.2.1
  have hd := h.2.2.2.1
  obtain ⟨eP, hP⟩ := wG_P hG
  unfold n_mergeNow
  refine gt_for (nP G) (fun j t => t.1 = nn j ∧ (∀ q i, q ≠ 4 → t.2 q i = S q i) ∧ ∀ k, k < 6 → t.2 4 k = if k < j then gv G D a b 2 k else D 2 k) ?_ ?_ 0 5000 _ (by omega) ?_ (by omega)
  · rintro j ⟨x, T⟩ k hj ⟨rfl, f, g⟩ hk
    simp only at f g
    simp only [n_mergeNow_2, n_mergeNow_35]
    have e1 : T 0 4 = nn (nP G) := by rw [f _ _ (by omega), hu.1.2.1, eP]
    have e4 : T 4 j = D 2 j := by rw [g j (by omega), if_neg (by omega)]
    simp (disch := omega) only [e1, nn_le, nn_c, ck_n, let_s, nn_s, e4]
    rw [if_neg (by omega)]
    have nx : ∀ x, x = gv G D a b 2 j → gt (k (nn (j + 1), gx_st T 4 j x)) fun T => (∀ q j, q ≠ 4 → T q j = S q j) ∧ ∀ k, k < 6 → T 4 k = gv G D a b 2 k := fun x hx => by
      refine hk _ ⟨rfl, fun q i hq => ?_, fun i hi => ?_⟩
      · simp only
        rw [gx_st_q _ _ _ _ hq]; exact f q i hq
      · simp only
        by_cases z : i = j
        · subst z; rw [gx_st_eq, if_pos (by omega)]; exact hx
        · rw [gx_st_j _ _ _ z, g i hi]
          by_cases y : i < j
          · rw [if_pos y, if_pos (by omega)]
          · rw [if_neg y, if_neg (by omega)]
    by_cases q : D 2 j = nn b
    · rw [if_pos q]
      exact nx _ (by unfold gv; rw [if_pos ⟨rfl, hj, q⟩])
    · rw [if_neg q]
      exact nx _ (by unfold gv; rw [if_neg (fun z => q z.2.2)])
  · rintro ⟨x, T⟩ k ⟨rfl, f, g⟩
    simp only at f g
    simp only [n_mergeNow_2]
    have e1 : T 0 4 = nn (nP G) := by rw [f _ _ (by omega), hu.1.2.1, eP]
    simp (disch := omega) only [e1, nn_le]
    rw [if_pos (by omega)]
    refine gt_some ⟨f, fun i hi => ?_⟩
    rw [g i hi]
    by_cases y : i < nP G
    · rw [if_pos y]
    · rw [if_neg y]
      unfold gv
      rw [if_neg (fun z => y z.2.1)]
  · exact ⟨rfl, fun _ _ _ => rfl, fun i hi => by rw [if_neg (by omega)]; exact (hd i hi).2.1⟩
theorem u_layBefore {G D S : gx_S} (h : pU G D (-1) S) (hw : wD G D) : gt (n_layBefore S) fun t => t.1 = (if (ste G D).1 = -1 then 0 else 1) ∧ fM S t.2 ∧ pU G D (-1) t.2 ∧ ∀ s, s < nS G → t.2 21 s = spa G (ste G D).2 s := by
  have hG := h.1
  obtain ⟨eS, hS⟩ := wG_S hG
  unfold n_layBefore
  refine gt_cp (u_hold h hw) (fun S2 hS2 => ?_)
  obtain ⟨f2, h2⟩ := hS2
  have m2 : fM S S2 := fun q j a1 a2 a3 a4 a5 => f2 q j (by omega) (by omega) (by omega)
  have d2 : uD D S2 := fun j hj => by
    rw [f2 _ _ (by omega) (by omega) (by omega), f2 _ _ (by omega) (by omega) (by omega), f2 _ _ (by omega) (by omega) (by omega)]
    exact h.2.2.2.1 j hj
  have p2 : pU G D (-1) S2 := pU_M h m2 (wD_0 hw) d2
  refine gt_cs (u_goOn p2 hw) (fun v S4 hS4 => ?_)
  obtain ⟨e4, f4, p4⟩ := hS4
  simp only at e4 f4 p4
  have m4 : fM S S4 := fM_t m2 (fL_M f4)
  have hh4 : hH D S4 := fun j hj => by
    rw [f4 _ _ (by omega) (by omega) (by omega) (by omega) (by omega) (by omega), f4 _ _ (by omega) (by omega) (by omega) (by omega) (by omega) (by omega), f4 _ _ (by omega) (by omega) (by omega) (by omega) (by omega) (by omega)]
    exact h2 j hj
  have main : ∀ x, (x = 0 ∨ x = 1) → gt (n_layBefore_17 x S4) fun t => t.1 = x ∧ fM S t.2 ∧ pU G D (-1) t.2 ∧ ∀ s, s < nS G → t.2 21 s = spa G (ste G D).2 s := by
    intro x hx
    unfold n_layBefore_17
    refine gt_for (nS G) (fun s t => t.1 = nn s ∧ (∀ q j, q ≠ 21 → t.2 q j = S4 q j) ∧ ∀ i, i < s → t.2 21 i = spa G (ste G D).2 i) ?_ ?_ 0 5000 _ (by omega) ⟨rfl, fun _ _ _ => rfl, fun i hi => absurd hi (by omega)⟩ (by omega)
    · rintro s ⟨_, T⟩ k hs ⟨rfl, f, g⟩ hk
      simp only at f g
      simp only [n_layBefore_20]
      have pT : pU G (ste G D).2 (-1) T := pU_f p4 (fun q j hq => f q j (by omega))
      have e1 : T 0 9 = nn (nS G) := by rw [pT.2.2.1.1.2.2, eS]
      simp (disch := omega) only [e1, nn_le, nn_c, ck_n, let_s, nn_s, u_spareOf pT hs, cp_s]
      rw [if_neg (by omega)]
      refine hk _ ⟨rfl, fun q i hq => ?_, fun i hi => ?_⟩
      · simp only
        rw [gx_st_q _ _ _ _ hq]; exact f q i hq
      · simp only
        by_cases z : i = s
        · subst z; rw [gx_st_eq]
        · rw [gx_st_j _ _ _ z]; exact g i (by omega)
    · rintro ⟨_, T⟩ k ⟨rfl, f, g⟩
      simp only at f g
      simp only [n_layBefore_20]
      have e1 : T 0 9 = nn (nS G) := by rw [f _ _ (by omega), p4.2.2.1.1.2.2, eS]
      simp (disch := omega) only [e1, nn_le]
      rw [if_pos (by omega)]
      refine gt_cp (u_back (D := D) hw (fun j hj => by rw [f _ _ (by omega), f _ _ (by omega), f _ _ (by omega)]; exact hh4 j hj)) (fun U hU => ?_)
      obtain ⟨u1, u2⟩ := hU
      rw [show ∀ kq : Option (Int32 × gx_S), gx_bz x kq = kq from fun kq => by rcases hx with e | e <;> rw [e]; exact bz_0; exact bz_1]
      have mU : fM S U := fun q j a1 a2 a3 a4 a5 => by
        rw [u1 q j a1 a2 a3, f q j (by omega)]; exact m4 q j a1 a2 a3 a4 a5
      refine gt_some ⟨rfl, mU, pU_M h mU (wD_0 hw) u2, fun s hs => ?_⟩
      simp only
      rw [u1 _ _ (by omega) (by omega) (by omega)]; exact g s hs
  rw [e4]
  by_cases q : (ste G D).1 = -1
  · rw [if_pos q, if_pos q]; exact main 0 (Or.inl rfl)
  · rw [if_neg q, if_neg q]; exact main 1 (Or.inr rfl)
/-- some shops another one's -/
def sx2 (G D : gx_S) (m : Nat) (x : Int32) : gx_S := fun i j => if i = 2 ∧ j < nP G ∧ m.testBit j = true then x else D i j
theorem sx2_0 (G D : gx_S) (x : Int32) : sx2 G D 0 x = D := by
  funext i j
  unfold sx2
  rw [if_neg (fun z => by simp at z)]
theorem u_22 {G D B S : gx_S} {m : Nat} {x : Int32} (h : pU G B (-1) S) (hw : wD G D) (hm : m < 64) (hE : wD G (sx2 G B m x)) (hh : hH D S) : gt (n_layBehind_22 (nn m) x S) fun t => t.1 = (if (ste G (sx2 G B m x)).1 = -1 then 0 else 1) ∧ fM S t.2 ∧ pU G D (-1) t.2 ∧ t.2 0 34 = (ste G (sx2 G B m x)).1 ∧ (∀ s, s < nS G → t.2 22 s = spa G (ste G (sx2 G B m x)).2 s) ∧ ∀ s, t.2 21 s = S 21 s := by
  have hG := h.1
  have hu := h.2.2.1
  obtain ⟨eS, hS⟩ := wG_S hG
  obtain ⟨eP, hP⟩ := wG_P hG
  unfold n_layBehind_22
  refine gt_for (nP G) (fun j t => t.1 = nn j ∧ (∀ q i, q ≠ 4 → t.2 q i = S q i) ∧ ∀ k, k < 6 → t.2 4 k = if k < j then sx2 G B m x 2 k else B 2 k) ?_ ?_ 0 5000 _ (by omega) ?_ (by omega)
  · rintro j ⟨_, T⟩ k hj ⟨rfl, f, g⟩ hk
    simp only at f g
    simp only [n_layBehind_25, n_layBehind_63]
    have e1 : T 0 4 = nn (nP G) := by rw [f _ _ (by omega), hu.1.2.1, eP]
    have e4 : T 4 j = B 2 j := by rw [g j (by omega), if_neg (by omega)]
    have hb := fb_bi m hm j (by omega)
    unfold bi at hb
    simp (disch := omega) only [e1, nn_le, nn_c, ck_n, let_s, nn_s, e4, hb]
    rw [if_neg (by omega)]
    have nx : ∀ y, y = sx2 G B m x 2 j → gt (k (nn (j + 1), gx_st T 4 j y)) fun t => t.1 = (if (ste G (sx2 G B m x)).1 = -1 then 0 else 1) ∧ fM S t.2 ∧ pU G D (-1) t.2 ∧ t.2 0 34 = (ste G (sx2 G B m x)).1 ∧ (∀ s, s < nS G → t.2 22 s = spa G (ste G (sx2 G B m x)).2 s) ∧ ∀ s, t.2 21 s = S 21 s := fun y hy => by
      refine hk _ ⟨rfl, fun q i hq => ?_, fun i hi => ?_⟩
      · simp only
        rw [gx_st_q _ _ _ _ hq]; exact f q i hq
      · simp only
        by_cases z : i = j
        · subst z; rw [gx_st_eq, if_pos (by omega)]; exact hy
        · rw [gx_st_j _ _ _ z, g i hi]
          by_cases y : i < j
          · rw [if_pos y, if_pos (by omega)]
          · rw [if_neg y, if_neg (by omega)]
    by_cases q : m.testBit j = true
    · simp only [q, ↓reduceIte]
      exact nx _ (by unfold sx2; rw [if_pos ⟨rfl, hj, q⟩])
    · simp only [q]
      rw [if_neg (by decide)]
      exact nx _ (by unfold sx2; rw [if_neg (fun z => q z.2.2)])
  · rintro ⟨_, T⟩ k ⟨rfl, f, g⟩
    simp only at f g
    simp only [n_layBehind_25]
    have e1 : T 0 4 = nn (nP G) := by rw [f _ _ (by omega), hu.1.2.1, eP]
    simp (disch := omega) only [e1, nn_le]
    rw [if_pos (by omega)]
    have mT : fM S T := fun q j a1 a2 a3 a4 a5 => f q j a2
    have x1 : ∀ j, sx2 G B m x 1 j = B 1 j := fun j => by simp [sx2]
    have x3 : ∀ j, sx2 G B m x 3 j = B 3 j := fun j => by simp [sx2]
    have dT : uD (sx2 G B m x) T := fun j hj => by
      obtain ⟨a1, a2, a3⟩ := h.2.2.2.1 j hj
      refine ⟨by rw [f _ _ (by omega), x1]; exact a1, ?_, by rw [f _ _ (by omega), x3]; exact a3⟩
      rw [g j hj]
      by_cases y : j < nP G
      · rw [if_pos y]
      · rw [if_neg y]
        unfold sx2
        rw [if_neg (fun z => y z.2.1)]
    have pT : pU G (sx2 G B m x) (-1) T := pU_M h mT (wD_0 hE) dT
    refine gt_cs (u_goOn pT hE) (fun v S4 hS4 => ?_)
    obtain ⟨e4, f4, p4⟩ := hS4
    simp only at e4 f4 p4
    rw [e4]
    refine gt_let ?_
    have m4 : fM S (gx_st S4 0 34 (ste G (sx2 G B m x)).1) := fun q j a1 a2 a3 a4 a5 => by
      by_cases z : q = 0
      · subst z
        rw [gx_st_j _ _ _ (by omega)]; exact (fL_M f4 _ _ a1 a2 a3 a4 a5).trans (mT _ _ a1 a2 a3 a4 a5)
      · rw [gx_st_q _ _ _ _ z]; exact (fL_M f4 _ _ a1 a2 a3 a4 a5).trans (mT _ _ a1 a2 a3 a4 a5)
    have p5 : pU G (ste G (sx2 G B m x)).2 (-1) (gx_st S4 0 34 (ste G (sx2 G B m x)).1) := pU_f p4 (fun q j hq => by
      by_cases z : q = 0
      · subst z
        exact gx_st_j _ _ _ (by omega)
      · exact gx_st_q _ _ _ _ z)
    have hh5 : hH D (gx_st S4 0 34 (ste G (sx2 G B m x)).1) := fun j hj => by
      rw [gx_st_q _ _ _ _ (by omega), gx_st_q _ _ _ _ (by omega), gx_st_q _ _ _ _ (by omega)]
      rw [f4 _ _ (by omega) (by omega) (by omega) (by omega) (by omega) (by omega), f4 _ _ (by omega) (by omega) (by omega) (by omega) (by omega) (by omega), f4 _ _ (by omega) (by omega) (by omega) (by omega) (by omega) (by omega), f _ _ (by omega), f _ _ (by omega), f _ _ (by omega)]
      exact hh j hj
    have e34 : gx_st S4 0 34 (ste G (sx2 G B m x)).1 0 34 = (ste G (sx2 G B m x)).1 := gx_st_eq _ _ _ _
    have e21 : ∀ s, gx_st S4 0 34 (ste G (sx2 G B m x)).1 21 s = S 21 s := fun s => by
      rw [gx_st_q _ _ _ _ (by omega), f4 _ _ (by omega) (by omega) (by omega) (by omega) (by omega) (by omega), f _ _ (by omega)]
    obtain ⟨W, hW⟩ : ∃ W, W = gx_st S4 0 34 (ste G (sx2 G B m x)).1 := ⟨_, rfl⟩
    rw [← hW] at m4 p5 hh5 e34 e21 ⊢
    refine gt_for (nS G) (fun s t => t.1 = nn s ∧ (∀ q j, q ≠ 22 → t.2 q j = W q j) ∧ ∀ i, i < s → t.2 22 i = spa G (ste G (sx2 G B m x)).2 i) ?_ ?_ 0 5000 _ (by omega) ⟨rfl, fun _ _ _ => rfl, fun i hi => absurd hi (by omega)⟩ (by omega)
    · rintro s ⟨_, U⟩ k hs ⟨rfl, f, g⟩ hk
      simp only at f g
      simp only [n_layBehind_81]
      have pU' : pU G (ste G (sx2 G B m x)).2 (-1) U := pU_f p5 (fun q j hq => f q j (by omega))
      have e1 : U 0 9 = nn (nS G) := by rw [pU'.2.2.1.1.2.2, eS]
      simp (disch := omega) only [e1, nn_le, nn_c, ck_n, let_s, nn_s, u_spareOf pU' hs, cp_s]
      rw [if_neg (by omega)]
      refine hk _ ⟨rfl, fun q i hq => ?_, fun i hi => ?_⟩
      · simp only
        rw [gx_st_q _ _ _ _ hq]; exact f q i hq
      · simp only
        by_cases z : i = s
        · subst z; rw [gx_st_eq]
        · rw [gx_st_j _ _ _ z]; exact g i (by omega)
    · rintro ⟨_, U⟩ k ⟨rfl, f, g⟩
      simp only at f g
      simp only [n_layBehind_81]
      have e1 : U 0 9 = nn (nS G) := by rw [f _ _ (by omega), p5.2.2.1.1.2.2, eS]
      simp (disch := omega) only [e1, nn_le]
      rw [if_pos (by omega)]
      refine gt_cp (u_back (D := D) hw (fun j hj => by rw [f _ _ (by omega), f _ _ (by omega), f _ _ (by omega)]; exact hh5 j hj)) (fun V hV => ?_)
      obtain ⟨v1, v2⟩ := hV
      have mV : fM S V := fun q j a1 a2 a3 a4 a5 => by
        rw [v1 q j a1 a2 a3, f q j (by omega)]; exact m4 q j a1 a2 a3 a4 a5
      have v34 : V 0 34 = (ste G (sx2 G B m x)).1 := by rw [v1 _ _ (by omega) (by omega) (by omega), f _ _ (by omega)]; exact e34
      rw [v34]
      have fin : ∀ y : Int32, y = (if (ste G (sx2 G B m x)).1 = -1 then 0 else 1) → gt (some (y, V)) fun t => t.1 = (if (ste G (sx2 G B m x)).1 = -1 then 0 else 1) ∧ fM S t.2 ∧ pU G D (-1) t.2 ∧ t.2 0 34 = (ste G (sx2 G B m x)).1 ∧ (∀ s, s < nS G → t.2 22 s = spa G (ste G (sx2 G B m x)).2 s) ∧ ∀ s, t.2 21 s = S 21 s := fun y hy => by
        refine gt_some ⟨hy, mV, pU_M h mV (wD_0 hw) v2, v34, fun s hs => ?_, fun s => ?_⟩
        · simp only
          rw [v1 _ _ (by omega) (by omega) (by omega)]; exact g s hs
        · simp only
          rw [v1 _ _ (by omega) (by omega) (by omega), f _ _ (by omega)]; exact e21 s
      by_cases q : (ste G (sx2 G B m x)).1 = -1
      · rw [if_pos q]
        exact fin 0 (by rw [if_pos q])
      · rw [if_neg q]
        exact fin 1 (by rw [if_neg q])
  · exact ⟨rfl, fun _ _ _ => rfl, fun i hi => by rw [if_neg (by omega)]; exact (h.2.2.2.1 i hi).2.1⟩
/-- b's shops a's, then some another one's -/
theorem u_layBehind {G D S : gx_S} {m a b : Nat} {x y : Int32} (h : pU G D (-1) S) (hw : wD G D) (hm : m < 64) (h0 : w0 (gv G D a b)) (hE : wD G (sx2 G (gv G D a b) m x)) : gt (n_layBehind (nn a) (nn b) (-1) y (nn m) x S) fun t => t.1 = (if (ste G (sx2 G (gv G D a b) m x)).1 = -1 then 0 else 1) ∧ fM S t.2 ∧ pU G D (-1) t.2 ∧ t.2 0 34 = (ste G (sx2 G (gv G D a b) m x)).1 ∧ (∀ s, s < nS G → t.2 22 s = spa G (ste G (sx2 G (gv G D a b) m x)).2 s) ∧ ∀ s, t.2 21 s = S 21 s := by
  unfold n_layBehind
  refine gt_cp (u_hold h hw) (fun S2 hS2 => ?_)
  obtain ⟨f2, h2⟩ := hS2
  have m2 : fM S S2 := fun q j a1 a2 a3 a4 a5 => f2 q j (by omega) (by omega) (by omega)
  have d2 : uD D S2 := fun j hj => by
    rw [f2 _ _ (by omega) (by omega) (by omega), f2 _ _ (by omega) (by omega) (by omega), f2 _ _ (by omega) (by omega) (by omega)]
    exact h.2.2.2.1 j hj
  have p2 : pU G D (-1) S2 := pU_M h m2 (wD_0 hw) d2
  refine gt_cp (u_mergeNow p2 a b) (fun S4 hS4 => ?_)
  obtain ⟨f4, g4⟩ := hS4
  rw [if_pos rfl]
  have m4 : fM S2 S4 := fun q j a1 a2 a3 a4 a5 => f4 q j a2
  have d4 : uD (gv G D a b) S4 := fun j hj => by
    obtain ⟨a1, a2, a3⟩ := d2 j hj
    refine ⟨?_, g4 j hj, ?_⟩
    · rw [f4 _ _ (by omega), a1]; simp [gv]
    · rw [f4 _ _ (by omega), a3]; simp [gv]
  have p4 : pU G (gv G D a b) (-1) S4 := pU_M p2 m4 h0 d4
  refine gt_mono (u_22 p4 hw hm hE (fun j hj => by rw [f4 _ _ (by omega), f4 _ _ (by omega), f4 _ _ (by omega)]; exact h2 j hj)) (fun t ht => ?_)
  obtain ⟨t1, t2, t3, t4, t5, t6⟩ := ht
  refine ⟨t1, fM_t m2 (fM_t m4 t2), t3, t4, t5, fun s => ?_⟩
  rw [t6, f4 _ _ (by omega), f2 _ _ (by omega) (by omega) (by omega)]
theorem u_harmNow {G D B E S : gx_S} {sh : Int32} (h : pU G D sh S) (h1 : ∀ s, s < nS G → S 21 s = spa G B s) (h2 : ∀ s, s < nS G → S 22 s = spa G E s) (x : Int32) : n_harmNow x S = some (if x = 0 then hrm G B E else hsm G B E) := by
  have hG := h.1
  obtain ⟨eS, hS⟩ := wG_S hG
  have e1 : S 0 9 = nn (nS G) := by rw [h.2.2.1.1.2.2, eS]
  unfold n_harmNow
  refine lp_for (nS G) (fun j => (sm (fun s => (if 0 < dr G B E s then dr G B E s else 0) * G 7 s) j, sto (fun s => decide (0 < dr G B E s)) j, nn j)) (fun j k hj => ?_) (fun k => ?_) 0 5000 (by omega) (by omega)
  · simp only [n_harmNow_7, n_harmNow_53, n_harmNow_69]
    have t1 : n_told (nn j) 1 S = some (G 7 j) := u_told h.2.2.1 (i := 1) (by omega) (by omega)
    simp (disch := omega) only [e1, nn_le, nn_c, ck_n, nn_s, h1 j hj, h2 j hj, t1, cp_s]
    rw [if_neg (by omega)]
    rw [show spa G B j - spa G E j = dr G B E j from rfl]
    rw [show sto (fun s => decide (0 < dr G B E s)) (j + 1) = if decide (0 < dr G B E j) = true then sto (fun s => decide (0 < dr G B E s)) j ||| ((1 : Int32) <<< (nn j &&& 31)) else sto (fun s => decide (0 < dr G B E s)) j from rfl]
    rw [show sm (fun s => (if 0 < dr G B E s then dr G B E s else 0) * G 7 s) (j + 1) = sm (fun s => (if 0 < dr G B E s then dr G B E s else 0) * G 7 s) j + (if 0 < dr G B E j then dr G B E j else 0) * G 7 j from rfl]
    by_cases q : dr G B E j ≤ 0
    · have q' : ¬ 0 < dr G B E j := by lia
      rw [if_pos q, if_pos q, if_neg q', if_neg (by simpa using q'), Int32.zero_mul, Int32.or_zero]
    · have q' : 0 < dr G B E j := by lia
      rw [if_neg q, if_neg q, if_pos q', if_pos (by simpa using q')]
  · simp only [n_harmNow_7]
    simp (disch := omega) only [e1, nn_le]
    rw [if_pos (by omega)]
    unfold hrm hsm
    split <;> rfl
def allB (G B E : gx_S) (t : Int32) : Nat → Bool
  | 0 => true
  | s + 1 => allB G B E t s && decide (dr G B E s ≤ t)
theorem u_isBelow {G D B E S : gx_S} {sh : Int32} (h : pU G D sh S) (h1 : ∀ s, s < nS G → S 21 s = spa G B s) (h2 : ∀ s, s < nS G → S 22 s = spa G E s) (t : Int32) : n_isBelow t S = some (ib (allB G B E t (nS G))) := by
  have hG := h.1
  obtain ⟨eS, hS⟩ := wG_S hG
  have e1 : S 0 9 = nn (nS G) := by rw [h.2.2.1.1.2.2, eS]
  unfold n_isBelow
  refine lp_for (nS G) (fun j => (ib (allB G B E t j), nn j)) (fun j k hj => ?_) (fun k => ?_) 0 5000 (by omega) (by omega)
  · simp only [n_isBelow_4, n_isBelow_37, n_isBelow_38]
    simp (disch := omega) only [e1, nn_le, nn_c, ck_n, nn_s, h1 j hj, h2 j hj, ib_0]
    rw [if_neg (by omega)]
    rw [show spa G B j - spa G E j = dr G B E j from rfl]
    rw [show allB G B E t (j + 1) = (allB G B E t j && decide (dr G B E j ≤ t)) from rfl]
    cases hb : allB G B E t j with
    | false => rw [if_pos rfl]; rfl
    | true =>
      rw [if_neg (by decide)]
      by_cases q : t < dr G B E j
      · rw [if_pos q]
        have : ¬ dr G B E j ≤ t := by lia
        simp [this, ib]
      · rw [if_neg q]
        have : dr G B E j ≤ t := by lia
        simp [this, ib]
  · simp only [n_isBelow_4]
    simp (disch := omega) only [e1, nn_le]
    rw [if_pos (by omega)]
    cases allB G B E t (nS G) with
    | false => exact bz_0
    | true => exact bz_1
theorem dws_le {G B E : gx_S} {t : Int32} (h0 : 0 ≤ t) (h9 : t ≤ 9) : (t < dws G B E ↔ ¬ (¬ (ste G E).1 = -1 ∧ allB G B (ste G E).2 t (nS G) = true)) := by
  have key : ∀ n, (t < mxd (dr G B (ste G E).2) n ↔ ¬ allB G B (ste G E).2 t n = true) := by
    intro n
    induction n with
    | zero => simp [mxd, allB]; lia
    | succ n ih =>
      show (t < (if mxd (dr G B (ste G E).2) n < dr G B (ste G E).2 n then dr G B (ste G E).2 n else mxd (dr G B (ste G E).2) n)) ↔ ¬ (allB G B (ste G E).2 t n && decide (dr G B (ste G E).2 n ≤ t)) = true
      rw [Bool.and_eq_true, decide_eq_true_iff]
      by_cases q : mxd (dr G B (ste G E).2) n < dr G B (ste G E).2 n
      · rw [if_pos q]
        constructor
        · intro y z
          have := z.2
          lia
        · intro y
          rcases Decidable.em (allB G B (ste G E).2 t n = true) with z | z
          · have : ¬ dr G B (ste G E).2 n ≤ t := fun w => y ⟨z, w⟩
            lia
          · have := ih.mpr z
            lia
      · rw [if_neg q]
        constructor
        · intro y z
          exact ih.mp y z.1
        · intro y
          rcases Decidable.em (allB G B (ste G E).2 t n = true) with z | z
          · have : ¬ dr G B (ste G E).2 n ≤ t := fun w => y ⟨z, w⟩
            lia
          · exact ih.mpr z
  unfold dws
  by_cases q : (ste G E).1 = -1
  · rw [if_pos q]
    constructor
    · intro _ z; exact z.1 q
    · intro _; lia
  · rw [if_neg q, key]
    constructor
    · intro y z; exact y z.2
    · intro y z; exact y ⟨q, z⟩

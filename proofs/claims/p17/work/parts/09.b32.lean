/-! b32: a sort -/
def gSort (G : gx_S) (v : Nat → Int32) : gx_S := fun q j => if q = 1 ∧ j = 2 then nn (nS G + 1) else if 6 ≤ q ∧ q ≤ 11 ∧ j = nS G then v q else G q j
theorem x_addSort {G S : gx_S} (hG : wG G) (hv : vG G S) (v : Nat → Int32) (hS : nS G < 8) : gt (m_Street_addSort (v 6) (v 7) (v 8) (v 9) (v 10) (v 11) S) fun t => t.1 = nn (nS G) ∧ (∀ q j, (q = 0 ∨ 20 < q) → t.2 q j = S q j) ∧ (∀ q j, 1 ≤ q → q ≤ 11 → t.2 q j = gSort G v q j) ∧ ∀ s k, s < nS G + 1 → k < nP G → t.2 (13 + s) k = bes (gSort G v) s k := by
  obtain ⟨eS, _⟩ := wG_S hG
  obtain ⟨eP, hP⟩ := wG_P hG
  have e1 : S 1 2 = nn (nS G) := by rw [hv.1 _ _ (by omega) (by omega), eS]
  unfold m_Street_addSort
  rw [e1, show (8 : Int32) = nn 8 from rfl]
  simp (disch := omega) only [nn_lt, ck_n, nn_c, let_s, gx_st_q, e1, nn_s]
  rw [if_pos hS]
  obtain ⟨G', hG'⟩ : ∃ G', G' = gSort G v := ⟨_, rfl⟩
  have g1 : G' 1 1 = nn (nP G) := by rw [hG', ← eP]; simp [gSort]
  have g12 : G' 1 2 = nn (nS G + 1) := by rw [hG']; simp [gSort]
  have gold : ∀ s k, s < nS G → bes G' s k = bes G s k := fun s k hk => by
    have eq : ∀ q, q ≠ 1 → G' q s = G q s := fun q a => by rw [hG']; unfold gSort; rw [if_neg (by omega), if_neg (by omega)]
    have e4 : G' 4 k = G 4 k := by rw [hG']; unfold gSort; rw [if_neg (by omega), if_neg (by omega)]
    unfold bes
    rw [e4, eq _ (by omega), eq _ (by omega), eq _ (by omega), eq _ (by omega)]
  rw [← hG']
  obtain ⟨s0, hs0⟩ : ∃ s0, s0 = nS G := ⟨_, rfl⟩
  rw [← hs0]
  rw [← hs0] at g12 hS gold e1
  refine gt_for (nP G) (fun k t => t.1 = nn k ∧ (∀ q j, (q = 0 ∨ 20 < q) → t.2 q j = S q j) ∧ (∀ q j, 1 ≤ q → q ≤ 11 → t.2 q j = G' q j) ∧ ∀ s' k', k' < nP G → (s' < s0 ∨ s' = s0 ∧ k' < k) → t.2 (13 + s') k' = bes G' s' k') ?_ ?_ 0 5000 _ (by omega) ?_ (by omega)
  · rintro k ⟨_, T⟩ kk hk ⟨rfl, f, g, b⟩ hkk
    simp only at f g b
    simp only [m_Street_addSort_88]
    have e2 : T 1 2 = nn (s0 + 1) := by rw [g _ _ (by omega) (by omega), g12]
    have e3 : T 1 1 = nn (nP G) := by rw [g _ _ (by omega) (by omega), g1]
    have em := x_measure (s := s0) (k := k) (by omega) (by omega) T
    rw [e2, e3, nn_p (by omega), Nat.add_sub_cancel, if_neg (by rw [nn_le (by omega) (by omega)]; omega), em, cp_s, nn_s]
    have eb : bes T s0 k = bes G' s0 k := bes_c (fun q hq j => g q j (by omega) (by omega))
    refine hkk _ ⟨rfl, fun q j hq => ?_, fun q j a c => ?_, fun s' k' h1 h2 => ?_⟩
    · simp only
      rw [gx_st_q _ _ _ _ (by omega)]; exact f q j hq
    · simp only
      rw [gx_st_q _ _ _ _ (by omega)]; exact g q j a c
    · simp only
      by_cases z : s' = s0 ∧ k' = k
      · obtain ⟨rfl, rfl⟩ := z
        rw [gx_st_eq, eb]
      · have : gx_st T (13 + s0) k (bes T s0 k) (13 + s') k' = T (13 + s') k' := by
          by_cases y : s' = s0
          · subst y; exact gx_st_j _ _ _ (by omega)
          · exact gx_st_q _ _ _ _ (by omega)
        rw [this]
        exact b s' k' h1 (by omega)
  · rintro ⟨_, T⟩ k ⟨rfl, f, g, b⟩
    simp only at f g b
    simp only [m_Street_addSort_88]
    have e2 : T 1 2 = nn (s0 + 1) := by rw [g _ _ (by omega) (by omega), g12]
    have e3 : T 1 1 = nn (nP G) := by rw [g _ _ (by omega) (by omega), g1]
    rw [e2, e3, nn_p (by omega), Nat.add_sub_cancel, if_pos (Int32.le_refl _)]
    exact gt_some ⟨rfl, f, g, fun s k h1 h2 => b s k h2 (by omega)⟩
  · refine ⟨rfl, fun q j hq => ?_, fun q j a c => ?_, fun s' k h1 h2 => ?_⟩
    · simp (disch := omega) only [gx_st_q]
    · have hvq := hv.1 q j a c
      simp only
      rw [hG']
      unfold gSort
      rw [← hs0]
      by_cases q1 : q = 1
      · subst q1
        by_cases z : j = 2
        · subst z; rw [gx_st_eq, if_pos ⟨rfl, rfl⟩]
        · rw [gx_st_j _ _ _ z, if_neg (by omega), if_neg (by omega)]
          simp (disch := omega) only [gx_st_q]
          exact hvq
      · rw [gx_st_q _ _ _ _ q1, if_neg (by omega)]
        by_cases hr : 6 ≤ q ∧ q ≤ 11
        · by_cases z : j = s0
          · rw [if_pos ⟨hr.1, hr.2, z⟩, z]
            have : q = 6 ∨ q = 7 ∨ q = 8 ∨ q = 9 ∨ q = 10 ∨ q = 11 := by omega
            rcases this with rfl | rfl | rfl | rfl | rfl | rfl <;> simp (disch := omega) only [gx_st_q, gx_st_eq]
          · rw [if_neg (by omega)]
            have : q = 6 ∨ q = 7 ∨ q = 8 ∨ q = 9 ∨ q = 10 ∨ q = 11 := by omega
            rcases this with rfl | rfl | rfl | rfl | rfl | rfl <;> simp (disch := omega) only [gx_st_q, gx_st_j] <;> exact hvq
        · rw [if_neg (by omega)]
          simp (disch := omega) only [gx_st_q]
          exact hvq
    · simp (disch := omega) only [gx_st_q]
      rw [gold s' k (by omega)]
      exact hv.2 s' k (by omega) h1
theorem st_sort {S T : gx_S} (h : RR S T) (x1 x2 x3 x4 x5 x6 : Int32) : cSS (m_ShopsAsOne_sort x1 x2 x3 x4 x5 x6 S) (n_sort x1 x2 x3 x4 x5 x6 T) := by
  obtain ⟨A, hA, hS, hT, hK⟩ := id h
  have hO := wG_O hA.1
  have hP := wG_P hA.1
  obtain ⟨eS, hN⟩ := wG_S hA.1
  unfold m_ShopsAsOne_sort n_sort
  rcases chkR x1 0 9 S T with ⟨b1, a1, a2⟩ | ⟨a1, a2⟩
  · rw [a1, a2, cp_s, cp_s, if_pos rfl, if_neg i10]
    rcases chkR x2 1 50 S T with ⟨b2, a1, a2⟩ | ⟨a1, a2⟩
    · rw [a1, a2, cp_s, cp_s, if_pos rfl, if_neg i10]
      rcases chkR x3 0 5 S T with ⟨b3, a1, a2⟩ | ⟨a1, a2⟩
      · rw [a1, a2, cp_s, cp_s, if_pos rfl, if_neg i10]
        rcases chkR x4 0 30 S T with ⟨b4, a1, a2⟩ | ⟨a1, a2⟩
        · rw [a1, a2, cp_s, cp_s, if_pos rfl, if_neg i10]
          rcases chkR x6 0 9 S T with ⟨b6, a1, a2⟩ | ⟨a1, a2⟩
          · rw [a1, a2, cp_s, cp_s, if_pos rfl, if_neg i10]
            have main : bw x5 (-1) 5 → cSS (m_ShopsAsOne_sort_72 x1 x2 x3 x4 x5 x6 S) (n_sort_72 x1 x2 x3 x4 x5 x6 T) := by
              intro b5
              unfold m_ShopsAsOne_sort_72 n_sort_72
              have e2 := (RT_c hA hT).2.2
              rw [e2, show (8 : Int32) = nn 8 from rfl]
              simp (disch := omega) only [nn_eq]
              by_cases c8 : nS (qG A) < 8
              · rw [if_neg (show ¬ nS (qG A) = 8 by omega)]
                obtain ⟨v, hv⟩ : ∃ v : Nat → Int32, v = fun q => if q = 6 then x1 else if q = 7 then x2 else if q = 8 then x3 else if q = 9 then x4 else if q = 10 then x5 else x6 := ⟨_, rfl⟩
                have v6 : v 6 = x1 := by rw [hv]; rfl
                have v7 : v 7 = x2 := by rw [hv]; rfl
                have v8 : v 8 = x3 := by rw [hv]; rfl
                have v9 : v 9 = x4 := by rw [hv]; rfl
                have v10 : v 10 = x5 := by rw [hv]; rfl
                have v11 : v 11 = x6 := by rw [hv]; rfl
                have hadd := x_addSort hA.1 hS.1 v c8
                rw [v6, v7, v8, v9, v10, v11] at hadd
                refine gt_cs hadd (fun a U hU => ?_)
                obtain ⟨u1, u2, u3, u4⟩ := hU
                simp only at u1 u2 u3 u4
                rw [u1, show (6 : Int32) = nn 6 from rfl, show (1 : Int32) = nn 1 from rfl, show (2 : Int32) = nn 2 from rfl, show (3 : Int32) = nn 3 from rfl, show (4 : Int32) = nn 4 from rfl, show (5 : Int32) = nn 5 from rfl]
                simp (disch := omega) only [nn_mul, nn_add, ck_n, nn_c, let_s, gx_st_q, e2, gx_st_eq]
                rw [show nn (nS (qG A) + 1) - nn 1 = nn (nS (qG A)) from by rw [show nn 1 = (1 : Int32) from rfl, nn_p (by omega), Nat.add_sub_cancel]]
                obtain ⟨s0, hs0⟩ : ∃ s0, s0 = nS (qG A) := ⟨_, rfl⟩
                obtain ⟨G', hG'⟩ : ∃ G', G' = gSort (qG A) v := ⟨_, rfl⟩
                rw [← hG'] at u3 u4
                rw [← hs0] at u4 ⊢
                have g12 : G' 1 2 = nn (s0 + 1) := by rw [hG', hs0]; simp [gSort]
                have gq1 : ∀ j, j ≠ 2 → G' 1 j = qG A 1 j := fun j hj => by rw [hG']; simp [gSort, hj]
                have gs : ∀ q, 6 ≤ q → q ≤ 11 → ∀ j, G' q j = if j = s0 then v q else qG A q j := fun q a b j => by
                  rw [hG', hs0]; unfold gSort
                  rw [if_neg (by omega)]
                  by_cases y : j = nS (qG A)
                  · rw [if_pos ⟨a, b, y⟩, if_pos y]
                  · rw [if_neg (fun w => y w.2.2), if_neg y]
                have gq : ∀ q j, q ≠ 1 → q < 6 → G' q j = qG A q j := fun q j a b => by rw [hG']; unfold gSort; rw [if_neg (by omega), if_neg (by omega)]
                have nS' : nS G' = s0 + 1 := by unfold nS; rw [g12, nn_c (by omega)]
                have nO' : nO G' = nO (qG A) := by unfold nO; rw [gq1 0 (by omega)]
                have nP' : nP G' = nP (qG A) := by unfold nP; rw [gq1 1 (by omega)]
                have hwG : wG G' := by
                  obtain ⟨⟨a1, a2, a3⟩, b, c, d⟩ := hA.1
                  refine ⟨⟨?_, ?_, ?_⟩, fun j => ?_, fun j => ?_, fun j => ?_⟩
                  · rw [gq1 0 (by omega)]; exact a1
                  · rw [gq1 1 (by omega)]; exact a2
                  · rw [g12]; exact nn_b (b := 8) (by omega) (by decide)
                  · rw [gq _ _ (by omega) (by omega), gq _ _ (by omega) (by omega)]; exact b j
                  · rw [gq _ _ (by omega) (by omega), gq _ _ (by omega) (by omega)]; exact c j
                  · rw [gs 6 (by omega) (by omega), gs 7 (by omega) (by omega), gs 8 (by omega) (by omega), gs 9 (by omega) (by omega), gs 10 (by omega) (by omega), gs 11 (by omega) (by omega)]
                    by_cases y : j = s0
                    · simp only [if_pos y]
                      rw [v6, v7, v8, v9, v10, v11]
                      refine ⟨b1, ⟨?_, b2.2⟩, b3, b4, b5, b6⟩
                      have := b2.1
                      lia
                    · simp only [if_neg y]
                      exact d j
                have hwD : ∀ K, wD (qG A) K → wD G' K := fun K w => by
                  refine ⟨fun j hj => ⟨(w.1 j hj).1, (w.1 j hj).2.1, ?_⟩, fun j hj => ?_, fun u hu => ?_⟩
                  · rw [gq _ _ (by omega) (by omega)]; exact (w.1 j hj).2.2
                  · rw [nP'] at hj
                    rw [nO']
                    exact w.2.1 j hj
                  · have : cnt G' K u = cnt (qG A) K u := by unfold cnt; rw [nP']
                    rw [this]; exact w.2.2 u hu
                have hzD : ∀ K, zD (qG A) K → zD G' K := fun K w j hj hn => by
                  rw [nP'] at hn
                  exact w j hj hn
                refine gt_some (gt_some ⟨rfl, (G', A.2), ⟨hwG, fun j hj => ?_, hwD _ hA.2.2.1, hzD _ hA.2.2.2.1, hA.2.2.2.2⟩, ?_, ?_, ?_⟩)
                · have hj' : nO (qG A) ≤ j := by
                    have : nO (qG ((G', A.2) : rA)) = nO (qG A) := nO'
                    omega
                  show G' 2 j = 0
                  rw [gq _ _ (by omega) (by omega)]
                  exact hA.2.1 j hj'
                · obtain ⟨s1, s2, s3, s4, s5, s6⟩ := hS
                  refine ⟨⟨fun q j a b => u3 q j a b, fun s i hs hi => ?_⟩, fun i j a b c => ?_, ⟨s3.1, ?_, fun j hj => ?_⟩, ?_, ?_, fun t ht => ⟨(s6 t ht).1, ?_, fun j hj => ?_⟩⟩
                  · have hs' : s < s0 + 1 := by rw [← nS']; exact hs
                    have hi' : i < nP (qG A) := by rw [← nP']; exact hi
                    exact u4 s i hs' hi'
                  · simp only
                    rw [u2 _ _ (by omega)]; exact s2 i j a b c
                  · simp only
                    rw [u2 _ _ (by omega)]; exact s3.2.1
                  · simp only
                    rw [u2 _ _ (by omega)]; exact s3.2.2 j hj
                  · simp only
                    rw [u2 _ _ (by omega)]; exact s4
                  · simp only
                    rw [u2 _ _ (by omega)]; exact s5
                  · simp only
                    rw [u2 _ _ (by omega)]; exact (s6 t ht).2.1
                  · simp only
                    rw [u2 _ _ (by omega)]; exact (s6 t ht).2.2 j hj
                · obtain ⟨⟨⟨a1, a2, a3⟩, b, c, d⟩, t2, t3, t4, t5, t6, t7⟩ := hT
                  refine ⟨⟨⟨?_, ?_, ?_⟩, fun u hu => ?_, fun i hi => ?_, fun s i hs hi => ?_⟩, fun j hj => ?_, ?_, ⟨t4.1, ?_, fun j hj => ?_⟩, ?_, ?_, fun t ht => ⟨(t7 t ht).1, ?_, fun j hj => ?_⟩⟩
                  · show _ = G' 1 0
                    rw [gq1 0 (by omega)]
                    simp (disch := omega) only [gx_st_q, gx_st_j]; exact a1
                  · show _ = G' 1 1
                    rw [gq1 1 (by omega)]
                    simp (disch := omega) only [gx_st_q, gx_st_j]; exact a2
                  · show _ = G' 1 2
                    rw [g12]; simp only [gx_st_eq]
                  · show _ = G' 2 u ∧ _ = G' 3 u
                    rw [gq _ _ (by omega) (by omega), gq _ _ (by omega) (by omega)]
                    simp (disch := omega) only [gx_st_q]; exact b u hu
                  · show _ = G' 4 i ∧ _ = G' 5 i
                    rw [gq _ _ (by omega) (by omega), gq _ _ (by omega) (by omega)]
                    simp (disch := omega) only [gx_st_q]; exact c i hi
                  · show _ = G' (6 + i) s
                    rw [gs _ (by omega) (by omega)]
                    simp (disch := omega) only [gx_st_q]
                    by_cases y : s = s0
                    · rw [if_pos y, y]
                      have : i = 0 ∨ i = 1 ∨ i = 2 ∨ i = 3 ∨ i = 4 ∨ i = 5 := by omega
                      rcases this with rfl | rfl | rfl | rfl | rfl | rfl
                      · rw [v6]; simp (disch := omega) only [gx_st_j]; exact gx_st_eq _ _ _ _
                      · rw [v7]; simp (disch := omega) only [gx_st_j]; exact gx_st_eq _ _ _ _
                      · rw [v8]; simp (disch := omega) only [gx_st_j]; exact gx_st_eq _ _ _ _
                      · rw [v9]; simp (disch := omega) only [gx_st_j]; exact gx_st_eq _ _ _ _
                      · rw [v10]; simp (disch := omega) only [gx_st_j]; exact gx_st_eq _ _ _ _
                      · rw [v11]; exact gx_st_eq _ _ _ _
                    · rw [if_neg y]
                      simp (disch := omega) only [gx_st_j]
                      exact d s i hs hi
                  · simp (disch := omega) only [gx_st_q]; exact t2 j hj
                  · simp (disch := omega) only [gx_st_q, gx_st_j]; exact t3
                  · simp (disch := omega) only [gx_st_q, gx_st_j]; exact t4.2.1
                  · simp (disch := omega) only [gx_st_q, gx_st_j]; exact t4.2.2 j hj
                  · simp (disch := omega) only [gx_st_q, gx_st_j]; exact t5
                  · simp (disch := omega) only [gx_st_q, gx_st_j]; exact t6
                  · simp (disch := omega) only [gx_st_q, gx_st_j]; exact (t7 t ht).2.1
                  · simp (disch := omega) only [gx_st_q, gx_st_j]; exact (t7 t ht).2.2 j hj
                · refine RK_G hK (fun q j hq => ?_) (fun q j hq => ?_) (by show nO (qG A) ≤ nO G'; omega) (by show nP (qG A) ≤ nP G'; omega) (fun j hj => ?_) (fun K ko _ _ _ w => ⟨hwD K w.1, hzD K w.2⟩)
                  · simp only
                    exact u2 q j (by omega)
                  · rcases hq with ⟨rfl, hq⟩ | hq
                    · simp (disch := omega) only [gx_st_q, gx_st_j]
                    · simp (disch := omega) only [gx_st_q]
                  · show G' 2 j = qG A 2 j
                    rw [gq _ _ (by omega) (by omega)]
              · rw [if_pos (show nS (qG A) = 8 by omega)]
                unfold m_Street_addSort
                rw [(RS_c hA hS).2.2, if_neg (by rw [show (8 : Int32) = nn 8 from rfl, nn_lt (by omega) (by omega)]; omega), cs_s]
                exact cSS_s h
            by_cases c5 : x5 = -1
            · rw [if_pos c5, if_pos c5]
              exact main (by rw [c5]; unfold bw; decide)
            · rw [if_neg c5, if_neg c5]
              rcases chkP (by omega) (RS_c hA hS).2.1 (RT_c hA hT).2.1 x5 with ⟨k, h1, e5, h3, h4⟩ | ⟨h3, h4⟩
              · rw [h3, h4, cp_s, cp_s, if_pos rfl, if_neg i10]
                refine main ?_
                rw [e5]
                have := nn_b (k := k) (b := 5) (by omega) (by decide)
                exact ⟨by have := this.1; lia, this.2⟩
              · rw [h3, h4, cp_s, cp_s, if_neg i10, if_pos rfl]; exact cSS_s h
          · rw [a1, a2, cp_s, cp_s, if_neg i10, if_pos rfl]; exact cSS_s h
        · rw [a1, a2, cp_s, cp_s, if_neg i10, if_pos rfl]; exact cSS_s h
      · rw [a1, a2, cp_s, cp_s, if_neg i10, if_pos rfl]; exact cSS_s h
    · rw [a1, a2, cp_s, cp_s, if_neg i10, if_pos rfl]; exact cSS_s h
  · rw [a1, a2, cp_s, cp_s, if_neg i10, if_pos rfl]; exact cSS_s h

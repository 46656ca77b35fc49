/-! b31: a shop, a sort -/
theorem x_measure {s k : Nat} (hs : s < 8) (hk : k < 6) (S : gx_S) : m_Street_measure (nn s) (nn k) S = some (gx_st S (13 + s) k (bes S s k)) := by
  unfold m_Street_measure bes
  simp (disch := omega) only [ck_n, nn_c, ab_d, let_s]
  by_cases z : S 10 s = nn k
  · rw [if_pos z, if_pos z]
  · rw [if_neg z, if_neg z]
theorem bes_c {G S : gx_S} {s k : Nat} (h : ∀ q, q = 4 ∨ q = 6 ∨ q = 8 ∨ q = 10 ∨ q = 11 → ∀ j, S q j = G q j) : bes S s k = bes G s k := by
  unfold bes
  rw [h 4 (by omega), h 6 (by omega), h 8 (by omega), h 10 (by omega), h 11 (by omega)]
def gShop (G : gx_S) (x y : Int32) : gx_S := fun q j => if q = 1 ∧ j = 1 then nn (nP G + 1) else if q = 4 ∧ j = nP G then x else if q = 5 ∧ j = nP G then y else G q j
theorem x_addShop {G S : gx_S} (hG : wG G) (hv : vG G S) (x y : Int32) (hP : nP G < 6) : gt (m_Street_addShop x y S) fun t => t.1 = nn (nP G) ∧ (∀ q j, (q = 0 ∨ 20 < q) → t.2 q j = S q j) ∧ (∀ q j, 1 ≤ q → q ≤ 11 → t.2 q j = gShop G x y q j) ∧ ∀ s k, s < nS G → k < nP G + 1 → t.2 (13 + s) k = bes (gShop G x y) s k := by
  obtain ⟨eS, hS⟩ := wG_S hG
  obtain ⟨eP, _⟩ := wG_P hG
  have e1 : S 1 1 = nn (nP G) := by rw [hv.1 _ _ (by omega) (by omega), eP]
  unfold m_Street_addShop
  rw [e1, show (6 : Int32) = nn 6 from rfl]
  simp (disch := omega) only [nn_lt, ck_n, nn_c, let_s, gx_st_q, e1, nn_s]
  rw [if_pos hP]
  obtain ⟨G', hG'⟩ : ∃ G', G' = gShop G x y := ⟨_, rfl⟩
  have g1 : G' 1 1 = nn (nP G + 1) := by rw [hG']; simp [gShop]
  have g12 : G' 1 2 = nn (nS G) := by rw [hG', ← eS]; simp [gShop]
  have gold : ∀ s k, k < nP G → bes G' s k = bes G s k := fun s k hk => by
    have e4 : G' 4 k = G 4 k := by rw [hG']; unfold gShop; rw [if_neg (by omega), if_neg (by omega), if_neg (by omega)]
    have eq : ∀ q j, q ≠ 1 → q ≠ 4 → q ≠ 5 → G' q j = G q j := fun q j a b c => by rw [hG']; unfold gShop; rw [if_neg (by omega), if_neg (by omega), if_neg (by omega)]
    unfold bes
    rw [e4, eq _ _ (by omega) (by omega) (by omega), eq _ _ (by omega) (by omega) (by omega), eq _ _ (by omega) (by omega) (by omega), eq _ _ (by omega) (by omega) (by omega)]
  rw [← hG']
  refine gt_for (nS G) (fun s t => t.1 = nn s ∧ (∀ q j, (q = 0 ∨ 20 < q) → t.2 q j = S q j) ∧ (∀ q j, 1 ≤ q → q ≤ 11 → t.2 q j = G' q j) ∧ ∀ s' k, s' < nS G → (k < nP G ∨ k = nP G ∧ s' < s) → t.2 (13 + s') k = bes G' s' k) ?_ ?_ 0 5000 _ (by omega) ?_ (by omega)
  · rintro s ⟨_, T⟩ k hs ⟨rfl, f, g, b⟩ hk
    simp only at f g b
    simp only [m_Street_addShop_44]
    have e2 : T 1 2 = nn (nS G) := by rw [g _ _ (by omega) (by omega), g12]
    have e3 : T 1 1 = nn (nP G + 1) := by rw [g _ _ (by omega) (by omega), g1]
    have em := x_measure (s := s) (k := nP G) (by omega) hP T
    rw [e2, e3, nn_p (by omega), Nat.add_sub_cancel, if_neg (by rw [nn_le (by omega) (by omega)]; omega), em, cp_s, nn_s]
    have eb : bes T s (nP G) = bes G' s (nP G) := bes_c (fun q hq j => g q j (by omega) (by omega))
    refine hk _ ⟨rfl, fun q j hq => ?_, fun q j a c => ?_, fun s' k' h1 h2 => ?_⟩
    · simp only
      rw [gx_st_q _ _ _ _ (by omega)]; exact f q j hq
    · simp only
      rw [gx_st_q _ _ _ _ (by omega)]; exact g q j a c
    · simp only
      by_cases z : s' = s ∧ k' = nP G
      · obtain ⟨rfl, rfl⟩ := z
        rw [gx_st_eq, eb]
      · have : gx_st T (13 + s) (nP G) (bes T s (nP G)) (13 + s') k' = T (13 + s') k' := by
          by_cases y : s' = s
          · subst y; exact gx_st_j _ _ _ (by omega)
          · exact gx_st_q _ _ _ _ (by omega)
        rw [this]
        exact b s' k' h1 (by omega)
  · rintro ⟨_, T⟩ k ⟨rfl, f, g, b⟩
    simp only at f g b
    simp only [m_Street_addShop_44]
    have e2 : T 1 2 = nn (nS G) := by rw [g _ _ (by omega) (by omega), g12]
    have e3 : T 1 1 = nn (nP G + 1) := by rw [g _ _ (by omega) (by omega), g1]
    rw [e2, e3, nn_p (by omega), Nat.add_sub_cancel, if_pos (Int32.le_refl _)]
    exact gt_some ⟨rfl, f, g, fun s k h1 h2 => b s k h1 (by omega)⟩
  · refine ⟨rfl, fun q j hq => ?_, fun q j a c => ?_, fun s' k h1 h2 => ?_⟩
    · simp (disch := omega) only [gx_st_q]
    · show gx_st (gx_st (gx_st S 4 (nP G) x) 5 (nP G) y) 1 1 (nn (nP G + 1)) q j = G' q j
      rw [hG']
      unfold gShop
      by_cases q1 : q = 1
      · subst q1
        by_cases z : j = 1
        · subst z; rw [gx_st_eq, if_pos ⟨rfl, rfl⟩]
        · rw [gx_st_j _ _ _ z, gx_st_q _ _ _ _ (by omega), gx_st_q _ _ _ _ (by omega), if_neg (by omega), if_neg (by omega), if_neg (by omega)]; exact hv.1 1 j a c
      · rw [gx_st_q _ _ _ _ q1, if_neg (by omega)]
        by_cases q5 : q = 5
        · subst q5
          rw [if_neg (by omega)]
          by_cases z : j = nP G
          · subst z; rw [gx_st_eq, if_pos ⟨rfl, rfl⟩]
          · rw [gx_st_j _ _ _ z, if_neg (by omega), gx_st_q _ _ _ _ (by omega)]; exact hv.1 5 j a c
        · rw [gx_st_q _ _ _ _ q5]
          by_cases q4 : q = 4
          · subst q4
            by_cases z : j = nP G
            · subst z; rw [gx_st_eq, if_pos ⟨rfl, rfl⟩]
            · rw [gx_st_j _ _ _ z, if_neg (by omega), if_neg (by omega)]; exact hv.1 4 j a c
          · rw [gx_st_q _ _ _ _ q4, if_neg (by omega), if_neg (by omega)]; exact hv.1 q j a c
    · simp (disch := omega) only [gx_st_q]
      rw [gold s' k (by omega)]
      exact hv.2 s' k h1 (by omega)
theorem st_shop {S T : gx_S} (h : RR S T) (w x y z : Int32) : cSS (m_ShopsAsOne_shop w x y z S) (n_shop w x y z T) := by
  obtain ⟨A, hA, hS, hT, hK⟩ := id h
  have hO := wG_O hA.1
  obtain ⟨eP, hP⟩ := wG_P hA.1
  have hN := wG_S hA.1
  unfold m_ShopsAsOne_shop n_shop
  rcases chkO (by omega) (RS_c hA hS).1 (RT_c hA hT).1 w with ⟨o, h1, rfl, h3, h4⟩ | ⟨h3, h4⟩
  · rw [h3, h4, cp_s, cp_s, if_pos rfl, if_neg i10]
    rcases chkR x 0 9 S T with ⟨gx, g3, g4⟩ | ⟨g3, g4⟩
    · rw [g3, g4, cp_s, cp_s, if_pos rfl, if_neg i10]
      rcases chkR y 0 9 S T with ⟨gy, g5, g6⟩ | ⟨g5, g6⟩
      · rw [g5, g6, cp_s, cp_s, if_pos rfl, if_neg i10]
        rcases chkR z 0 9 S T with ⟨gz, g7, g8⟩ | ⟨g7, g8⟩
        · rw [g7, g8, cp_s, cp_s, if_pos rfl, if_neg i10]
          have pS := pX_R hA hS
          have pT := pU_R hA hT
          have e2 := (RT_c hA hT).2.1
          have hc := hA.2.2.1.2.2 o (by omega)
          rw [x_shopsOf pS, u_shopsOf pT, cp_s, cp_s, e2, show (3 : Int32) = nn 3 from rfl, show (6 : Int32) = nn 6 from rfl]
          simp (disch := omega) only [nn_lt, nn_eq]
          by_cases c3 : cnt (qG A) (qD A) o < 3
          · rw [if_pos c3, if_neg (show ¬ cnt (qG A) (qD A) o = 3 by omega)]
            by_cases c6 : nP (qG A) < 6
            · rw [if_neg (show ¬ nP (qG A) = 6 by omega)]
              refine gt_cs (x_addShop hA.1 hS.1 x y c6) (fun a U hU => ?_)
              obtain ⟨u1, u2, u3, u4⟩ := hU
              simp only at u1 u2 u3 u4
              have hn104 : ¬ nn (nP (qG A)) = -104 := by
                have : ∀ m, m < 6 → ¬ nn m = -104 := by decide
                exact this _ c6
              rw [u1, if_neg hn104]
              simp (disch := omega) only [ck_n, nn_c, let_s, gx_st_q, e2, nn_s, gx_st_eq]
              rw [nn_p (by omega), Nat.add_sub_cancel]
              obtain ⟨k, hk⟩ : ∃ k, k = nP (qG A) := ⟨_, rfl⟩
              obtain ⟨G', hG'⟩ : ∃ G', G' = gShop (qG A) x y := ⟨_, rfl⟩
              rw [← hG'] at u3 u4
              rw [← hk] at u4 ⊢
              have g11 : G' 1 1 = nn (k + 1) := by rw [hG', hk]; simp [gShop]
              have gq1 : ∀ j, j ≠ 1 → G' 1 j = qG A 1 j := fun j hj => by rw [hG']; simp [gShop, hj]
              have gq4 : ∀ j, G' 4 j = if j = k then x else qG A 4 j := fun j => by rw [hG', hk]; simp [gShop]
              have gq5 : ∀ j, G' 5 j = if j = k then y else qG A 5 j := fun j => by rw [hG', hk]; simp [gShop]
              have gq : ∀ q j, q ≠ 1 → q ≠ 4 → q ≠ 5 → G' q j = qG A q j := fun q j a b c => by rw [hG']; unfold gShop; rw [if_neg (by omega), if_neg (by omega), if_neg (by omega)]
              have nP' : nP G' = k + 1 := by unfold nP; rw [g11, nn_c (by omega)]
              have nO' : nO G' = nO (qG A) := by unfold nO; rw [gq1 0 (by omega)]
              have nS' : nS G' = nS (qG A) := by unfold nS; rw [gq1 2 (by omega)]
              have hwG : wG G' := by
                obtain ⟨⟨a1, a2, a3⟩, b, c, d⟩ := hA.1
                refine ⟨⟨?_, ?_, ?_⟩, fun j => ?_, fun j => ⟨?_, ?_⟩, fun j => ?_⟩
                · rw [gq1 0 (by omega)]; exact a1
                · rw [g11]; exact nn_b (b := 6) (by omega) (by decide)
                · rw [gq1 2 (by omega)]; exact a3
                · rw [gq _ _ (by omega) (by omega) (by omega), gq _ _ (by omega) (by omega) (by omega)]; exact b j
                · rw [gq4]; split
                  · exact gx
                  · exact (c j).1
                · rw [gq5]; split
                  · exact gy
                  · exact (c j).2
                · rw [gq _ _ (by omega) (by omega) (by omega), gq _ _ (by omega) (by omega) (by omega), gq _ _ (by omega) (by omega) (by omega), gq _ _ (by omega) (by omega) (by omega), gq _ _ (by omega) (by omega) (by omega), gq _ _ (by omega) (by omega) (by omega)]; exact d j
              obtain ⟨D', hD'⟩ : ∃ D' : gx_S, D' = fun i j => if i = 1 ∧ j = k then z else if i = 2 ∧ j = k then nn o else qD A i j := ⟨_, rfl⟩
              have d1 : ∀ j, D' 1 j = if j = k then z else qD A 1 j := fun j => by rw [hD']; simp
              have d2 : ∀ j, D' 2 j = if j = k then nn o else qD A 2 j := fun j => by rw [hD']; simp
              have d3 : ∀ j, D' 3 j = qD A 3 j := fun j => by rw [hD']; simp
              have hwD : wD G' D' := by
                have w := hA.2.2.1
                refine ⟨fun j hj => ⟨?_, ?_, ?_⟩, fun j hj => ?_, fun u hu => ?_⟩
                · rw [d1]; split
                  · exact gz
                  · exact (w.1 j hj).1
                · rw [d2]; split
                  · exact nn_b (b := 5) (by omega) (by decide)
                  · exact (w.1 j hj).2.1
                · rw [d3, gq _ _ (by omega) (by omega) (by omega)]; exact (w.1 j hj).2.2
                · rw [nO']
                  unfold wh
                  rw [d2]
                  split
                  · rw [nn_c (by omega)]; exact h1
                  · exact w.2.1 j (by omega)
                · have e : cnt G' D' u = cnt (qG A) (qD A) u + (if ow D' u k = true then 1 else 0) := by
                    unfold cnt cu
                    rw [nP', ← hk]
                    show cn (ow D' u) k + _ = _
                    congr 1
                    exact cn_cg (fun j hj => by unfold ow; rw [d2, if_neg (by omega)])
                  rw [e]
                  by_cases y : ow D' u k = true
                  · have : u = o := by
                      unfold ow at y
                      rw [d2, if_pos rfl, decide_eq_true_eq, nn_eq (by omega) (by omega)] at y
                      exact y.symm
                    rw [if_pos y, this]
                    omega
                  · rw [if_neg y]
                    exact w.2.2 u hu
              have hzD : zD G' D' := fun j hj hn => by
                rw [nP'] at hn
                rw [d1, d2, if_neg (by omega), if_neg (by omega)]
                exact hA.2.2.2.1 j hj (by omega)
              refine gt_some (gt_some ⟨rfl, (G', D', A.2.2), ⟨hwG, fun j hj => ?_, hwD, hzD, hA.2.2.2.2⟩, ?_, ?_, ?_⟩)
              · have hj' : nO (qG A) ≤ j := by
                  have : nO (qG ((G', D', A.2.2) : rA)) = nO (qG A) := nO'
                  omega
                show G' 2 j = 0
                rw [gq _ _ (by omega) (by omega) (by omega)]
                exact hA.2.1 j hj'
              · obtain ⟨s1, s2, s3, s4, s5, s6⟩ := hS
                have fU : ∀ q j, (q = 0 ∨ 20 < q) → q ≠ 22 → q ≠ 23 → gx_st (gx_st U 23 k (nn o)) 22 k z q j = S q j := fun q j a b c => by
                  rw [gx_st_q _ _ _ _ b, gx_st_q _ _ _ _ c]; exact u2 q j a
                refine ⟨⟨fun q j a b => ?_, fun s i hs hi => ?_⟩, fun i j a b c => ?_, ⟨s3.1, ?_, fun j hj => ?_⟩, ?_, ?_, fun t ht => ⟨(s6 t ht).1, ?_, fun j hj => ?_⟩⟩
                · show gx_st (gx_st U 23 k (nn o)) 22 k z q j = G' q j
                  rw [gx_st_q _ _ _ _ (by omega), gx_st_q _ _ _ _ (by omega)]; exact u3 q j a b
                · show gx_st (gx_st U 23 k (nn o)) 22 k z (13 + s) i = bes G' s i
                  have hs' : s < nS (qG A) := by rw [← nS']; exact hs
                  have hi' : i < k + 1 := by rw [← nP']; exact hi
                  rw [gx_st_q _ _ _ _ (by omega), gx_st_q _ _ _ _ (by omega)]; exact u4 s i hs' hi'
                · match i, a, b with
                  | 1, _, _ =>
                    show gx_st (gx_st U 23 k (nn o)) 22 k z 22 j = D' 1 j
                    rw [d1]
                    by_cases y : j = k
                    · rw [y, gx_st_eq, if_pos rfl]
                    · rw [gx_st_j _ _ _ y, if_neg y, gx_st_q _ _ _ _ (by omega), u2 _ _ (by omega)]; exact s2 1 j (by omega) (by omega) c
                  | 2, _, _ =>
                    show gx_st (gx_st U 23 k (nn o)) 22 k z 23 j = D' 2 j
                    rw [d2, gx_st_q _ _ _ _ (by omega)]
                    by_cases y : j = k
                    · rw [y, gx_st_eq, if_pos rfl]
                    · rw [gx_st_j _ _ _ y, if_neg y, u2 _ _ (by omega)]; exact s2 2 j (by omega) (by omega) c
                  | 3, _, _ =>
                    show gx_st (gx_st U 23 k (nn o)) 22 k z 24 j = D' 3 j
                    rw [d3, fU _ _ (by omega) (by omega) (by omega)]; exact s2 3 j (by omega) (by omega) c
                · simp only
                  rw [fU _ _ (by omega) (by omega) (by omega)]; exact s3.2.1
                · simp only
                  rw [fU _ _ (by omega) (by omega) (by omega)]; exact s3.2.2 j hj
                · simp only
                  rw [fU _ _ (by omega) (by omega) (by omega)]; exact s4
                · simp only
                  rw [fU _ _ (by omega) (by omega) (by omega)]; exact s5
                · simp only
                  rw [fU _ _ (by omega) (by omega) (by omega)]; exact (s6 t ht).2.1
                · simp only
                  rw [fU _ _ (by omega) (by omega) (by omega)]; exact (s6 t ht).2.2 j hj
              · obtain ⟨⟨⟨a1, a2, a3⟩, b, c, d⟩, t2, t3, t4, t5, t6, t7⟩ := hT
                refine ⟨⟨⟨?_, ?_, ?_⟩, fun u hu => ?_, fun i hi => ?_, fun s i hs hi => ?_⟩, fun j hj => ⟨?_, ?_, ?_⟩, ?_, ⟨t4.1, ?_, fun j hj => ?_⟩, ?_, ?_, fun t ht => ⟨(t7 t ht).1, ?_, fun j hj => ?_⟩⟩
                · show _ = G' 1 0
                  rw [gq1 0 (by omega)]
                  simp (disch := omega) only [gx_st_q, gx_st_j]; exact a1
                · show _ = G' 1 1
                  rw [g11]; simp only [gx_st_eq]
                · show _ = G' 1 2
                  rw [gq1 2 (by omega)]
                  simp (disch := omega) only [gx_st_q, gx_st_j]; exact a3
                · show _ = G' 2 u ∧ _ = G' 3 u
                  rw [gq _ _ (by omega) (by omega) (by omega), gq _ _ (by omega) (by omega) (by omega)]
                  simp (disch := omega) only [gx_st_q]; exact b u hu
                · show _ = G' 4 i ∧ _ = G' 5 i
                  rw [gq4, gq5]
                  by_cases y : i = k
                  · rw [y]
                    simp (disch := omega) only [gx_st_q, gx_st_eq, ↓reduceIte]
                    exact ⟨trivial, trivial⟩
                  · simp (disch := omega) only [gx_st_q, gx_st_j, if_neg y]
                    exact c i hi
                · show _ = G' (6 + i) s
                  rw [gq _ _ (by omega) (by omega) (by omega)]
                  simp (disch := omega) only [gx_st_q]; exact d s i hs hi
                · show _ = D' 1 j
                  rw [d1]
                  by_cases y : j = k
                  · rw [y]
                    simp (disch := omega) only [gx_st_q, gx_st_eq, ↓reduceIte]
                  · simp (disch := omega) only [gx_st_q, gx_st_j, if_neg y]
                    exact (t2 j hj).1
                · show _ = D' 2 j
                  rw [d2]
                  by_cases y : j = k
                  · rw [y]
                    simp (disch := omega) only [gx_st_q, gx_st_eq, ↓reduceIte]
                  · simp (disch := omega) only [gx_st_q, gx_st_j, if_neg y]
                    exact (t2 j hj).2.1
                · show _ = D' 3 j
                  rw [d3]
                  simp (disch := omega) only [gx_st_q]; exact (t2 j hj).2.2
                · simp (disch := omega) only [gx_st_q, gx_st_j]; exact t3
                · simp (disch := omega) only [gx_st_q, gx_st_j]; exact t4.2.1
                · simp (disch := omega) only [gx_st_q, gx_st_j]; exact t4.2.2 j hj
                · simp (disch := omega) only [gx_st_q, gx_st_j]; exact t5
                · simp (disch := omega) only [gx_st_q, gx_st_j]; exact t6
                · simp (disch := omega) only [gx_st_q, gx_st_j]; exact (t7 t ht).2.1
                · simp (disch := omega) only [gx_st_q, gx_st_j]; exact (t7 t ht).2.2 j hj
              · refine RK_G hK (fun q j hq => ?_) (fun q j hq => ?_) (by show nO (qG A) ≤ nO G'; omega) (by show nP (qG A) ≤ nP G'; omega) (fun j hj => ?_) (fun K ko _ _ e _ => ?_)
                · simp only
                  rw [gx_st_q _ _ _ _ (by omega), gx_st_q _ _ _ _ (by omega)]; exact u2 q j (by omega)
                · rcases hq with ⟨rfl, hq⟩ | hq
                  · simp (disch := omega) only [gx_st_q, gx_st_j]
                  · simp (disch := omega) only [gx_st_q]
                · show G' 2 j = qG A 2 j
                  rw [gq _ _ (by omega) (by omega) (by omega)]
                · have : nP (qG A) = nP G' := e
                  omega
            · rw [if_pos (show nP (qG A) = 6 by omega)]
              unfold m_Street_addShop
              rw [(RS_c hA hS).2.1, if_neg (by rw [show (6 : Int32) = nn 6 from rfl, nn_lt (by omega) (by omega)]; omega), cs_s, if_pos rfl]
              exact cSS_s h
          · rw [if_neg c3]
            by_cases c6 : nP (qG A) = 6
            · rw [if_pos c6]; exact cSS_s h
            · rw [if_neg c6, if_pos (show cnt (qG A) (qD A) o = 3 by omega)]; exact cSS_s h
        · rw [g7, g8, cp_s, cp_s, if_neg i10, if_pos rfl]; exact cSS_s h
      · rw [g5, g6, cp_s, cp_s, if_neg i10, if_pos rfl]; exact cSS_s h
    · rw [g3, g4, cp_s, cp_s, if_neg i10, if_pos rfl]; exact cSS_s h
  · rw [h3, h4, cp_s, cp_s, if_neg i10, if_pos rfl]; exact cSS_s h

/-! b30: calls that tell the street -/
theorem st_price {S T : gx_S} (h : RR S T) (x y : Int32) : cSS (m_ShopsAsOne_price x y S) (n_price x y T) := by
  obtain ⟨A, hA, hS, hT, hK⟩ := id h
  have hP := (wG_P hA.1).2
  unfold m_ShopsAsOne_price n_price
  rcases chkP (by omega) (RS_c hA hS).2.1 (RT_c hA hT).2.1 x with ⟨k, h1, rfl, h3, h4⟩ | ⟨h3, h4⟩
  · rw [h3, h4, cp_s, cp_s, if_pos rfl, if_neg i10]
    rcases chkR y 0 9 S T with ⟨g, g3, g4⟩ | ⟨g3, g4⟩
    · rw [g3, g4, cp_s, cp_s, if_pos rfl, if_neg i10]
      have e1 : S 22 k = qD A 1 k := hS.2.1 1 k (by omega) (by omega) (by omega)
      have e2 : T 7 k = qD A 1 k := (hT.2.1 k (by omega)).1
      simp (disch := omega) only [ck_n, nn_c, e1, e2, let_s]
      obtain ⟨D', hD'⟩ : ∃ D' : gx_S, D' = fun i j => if i = 1 ∧ j = k then y else qD A i j := ⟨_, rfl⟩
      have d1 : ∀ j, D' 1 j = if j = k then y else qD A 1 j := fun j => by rw [hD']; simp
      have d2 : ∀ j, D' 2 j = qD A 2 j := fun j => by rw [hD']; simp
      have d3 : ∀ j, D' 3 j = qD A 3 j := fun j => by rw [hD']; simp
      have hw : wD (qG A) D' := by
        have w := hA.2.2.1
        refine ⟨fun j hj => ⟨?_, ?_, ?_⟩, fun j hj => ?_, fun o ho => ?_⟩
        · rw [d1]; split
          · exact g
          · exact (w.1 j hj).1
        · rw [d2]; exact (w.1 j hj).2.1
        · rw [d3]; exact (w.1 j hj).2.2
        · unfold wh; rw [d2]; exact w.2.1 j hj
        · have : cnt (qG A) D' o = cnt (qG A) (qD A) o := cn_cg (fun j _ => by unfold ow; rw [d2])
          rw [this]; exact w.2.2 o ho
      have hz : zD (qG A) D' := fun j hj hn => by
        rw [d1, d2, if_neg (by omega)]; exact hA.2.2.2.1 j hj hn
      refine gt_some (gt_some ⟨rfl, RR_D hA hS hT hK hw hz (fun q j hq => gx_st_q _ _ _ _ (by omega)) (fun i j a b c => ?_) (fun q j a1 a2 a3 a4 a5 => gx_st_q _ _ _ _ (by omega)) (fun j hj => ⟨?_, ?_, ?_⟩)⟩)
      · match i, a, b with
        | 1, _, _ =>
          show gx_st S 22 k y 22 j = _
          rw [d1]
          by_cases z : j = k
          · subst z; rw [gx_st_eq, if_pos rfl]
          · rw [gx_st_j _ _ _ z, if_neg z]; exact hS.2.1 1 j (by omega) (by omega) c
        | 2, _, _ =>
          show gx_st S 22 k y 23 j = _
          rw [d2, gx_st_q _ _ _ _ (by omega)]; exact hS.2.1 2 j (by omega) (by omega) c
        | 3, _, _ =>
          show gx_st S 22 k y 24 j = _
          rw [d3, gx_st_q _ _ _ _ (by omega)]; exact hS.2.1 3 j (by omega) (by omega) c
      · show gx_st T 7 k y 7 j = _
        rw [d1]
        by_cases z : j = k
        · subst z; rw [gx_st_eq, if_pos rfl]
        · rw [gx_st_j _ _ _ z, if_neg z]; exact (hT.2.1 j hj).1
      · show gx_st T 7 k y 4 j = _
        rw [d2, gx_st_q _ _ _ _ (by omega)]; exact (hT.2.1 j hj).2.1
      · show gx_st T 7 k y 3 j = _
        rw [d3, gx_st_q _ _ _ _ (by omega)]; exact (hT.2.1 j hj).2.2
    · rw [g3, g4, cp_s, cp_s, if_neg i10, if_pos rfl]; exact cSS_s h
  · rw [h3, h4, cp_s, cp_s, if_neg i10, if_pos rfl]; exact cSS_s h
theorem nn_ge {k n : Nat} (hk : k < 1000) (hn : n < 1000) : bw (nn k) 0 (nn n) ↔ k ≤ n := by
  unfold bw
  rw [nn_0, nn_le (by omega) (by omega), nn_le (by omega) (by omega)]
  omega
/-- kept stands as the street grows -/
theorem RK_G {G G' S T S' T' : gx_S} (h : RK G S T) (f : ∀ q j, (q = 0 ∧ 12 ≤ j ∧ j ≤ 14) ∨ (29 < q ∧ q < 33) → S' q j = S q j) (g : ∀ q j, (q = 0 ∧ 17 ≤ j ∧ j ≤ 19) ∨ (11 < q ∧ q < 15) → T' q j = T q j) (hO : nO G ≤ nO G') (hP : nP G ≤ nP G') (hk : ∀ j, j < nO G → G' 2 j = G 2 j) (hw : ∀ K ko, (∀ j, j < 6 → K 3 j = 0 ∨ K 3 j = 1 ∧ G' 2 j = 4) → ko ≤ nO G → nP G = nP G' → wD G K ∧ zD G K → wD G' K ∧ zD G' K) : RK G' S' T' := by
  have h := RK_f h f g
  rcases h with h | ⟨h1, h2, K, ko, ks, h3, h4, h5, h6, h7, h8, h9, h10, h11, h12, h13⟩
  · exact Or.inl h
  · have hk3 : ∀ j, j < 6 → K 3 j = 0 ∨ K 3 j = 1 ∧ G' 2 j = 4 := fun j hj => by
      rcases Nat.lt_or_ge j ko with y | y
      · rw [hk j (by omega)]; exact h12 j hj
      · exact Or.inl (h11 j hj y)
    refine Or.inr ⟨h1, h2, K, ko, ks, h3, h4, h5, h6, by omega, by omega, h9, fun j hj hh => h10 j hj (by omega), h11, hk3, fun e => ?_⟩
    exact hw K ko hk3 h7 (by omega) (h13 (by omega))
theorem st_owner {S T : gx_S} (h : RR S T) (x y : Int32) : cSS (m_ShopsAsOne_owner x y S) (n_owner x y T) := by
  obtain ⟨A, hA, hS, hT, hK⟩ := id h
  obtain ⟨eO, hO⟩ := wG_O hA.1
  have hP := wG_P hA.1
  have hN := wG_S hA.1
  unfold m_ShopsAsOne_owner n_owner
  rcases chkR x 0 4 S T with ⟨g, g3, g4⟩ | ⟨g3, g4⟩
  · rw [g3, g4, cp_s, cp_s, if_pos rfl, if_neg i10]
    rcases chkR y 0 99 S T with ⟨k, k3, k4⟩ | ⟨k3, k4⟩
    · rw [k3, k4, cp_s, cp_s, if_pos rfl, if_neg i10]
      unfold m_Street_addOwner
      have e1 := (RS_c hA hS).1
      have e2 := (RT_c hA hT).1
      rw [e1, e2, show (6 : Int32) = nn 6 from rfl]
      simp (disch := omega) only [nn_lt, nn_eq]
      by_cases z : nO (qG A) < 6
      · rw [if_pos z, if_neg (by omega)]
        simp (disch := omega) only [ck_n, nn_c, let_s, gx_st_q, e1, e2, cs_s, nn_s, gx_st_eq]
        rw [nn_p (by omega), Nat.add_sub_cancel, nar_b (Or.inl rfl)]
        obtain ⟨o, ho⟩ : ∃ o, o = nO (qG A) := ⟨_, rfl⟩
        rw [← ho]
        rw [← ho] at z
        obtain ⟨G', hG'⟩ : ∃ G' : gx_S, G' = fun q j => if q = 1 ∧ j = 0 then nn (o + 1) else if q = 2 ∧ j = o then x else if q = 3 ∧ j = o then y else qG A q j := ⟨_, rfl⟩
        have g1 : G' 1 0 = nn (o + 1) := by rw [hG']; simp
        have g2 : ∀ j, G' 2 j = if j = o then x else qG A 2 j := fun j => by rw [hG']; simp
        have g3 : ∀ j, G' 3 j = if j = o then y else qG A 3 j := fun j => by rw [hG']; simp
        have g1' : ∀ j, j ≠ 0 → G' 1 j = qG A 1 j := fun j hj => by rw [hG']; simp [hj]
        have gq : ∀ q j, q ≠ 1 → q ≠ 2 → q ≠ 3 → G' q j = qG A q j := fun q j a b c => by rw [hG']; simp [a, b, c]
        have nO' : nO G' = o + 1 := by unfold nO; rw [g1, nn_c (by omega)]
        have nP' : nP G' = nP (qG A) := by unfold nP; rw [g1' 1 (by omega)]
        have nS' : nS G' = nS (qG A) := by unfold nS; rw [g1' 2 (by omega)]
        have hwG : wG G' := by
          obtain ⟨⟨a1, a2, a3⟩, b, c, d⟩ := hA.1
          refine ⟨⟨?_, ?_, ?_⟩, fun j => ⟨?_, ?_⟩, fun j => ?_, fun j => ?_⟩
          · rw [g1]; exact nn_b (b := 6) (by omega) (by decide)
          · rw [g1' 1 (by omega)]; exact a2
          · rw [g1' 2 (by omega)]; exact a3
          · rw [g2]; split
            · exact g
            · exact (b j).1
          · rw [g3]; split
            · exact k
            · exact (b j).2
          · rw [gq _ _ (by omega) (by omega) (by omega), gq _ _ (by omega) (by omega) (by omega)]; exact c j
          · rw [gq _ _ (by omega) (by omega) (by omega), gq _ _ (by omega) (by omega) (by omega), gq _ _ (by omega) (by omega) (by omega), gq _ _ (by omega) (by omega) (by omega), gq _ _ (by omega) (by omega) (by omega), gq _ _ (by omega) (by omega) (by omega)]; exact d j
        have hbes : ∀ s k, bes G' s k = bes (qG A) s k := fun s k => by
          unfold bes
          rw [gq _ _ (by omega) (by omega) (by omega), gq _ _ (by omega) (by omega) (by omega), gq _ _ (by omega) (by omega) (by omega), gq _ _ (by omega) (by omega) (by omega), gq _ _ (by omega) (by omega) (by omega)]
        have hwD : ∀ K, (∀ j, j < 6 → K 3 j = 0 ∨ K 3 j = 1 ∧ G' 2 j = 4) → wD (qG A) K → wD G' K := fun K hK3 w => by
          refine ⟨fun j hj => ⟨(w.1 j hj).1, (w.1 j hj).2.1, hK3 j hj⟩, fun j hj => ?_, fun u hu => ?_⟩
          · rw [nP'] at hj
            have := w.2.1 j hj
            omega
          · have : cnt G' K u = cnt (qG A) K u := by unfold cnt; rw [nP']
            rw [this]; exact w.2.2 u hu
        have hzD : ∀ K, zD (qG A) K → zD G' K := fun K w j hj hn => by
          rw [nP'] at hn
          exact w j hj hn
        have hD3 : ∀ j, j < 6 → qD A 3 j = 0 ∨ qD A 3 j = 1 ∧ G' 2 j = 4 := fun j hj => by
          rcases (hA.2.2.1.1 j hj).2.2 with w | w
          · exact Or.inl w
          · by_cases z : j = o
            · have : qG A 2 j = 0 := hA.2.1 j (by omega)
              rw [this] at w
              exact absurd w.2 (by decide)
            · rw [g2, if_neg z]; exact Or.inr w
        refine gt_some (gt_some ⟨rfl, (G', A.2), ⟨hwG, fun j hj => ?_, hwD _ hD3 hA.2.2.1, hzD _ hA.2.2.2.1, hA.2.2.2.2⟩, ?_, ?_, ?_⟩)
        · have hj' : o + 1 ≤ j := by
            have : nO (qG ((G', A.2) : rA)) = o + 1 := nO'
            omega
          show G' 2 j = 0
          rw [g2, if_neg (by omega)]
          exact hA.2.1 j (by omega)
        · obtain ⟨s1, s2, s3, s4, s5, s6⟩ := hS
          refine ⟨⟨fun q j a b => ?_, fun s k hs hk => ?_⟩, fun i j a b c => ?_, ⟨s3.1, ?_, fun j hj => ?_⟩, ?_, ?_, fun t ht => ⟨(s6 t ht).1, ?_, fun j hj => ?_⟩⟩
          · show gx_st (gx_st (gx_st S 2 o x) 3 o y) 1 0 (nn (o + 1)) q j = G' q j
            by_cases q1 : q = 1
            · subst q1
              by_cases z : j = 0
              · subst z; rw [gx_st_eq, g1]
              · rw [gx_st_j _ _ _ z, gx_st_q _ _ _ _ (by omega), gx_st_q _ _ _ _ (by omega), g1' j z]; exact s1.1 1 j a b
            · rw [gx_st_q _ _ _ _ q1]
              by_cases q3 : q = 3
              · subst q3
                rw [g3]
                by_cases z : j = o
                · subst z; rw [gx_st_eq, if_pos rfl]
                · rw [gx_st_j _ _ _ z, if_neg z, gx_st_q _ _ _ _ (by omega)]; exact s1.1 3 j a b
              · rw [gx_st_q _ _ _ _ q3]
                by_cases q2 : q = 2
                · subst q2
                  rw [g2]
                  by_cases z : j = o
                  · subst z; rw [gx_st_eq, if_pos rfl]
                  · rw [gx_st_j _ _ _ z, if_neg z]; exact s1.1 2 j a b
                · rw [gx_st_q _ _ _ _ q2, gq q j q1 q2 q3]; exact s1.1 q j a b
          · have hs' : s < nS (qG A) := by rw [← nS']; exact hs
            have hk' : k < nP (qG A) := by rw [← nP']; exact hk
            show gx_st (gx_st (gx_st S 2 o x) 3 o y) 1 0 (nn (o + 1)) (13 + s) k = bes G' s k
            rw [gx_st_q _ _ _ _ (by omega), gx_st_q _ _ _ _ (by omega), gx_st_q _ _ _ _ (by omega), hbes]; exact s1.2 s k hs' hk'
          · show gx_st (gx_st (gx_st S 2 o x) 3 o y) 1 0 (nn (o + 1)) (21 + 4 * 0 + i) j = _
            rw [gx_st_q _ _ _ _ (by omega), gx_st_q _ _ _ _ (by omega), gx_st_q _ _ _ _ (by omega)]; exact s2 i j a b c
          · simp (disch := omega) only [gx_st_q]; exact s3.2.1
          · simp (disch := omega) only [gx_st_q]; exact s3.2.2 j hj
          · simp (disch := omega) only [gx_st_q]; exact s4
          · simp (disch := omega) only [gx_st_q]; exact s5
          · simp (disch := omega) only [gx_st_q]; exact (s6 t ht).2.1
          · simp (disch := omega) only [gx_st_q]; exact (s6 t ht).2.2 j hj
        · obtain ⟨⟨⟨a1, a2, a3⟩, b, c, d⟩, h2, h3, h4, h5, h6, h7⟩ := hT
          refine ⟨⟨⟨?_, ?_, ?_⟩, fun u hu => ?_, fun k hk => ?_, fun s i hs hi => ?_⟩, fun j hj => ⟨?_, ?_, ?_⟩, ?_, ⟨h4.1, ?_, fun j hj => ?_⟩, ?_, ?_, fun t ht => ⟨(h7 t ht).1, ?_, fun j hj => ?_⟩⟩
          · show _ = G' 1 0
            rw [g1]; simp only [gx_st_eq]
          · show _ = G' 1 1
            rw [g1' 1 (by omega)]
            simp (disch := omega) only [gx_st_q, gx_st_j]; exact a2
          · show _ = G' 1 2
            rw [g1' 2 (by omega)]
            simp (disch := omega) only [gx_st_q, gx_st_j]; exact a3
          · show _ = G' 2 u ∧ _ = G' 3 u
            rw [g2, g3]
            by_cases z : u = o
            · subst z
              simp (disch := omega) only [gx_st_q, gx_st_eq, ↓reduceIte]
              exact ⟨trivial, trivial⟩
            · simp (disch := omega) only [gx_st_q, gx_st_j, if_neg z]
              exact b u hu
          · show _ = G' 4 k ∧ _ = G' 5 k
            rw [gq _ _ (by omega) (by omega) (by omega), gq _ _ (by omega) (by omega) (by omega)]
            simp (disch := omega) only [gx_st_q]; exact c k hk
          · show _ = G' (6 + i) s
            rw [gq _ _ (by omega) (by omega) (by omega)]
            simp (disch := omega) only [gx_st_q]; exact d s i hs hi
          · simp (disch := omega) only [gx_st_q]; exact (h2 j hj).1
          · simp (disch := omega) only [gx_st_q]; exact (h2 j hj).2.1
          · show _ = qD A 3 j
            by_cases z : j = o
            · subst z
              simp (disch := omega) only [gx_st_q, gx_st_eq]
              rcases (hA.2.2.1.1 j hj).2.2 with w | w
              · exact w.symm
              · have : qG A 2 j = 0 := hA.2.1 j (by omega)
                rw [this] at w
                exact absurd w.2 (by decide)
            · simp (disch := omega) only [gx_st_q, gx_st_j]; exact (h2 j hj).2.2
          · simp (disch := omega) only [gx_st_q, gx_st_j]; exact h3
          · simp (disch := omega) only [gx_st_q, gx_st_j]; exact h4.2.1
          · simp (disch := omega) only [gx_st_q, gx_st_j]; exact h4.2.2 j hj
          · simp (disch := omega) only [gx_st_q, gx_st_j]; exact h5
          · simp (disch := omega) only [gx_st_q, gx_st_j]; exact h6
          · simp (disch := omega) only [gx_st_q, gx_st_j]; exact (h7 t ht).2.1
          · simp (disch := omega) only [gx_st_q, gx_st_j]; exact (h7 t ht).2.2 j hj
        · refine RK_G hK (fun q j hq => by simp (disch := omega) only [gx_st_q]) (fun q j hq => ?_) (by show nO (qG A) ≤ nO G'; omega) (by show nP (qG A) ≤ nP G'; omega) (fun j hj => ?_) (fun K ko hK3 _ _ w => ⟨hwD K hK3 w.1, hzD K w.2⟩)
          · rcases hq with ⟨rfl, hq⟩ | hq
            · simp (disch := omega) only [gx_st_q, gx_st_j]
            · simp (disch := omega) only [gx_st_q]
          · show G' 2 j = qG A 2 j
            rw [g2, if_neg (by omega)]
      · rw [if_neg z, if_pos (by omega)]; exact cSS_s h
    · rw [k3, k4, cp_s, cp_s, if_neg i10, if_pos rfl]; exact cSS_s h
  · rw [g3, g4, cp_s, cp_s, if_neg i10, if_pos rfl]; exact cSS_s h

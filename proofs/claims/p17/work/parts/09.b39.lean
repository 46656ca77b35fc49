/-! b39: an image kept and restored; counts -/
theorem RS_W {A : rA} {S S' D' : gx_S} (hG : wG (qG A)) (h : RS A S) (f : ∀ q j, ((1 ≤ q ∧ q < 22) ∨ (q = 0 ∧ (j = 10 ∨ j = 11)) ∨ (65 < q ∧ q < 76)) → S' q j = S q j) (hc : qc A ≤ 4) (hd : vD 0 D' S') : RS (qG A, D', A.2.2) S' := by
  obtain ⟨h1, h2, h3, h4, h5, h6⟩ := h
  have hN := (wG_S hG).2
  refine ⟨⟨fun q j a b => (f q j (by omega)).trans (h1.1 q j a b), fun s k hs hk => (f _ k (by have : s < nS (qG A) := hs; omega)).trans (h1.2 s k hs hk)⟩, hd, ⟨h3.1, ?_, fun j hj => ?_⟩, ?_, ?_, fun t ht => ⟨(h6 t ht).1, ?_, fun j hj => ?_⟩⟩
  · rw [f _ _ (by omega)]; exact h3.2.1
  · rw [f _ _ (by omega)]; exact h3.2.2 j hj
  · rw [f _ _ (by omega)]; exact h4
  · rw [f _ _ (by omega)]; exact h5
  · have : qc (qG A, D', A.2.2) = qc A := rfl
    rw [this] at ht
    rw [f _ _ (by omega)]; exact (h6 t ht).2.1
  · have : qc (qG A, D', A.2.2) = qc A := rfl
    rw [this] at ht
    rw [f _ _ (by omega)]; exact (h6 t ht).2.2 j hj
theorem RT_W {A : rA} {T T' D' : gx_S} (h : RT A T) (f : ∀ q j, q < 12 → q ≠ 3 → q ≠ 4 → q ≠ 7 → (q ≠ 0 ∨ j < 17 ∨ j = 23) → T' q j = T q j) (hd : uD D' T') : RT (qG A, D', A.2.2) T' := by
  obtain ⟨⟨⟨a1, a2, a3⟩, b, c, d⟩, h2, h3, h4, h5, h6, h7⟩ := h
  refine ⟨⟨⟨?_, ?_, ?_⟩, fun o ho => ?_, fun k hk => ?_, fun s i hs hi => ?_⟩, hd, ?_, ⟨h4.1, ?_, fun j hj => ?_⟩, ?_, ?_, fun t ht => ⟨(h7 t ht).1, ?_, fun j hj => ?_⟩⟩
  · rw [f _ _ (by omega) (by omega) (by omega) (by omega) (by omega)]; exact a1
  · rw [f _ _ (by omega) (by omega) (by omega) (by omega) (by omega)]; exact a2
  · rw [f _ _ (by omega) (by omega) (by omega) (by omega) (by omega)]; exact a3
  · rw [f _ _ (by omega) (by omega) (by omega) (by omega) (by omega), f _ _ (by omega) (by omega) (by omega) (by omega) (by omega)]; exact b o ho
  · rw [f _ _ (by omega) (by omega) (by omega) (by omega) (by omega), f _ _ (by omega) (by omega) (by omega) (by omega) (by omega)]; exact c k hk
  · rw [f _ _ (by omega) (by omega) (by omega) (by omega) (by omega)]; exact d s i hs hi
  · rw [f _ _ (by omega) (by omega) (by omega) (by omega) (by omega)]; exact h3
  · rw [f _ _ (by omega) (by omega) (by omega) (by omega) (by omega)]; exact h4.2.1
  · rw [f _ _ (by omega) (by omega) (by omega) (by omega) (by omega)]; exact h4.2.2 j hj
  · rw [f _ _ (by omega) (by omega) (by omega) (by omega) (by omega)]; exact h5
  · rw [f _ _ (by omega) (by omega) (by omega) (by omega) (by omega)]; exact h6
  · rw [f _ _ (by omega) (by omega) (by omega) (by omega) (by omega)]; exact (h7 t ht).2.1
  · rw [f _ _ (by omega) (by omega) (by omega) (by omega) (by omega)]; exact (h7 t ht).2.2 j hj
/-- an owner beyond the last is not in -/
theorem in_0 {G D : gx_S} (hz : zG G) (hw : wD G D) {j : Nat} (hj : j < 6) (hn : nO G ≤ j) : D 3 j = 0 := by
  rcases (hw.1 j hj).2.2 with e | ⟨_, e⟩
  · exact e
  · rw [hz j hn] at e
    exact absurd e (by decide)
theorem u_image {G D T' : gx_S} (hw : wD G D) (hd : uD D T') : gt (gx_loop n_image_23 5000 (0, T')) fun t => t.1 = T' 0 4 ∧ (∀ q i, (q < 12 ∨ 14 < q) → t.2 q i = T' q i) ∧ ∀ i, i < 6 → t.2 12 i = D 1 i ∧ t.2 13 i = D 2 i ∧ t.2 14 i = D 3 i := by
  refine gt_for 6 (fun j t => t.1 = nn j ∧ (∀ q i, (q < 12 ∨ 14 < q) → t.2 q i = T' q i) ∧ ∀ i, i < j → t.2 12 i = D 1 i ∧ t.2 13 i = D 2 i ∧ t.2 14 i = D 3 i) ?_ ?_ 0 5000 _ (by omega) ⟨rfl, fun _ _ _ => rfl, fun i hi => absurd hi (by omega)⟩ (by omega)
  · rintro j ⟨_, U⟩ k hj ⟨rfl, f, g⟩ hk
    simp only at f g
    simp only [n_image_23]
    obtain ⟨u1, u2, u3⟩ := hd j hj
    have v1 : U 7 j = D 1 j := by rw [f _ _ (by omega)]; exact u1
    have v2 : U 4 j = D 2 j := by rw [f _ _ (by omega)]; exact u2
    have v3 : U 3 j = D 3 j := by rw [f _ _ (by omega)]; exact u3
    rw [if_neg (show ¬ (6 : Int32) ≤ nn j by rw [show (6 : Int32) = nn 6 from rfl, nn_le (by omega) (by omega)]; omega)]
    simp (disch := omega) only [ck_n, nn_c, let_s, gx_st_q, v1, v2, v3, nn_s]
    rw [nar_b (wD_1 hw hj)]
    refine hk _ ⟨rfl, fun q i hq => ?_, fun i hi => ?_⟩
    · simp only
      rw [gx_st_q _ _ _ _ (by omega), gx_st_q _ _ _ _ (by omega), gx_st_q _ _ _ _ (by omega)]; exact f q i hq
    · simp only
      by_cases z : i = j
      · subst z
        refine ⟨?_, ?_, ?_⟩
        · rw [gx_st_q _ _ _ _ (by omega), gx_st_q _ _ _ _ (by omega), gx_st_eq]
        · rw [gx_st_q _ _ _ _ (by omega), gx_st_eq]
        · rw [gx_st_eq]
      · obtain ⟨g1, g2, g3⟩ := g i (by omega)
        refine ⟨?_, ?_, ?_⟩
        · rw [gx_st_q _ _ _ _ (by omega), gx_st_q _ _ _ _ (by omega), gx_st_j _ _ _ z]; exact g1
        · rw [gx_st_q _ _ _ _ (by omega), gx_st_j _ _ _ z, gx_st_q _ _ _ _ (by omega)]; exact g2
        · rw [gx_st_j _ _ _ z, gx_st_q _ _ _ _ (by omega), gx_st_q _ _ _ _ (by omega)]; exact g3
  · rintro ⟨_, U⟩ k ⟨rfl, f, g⟩
    simp only at f g
    simp only [n_image_23]
    rw [if_pos (show (6 : Int32) ≤ nn 6 from Int32.le_refl _)]
    exact gt_some ⟨f _ _ (by omega), f, g⟩
theorem st_image {S T : gx_S} (h : RR S T) : cSS (m_ShopsAsOne_image S) (n_image T) := by
  obtain ⟨A, hA, hS, hT, hK⟩ := id h
  have hw := hA.2.2.1
  have hc := hA.2.2.2.2.1
  have cS := RS_c hA hS
  have cT := RT_c hA hT
  have eA : ((qG A, qD A, A.2.2) : rA) = A := rfl
  unfold m_ShopsAsOne_image n_image
  refine gt_cp (x_become (r := 2) (r1 := 0) (by omega) hw hS.2.1) (fun S2 hS2 => ?_)
  obtain ⟨f2, d2⟩ := hS2
  have e0 : S2 1 0 = nn (nO (qG A)) := by rw [f2 _ _ (by omega)]; exact cS.1
  have e1 : S2 1 1 = nn (nP (qG A)) := by rw [f2 _ _ (by omega)]; exact cS.2.1
  refine gt_let (gt_let (gt_let ?_))
  rw [gx_st_q _ (q := 0) (q' := 1) _ _ _ (by omega), e0]
  rw [gx_st_q _ (q := 0) (q' := 1) _ _ _ (by omega), gx_st_q _ (q := 0) (q' := 1) _ _ _ (by omega), e1]
  obtain ⟨S', hS'⟩ : ∃ S', S' = gx_st (gx_st (gx_st S2 0 12 1) 0 13 (nn (nO (qG A)))) 0 14 (nn (nP (qG A))) := ⟨_, rfl⟩
  obtain ⟨T', hT'⟩ : ∃ T', T' = gx_st (gx_st (gx_st T 0 17 1) 0 18 (nn (nO (qG A)))) 0 19 (nn (nP (qG A))) := ⟨_, rfl⟩
  have s12 : S' 0 12 = 1 := by rw [hS', gx_st_j _ _ _ (by omega), gx_st_j _ _ _ (by omega), gx_st_eq]
  have s13 : S' 0 13 = nn (nO (qG A)) := by rw [hS', gx_st_j _ _ _ (by omega), gx_st_eq]
  have s14 : S' 0 14 = nn (nP (qG A)) := by rw [hS', gx_st_eq]
  have t17 : T' 0 17 = 1 := by rw [hT', gx_st_j _ _ _ (by omega), gx_st_j _ _ _ (by omega), gx_st_eq]
  have t18 : T' 0 18 = nn (nO (qG A)) := by rw [hT', gx_st_j _ _ _ (by omega), gx_st_eq]
  have t19 : T' 0 19 = nn (nP (qG A)) := by rw [hT', gx_st_eq]
  have fS : ∀ q j, (q ≠ 0 ∨ j < 12 ∨ 14 < j) → S' q j = S2 q j := fun q j z => by
    rw [hS']
    by_cases w : q = 0
    · subst w
      rw [gx_st_j _ _ _ (by omega), gx_st_j _ _ _ (by omega), gx_st_j _ _ _ (by omega)]
    · rw [gx_st_q _ _ _ _ w, gx_st_q _ _ _ _ w, gx_st_q _ _ _ _ w]
  have fT : ∀ q j, (q ≠ 0 ∨ j < 17 ∨ 19 < j) → T' q j = T q j := fun q j z => by
    rw [hT']
    by_cases w : q = 0
    · subst w
      rw [gx_st_j _ _ _ (by omega), gx_st_j _ _ _ (by omega), gx_st_j _ _ _ (by omega)]
    · rw [gx_st_q _ _ _ _ w, gx_st_q _ _ _ _ w, gx_st_q _ _ _ _ w]
  rw [← hS', s14]
  refine gt_some (gt_let (gt_let (gt_let ?_)))
  rw [gx_st_j _ (j := 17) (j' := 0) _ _ (by omega), cT.1]
  rw [gx_st_j _ (j := 18) (j' := 4) _ _ (by omega), gx_st_j _ (j := 17) (j' := 4) _ _ (by omega), cT.2.1, ← hT']
  clear hS' hT'
  have uT' : uD (qD A) T' := fun j hj => by
    rw [fT _ _ (by omega), fT _ _ (by omega), fT _ _ (by omega)]; exact hT.2.1 j hj
  refine gt_mono (u_image hw uT') (fun r hr => ?_)
  obtain ⟨r1, f, g⟩ := hr
  have fU : ∀ q j, (q < 12 ∨ 14 < q) → (q ≠ 0 ∨ j < 17 ∨ 19 < j) → r.2 q j = T q j := fun q j a b => (f q j a).trans (fT q j b)
  have uU : uD (qD A) r.2 := fun j hj => by
    rw [f _ _ (by omega), f _ _ (by omega), f _ _ (by omega)]; exact uT' j hj
  have hRS : RS A S' := by
    have := RS_W (D' := qD A) (S' := S') hA.1 hS (fun q j hq => by rw [fS _ _ (by omega), f2 _ _ (by omega)]) hc (vD_f hS.2.1 (fun q j a b => by rw [fS _ _ (by omega), f2 _ _ (by omega)]))
    rw [eA] at this
    exact this
  have hRT : RT A r.2 := by
    have := RT_W (D' := qD A) (T' := r.2) hT (fun q j a b c d e => fU q j (by omega) (by omega)) uU
    rw [eA] at this
    exact this
  have hRK : RK (qG A) S' r.2 := by
    refine Or.inr ⟨s12, ?_, qD A, nO (qG A), nP (qG A), s13, ?_, s14, ?_, Nat.le_refl _, Nat.le_refl _, fun j hj => ⟨?_, ?_, g j hj⟩, fun j hj _ => ?_, fun j hj hn => in_0 hA.2.1 hw hj hn, fun j hj => (hw.1 j hj).2.2, fun _ => ⟨hw, hA.2.2.2.1⟩⟩
    · rw [f _ _ (by omega)]; exact t17
    · rw [f _ _ (by omega)]; exact t18
    · rw [f _ _ (by omega)]; exact t19
    · rw [fS _ _ (by omega)]; exact d2 1 j (by omega) (by omega) hj
    · rw [fS _ _ (by omega)]; exact d2 2 j (by omega) (by omega) hj
    · rw [fS _ _ (by omega)]; exact d2 3 j (by omega) (by omega) hj
  exact ⟨by rw [r1, fT _ _ (by omega), cT.2.1], A, hA, hRS, hRT, hRK⟩
theorem st_restore {S T : gx_S} (h : RR S T) : cSS (m_ShopsAsOne_restore S) (n_restore T) := by
  obtain ⟨A, hA, hS, hT, hK⟩ := id h
  have hw := hA.2.2.1
  have hc := hA.2.2.2.2.1
  have hO := (wG_O hA.1).2
  have hP := (wG_P hA.1).2
  have cS := RS_c hA hS
  have cT := RT_c hA hT
  unfold m_ShopsAsOne_restore n_restore
  rcases id hK with ⟨k1, k2⟩ | ⟨k1, k2, K, ko, ks, k3, k4, k5, k6, k7, k8, k9, k10, k11, k12, k13⟩
  · rw [if_pos k1, if_pos k2]; exact cSS_s h
  · rw [if_neg (show ¬ S 0 12 = 0 by rw [k1]; exact i10), if_neg (show ¬ T 0 17 = 0 by rw [k2]; exact i10), k5, k6, cS.2.1, cT.2.1]
    by_cases e : ks = nP (qG A)
    · rw [if_pos (by rw [e]), if_pos (by rw [e]), k3]
      obtain ⟨wK, zK⟩ := k13 e
      obtain ⟨K', hK'⟩ : ∃ K' : gx_S, K' = fun i j => if i = 3 ∧ ko ≤ j ∧ j < nO (qG A) then qD A 3 j else K i j := ⟨_, rfl⟩
      have y1 : ∀ j, K' 1 j = K 1 j := fun j => by rw [hK']; simp
      have y2 : ∀ j, K' 2 j = K 2 j := fun j => by rw [hK']; simp
      have y3 : ∀ j, K' 3 j = if ko ≤ j ∧ j < nO (qG A) then qD A 3 j else K 3 j := fun j => by rw [hK']; simp
      have y2' : K' 2 = K 2 := funext y2
      have wK' : wD (qG A) K' := by
        refine ⟨fun j hj => ⟨?_, ?_, ?_⟩, fun j hj => ?_, fun o ho => ?_⟩
        · rw [y1]; exact (wK.1 j hj).1
        · rw [y2]; exact (wK.1 j hj).2.1
        · rw [y3]; split
          · exact (hw.1 j hj).2.2
          · exact (wK.1 j hj).2.2
        · have : wh K' j = wh K j := by unfold wh; rw [y2]
          rw [this]; exact wK.2.1 j hj
        · have : cnt (qG A) K' o = cnt (qG A) K o := by
            unfold cnt cu
            exact cn_cg (fun j hj => by unfold ow; rw [y2])
          rw [this]; exact wK.2.2 o ho
      have zK' : zD (qG A) K' := fun j hj hn => by rw [y1, y2]; exact zK j hj hn
      have y3' : ∀ j, j < 6 → K' 3 j = if j < ko then K 3 j else qD A 3 j := fun j hj => by
        rw [y3]
        by_cases z : j < ko
        · rw [if_neg (by omega), if_pos z]
        · rw [if_neg z]
          by_cases z2 : j < nO (qG A)
          · rw [if_pos ⟨by omega, z2⟩]
          · rw [if_neg (by omega), k11 j hj (by omega), in_0 hA.2.1 hw hj (by omega)]
      -- the reference
      have right : ∀ S', (∀ q j, ((1 ≤ q ∧ q < 22) ∨ q = 0 ∨ (q = 30 ∨ q = 31) ∨ (65 < q ∧ q < 76)) → S' q j = S q j) → (∀ j, (j < ko ∨ nO (qG A) ≤ j) → S' 32 j = S 32 j) → vD 0 K' S' → gt (gx_loop n_restore_23 5000 (0, T)) fun r' => nn (nP (qG A)) = r'.1 ∧ RR S' r'.2 := fun S' fS f32 dS => by
        refine gt_for (nP (qG A)) (fun j t => t.1 = nn j ∧ (∀ q i, q ≠ 4 → q ≠ 7 → t.2 q i = T q i) ∧ (∀ i, i < j → t.2 7 i = K 1 i ∧ t.2 4 i = K 2 i) ∧ ∀ i, j ≤ i → t.2 7 i = T 7 i ∧ t.2 4 i = T 4 i) ?_ ?_ 0 5000 _ (by omega) ⟨rfl, fun _ _ _ _ => rfl, fun i hi => absurd hi (by omega), fun _ _ => ⟨rfl, rfl⟩⟩ (by omega)
        · rintro j ⟨_, U⟩ k hj ⟨rfl, f, g, g'⟩ hk
          simp only at f g g'
          simp only [n_restore_23]
          obtain ⟨_, _, u1, u2, _⟩ := k9 j (by omega)
          have v0 : U 0 4 = nn (nP (qG A)) := by rw [f _ _ (by omega) (by omega)]; exact cT.2.1
          have v1 : U 12 j = K 1 j := by rw [f _ _ (by omega) (by omega)]; exact u1
          have v2 : U 13 j = K 2 j := by rw [f _ _ (by omega) (by omega)]; exact u2
          rw [v0, if_neg (show ¬ nn (nP (qG A)) ≤ nn j by rw [nn_le (by omega) (by omega)]; omega)]
          simp (disch := omega) only [ck_n, nn_c, let_s, gx_st_q, v1, v2, nn_s]
          refine hk _ ⟨rfl, fun q i a b => ?_, fun i hi => ?_, fun i hi => ?_⟩
          · simp only
            rw [gx_st_q _ _ _ _ a, gx_st_q _ _ _ _ b]; exact f q i a b
          · simp only
            rw [gx_st_q _ (q := 4) (q' := 7) _ _ _ (by omega)]
            by_cases z : i = j
            · subst z; rw [gx_st_eq, gx_st_eq]; exact ⟨rfl, rfl⟩
            · rw [gx_st_j _ _ _ z, gx_st_j _ _ _ z, gx_st_q _ _ _ _ (by omega)]
              exact g i (by omega)
          · simp only
            rw [gx_st_q _ (q := 4) (q' := 7) _ _ _ (by omega), gx_st_j _ _ _ (by omega), gx_st_j _ _ _ (by omega), gx_st_q _ _ _ _ (by omega)]
            exact g' i (by omega)
        · rintro ⟨_, U⟩ k ⟨rfl, f, g, g'⟩
          simp only at f g g'
          simp only [n_restore_23]
          have v0 : U 0 4 = nn (nP (qG A)) := by rw [f _ _ (by omega) (by omega)]; exact cT.2.1
          rw [v0, if_pos (Int32.le_refl _)]
          clear k
          have uU : ∀ j, j < 6 → U 7 j = K 1 j ∧ U 4 j = K 2 j := fun j hj => by
            by_cases z : j < nP (qG A)
            · exact g j z
            · obtain ⟨a1, a2⟩ := g' j (by omega)
              obtain ⟨b1, b2⟩ := zK j hj (by omega)
              obtain ⟨c1, c2⟩ := hA.2.2.2.1 j hj (by omega)
              obtain ⟨d1, d2, _⟩ := hT.2.1 j hj
              rw [a1, a2, b1, b2, d1, d2, c1, c2]; exact ⟨rfl, rfl⟩
          refine gt_for ko (fun j t => t.1 = nn j ∧ (∀ q i, q ≠ 3 → t.2 q i = U q i) ∧ (∀ i, i < j → t.2 3 i = K 3 i) ∧ ∀ i, j ≤ i → t.2 3 i = T 3 i) ?_ ?_ 0 5000 _ (by omega) ⟨rfl, fun _ _ _ => rfl, fun i hi => absurd hi (by omega), fun i _ => f _ _ (by omega) (by omega)⟩ (by omega)
          · rintro j ⟨_, V⟩ k hj ⟨rfl, f1, g1, g1'⟩ hk
            simp only at f1 g1 g1'
            simp only [n_restore_63]
            obtain ⟨_, _, _, _, u3⟩ := k9 j (by omega)
            have w0' : V 0 18 = nn ko := by rw [f1 _ _ (by omega), f _ _ (by omega) (by omega)]; exact k4
            have w1 : V 14 j = K 3 j := by rw [f1 _ _ (by omega), f _ _ (by omega) (by omega)]; exact u3
            rw [w0', if_neg (show ¬ nn ko ≤ nn j by rw [nn_le (by omega) (by omega)]; omega)]
            simp (disch := omega) only [ck_n, nn_c, let_s, w1, nn_s]
            rw [nar_b (wD_1 wK (j := j) (by omega))]
            refine hk _ ⟨rfl, fun q i a => ?_, fun i hi => ?_, fun i hi => ?_⟩
            · simp only
              rw [gx_st_q _ _ _ _ a]; exact f1 q i a
            · simp only
              by_cases z : i = j
              · subst z; rw [gx_st_eq]
              · rw [gx_st_j _ _ _ z]; exact g1 i (by omega)
            · simp only
              rw [gx_st_j _ _ _ (by omega)]; exact g1' i (by omega)
          · rintro ⟨_, V⟩ k ⟨rfl, f1, g1, g1'⟩
            simp only at f1 g1 g1'
            simp only [n_restore_63]
            have w0' : V 0 18 = nn ko := by rw [f1 _ _ (by omega), f _ _ (by omega) (by omega)]; exact k4
            rw [w0', if_pos (Int32.le_refl _)]
            have fV : ∀ q i, q ≠ 3 → q ≠ 4 → q ≠ 7 → V q i = T q i := fun q i a b c => (f1 q i a).trans (f q i b c)
            refine gt_some ⟨?_, (qG A, K', A.2.2), ⟨hA.1, hA.2.1, wK', zK', hA.2.2.2.2⟩, RS_W hA.1 hS (fun q j hq => fS q j (by omega)) hc dS, RT_W hT (fun q j a b c d e => fV q j b c d) (fun j hj => ?_), Or.inr ⟨?_, ?_, K, ko, ks, ?_, ?_, ?_, ?_, k7, k8, fun j hj => ?_, fun j hj hn => ?_, k11, k12, k13⟩⟩
            · show nn (nP (qG A)) = V 0 4
              rw [f1 _ _ (by omega)]; exact v0.symm
            · show V 7 j = K' 1 j ∧ V 4 j = K' 2 j ∧ V 3 j = K' 3 j
              rw [f1 7 j (by omega), f1 4 j (by omega), y1, y2, y3' j hj]
              refine ⟨(uU j hj).1, (uU j hj).2, ?_⟩
              by_cases z : j < ko
              · rw [if_pos z]; exact g1 j z
              · rw [if_neg z, g1' j (by omega)]; exact (hT.2.1 j hj).2.2
            · rw [fS _ _ (by omega)]; exact k1
            · show V 0 17 = 1
              rw [fV _ _ (by omega) (by omega) (by omega)]; exact k2
            · rw [fS _ _ (by omega)]; exact k3
            · show V 0 18 = nn ko
              rw [fV _ _ (by omega) (by omega) (by omega)]; exact k4
            · rw [fS _ _ (by omega)]; exact k5
            · show V 0 19 = nn ks
              rw [fV _ _ (by omega) (by omega) (by omega)]; exact k6
            · show S' 30 j = K 1 j ∧ S' 31 j = K 2 j ∧ V 12 j = K 1 j ∧ V 13 j = K 2 j ∧ V 14 j = K 3 j
              rw [fS _ _ (by omega), fS _ _ (by omega), fV _ _ (by omega) (by omega) (by omega), fV _ _ (by omega) (by omega) (by omega), fV _ _ (by omega) (by omega) (by omega)]; exact k9 j hj
            · rw [f32 _ hn]; exact k10 j hj hn
      refine gt_for (nO (qG A)) (fun j t => t.1 = nn j ∧ ko ≤ j ∧ (∀ q i, q ≠ 32 → t.2 q i = S q i) ∧ (∀ i, ko ≤ i → i < j → t.2 32 i = qD A 3 i) ∧ ∀ i, (i < ko ∨ j ≤ i) → t.2 32 i = S 32 i) ?_ ?_ ko 5000 _ k7 ⟨rfl, Nat.le_refl _, fun _ _ _ => rfl, fun i h1 h2 => absurd h1 (by omega), fun _ _ => rfl⟩ (by omega)
      · rintro j ⟨_, U⟩ k hj ⟨rfl, hjk, f, g, g'⟩ hk
        simp only at f g g'
        simp only [m_ShopsAsOne_restore_29]
        have v0 : U 1 0 = nn (nO (qG A)) := by rw [f _ _ (by omega)]; exact cS.1
        have v1 : U 24 j = qD A 3 j := by rw [f _ _ (by omega)]; exact hS.2.1 3 j (by omega) (by omega) (by omega)
        rw [v0, if_neg (show ¬ nn (nO (qG A)) ≤ nn j by rw [nn_le (by omega) (by omega)]; omega)]
        simp (disch := omega) only [ck_n, nn_c, let_s, v1, nn_s]
        rw [nar_b (wD_1 hw (j := j) (by omega))]
        refine hk _ ⟨rfl, by omega, fun q i a => ?_, fun i h1 h2 => ?_, fun i hi => ?_⟩
        · simp only
          rw [gx_st_q _ _ _ _ a]; exact f q i a
        · simp only
          by_cases z : i = j
          · subst z; rw [gx_st_eq]
          · rw [gx_st_j _ _ _ z]; exact g i h1 (by omega)
        · simp only
          rw [gx_st_j _ _ _ (by omega)]; exact g' i (by omega)
      · rintro ⟨_, U⟩ k ⟨rfl, hjk, f, g, g'⟩
        simp only at f g g'
        simp only [m_ShopsAsOne_restore_29]
        have v0 : U 1 0 = nn (nO (qG A)) := by rw [f _ _ (by omega)]; exact cS.1
        rw [v0, if_pos (Int32.le_refl _)]
        have d2 : vD 2 K' U := fun i j a b hj => by
          obtain ⟨p1, p2, _⟩ := k9 j hj
          match i, a, b with
          | 1, _, _ =>
            show U 30 j = K' 1 j
            rw [y1, f _ _ (by omega)]; exact p1
          | 2, _, _ =>
            show U 31 j = K' 2 j
            rw [y2, f _ _ (by omega)]; exact p2
          | 3, _, _ =>
            show U 32 j = K' 3 j
            rw [y3]
            by_cases z : ko ≤ j ∧ j < nO (qG A)
            · rw [if_pos z]; exact g j z.1 z.2
            · rw [if_neg z, g' j (by omega)]
              exact k10 j hj (by omega)
        refine gt_cp (x_become (r := 0) (r1 := 2) (by omega) wK' d2) (fun V hV => ?_)
        obtain ⟨f3, d3⟩ := hV
        have v5 : V 0 14 = nn (nP (qG A)) := by rw [f3 _ _ (by omega), f _ _ (by omega), k5, e]
        rw [v5]
        exact gt_some (right V (fun q j hq => by rw [f3 _ _ (by omega), f _ _ (by omega)]) (fun j hj => by rw [f3 _ _ (by omega)]; exact g' j hj) d3)
    · have hne : ¬ nn ks = nn (nP (qG A)) := by rw [nn_eq (by omega) (by omega)]; exact e
      rw [if_neg hne, if_neg hne]; exact cSS_s h
/-! counts -/
def hmV (A : rA) (x : Int32) : Int32 := if x = 0 then nn (nO (qG A)) else if x = 1 then nn (nP (qG A)) else if x = 2 then nn (nS (qG A)) else if x = 3 then nn (qc A) else if x = 4 then nn (qn A) else if x = 5 then all (qG A) (qD A) else if x = 6 then nn (qw A) else -102
theorem so_all {G D : gx_S} (hG : wG G) : tot G D (gSo (-1)) = all G D := by
  have hP := (wG_P hG).2
  have hb : ∀ k, k < 6 → gSo (-1) k = 1 := by
    intro k hk
    have : ∀ k, k < 6 → bi (-1) k = 1 := by unfold bi; decide +kernel
    unfold gSo
    rw [if_pos (this k hk)]
  unfold tot all
  refine sm_cg (fun s hs => ?_)
  rw [sx_d]
  rcases cho_n G D s (-1) with e | ⟨i, hi, e, _⟩
  · rw [if_pos e, if_pos e]
  · rw [e, if_neg (nn_m1 (by omega)), if_neg (nn_m1 (by omega)), nn_c (by omega), hb i (by omega), Int32.mul_one]
theorem x_count {A : rA} {S : gx_S} (hA : RA A) (hS : RS A S) (x : Int32) : m_ShopsAsOne_count x S = some (hmV A x) := by
  have c := RS_c hA hS
  unfold m_ShopsAsOne_count hmV
  rw [c.1, c.2.1, c.2.2, hS.2.2.2.1, hS.2.2.2.2.1, show S 66 1 = nn (qn A) from hS.2.2.1.2.1, x_soldBy (pX_R hA hS), cp_s, so_all hA.1]
  repeat' split
  all_goals rfl
theorem u_count {A : rA} {T : gx_S} (hA : RA A) (hT : RT A T) (x : Int32) : gt (n_howMany x T) fun r => r.1 = hmV A x ∧ f15 T r.2 := by
  have c := RT_c hA hT
  have r : f15 T T := fun _ _ _ => rfl
  unfold n_howMany hmV
  refine gt_ite (fun z => gt_some ⟨by rw [if_pos z]; exact c.1, r⟩) (fun z => ?_)
  rw [if_neg z]
  refine gt_ite (fun z => gt_some ⟨by rw [if_pos z]; exact c.2.1, r⟩) (fun z => ?_)
  rw [if_neg z]
  refine gt_ite (fun z => gt_some ⟨by rw [if_pos z]; exact c.2.2, r⟩) (fun z => ?_)
  rw [if_neg z]
  refine gt_ite (fun z => gt_some ⟨by rw [if_pos z]; exact hT.2.2.2.2.1, r⟩) (fun z => ?_)
  rw [if_neg z]
  refine gt_ite (fun z => gt_some ⟨by rw [if_pos z]; exact hT.2.2.2.1.2.1, r⟩) (fun z => ?_)
  rw [if_neg z]
  refine gt_ite (fun z => ?_) (fun z => ?_)
  · rw [if_pos z]
    exact gt_cs (u_laySold (pU_R hA hT)) (fun v U hU => gt_some ⟨hU.1, hU.2.1⟩)
  rw [if_neg z]
  exact gt_ite (fun z => gt_some ⟨by rw [if_pos z]; exact hT.2.2.2.2.2.1, r⟩) (fun z => gt_some ⟨by rw [if_neg z], r⟩)
theorem st_count {S T : gx_S} (h : RR S T) (x : Int32) : cPS S (m_ShopsAsOne_count x S) (n_count x T) := by
  obtain ⟨A, hA, hS, hT, hK⟩ := id h
  unfold n_count
  rw [x_count hA hS]
  exact gt_some (gt_cs (u_count hA hT x) (fun v U hU => gt_some ⟨hU.1.symm, RR_f hA hS hT hK (fP_r S) (f15_Q hU.2)⟩))

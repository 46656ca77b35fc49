/-! b36: letters, the page, tests -/
theorem RR_L {A : rA} {S T S' T' : gx_S} {n : Nat} {L : Nat → Nat} (hA : RA A) (hS : RS A S) (hT : RT A T) (hK : RK (qG A) S T) (f : ∀ q j, q ≠ 66 → q ≠ 67 → S' q j = S q j) (g : ∀ q j, (q ≠ 0 ∨ j ≠ 14) → q ≠ 11 → T' q j = T q j) (hv : vT 0 n L S') (hu : uT n L T') : RR S' T' := by
  refine ⟨(qG A, qD A, n, L, A.2.2.2.2), ⟨hA.1, hA.2.1, hA.2.2.1, hA.2.2.2.1, hA.2.2.2.2⟩, ?_, ?_, RK_f hK (fun q j h => f q j (by omega) (by omega)) (fun q j h => g q j (by omega) (by omega))⟩
  · obtain ⟨h1, h2, h3, h4, h5, h6⟩ := hS
    have hc := hA.2.2.2.2.1
    refine ⟨vG_f h1 (wG_S hA.1).2 (fun q j hq => f q j (by omega) (by omega)), vD_f h2 (fun q j a b => f q j (by omega) (by omega)), hv, ?_, ?_, fun t ht => ⟨(h6 t ht).1, ?_, fun j hj => ?_⟩⟩
    · rw [f _ _ (by omega) (by omega)]; exact h4
    · rw [f _ _ (by omega) (by omega)]; exact h5
    · rw [f _ _ (by omega) (by omega)]; exact (h6 t ht).2.1
    · rw [f _ _ (by omega) (by omega)]; exact (h6 t ht).2.2 j hj
  · obtain ⟨⟨⟨a1, a2, a3⟩, b, c, d⟩, h2, h3, h4, h5, h6, h7⟩ := hT
    refine ⟨⟨⟨?_, ?_, ?_⟩, fun o ho => ?_, fun k hk => ?_, fun s i hs hi => ?_⟩, fun j hj => ?_, ?_, hu, ?_, ?_, fun t ht => ⟨(h7 t ht).1, ?_, fun j hj => ?_⟩⟩
    · rw [g _ _ (by omega) (by omega)]; exact a1
    · rw [g _ _ (by omega) (by omega)]; exact a2
    · rw [g _ _ (by omega) (by omega)]; exact a3
    · rw [g _ _ (by omega) (by omega), g _ _ (by omega) (by omega)]; exact b o ho
    · rw [g _ _ (by omega) (by omega), g _ _ (by omega) (by omega)]; exact c k hk
    · rw [g _ _ (by omega) (by omega)]; exact d s i hs hi
    · rw [g _ _ (by omega) (by omega), g _ _ (by omega) (by omega), g _ _ (by omega) (by omega)]; exact h2 j hj
    · rw [g _ _ (by omega) (by omega)]; exact h3
    · rw [g _ _ (by omega) (by omega)]; exact h5
    · rw [g _ _ (by omega) (by omega)]; exact h6
    · rw [g _ _ (by omega) (by omega)]; exact (h7 t ht).2.1
    · rw [g _ _ (by omega) (by omega)]; exact (h7 t ht).2.2 j hj
theorem st_letters {S T : gx_S} (h : RR S T) (w : Int64) : cSS (m_ShopsAsOne_letters w S) (n_letters w T) := by
  obtain ⟨A, hA, hS, hT, hK⟩ := id h
  refine gt_mono (x_letters hS.2.2.1 w) (fun r hr => gt_mono (u_letters hT.2.2.2.1 w) (fun r' hr' => ?_))
  cases hg : lt_go w 8 0 0 0 with
  | none =>
    rw [hg] at hr hr'
    obtain ⟨e1, e2⟩ := hr
    obtain ⟨e3, e4⟩ := hr'
    rw [e1, e2, e3, e4]
    exact ⟨rfl, h⟩
  | some g =>
    rw [hg] at hr hr'
    obtain ⟨m, e, hm, hh⟩ := hr
    obtain ⟨m', e', hm', hh'⟩ := hr'
    have : m' = m := by
      rw [e] at e'
      exact ((nn_eq (by omega) (by omega)).mp e').symm
    subst this
    rcases hh with ⟨q1, q2, q3⟩ | ⟨q1, q2, q3, q4⟩ <;> rcases hh' with ⟨p1, p2, p3⟩ | ⟨p1, p2, p3, p4⟩
    · rw [q2, q3, p2, p3]; exact ⟨rfl, h⟩
    · omega
    · omega
    · rw [q2, p2]; exact ⟨rfl, RR_L hA hS hT hK q3 p3 q4 p4⟩
theorem st_blank {S T : gx_S} (h : RR S T) : cSS (m_ShopsAsOne_blank S) (n_blank T) := by
  obtain ⟨A, hA, hS, hT, hK⟩ := id h
  unfold m_ShopsAsOne_blank n_blank
  refine gt_let (gt_some (gt_let (gt_some ⟨?_, RR_L (n := 0) (L := fun _ => 0) hA hS hT hK (fun q j a b => gx_st_q _ _ _ _ a) (fun q j a b => ?_) ⟨by omega, gx_st_eq S 66 1 0, fun j hj => absurd hj (by omega)⟩ ⟨by omega, gx_st_eq T 0 14 0, fun j hj => absurd hj (by omega)⟩⟩)))
  · show S 66 1 = T 0 14
    rw [show S 66 1 = nn (qn A) from hS.2.2.1.2.1, hT.2.2.2.1.2.1]
  · by_cases z : q = 0
    · subst z; exact gx_st_j T 0 0 (by omega)
    · exact gx_st_q T 14 j 0 z
theorem f76_P {S T : gx_S} (f : f76 S T) : fP S T := fun q j a => f q j (by omega)
theorem st_fault {S T : gx_S} (h : RR S T) : cSS (m_ShopsAsOne_fault S) (n_fault T) := by
  obtain ⟨A, hA, hS, hT, hK⟩ := id h
  unfold m_ShopsAsOne_fault n_fault
  refine gt_cs (x_firstFault hS.2.2.1 (by omega)) (fun v S1 hS1 => gt_some (gt_cp (u_readPage hT.2.2.2.1) (fun T1 hT1 => gt_some ?_)))
  obtain ⟨f1, e1, _⟩ := hS1
  obtain ⟨g1, e2, _⟩ := hT1
  simp only at f1 e1
  exact ⟨by rw [e1, e2], RR_f hA hS hT hK (f76_P f1) (fun q j a b => g1 q j (by omega))⟩
theorem x_textBecome {r n : Nat} {L : Nat → Nat} {S : gx_S} (h : vT 0 n L S) (hr : 0 < r) : gt (m_Text_become r 0 S) fun T => (∀ q j, (q ≠ 66 + 2 * r ∨ j ≠ 1) → q ≠ 66 + 2 * r + 1 → T q j = S q j) ∧ vT r n L T := by
  obtain ⟨h1, h2, h3⟩ := h
  unfold m_Text_become
  refine gt_let ?_
  rw [h2]
  refine gt_for n (fun j t => t.1 = nn j ∧ (∀ q i, (q ≠ 66 + 2 * r ∨ i ≠ 1) → q ≠ 66 + 2 * r + 1 → t.2 q i = S q i) ∧ t.2 (66 + 2 * r) 1 = nn n ∧ ∀ i, i < j → t.2 (66 + 2 * r + 1) i = nn (L i)) ?_ ?_ 0 5000 _ (by omega) ⟨rfl, fun q i a b => ?_, gx_st_eq _ _ _ _, fun i hi => absurd hi (by omega)⟩ (by omega)
  · rintro j ⟨_, T⟩ k hj ⟨rfl, f, g1, g2⟩ hk
    simp only at f g1 g2
    simp only [m_Text_become_10]
    have e : T (66 + 2 * 0 + 1) j = nn (L j) := by rw [f _ _ (by omega) (by omega)]; exact (h3 j hj).1
    rw [g1]
    simp (disch := omega) only [nn_le, ck_n, nn_c, let_s, nn_s, e]
    rw [if_neg (by omega), (nar_c (L j) (by have := (h3 j hj).2; omega)).1]
    refine hk _ ⟨rfl, fun q i a b => ?_, ?_, fun i hi => ?_⟩
    · simp only
      rw [gx_st_q _ _ _ _ b]; exact f q i a b
    · simp only
      rw [gx_st_q _ _ _ _ (by omega)]; exact g1
    · simp only
      by_cases z : i = j
      · subst z; rw [gx_st_eq]
      · rw [gx_st_j _ _ _ z]; exact g2 i (by omega)
  · rintro ⟨_, T⟩ k ⟨rfl, f, g1, g2⟩
    simp only at f g1 g2
    simp only [m_Text_become_10]
    rw [g1, if_pos (Int32.le_refl _)]
    exact gt_some ⟨f, h1, g1, fun j hj => ⟨g2 j hj, (h3 j hj).2⟩⟩
  · simp only
    by_cases z : q = 66 + 2 * r
    · subst z; exact gx_st_j _ _ _ (by omega)
    · exact gx_st_q _ _ _ _ z
/-- the page becomes the reference's test c -/
theorem u_test {n c : Nat} {L : Nat → Nat} {S : gx_S} (h : uT n L S) (hc : c < 4) (e11 : S 0 11 = nn c) : gt (gx_loop n_test_27 5000 (0, S)) fun t => t.1 = nn c ∧ t.2 0 14 = 0 ∧ t.2 0 11 = nn (c + 1) ∧ uQ c n L t.2 ∧ (∀ q j, (q ≠ 0 ∨ (j ≠ 11 ∧ j ≠ 14)) → (q ≠ 9 ∨ j < 50 * c ∨ 50 * c + 50 ≤ j) → (q ≠ 10 ∨ j ≠ c) → t.2 q j = S q j) := by
  obtain ⟨h1, h2, h3⟩ := h
  refine gt_for n (fun j t => t.1 = nn j ∧ (∀ q i, (q ≠ 9 ∨ i < 50 * c ∨ 50 * c + 50 ≤ i) → t.2 q i = S q i) ∧ ∀ i, i < j → t.2 9 (50 * c + i) = nn (L i)) ?_ ?_ 0 5000 _ (by omega) ⟨rfl, fun _ _ _ => rfl, fun i hi => absurd hi (by omega)⟩ (by omega)
  · rintro j ⟨_, T⟩ k hj ⟨rfl, f, g⟩ hk
    simp only at f g
    simp only [n_test_27]
    have e1 : T 0 14 = nn n := by rw [f _ _ (by omega), h2]
    have e2 : T 0 11 = nn c := by rw [f _ _ (by omega), e11]
    have e3 : T 11 j = nn (L j) := by rw [f _ _ (by omega)]; exact (h3 j hj).1
    rw [e1, e2, show (50 : Int32) = nn 50 from rfl, nn_mul, nn_add]
    simp (disch := omega) only [nn_le, ck_n, nn_c, let_s, nn_s, e3]
    rw [if_neg (by omega), nar_y (L j) (by have := (h3 j hj).2; omega)]
    refine hk _ ⟨rfl, fun q i a => ?_, fun i hi => ?_⟩
    · simp only
      by_cases z : q = 9
      · subst z; rw [gx_st_j _ _ _ (by omega)]; exact f _ i a
      · rw [gx_st_q _ _ _ _ z]; exact f q i a
    · simp only
      by_cases z : i = j
      · subst z; rw [gx_st_eq]
      · rw [gx_st_j _ _ _ (by omega)]; exact g i (by omega)
  · rintro ⟨_, T⟩ k ⟨rfl, f, g⟩
    simp only at f g
    simp only [n_test_27]
    have e1 : T 0 14 = nn n := by rw [f _ _ (by omega), h2]
    have e2 : T 0 11 = nn c := by rw [f _ _ (by omega), e11]
    rw [e1, e2, if_pos (Int32.le_refl _)]
    simp (disch := omega) only [ck_n, nn_c, let_s, gx_st_q, e2, nn_s, gx_st_eq, gx_st_j]
    rw [nn_p (by omega), Nat.add_sub_cancel]
    refine gt_some ⟨rfl, ?_, ?_, ⟨h1, ?_, fun j hj => ⟨?_, (h3 j hj).2⟩⟩, fun q j a b d => ?_⟩
    · simp only
      exact gx_st_eq _ _ _ _
    · simp (disch := omega) only [gx_st_j, gx_st_eq]
    · simp (disch := omega) only [gx_st_q, gx_st_eq]
    · simp (disch := omega) only [gx_st_q]; exact g j hj
    · simp only
      have x1 : ∀ (U : gx_S) (v : Int32), gx_st U 0 14 v q j = U q j := fun U v => by
        by_cases z : q = 0
        · subst z; exact gx_st_j _ _ _ (by omega)
        · exact gx_st_q _ _ _ _ z
      have x2 : ∀ (U : gx_S) (v : Int32), gx_st U 0 11 v q j = U q j := fun U v => by
        by_cases z : q = 0
        · subst z; exact gx_st_j _ _ _ (by omega)
        · exact gx_st_q _ _ _ _ z
      have x3 : ∀ (U : gx_S) (v : Int32), gx_st U 10 c v q j = U q j := fun U v => by
        by_cases z : q = 10
        · subst z; exact gx_st_j _ _ _ (by omega)
        · exact gx_st_q _ _ _ _ z
      rw [x1, x2, x3]
      exact f q j b
theorem st_test {S T : gx_S} (h : RR S T) : cSS (m_ShopsAsOne_test S) (n_test T) := by
  obtain ⟨A, hA, hS, hT, hK⟩ := id h
  have hc := hA.2.2.2.2.1
  unfold m_ShopsAsOne_test n_test
  refine gt_cs (x_isTest hS.2.2.1 (by omega)) (fun v S1 hS1 => ?_)
  obtain ⟨f1, e1⟩ := hS1
  simp only at f1 e1
  have S1' : S1 0 10 = nn (qc A) := by rw [f1 _ _ (by omega)]; exact hS.2.2.2.1
  have right : ∀ P : Int32 × gx_S → Prop, (∀ T1, fQ T T1 → T1 0 36 = ib (isT (qn A) (qL A)) → gt (if T1 0 36 = 0 then some ((-103), T1) else if (T1 0 11) = 4 then some ((-104), T1) else gx_loop (n_test_27) 5000 (0, T1)) P) → gt (gx_cp (n_readPage T) fun S2 => if (S2 0 36) = 0 then some ((-103), S2) else if (S2 0 11) = 4 then some ((-104), S2) else gx_loop (n_test_27) 5000 (0, S2)) P := fun P hP =>
    gt_cp (u_readPage hT.2.2.2.1) (fun T1 hT1 => hP T1 (fun q j a b => hT1.1 q j (by omega)) hT1.2.2)
  have fp1 := f76_P f1
  rw [e1]
  cases hb : isT (qn A) (qL A) with
  | false =>
    rw [hb] at right
    rw [if_pos (show ib false = 0 from rfl)]
    refine gt_some (right _ (fun T1 g1 e2 => ?_))
    rw [if_pos (show T1 0 36 = 0 from e2)]
    exact gt_some ⟨rfl, RR_f hA hS hT hK fp1 g1⟩
  | true =>
    rw [hb] at right
    have hi : ¬ ib true = 0 := by decide
    rw [if_neg hi, S1']
    by_cases c4 : qc A < 4
    · rw [if_pos (show nn (qc A) < (4 : Int32) by rw [show (4 : Int32) = nn 4 from rfl, nn_lt (by omega) (by omega)]; exact c4), ck_n c4 (by omega), nn_c (by omega)]
      have v1 : vT 0 (qn A) (qL A) S1 := (RS_P hA.1 hc hS fp1).2.2.1
      refine gt_cp (x_textBecome (r := 1 + qc A) v1 (by omega)) (fun S2 hS2 => ?_)
      obtain ⟨f2, v2⟩ := hS2
      have S2' : S2 0 10 = nn (qc A) := by rw [f2 _ _ (by omega) (by omega), S1']
      simp (disch := omega) only [let_s, gx_st_q, S2', nn_s, gx_st_eq]
      rw [nn_p (by omega), Nat.add_sub_cancel]
      refine gt_some (right _ (fun T1 g1 e2 => ?_))
      have T1' : T1 0 11 = nn (qc A) := by rw [g1 _ _ (by omega) (by omega)]; exact hT.2.2.2.2.1
      have hT1 := RT_Q hT g1
      rw [if_neg (by rw [e2]; exact hi), T1', if_neg (show ¬ nn (qc A) = (4 : Int32) by rw [show (4 : Int32) = nn 4 from rfl, nn_eq (by omega) (by omega)]; omega)]
      refine gt_mono (u_test hT1.2.2.2.1 c4 T1') (fun r hr => ?_)
      obtain ⟨r1, r2, r3, r4, r5⟩ := hr
      refine ⟨r1.symm, (qG A, qD A, 0, fun _ => 0, qc A + 1, (fun t => if t = qc A then qn A else qtn A t), (fun t => if t = qc A then qL A else qtL A t), qw A), ⟨hA.1, hA.2.1, hA.2.2.1, hA.2.2.2.1, ?_, hA.2.2.2.2.2.1, fun t ht => ?_⟩, ?_, ?_, ?_⟩
      · show qc A + 1 ≤ 4
        omega
      · show isT (if t = qc A then qn A else qtn A t) (if t = qc A then qL A else qtL A t) = true
        by_cases z : t = qc A
        · rw [if_pos z, if_pos z]; exact hb
        · rw [if_neg z, if_neg z]
          have : t < qc A + 1 := ht
          exact hA.2.2.2.2.2.2 t (by omega)
      · obtain ⟨h1, h2, h3, h4, h5, h6⟩ := RS_P hA.1 hc hS fp1
        have fr : ∀ q j, q ≠ 0 → q ≠ 66 → (q ≠ 66 + 2 * (1 + qc A)) → q ≠ 66 + 2 * (1 + qc A) + 1 → gx_st (gx_st S2 66 1 0) 0 10 (nn (qc A + 1)) q j = S1 q j := fun q j a b d e => by
          rw [gx_st_q _ _ _ _ a, gx_st_q _ _ _ _ b]; exact f2 q j (Or.inl d) e
        have f0 : ∀ j, j ≠ 10 → gx_st (gx_st S2 66 1 0) 0 10 (nn (qc A + 1)) 0 j = S1 0 j := fun j a => by
          rw [gx_st_j _ _ _ a, gx_st_q _ _ _ _ (by omega)]; exact f2 0 j (by omega) (by omega)
        have hN := (wG_S hA.1).2
        refine ⟨⟨fun q j a b => (fr q j (by omega) (by omega) (by omega) (by omega)).trans (h1.1 q j a b), fun s k hs hk => (fr _ k (by omega) (by have : s < nS (qG A) := hs; omega) (by have : s < nS (qG A) := hs; omega) (by have : s < nS (qG A) := hs; omega)).trans (h1.2 s k hs hk)⟩, vD_f h2 (fun q j a b => fr q j (by omega) (by omega) (by omega) (by omega)), ⟨by show 0 ≤ 50; omega, ?_, fun j hj => absurd hj (by show ¬ j < 0; omega)⟩, ?_, ?_, fun t ht => ?_⟩
        · show gx_st (gx_st S2 66 1 0) 0 10 (nn (qc A + 1)) 66 1 = nn 0
          rw [gx_st_q _ _ _ _ (by omega), gx_st_eq]; rfl
        · exact gx_st_eq (gx_st S2 66 1 0) 0 10 (nn (qc A + 1))
        · show gx_st (gx_st S2 66 1 0) 0 10 (nn (qc A + 1)) 0 11 = nn (qw A)
          rw [f0 _ (by omega)]; exact h5
        · show vT (1 + t) (if t = qc A then qn A else qtn A t) (if t = qc A then qL A else qtL A t) (gx_st (gx_st S2 66 1 0) 0 10 (nn (qc A + 1)))
          by_cases z : t = qc A
          · rw [if_pos z, if_pos z, z]
            refine ⟨v2.1, ?_, fun j hj => ⟨?_, (v2.2.2 j hj).2⟩⟩
            · rw [gx_st_q _ _ _ _ (by omega), gx_st_q _ _ _ _ (by omega)]; exact v2.2.1
            · rw [gx_st_q _ _ _ _ (by omega), gx_st_q _ _ _ _ (by omega)]; exact (v2.2.2 j hj).1
          · rw [if_neg z, if_neg z]
            have ht' : t < qc A + 1 := ht
            have hh := h6 t (by omega)
            refine ⟨hh.1, ?_, fun j hj => ⟨?_, (hh.2.2 j hj).2⟩⟩
            · rw [fr _ _ (by omega) (by omega) (by omega) (by omega)]; exact hh.2.1
            · rw [fr _ _ (by omega) (by omega) (by omega) (by omega)]; exact (hh.2.2 j hj).1
      · obtain ⟨⟨⟨a1, a2, a3⟩, b, c, d⟩, h2, h3, h4, h5, h6, h7⟩ := hT1
        refine ⟨⟨⟨?_, ?_, ?_⟩, fun o ho => ?_, fun k hk => ?_, fun s i hs hi => ?_⟩, fun j hj => ?_, ?_, ⟨by show 0 ≤ 50; omega, r2, fun j hj => absurd hj (by show ¬ j < 0; omega)⟩, r3, ?_, fun t ht => ?_⟩
        · rw [r5 _ _ (by omega) (by omega) (by omega)]; exact a1
        · rw [r5 _ _ (by omega) (by omega) (by omega)]; exact a2
        · rw [r5 _ _ (by omega) (by omega) (by omega)]; exact a3
        · rw [r5 _ _ (by omega) (by omega) (by omega), r5 _ _ (by omega) (by omega) (by omega)]; exact b o ho
        · rw [r5 _ _ (by omega) (by omega) (by omega), r5 _ _ (by omega) (by omega) (by omega)]; exact c k hk
        · rw [r5 _ _ (by omega) (by omega) (by omega)]; exact d s i hs hi
        · rw [r5 _ _ (by omega) (by omega) (by omega), r5 _ _ (by omega) (by omega) (by omega), r5 _ _ (by omega) (by omega) (by omega)]; exact h2 j hj
        · rw [r5 _ _ (by omega) (by omega) (by omega)]; exact h3
        · rw [r5 _ _ (by omega) (by omega) (by omega)]; exact h6
        · show uQ t (if t = qc A then qn A else qtn A t) (if t = qc A then qL A else qtL A t) r.2
          by_cases z : t = qc A
          · rw [if_pos z, if_pos z, z]; exact r4
          · rw [if_neg z, if_neg z]
            have ht' : t < qc A + 1 := ht
            have hh := h7 t (by omega)
            refine ⟨hh.1, ?_, fun j hj => ⟨?_, (hh.2.2 j hj).2⟩⟩
            · rw [r5 _ _ (by omega) (by omega) (by omega)]; exact hh.2.1
            · have := hh.1
              rw [r5 _ _ (by omega) (by omega) (by omega)]; exact (hh.2.2 j hj).1
      · refine RK_f (RK_f hK (fun q j hq => f1 q j (by omega)) (fun q j hq => g1 q j (by omega) (by omega))) (fun q j hq => ?_) (fun q j hq => r5 q j (by omega) (by omega) (by omega))
        simp only
        rcases hq with ⟨rfl, hq⟩ | hq
        · rw [gx_st_j _ _ _ (by omega), gx_st_q _ _ _ _ (by omega)]; exact f2 _ _ (by omega) (by omega)
        · rw [gx_st_q _ _ _ _ (by omega), gx_st_q _ _ _ _ (by omega)]; exact f2 _ _ (by omega) (by omega)
    · rw [if_neg (show ¬ nn (qc A) < (4 : Int32) by rw [show (4 : Int32) = nn 4 from rfl, nn_lt (by omega) (by omega)]; exact c4)]
      refine gt_some (right _ (fun T1 g1 e2 => ?_))
      have T1' : T1 0 11 = nn (qc A) := by rw [g1 _ _ (by omega) (by omega)]; exact hT.2.2.2.2.1
      rw [if_neg (by rw [e2]; exact hi), T1', if_pos (show nn (qc A) = (4 : Int32) by rw [show (4 : Int32) = nn 4 from rfl, nn_eq (by omega) (by omega)]; omega)]
      exact gt_some ⟨rfl, RR_f hA hS hT hK fp1 g1⟩

/-! b36: letters, the page, tests -/
theorem RR_L {A : rA} {S T S' T' : gx_S} {n : Nat} {L : Nat → Nat} (hA : RA A) (hS : RS A S) (hT : RT A T) (hK : RK (qG A) S T) (f : ∀ q j, q ≠ 66 → q ≠ 67 → S' q j = S q j) (g : ∀ q j, (q ≠ 0 ∨ j ≠ 14) → q ≠ 11 → T' q j = T q j) (hv : vT 0 n L S') (hu : uT n L T') : RR S' T' := by
  refine ⟨(qG A, qD A, n, L, A.2.2.2.2), ⟨hA.1, hA.2.1, hA.2.2.1, hA.2.2.2.1, hA.2.2.2.2⟩, ?_, ?_, RK_f hK (fun q j h => f q j (by omega) (by omega)) (fun q j h => g q j (by omega) (by omega))⟩
  · obtain ⟨h1, h2, h3, h4, h5, h6⟩ := hS
    have hc := hA.2.2.2.2.1
    refine ⟨vG_f h1 (wG_S hA.1).2 (fun q j hq => f q j (by omega) (by omega)), vD_f h2 (fun q j a b => f q j (by omega) (by omega)), hv, ?_, ?_, fun t ht => ⟨(h6 t ht).1, ?_, fun j hj => ?_⟩⟩
    · rw [f _ _ (by omega) (by omega)]; exact h4
    · rw [f _ _ (by omega) (by omega)]; exact h5
    · rw [f _ _ (by omega) (by omega)]; exact (h6 t ht).2.1
    · rw [f _ _ (by omega) (by omega)]; exact (h6 t ht).2.2 j hj
  · obtain ⟨⟨⟨a1, a2, a3⟩, b, c, d⟩, h2, h3, h4, h5, h6, h7⟩ := hT
    refine ⟨⟨⟨?_, ?_, ?_⟩, fun o ho => ?_, fun k hk => ?_, fun s i hs hi => ?_⟩, fun j hj => ?_, ?_, hu, ?_, ?_, fun t ht => ⟨(h7 t ht).1, ?_, fun j hj => ?_⟩⟩
    · rw [g _ _ (by omega) (by omega)]; exact a1
    · rw [g _ _ (by omega) (by omega)]; exact a2
    · rw [g _ _ (by omega) (by omega)]; exact a3
    · rw [g _ _ (by omega) (by omega), g _ _ (by omega) (by omega)]; exact b o ho
    · rw [g _ _ (by omega) (by omega), g _ _ (by omega) (by omega)]; exact c k hk
    · rw [g _ _ (by omega) (by omega)]; exact d s i hs hi
    · rw [g _ _ (by omega) (by omega), g _ _ (by omega) (by omega), g _ _ (by omega) (by omega)]; exact h2 j hj
    · rw [g _ _ (by omega) (by omega)]; exact h3
    · rw [g _ _ (by omega) (by omega)]; exact h5
    · rw [g _ _ (by omega) (by omega)]; exact h6
    · rw [g _ _ (by omega) (by omega)]; exact (h7 t ht).2.1
    · rw [g _ _ (by omega) (by omega)]; exact (h7 t ht).2.2 j hj
theorem st_letters {S T : gx_S} (h : RR S T) (w : Int64) : cSS (m_ShopsAsOne_letters w S) (n_letters w T) := by
  obtain ⟨A, hA, hS, hT, hK⟩ := id h
  refine gt_mono (x_letters hS.2.2.1 w) (fun r hr => gt_mono (u_letters hT.2.2.2.1 w) (fun r' hr' => ?_))
  cases hg : lt_go w 8 0 0 0 with
  | none =>
    rw [hg] at hr hr'
    obtain ⟨e1, e2⟩ := hr
    obtain ⟨e3, e4⟩ := hr'
    rw [e1, e2, e3, e4]
    exact ⟨rfl, h⟩
  | some g =>
    rw [hg] at hr hr'
    obtain ⟨m, e, hm, hh⟩ := hr
    obtain ⟨m', e', hm', hh'⟩ := hr'
    have : m' = m := by
      rw [e] at e'
      exact ((nn_eq (by omega) (by omega)).mp e').symm
    subst this
    rcases hh with ⟨q1, q2, q3⟩ | ⟨q1, q2, q3, q4⟩ <;> rcases hh' with ⟨p1, p2, p3⟩ | ⟨p1, p2, p3, p4⟩
    · rw [q2, q3, p2, p3]; exact ⟨rfl, h⟩
    · omega
    · omega
    · rw [q2, p2]; exact ⟨rfl, RR_L hA hS hT hK q3 p3 q4 p4⟩
theorem st_blank {S T : gx_S} (h : RR S T) : cSS (m_ShopsAsOne_blank S) (n_blank T) := by
  obtain ⟨A, hA, hS, hT, hK⟩ := id h
  unfold m_ShopsAsOne_blank n_blank
  refine gt_let (gt_some (gt_let (gt_some ⟨?_, RR_L (n := 0) (L := fun _ => 0) hA hS hT hK (fun q j a b => gx_st_q _ _ _ _ a) (fun q j a b => ?_) ⟨by omega, gx_st_eq S 66 1 0, fun j hj => absurd hj (by omega)⟩ ⟨by omega, gx_st_eq T 0 14 0, fun j hj => absurd hj (by omega)⟩⟩)))
  · show S 66 1 = T 0 14
    rw [show S 66 1 = nn (qn A) from hS.2.2.1.2.1, hT.2.2.2.1.2.1]
  · by_cases z : q = 0
    · subst z; exact gx_st_j T 0 0 (by omega)
    · exact gx_st_q T 14 j 0 z
theorem f76_P {S T : gx_S} (f : f76 S T) : fP S T := fun q j a => f q j (by omega)
theorem st_fault {S T : gx_S} (h : RR S T) : cSS (m_ShopsAsOne_fault S) (n_fault T) := by
  obtain ⟨A, hA, hS, hT, hK⟩ := id h
  unfold m_ShopsAsOne_fault n_fault
  refine gt_cs (x_firstFault hS.2.2.1 (by omega)) (fun v S1 hS1 => gt_some (gt_cp (u_readPage hT.2.2.2.1) (fun T1 hT1 => gt_some ?_)))
  obtain ⟨f1, e1, _⟩ := hS1
  obtain ⟨g1, e2, _⟩ := hT1
  simp only at f1 e1
  exact ⟨by rw [e1, e2], RR_f hA hS hT hK (f76_P f1) (fun q j a b => g1 q j (by omega))⟩
theorem x_textBecome {r n : Nat} {L : Nat → Nat} {S : gx_S} (h : vT 0 n L S) (hr : 0 < r) : gt (m_Text_become r 0 S) fun T => (∀ q j, (q ≠ 66 + 2 * r ∨ j ≠ 1) → q ≠ 66 + 2 * r + 1 → T q j = S q j) ∧ vT r n L T := by
  obtain ⟨h1, h2, h3⟩ := h
  unfold m_Text_become
  refine gt_let ?_
  rw [h2]
  refine gt_for n (fun j t => t.1 = nn j ∧ (∀ q i, (q ≠ 66 + 2 * r ∨ i ≠ 1) → q ≠ 66 + 2 * r + 1 → t.2 q i = S q i) ∧ t.2 (66 + 2 * r) 1 = nn n ∧ ∀ i, i < j → t.2 (66 + 2 * r + 1) i = nn (L i)) ?_ ?_ 0 5000 _ (by omega) ⟨rfl, fun q i a b => ?_, gx_st_eq _ _ _ _, fun i hi => absurd hi (by omega)⟩ (by omega)
  · rintro j ⟨_, T⟩ k hj ⟨rfl, f, g1, g2⟩ hk
    simp only at f g1 g2
    simp only [m_Text_become_10]
    have e : T (66 + 2 * 0 + 1) j = nn (L j) := by rw [f _ _ (by omega) (by omega)]; exact (h3 j hj).1
    rw [g1]
    simp (disch := omega) only [nn_le, ck_n, nn_c, let_s, nn_s, e]
    rw [if_neg (by omega), (nar_c (L j) (by have := (h3 j hj).2; omega)).1]
    refine hk _ ⟨rfl, fun q i a b => ?_, ?_, fun i hi => ?_⟩
    · simp only
      rw [gx_st_q _ _ _ _ b]; exact f q i a b
    · simp only
      rw [gx_st_q _ _ _ _ (by omega)]; exact g1
    · simp only
      by_cases z : i = j
      · subst z; rw [gx_st_eq]
      · rw [gx_st_j _ _ _ z]; exact g2 i (by omega)
  · rintro ⟨_, T⟩ k ⟨rfl, f, g1, g2⟩
    simp only at f g1 g2
    simp only [m_Text_become_10]
    rw [g1, if_pos (Int32.le_refl _)]
    exact gt_some ⟨f, h1, g1, fun j hj => ⟨g2 j hj, (h3 j hj).2⟩⟩
  · simp only
    by_cases z : q = 66 + 2 * r
    · subst z; exact gx_st_j _ _ _ (by omega)
    · exact gx_st_q _ _ _ _ z
/-- the page becomes the reference's test c -/
theorem u_test {n c : Nat} {L : Nat → Nat} {S : gx_S} (h : uT n L S) (hc : c < 4) (e11 : S 0 11 = nn c) : gt (gx_loop n_test_27 5000 (0, S)) fun t => t.1 = nn c ∧ t.2 0 14 = 0 ∧ t.2 0 11 = nn (c + 1) ∧ uQ c n L t.2 ∧ (∀ q j, (q ≠ 0 ∨ (j ≠ 11 ∧ j ≠ 14)) → (q ≠ 9 ∨ j < 50 * c ∨ 50 * c + 50 ≤ j) → (q ≠ 10 ∨ j ≠ c) → t.2 q j = S q j) := by
  obtain ⟨h1, h2, h3⟩ := h
  refine gt_for n (fun j t => t.1 = nn j ∧ (∀ q i, (q ≠ 9 ∨ i < 50 * c ∨ 50 * c + 50 ≤ i) → t.2 q i = S q i) ∧ ∀ i, i < j → t.2 9 (50 * c + i) = nn (L i)) ?_ ?_ 0 5000 _ (by omega) ⟨rfl, fun _ _ _ => rfl, fun i hi => absurd hi (by omega)⟩ (by omega)
  · rintro j ⟨_, T⟩ k hj ⟨rfl, f, g⟩ hk
    simp only at f g
    simp only [n_test_27]
    have e1 : T 0 14 = nn n := by rw [f _ _ (by omega), h2]
    have e2 : T 0 11 = nn c := by rw [f _ _ (by omega), e11]
    have e3 : T 11 j = nn (L j) := by rw [f _ _ (by omega)]; exact (h3 j hj).1
    rw [e1, e2, show (50 : Int32) = nn 50 from rfl, nn_mul, nn_add]
    simp (disch := omega) only [nn_le, ck_n, nn_c, let_s, nn_s, e3]
    rw [if_neg (by omega), nar_y (L j) (by have := (h3 j hj).2; omega)]
    refine hk _ ⟨rfl, fun q i a => ?_, fun i hi => ?_⟩
    · simp only
      by_cases z : q = 9
      · subst z; rw [gx_st_j _ _ _ (by omega)]; exact f _ i a
      · rw [gx_st_q _ _ _ _ z]; exact f q i a
    · simp only
      by_cases z : i = j
      · subst z; rw [gx_st_eq]
      · rw [gx_st_j _ _ _ (by omega)]; exact g i (by omega)
  · rintro ⟨_, T⟩ k ⟨rfl, f, g⟩
    simp only at f g
    simp only [n_test_27]
    have e1 : T 0 14 = nn n := by rw [f _ _ (by omega), h2]
    have e2 : T 0 11 = nn c := by rw [f _ _ (by omega), e11]
    rw [e1, e2, if_pos (Int32.le_refl _)]
    simp (disch := omega) only [ck_n, nn_c, let_s, gx_st_q, e2, nn_s, gx_st_eq, gx_st_j]
    rw [nn_p (by omega), Nat.add_sub_cancel]
    refine gt_some ⟨rfl, ?_, ?_, ⟨h1, ?_, fun j hj => ⟨?_, (h3 j hj).2⟩⟩, fun q j a b d => ?_⟩
    · simp only
      exact gx_st_eq _ _ _ _
    · simp (disch := omega) only [gx_st_j, gx_st_eq]
    · simp (disch := omega) only [gx_st_q, gx_st_eq]
    · simp (disch := omega) only [gx_st_q]; exact g j hj
    · simp only
      have x1 : ∀ (U : gx_S) (v : Int32), gx_st U 0 14 v q j = U q j := fun U v => by
        by_cases z : q = 0
        · subst z; exact gx_st_j _ _ _ (by omega)
        · exact gx_st_q _ _ _ _ z
      have x2 : ∀ (U : gx_S) (v : Int32), gx_st U 0 11 v q j = U q j := fun U v => by
        by_cases z : q = 0
        · subst z; exact gx_st_j _ _ _ (by omega)
        · exact gx_st_q _ _ _ _ z
      have x3 : ∀ (U : gx_S) (v : Int32), gx_st U 10 c v q j = U q j := fun U v => by
        by_cases z : q = 10
        · subst z; exact gx_st_j _ _ _ (by omega)
        · exact gx_st_q _ _ _ _ z
      rw [x1, x2, x3]
      exact f q j b
theorem st_test {S T : gx_S} (h : RR S T) : cSS (m_ShopsAsOne_test S) (n_test T) := by
  obtain ⟨A, hA, hS, hT, hK⟩ := id h
  have hc := hA.2.2.2.2.1
  unfold m_ShopsAsOne_test n_test
  refine gt_cs (x_isTest hS.2.2.1 (by omega)) (fun v S1 hS1 => ?_)
  obtain ⟨f1, e1⟩ := hS1
  simp only at f1 e1
  have S1' : S1 0 10 = nn (qc A) := by rw [f1 _ _ (by omega)]; exact hS.2.2.2.1
  have right : ∀ P : Int32 × gx_S → Prop, (∀ T1, fQ T T1 → T1 0 36 = ib (isT (qn A) (qL A)) → gt (if T1 0 36 = 0 then some ((-103), T1) else if (T1 0 11) = 4 then some ((-104), T1) else gx_loop (n_test_27) 5000 (0, T1)) P) → gt (gx_cp (n_readPage T) fun S2 => if (S2 0 36) = 0 then some ((-103), S2) else if (S2 0 11) = 4 then some ((-104), S2) else gx_loop (n_test_27) 5000 (0, S2)) P := fun P hP =>
    gt_cp (u_readPage hT.2.2.2.1) (fun T1 hT1 => hP T1 (fun q j a b => hT1.1 q j (by omega)) hT1.2.2)
  have fp1 := f76_P f1
  rw [e1]
  cases hb : isT (qn A) (qL A) with
  | false =>
    rw [hb] at right
    rw [if_pos (show ib false = 0 from rfl)]
    refine gt_some (right _ (fun T1 g1 e2 => ?_))
    rw [if_pos (show T1 0 36 = 0 from e2)]
    exact gt_some ⟨rfl, RR_f hA hS hT hK fp1 g1⟩
  | true =>
    rw [hb] at right
    have hi : ¬ ib true = 0 := by decide
    rw [if_neg hi, S1']
    by_cases c4 : qc A < 4
    · rw [if_pos (show nn (qc A) < (4 : Int32) by rw [show (4 : Int32) = nn 4 from rfl, nn_lt (by omega) (by omega)]; exact c4), ck_n c4 (by omega), nn_c (by omega)]
      have v1 : vT 0 (qn A) (qL A) S1 := (RS_P hA.1 hc hS fp1).2.2.1
      refine gt_cp (x_textBecome (r := 1 + qc A) v1 (by omega)) (fun S2 hS2 => ?_)
      obtain ⟨f2, v2⟩ := hS2
      have S2' : S2 0 10 = nn (qc A) := by rw [f2 _ _ (by omega) (by omega), S1']
      simp (disch := omega) only [let_s, gx_st_q, S2', nn_s, gx_st_eq]
      rw [nn_p (by omega), Nat.add_sub_cancel]
      refine gt_some (right _ (fun T1 g1 e2 => ?_))
      have T1' : T1 0 11 = nn (qc A) := by rw [g1 _ _ (by omega) (by omega)]; exact hT.2.2.2.2.1
      have hT1 := RT_Q hT g1
      rw [if_neg (by rw [e2]; exact hi), T1', if_neg (show ¬ nn (qc A) = (4 : Int32) by rw [show (4 : Int32) = nn 4 from rfl, nn_eq (by omega) (by omega)]; omega)]
      refine gt_mono (u_test hT1.2.2.2.1 c4 T1') (fun r hr => ?_)
      obtain ⟨r1, r2, r3, r4, r5⟩ := hr
      refine ⟨r1.symm, (qG A, qD A, 0, fun _ => 0, qc A + 1, (fun t => if t = qc A then qn A else qtn A t), (fun t => if t = qc A then qL A else qtL A t), qw A), ⟨hA.1, hA.2.1, hA.2.2.1, hA.2.2.2.1, ?_, hA.2.2.2.2.2.1, fun t ht => ?_⟩, ?_, ?_, ?_⟩
      · show qc A + 1 ≤ 4
        omega
      · show isT (if t = qc A then qn A else qtn A t) (if t = qc A then qL A else qtL A t) = true
        by_cases z : t = qc A
        · rw [if_pos z, if_pos z]; exact hb
        · rw [if_neg z, if_neg z]
          have : t < qc A + 1 := ht
          exact hA.2.2.2.2.2.2 t (by omega)
      · obtain ⟨h1, h2, h3, h4, h5, h6⟩ := RS_P hA.1 hc hS fp1
        have fr : ∀ q j, q ≠ 0 → q ≠ 66 → (q ≠ 66 + 2 * (1 + qc A)) → q ≠ 66 + 2 * (1 + qc A) + 1 → gx_st (gx_st S2 66 1 0) 0 10 (nn (qc A + 1)) q j = S1 q j := fun q j a b d e => by
          rw [gx_st_q _ _ _ _ a, gx_st_q _ _ _ _ b]; exact f2 q j (Or.inl d) e
        have f0 : ∀ j, j ≠ 10 → gx_st (gx_st S2 66 1 0) 0 10 (nn (qc A + 1)) 0 j = S1 0 j := fun j a => by
          rw [gx_st_j _ _ _ a, gx_st_q _ _ _ _ (by omega)]; exact f2 0 j (by omega) (by omega)
        have hN := (wG_S hA.1).2
        refine ⟨⟨fun q j a b => (fr q j (by omega) (by omega) (by omega) (by omega)).trans (h1.1 q j a b), fun s k hs hk => (fr _ k (by omega) (by have : s < nS (qG A) := hs; omega) (by have : s < nS (qG A) := hs; omega) (by have : s < nS (qG A) := hs; omega)).trans (h1.2 s k hs hk)⟩, vD_f h2 (fun q j a b => fr q j (by omega) (by omega) (by omega) (by omega)), ⟨by show 0 ≤ 50; omega, ?_, fun j hj => absurd hj (by show ¬ j < 0; omega)⟩, ?_, ?_, fun t ht => ?_⟩
        · show gx_st (gx_st S2 66 1 0) 0 10 (nn (qc A + 1)) 66 1 = nn 0
          rw [gx_st_q _ _ _ _ (by omega), gx_st_eq]; rfl
        · exact gx_st_eq (gx_st S2 66 1 0) 0 10 (nn (qc A + 1))
        · show gx_st (gx_st S2 66 1 0) 0 10 (nn (qc A + 1)) 0 11 = nn (qw A)
          rw [f0 _ (by omega)]; exact h5
        · show vT (1 + t) (if t = qc A then qn A else qtn A t) (if t = qc A then qL A else qtL A t) (gx_st (gx_st S2 66 1 0) 0 10 (nn (qc A + 1)))
          by_cases z : t = qc A
          · rw [if_pos z, if_pos z, z]
            refine ⟨v2.1, ?_, fun j hj => ⟨?_, (v2.2.2 j hj).2⟩⟩
            · rw [gx_st_q _ _ _ _ (by omega), gx_st_q _ _ _ _ (by omega)]; exact v2.2.1
            · rw [gx_st_q _ _ _ _ (by omega), gx_st_q _ _ _ _ (by omega)]; exact (v2.2.2 j hj).1
          · rw [if_neg z, if_neg z]
            have ht' : t < qc A + 1 := ht
            have hh := h6 t (by omega)
            refine ⟨hh.1, ?_, fun j hj => ⟨?_, (hh.2.2 j hj).2⟩⟩
            · rw [fr _ _ (by omega) (by omega) (by omega) (by omega)]; exact hh.2.1
            · rw [fr _ _ (by omega) (by omega) (by omega) (by omega)]; exact (hh.2.2 j hj).1
      · obtain ⟨⟨⟨a1, a2, a3⟩, b, c, d⟩, h2, h3, h4, h5, h6, h7⟩ := hT1
        refine ⟨⟨⟨?_, ?_, ?_⟩, fun o ho => ?_, fun k hk => ?_, fun s i hs hi => ?_⟩, fun j hj => ?_, ?_, ⟨by show 0 ≤ 50; omega, r2, fun j hj => absurd hj (by show ¬ j < 0; omega)⟩, r3, ?_, fun t ht => ?_⟩
        · rw [r5 _ _ (by omega) (by omega) (by omega)]; exact a1
        · rw [r5 _ _ (by omega) (by omega) (by omega)]; exact a2
        · rw [r5 _ _ (by omega) (by omega) (by omega)]; exact a3
        · rw [r5 _ _ (by omega) (by omega) (by omega), r5 _ _ (by omega) (by omega) (by omega)]; exact b o ho
        · rw [r5 _ _ (by omega) (by omega) (by omega), r5 _ _ (by omega) (by omega) (by omega)]; exact c k hk
        · rw [r5 _ _ (by omega) (by omega) (by omega)]; exact d s i hs hi
        · rw [r5 _ _ (by omega) (by omega) (by omega), r5 _ _ (by omega) (by omega) (by omega), r5 _ _ (by omega) (by omega) (by omega)]; exact h2 j hj
        · rw [r5 _ _ (by omega) (by omega) (by omega)]; exact h3
        · rw [r5 _ _ (by omega) (by omega) (by omega)]; exact h6
        · show uQ t (if t = qc A then qn A else qtn A t) (if t = qc A then qL A else qtL A t) r.2
          by_cases z : t = qc A
          · rw [if_pos z, if_pos z, z]; exact r4
          · rw [if_neg z, if_neg z]
            have ht' : t < qc A + 1 := ht
            have hh := h7 t (by omega)
            refine ⟨hh.1, ?_, fun j hj => ⟨?_, (hh.2.2 j hj).2⟩⟩
            · rw [r5 _ _ (by omega) (by omega) (by omega)]; exact hh.2.1
            · have := hh.1
              rw [r5 _ _ (by omega) (by omega) (by omega)]; exact (hh.2.2 j hj).1
      · refine RK_f (RK_f hK (fun q j hq => f1 q j (by omega)) (fun q j hq => g1 q j (by omega) (by omega))) (fun q j hq => ?_) (fun q j hq => r5 q j (by omega) (by omega) (by omega))
        simp only
        rcases hq with ⟨rfl, hq⟩ | hq
        · rw [gx_st_j _ _ _ (by omega), gx_st_q _ _ _ _ (by omega)]; exact f2 _ _ (by omega) (by omega)
        · rw [gx_st_q _ _ _ _ (by omega), gx_st_q _ _ _ _ (by omega)]; exact f2 _ _ (by omega) (by omega)
    · rw [if_neg (show ¬ nn (qc A) < (4 : Int32) by rw [show (4 : Int32) = nn 4 from rfl, nn_lt (by omega) (by omega)]; exact c4)]
      refine gt_some (right _ (fun T1 g1 e2 => ?_))
      have T1' : T1 0 11 = nn (qc A) := by rw [g1 _ _ (by omega) (by omega)]; exact hT.2.2.2.2.1
      rw [if_neg (by rw [e2]; exact hi), T1', if_pos (show nn (qc A) = (4 : Int32) by rw [show (4 : Int32) = nn 4 from rfl, nn_eq (by omega) (by omega)]; omega)]
      exact gt_some ⟨rfl, RR_f hA hS hT hK fp1 g1⟩

/-! b37: harm is not less than nothing; whether a test bars a joining -/
theorem spa_b {G D : gx_S} (hG : wG G) (hw : wD G D) (s : Nat) : 0 ≤ (spa G D s).toInt ∧ (spa G D s).toInt ≤ 39 := by
  have hP := (wG_P hG).2
  unfold spa
  rcases chN_isC (isv G D s) (opx G D (-1)) (G 9 s) (nP G) with ⟨e, _, _⟩ | ⟨i, hi, e, _, _, hl, _⟩
  · rw [show cho G D s (-1) = -1 from e, if_pos rfl]; decide
  · rw [show cho G D s (-1) = nn i from e, if_neg (nn_m1 (by omega)), nn_c (by omega)]
    obtain ⟨p1, p2⟩ := bw_i (hw.1 i (by omega)).1
    obtain ⟨q1, q2⟩ := bw_i (bes_b hG s i)
    obtain ⟨r1, r2⟩ := bw_i (hG.2.2.2 s).2.2.2.1
    have c0 : (0 : Int32).toInt = 0 := by decide
    have c9 : (9 : Int32).toInt = 9 := by decide
    have c9' : (-9 : Int32).toInt = -9 := by decide
    have c45 : (45 : Int32).toInt = 45 := by decide
    have c30 : (30 : Int32).toInt = 30 := by decide
    have c1 : (1 : Int32).toInt = 1 := by decide
    rw [c0] at p1 r1
    rw [c9] at p2
    rw [c9'] at q1
    rw [c45] at q2
    rw [c30] at r2
    have e1 : (isv G D s i).toInt = (D 1 i).toInt + (bes G s i).toInt := ti_add (by omega) (by omega)
    have e2 : (G 9 s + 1).toInt = (G 9 s).toInt + 1 := by rw [ti_add (by rw [c1]; omega) (by rw [c1]; omega), c1]
    rw [Int32.lt_iff_toInt_lt, e2] at hl
    rw [ti_sub (by omega) (by omega)]
    omega
theorem sm_b19 {f : Nat → Int32} : ∀ {n : Nat}, n ≤ 8 → (∀ j, j < n → 0 ≤ (f j).toInt ∧ (f j).toInt ≤ 1950) → 0 ≤ (sm f n).toInt ∧ (sm f n).toInt ≤ 1950 * n
  | 0, _, _ => by show 0 ≤ (0 : Int32).toInt ∧ (0 : Int32).toInt ≤ 1950 * ((0 : Nat) : Int); decide
  | n + 1, h, hf => by
    have ih := sm_b19 (n := n) (by omega) (fun j hj => hf j (by omega))
    have := hf n (by omega)
    show 0 ≤ (sm f n + f n).toInt ∧ (sm f n + f n).toInt ≤ 1950 * ((n + 1 : Nat) : Int)
    rw [ti_add (by omega) (by omega)]
    omega
theorem i0_n {x : Int32} {m : Nat} (h0 : 0 ≤ x.toInt) (h1 : x.toInt ≤ m) (hm : m < 1000) : ∃ k, k ≤ m ∧ x = nn k := by
  refine ⟨x.toInt.toNat, by omega, ?_⟩
  apply Int32.toInt_inj.mp
  rw [nn_i (by omega)]
  omega
theorem hrm_0 {G B E : gx_S} (hG : wG G) (hB : wD G B) (hE : wD G E) : 0 ≤ (hrm G B E).toInt := by
  unfold hrm
  refine (sm_b19 (wG_S hG).2 (fun s _ => ?_)).1
  obtain ⟨k, hk, e⟩ := i0_n (m := 39) (x := if 0 < dr G B E s then dr G B E s else 0) (by
    split
    · next h => rw [Int32.lt_iff_toInt_lt] at h; have c0 : (0 : Int32).toInt = 0 := by decide
                omega
    · decide) (by
    have h1 := spa_b hG hB s
    have h2 := spa_b hG hE s
    split
    · unfold dr
      rw [ti_sub (by omega) (by omega)]
      omega
    · decide) (by decide)
  have hm := many_b hG s
  obtain ⟨m, hm', e'⟩ := i0_n (m := 50) hm.1 hm.2 (by decide)
  have h3 := Nat.mul_le_mul hk hm'
  rw [e, e', nn_mul, nn_i (by omega)]
  omega
theorem hrm_p {G B E : gx_S} (hG : wG G) (hB : wD G B) (hE : wD G E) : ¬ hrm G B E = -1 ∧ (hrm G B E ≤ 0 ↔ hrm G B E = 0) := by
  have h := hrm_0 hG hB hE
  have c0 : (0 : Int32).toInt = 0 := by decide
  have c1 : (-1 : Int32).toInt = -1 := by decide
  refine ⟨fun e => ?_, fun e => ?_, fun e => ?_⟩
  · rw [e, c1] at h; omega
  · rw [Int32.le_iff_toInt_le] at e
    apply Int32.toInt_inj.mp
    omega
  · rw [e]; exact Int32.le_refl _
/-- the reference's scratch, its standing, and where tests are weighed -/
def fO (S T : gx_S) : Prop := ∀ q j, q ≠ 3 → q ≠ 4 → q ≠ 7 → (q < 15 ∨ 25 < q) → (q ≠ 0 ∨ j < 24) → T q j = S q j
theorem fO_r (S : gx_S) : fO S S := fun _ _ _ _ _ _ _ => rfl
theorem fO_t {S T U : gx_S} (h : fO S T) (h' : fO T U) : fO S U := fun q j a1 a2 a3 a4 a5 => (h' q j a1 a2 a3 a4 a5).trans (h q j a1 a2 a3 a4 a5)
theorem fM_O {S T : gx_S} (h : fM S T) : fO S T := fun q j a1 a2 a3 a4 a5 => h q j a1 a2 a3 a4 (by omega)
theorem fk_O {S T : gx_S} (h : fk S T) : fO S T := fun q j a1 a2 a3 a4 a5 => h q j (by omega) (by omega) (by omega) (by omega) (by omega)
theorem RT_O {A : rA} {T T' : gx_S} (h : RT A T) (f : fO T T') (hd : uD (qD A) T') : RT A T' := by
  obtain ⟨⟨⟨a1, a2, a3⟩, b, c, d⟩, h2, h3, h4, h5, h6, h7⟩ := h
  have g : ∀ q j, q < 15 → q ≠ 3 → q ≠ 4 → q ≠ 7 → (q ≠ 0 ∨ j < 24) → T' q j = T q j := fun q j x1 x2 x3 x4 x5 => f q j x2 x3 x4 (Or.inl x1) x5
  refine ⟨⟨⟨?_, ?_, ?_⟩, fun o ho => ?_, fun k hk => ?_, fun s i hs hi => ?_⟩, hd, ?_, ⟨h4.1, ?_, fun j hj => ?_⟩, ?_, ?_, fun t ht => ⟨(h7 t ht).1, ?_, fun j hj => ?_⟩⟩
  · rw [g _ _ (by omega) (by omega) (by omega) (by omega) (by omega)]; exact a1
  · rw [g _ _ (by omega) (by omega) (by omega) (by omega) (by omega)]; exact a2
  · rw [g _ _ (by omega) (by omega) (by omega) (by omega) (by omega)]; exact a3
  · rw [g _ _ (by omega) (by omega) (by omega) (by omega) (by omega), g _ _ (by omega) (by omega) (by omega) (by omega) (by omega)]; exact b o ho
  · rw [g _ _ (by omega) (by omega) (by omega) (by omega) (by omega), g _ _ (by omega) (by omega) (by omega) (by omega) (by omega)]; exact c k hk
  · rw [g _ _ (by omega) (by omega) (by omega) (by omega) (by omega)]; exact d s i hs hi
  · rw [g _ _ (by omega) (by omega) (by omega) (by omega) (by omega)]; exact h3
  · rw [g _ _ (by omega) (by omega) (by omega) (by omega) (by omega)]; exact h4.2.1
  · rw [g _ _ (by omega) (by omega) (by omega) (by omega) (by omega)]; exact h4.2.2 j hj
  · rw [g _ _ (by omega) (by omega) (by omega) (by omega) (by omega)]; exact h5
  · rw [g _ _ (by omega) (by omega) (by omega) (by omega) (by omega)]; exact h6
  · rw [g _ _ (by omega) (by omega) (by omega) (by omega) (by omega)]; exact (h7 t ht).2.1
  · rw [g _ _ (by omega) (by omega) (by omega) (by omega) (by omega)]; exact (h7 t ht).2.2 j hj
theorem RR_O {A : rA} {S T S' T' : gx_S} (hA : RA A) (hS : RS A S) (hT : RT A T) (hK : RK (qG A) S T) (f : fP S S') (g : fO T T') (hu : uD (qD A) T') : RR S' T' := ⟨A, hA, RS_P hA.1 hA.2.2.2.2.1 hS f, RT_O hT g hu, RK_f hK (fun q j h => f q j (by omega)) (fun q j h => g q j (by omega) (by omega) (by omega) (by omega) (by omega))⟩
/-- whether test t bars a and b -/
noncomputable def barV (A : rA) (t a b : Nat) : Bool := eTh (evF (val (qG A) (qD A) a b) (qtn A t) (qtL A t) (qtn A t))
def fW (S T : gx_S) : Prop := ∀ q j, (q < 77 ∨ 81 < q) → T q j = S q j
theorem fW_P {S T : gx_S} (f : fW S T) : fP S T := fun q j a => f q j (by omega)
theorem x_isBarred {A : rA} {S : gx_S} (hA : RA A) (hS : RS A S) {t a b : Nat} (ht : t < qc A) (ha : a < nO (qG A)) (hb : b < nO (qG A)) : gt (m_ShopsAsOne_isBarred (nn t) (nn a) (nn b) S) fun r => r.1 = ib (barV A t a b) ∧ fW S r.2 := by
  have hc := hA.2.2.2.2.1
  unfold m_ShopsAsOne_isBarred
  refine gt_cp (x_weigh (pX_R hA hS) hA.2.2.1 ha hb) (fun S1 hS1 => ?_)
  obtain ⟨f1, v1⟩ := hS1
  rw [ck_n (by omega) (by omega), nn_c (by omega)]
  have hS1 := RS_P hA.1 hc hS (fun q j a => f1 q j (by omega) (by omega))
  refine gt_cs (x_holds (hS1.2.2.2.2.2 t ht) (by omega) v1 (hA.2.2.2.2.2.2 t ht)) (fun v S2 hS2 => ?_)
  obtain ⟨f2, e⟩ := hS2
  simp only at f2 e
  refine gt_bz (by rw [e]; cases eTh (evF (val (qG A) (qD A) a b) (qtn A t) (qtL A t) (qtn A t)); exact Or.inl rfl; exact Or.inr rfl) (gt_some ⟨e, fun q j hq => ?_⟩)
  exact (f2 q j (by omega) (by omega) (by omega) (by omega)).trans (f1 q j (by omega) (by omega))
theorem u_bars {A : rA} {T : gx_S} (hA : RA A) (hT : RT A T) {t a b : Nat} (ht : t < qc A) (ha : a < nO (qG A)) (hb : b < nO (qG A)) (hab : a ≠ b) : gt (n_barsNow (nn t) (nn a) (nn b) T) fun r => fk T r.2 ∧ r.1 = ib (barV A t a b) :=
  u_barsNow (pU_R hA hT) hA.2.2.1 ha hb hab (hT.2.2.2.2.2.2 t ht) (by have := hA.2.2.2.2.1; omega) (hA.2.2.2.2.2.2 t ht)
theorem uD_k {D S T : gx_S} (h : uD D S) (f : fk S T) : uD D T := fun j hj => by
  rw [f _ _ (by omega) (by omega) (by omega) (by omega) (by omega), f _ _ (by omega) (by omega) (by omega) (by omega) (by omega), f _ _ (by omega) (by omega) (by omega) (by omega) (by omega)]
  exact h j hj
theorem st_bars {S T : gx_S} (h : RR S T) (x y z : Int32) : cSS (m_ShopsAsOne_bars x y z S) (n_bars x y z T) := by
  obtain ⟨A, hA, hS, hT, hK⟩ := id h
  have hO := (wG_O hA.1).2
  have hc := hA.2.2.2.2.1
  unfold m_ShopsAsOne_bars n_bars n_bars_17
  rcases chkT (by omega) hS.2.2.2.1 hT.2.2.2.2.1 x with ⟨t, ht, rfl, h3, h4⟩ | ⟨h3, h4⟩
  · rw [h3, h4, cp_s, cp_s, if_pos rfl, if_neg i10]
    rcases chkTwo (by omega) (RS_c hA hS).1 (RT_c hA hT).1 y z with ⟨a, b, h1, h2, hab, rfl, rfl, h3, h4⟩ | ⟨h3, h4⟩
    · rw [h3, h4, cp_s, cp_s, if_pos rfl, if_neg i10]
      refine gt_cs (x_isBarred hA hS ht h1 h2) (fun v S1 hS1 => ?_)
      obtain ⟨e1, f1⟩ := hS1
      simp only at e1 f1
      have right : ∀ w : Int32, w = v → gt (gx_cs (n_barsNow (nn t) (nn a) (nn b) T) fun v7 S6 => if v7 = 0 then some (0, S6) else some (1, S6)) fun r' => (if v = 0 then (0 : Int32) else 1) = r'.1 ∧ RR S1 r'.2 := fun w hw => by
        refine gt_cs (u_bars hA hT ht h1 h2 hab) (fun v' T1 hT1 => ?_)
        obtain ⟨g1, e2⟩ := hT1
        simp only at g1 e2
        have fin := RR_O hA hS hT hK (fW_P f1) (fk_O g1) (uD_k hT.2.1 g1)
        have : v' = v := by rw [e1, e2]
        rw [this]
        by_cases z : v = 0
        · rw [if_pos z, if_pos z]; exact gt_some ⟨rfl, fin⟩
        · rw [if_neg z, if_neg z]; exact gt_some ⟨rfl, fin⟩
      by_cases z : v = 0
      · rw [if_pos z]
        refine gt_some (gt_mono (right v rfl) (fun r hr => ?_))
        rw [if_pos z] at hr
        exact hr
      · rw [if_neg z]
        refine gt_some (gt_mono (right v rfl) (fun r hr => ?_))
        rw [if_neg z] at hr
        exact hr
    · rw [h3, h4, cp_s, cp_s, if_neg i10, if_pos rfl]; exact cSS_s h
  · rw [h3, h4, cp_s, cp_s, if_neg i10, if_pos rfl]; exact cSS_s h

/-! b38: wrong tests -/
theorem x_tooMany {G D S : gx_S} (p : pX 0 G D S) (a b : Nat) : m_ShopsAsOne_areTooMany (nn a) (nn b) S = some (if cnt G D a + cnt G D b ≤ 3 then 0 else 1) := by
  have h1 := cnt6 (D := D) p.1 a
  have h2 := cnt6 (D := D) p.1 b
  unfold m_ShopsAsOne_areTooMany
  rw [x_shopsOf p, x_shopsOf p, cp_s, cp_s, nn_add, show (3 : Int32) = nn 3 from rfl]
  by_cases z : cnt G D a + cnt G D b ≤ 3
  · rw [if_pos (show nn (cnt G D a + cnt G D b) ≤ nn 3 by rw [nn_le (by omega) (by omega)]; exact z), if_pos z]
  · rw [if_neg (show ¬ nn (cnt G D a + cnt G D b) ≤ nn 3 by rw [nn_le (by omega) (by omega)]; exact z), if_neg z]
theorem u_fitsO {G D T : gx_S} (q : pU G D (-1) T) (a b : Nat) : n_fits (nn a) (nn b) T = some (if cnt G D a + cnt G D b ≤ 3 then 1 else 0) := by
  have h1 := cnt6 (D := D) q.1 a
  have h2 := cnt6 (D := D) q.1 b
  unfold n_fits
  rw [u_shopsOf q, u_shopsOf q, cp_s, cp_s, nn_add, show (3 : Int32) = nn 3 from rfl]
  by_cases z : cnt G D a + cnt G D b ≤ 3
  · rw [if_neg (show ¬ nn 3 < nn (cnt G D a + cnt G D b) by rw [nn_lt (by omega) (by omega)]; omega), if_pos z]
  · rw [if_pos (show nn 3 < nn (cnt G D a + cnt G D b) by rw [nn_lt (by omega) (by omega)]; omega), if_neg z]
theorem x_isWrong (p q : Bool) (v : Int32) (S : gx_S) : m_ShopsAsOne_isWrong (ib p) (ib q) v S = some (if ¬ v = -1 ∧ p = q ∧ (v = 0 ↔ q = true) then 1 else 0) := by
  unfold m_ShopsAsOne_isWrong m_ShopsAsOne_isWrong_27 m_ShopsAsOne_isWrong_19 m_ShopsAsOne_isWrong_27
  by_cases h1 : v = -1
  · rw [if_pos h1, if_neg (fun z => z.1 h1)]
  · rw [if_neg h1]
    by_cases h2 : p = q
    · subst h2
      rw [if_pos rfl]
      by_cases h3 : v = 0
      · rw [if_pos h3]
        cases p with
        | false => rw [if_neg (by decide), if_neg (fun z => absurd (z.2.2.mp h3) (by decide))]
        | true => rw [if_pos (by decide), if_pos ⟨h1, rfl, fun _ => rfl, fun _ => h3⟩]
      · rw [if_neg h3]
        cases p with
        | false => rw [if_pos (by decide), if_pos ⟨h1, rfl, fun z => absurd z h3, fun z => absurd z (by decide)⟩]
        | true => rw [if_neg (by decide), if_neg (fun z => h3 (z.2.2.mpr rfl))]
    · rw [if_neg (by intro z; apply h2; cases p <;> cases q <;> first | rfl | exact absurd z (by decide)), if_neg (fun z => h2 z.2.1)]
/-- whether a and b are told wrong -/
noncomputable def wb (A : rA) (x : Int32) (t a b : Nat) : Int32 := if barV A t a b = decide (x = 1) ∧ (hrm (qG A) (ste (qG A) (qD A)).2 (ste (qG A) (gv (qG A) (qD A) a b)).2 = 0 ↔ x = 1) then 1 else 0
noncomputable def wv (A : rA) (x : Int32) (t a b : Nat) : Int32 := if cnt (qG A) (qD A) a + cnt (qG A) (qD A) b ≤ 3 then (if (ste (qG A) (gv (qG A) (qD A) a b)).1 = -1 then 0 else wb A x t a b) else 0
noncomputable def wr (A : rA) (x : Int32) (t a n : Nat) : Int32 := sm (fun b => if a < b then wv A x t a b else 0) n
noncomputable def wt (A : rA) (x : Int32) (t n : Nat) : Int32 := sm (fun a => wr A x t a (nO (qG A))) n
theorem wr_0 (A : rA) (x : Int32) (t a : Nat) : wr A x t a (a + 1) = 0 := by
  unfold wr
  rw [sm_cg (g := fun _ => 0) (fun j hj => by rw [if_neg (by omega)]), sm_0]
theorem wr_s {A : rA} {x : Int32} {t a b : Nat} (h : a < b) : wr A x t a (b + 1) = wr A x t a b + wv A x t a b := by
  show wr A x t a b + (if a < b then wv A x t a b else 0) = _
  rw [if_pos h]
theorem x_wrongIn {A : rA} {S : gx_S} (hA : RA A) (hS : RS A S) (hB : sB (qG A) (ste (qG A) (qD A)).2 S) {x : Int32} {t a : Nat} (ht : t < qc A) (ha : a < nO (qG A)) (c : Int32) (k66 : Int32 × Int32 × gx_S → Option (Int32 × gx_S)) (P : Int32 × gx_S → Prop) (hk : ∀ U, fP S U → sB (qG A) (ste (qG A) (qD A)).2 U → gt (k66 (c + wr A x t a (nO (qG A)), nn (a + 1), U)) P) : gt (gx_loop (m_ShopsAsOne_wrong_84 k66 (nn t) x (nn a)) 5000 (c, nn a + 1, S)) P := by
  have hO := (wG_O hA.1).2
  have hc := hA.2.2.2.2.1
  rw [nn_s]
  refine gt_for (nO (qG A)) (fun b τ => a < b ∧ τ.1 = c + wr A x t a b ∧ τ.2.1 = nn b ∧ fP S τ.2.2 ∧ sB (qG A) (ste (qG A) (qD A)).2 τ.2.2) ?_ ?_ (a + 1) 5000 _ (by omega) ⟨by omega, by rw [wr_0, Int32.add_zero], rfl, fP_r S, hB⟩ (by omega)
  · rintro b ⟨_, _, U⟩ k hb ⟨hab, rfl, rfl, f, s⟩ hkk
    simp only at f s
    simp only [m_ShopsAsOne_wrong_84]
    have hU := RS_P hA.1 hc hS f
    have pU' := pX_R hA hU
    have e1 : U 1 0 = nn (nO (qG A)) := (RS_c hA hU).1
    rw [e1, if_neg (show ¬ nn (nO (qG A)) ≤ nn b by rw [nn_le (by omega) (by omega)]; omega), x_tooMany pU', cp_s]
    have nx : ∀ V w, fP U V → sB (qG A) (ste (qG A) (qD A)).2 V → w = wv A x t a b → gt (k (c + wr A x t a b + w, nn b + 1, V)) P := fun V w f' s' hw => by
      rw [nn_s]
      refine hkk _ ⟨by omega, ?_, rfl, fP_t f f', s'⟩
      simp only
      rw [wr_s hab, hw, Int32.add_assoc]
    unfold m_ShopsAsOne_wrong_126 m_ShopsAsOne_wrong_150
    by_cases c3 : cnt (qG A) (qD A) a + cnt (qG A) (qD A) b ≤ 3
    · rw [if_pos c3, if_pos rfl]
      refine gt_cs (x_isBarred hA hU ht ha hb) (fun v V hV => ?_)
      obtain ⟨e2, f2⟩ := hV
      simp only at e2 f2
      have hg := wD_gv hA.2.2.1 hO ha hb (by omega) c3
      have hV := RS_P hA.1 hc hU (fW_P f2)
      have sV : sB (qG A) (ste (qG A) (qD A)).2 V := fun i hi => (f2 64 i (by omega)).trans (s i hi)
      have both : ∀ q : Bool, q = decide (x = 1) → gt (gx_cs (m_Joining_harmOf 0 (nn a) (nn b) V) fun v3 S2 => gx_cp (m_ShopsAsOne_isWrong v (ib q) v3 S2) fun v5 => if v5 = 0 then k (c + wr A x t a b, nn b + 1, S2) else k (c + wr A x t a b + 1, nn b + 1, S2)) P := fun q hq => by
        refine gt_cs (x_harmOf (pX_R hA hV) hA.2.2.1 (by omega) (by omega) (by omega) hg sV) (fun v3 W hW => ?_)
        obtain ⟨e3, f3⟩ := hW
        simp only at e3 f3
        rw [e2, x_isWrong, cp_s]
        have p1 := (hrm_p hA.1 (wD_ste hA.1 hA.2.2.1) (wD_ste hA.1 hg)).1
        have fW : fP U W := fP_t (fW_P f2) (fK_P f3)
        have sW := sB_K sV f3
        have ev : wv A x t a b = if ¬ v3 = -1 ∧ barV A t a b = q ∧ (v3 = 0 ↔ q = true) then 1 else 0 := by
          unfold wv wb
          rw [if_pos c3, e3]
          unfold hmo
          by_cases y : (ste (qG A) (gv (qG A) (qD A) a b)).1 = -1
          · rw [if_pos y, if_pos y, if_neg (fun z => z.1 rfl)]
          · rw [if_neg y, if_neg y, hq]
            have dq : decide (x = 1) = true ↔ x = 1 := decide_eq_true_iff
            by_cases z : barV A t a b = decide (x = 1) ∧ (hrm (qG A) (ste (qG A) (qD A)).2 (ste (qG A) (gv (qG A) (qD A) a b)).2 = 0 ↔ x = 1)
            · rw [if_pos z, if_pos ⟨p1, z.1, z.2.trans dq.symm⟩]
            · rw [if_neg z, if_neg (fun w => z ⟨w.2.1, w.2.2.trans dq⟩)]
        by_cases z : ¬ v3 = -1 ∧ barV A t a b = q ∧ (v3 = 0 ↔ q = true)
        · rw [if_pos z] at ev ⊢
          rw [if_neg i10]
          exact nx W 1 fW sW ev.symm
        · rw [if_neg z] at ev ⊢
          rw [if_pos rfl]
          have := nx W 0 fW sW ev.symm
          rw [Int32.add_zero] at this
          exact this
      by_cases y : x = 1
      · rw [if_pos y]
        exact both true (by rw [y]; rfl)
      · rw [if_neg y]
        exact both false (by simp [y])
    · rw [if_neg c3, if_neg i10]
      have := nx U 0 (fP_r U) s (by unfold wv; rw [if_neg c3])
      rw [Int32.add_zero] at this
      exact this
  · rintro ⟨_, _, U⟩ k ⟨_, rfl, rfl, f, s⟩
    simp only at f s
    simp only [m_ShopsAsOne_wrong_84]
    have e1 : U 1 0 = nn (nO (qG A)) := (RS_c hA (RS_P hA.1 hc hS f)).1
    rw [e1, if_pos (Int32.le_refl _), nn_s]
    exact hk U f s
theorem x_wrong {A : rA} {S : gx_S} (hA : RA A) (hS : RS A S) (hB : sB (qG A) (ste (qG A) (qD A)).2 S) {x : Int32} {t : Nat} (ht : t < qc A) : gt (gx_loop (m_ShopsAsOne_wrong_66 (nn t) x) 5000 (0, 0, S)) fun r => r.1 = wt A x t (nO (qG A)) ∧ fP S r.2 := by
  have hO := (wG_O hA.1).2
  have hc := hA.2.2.2.2.1
  refine gt_for (nO (qG A)) (fun a τ => τ.1 = wt A x t a ∧ τ.2.1 = nn a ∧ fP S τ.2.2 ∧ sB (qG A) (ste (qG A) (qD A)).2 τ.2.2) ?_ ?_ 0 5000 _ (by omega) ⟨rfl, rfl, fP_r S, hB⟩ (by omega)
  · rintro a ⟨_, _, U⟩ k ha ⟨rfl, rfl, f, s⟩ hkk
    simp only at f s
    simp only [m_ShopsAsOne_wrong_66]
    have hU := RS_P hA.1 hc hS f
    have e1 : U 1 0 = nn (nO (qG A)) := (RS_c hA hU).1
    rw [e1, if_neg (show ¬ nn (nO (qG A)) ≤ nn a by rw [nn_le (by omega) (by omega)]; omega)]
    exact x_wrongIn hA hU s ht ha _ k _ (fun V f' s' => hkk _ ⟨rfl, rfl, fP_t f f', s'⟩)
  · rintro ⟨_, _, U⟩ k ⟨rfl, rfl, f, s⟩
    simp only at f s
    simp only [m_ShopsAsOne_wrong_66]
    have e1 : U 1 0 = nn (nO (qG A)) := (RS_c hA (RS_P hA.1 hc hS f)).1
    rw [e1, if_pos (Int32.le_refl _)]
    exact gt_some ⟨rfl, f⟩
/-! the reference's -/
theorem u_123 {A : rA} {T : gx_S} (hA : RA A) (hT : RT A T) {x x3 : Int32} (hx : x = 0 ∨ x = 1) {t a b : Nat} (ht : t < qc A) (ha : a < nO (qG A)) (hb : b < nO (qG A)) (hab : a ≠ b) (c : Int32) {hf : Int32} (he : hf = if hrm (qG A) (ste (qG A) (qD A)).2 (ste (qG A) (gv (qG A) (qD A) a b)).2 = 0 then 0 else 1) (k56 k75 : Int32 × Int32 × gx_S → Option (Int32 × gx_S)) (P : Int32 × gx_S → Prop) (hk : ∀ U, fk T U → gt (k75 (c + wb A x t a b, nn b + 1, U)) P) : gt (n_wrong_123 k56 k75 (nn t) x x3 c (nn a) (nn b) hf T) P := by
  have key : ∀ s2 : Int32, s2 = (if x = 0 then 1 else 0) → gt (n_wrong_138 k56 k75 (nn t) x x3 (nn a) (nn b) c hf s2 T) P := fun s2 hs => by
    unfold n_wrong_138 n_wrong_160 n_wrong_167 n_wrong_168 n_wrong_171
    have eq : hf = s2 ↔ (hrm (qG A) (ste (qG A) (qD A)).2 (ste (qG A) (gv (qG A) (qD A) a b)).2 = 0 ↔ x = 1) := by
      rw [he, hs]
      by_cases y : hrm (qG A) (ste (qG A) (qD A)).2 (ste (qG A) (gv (qG A) (qD A) a b)).2 = 0
      · rw [if_pos y]
        rcases hx with z | z
        · rw [z, if_pos rfl]
          exact ⟨fun w => absurd w (by decide), fun w => absurd (w.mp y) (by decide)⟩
        · rw [z, if_neg i10]
          exact ⟨fun _ => ⟨fun _ => rfl, fun _ => y⟩, fun _ => rfl⟩
      · rw [if_neg y]
        rcases hx with z | z
        · rw [z, if_pos rfl]
          exact ⟨fun _ => ⟨fun w => absurd w y, fun w => absurd w (by decide)⟩, fun _ => rfl⟩
        · rw [z, if_neg i10]
          exact ⟨fun w => absurd w (by decide), fun w => absurd (w.mpr rfl) y⟩
    by_cases y : hf = s2
    · rw [if_pos y]
      refine gt_cs (u_bars hA hT ht ha hb hab) (fun v U hU => ?_)
      obtain ⟨g, e⟩ := hU
      simp only at g e
      have y' := eq.mp y
      have fin : ∀ w : Int32, w = wb A x t a b → gt (k75 (c + w, nn b + 1, U)) P := fun w hw => by rw [hw]; exact hk U g
      have bb : ∀ q : Bool, q = decide (x = 1) → gt (if v = ib q then k75 (c + 1, nn b + 1, U) else k75 (c + 0, nn b + 1, U)) P := fun q hq => by
        by_cases z : barV A t a b = q
        · rw [e, z, if_pos rfl]
          exact fin 1 (by unfold wb; rw [if_pos ⟨z.trans hq, y'⟩])
        · rw [e, if_neg (by intro w; apply z; revert w; cases barV A t a b <;> cases q <;> intro w <;> first | rfl | exact absurd w (by decide))]
          exact fin 0 (by unfold wb; rw [if_neg (fun w => z (w.1.trans hq.symm))])
      by_cases z : x = 1
      · rw [if_pos z]
        exact bb true (by rw [z]; rfl)
      · rw [if_neg z]
        exact bb false (by simp [z])
    · rw [if_neg y]
      have := hk T (fk_r T)
      rw [show wb A x t a b = 0 from by unfold wb; rw [if_neg (fun w => y (eq.mpr w.2))]] at this
      exact this
  unfold n_wrong_123
  by_cases z : x = 0
  · rw [if_pos z]; exact key 1 (by rw [if_pos z])
  · rw [if_neg z]; exact key 0 (by rw [if_neg z])
theorem u_wrongIn {A : rA} {T : gx_S} (hA : RA A) (hT : RT A T) (h21 : ∀ s, s < nS (qG A) → T 21 s = spa (qG A) (ste (qG A) (qD A)).2 s) {x x3 : Int32} (hx : x = 0 ∨ x = 1) {t a : Nat} (ht : t < qc A) (ha : a < nO (qG A)) (c : Int32) (k56 : Int32 × Int32 × gx_S → Option (Int32 × gx_S)) (P : Int32 × gx_S → Prop) (hk : ∀ U, fO T U → uD (qD A) U → (∀ s, s < nS (qG A) → U 21 s = spa (qG A) (ste (qG A) (qD A)).2 s) → gt (k56 (c + wr A x t a (nO (qG A)), nn (a + 1), U)) P) : gt (gx_loop (n_wrong_75 k56 (nn t) x x3 (nn a)) 5000 (c, nn a + 1, T)) P := by
  have hO := (wG_O hA.1).2
  have hc := hA.2.2.2.2.1
  rw [nn_s]
  refine gt_for (nO (qG A)) (fun b τ => a < b ∧ τ.1 = c + wr A x t a b ∧ τ.2.1 = nn b ∧ fO T τ.2.2 ∧ uD (qD A) τ.2.2 ∧ (∀ s, s < nS (qG A) → τ.2.2 21 s = spa (qG A) (ste (qG A) (qD A)).2 s)) ?_ ?_ (a + 1) 5000 _ (by omega) ⟨by omega, by rw [wr_0, Int32.add_zero], rfl, fO_r T, hT.2.1, h21⟩ (by omega)
  · rintro b ⟨_, _, U⟩ k hb ⟨hab, rfl, rfl, f, d, s⟩ hkk
    simp only at f d s
    simp only [n_wrong_75]
    have hU := RT_O hT f d
    have pU' := pU_R hA hU
    have e1 : U 0 0 = nn (nO (qG A)) := (RT_c hA hU).1
    rw [e1, if_neg (show ¬ nn (nO (qG A)) ≤ nn b by rw [nn_le (by omega) (by omega)]; omega), u_fitsO pU', cp_s]
    have nx : ∀ V w, fO U V → uD (qD A) V → (∀ s, s < nS (qG A) → V 21 s = spa (qG A) (ste (qG A) (qD A)).2 s) → w = wv A x t a b → gt (k (c + wr A x t a b + w, nn b + 1, V)) P := fun V w f' d' s' hw => by
      rw [nn_s]
      refine hkk _ ⟨by omega, ?_, rfl, fO_t f f', d', s'⟩
      simp only
      rw [wr_s hab, hw, Int32.add_assoc]
    unfold n_wrong_171
    by_cases c3 : cnt (qG A) (qD A) a + cnt (qG A) (qD A) b ≤ 3
    · rw [if_pos c3, if_neg i10]
      have hg := wD_gv hA.2.2.1 hO ha hb (by omega) c3
      refine gt_cs (u_beh pU' hA.2.2.1 hg) (fun v V hV => ?_)
      obtain ⟨e2, g2, p2, _, t22, t21⟩ := hV
      simp only at e2 g2 p2 t22 t21
      have s2 : ∀ s, s < nS (qG A) → V 21 s = spa (qG A) (ste (qG A) (qD A)).2 s := fun i hi => (t21 i).trans (s i hi)
      rw [e2]
      by_cases y : (ste (qG A) (gv (qG A) (qD A) a b)).1 = -1
      · rw [if_pos y, if_pos rfl]
        have := nx V 0 (fM_O g2) p2.2.2.2.1 s2 (by unfold wv; rw [if_pos c3, if_pos y])
        rw [Int32.add_zero] at this
        exact this
      · rw [if_neg y, if_neg i10, u_harmNow p2 (B := (ste (qG A) (qD A)).2) (E := (ste (qG A) (gv (qG A) (qD A) a b)).2) s2 t22, cp_s, if_pos rfl]
        have p1 := (hrm_p hA.1 (wD_ste hA.1 hA.2.2.1) (wD_ste hA.1 hg)).2
        have hV := RT_O hU (fM_O g2) p2.2.2.2.1
        have last : ∀ U', fk V U' → gt (k (c + wr A x t a b + wb A x t a b, nn b + 1, U')) P := fun U' g' => by
          refine nx U' _ (fO_t (fM_O g2) (fk_O g')) (uD_k p2.2.2.2.1 g') (fun i hi => ?_) (by unfold wv; rw [if_pos c3, if_neg y])
          rw [g' _ _ (by omega) (by omega) (by omega) (by omega) (by omega)]
          exact s2 i hi
        by_cases z : hrm (qG A) (ste (qG A) (qD A)).2 (ste (qG A) (gv (qG A) (qD A) a b)).2 ≤ 0
        · rw [if_pos z]
          exact u_123 hA hV hx ht ha hb (by omega) _ (by rw [if_pos (p1.mp z)]) k56 k P last
        · rw [if_neg z]
          exact u_123 hA hV hx ht ha hb (by omega) _ (by rw [if_neg (fun w => z (p1.mpr w))]) k56 k P last
    · rw [if_neg c3, if_pos rfl]
      have := nx U 0 (fO_r U) d s (by unfold wv; rw [if_neg c3])
      rw [Int32.add_zero] at this
      exact this
  · rintro ⟨_, _, U⟩ k ⟨_, rfl, rfl, f, d, s⟩
    simp only at f d s
    simp only [n_wrong_75]
    have e1 : U 0 0 = nn (nO (qG A)) := (RT_c hA (RT_O hT f d)).1
    rw [e1, if_pos (Int32.le_refl _), nn_s]
    exact hk U f d s
theorem u_wrong {A : rA} {T : gx_S} (hA : RA A) (hT : RT A T) (h21 : ∀ s, s < nS (qG A) → T 21 s = spa (qG A) (ste (qG A) (qD A)).2 s) {x x3 : Int32} (hx : x = 0 ∨ x = 1) {t : Nat} (ht : t < qc A) : gt (gx_loop (n_wrong_56 (nn t) x x3) 5000 (0, 0, T)) fun r => r.1 = (if x3 = 0 then 0 else wt A x t (nO (qG A))) ∧ fO T r.2 ∧ uD (qD A) r.2 := by
  have hO := (wG_O hA.1).2
  by_cases z : x3 = 0
  · rw [if_pos z, gx_loop_s]
    simp only [n_wrong_56]
    by_cases y : T 0 0 ≤ 0
    · rw [if_pos y]; exact gt_some ⟨rfl, fO_r T, hT.2.1⟩
    · rw [if_neg y, if_pos z]; exact gt_some ⟨rfl, fO_r T, hT.2.1⟩
  · rw [if_neg z]
    refine gt_for (nO (qG A)) (fun a τ => τ.1 = wt A x t a ∧ τ.2.1 = nn a ∧ fO T τ.2.2 ∧ uD (qD A) τ.2.2 ∧ (∀ s, s < nS (qG A) → τ.2.2 21 s = spa (qG A) (ste (qG A) (qD A)).2 s)) ?_ ?_ 0 5000 _ (by omega) ⟨rfl, rfl, fO_r T, hT.2.1, h21⟩ (by omega)
    · rintro a ⟨_, _, U⟩ k ha ⟨rfl, rfl, f, d, s⟩ hkk
      simp only at f d s
      simp only [n_wrong_56]
      have hU := RT_O hT f d
      have e1 : U 0 0 = nn (nO (qG A)) := (RT_c hA hU).1
      rw [e1, if_neg (show ¬ nn (nO (qG A)) ≤ nn a by rw [nn_le (by omega) (by omega)]; omega), if_neg z]
      exact u_wrongIn hA hU s hx ht ha _ k _ (fun V f' d' s' => hkk _ ⟨rfl, rfl, fO_t f f', d', s'⟩)
    · rintro ⟨_, _, U⟩ k ⟨rfl, rfl, f, d, s⟩
      simp only at f d s
      simp only [n_wrong_56]
      have e1 : U 0 0 = nn (nO (qG A)) := (RT_c hA (RT_O hT f d)).1
      rw [e1, if_pos (Int32.le_refl _)]
      exact gt_some ⟨rfl, f, d⟩
theorem st_wrong {S T : gx_S} (h : RR S T) (x y : Int32) : cSS (m_ShopsAsOne_wrong x y S) (n_wrong x y T) := by
  obtain ⟨A, hA, hS, hT, hK⟩ := id h
  have hO := (wG_O hA.1).2
  have hc := hA.2.2.2.2.1
  have hw6 := hA.2.2.2.2.2.1
  have eS : S 0 11 = nn (qw A) := hS.2.2.2.2.1
  have eT : T 0 16 = nn (qw A) := hT.2.2.2.2.2.1
  unfold m_ShopsAsOne_wrong n_wrong
  rcases chkT (by omega) hS.2.2.2.1 hT.2.2.2.2.1 x with ⟨t, ht, rfl, h3, h4⟩ | ⟨h3, h4⟩
  · rw [h3, h4, cp_s, cp_s, if_pos rfl, if_neg i10]
    rcases chkR y 0 1 S T with ⟨hy, k3, k4⟩ | ⟨k3, k4⟩
    · rw [k3, k4, cp_s, cp_s, if_pos rfl, if_neg i10, eS, eT]
      have hx : y = 0 ∨ y = 1 := by
        obtain ⟨w1, w2⟩ := hy
        lia
      by_cases c6 : qw A < 6
      · rw [if_pos (show nn (qw A) < (6 : Int32) by rw [show (6 : Int32) = nn 6 from rfl, nn_lt (by omega) (by omega)]; exact c6), if_neg (show ¬ nn (qw A) = (6 : Int32) by rw [show (6 : Int32) = nn 6 from rfl, nn_eq (by omega) (by omega)]; omega), nn_s, let_s, let_s]
        obtain ⟨A', hA'e⟩ : ∃ A' : rA, A' = (qG A, qD A, qn A, qL A, qc A, qtn A, qtL A, qw A + 1) := ⟨_, rfl⟩
        have q1 : qG A' = qG A := by rw [hA'e]; rfl
        have q2 : qD A' = qD A := by rw [hA'e]; rfl
        have q3 : qc A' = qc A := by rw [hA'e]; rfl
        have hA' : RA A' := by
          rw [hA'e]
          refine ⟨hA.1, hA.2.1, hA.2.2.1, hA.2.2.2.1, hA.2.2.2.2.1, ?_, hA.2.2.2.2.2.2⟩
          show qw A + 1 ≤ 6
          omega
        have hS' : RS A' (gx_st S 0 11 (nn (qw A + 1))) := by
          rw [hA'e]
          obtain ⟨h1, h2, h3, h4, h5, h6⟩ := hS
          refine ⟨⟨fun q j a b => (gx_st_q _ _ _ _ (by omega)).trans (h1.1 q j a b), fun s k hs hk => (gx_st_q _ _ _ _ (by omega)).trans (h1.2 s k hs hk)⟩, vD_f h2 (fun q j a b => gx_st_q _ _ _ _ (by omega)), ⟨h3.1, ?_, fun j hj => ?_⟩, ?_, gx_st_eq _ _ _ _, fun t ht => ⟨(h6 t ht).1, ?_, fun j hj => ?_⟩⟩
          · rw [gx_st_q _ _ _ _ (by omega)]; exact h3.2.1
          · rw [gx_st_q _ _ _ _ (by omega)]; exact h3.2.2 j hj
          · rw [gx_st_j _ _ _ (by omega)]; exact h4
          · rw [gx_st_q _ _ _ _ (by omega)]; exact (h6 t ht).2.1
          · rw [gx_st_q _ _ _ _ (by omega)]; exact (h6 t ht).2.2 j hj
        have hT' : RT A' (gx_st T 0 16 (nn (qw A + 1))) := by
          rw [hA'e]
          obtain ⟨⟨⟨a1, a2, a3⟩, b, c, d⟩, h2, h3, h4, h5, h6, h7⟩ := hT
          have g : ∀ q j, (q ≠ 0 ∨ j ≠ 16) → gx_st T 0 16 (nn (qw A + 1)) q j = T q j := fun q j z => by
            by_cases w : q = 0
            · subst w; exact gx_st_j _ _ _ (by omega)
            · exact gx_st_q _ _ _ _ w
          refine ⟨⟨⟨?_, ?_, ?_⟩, fun o ho => ?_, fun k hk => ?_, fun s i hs hi => ?_⟩, fun j hj => ?_, ?_, ⟨h4.1, ?_, fun j hj => ?_⟩, ?_, gx_st_eq _ _ _ _, fun t ht => ⟨(h7 t ht).1, ?_, fun j hj => ?_⟩⟩
          · rw [g _ _ (by omega)]; exact a1
          · rw [g _ _ (by omega)]; exact a2
          · rw [g _ _ (by omega)]; exact a3
          · rw [g _ _ (by omega), g _ _ (by omega)]; exact b o ho
          · rw [g _ _ (by omega), g _ _ (by omega)]; exact c k hk
          · rw [g _ _ (by omega)]; exact d s i hs hi
          · rw [g _ _ (by omega), g _ _ (by omega), g _ _ (by omega)]; exact h2 j hj
          · rw [g _ _ (by omega)]; exact h3
          · rw [g _ _ (by omega)]; exact h4.2.1
          · rw [g _ _ (by omega)]; exact h4.2.2 j hj
          · rw [g _ _ (by omega)]; exact h5
          · rw [g _ _ (by omega)]; exact (h7 t ht).2.1
          · rw [g _ _ (by omega)]; exact (h7 t ht).2.2 j hj
        have hK' : RK (qG A') (gx_st S 0 11 (nn (qw A + 1))) (gx_st T 0 16 (nn (qw A + 1))) := by
          rw [q1]
          refine RK_f hK (fun q j hq => ?_) (fun q j hq => ?_)
          · rcases hq with ⟨rfl, hq⟩ | hq
            · exact gx_st_j _ _ _ (by omega)
            · exact gx_st_q _ _ _ _ (by omega)
          · rcases hq with ⟨rfl, hq⟩ | hq
            · exact gx_st_j _ _ _ (by omega)
            · exact gx_st_q _ _ _ _ (by omega)
        obtain ⟨S5, hS5⟩ : ∃ S5, S5 = gx_st S 0 11 (nn (qw A + 1)) := ⟨_, rfl⟩
        obtain ⟨T5, hT5⟩ : ∃ T5, T5 = gx_st T 0 16 (nn (qw A + 1)) := ⟨_, rfl⟩
        rw [← hS5] at hS' hK' ⊢
        rw [← hT5] at hT' hK' ⊢
        rw [← q3] at ht
        clear hS5 hT5 hA'e
        have right : ∀ S' v, fP S5 S' → v = (if (ste (qG A') (qD A')).1 = -1 then 0 else wt A' y t (nO (qG A'))) → gt (gx_cs (n_layBefore T5) fun v9 S8 => gx_loop (n_wrong_56 (nn t) y v9) 5000 (0, 0, S8)) fun r' => v = r'.1 ∧ RR S' r'.2 := fun S' v fp hv => by
          refine gt_cs (u_layBefore (pU_R hA' hT') hA'.2.2.1) (fun v' T1 hT1 => ?_)
          obtain ⟨e2, g1, p1, t21⟩ := hT1
          simp only at e2 g1 p1 t21
          refine gt_mono (u_wrong (x3 := v') hA' (RT_O hT' (fM_O g1) p1.2.2.2.1) t21 hx ht) (fun r hr => ?_)
          obtain ⟨r1, r2, r3⟩ := hr
          refine ⟨?_, RR_O hA' hS' hT' hK' fp (fO_t (fM_O g1) r2) r3⟩
          rw [r1, hv, e2]
          by_cases q : (ste (qG A') (qD A')).1 = -1
          · rw [if_pos q, if_pos q, if_pos rfl]
          · rw [if_neg q, if_neg q, if_neg i10]
        refine gt_cs (x_before hA' hS') (fun v S1 hS1 => ?_)
        obtain ⟨e1, f1, b1⟩ := hS1
        simp only at e1 f1 b1
        rw [e1]
        by_cases q : (ste (qG A') (qD A')).1 = -1
        · rw [if_pos q, if_pos rfl]
          exact gt_some (right S1 0 (fJ_P f1) (by rw [if_pos q]))
        · rw [if_neg q, if_neg i10]
          refine gt_mono (x_wrong (x := y) hA' (RS_P hA'.1 hA'.2.2.2.2.1 hS' (fJ_P f1)) (b1 q) ht) (fun r hr => ?_)
          obtain ⟨r1, r2⟩ := hr
          exact right r.2 r.1 (fP_t (fJ_P f1) r2) (by rw [if_neg q]; exact r1)
      · rw [if_neg (show ¬ nn (qw A) < (6 : Int32) by rw [show (6 : Int32) = nn 6 from rfl, nn_lt (by omega) (by omega)]; exact c6), if_pos (show nn (qw A) = (6 : Int32) by rw [show (6 : Int32) = nn 6 from rfl, nn_eq (by omega) (by omega)]; omega)]
        exact cSS_s h
    · rw [k3, k4, cp_s, cp_s, if_neg i10, if_pos rfl]; exact cSS_s h
  · rw [h3, h4, cp_s, cp_s, if_neg i10, if_pos rfl]; exact cSS_s h

/-! b39: an image kept and restored; counts -/
theorem RS_W {A : rA} {S S' D' : gx_S} (hG : wG (qG A)) (h : RS A S) (f : ∀ q j, ((1 ≤ q ∧ q < 22) ∨ (q = 0 ∧ (j = 10 ∨ j = 11)) ∨ (65 < q ∧ q < 76)) → S' q j = S q j) (hc : qc A ≤ 4) (hd : vD 0 D' S') : RS (qG A, D', A.2.2) S' := by
  obtain ⟨h1, h2, h3, h4, h5, h6⟩ := h
  have hN := (wG_S hG).2
  refine ⟨⟨fun q j a b => (f q j (by omega)).trans (h1.1 q j a b), fun s k hs hk => (f _ k (by have : s < nS (qG A) := hs; omega)).trans (h1.2 s k hs hk)⟩, hd, ⟨h3.1, ?_, fun j hj => ?_⟩, ?_, ?_, fun t ht => ⟨(h6 t ht).1, ?_, fun j hj => ?_⟩⟩
  · rw [f _ _ (by omega)]; exact h3.2.1
  · rw [f _ _ (by omega)]; exact h3.2.2 j hj
  · rw [f _ _ (by omega)]; exact h4
  · rw [f _ _ (by omega)]; exact h5
  · have : qc (qG A, D', A.2.2) = qc A := rfl
    rw [this] at ht
    rw [f _ _ (by omega)]; exact (h6 t ht).2.1
  · have : qc (qG A, D', A.2.2) = qc A := rfl
    rw [this] at ht
    rw [f _ _ (by omega)]; exact (h6 t ht).2.2 j hj
theorem RT_W {A : rA} {T T' D' : gx_S} (h : RT A T) (f : ∀ q j, q < 12 → q ≠ 3 → q ≠ 4 → q ≠ 7 → (q ≠ 0 ∨ j < 17 ∨ j = 23) → T' q j = T q j) (hd : uD D' T') : RT (qG A, D', A.2.2) T' := by
  obtain ⟨⟨⟨a1, a2, a3⟩, b, c, d⟩, h2, h3, h4, h5, h6, h7⟩ := h
  refine ⟨⟨⟨?_, ?_, ?_⟩, fun o ho => ?_, fun k hk => ?_, fun s i hs hi => ?_⟩, hd, ?_, ⟨h4.1, ?_, fun j hj => ?_⟩, ?_, ?_, fun t ht => ⟨(h7 t ht).1, ?_, fun j hj => ?_⟩⟩
  · rw [f _ _ (by omega) (by omega) (by omega) (by omega) (by omega)]; exact a1
  · rw [f _ _ (by omega) (by omega) (by omega) (by omega) (by omega)]; exact a2
  · rw [f _ _ (by omega) (by omega) (by omega) (by omega) (by omega)]; exact a3
  · rw [f _ _ (by omega) (by omega) (by omega) (by omega) (by omega), f _ _ (by omega) (by omega) (by omega) (by omega) (by omega)]; exact b o ho
  · rw [f _ _ (by omega) (by omega) (by omega) (by omega) (by omega), f _ _ (by omega) (by omega) (by omega) (by omega) (by omega)]; exact c k hk
  · rw [f _ _ (by omega) (by omega) (by omega) (by omega) (by omega)]; exact d s i hs hi
  · rw [f _ _ (by omega) (by omega) (by omega) (by omega) (by omega)]; exact h3
  · rw [f _ _ (by omega) (by omega) (by omega) (by omega) (by omega)]; exact h4.2.1
  · rw [f _ _ (by omega) (by omega) (by omega) (by omega) (by omega)]; exact h4.2.2 j hj
  · rw [f _ _ (by omega) (by omega) (by omega) (by omega) (by omega)]; exact h5
  · rw [f _ _ (by omega) (by omega) (by omega) (by omega) (by omega)]; exact h6
  · rw [f _ _ (by omega) (by omega) (by omega) (by omega) (by omega)]; exact (h7 t ht).2.1
  · rw [f _ _ (by omega) (by omega) (by omega) (by omega) (by omega)]; exact (h7 t ht).2.2 j hj
/-- an owner beyond the last is not in -/
theorem in_0 {G D : gx_S} (hz : zG G) (hw : wD G D) {j : Nat} (hj : j < 6) (hn : nO G ≤ j) : D 3 j = 0 := by
  rcases (hw.1 j hj).2.2 with e | ⟨_, e⟩
  · exact e
  · rw [hz j hn] at e
    exact absurd e (by decide)
theorem u_image {G D T' : gx_S} (hw : wD G D) (hd : uD D T') : gt (gx_loop n_image_23 5000 (0, T')) fun t => t.1 = T' 0 4 ∧ (∀ q i, (q < 12 ∨ 14 < q) → t.2 q i = T' q i) ∧ ∀ i, i < 6 → t.2 12 i = D 1 i ∧ t.2 13 i = D 2 i ∧ t.2 14 i = D 3 i := by
  refine gt_for 6 (fun j t => t.1 = nn j ∧ (∀ q i, (q < 12 ∨ 14 < q) → t.2 q i = T' q i) ∧ ∀ i, i < j → t.2 12 i = D 1 i ∧ t.2 13 i = D 2 i ∧ t.2 14 i = D 3 i) ?_ ?_ 0 5000 _ (by omega) ⟨rfl, fun _ _ _ => rfl, fun i hi => absurd hi (by omega)⟩ (by omega)
  · rintro j ⟨_, U⟩ k hj ⟨rfl, f, g⟩ hk
    simp only at f g
    simp only [n_image_23]
    obtain ⟨u1, u2, u3⟩ := hd j hj
    have v1 : U 7 j = D 1 j := by rw [f _ _ (by omega)]; exact u1
    have v2 : U 4 j = D 2 j := by rw [f _ _ (by omega)]; exact u2
    have v3 : U 3 j = D 3 j := by rw [f _ _ (by omega)]; exact u3
    rw [if_neg (show ¬ (6 : Int32) ≤ nn j by rw [show (6 : Int32) = nn 6 from rfl, nn_le (by omega) (by omega)]; omega)]
    simp (disch := omega) only [ck_n, nn_c, let_s, gx_st_q, v1, v2, v3, nn_s]
    rw [nar_b (wD_1 hw hj)]
    refine hk _ ⟨rfl, fun q i hq => ?_, fun i hi => ?_⟩
    · simp only
      rw [gx_st_q _ _ _ _ (by omega), gx_st_q _ _ _ _ (by omega), gx_st_q _ _ _ _ (by omega)]; exact f q i hq
    · simp only
      by_cases z : i = j
      · subst z
        refine ⟨?_, ?_, ?_⟩
        · rw [gx_st_q _ _ _ _ (by omega), gx_st_q _ _ _ _ (by omega), gx_st_eq]
        · rw [gx_st_q _ _ _ _ (by omega), gx_st_eq]
        · rw [gx_st_eq]
      · obtain ⟨g1, g2, g3⟩ := g i (by omega)
        refine ⟨?_, ?_, ?_⟩
        · rw [gx_st_q _ _ _ _ (by omega), gx_st_q _ _ _ _ (by omega), gx_st_j _ _ _ z]; exact g1
        · rw [gx_st_q _ _ _ _ (by omega), gx_st_j _ _ _ z, gx_st_q _ _ _ _ (by omega)]; exact g2
        · rw [gx_st_j _ _ _ z, gx_st_q _ _ _ _ (by omega), gx_st_q _ _ _ _ (by omega)]; exact g3
  · rintro ⟨_, U⟩ k ⟨rfl, f, g⟩
    simp only at f g
    simp only [n_image_23]
    rw [if_pos (show (6 : Int32) ≤ nn 6 from Int32.le_refl _)]
    exact gt_some ⟨f _ _ (by omega), f, g⟩
theorem st_image {S T : gx_S} (h : RR S T) : cSS (m_ShopsAsOne_image S) (n_image T) := by
  obtain ⟨A, hA, hS, hT, hK⟩ := id h
  have hw := hA.2.2.1
  have hc := hA.2.2.2.2.1
  have cS := RS_c hA hS
  have cT := RT_c hA hT
  have eA : ((qG A, qD A, A.2.2) : rA) = A := rfl
  unfold m_ShopsAsOne_image n_image
  refine gt_cp (x_become (r := 2) (r1 := 0) (by omega) hw hS.2.1) (fun S2 hS2 => ?_)
  obtain ⟨f2, d2⟩ := hS2
  have e0 : S2 1 0 = nn (nO (qG A)) := by rw [f2 _ _ (by omega)]; exact cS.1
  have e1 : S2 1 1 = nn (nP (qG A)) := by rw [f2 _ _ (by omega)]; exact cS.2.1
  refine gt_let (gt_let (gt_let ?_))
  rw [gx_st_q _ (q := 0) (q' := 1) _ _ _ (by omega), e0]
  rw [gx_st_q _ (q := 0) (q' := 1) _ _ _ (by omega), gx_st_q _ (q := 0) (q' := 1) _ _ _ (by omega), e1]
  obtain ⟨S', hS'⟩ : ∃ S', S' = gx_st (gx_st (gx_st S2 0 12 1) 0 13 (nn (nO (qG A)))) 0 14 (nn (nP (qG A))) := ⟨_, rfl⟩
  obtain ⟨T', hT'⟩ : ∃ T', T' = gx_st (gx_st (gx_st T 0 17 1) 0 18 (nn (nO (qG A)))) 0 19 (nn (nP (qG A))) := ⟨_, rfl⟩
  have s12 : S' 0 12 = 1 := by rw [hS', gx_st_j _ _ _ (by omega), gx_st_j _ _ _ (by omega), gx_st_eq]
  have s13 : S' 0 13 = nn (nO (qG A)) := by rw [hS', gx_st_j _ _ _ (by omega), gx_st_eq]
  have s14 : S' 0 14 = nn (nP (qG A)) := by rw [hS', gx_st_eq]
  have t17 : T' 0 17 = 1 := by rw [hT', gx_st_j _ _ _ (by omega), gx_st_j _ _ _ (by omega), gx_st_eq]
  have t18 : T' 0 18 = nn (nO (qG A)) := by rw [hT', gx_st_j _ _ _ (by omega), gx_st_eq]
  have t19 : T' 0 19 = nn (nP (qG A)) := by rw [hT', gx_st_eq]
  have fS : ∀ q j, (q ≠ 0 ∨ j < 12 ∨ 14 < j) → S' q j = S2 q j := fun q j z => by
    rw [hS']
    by_cases w : q = 0
    · subst w
      rw [gx_st_j _ _ _ (by omega), gx_st_j _ _ _ (by omega), gx_st_j _ _ _ (by omega)]
    · rw [gx_st_q _ _ _ _ w, gx_st_q _ _ _ _ w, gx_st_q _ _ _ _ w]
  have fT : ∀ q j, (q ≠ 0 ∨ j < 17 ∨ 19 < j) → T' q j = T q j := fun q j z => by
    rw [hT']
    by_cases w : q = 0
    · subst w
      rw [gx_st_j _ _ _ (by omega), gx_st_j _ _ _ (by omega), gx_st_j _ _ _ (by omega)]
    · rw [gx_st_q _ _ _ _ w, gx_st_q _ _ _ _ w, gx_st_q _ _ _ _ w]
  rw [← hS', s14]
  refine gt_some (gt_let (gt_let (gt_let ?_)))
  rw [gx_st_j _ (j := 17) (j' := 0) _ _ (by omega), cT.1]
  rw [gx_st_j _ (j := 18) (j' := 4) _ _ (by omega), gx_st_j _ (j := 17) (j' := 4) _ _ (by omega), cT.2.1, ← hT']
  clear hS' hT'
  have uT' : uD (qD A) T' := fun j hj => by
    rw [fT _ _ (by omega), fT _ _ (by omega), fT _ _ (by omega)]; exact hT.2.1 j hj
  refine gt_mono (u_image hw uT') (fun r hr => ?_)
  obtain ⟨r1, f, g⟩ := hr
  have fU : ∀ q j, (q < 12 ∨ 14 < q) → (q ≠ 0 ∨ j < 17 ∨ 19 < j) → r.2 q j = T q j := fun q j a b => (f q j a).trans (fT q j b)
  have uU : uD (qD A) r.2 := fun j hj => by
    rw [f _ _ (by omega), f _ _ (by omega), f _ _ (by omega)]; exact uT' j hj
  have hRS : RS A S' := by
    have := RS_W (D' := qD A) (S' := S') hA.1 hS (fun q j hq => by rw [fS _ _ (by omega), f2 _ _ (by omega)]) hc (vD_f hS.2.1 (fun q j a b => by rw [fS _ _ (by omega), f2 _ _ (by omega)]))
    rw [eA] at this
    exact this
  have hRT : RT A r.2 := by
    have := RT_W (D' := qD A) (T' := r.2) hT (fun q j a b c d e => fU q j (by omega) (by omega)) uU
    rw [eA] at this
    exact this
  have hRK : RK (qG A) S' r.2 := by
    refine Or.inr ⟨s12, ?_, qD A, nO (qG A), nP (qG A), s13, ?_, s14, ?_, Nat.le_refl _, Nat.le_refl _, fun j hj => ⟨?_, ?_, g j hj⟩, fun j hj _ => ?_, fun j hj hn => in_0 hA.2.1 hw hj hn, fun j hj => (hw.1 j hj).2.2, fun _ => ⟨hw, hA.2.2.2.1⟩⟩
    · rw [f _ _ (by omega)]; exact t17
    · rw [f _ _ (by omega)]; exact t18
    · rw [f _ _ (by omega)]; exact t19
    · rw [fS _ _ (by omega)]; exact d2 1 j (by omega) (by omega) hj
    · rw [fS _ _ (by omega)]; exact d2 2 j (by omega) (by omega) hj
    · rw [fS _ _ (by omega)]; exact d2 3 j (by omega) (by omega) hj
  exact ⟨by rw [r1, fT _ _ (by omega), cT.2.1], A, hA, hRS, hRT, hRK⟩
theorem st_restore {S T : gx_S} (h : RR S T) : cSS (m_ShopsAsOne_restore S) (n_restore T) := by
  obtain ⟨A, hA, hS, hT, hK⟩ := id h
  have hw := hA.2.2.1
  have hc := hA.2.2.2.2.1
  have hO := (wG_O hA.1).2
  have hP := (wG_P hA.1).2
  have cS := RS_c hA hS
  have cT := RT_c hA hT
  unfold m_ShopsAsOne_restore n_restore
  rcases id hK with ⟨k1, k2⟩ | ⟨k1, k2, K, ko, ks, k3, k4, k5, k6, k7, k8, k9, k10, k11, k12, k13⟩
  · rw [if_pos k1, if_pos k2]; exact cSS_s h
  · rw [if_neg (show ¬ S 0 12 = 0 by rw [k1]; exact i10), if_neg (show ¬ T 0 17 = 0 by rw [k2]; exact i10), k5, k6, cS.2.1, cT.2.1]
    by_cases e : ks = nP (qG A)
    · rw [if_pos (by rw [e]), if_pos (by rw [e]), k3]
      obtain ⟨wK, zK⟩ := k13 e
      obtain ⟨K', hK'⟩ : ∃ K' : gx_S, K' = fun i j => if i = 3 ∧ ko ≤ j ∧ j < nO (qG A) then qD A 3 j else K i j := ⟨_, rfl⟩
      have y1 : ∀ j, K' 1 j = K 1 j := fun j => by rw [hK']; simp
      have y2 : ∀ j, K' 2 j = K 2 j := fun j => by rw [hK']; simp
      have y3 : ∀ j, K' 3 j = if ko ≤ j ∧ j < nO (qG A) then qD A 3 j else K 3 j := fun j => by rw [hK']; simp
      have y2' : K' 2 = K 2 := funext y2
      have wK' : wD (qG A) K' := by
        refine ⟨fun j hj => ⟨?_, ?_, ?_⟩, fun j hj => ?_, fun o ho => ?_⟩
        · rw [y1]; exact (wK.1 j hj).1
        · rw [y2]; exact (wK.1 j hj).2.1
        · rw [y3]; split
          · exact (hw.1 j hj).2.2
          · exact (wK.1 j hj).2.2
        · have : wh K' j = wh K j := by unfold wh; rw [y2]
          rw [this]; exact wK.2.1 j hj
        · have : cnt (qG A) K' o = cnt (qG A) K o := by
            unfold cnt cu
            exact cn_cg (fun j hj => by unfold ow; rw [y2])
          rw [this]; exact wK.2.2 o ho
      have zK' : zD (qG A) K' := fun j hj hn => by rw [y1, y2]; exact zK j hj hn
      have y3' : ∀ j, j < 6 → K' 3 j = if j < ko then K 3 j else qD A 3 j := fun j hj => by
        rw [y3]
        by_cases z : j < ko
        · rw [if_neg (by omega), if_pos z]
        · rw [if_neg z]
          by_cases z2 : j < nO (qG A)
          · rw [if_pos ⟨by omega, z2⟩]
          · rw [if_neg (by omega), k11 j hj (by omega), in_0 hA.2.1 hw hj (by omega)]
      -- the reference
      have right : ∀ S', (∀ q j, ((1 ≤ q ∧ q < 22) ∨ q = 0 ∨ (q = 30 ∨ q = 31) ∨ (65 < q ∧ q < 76)) → S' q j = S q j) → (∀ j, (j < ko ∨ nO (qG A) ≤ j) → S' 32 j = S 32 j) → vD 0 K' S' → gt (gx_loop n_restore_23 5000 (0, T)) fun r' => nn (nP (qG A)) = r'.1 ∧ RR S' r'.2 := fun S' fS f32 dS => by
        refine gt_for (nP (qG A)) (fun j t => t.1 = nn j ∧ (∀ q i, q ≠ 4 → q ≠ 7 → t.2 q i = T q i) ∧ (∀ i, i < j → t.2 7 i = K 1 i ∧ t.2 4 i = K 2 i) ∧ ∀ i, j ≤ i → t.2 7 i = T 7 i ∧ t.2 4 i = T 4 i) ?_ ?_ 0 5000 _ (by omega) ⟨rfl, fun _ _ _ _ => rfl, fun i hi => absurd hi (by omega), fun _ _ => ⟨rfl, rfl⟩⟩ (by omega)
        · rintro j ⟨_, U⟩ k hj ⟨rfl, f, g, g'⟩ hk
          simp only at f g g'
          simp only [n_restore_23]
          obtain ⟨_, _, u1, u2, _⟩ := k9 j (by omega)
          have v0 : U 0 4 = nn (nP (qG A)) := by rw [f _ _ (by omega) (by omega)]; exact cT.2.1
          have v1 : U 12 j = K 1 j := by rw [f _ _ (by omega) (by omega)]; exact u1
          have v2 : U 13 j = K 2 j := by rw [f _ _ (by omega) (by omega)]; exact u2
          rw [v0, if_neg (show ¬ nn (nP (qG A)) ≤ nn j by rw [nn_le (by omega) (by omega)]; omega)]
          simp (disch := omega) only [ck_n, nn_c, let_s, gx_st_q, v1, v2, nn_s]
          refine hk _ ⟨rfl, fun q i a b => ?_, fun i hi => ?_, fun i hi => ?_⟩
          · simp only
            rw [gx_st_q _ _ _ _ a, gx_st_q _ _ _ _ b]; exact f q i a b
          · simp only
            rw [gx_st_q _ (q := 4) (q' := 7) _ _ _ (by omega)]
            by_cases z : i = j
            · subst z; rw [gx_st_eq, gx_st_eq]; exact ⟨rfl, rfl⟩
            · rw [gx_st_j _ _ _ z, gx_st_j _ _ _ z, gx_st_q _ _ _ _ (by omega)]
              exact g i (by omega)
          · simp only
            rw [gx_st_q _ (q := 4) (q' := 7) _ _ _ (by omega), gx_st_j _ _ _ (by omega), gx_st_j _ _ _ (by omega), gx_st_q _ _ _ _ (by omega)]
            exact g' i (by omega)
        · rintro ⟨_, U⟩ k ⟨rfl, f, g, g'⟩
          simp only at f g g'
          simp only [n_restore_23]
          have v0 : U 0 4 = nn (nP (qG A)) := by rw [f _ _ (by omega) (by omega)]; exact cT.2.1
          rw [v0, if_pos (Int32.le_refl _)]
          clear k
          have uU : ∀ j, j < 6 → U 7 j = K 1 j ∧ U 4 j = K 2 j := fun j hj => by
            by_cases z : j < nP (qG A)
            · exact g j z
            · obtain ⟨a1, a2⟩ := g' j (by omega)
              obtain ⟨b1, b2⟩ := zK j hj (by omega)
              obtain ⟨c1, c2⟩ := hA.2.2.2.1 j hj (by omega)
              obtain ⟨d1, d2, _⟩ := hT.2.1 j hj
              rw [a1, a2, b1, b2, d1, d2, c1, c2]; exact ⟨rfl, rfl⟩
          refine gt_for ko (fun j t => t.1 = nn j ∧ (∀ q i, q ≠ 3 → t.2 q i = U q i) ∧ (∀ i, i < j → t.2 3 i = K 3 i) ∧ ∀ i, j ≤ i → t.2 3 i = T 3 i) ?_ ?_ 0 5000 _ (by omega) ⟨rfl, fun _ _ _ => rfl, fun i hi => absurd hi (by omega), fun i _ => f _ _ (by omega) (by omega)⟩ (by omega)
          · rintro j ⟨_, V⟩ k hj ⟨rfl, f1, g1, g1'⟩ hk
            simp only at f1 g1 g1'
            simp only [n_restore_63]
            obtain ⟨_, _, _, _, u3⟩ := k9 j (by omega)
            have w0' : V 0 18 = nn ko := by rw [f1 _ _ (by omega), f _ _ (by omega) (by omega)]; exact k4
            have w1 : V 14 j = K 3 j := by rw [f1 _ _ (by omega), f _ _ (by omega) (by omega)]; exact u3
            rw [w0', if_neg (show ¬ nn ko ≤ nn j by rw [nn_le (by omega) (by omega)]; omega)]
            simp (disch := omega) only [ck_n, nn_c, let_s, w1, nn_s]
            rw [nar_b (wD_1 wK (j := j) (by omega))]
            refine hk _ ⟨rfl, fun q i a => ?_, fun i hi => ?_, fun i hi => ?_⟩
            · simp only
              rw [gx_st_q _ _ _ _ a]; exact f1 q i a
            · simp only
              by_cases z : i = j
              · subst z; rw [gx_st_eq]
              · rw [gx_st_j _ _ _ z]; exact g1 i (by omega)
            · simp only
              rw [gx_st_j _ _ _ (by omega)]; exact g1' i (by omega)
          · rintro ⟨_, V⟩ k ⟨rfl, f1, g1, g1'⟩
            simp only at f1 g1 g1'
            simp only [n_restore_63]
            have w0' : V 0 18 = nn ko := by rw [f1 _ _ (by omega), f _ _ (by omega) (by omega)]; exact k4
            rw [w0', if_pos (Int32.le_refl _)]
            have fV : ∀ q i, q ≠ 3 → q ≠ 4 → q ≠ 7 → V q i = T q i := fun q i a b c => (f1 q i a).trans (f q i b c)
            refine gt_some ⟨?_, (qG A, K', A.2.2), ⟨hA.1, hA.2.1, wK', zK', hA.2.2.2.2⟩, RS_W hA.1 hS (fun q j hq => fS q j (by omega)) hc dS, RT_W hT (fun q j a b c d e => fV q j b c d) (fun j hj => ?_), Or.inr ⟨?_, ?_, K, ko, ks, ?_, ?_, ?_, ?_, k7, k8, fun j hj => ?_, fun j hj hn => ?_, k11, k12, k13⟩⟩
            · show nn (nP (qG A)) = V 0 4
              rw [f1 _ _ (by omega)]; exact v0.symm
            · show V 7 j = K' 1 j ∧ V 4 j = K' 2 j ∧ V 3 j = K' 3 j
              rw [f1 7 j (by omega), f1 4 j (by omega), y1, y2, y3' j hj]
              refine ⟨(uU j hj).1, (uU j hj).2, ?_⟩
              by_cases z : j < ko
              · rw [if_pos z]; exact g1 j z
              · rw [if_neg z, g1' j (by omega)]; exact (hT.2.1 j hj).2.2
            · rw [fS _ _ (by omega)]; exact k1
            · show V 0 17 = 1
              rw [fV _ _ (by omega) (by omega) (by omega)]; exact k2
            · rw [fS _ _ (by omega)]; exact k3
            · show V 0 18 = nn ko
              rw [fV _ _ (by omega) (by omega) (by omega)]; exact k4
            · rw [fS _ _ (by omega)]; exact k5
            · show V 0 19 = nn ks
              rw [fV _ _ (by omega) (by omega) (by omega)]; exact k6
            · show S' 30 j = K 1 j ∧ S' 31 j = K 2 j ∧ V 12 j = K 1 j ∧ V 13 j = K 2 j ∧ V 14 j = K 3 j
              rw [fS _ _ (by omega), fS _ _ (by omega), fV _ _ (by omega) (by omega) (by omega), fV _ _ (by omega) (by omega) (by omega), fV _ _ (by omega) (by omega) (by omega)]; exact k9 j hj
            · rw [f32 _ hn]; exact k10 j hj hn
      refine gt_for (nO (qG A)) (fun j t => t.1 = nn j ∧ ko ≤ j ∧ (∀ q i, q ≠ 32 → t.2 q i = S q i) ∧ (∀ i, ko ≤ i → i < j → t.2 32 i = qD A 3 i) ∧ ∀ i, (i < ko ∨ j ≤ i) → t.2 32 i = S 32 i) ?_ ?_ ko 5000 _ k7 ⟨rfl, Nat.le_refl _, fun _ _ _ => rfl, fun i h1 h2 => absurd h1 (by omega), fun _ _ => rfl⟩ (by omega)
      · rintro j ⟨_, U⟩ k hj ⟨rfl, hjk, f, g, g'⟩ hk
        simp only at f g g'
        simp only [m_ShopsAsOne_restore_29]
        have v0 : U 1 0 = nn (nO (qG A)) := by rw [f _ _ (by omega)]; exact cS.1
        have v1 : U 24 j = qD A 3 j := by rw [f _ _ (by omega)]; exact hS.2.1 3 j (by omega) (by omega) (by omega)
        rw [v0, if_neg (show ¬ nn (nO (qG A)) ≤ nn j by rw [nn_le (by omega) (by omega)]; omega)]
        simp (disch := omega) only [ck_n, nn_c, let_s, v1, nn_s]
        rw [nar_b (wD_1 hw (j := j) (by omega))]
        refine hk _ ⟨rfl, by omega, fun q i a => ?_, fun i h1 h2 => ?_, fun i hi => ?_⟩
        · simp only
          rw [gx_st_q _ _ _ _ a]; exact f q i a
        · simp only
          by_cases z : i = j
          · subst z; rw [gx_st_eq]
          · rw [gx_st_j _ _ _ z]; exact g i h1 (by omega)
        · simp only
          rw [gx_st_j _ _ _ (by omega)]; exact g' i (by omega)
      · rintro ⟨_, U⟩ k ⟨rfl, hjk, f, g, g'⟩
        simp only at f g g'
        simp only [m_ShopsAsOne_restore_29]
        have v0 : U 1 0 = nn (nO (qG A)) := by rw [f _ _ (by omega)]; exact cS.1
        rw [v0, if_pos (Int32.le_refl _)]
        have d2 : vD 2 K' U := fun i j a b hj => by
          obtain ⟨p1, p2, _⟩ := k9 j hj
          match i, a, b with
          | 1, _, _ =>
            show U 30 j = K' 1 j
            rw [y1, f _ _ (by omega)]; exact p1
          | 2, _, _ =>
            show U 31 j = K' 2 j
            rw [y2, f _ _ (by omega)]; exact p2
          | 3, _, _ =>
            show U 32 j = K' 3 j
            rw [y3]
            by_cases z : ko ≤ j ∧ j < nO (qG A)
            · rw [if_pos z]; exact g j z.1 z.2
            · rw [if_neg z, g' j (by omega)]
              exact k10 j hj (by omega)
        refine gt_cp (x_become (r := 0) (r1 := 2) (by omega) wK' d2) (fun V hV => ?_)
        obtain ⟨f3, d3⟩ := hV
        have v5 : V 0 14 = nn (nP (qG A)) := by rw [f3 _ _ (by omega), f _ _ (by omega), k5, e]
        rw [v5]
        exact gt_some (right V (fun q j hq => by rw [f3 _ _ (by omega), f _ _ (by omega)]) (fun j hj => by rw [f3 _ _ (by omega)]; exact g' j hj) d3)
    · have hne : ¬ nn ks = nn (nP (qG A)) := by rw [nn_eq (by omega) (by omega)]; exact e
      rw [if_neg hne, if_neg hne]; exact cSS_s h
/-! counts -/
def hmV (A : rA) (x : Int32) : Int32 := if x = 0 then nn (nO (qG A)) else if x = 1 then nn (nP (qG A)) else if x = 2 then nn (nS (qG A)) else if x = 3 then nn (qc A) else if x = 4 then nn (qn A) else if x = 5 then all (qG A) (qD A) else if x = 6 then nn (qw A) else -102
theorem so_all {G D : gx_S} (hG : wG G) : tot G D (gSo (-1)) = all G D := by
  have hP := (wG_P hG).2
  have hb : ∀ k, k < 6 → gSo (-1) k = 1 := by
    intro k hk
    have : ∀ k, k < 6 → bi (-1) k = 1 := by unfold bi; decide +kernel
    unfold gSo
    rw [if_pos (this k hk)]
  unfold tot all
  refine sm_cg (fun s hs => ?_)
  rw [sx_d]
  rcases cho_n G D s (-1) with e | ⟨i, hi, e, _⟩
  · rw [if_pos e, if_pos e]
  · rw [e, if_neg (nn_m1 (by omega)), if_neg (nn_m1 (by omega)), nn_c (by omega), hb i (by omega), Int32.mul_one]
theorem x_count {A : rA} {S : gx_S} (hA : RA A) (hS : RS A S) (x : Int32) : m_ShopsAsOne_count x S = some (hmV A x) := by
  have c := RS_c hA hS
  unfold m_ShopsAsOne_count hmV
  rw [c.1, c.2.1, c.2.2, hS.2.2.2.1, hS.2.2.2.2.1, show S 66 1 = nn (qn A) from hS.2.2.1.2.1, x_soldBy (pX_R hA hS), cp_s, so_all hA.1]
  repeat' split
  all_goals rfl
theorem u_count {A : rA} {T : gx_S} (hA : RA A) (hT : RT A T) (x : Int32) : gt (n_howMany x T) fun r => r.1 = hmV A x ∧ f15 T r.2 := by
  have c := RT_c hA hT
  have r : f15 T T := fun _ _ _ => rfl
  unfold n_howMany hmV
  refine gt_ite (fun z => gt_some ⟨by rw [if_pos z]; exact c.1, r⟩) (fun z => ?_)
  rw [if_neg z]
  refine gt_ite (fun z => gt_some ⟨by rw [if_pos z]; exact c.2.1, r⟩) (fun z => ?_)
  rw [if_neg z]
  refine gt_ite (fun z => gt_some ⟨by rw [if_pos z]; exact c.2.2, r⟩) (fun z => ?_)
  rw [if_neg z]
  refine gt_ite (fun z => gt_some ⟨by rw [if_pos z]; exact hT.2.2.2.2.1, r⟩) (fun z => ?_)
  rw [if_neg z]
  refine gt_ite (fun z => gt_some ⟨by rw [if_pos z]; exact hT.2.2.2.1.2.1, r⟩) (fun z => ?_)
  rw [if_neg z]
  refine gt_ite (fun z => ?_) (fun z => ?_)
  · rw [if_pos z]
    exact gt_cs (u_laySold (pU_R hA hT)) (fun v U hU => gt_some ⟨hU.1, hU.2.1⟩)
  rw [if_neg z]
  exact gt_ite (fun z => gt_some ⟨by rw [if_pos z]; exact hT.2.2.2.2.2.1, r⟩) (fun z => gt_some ⟨by rw [if_neg z], r⟩)
theorem st_count {S T : gx_S} (h : RR S T) (x : Int32) : cPS S (m_ShopsAsOne_count x S) (n_count x T) := by
  obtain ⟨A, hA, hS, hT, hK⟩ := id h
  unfold n_count
  rw [x_count hA hS]
  exact gt_some (gt_cs (u_count hA hT x) (fun v U hU => gt_some ⟨hU.1.symm, RR_f hA hS hT hK (fP_r S) (f15_Q hU.2)⟩))

/-! b40: the digest -/
def mx (h v : Int64) : Int64 := (31 : Int64) * h + v
def fo (f : Nat → Int64 → Int64) : Nat → Int64 → Int64
  | 0, h => h
  | n + 1, h => f n (fo f n h)
theorem fo_s (f : Nat → Int64 → Int64) (n : Nat) (h : Int64) : fo f (n + 1) h = f n (fo f n h) := rfl
theorem fo_z (f : Nat → Int64 → Int64) (h : Int64) : fo f 0 h = h := rfl
theorem mix_e (h v : Int64) (S : gx_S) : m_ShopsAsOne_mix h v S = some (mx h v) := rfl
theorem lp_fo {R : Type} {body : Int64 × Int32 → (Int64 × Int32 → Option R) → Option R} {o : Option R} (n : Nat) (f : Nat → Int64 → Int64) (h : Int64) (hb : ∀ j k, j < n → body (fo f j h, nn j) k = k (fo f (j + 1) h, nn (j + 1))) (he : ∀ k, body (fo f n h, nn n) k = o) (hn : n < 1000) : gx_loop body 5000 (h, 0) = o := by
  have := lp_for (body := body) n (fun j => (fo f j h, nn j)) hb he 0 5000 (by omega) (by omega)
  exact this
theorem fo_id {f : Nat → Int64 → Int64} : ∀ {n : Nat} {h : Int64}, (∀ j h, j < n → f j h = h) → fo f n h = h
  | 0, _, _ => rfl
  | n + 1, h, hf => by
    show f n (fo f n h) = h
    rw [hf n _ (by omega)]
    exact fo_id (fun j h hj => hf j h (by omega))
def abv (G D : gx_S) (k : Nat) (y : Int32) : Int32 := if y = 0 then D 2 k else if y = 1 then G 4 k else if y = 2 then G 5 k else if y = 3 then D 1 k else if y = 4 then ib (opn G D k) else sl G D k
def E1 (A : rA) (j : Nat) (h : Int64) : Int64 := mx (mx (mx h (qG A 2 j).toInt64) (qG A 3 j).toInt64) (pro (qG A) (qD A) j).toInt64
def e2 (A : rA) (k i : Nat) (h : Int64) : Int64 := mx h (abv (qG A) (qD A) k (nn i)).toInt64
def E2 (A : rA) (k : Nat) (h : Int64) : Int64 := fo (e2 A k) 6 h
def e3 (A : rA) (s i : Nat) (h : Int64) : Int64 := mx h (qG A (6 + i) s).toInt64
def E3 (A : rA) (s : Nat) (h : Int64) : Int64 := mx (mx (fo (e3 A s) 6 h) (cho (qG A) (qD A) s (-1)).toInt64) (spa (qG A) (qD A) s).toInt64
noncomputable def e4 (A : rA) (t a b : Nat) (h : Int64) : Int64 := if a < b then mx h (if barV A t a b = true then 1 else 0) else h
noncomputable def d4 (A : rA) (t a : Nat) (h : Int64) : Int64 := fo (e4 A t a) (nO (qG A)) h
noncomputable def E4 (A : rA) (t : Nat) (h : Int64) : Int64 := fo (d4 A t) (nO (qG A)) h
def E5 (A : rA) (j : Nat) (h : Int64) : Int64 := mx h (nn (qL A j)).toInt64
def E6 (A : rA) (i : Nat) (h : Int64) : Int64 := mx h (hmV A (nn i)).toInt64
theorem E1_e (A : rA) (j : Nat) (h : Int64) : mx (mx (mx h (qG A 2 j).toInt64) (qG A 3 j).toInt64) (pro (qG A) (qD A) j).toInt64 = E1 A j h := rfl
theorem e2_e (A : rA) (k i : Nat) (h : Int64) : mx h (abv (qG A) (qD A) k (nn i)).toInt64 = e2 A k i h := rfl
theorem E2_e (A : rA) (k : Nat) (h : Int64) : fo (e2 A k) 6 h = E2 A k h := rfl
theorem e3_e (A : rA) (s i : Nat) (h : Int64) : mx h (qG A (6 + i) s).toInt64 = e3 A s i h := rfl
theorem E3_e (A : rA) (s : Nat) (h : Int64) : mx (mx (fo (e3 A s) 6 h) (cho (qG A) (qD A) s (-1)).toInt64) (spa (qG A) (qD A) s).toInt64 = E3 A s h := rfl
theorem E3_6 (A : rA) (s : Nat) (h : Int64) : mx (mx (mx (mx (mx (mx h (qG A 6 s).toInt64) (qG A 7 s).toInt64) (qG A 8 s).toInt64) (qG A 9 s).toInt64) (qG A 10 s).toInt64) (qG A 11 s).toInt64 = fo (e3 A s) 6 h := by
  rw [fo_s, fo_s, fo_s, fo_s, fo_s, fo_s, fo_z]
  rfl
theorem d4_e (A : rA) (t a : Nat) (h : Int64) : fo (e4 A t a) (nO (qG A)) h = d4 A t a h := rfl
theorem E4_e (A : rA) (t : Nat) (h : Int64) : fo (d4 A t) (nO (qG A)) h = E4 A t h := rfl
theorem E5_e (A : rA) (j : Nat) (h : Int64) : mx h (nn (qL A j)).toInt64 = E5 A j h := rfl
theorem E6_e (A : rA) (i : Nat) (h : Int64) : mx h (hmV A (nn i)).toInt64 = E6 A i h := rfl
theorem abv_e (G D : gx_S) (k : Nat) (y : Int32) : (if y = 0 then D 2 k else if y = 1 then G 4 k else if y = 2 then G 5 k else if y = 3 then D 1 k else if y = 4 then ib (opn G D k) else sl G D k) = abv G D k y := rfl
theorem e4_0 (A : rA) (t a : Nat) (h : Int64) : fo (e4 A t a) (a + 1) h = h := fo_id (fun j h hj => by unfold e4; rw [if_neg (by omega)])
theorem no_shop {n : Nat} (hn : n < 1000) {S : gx_S} (hS : S 1 1 = nn n) {k : Nat} (hk : k < n) : m_ShopsAsOne_isNoShop (nn k) S = some 0 := by
  unfold m_ShopsAsOne_isNoShop
  rw [hS]
  rcases chk hn (nn k) S S with ⟨_, _, _, m3, _⟩ | ⟨m3, m4⟩
  · rw [m3]; exact bz_0
  · exfalso
    rw [u_within, if_neg (by rw [nn_0, nn_lt (by omega) (by omega)]; omega), nn_p (by omega), if_neg (by rw [nn_lt (by omega) (by omega)]; omega)] at m4
    exact absurd (Option.some.inj m4) (by decide)
theorem x_mixStreet {A : rA} {S : gx_S} (hA : RA A) (hS : RS A S) (h : Int64) : m_ShopsAsOne_mixStreet h S = some (fo (E2 A) (nP (qG A)) (fo (E1 A) (nO (qG A)) h)) := by
  have hO := (wG_O hA.1).2
  have hP := (wG_P hA.1).2
  have c := RS_c hA hS
  have p := pX_R hA hS
  unfold m_ShopsAsOne_mixStreet
  refine lp_fo (nO (qG A)) (E1 A) h (fun j k hj => ?_) (fun k => ?_) (by omega)
  · simp only [m_ShopsAsOne_mixStreet_5]
    have v := p.2.2.1.1
    rw [c.1, if_neg (show ¬ nn (nO (qG A)) ≤ nn j by rw [nn_le (by omega) (by omega)]; omega), ck_n (by omega) (by omega), nn_c (by omega), v _ _ (by omega) (by omega), v _ _ (by omega) (by omega), x_profitOf p (by omega), nn_s, mix_e, cp_s, mix_e, cp_s, cp_s, mix_e, cp_s, E1_e, fo_s]
  · simp only [m_ShopsAsOne_mixStreet_5]
    rw [c.1, if_pos (Int32.le_refl _)]
    clear k
    refine lp_fo (nP (qG A)) (E2 A) (fo (E1 A) (nO (qG A)) h) (fun k kk hk => ?_) (fun k => ?_) (by omega)
    · simp only [m_ShopsAsOne_mixStreet_73]
      rw [c.2.1, if_neg (show ¬ nn (nP (qG A)) ≤ nn k by rw [nn_le (by omega) (by omega)]; omega)]
      refine lp_fo 6 (e2 A k) (fo (E2 A) k (fo (E1 A) (nO (qG A)) h)) (fun i ki hi => ?_) (fun ki => ?_) (by omega)
      · simp only [m_ShopsAsOne_mixStreet_88]
        have hy : (0 : Int32) ≤ nn i ∧ nn i ≤ 5 := nn_b (k := i) (b := 5) (by omega) (by decide)
        rw [if_neg (show ¬ (5 : Int32) < nn i by rw [show (5 : Int32) = nn 5 from rfl, nn_lt (by omega) (by omega)]; omega), x_about p hk (nn i) (no_shop (by omega) c.2.1 hk), if_pos hy, nn_s, abv_e, cp_s, mix_e, cp_s, e2_e, fo_s]
      · simp only [m_ShopsAsOne_mixStreet_88]
        rw [if_pos (show (5 : Int32) < nn 6 by decide), nn_s, E2_e, fo_s]
    · simp only [m_ShopsAsOne_mixStreet_73]
      rw [c.2.1, if_pos (Int32.le_refl _)]
theorem x_mixSorts {A : rA} {S : gx_S} (hA : RA A) (hS : RS A S) (h : Int64) : m_ShopsAsOne_mixSorts h S = some (fo (E3 A) (nS (qG A)) h) := by
  have hN := (wG_S hA.1).2
  have c := RS_c hA hS
  have p := pX_R hA hS
  have v := p.2.2.1.1
  unfold m_ShopsAsOne_mixSorts
  refine lp_fo (nS (qG A)) (E3 A) h (fun s k hs => ?_) (fun k => ?_) (by omega)
  · simp only [m_ShopsAsOne_mixSorts_5]
    rw [c.2.2, if_neg (show ¬ nn (nS (qG A)) ≤ nn s by rw [nn_le (by omega) (by omega)]; omega), ck_n (by omega) (by omega), nn_c (by omega), v _ _ (by omega) (by omega), v _ _ (by omega) (by omega), v _ _ (by omega) (by omega), v _ _ (by omega) (by omega), v _ _ (by omega) (by omega), v _ _ (by omega) (by omega), x_choice p hs, x_spareOf p hs, nn_s]
    simp only [mix_e, cp_s]
    rw [E3_6, E3_e, fo_s]
  · simp only [m_ShopsAsOne_mixSorts_5]
    rw [c.2.2, if_pos (Int32.le_refl _)]
theorem x_mixTests {A : rA} {S : gx_S} (hA : RA A) (hS : RS A S) (h : Int64) : gt (m_ShopsAsOne_mixTests h S) fun r => r.1 = fo (E4 A) (qc A) h ∧ fW S r.2 := by
  have hO := (wG_O hA.1).2
  have hc := hA.2.2.2.2.1
  have fW_t : ∀ {X Y Z : gx_S}, fW X Y → fW Y Z → fW X Z := fun f g q j a => (g q j a).trans (f q j a)
  unfold m_ShopsAsOne_mixTests
  refine gt_for (qc A) (fun t τ => τ.1 = fo (E4 A) t h ∧ τ.2.1 = nn t ∧ fW S τ.2.2) ?_ ?_ 0 5000 _ (by omega) ⟨rfl, rfl, fun _ _ _ => rfl⟩ (by omega)
  · rintro t ⟨_, _, U⟩ k5 ht ⟨rfl, rfl, f⟩ hk5
    simp only at f
    simp only [m_ShopsAsOne_mixTests_5]
    have e : U 0 10 = nn (qc A) := by rw [f _ _ (by omega)]; exact hS.2.2.2.1
    rw [e, if_neg (show ¬ nn (qc A) ≤ nn t by rw [nn_le (by omega) (by omega)]; omega)]
    refine gt_for (nO (qG A)) (fun a τ => τ.1 = fo (d4 A t) a (fo (E4 A) t h) ∧ τ.2.1 = nn a ∧ fW S τ.2.2) ?_ ?_ 0 5000 _ (by omega) ⟨rfl, rfl, f⟩ (by omega)
    · rintro a ⟨_, _, V⟩ k17 ha ⟨rfl, rfl, f1⟩ hk17
      simp only at f1
      simp only [m_ShopsAsOne_mixTests_17]
      have e1 : V 1 0 = nn (nO (qG A)) := by rw [f1 _ _ (by omega)]; exact (RS_c hA hS).1
      rw [e1, if_neg (show ¬ nn (nO (qG A)) ≤ nn a by rw [nn_le (by omega) (by omega)]; omega), nn_s]
      refine gt_for (nO (qG A)) (fun b τ => a < b ∧ τ.1 = fo (e4 A t a) b (fo (d4 A t) a (fo (E4 A) t h)) ∧ τ.2.1 = nn b ∧ fW S τ.2.2) ?_ ?_ (a + 1) 5000 _ (by omega) ⟨by omega, (e4_0 A t a (fo (d4 A t) a (fo (E4 A) t h))).symm, rfl, f1⟩ (by omega)
      · rintro b ⟨_, _, W⟩ k35 hb ⟨hab, rfl, rfl, f2⟩ hk35
        simp only at f2
        simp only [m_ShopsAsOne_mixTests_35]
        have hW := RS_P hA.1 hc hS (fW_P f2)
        rw [(RS_c hA hW).1, if_neg (show ¬ nn (nO (qG A)) ≤ nn b by rw [nn_le (by omega) (by omega)]; omega)]
        refine gt_cs (x_isBarred hA hW ht ha hb) (fun v X hX => ?_)
        obtain ⟨e2', f3⟩ := hX
        simp only at e2' f3
        have nx : ∀ z : Int64, z = (if barV A t a b = true then 1 else 0) → gt (m_ShopsAsOne_mixTests_66 k5 k17 k35 (nn t) (nn a) (nn b) (fo (e4 A t a) b (fo (d4 A t) a (fo (E4 A) t h))) z X) (fun r => r.1 = fo (E4 A) (qc A) h ∧ fW S r.2) := fun z hz => by
          unfold m_ShopsAsOne_mixTests_66
          rw [show m_ShopsAsOne_mix (fo (e4 A t a) b (fo (d4 A t) a (fo (E4 A) t h))) z X = some (mx (fo (e4 A t a) b (fo (d4 A t) a (fo (E4 A) t h))) z) from rfl, cp_s, nn_s]
          refine hk35 (_, _, _) ⟨by omega, ?_, rfl, fW_t f2 f3⟩
          simp only
          rw [fo_s]
          unfold e4
          rw [if_pos hab, hz]
        rw [e2']
        cases hb2 : barV A t a b with
        | false =>
          rw [if_pos (show ib false = 0 from rfl)]
          exact nx 0 (by rw [hb2]; rfl)
        | true =>
          rw [if_neg (show ¬ ib true = 0 from i10)]
          exact nx 1 (by rw [hb2]; rfl)
      · rintro ⟨_, _, W⟩ k35 ⟨_, rfl, rfl, f2⟩
        simp only at f2
        simp only [m_ShopsAsOne_mixTests_35]
        have e2' : W 1 0 = nn (nO (qG A)) := by rw [f2 _ _ (by omega)]; exact (RS_c hA hS).1
        rw [e2', if_pos (Int32.le_refl _), nn_s]
        rw [d4_e]
        exact hk17 (_, _, _) ⟨(fo_s (d4 A t) a (fo (E4 A) t h)).symm, rfl, f2⟩
    · rintro ⟨_, _, V⟩ k17 ⟨rfl, rfl, f1⟩
      simp only at f1
      simp only [m_ShopsAsOne_mixTests_17]
      have e1 : V 1 0 = nn (nO (qG A)) := by rw [f1 _ _ (by omega)]; exact (RS_c hA hS).1
      rw [e1, if_pos (Int32.le_refl _), nn_s]
      rw [E4_e]
      exact hk5 (_, _, _) ⟨(fo_s (E4 A) t h).symm, rfl, f1⟩
  · rintro ⟨_, _, U⟩ k5 ⟨rfl, rfl, f⟩
    simp only at f
    simp only [m_ShopsAsOne_mixTests_5]
    have e : U 0 10 = nn (qc A) := by rw [f _ _ (by omega)]; exact hS.2.2.2.1
    rw [e, if_pos (Int32.le_refl _)]
    exact gt_some ⟨rfl, f⟩
/-- the whole digest -/
noncomputable def dgV (A : rA) : Int64 := fo (E6 A) 7 (fo (E5 A) (qn A) (fo (E4 A) (qc A) (fo (E3 A) (nS (qG A)) (fo (E2 A) (nP (qG A)) (fo (E1 A) (nO (qG A)) 373)))))
theorem x_digest {A : rA} {S : gx_S} (hA : RA A) (hS : RS A S) : gt (m_ShopsAsOne_digest S) fun r => r.1 = dgV A ∧ fW S r.2 := by
  have hc := hA.2.2.2.2.1
  unfold m_ShopsAsOne_digest
  rw [x_mixStreet hA hS, cp_s, x_mixSorts hA hS, cp_s]
  refine gt_cs (x_mixTests hA hS _) (fun h S1 hS1 => ?_)
  obtain ⟨e, f⟩ := hS1
  simp only at e f
  have hS1 := RS_P hA.1 hc hS (fW_P f)
  have e1 : S1 66 1 = nn (qn A) := hS1.2.2.1.2.1
  have hn := hS1.2.2.1.1
  rw [show gx_loop (m_ShopsAsOne_digest_22 S1) 5000 (h, 0) = some (dgV A, S1) from ?_]
  · exact gt_some ⟨rfl, f⟩
  · refine lp_fo (qn A) (E5 A) h (fun j k hj => ?_) (fun k => ?_) (by omega)
    · simp only [m_ShopsAsOne_digest_22]
      have e2' : S1 67 j = nn (qL A j) := (hS1.2.2.1.2.2 j hj).1
      rw [e1, if_neg (show ¬ nn (qn A) ≤ nn j by rw [nn_le (by omega) (by omega)]; omega), ck_n (by omega) (by omega), nn_c (by omega), e2', nn_s, mix_e, cp_s, E5_e, fo_s]
    · simp only [m_ShopsAsOne_digest_22]
      rw [e1, if_pos (Int32.le_refl _)]
      clear k
      refine lp_fo 7 (E6 A) (fo (E5 A) (qn A) h) (fun i k hi => ?_) (fun k => ?_) (by omega)
      · simp only [m_ShopsAsOne_digest_56]
        rw [if_neg (show ¬ (6 : Int32) < nn i by rw [show (6 : Int32) = nn 6 from rfl, nn_lt (by omega) (by omega)]; omega), x_count hA hS1, nn_s, cp_s, mix_e, cp_s, E6_e, fo_s]
      · simp only [m_ShopsAsOne_digest_56]
        rw [if_pos (show (6 : Int32) < nn 7 by decide), e]
        unfold dgV
        rfl

/-! b41: the digest, the reference's -/
def hh (v : Int64) (T : gx_S) : Prop := gx_mk (T 0 182) (T 0 183) = v
def jJ (A : rA) (T0 : gx_S) (v : Int64) (U : gx_S) : Prop := RT A U ∧ fO T0 U ∧ hh v U
theorem stl_f (S : gx_S) (v : Int64) {q j : Nat} (h : q ≠ 0 ∨ (j ≠ 182 ∧ j ≠ 183)) : gx_stl S 0 182 v q j = S q j := by
  unfold gx_stl
  by_cases z : q = 0
  · subst z
    have h1 : j ≠ 182 := by omega
    have h2 : j ≠ 183 := by omega
    simp [va_up, upd, h1, h2]
  · simp [va_up, z]
theorem stl_h (S : gx_S) (v : Int64) : hh v (gx_stl S 0 182 v) := by
  unfold hh gx_stl
  simp only [va_up, ↓reduceIte]
  exact gx_mk_up
theorem jJ_mix {A : rA} {T0 U : gx_S} {v : Int64} (h : jJ A T0 v U) (x : Int64) : gt (n_mix x U) (jJ A T0 (mx v x)) := by
  unfold n_mix
  refine gt_let (gt_some ?_)
  have e : gx_mk (U 0 182) (U 0 183) = v := h.2.2
  rw [e]
  refine ⟨RT_Q h.1 (fun q j a b => stl_f _ _ (by omega)), fO_t h.2.1 (fun q j _ _ _ _ b => stl_f _ _ (by omega)), stl_h _ _⟩
theorem jJ_15 {A : rA} {T0 U V : gx_S} {v : Int64} (h : jJ A T0 v U) (f : f15 U V) : jJ A T0 v V := by
  refine ⟨RT_Q h.1 (f15_Q f), fO_t h.2.1 (fun q j _ _ _ a _ => f q j (by omega)), ?_⟩
  unfold hh
  rw [f _ _ (by omega), f _ _ (by omega)]
  exact h.2.2
theorem jJ_k {A : rA} {T0 U V : gx_S} {v : Int64} (h : jJ A T0 v U) (f : fk U V) : jJ A T0 v V := by
  refine ⟨RT_Q h.1 (fun q j a b => f q j (by omega) (by omega) (by omega) (by omega) (by omega)), fO_t h.2.1 (fk_O f), ?_⟩
  unfold hh
  rw [f _ _ (by omega) (by omega) (by omega) (by omega) (by omega), f _ _ (by omega) (by omega) (by omega) (by omega) (by omega)]
  exact h.2.2
theorem jJ_r {A : rA} {T0 U : gx_S} {v w : Int64} (h : jJ A T0 v U) (e : v = w) : jJ A T0 w U := by rw [← e]; exact h
theorem u_d255 {A : rA} {T0 U : gx_S} {v : Int64} (hA : RA A) (h : jJ A T0 v U) : gt (gx_loop n_digest_255 5000 (0, U)) fun r => r.1 = fo (E6 A) 7 v ∧ ∃ w, jJ A T0 w r.2 := by
  refine gt_for 7 (fun i τ => τ.1 = nn i ∧ jJ A T0 (fo (E6 A) i v) τ.2) ?_ ?_ 0 5000 _ (by omega) ⟨rfl, jJ_r h (fo_z (E6 A) v).symm⟩ (by omega)
  · rintro i ⟨_, V⟩ k hi ⟨rfl, hV⟩ hk
    simp only at hV
    simp only [n_digest_255]
    rw [if_neg (show ¬ (7 : Int32) ≤ nn i by rw [show (7 : Int32) = nn 7 from rfl, nn_le (by omega) (by omega)]; omega)]
    refine gt_cs (u_count hA hV.1 (nn i)) (fun x W hW => gt_cp (jJ_mix (jJ_15 hV hW.2) _) (fun X hX => ?_))
    rw [nn_s]
    refine hk (_, _) ⟨rfl, jJ_r hX ?_⟩
    rw [fo_s, ← E6_e, show x = hmV A (nn i) from hW.1]
  · rintro ⟨_, V⟩ k ⟨rfl, hV⟩
    simp only at hV
    simp only [n_digest_255]
    rw [if_pos (show (7 : Int32) ≤ nn 7 by decide)]
    exact gt_some ⟨hV.2.2, _, hV⟩
theorem u_d228 {A : rA} {T0 U : gx_S} {v : Int64} (hA : RA A) (h : jJ A T0 v U) : gt (gx_loop n_digest_228 5000 (0, U)) fun r => r.1 = fo (E6 A) 7 (fo (E5 A) (qn A) v) ∧ ∃ w, jJ A T0 w r.2 := by
  have hn := h.1.2.2.2.1.1
  refine gt_for (qn A) (fun i τ => τ.1 = nn i ∧ jJ A T0 (fo (E5 A) i v) τ.2) ?_ ?_ 0 5000 _ (by omega) ⟨rfl, jJ_r h (fo_z (E5 A) v).symm⟩ (by omega)
  · rintro i ⟨_, V⟩ k hi ⟨rfl, hV⟩ hk
    simp only at hV
    simp only [n_digest_228]
    obtain ⟨_, e1, e2'⟩ := hV.1.2.2.2.1
    rw [e1, if_neg (show ¬ nn (qn A) ≤ nn i by rw [nn_le (by omega) (by omega)]; omega), ck_n (by omega) (by omega), nn_c (by omega), (e2' i hi).1]
    refine gt_cp (jJ_mix hV _) (fun X hX => ?_)
    rw [nn_s]
    refine hk (_, _) ⟨rfl, jJ_r hX ?_⟩
    rw [fo_s, ← E5_e]
  · rintro ⟨_, V⟩ k ⟨rfl, hV⟩
    simp only at hV
    simp only [n_digest_228]
    obtain ⟨_, e1, _⟩ := hV.1.2.2.2.1
    rw [e1, if_pos (Int32.le_refl _)]
    exact u_d255 hA hV
theorem u_d159 {A : rA} {T0 U : gx_S} {v : Int64} (hA : RA A) (h : jJ A T0 v U) : gt (gx_loop n_digest_159 5000 (0, U)) fun r => r.1 = fo (E6 A) 7 (fo (E5 A) (qn A) (fo (E4 A) (qc A) v)) ∧ ∃ w, jJ A T0 w r.2 := by
  have hO := (wG_O hA.1).2
  have hc := hA.2.2.2.2.1
  refine gt_for (qc A) (fun t τ => τ.1 = nn t ∧ jJ A T0 (fo (E4 A) t v) τ.2) ?_ ?_ 0 5000 _ (by omega) ⟨rfl, jJ_r h (fo_z (E4 A) v).symm⟩ (by omega)
  · rintro t ⟨_, V⟩ k ht ⟨rfl, hV⟩ hk
    simp only at hV
    simp only [n_digest_159]
    rw [hV.1.2.2.2.2.1, if_neg (show ¬ nn (qc A) ≤ nn t by rw [nn_le (by omega) (by omega)]; omega)]
    refine gt_for (nO (qG A)) (fun a τ => τ.1 = nn a ∧ jJ A T0 (fo (d4 A t) a (fo (E4 A) t v)) τ.2) ?_ ?_ 0 5000 _ (by omega) ⟨rfl, jJ_r hV (fo_z (d4 A t) (fo (E4 A) t v)).symm⟩ (by omega)
    · rintro a ⟨_, W⟩ k2 ha ⟨rfl, hW⟩ hk2
      simp only at hW
      simp only [n_digest_169]
      rw [(RT_c hA hW.1).1, if_neg (show ¬ nn (nO (qG A)) ≤ nn a by rw [nn_le (by omega) (by omega)]; omega), nn_s]
      refine gt_for (nO (qG A)) (fun b τ => a < b ∧ τ.1 = nn b ∧ jJ A T0 (fo (e4 A t a) b (fo (d4 A t) a (fo (E4 A) t v))) τ.2) ?_ ?_ (a + 1) 5000 _ (by omega) ⟨by omega, rfl, jJ_r hW (e4_0 A t a (fo (d4 A t) a (fo (E4 A) t v))).symm⟩ (by omega)
      · rintro b ⟨_, X⟩ k3 hb ⟨hab, rfl, hX⟩ hk3
        simp only at hX
        simp only [n_digest_181]
        rw [(RT_c hA hX.1).1, if_neg (show ¬ nn (nO (qG A)) ≤ nn b by rw [nn_le (by omega) (by omega)]; omega)]
        refine gt_cs (u_bars hA hX.1 ht ha hb (by omega)) (fun x Y hY => ?_)
        obtain ⟨g, e⟩ := hY
        simp only at g e
        have hY := jJ_k hX g
        have nx : ∀ z : Int64, z = (if barV A t a b = true then 1 else 0) → gt (n_digest_205 k k2 k3 (nn t) (nn a) (nn b) z Y) (fun r => r.1 = fo (E6 A) 7 (fo (E5 A) (qn A) (fo (E4 A) (qc A) v)) ∧ ∃ w, jJ A T0 w r.2) := fun z hz => by
          unfold n_digest_205
          refine gt_cp (jJ_mix hY z) (fun Z hZ => ?_)
          rw [nn_s]
          refine hk3 (_, _) ⟨by omega, rfl, jJ_r hZ ?_⟩
          rw [fo_s]
          unfold e4
          rw [if_pos hab, hz]
        rw [e]
        cases hb2 : barV A t a b with
        | false =>
          rw [if_pos (show ib false = 0 from rfl)]
          exact nx 0 (by rw [hb2]; rfl)
        | true =>
          rw [if_neg (show ¬ ib true = 0 from i10)]
          exact nx 1 (by rw [hb2]; rfl)
      · rintro ⟨_, X⟩ k3 ⟨_, rfl, hX⟩
        simp only at hX
        simp only [n_digest_181]
        rw [(RT_c hA hX.1).1, if_pos (Int32.le_refl _), nn_s]
        refine hk2 (_, _) ⟨rfl, jJ_r hX ?_⟩
        rw [d4_e, fo_s]
    · rintro ⟨_, W⟩ k2 ⟨rfl, hW⟩
      simp only at hW
      simp only [n_digest_169]
      rw [(RT_c hA hW.1).1, if_pos (Int32.le_refl _), nn_s]
      refine hk (_, _) ⟨rfl, jJ_r hW ?_⟩
      rw [E4_e, fo_s]
  · rintro ⟨_, V⟩ k ⟨rfl, hV⟩
    simp only at hV
    simp only [n_digest_159]
    rw [hV.1.2.2.2.2.1, if_pos (Int32.le_refl _)]
    exact u_d228 hA hV
theorem u_d98 {A : rA} {T0 U : gx_S} {v : Int64} (hA : RA A) (h : jJ A T0 v U) : gt (gx_loop n_digest_98 5000 (0, U)) fun r => r.1 = fo (E6 A) 7 (fo (E5 A) (qn A) (fo (E4 A) (qc A) (fo (E3 A) (nS (qG A)) v))) ∧ ∃ w, jJ A T0 w r.2 := by
  have hN := (wG_S hA.1).2
  refine gt_for (nS (qG A)) (fun s τ => τ.1 = nn s ∧ jJ A T0 (fo (E3 A) s v) τ.2) ?_ ?_ 0 5000 _ (by omega) ⟨rfl, jJ_r h (fo_z (E3 A) v).symm⟩ (by omega)
  · rintro s ⟨_, V⟩ k hs ⟨rfl, hV⟩ hk
    simp only at hV
    simp only [n_digest_98]
    rw [(RT_c hA hV.1).2.2, if_neg (show ¬ nn (nS (qG A)) ≤ nn s by rw [nn_le (by omega) (by omega)]; omega)]
    refine gt_for 6 (fun i τ => τ.1 = nn i ∧ jJ A T0 (fo (e3 A s) i (fo (E3 A) s v)) τ.2) ?_ ?_ 0 5000 _ (by omega) ⟨rfl, jJ_r hV (fo_z (e3 A s) (fo (E3 A) s v)).symm⟩ (by omega)
    · rintro i ⟨_, W⟩ k2 hi ⟨rfl, hW⟩ hk2
      simp only at hW
      simp only [n_digest_108]
      rw [if_neg (show ¬ (6 : Int32) ≤ nn i by rw [show (6 : Int32) = nn 6 from rfl, nn_le (by omega) (by omega)]; omega), u_told hW.1.1 (by omega) hi, cp_s]
      refine gt_cp (jJ_mix hW _) (fun X hX => ?_)
      rw [nn_s]
      refine hk2 (_, _) ⟨rfl, jJ_r hX ?_⟩
      rw [fo_s, ← e3_e]
    · rintro ⟨_, W⟩ k2 ⟨rfl, hW⟩
      simp only at hW
      simp only [n_digest_108]
      rw [if_pos (show (6 : Int32) ≤ nn 6 by decide), u_goesTo (pU_R hA hW.1) hs, cp_s]
      refine gt_cp (jJ_mix hW _) (fun X hX => ?_)
      rw [u_spareOf (pU_R hA hX.1) hs, cp_s]
      refine gt_cp (jJ_mix hX _) (fun Y hY => ?_)
      rw [nn_s]
      refine hk (_, _) ⟨rfl, jJ_r hY ?_⟩
      rw [E3_e, fo_s]
  · rintro ⟨_, V⟩ k ⟨rfl, hV⟩
    simp only at hV
    simp only [n_digest_98]
    rw [(RT_c hA hV.1).2.2, if_pos (Int32.le_refl _)]
    exact u_d159 hA hV
theorem u_d57 {A : rA} {T0 U : gx_S} {v : Int64} (hA : RA A) (h : jJ A T0 v U) : gt (gx_loop n_digest_57 5000 (0, U)) fun r => r.1 = fo (E6 A) 7 (fo (E5 A) (qn A) (fo (E4 A) (qc A) (fo (E3 A) (nS (qG A)) (fo (E2 A) (nP (qG A)) v)))) ∧ ∃ w, jJ A T0 w r.2 := by
  have hP := (wG_P hA.1).2
  refine gt_for (nP (qG A)) (fun s τ => τ.1 = nn s ∧ jJ A T0 (fo (E2 A) s v) τ.2) ?_ ?_ 0 5000 _ (by omega) ⟨rfl, jJ_r h (fo_z (E2 A) v).symm⟩ (by omega)
  · rintro s ⟨_, V⟩ k hs ⟨rfl, hV⟩ hk
    simp only at hV
    simp only [n_digest_57]
    rw [(RT_c hA hV.1).2.1, if_neg (show ¬ nn (nP (qG A)) ≤ nn s by rw [nn_le (by omega) (by omega)]; omega)]
    refine gt_for 6 (fun i τ => τ.1 = nn i ∧ jJ A T0 (fo (e2 A s) i (fo (E2 A) s v)) τ.2) ?_ ?_ 0 5000 _ (by omega) ⟨rfl, jJ_r hV (fo_z (e2 A s) (fo (E2 A) s v)).symm⟩ (by omega)
    · rintro i ⟨_, W⟩ k2 hi ⟨rfl, hW⟩ hk2
      simp only at hW
      simp only [n_digest_67]
      rw [if_neg (show ¬ (6 : Int32) ≤ nn i by rw [show (6 : Int32) = nn 6 from rfl, nn_le (by omega) (by omega)]; omega)]
      refine gt_cs (u_about (pU_R hA hW.1) hs (nn i) (nn_b (k := i) (b := 5) (by omega) (by decide))) (fun x X hX => ?_)
      obtain ⟨e, f⟩ := hX
      simp only at e f
      rw [abv_e] at e
      rw [e]
      refine gt_cp (jJ_mix (jJ_15 hW f) _) (fun Y hY => ?_)
      rw [nn_s]
      refine hk2 (_, _) ⟨rfl, jJ_r hY ?_⟩
      rw [fo_s, ← e2_e]
    · rintro ⟨_, W⟩ k2 ⟨rfl, hW⟩
      simp only at hW
      simp only [n_digest_67]
      rw [if_pos (show (6 : Int32) ≤ nn 6 by decide), nn_s]
      refine hk (_, _) ⟨rfl, jJ_r hW ?_⟩
      rw [E2_e, fo_s]
  · rintro ⟨_, V⟩ k ⟨rfl, hV⟩
    simp only at hV
    simp only [n_digest_57]
    rw [(RT_c hA hV.1).2.1, if_pos (Int32.le_refl _)]
    exact u_d98 hA hV
theorem u_digest {A : rA} {T : gx_S} (hA : RA A) (hT : RT A T) : gt (n_digest T) fun r => r.1 = dgV A ∧ ∃ w, jJ A T w r.2 := by
  have hO := (wG_O hA.1).2
  unfold n_digest
  refine gt_let ?_
  have h : jJ A T 373 (gx_stl T 0 182 373) := ⟨RT_Q hT (fun q j a b => stl_f _ _ (by omega)), fun q j _ _ _ _ b => stl_f _ _ (by omega), stl_h _ _⟩
  generalize gx_stl T 0 182 373 = U at h
  unfold dgV
  refine gt_for (nO (qG A)) (fun s τ => τ.1 = nn s ∧ jJ A T (fo (E1 A) s 373) τ.2) ?_ ?_ 0 5000 _ (by omega) ⟨rfl, jJ_r h (fo_z (E1 A) 373).symm⟩ (by omega)
  · rintro j ⟨_, V⟩ k hj ⟨rfl, hV⟩ hk
    simp only at hV
    simp only [n_digest_9]
    rw [(RT_c hA hV.1).1, if_neg (show ¬ nn (nO (qG A)) ≤ nn j by rw [nn_le (by omega) (by omega)]; omega), ck_n (by omega) (by omega), nn_c (by omega), (hV.1.1.2.1 j (by omega)).1]
    refine gt_cp (jJ_mix hV _) (fun W hW => ?_)
    rw [(hW.1.1.2.1 j (by omega)).2]
    refine gt_cp (jJ_mix hW _) (fun X hX => ?_)
    refine gt_cs (u_profitOf (pU_R hA hX.1) (by omega)) (fun x Y hY => ?_)
    obtain ⟨e, f⟩ := hY
    simp only at e f
    rw [e]
    refine gt_cp (jJ_mix (jJ_15 hX f) _) (fun Z hZ => ?_)
    rw [nn_s]
    refine hk (_, _) ⟨rfl, jJ_r hZ ?_⟩
    rw [E1_e, fo_s]
  · rintro ⟨_, V⟩ k ⟨rfl, hV⟩
    simp only at hV
    simp only [n_digest_9]
    rw [(RT_c hA hV.1).1, if_pos (Int32.le_refl _)]
    exact u_d57 hA hV
def cLL (o o' : Option (Int64 × gx_S)) : Prop := gt o fun r => gt o' fun r' => r.1 = r'.1 ∧ RR r.2 r'.2
theorem st_digest {S T : gx_S} (h : RR S T) : cLL (m_ShopsAsOne_digest S) (n_digest T) := by
  obtain ⟨A, hA, hS, hT, hK⟩ := id h
  refine gt_mono (x_digest hA hS) (fun r hr => gt_mono (u_digest hA hT) (fun r' hr' => ?_))
  obtain ⟨e1, w, hJ⟩ := hr'
  exact ⟨hr.1.trans e1.symm, RR_O hA hS hT hK (fW_P hr.2) hJ.2.1 hJ.1.2.1⟩

/-! b42: the start; a call's turn -/
theorem RR_0 {T0 : gx_S} (h23 : T0 0 23 = -1) (h0 : ∀ q j, (q ≠ 0 ∨ j ≠ 23) → T0 q j = 0) : RR (fun _ _ => 0) T0 := by
  have e0 : nn 0 = 0 := rfl
  have z0 : nO (fun _ _ => 0) = 0 := by decide
  have z1 : nP (fun _ _ => 0) = 0 := by decide
  have z2 : nS (fun _ _ => 0) = 0 := by decide
  refine ⟨(fun _ _ => 0, fun _ _ => 0, 0, fun _ => 0, 0, fun _ => 0, fun _ _ => 0, 0), ⟨?_, fun _ _ => rfl, ?_, fun _ _ _ => ⟨rfl, rfl⟩, by decide, by decide, fun t ht => absurd ht (by show ¬ t < 0; omega)⟩, ?_, ?_, Or.inl ⟨rfl, h0 _ _ (by omega)⟩⟩
  · have b (m : Int32) (h : 0 ≤ m) : bw 0 0 m := ⟨Int32.le_refl _, h⟩
    exact ⟨⟨b 6 (by decide), b 6 (by decide), b 8 (by decide)⟩, fun j => ⟨b 4 (by decide), b 99 (by decide)⟩, fun j => ⟨b 9 (by decide), b 9 (by decide)⟩, fun j => ⟨b 9 (by decide), b 50 (by decide), b 5 (by decide), b 30 (by decide), ⟨by show (-1 : Int32) ≤ 0; decide, by show (0 : Int32) ≤ 5; decide⟩, b 9 (by decide)⟩⟩
  · refine ⟨fun j _ => ⟨?_, ?_, Or.inl rfl⟩, fun k hk => ?_, fun o _ => ?_⟩
    · exact ⟨Int32.le_refl _, by show (0 : Int32) ≤ 9; decide⟩
    · exact ⟨Int32.le_refl _, by show (0 : Int32) ≤ 5; decide⟩
    · exact absurd hk (by rw [show nP (qG ((fun _ _ => 0, fun _ _ => 0, 0, fun _ => 0, 0, fun _ => 0, fun _ _ => 0, 0) : rA)) = 0 from z1]; omega)
    · have : cnt (qG ((fun _ _ => 0, fun _ _ => 0, 0, fun _ => 0, 0, fun _ => 0, fun _ _ => 0, 0) : rA)) (qD ((fun _ _ => 0, fun _ _ => 0, 0, fun _ => 0, 0, fun _ => 0, fun _ _ => 0, 0) : rA)) o ≤ nP (fun _ _ => 0) := cn_le _ _
      omega
  · refine ⟨⟨fun _ _ _ _ => rfl, fun s k hs _ => ?_⟩, fun _ _ _ _ _ => rfl, ⟨by show 0 ≤ 50; omega, rfl, fun j hj => absurd hj (by show ¬ j < 0; omega)⟩, rfl, rfl, fun t ht => absurd ht (by show ¬ t < 0; omega)⟩
    exact absurd hs (by rw [show nS (qG ((fun _ _ => 0, fun _ _ => 0, 0, fun _ => 0, 0, fun _ => 0, fun _ _ => 0, 0) : rA)) = 0 from z2]; omega)
  · refine ⟨⟨⟨?_, ?_, ?_⟩, fun o _ => ⟨?_, ?_⟩, fun k _ => ⟨?_, ?_⟩, fun s i _ _ => ?_⟩, fun j _ => ⟨?_, ?_, ?_⟩, h23, ⟨by show 0 ≤ 50; omega, ?_, fun j hj => absurd hj (by show ¬ j < 0; omega)⟩, ?_, ?_, fun t ht => absurd ht (by show ¬ t < 0; omega)⟩ <;> exact h0 _ _ (by omega)
theorem l_ss {R : Type} {o o' : Option (Int32 × gx_S)} {K : gx_S → gx_S → Option R} {P : R → Prop} (h : cSS o o') (hk : ∀ S T, RR S T → gt (K S T) P) : gt (gx_cs o fun _ S => gx_cs o' fun _ T => K S T) P :=
  gt_cs h (fun _ _ h' => gt_cs h' (fun _ _ h2 => hk _ _ h2.2))
theorem l_sse {R : Type} {o o' : Option (Int32 × gx_S)} {K : gx_S → gx_S → Option R} {E : Int32 → Int32 → gx_S → gx_S → Option R} {P : R → Prop} (h : cSS o o') (hk : ∀ S T, RR S T → gt (K S T) P) : gt (gx_cs o fun v S => gx_cs o' fun v' T => if v = v' then K S T else E v v' S T) P :=
  gt_cs h (fun _ _ h' => gt_cs h' (fun _ _ h2 => gt_ite (fun _ => hk _ _ h2.2) (fun z => absurd h2.1 z)))
theorem l_ps {R : Type} {S : gx_S} {o : Option Int32} {o' : Option (Int32 × gx_S)} {K : gx_S → Option R} {P : R → Prop} (h : cPS S o o') (hk : ∀ T, RR S T → gt (K T) P) : gt (gx_cp o fun _ => gx_cs o' fun _ T => K T) P :=
  gt_cp h (fun _ h' => gt_cs h' (fun _ _ h2 => hk _ h2.2))
theorem l_pse {R : Type} {S : gx_S} {o : Option Int32} {o' : Option (Int32 × gx_S)} {K : gx_S → Option R} {E : Int32 → Int32 → gx_S → Option R} {P : R → Prop} (h : cPS S o o') (hk : ∀ T, RR S T → gt (K T) P) : gt (gx_cp o fun v => gx_cs o' fun v' T => if v = v' then K T else E v v' T) P :=
  gt_cp h (fun _ h' => gt_cs h' (fun _ _ h2 => gt_ite (fun _ => hk _ h2.2) (fun z => absurd h2.1 z)))
theorem l_pp {R : Type} {o o' : Option Int32} {K : Option R} {P : R → Prop} (h : cPP o o') (hk : gt K P) : gt (gx_cp o fun _ => gx_cp o' fun _ => K) P :=
  gt_cp h (fun _ h' => gt_cp h' (fun _ _ => hk))
theorem l_ppe {R : Type} {o o' : Option Int32} {K : Option R} {E : Int32 → Int32 → Option R} {P : R → Prop} (h : cPP o o') (hk : gt K P) : gt (gx_cp o fun v => gx_cp o' fun v' => if v = v' then K else E v v') P :=
  gt_cp h (fun _ h' => gt_cp h' (fun _ h2 => gt_ite (fun _ => hk) (fun z => absurd h2 z)))
theorem l_tt {R : Type} {o o' : Option (Int32 × gx_S)} {K : gx_S → gx_S → Option R} {P : R → Prop} (h : cTT o o') (hk : ∀ S T, RR S T → gt (K S T) P) : gt (gx_cs o fun _ S => gx_cs o' fun _ T => K S T) P :=
  gt_cs h (fun _ _ h' => gt_cs h' (fun _ _ h2 => hk _ _ h2))
theorem l_ll {R : Type} {o o' : Option (Int64 × gx_S)} {K : gx_S → gx_S → Option R} {P : R → Prop} (h : cLL o o') (hk : ∀ S T, RR S T → gt (K S T) P) : gt (gx_cs o fun _ S => gx_cs o' fun _ T => K S T) P :=
  gt_cs h (fun _ _ h' => gt_cs h' (fun _ _ h2 => hk _ _ h2.2))
theorem l_lle {R : Type} {o o' : Option (Int64 × gx_S)} {K : gx_S → gx_S → Option R} {E : Int64 → Int64 → gx_S → gx_S → Option R} {P : R → Prop} (h : cLL o o') (hk : ∀ S T, RR S T → gt (K S T) P) : gt (gx_cs o fun v S => gx_cs o' fun v' T => if v = v' then K S T else E v v' S T) P :=
  gt_cs h (fun _ _ h' => gt_cs h' (fun _ _ h2 => gt_ite (fun _ => hk _ _ h2.2) (fun z => absurd h2.1 z)))
/-- a turn's place -/
theorem law_end {L i : Nat} (hL : L ≤ 3584) (hi : 7 * i ≤ L) : (nn L - 7 < nn (7 * i)) = (L < 7 * i + 7) := by
  have e : (nn L - 7).toInt = (L : Int) - 7 := by
    have c7 : (7 : Int32).toInt = 7 := by decide
    rw [ti_sub (by rw [nn_i (by omega), c7]; omega) (by rw [nn_i (by omega), c7]; omega), nn_i (by omega), c7]
  rw [Int32.lt_iff_toInt_lt, e, nn_i (by omega)]
  apply propext
  omega
theorem law_ck {L i d : Nat} {R : Type} (hL : L ≤ 3584) (hi : 7 * i + 7 ≤ L) (hd : d < 7) {x : Int32} (hx : x = nn (7 * i + d)) (y : Option R) : gx_ck L x y = y := by
  rw [hx]
  exact ck_n (by omega) (by omega)


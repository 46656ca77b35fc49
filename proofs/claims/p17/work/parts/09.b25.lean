/-! b25: the first fault; whether the page is a test -/
noncomputable def ffr (L : Nat → Nat) : Nat → Nat → Nat → Nat → Nat × Option (Nat × Nat)
  | 0, j, q, o => (j, some (q, o))
  | f + 1, j, q, o => match tr q o (L j) with
    | some s => ffr L f (j + 1) s.1 s.2
    | none => (j, none)
theorem ffr_e {L : Nat → Nat} : ∀ (f j q o : Nat), (∃ s, (ffr L f j q o).2 = some s ∧ (ffr L f j q o).1 = j + f) ∨ ((ffr L f j q o).2 = none ∧ (ffr L f j q o).1 < j + f)
  | 0, j, q, o => Or.inl ⟨(q, o), rfl, rfl⟩
  | f + 1, j, q, o => by
    unfold ffr
    cases h : tr q o (L j) with
    | none => exact Or.inr ⟨rfl, by simp only; omega⟩
    | some s =>
      simp only
      rcases ffr_e f (j + 1) s.1 s.2 with ⟨s', h1, h2⟩ | ⟨h1, h2⟩
      · exact Or.inl ⟨s', h1, by omega⟩
      · exact Or.inr ⟨h1, by omega⟩
noncomputable def flt (n : Nat) (L : Nat → Nat) : Nat := (ffr L n 0 0 0).1
noncomputable def isT (n : Nat) (L : Nat → Nat) : Bool := match (ffr L n 0 0 0).2 with
  | some s => decide (2 < s.1) && decide (s.2 = 0)
  | none => false
theorem x_firstFault {r n : Nat} {L : Nat → Nat} {S : gx_S} (h : vT r n L S) (hr : r < 5) : gt (m_Grammar_firstFault r S) fun t => f76 S t.2 ∧ t.1 = nn (flt n L) ∧ ∀ s, (ffr L n 0 0 0).2 = some s → s.1 ≤ 7 ∧ s.2 ≤ n ∧ eG s.1 s.2 t.2 := by
  have hn := h.1
  unfold m_Grammar_firstFault
  simp only [let_s]
  refine gt_for n (fun j t => t.1 = nn j ∧ f76 S t.2 ∧ ∃ q o, q ≤ 7 ∧ o ≤ j ∧ eG q o t.2 ∧ ffr L (n - j) j q o = ffr L n 0 0 0) ?_ ?_ 0 5000 _ (by omega) ?_ (by omega)
  · rintro j ⟨_, T⟩ k hj ⟨rfl, f, q, o, hq, ho, e, er⟩ hk
    simp only at f e
    simp only [m_Grammar_firstFault_12]
    have hT : vT r n L T := ⟨hn, by rw [f _ _ (by omega)]; exact h.2.1, fun i hi => by rw [f _ _ (by omega)]; exact h.2.2 i hi⟩
    have hL := (h.2.2 j hj).2
    simp (disch := omega) only [hT.2.1, nn_le, x_at hT (j := j) (by omega), cp_s, nn_s]
    rw [if_neg (by omega), if_pos hj]
    obtain ⟨m, hm⟩ : ∃ m, n - j = m + 1 := ⟨n - j - 1, by omega⟩
    rw [hm] at er
    refine gt_cs (x_takes hq (by omega) (by omega) e) (fun a U hU => ?_)
    obtain ⟨u1, u2⟩ := hU
    simp only at u1 u2
    have fU : f76 S U := fun q i hq => (u1 q i hq).trans (f q i hq)
    cases ht : tr q o (L j) with
    | none =>
      rw [ht] at u2
      simp only at u2
      have er' : (j, none) = ffr L n 0 0 0 := by
        rw [← er]
        unfold ffr
        rw [ht]
      rw [u2, if_pos rfl]
      refine gt_some ⟨fU, ?_, fun s hs => ?_⟩
      · unfold flt
        rw [← er']
      · rw [← er'] at hs
        cases hs
    | some s =>
      rw [ht] at u2
      simp only at u2
      have er' : ffr L m (j + 1) s.1 s.2 = ffr L n 0 0 0 := by
        rw [← er]
        conv => rhs; unfold ffr
        rw [ht]
      rw [u2.1, if_neg (by decide)]
      have hb := tr_b hq ht
      refine hk _ ⟨rfl, fU, s.1, s.2, hb.1, by omega, u2.2, ?_⟩
      rw [show n - (j + 1) = m by omega]
      exact er'
  · rintro ⟨_, T⟩ k ⟨rfl, f, q, o, hq, ho, e, er⟩
    simp only at f e
    simp only [m_Grammar_firstFault_12]
    have e1 : T (66 + 2 * r) 1 = nn n := by rw [f _ _ (by omega)]; exact h.2.1
    rw [e1, if_pos (Int32.le_refl _)]
    rw [Nat.sub_self] at er
    have er' : (n, some (q, o)) = ffr L n 0 0 0 := er
    refine gt_some ⟨f, ?_, fun s hs => ?_⟩
    · unfold flt
      rw [← er']
    · rw [← er'] at hs
      cases hs
      exact ⟨hq, ho, e⟩
  · refine ⟨rfl, f76_st (f76_st (fun _ _ _ => rfl) _ _) _ _, 0, 0, by omega, by omega, ⟨?_, ?_, fun z => absurd z (by omega)⟩, rfl⟩
    · simp only
      rw [gx_st_j _ _ _ (by omega), gx_st_eq]; rfl
    · simp only
      rw [gx_st_eq]; rfl
theorem wn_34 {q : Nat} (hq : q ≤ 7) : (wn q = 3 ∨ wn q = 4) ↔ 2 < q := by
  unfold wn
  repeat' split
  all_goals omega
theorem x_isTest {r n : Nat} {L : Nat → Nat} {S : gx_S} (h : vT r n L S) (hr : r < 5) : gt (m_Grammar_isTest r S) fun t => f76 S t.2 ∧ t.1 = ib (isT n L) := by
  have hn := h.1
  unfold m_Grammar_isTest
  refine gt_cs (x_firstFault h hr) (fun a T hT => ?_)
  obtain ⟨f, e, g⟩ := hT
  simp only at f e g
  have e1 : T (66 + 2 * r) 1 = nn n := by rw [f _ _ (by omega)]; exact h.2.1
  rw [e1, e]
  unfold m_Grammar_isTest_28 m_Grammar_isTest_39 isT flt
  rcases ffr_e (L := L) n 0 0 0 with ⟨s, h1, h2⟩ | ⟨h1, h2⟩
  · obtain ⟨g1, g2, g3, g4, g5⟩ := g s h1
    rw [h2, h1, Nat.zero_add, if_pos rfl, g3, g4]
    have hw : wn s.1 < 5 := by unfold wn; repeat' split
                               all_goals omega
    rw [show (3 : Int32) = nn 3 from rfl, show (4 : Int32) = nn 4 from rfl]
    simp only [nn_0]
    simp (disch := omega) only [nn_eq]
    have hq := wn_34 g1
    by_cases q : 2 < s.1
    · have hd : decide (2 < s.1) = true := by simpa using q
      rw [hd, Bool.true_and]
      have main : gt (if s.2 = 0 then some (1, T) else some (nn 0, T)) fun t => f76 S t.2 ∧ t.1 = ib (decide (s.2 = 0)) := by
        by_cases z : s.2 = 0
        · rw [if_pos z]; exact gt_some ⟨f, by simp [z, ib]⟩
        · rw [if_neg z]; exact gt_some ⟨f, by simp [z, ib]; rfl⟩
      rcases hq.mpr q with w | w
      · rw [if_pos w]; exact main
      · rw [if_neg (by omega), if_pos w]; exact main
    · have hd : decide (2 < s.1) = false := by simpa using q
      rw [hd, Bool.false_and, if_neg (fun z => q (hq.mp (Or.inl z))), if_neg (fun z => q (hq.mp (Or.inr z)))]
      exact gt_some ⟨f, rfl⟩
  · rw [h1, if_neg (by rw [nn_eq (by omega) (by omega)]; omega)]
    exact gt_some ⟨f, rfl⟩
theorem u_isName {c : Nat} (hc : c < 1000) (S : gx_S) : ∃ b : Bool, n_isName (nn c) S = some (ib b) ∧ (b = true ↔ nam c) := by
  unfold n_isName n_isName_24 nam
  simp only [show (115 : Int32) = nn 115 from rfl, show (111 : Int32) = nn 111 from rfl, show (114 : Int32) = nn 114 from rfl, show (100 : Int32) = nn 100 from rfl]
  simp (disch := omega) only [nn_eq]
  by_cases h1 : c = 115
  · rw [if_pos h1]; exact ⟨true, rfl, by simp [h1]⟩
  · rw [if_neg h1]
    by_cases h2 : c = 111
    · rw [if_pos h2]; exact ⟨true, rfl, by simp [h2]⟩
    · rw [if_neg h2]
      by_cases h3 : c = 114
      · rw [if_pos h3]; exact ⟨true, rfl, by simp [h3]⟩
      · rw [if_neg h3]
        by_cases h4 : c = 100
        · rw [if_pos h4]; exact ⟨true, rfl, by simp [h4]⟩
        · rw [if_neg h4]; exact ⟨false, rfl, by simp [h1, h2, h3, h4]⟩
/-- a turn of the reference's reading -/
theorem u_step {q o j c : Nat} {S : gx_S} (hq : q ≤ 7) (ho : o < 100) (hc : c < 1000) (k : Int32 × Int32 × Int32 × Int32 → Option gx_S) : (if nn q ≤ 2 then n_readPage_40 k (nn q) (nn o) (nn j) 1 (nn c) 0 S else n_readPage_40 k (nn q) (nn o) (nn j) 1 (nn c) 1 S) = match tr q o c with
    | some s => k (nn s.1, nn s.2, nn (j + 1), 1)
    | none => k (nn q, nn o, nn j, 0) := by
  obtain ⟨b, hb, hbn⟩ := u_isName hc S
  have h200 : ∀ q' o', n_readPage_200 k (nn q') (nn o') (nn j) 1 S = k (nn q', nn o', nn (j + 1), 1) := fun q' o' => by
    unfold n_readPage_200 n_readPage_211
    rw [if_neg (by decide), nn_s]
  have h0 : n_readPage_200 k (nn q) (nn o) (nn j) 0 S = k (nn q, nn o, nn j, 0) := by
    unfold n_readPage_200 n_readPage_211
    rw [if_pos rfl, Int32.add_zero]
  have t167 : n_readPage_167 k (nn o) (nn j) 1 S = k (nn 0, nn o, nn (j + 1), 1) := h200 0 o
  have t118 : n_readPage_118 k (nn o) (nn j) 1 S = k (nn 2, nn o, nn (j + 1), 1) := h200 2 o
  have t0 : n_readPage_200 k 0 (nn o) (nn j) 1 S = k (nn 0, nn o, nn (j + 1), 1) := h200 0 o
  have t1 : n_readPage_200 k 1 (nn o) (nn j) 1 S = k (nn 1, nn o, nn (j + 1), 1) := h200 1 o
  have h7 : 0 < o → n_readPage_200 k 7 (nn o + (-1)) (nn j) 1 S = k (nn 7, nn (o - 1), nn (j + 1), 1) := fun h => by
    have : nn o + (-1) = nn (o - 1) := by
      rw [← nn_p h]
      grind
    rw [this]
    exact h200 7 (o - 1)
  have l33 : (33 : Int32) = nn 33 := rfl
  have l40 : (40 : Int32) = nn 40 := rfl
  have l60 : (60 : Int32) = nn 60 := rfl
  have l61 : (61 : Int32) = nn 61 := rfl
  have l62 : (62 : Int32) = nn 62 := rfl
  have l38 : (38 : Int32) = nn 38 := rfl
  have l124 : (124 : Int32) = nn 124 := rfl
  have l41 : (41 : Int32) = nn 41 := rfl
  -- the last blocks
  have b172 : ∀ x : Int32, ((x = 0 ∧ ¬ 2 < q) ∨ (x = 1 ∧ 2 < q)) → ¬ q = 0 → ¬ q = 1 → ¬ (q < 6 ∧ dg c = true) → n_readPage_148 k (nn q) (nn o) (nn j) 1 (nn c) x S = match tr q o c with
    | some s => k (nn s.1, nn s.2, nn (j + 1), 1)
    | none => k (nn q, nn o, nn j, 0) := by
    intro x hx q0 q1 hd
    have tt : tr q o c = haveI := Classical.propDecidable; if 2 < q ∧ (c = 38 ∨ c = 124) then some (0, o) else if 2 < q ∧ c = 41 ∧ 0 < o then some (7, o - 1) else none := by
      unfold tr
      rw [if_neg q0, if_neg q1, if_neg hd]
    have cne : ∀ d, d < 1000 → ¬ c = d → ¬ nn c = nn d := fun d hd h => by rw [nn_eq (by omega) (by omega)]; exact h
    have z10 : ¬ (1 : Int32) = 0 := by decide
    unfold n_readPage_148
    rcases hx with ⟨rfl, h2⟩ | ⟨rfl, h2⟩
    · rw [if_pos rfl, tt, if_neg (fun z => h2 z.1), if_neg (fun z => h2 z.1)]
      unfold n_readPage_172
      rw [if_pos rfl]
      unfold n_readPage_197
      exact h0
    · rw [if_neg z10, l38, l124]
      by_cases c1 : c = 38
      · rw [if_pos (by rw [c1]), tt, if_pos ⟨h2, Or.inl c1⟩]; exact t167
      · rw [if_neg (cne 38 (by omega) c1)]
        by_cases c2 : c = 124
        · rw [if_pos (by rw [c2]), tt, if_pos ⟨h2, Or.inr c2⟩]; exact t167
        · rw [if_neg (cne 124 (by omega) c2), tt, if_neg (show ¬ (2 < q ∧ (c = 38 ∨ c = 124)) by omega)]
          unfold n_readPage_172
          rw [if_neg z10, l41]
          by_cases c3 : c = 41
          · rw [if_pos (by rw [c3])]
            by_cases ho0 : o = 0
            · rw [if_pos (show nn o ≤ 0 by rw [ho0]; decide), if_neg (show ¬ (2 < q ∧ c = 41 ∧ 0 < o) by omega)]
              unfold n_readPage_197
              exact h0
            · rw [if_neg (show ¬ nn o ≤ 0 by rw [nn_0, nn_le (by omega) (by omega)]; omega), if_pos (show 2 < q ∧ c = 41 ∧ 0 < o by omega)]; exact h7 (by omega)
          · rw [if_neg (cne 41 (by omega) c3), if_neg (show ¬ (2 < q ∧ c = 41 ∧ 0 < o) by omega)]
            unfold n_readPage_197
            exact h0
  -- all
  have main : ∀ x : Int32, ((x = 0 ∧ ¬ 2 < q) ∨ (x = 1 ∧ 2 < q)) → n_readPage_40 k (nn q) (nn o) (nn j) 1 (nn c) x S = match tr q o c with
    | some s => k (nn s.1, nn s.2, nn (j + 1), 1)
    | none => k (nn q, nn o, nn j, 0) := by
    intro x hx
    unfold n_readPage_40
    have cne : ∀ d, d < 1000 → ¬ c = d → ¬ nn c = nn d := fun d hd h => by rw [nn_eq (by omega) (by omega)]; exact h
    by_cases q0 : q = 0
    · subst q0
      have hx0 : x = 0 := by
        rcases hx with h | h
        · exact h.1
        · exact absurd h.2 (by decide)
      subst hx0
      have tt : tr 0 o c = haveI := Classical.propDecidable; if c = 33 then some (0, o) else if c = 40 then some (0, o + 1) else if nam c then some (1, o) else none := by
        unfold tr
        rw [if_pos rfl]
      rw [if_pos (show nn 0 = 0 from rfl), tt, l33]
      by_cases c1 : c = 33
      · rw [if_pos (by rw [c1]), if_pos c1]; exact t0
      · rw [if_neg (cne 33 (by omega) c1), if_neg c1]
        unfold n_readPage_58
        rw [if_pos (show nn 0 = 0 from rfl), l40]
        by_cases c2 : c = 40
        · rw [if_pos (by rw [c2]), if_pos c2]
          show n_readPage_200 k (nn 0) (nn o + 1) (nn j) 1 S = k (nn 0, nn (o + 1), nn (j + 1), 1)
          rw [nn_s]
          exact h200 0 (o + 1)
        · rw [if_neg (cne 40 (by omega) c2), if_neg c2]
          unfold n_readPage_75
          rw [if_pos (show nn 0 = 0 from rfl), hb, cp_s]
          by_cases hn : nam c
          · have : ¬ ib b = 0 := by rw [ib_0, hbn.mpr hn]; decide
            rw [if_neg this, if_pos hn]; exact t1
          · have : ib b = 0 := by
              rw [ib_0]
              cases hbv : b
              · rfl
              · exact absurd (hbn.mp hbv) hn
            rw [if_pos this, if_neg hn]
            unfold n_readPage_92
            rw [if_neg (show ¬ nn 0 = 1 by decide)]
            unfold n_readPage_123
            rw [if_pos (show nn 0 ≤ 1 by decide)]
            unfold n_readPage_148
            rw [if_pos rfl]
            unfold n_readPage_172
            rw [if_pos rfl]
            unfold n_readPage_197
            exact h0
    · have q0' : ¬ nn q = 0 := by rw [nn_0, nn_eq (by omega) (by omega)]; exact q0
      rw [if_neg q0']
      unfold n_readPage_58
      rw [if_neg q0']
      unfold n_readPage_75
      rw [if_neg q0']
      unfold n_readPage_92
      by_cases q1 : q = 1
      · subst q1
        have hx0 : x = 0 := by
          rcases hx with h | h
          · exact h.1
          · exact absurd h.2 (by decide)
        subst hx0
        have tt : tr 1 o c = haveI := Classical.propDecidable; if sgn c then some (2, o) else none := by
          unfold tr
          rw [if_neg (by decide), if_pos rfl]
        rw [if_pos (show nn 1 = 1 from rfl), tt, l60, l61, l62]
        by_cases c1 : c = 60
        · rw [if_pos (by rw [c1]), if_pos (show sgn c from Or.inl c1)]; exact t118
        · rw [if_neg (cne 60 (by omega) c1)]
          by_cases c2 : c = 61
          · rw [if_pos (by rw [c2]), if_pos (show sgn c from Or.inr (Or.inl c2))]; exact t118
          · rw [if_neg (cne 61 (by omega) c2)]
            by_cases c3 : c = 62
            · rw [if_pos (by rw [c3]), if_pos (show sgn c from Or.inr (Or.inr c3))]; exact t118
            · have hn : ¬ sgn c := by
                rintro (h | h | h)
                · exact c1 h
                · exact c2 h
                · exact c3 h
              rw [if_neg (cne 62 (by omega) c3), if_neg hn]
              unfold n_readPage_123
              rw [if_pos (show nn 1 ≤ 1 by decide)]
              unfold n_readPage_148
              rw [if_pos rfl]
              unfold n_readPage_172
              rw [if_pos rfl]
              unfold n_readPage_197
              exact h0
      · rw [if_neg (show ¬ nn q = 1 by rw [show (1 : Int32) = nn 1 from rfl, nn_eq (by omega) (by omega)]; exact q1)]
        unfold n_readPage_123
        rw [if_neg (show ¬ nn q ≤ 1 by rw [show (1 : Int32) = nn 1 from rfl, nn_le (by omega) (by omega)]; omega)]
        by_cases q6 : 6 ≤ q
        · rw [if_pos (show 6 ≤ nn q by rw [show (6 : Int32) = nn 6 from rfl, nn_le (by omega) (by omega)]; exact q6)]
          exact b172 x hx q0 q1 (by omega)
        · rw [if_neg (show ¬ 6 ≤ nn q by rw [show (6 : Int32) = nn 6 from rfl, nn_le (by omega) (by omega)]; exact q6), u_isDigit hc, cp_s]
          by_cases hd : dg c = true
          · have tt : tr q o c = some (q + 1, o) := by
              unfold tr
              rw [if_neg q0, if_neg q1, if_pos ⟨by omega, hd⟩]
            rw [if_neg (show ¬ ib (dg c) = 0 by rw [ib_0, hd]; decide), tt]
            show n_readPage_200 k (nn q + 1) (nn o) (nn j) 1 S = k (nn (q + 1), nn o, nn (j + 1), 1)
            rw [nn_s]
            exact h200 (q + 1) o
          · rw [if_pos (show ib (dg c) = 0 by rw [ib_0]; simpa using hd)]
            exact b172 x hx q0 q1 (fun z => hd z.2)
  by_cases q2 : q ≤ 2
  · rw [if_pos (by rw [show (2 : Int32) = nn 2 from rfl, nn_le (by omega) (by omega)]; exact q2)]
    exact main 0 (Or.inl ⟨rfl, by omega⟩)
  · rw [if_neg (by rw [show (2 : Int32) = nn 2 from rfl, nn_le (by omega) (by omega)]; exact q2)]
    exact main 1 (Or.inr ⟨rfl, by omega⟩)
theorem u_readPage {n : Nat} {L : Nat → Nat} {S : gx_S} (h : uT n L S) : gt (n_readPage S) fun T => (∀ q j, (q ≠ 0 ∨ (j ≠ 35 ∧ j ≠ 36)) → T q j = S q j) ∧ T 0 35 = nn (flt n L) ∧ T 0 36 = ib (isT n L) := by
  have hn := h.1
  have e14 := h.2.1
  have fin : ∀ j q o, (ffr L n 0 0 0 = (j, none) ∧ j < n ∨ ffr L n 0 0 0 = (j, some (q, o)) ∧ j = n) → q ≤ 7 → o ≤ n → gt (n_readPage_216 (nn q) (nn o) (nn j) S) fun T => (∀ q j, (q ≠ 0 ∨ (j ≠ 35 ∧ j ≠ 36)) → T q j = S q j) ∧ T 0 35 = nn (flt n L) ∧ T 0 36 = ib (isT n L) := by
    intro j q o hf hq ho
    have hj : j ≤ n := by rcases hf with h | h <;> omega
    have e35 : flt n L = j := by unfold flt; rcases hf with h | h <;> rw [h.1]
    have end_ : ∀ b : Bool, b = isT n L → gt (n_readPage_244 (ib b) (gx_st S 0 35 (nn j))) fun T => (∀ q j, (q ≠ 0 ∨ (j ≠ 35 ∧ j ≠ 36)) → T q j = S q j) ∧ T 0 35 = nn (flt n L) ∧ T 0 36 = ib (isT n L) := fun b hb => by
      unfold n_readPage_244
      refine gt_bz (by cases b; exact Or.inl rfl; exact Or.inr rfl) (gt_let (gt_some ⟨fun q i hq => ?_, ?_, ?_⟩))
      · by_cases z : q = 0
        · subst z
          rw [gx_st_j _ _ _ (by omega), gx_st_j _ _ _ (by omega)]
        · rw [gx_st_q _ _ _ _ z, gx_st_q _ _ _ _ z]
      · rw [gx_st_j _ _ _ (by omega), gx_st_eq, e35]
      · rw [gx_st_eq, hb]
    unfold n_readPage_216 n_readPage_243
    refine gt_let ?_
    rw [gx_st_j _ _ _ (by omega), e14]
    simp only [nn_0, show (2 : Int32) = nn 2 from rfl]
    simp (disch := omega) only [nn_eq, nn_le]
    rcases hf with ⟨h1, h2⟩ | ⟨h1, h2⟩
    · rw [if_neg (by omega)]
      exact end_ false (by unfold isT; rw [h1])
    · have hT : isT n L = (decide (2 < q) && decide (o = 0)) := by unfold isT; rw [h1]
      rw [if_pos h2]
      by_cases q2 : q ≤ 2
      · rw [if_pos q2]
        exact end_ false (by rw [hT]; have : decide (2 < q) = false := by simp; omega
                             rw [this]; rfl)
      · rw [if_neg q2]
        have : decide (2 < q) = true := by simp; omega
        by_cases o0 : o = 0
        · rw [if_pos o0]
          exact end_ true (by rw [hT, this, o0]; rfl)
        · rw [if_neg o0]
          exact end_ false (by rw [hT, this]; simp [o0])
  unfold n_readPage
  refine gt_loop (fun t => ∃ j q o, t.1 = nn q ∧ t.2.1 = nn o ∧ t.2.2.1 = nn j ∧ q ≤ 7 ∧ o ≤ j ∧ j ≤ n ∧ ((t.2.2.2 = 1 ∧ ffr L (n - j) j q o = ffr L n 0 0 0) ∨ (t.2.2.2 = 0 ∧ j < n ∧ ffr L n 0 0 0 = (j, none)))) (fun t => 2 * (n - t.2.2.1.toNatClampNeg) + (if t.2.2.2 = 1 then 1 else 0)) ?_ 5000 _ ?_ ?_
  · rintro ⟨x1, x2, x3, x4⟩ k ⟨j, q, o, rfl, rfl, rfl, hq, ho, hj, hs⟩ hk
    simp only at hs hk
    simp only [n_readPage_9]
    rw [e14]
    simp (disch := omega) only [nn_le]
    rcases hs with ⟨rfl, er⟩ | ⟨rfl, hjn, er⟩
    · by_cases hjn : n ≤ j
      · rw [if_pos hjn]
        have : j = n := by omega
        subst this
        rw [Nat.sub_self] at er
        have er' : (j, some (q, o)) = ffr L j 0 0 0 := er
        exact fin j q o (Or.inr ⟨er'.symm, rfl⟩) hq ho
      · rw [if_neg hjn, if_neg (by decide)]
        obtain ⟨e11, hL⟩ := h.2.2 j (by omega)
        simp (disch := omega) only [ck_n, nn_c, e11]
        rw [u_step hq (by omega) (by omega)]
        obtain ⟨m, hm⟩ : ∃ m, n - j = m + 1 := ⟨n - j - 1, by omega⟩
        rw [hm] at er
        cases ht : tr q o (L j) with
        | none =>
          have er' : (j, none) = ffr L n 0 0 0 := by
            rw [← er]
            unfold ffr
            rw [ht]
          refine hk _ ⟨j, q, o, rfl, rfl, rfl, hq, ho, hj, Or.inr ⟨rfl, by omega, er'.symm⟩⟩ ?_
          simp only
          simp only [↓reduceIte, if_neg (show ¬ (0 : Int32) = 1 by decide)]
          omega
        | some s =>
          have er' : ffr L m (j + 1) s.1 s.2 = ffr L n 0 0 0 := by
            rw [← er]
            conv => rhs; unfold ffr
            rw [ht]
          have hb := tr_b hq ht
          refine hk _ ⟨j + 1, s.1, s.2, rfl, rfl, rfl, hb.1, by omega, by omega, Or.inl ⟨rfl, ?_⟩⟩ ?_
          · rw [show n - (j + 1) = m by omega]; exact er'
          · simp only
            simp only [↓reduceIte]
            rw [nn_c (by omega), nn_c (by omega)]
            omega
    · rw [if_neg (by omega), if_pos rfl]
      exact fin j q o (Or.inl ⟨er, hjn⟩) hq (by omega)
  · exact ⟨0, 0, 0, rfl, rfl, rfl, by omega, by omega, by omega, Or.inl ⟨rfl, rfl⟩⟩
  · simp only [↓reduceIte, z_c]
    omega

/-! b26: a test weighed -/
def ub (f : Nat → Bool) (k : Nat) (b : Bool) : Nat → Bool := fun j => if j = k then b else f j
theorem ub_e (f : Nat → Bool) (k : Nat) (b : Bool) : ub f k b k = b := by simp [ub]
theorem ub_n (f : Nat → Bool) {k j : Nat} (b : Bool) (h : j ≠ k) : ub f k b j = f j := by simp [ub, h]
abbrev eT : Type := Nat × (Nat → Bool) × (Nat → Bool) × (Nat → Bool)
def eFac (b : Bool) (s : eT) : eT := (s.1, s.2.1, ub s.2.2.1 s.1 (s.2.2.1 s.1 && (b != s.2.2.2 s.1)), ub s.2.2.2 s.1 false)
def eOpen (s : eT) : eT := (s.1 + 1, ub s.2.1 (s.1 + 1) false, ub s.2.2.1 (s.1 + 1) true, ub s.2.2.2 (s.1 + 1) false)
def eTh (s : eT) : Bool := s.2.1 s.1 || s.2.2.1 s.1
def eShut (s : eT) : eT := eFac (eTh s) (s.1 - 1, s.2)
def eNot (s : eT) : eT := (s.1, s.2.1, s.2.2.1, ub s.2.2.2 s.1 (!s.2.2.2 s.1))
def eOr (s : eT) : eT := (s.1, ub s.2.1 s.1 (eTh s), ub s.2.2.1 s.1 true, s.2.2.2)
/-- digits from p on -/
def dig (L : Nat → Nat) : Nat → Nat → Int32 → Nat × Int32
  | 0, p, x => (p, x)
  | f + 1, p, x => if dg (L p) = true then dig L f (p + 1) (10 * x + nn (L p) - 48) else (p, x)
def cmpV (op : Nat) (v num : Int32) : Bool := if op = 60 then decide (v < num) else if op = 61 then decide (v = num) else decide (num < v)
def cmpB (n : Nat) (L : Nat → Nat) (v : Int32) (p : Nat) : Bool := cmpV (if p + 1 < n then L (p + 1) else 0) v (dig L (n - (p + 2)) (p + 2) 0).2
noncomputable def est (V : Nat → Int32) (n : Nat) (L : Nat → Nat) (p : Nat) (s : eT) : eT :=
  haveI := Classical.propDecidable
  if L p = 33 then eNot s else if L p = 40 then eOpen s else if L p = 41 then eShut s else if L p = 124 then eOr s else if nam (L p) then eFac (cmpB n L (V (L p)) p) s else s
def e0 : eT := (0, fun _ => false, fun _ => true, fun _ => false)
noncomputable def evF (V : Nat → Int32) (n : Nat) (L : Nat → Nat) : Nat → eT
  | 0 => e0
  | p + 1 => est V n L p (evF V n L p)
/-! the class's -/
def jE (s : eT) (S : gx_S) : Prop := S 77 5 = nn s.1 ∧ ∀ i, i ≤ s.1 → S 79 i = ib (s.2.1 i) ∧ S 80 i = ib (s.2.2.1 i) ∧ S 81 i = ib (s.2.2.2 i)
def fj (S T : gx_S) : Prop := ∀ q j, (q ≠ 77 ∨ j ≠ 5) → q ≠ 79 → q ≠ 80 → q ≠ 81 → T q j = S q j
theorem fj_t {S T U : gx_S} (h : fj S T) (h' : fj T U) : fj S U := fun q j a1 a2 a3 a4 => (h' q j a1 a2 a3 a4).trans (h q j a1 a2 a3 a4)
theorem nar_ib (b : Bool) : vp_nar .boolean (ib b) = ib b := nar_b (by cases b; exact Or.inl rfl; exact Or.inr rfl)
theorem x_termsHold {s : eT} {S : gx_S} (h : jE s S) (hd : s.1 ≤ 50) : m_Judge_termsHold S = some (ib (eTh s)) := by
  obtain ⟨h1, h2⟩ := h
  obtain ⟨a1, a2, a3⟩ := h2 s.1 (Nat.le_refl _)
  unfold m_Judge_termsHold m_Judge_termsHold_24 eTh
  rw [h1]
  simp (disch := omega) only [ck_n, nn_c, a1, a2, ib_0]
  cases s.2.1 s.1 with
  | true => rw [if_neg (by decide)]; rfl
  | false =>
    rw [if_pos rfl]
    cases s.2.2.1 s.1 with
    | true => rw [if_neg (by decide)]; rfl
    | false => rw [if_pos rfl]; rfl
theorem x_takeFactor {s : eT} {S : gx_S} (h : jE s S) (hd : s.1 ≤ 50) (b : Bool) : gt (m_Judge_takeFactor (ib b) S) fun T => fj S T ∧ jE (eFac b s) T := by
  obtain ⟨h1, h2⟩ := h
  obtain ⟨a1, a2, a3⟩ := h2 s.1 (Nat.le_refl _)
  have main : ∀ x : Bool, x = (s.2.2.1 s.1 && (b != s.2.2.2 s.1)) → gt (m_Judge_takeFactor_38 (nn s.1) (ib x) S) fun T => fj S T ∧ jE (eFac b s) T := fun x hx => by
    unfold m_Judge_takeFactor_38
    rw [nar_ib]
    simp (disch := omega) only [ck_n, nn_c, let_s, gx_st_q, h1, nar_b (Or.inl rfl)]
    refine gt_some ⟨fun q j b1 b2 b3 b4 => ?_, ?_, fun i hi => ?_⟩
    · rw [gx_st_q _ _ _ _ b4, gx_st_q _ _ _ _ b3]
    · rw [gx_st_q _ _ _ _ (by omega), gx_st_q _ _ _ _ (by omega)]; exact h1
    · obtain ⟨c1, c2, c3⟩ := h2 i hi
      rw [gx_st_q _ _ _ _ (by omega), gx_st_q _ _ _ _ (by omega), gx_st_q _ _ _ _ (by omega)]
      refine ⟨c1, ?_, ?_⟩
      · show _ = ib (ub _ _ _ i)
        by_cases z : i = s.1
        · rw [z, gx_st_eq, ub_e, hx]
        · rw [gx_st_j _ _ _ z, ub_n _ _ z]; exact c2
      · show _ = ib (ub _ _ _ i)
        by_cases z : i = s.1
        · rw [z, gx_st_eq, ub_e]; rfl
        · rw [gx_st_j _ _ _ z, ub_n _ _ z, gx_st_q _ _ _ _ (by omega)]; exact c3
  unfold m_Judge_takeFactor m_Judge_takeFactor_37
  rw [h1]
  simp (disch := omega) only [ck_n, nn_c, a2, a3, ib_0]
  cases hB : s.2.2.1 s.1 with
  | false => rw [if_pos rfl]; exact main false (by rw [hB]; rfl)
  | true =>
    rw [if_neg (by decide)]
    cases hC : s.2.2.2 s.1 with
    | false =>
      cases b with
      | false => rw [if_pos rfl]; exact main false (by rw [hB, hC]; rfl)
      | true => rw [if_neg (by decide)]; exact main true (by rw [hB, hC]; rfl)
    | true =>
      cases b with
      | false => rw [if_neg (by decide)]; exact main true (by rw [hB, hC]; rfl)
      | true => rw [if_pos rfl]; exact main false (by rw [hB, hC]; rfl)
theorem x_startTerms {d : Nat} {s : eT} {S : gx_S} (h1 : S 77 5 = nn d) (hd : d ≤ 50) (h2 : ∀ i, i < d → S 79 i = ib (s.2.1 i) ∧ S 80 i = ib (s.2.2.1 i) ∧ S 81 i = ib (s.2.2.2 i)) : gt (m_Judge_startTerms S) fun T => fj S T ∧ jE (d, ub s.2.1 d false, ub s.2.2.1 d true, ub s.2.2.2 d false) T := by
  unfold m_Judge_startTerms
  rw [h1, nar_b (Or.inl rfl), nar_b (Or.inr rfl)]
  simp (disch := omega) only [ck_n, nn_c, let_s, gx_st_q, h1]
  refine gt_some ⟨fun q j b1 b2 b3 b4 => ?_, ?_, fun i hi => ?_⟩
  · rw [gx_st_q _ _ _ _ b4, gx_st_q _ _ _ _ b3, gx_st_q _ _ _ _ b2]
  · rw [gx_st_q _ _ _ _ (by omega), gx_st_q _ _ _ _ (by omega), gx_st_q _ _ _ _ (by omega)]; exact h1
  · show _ = ib (ub _ _ _ i) ∧ _ = ib (ub _ _ _ i) ∧ _ = ib (ub _ _ _ i)
    by_cases z : i = d
    · subst z
      rw [ub_e, ub_e, ub_e]
      simp (disch := omega) only [gx_st_q, gx_st_eq]
      exact ⟨rfl, rfl, rfl⟩
    · obtain ⟨c1, c2, c3⟩ := h2 i (by simp only at hi; omega)
      rw [ub_n _ _ z, ub_n _ _ z, ub_n _ _ z]
      simp (disch := omega) only [gx_st_q, gx_st_j]
      exact ⟨c1, c2, c3⟩
theorem x_comparison {r n p : Nat} {L : Nat → Nat} {S : gx_S} (h : vT r n L S) (hp : p < n) (v : Int32) : m_Judge_comparisonHolds r v (nn (p + 1)) S = some (ib (cmpB n L v p)) := by
  have hn := h.1
  have e1 := h.2.1
  have fin : ∀ num, m_Judge_comparisonHolds_49 r v (nn (p + 1)) num S = some (ib (cmpV (if p + 1 < n then L (p + 1) else 0) v num)) := fun num => by
    unfold m_Judge_comparisonHolds_49 cmpV
    rw [x_at h (by omega), cp_s]
    have hop : ∃ c, c < 1000 ∧ (if p + 1 < n then nn (L (p + 1)) else 0) = nn c ∧ (if p + 1 < n then L (p + 1) else 0) = c := by
      by_cases q : p + 1 < n
      · rw [if_pos q, if_pos q]
        have := (h.2.2 _ q).2
        exact ⟨_, by omega, rfl, rfl⟩
      · rw [if_neg q, if_neg q]
        exact ⟨0, by omega, rfl, rfl⟩
    obtain ⟨c, hc, e1, e2⟩ := hop
    rw [e1, e2, show (60 : Int32) = nn 60 from rfl, show (61 : Int32) = nn 61 from rfl]
    simp (disch := omega) only [nn_eq]
    by_cases c1 : c = 60
    · rw [if_pos c1, if_pos c1]
      by_cases z : num ≤ v
      · rw [if_pos z]
        have : decide (v < num) = false := by simp; lia
        rw [this]; rfl
      · rw [if_neg z]
        have : decide (v < num) = true := by simp; lia
        rw [this]; rfl
    · rw [if_neg c1, if_neg c1]
      by_cases c2 : c = 61
      · rw [if_pos c2, if_pos c2]
        by_cases z : v = num
        · rw [if_pos z]
          have : decide (v = num) = true := by simp [z]
          rw [this]; rfl
        · rw [if_neg z]
          have : decide (v = num) = false := by simp [z]
          rw [this]; rfl
      · rw [if_neg c2, if_neg c2]
        by_cases z : v ≤ num
        · rw [if_pos z]
          have : decide (num < v) = false := by simp; lia
          rw [this]; rfl
        · rw [if_neg z]
          have : decide (num < v) = true := by simp; lia
          rw [this]; rfl
  unfold m_Judge_comparisonHolds cmpB
  have loop : ∀ f e num m, e + f = max n (p + 2) → f < m → (p + 2 ≤ e) → gx_loop (m_Judge_comparisonHolds_7 r v (nn (p + 1)) S) m (num, nn e) = some (ib (cmpV (if p + 1 < n then L (p + 1) else 0) v (dig L f e num).2)) := by
    intro f
    induction f with
    | zero =>
      intro e num m h1 h2 h3
      obtain ⟨m', rfl⟩ : ∃ m', m = m' + 1 := ⟨m - 1, by omega⟩
      rw [gx_loop_s]
      simp only [m_Judge_comparisonHolds_7]
      rw [e1, if_pos (by rw [nn_le (by omega) (by omega)]; omega)]
      exact fin num
    | succ f ih =>
      intro e num m h1 h2 h3
      obtain ⟨m', rfl⟩ : ∃ m', m = m' + 1 := ⟨m - 1, by omega⟩
      have he : e < n := by omega
      have hL := (h.2.2 e he).2
      rw [gx_loop_s]
      simp only [m_Judge_comparisonHolds_7]
      rw [e1, if_neg (by rw [nn_le (by omega) (by omega)]; omega), x_at h (by omega), cp_s, if_pos he, x_isDigit (by omega), cp_s]
      unfold dig
      cases hd : dg (L e) with
      | false =>
        rw [if_pos (by rfl)]
        exact fin num
      | true =>
        rw [if_neg (by decide), if_pos rfl, cp_s, nn_s]
        exact ih (e + 1) _ m' (by omega) (by omega) (by omega)
  rw [nn_s]
  exact loop (n - (p + 2)) (p + 2) 0 5000 (by omega) (by omega) (Nat.le_refl _)
/-- a letter of a test read by the class -/
theorem x_readLetter {G D : gx_S} {a b : Nat} {r n p : Nat} {L : Nat → Nat} {s : eT} {S : gx_S} (h : vT r n L S) (hp : p < n) (hv : jV G D a b S) (e : jE s S) (hd : s.1 ≤ 49) (hs : L p = 41 → 0 < s.1) : gt (m_Judge_readLetter r (nn p) S) fun T => fj S T ∧ jE (est (val G D a b) n L p s) T := by
  have hn := h.1
  obtain ⟨h1, h2⟩ := id e
  obtain ⟨a1, a2, a3⟩ := h2 s.1 (Nat.le_refl _)
  have hL := (h.2.2 p hp).2
  obtain ⟨v1, v2, v3, v4⟩ := hv
  have cne : ∀ d, d < 1000 → ¬ L p = d → ¬ nn (L p) = nn d := fun d hd h => by rw [nn_eq (by omega) (by omega)]; exact h
  have rfl' : fj S S := fun _ _ _ _ _ _ => rfl
  unfold m_Judge_readLetter
  rw [x_at h (by omega), if_pos hp, cp_s, nn_s]
  rw [show (33 : Int32) = nn 33 from rfl, show (40 : Int32) = nn 40 from rfl, show (41 : Int32) = nn 41 from rfl, show (100 : Int32) = nn 100 from rfl, show (111 : Int32) = nn 111 from rfl, show (114 : Int32) = nn 114 from rfl, show (115 : Int32) = nn 115 from rfl, show (124 : Int32) = nn 124 from rfl]
  unfold est
  by_cases c33 : L p = 33
  · rw [if_pos (by rw [c33]), if_pos c33, h1]
    simp (disch := omega) only [ck_n, nn_c, a3, ib_0]
    have main : ∀ x : Bool, x = !s.2.2.2 s.1 → gt (m_Judge_readLetter_105 r (nn s.1) (ib x) S) fun T => fj S T ∧ jE (eNot s) T := fun x hx => by
      unfold m_Judge_readLetter_105
      rw [nar_ib]
      simp (disch := omega) only [ck_n, nn_c, let_s]
      refine gt_some ⟨fun q j b1 b2 b3 b4 => gx_st_q _ _ _ _ b4, ?_, fun i hi => ?_⟩
      · rw [gx_st_q _ _ _ _ (by omega)]; exact h1
      · obtain ⟨c1, c2, c3⟩ := h2 i hi
        rw [gx_st_q _ _ _ _ (by omega), gx_st_q _ _ _ _ (by omega)]
        refine ⟨c1, c2, ?_⟩
        show _ = ib (ub _ _ _ i)
        by_cases z : i = s.1
        · rw [z, gx_st_eq, ub_e, hx]
        · rw [gx_st_j _ _ _ z, ub_n _ _ z]; exact c3
    cases hC : s.2.2.2 s.1 with
    | false => rw [if_pos rfl]; exact main true (by rw [hC]; rfl)
    | true => rw [if_neg (by decide)]; exact main false (by rw [hC]; rfl)
  · rw [if_neg (cne 33 (by omega) c33), if_neg c33]
    by_cases c40 : L p = 40
    · rw [if_pos (by rw [c40]), if_pos c40, h1, if_neg (by rw [show (50 : Int32) = nn 50 from rfl, nn_le (by omega) (by omega)]; omega)]
      rw [nn_s]
      refine gt_let ?_
      refine gt_cp (x_startTerms (d := s.1 + 1) (s := s) (gx_st_eq _ _ _ _) (by omega) (fun i hi => ?_)) (fun T hT => gt_some ⟨?_, hT.2⟩)
      · rw [gx_st_q _ _ _ _ (by omega), gx_st_q _ _ _ _ (by omega), gx_st_q _ _ _ _ (by omega)]
        exact h2 i (by omega)
      · intro q j b1 b2 b3 b4
        rw [hT.1 q j b1 b2 b3 b4]
        by_cases z : q = 77
        · subst z; exact gx_st_j _ _ _ (by omega)
        · exact gx_st_q _ _ _ _ z
    · rw [if_neg (cne 40 (by omega) c40), if_neg c40]
      by_cases c41 : L p = 41
      · have hs1 := hs c41
        rw [if_pos (by rw [c41]), if_pos c41, x_termsHold e (by omega), cp_s, h1, if_neg (by rw [nn_0, nn_le (by omega) (by omega)]; omega), nn_p hs1]
        refine gt_let ?_
        have e' : jE (s.1 - 1, s.2) (gx_st S 77 5 (nn (s.1 - 1))) := ⟨gx_st_eq _ _ _ _, fun i hi => by
          rw [gx_st_q _ _ _ _ (by omega), gx_st_q _ _ _ _ (by omega), gx_st_q _ _ _ _ (by omega)]
          exact h2 i (by simp only at hi; omega)⟩
        refine gt_cp (x_takeFactor e' (by simp only; omega) (eTh s)) (fun T hT => gt_some ⟨?_, hT.2⟩)
        intro q j b1 b2 b3 b4
        rw [hT.1 q j b1 b2 b3 b4]
        by_cases z : q = 77
        · subst z; exact gx_st_j _ _ _ (by omega)
        · exact gx_st_q _ _ _ _ z
      · rw [if_neg (cne 41 (by omega) c41), if_neg c41]
        have fac : ∀ v, v = val G D a b (L p) → nam (L p) → ¬ L p = 124 → gt (gx_cp (m_Judge_comparisonHolds r v (nn (p + 1)) S) fun v60 => gx_cp (m_Judge_takeFactor v60 S) fun S62 => some S62) fun T => fj S T ∧ jE (haveI := Classical.propDecidable; if L p = 124 then eOr s else if nam (L p) then eFac (cmpB n L (val G D a b (L p)) p) s else s) T := fun v hv hnm h124 => by
          rw [x_comparison h hp, cp_s, if_neg h124, if_pos hnm, hv]
          exact gt_cp (x_takeFactor e (by omega) _) (fun T hT => gt_some hT)
        by_cases c100 : L p = 100
        · rw [if_pos (by rw [c100])]
          exact fac _ (by rw [v4, c100]) (Or.inr (Or.inr (Or.inr c100))) (by omega)
        · rw [if_neg (cne 100 (by omega) c100)]
          by_cases c111 : L p = 111
          · rw [if_pos (by rw [c111])]
            exact fac _ (by rw [v2, c111]) (Or.inr (Or.inl c111)) (by omega)
          · rw [if_neg (cne 111 (by omega) c111)]
            by_cases c114 : L p = 114
            · rw [if_pos (by rw [c114])]
              exact fac _ (by rw [v3, c114]) (Or.inr (Or.inr (Or.inl c114))) (by omega)
            · rw [if_neg (cne 114 (by omega) c114)]
              by_cases c115 : L p = 115
              · rw [if_pos (by rw [c115])]
                exact fac _ (by rw [v1, c115]) (Or.inl c115) (by omega)
              · rw [if_neg (cne 115 (by omega) c115)]
                have hno : ¬ nam (L p) := by
                  rintro (z | z | z | z)
                  · exact c115 z
                  · exact c111 z
                  · exact c114 z
                  · exact c100 z
                by_cases c124 : L p = 124
                · rw [if_pos (by rw [c124]), if_pos c124, h1]
                  simp (disch := omega) only [ck_n, nn_c, a1, a2, ib_0]
                  have main : ∀ x : Bool, x = eTh s → gt (m_Judge_readLetter_146 r (nn s.1) (ib x) S) fun T => fj S T ∧ jE (eOr s) T := fun x hx => by
                    unfold m_Judge_readLetter_146
                    rw [nar_ib, nar_b (Or.inr rfl)]
                    simp (disch := omega) only [ck_n, nn_c, let_s, gx_st_q, h1]
                    refine gt_some ⟨fun q j b1 b2 b3 b4 => ?_, ?_, fun i hi => ?_⟩
                    · rw [gx_st_q _ _ _ _ b3, gx_st_q _ _ _ _ b2]
                    · rw [gx_st_q _ _ _ _ (by omega), gx_st_q _ _ _ _ (by omega)]; exact h1
                    · obtain ⟨c1, c2, c3⟩ := h2 i hi
                      refine ⟨?_, ?_, ?_⟩
                      · show _ = ib (ub _ _ _ i)
                        rw [gx_st_q _ _ _ _ (by omega)]
                        by_cases z : i = s.1
                        · rw [z, gx_st_eq, ub_e, hx]
                        · rw [gx_st_j _ _ _ z, ub_n _ _ z]; exact c1
                      · show _ = ib (ub _ _ _ i)
                        by_cases z : i = s.1
                        · rw [z, gx_st_eq, ub_e]; rfl
                        · rw [gx_st_j _ _ _ z, ub_n _ _ z, gx_st_q _ _ _ _ (by omega)]; exact c2
                      · rw [gx_st_q _ _ _ _ (by omega), gx_st_q _ _ _ _ (by omega)]; exact c3
                  unfold m_Judge_readLetter_141
                  unfold eTh at main
                  cases hA : s.2.1 s.1 with
                  | true => rw [if_neg (by decide)]; exact main true (by rw [hA]; rfl)
                  | false =>
                    rw [if_pos rfl]
                    cases hB : s.2.2.1 s.1 with
                    | true => rw [if_neg (by decide)]; exact main true (by rw [hA, hB]; rfl)
                    | false => rw [if_pos rfl]; exact main false (by rw [hA, hB]; rfl)
                · rw [if_neg (cne 124 (by omega) c124), if_neg c124, if_neg hno]
                  exact gt_some ⟨rfl', e⟩
theorem tr_o {q o c : Nat} {s : Nat × Nat} (h : tr q o c = some s) : s.2 = (if c = 40 then o + 1 else if c = 41 then o - 1 else o) ∧ (c = 41 → 0 < o) := by
  have key : ∀ q' o', some (q', o') = some s → o' = s.2 := fun q' o' e => by cases e; rfl
  unfold tr at h
  by_cases q0 : q = 0
  · rw [if_pos q0] at h
    by_cases c1 : c = 33
    · rw [if_pos c1] at h
      rw [← key _ _ h, c1]
      exact ⟨rfl, fun z => absurd z (by decide)⟩
    · rw [if_neg c1] at h
      by_cases c2 : c = 40
      · rw [if_pos c2] at h
        rw [← key _ _ h, c2]
        exact ⟨rfl, fun z => absurd z (by decide)⟩
      · rw [if_neg c2] at h
        by_cases c3 : nam c
        · rw [if_pos c3] at h
          rw [← key _ _ h]
          rcases c3 with rfl | rfl | rfl | rfl <;> exact ⟨rfl, fun z => absurd z (by decide)⟩
        · rw [if_neg c3] at h
          cases h
  · rw [if_neg q0] at h
    by_cases q1 : q = 1
    · rw [if_pos q1] at h
      by_cases c3 : sgn c
      · rw [if_pos c3] at h
        rw [← key _ _ h]
        rcases c3 with rfl | rfl | rfl <;> exact ⟨rfl, fun z => absurd z (by decide)⟩
      · rw [if_neg c3] at h
        cases h
    · rw [if_neg q1] at h
      by_cases c4 : q < 6 ∧ dg c = true
      · rw [if_pos c4] at h
        rw [← key _ _ h]
        have h48 : 48 ≤ c := by
          have := c4.2
          unfold dg at this
          simp at this
          omega
        rw [if_neg (by omega), if_neg (by omega)]
        exact ⟨rfl, fun z => by omega⟩
      · rw [if_neg c4] at h
        by_cases c5 : 2 < q ∧ (c = 38 ∨ c = 124)
        · rw [if_pos c5] at h
          rw [← key _ _ h, if_neg (by omega), if_neg (by omega)]
          exact ⟨rfl, fun z => by omega⟩
        · rw [if_neg c5] at h
          by_cases c6 : 2 < q ∧ c = 41 ∧ 0 < o
          · rw [if_pos c6] at h
            rw [← key _ _ h, if_neg (by omega), if_pos c6.2.1]
            exact ⟨rfl, fun _ => c6.2.2⟩
          · rw [if_neg c6] at h
            cases h

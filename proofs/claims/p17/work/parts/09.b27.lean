/-! b27: whether a test holds, both -/
theorem jE_cg {d : Nat} {A B C A' B' C' : Nat → Bool} {S : gx_S} (h : jE (d, A, B, C) S) (h1 : ∀ i, i ≤ d → A i = A' i ∧ B i = B' i ∧ C i = C' i) : jE (d, A', B', C') S := ⟨h.1, fun i hi => by
  obtain ⟨a, b, c⟩ := h1 i hi
  show _ = ib (A' i) ∧ _ = ib (B' i) ∧ _ = ib (C' i)
  rw [← a, ← b, ← c]
  exact h.2 i hi⟩
theorem est_d (V : Nat → Int32) (n : Nat) (L : Nat → Nat) (p : Nat) (s : eT) : (est V n L p s).1 = if L p = 40 then s.1 + 1 else if L p = 41 then s.1 - 1 else s.1 := by
  unfold est
  by_cases c33 : L p = 33
  · rw [if_pos c33, if_neg (by omega), if_neg (by omega)]; rfl
  · rw [if_neg c33]
    by_cases c40 : L p = 40
    · rw [if_pos c40, if_pos c40]; rfl
    · rw [if_neg c40, if_neg c40]
      by_cases c41 : L p = 41
      · rw [if_pos c41, if_pos c41]; rfl
      · rw [if_neg c41, if_neg c41]
        split
        · rfl
        · split <;> rfl
theorem est_id {V : Nat → Int32} {n : Nat} {L : Nat → Nat} {p : Nat} {s : eT} (h : 48 ≤ L p ∧ L p ≤ 62) : est V n L p s = s := by
  unfold est
  rw [if_neg (by omega), if_neg (by omega), if_neg (by omega), if_neg (by omega), if_neg (by unfold nam; omega)]
/-- the text is a test -/
def okT (n : Nat) (L : Nat → Nat) (F : Nat × Option (Nat × Nat)) : Prop := ∃ s, F = (n, some s) ∧ 2 < s.1 ∧ s.2 = 0
theorem isT_ok {n : Nat} {L : Nat → Nat} (h : isT n L = true) : okT n L (ffr L n 0 0 0) := by
  unfold isT at h
  rcases ffr_e (L := L) n 0 0 0 with ⟨s, h1, h2⟩ | ⟨h1, h2⟩
  · rw [h1] at h
    simp at h
    have h3 : (ffr L n 0 0 0).1 = n := by omega
    exact ⟨s, Prod.ext h3 h1, h.1, h.2⟩
  · rw [h1] at h
    simp at h
theorem ffr_s {n m j q o : Nat} {L : Nat → Nat} {F : Nat × Option (Nat × Nat)} (hF : okT n L F) (h : ffr L (m + 1) j q o = F) : ∃ s, tr q o (L j) = some s ∧ ffr L m (j + 1) s.1 s.2 = F := by
  obtain ⟨s, e, _⟩ := hF
  unfold ffr at h
  cases ht : tr q o (L j) with
  | none => rw [ht] at h; rw [e] at h; cases h
  | some s' => rw [ht] at h; exact ⟨s', rfl, h⟩
theorem ffr_z {n j q o : Nat} {L : Nat → Nat} {F : Nat × Option (Nat × Nat)} (hF : okT n L F) (h : ffr L 0 j q o = F) : j = n ∧ 2 < q ∧ o = 0 := by
  obtain ⟨s, e, h1, h2⟩ := hF
  have h : (j, some (q, o)) = F := h
  rw [e] at h
  cases h
  exact ⟨rfl, h1, h2⟩
theorem jV_f {G D : gx_S} {a b : Nat} {S T : gx_S} (h : jV G D a b S) (f : fj S T) : jV G D a b T := by
  obtain ⟨h1, h2, h3, h4⟩ := h
  refine ⟨?_, ?_, ?_, ?_⟩
  · rw [f _ _ (by omega) (by omega) (by omega) (by omega)]; exact h1
  · rw [f _ _ (by omega) (by omega) (by omega) (by omega)]; exact h2
  · rw [f _ _ (by omega) (by omega) (by omega) (by omega)]; exact h3
  · rw [f _ _ (by omega) (by omega) (by omega) (by omega)]; exact h4
theorem x_holds {G D : gx_S} {a b : Nat} {r n : Nat} {L : Nat → Nat} {S : gx_S} (h : vT r n L S) (hr : r < 5) (hv : jV G D a b S) (hT : isT n L = true) : gt (m_Judge_holds r S) fun t => fj S t.2 ∧ t.1 = ib (eTh (evF (val G D a b) n L n)) := by
  have hn := h.1
  have hF := isT_ok hT
  unfold m_Judge_holds
  refine gt_let ?_
  refine gt_cp (x_startTerms (d := 0) (s := e0) (gx_st_eq _ _ _ _) (by omega) (fun i hi => absurd hi (by omega))) (fun T0 hT0 => ?_)
  obtain ⟨f0, j0⟩ := hT0
  have f0' : fj S T0 := fun q j b1 b2 b3 b4 => by
    rw [f0 q j b1 b2 b3 b4]
    by_cases z : q = 77
    · subst z; exact gx_st_j _ _ _ (by omega)
    · exact gx_st_q _ _ _ _ z
  have j0' : jE e0 T0 := jE_cg j0 (fun i hi => by
    have : i = 0 := by omega
    subst this
    exact ⟨rfl, rfl, rfl⟩)
  refine gt_for n (fun p t => t.1 = nn p ∧ fj S t.2 ∧ jE (evF (val G D a b) n L p) t.2 ∧ ∃ q, q ≤ 7 ∧ (evF (val G D a b) n L p).1 ≤ p ∧ ffr L (n - p) p q (evF (val G D a b) n L p).1 = ffr L n 0 0 0) ?_ ?_ 0 5000 _ (by omega) ?_ (by omega)
  · rintro p ⟨_, T⟩ k hp ⟨rfl, f, e, q, hq, ho, er⟩ hk
    simp only at f e
    simp only [m_Judge_holds_11]
    have hvT : vT r n L T := ⟨hn, by rw [f _ _ (by omega) (by omega) (by omega) (by omega)]; exact h.2.1, fun i hi => by rw [f _ _ (by omega) (by omega) (by omega) (by omega)]; exact h.2.2 i hi⟩
    obtain ⟨m, hm⟩ : ∃ m, n - p = m + 1 := ⟨n - p - 1, by omega⟩
    rw [hm] at er
    obtain ⟨s, ht, er'⟩ := ffr_s hF er
    obtain ⟨t1, t2⟩ := tr_o ht
    rw [hvT.2.1, if_neg (by rw [nn_le (by omega) (by omega)]; omega)]
    refine gt_cp (x_readLetter hvT hp (jV_f hv f) e (by omega) t2) (fun U hU => ?_)
    obtain ⟨u1, u2⟩ := hU
    have ed : (evF (val G D a b) n L (p + 1)).1 = s.2 := by
      show (est (val G D a b) n L p (evF (val G D a b) n L p)).1 = s.2
      rw [est_d, t1]
    rw [nn_s]
    have hb := tr_b hq ht
    refine hk _ ⟨rfl, fj_t f u1, u2, s.1, hb.1, by rw [ed]; omega, ?_⟩
    rw [ed, show n - (p + 1) = m by omega]
    exact er'
  · rintro ⟨_, T⟩ k ⟨rfl, f, e, q, hq, ho, er⟩
    simp only at f e
    simp only [m_Judge_holds_11]
    have e1 : T (66 + 2 * r) 1 = nn n := by rw [f _ _ (by omega) (by omega) (by omega) (by omega)]; exact h.2.1
    rw [e1, if_pos (Int32.le_refl _), x_termsHold e (by omega), cp_s]
    refine gt_bz (by cases eTh (evF (val G D a b) n L n); exact Or.inl rfl; exact Or.inr rfl) (gt_some ⟨f, rfl⟩)
  · exact ⟨rfl, f0', j0', 0, by omega, Nat.le_refl _, rfl⟩
/-! the reference's -/
def uE (s : eT) (T : gx_S) : Prop := T 0 40 = nn s.1 ∧ ∀ i, i ≤ s.1 → T 23 i = ib (s.2.1 i) ∧ T 24 i = ib (s.2.2.1 i) ∧ T 25 i = ib (s.2.2.2 i)
def fk (S T : gx_S) : Prop := ∀ q j, (q ≠ 0 ∨ j ≠ 40) → q ≠ 15 → q ≠ 23 → q ≠ 24 → q ≠ 25 → T q j = S q j
theorem fk_r (S : gx_S) : fk S S := fun _ _ _ _ _ _ _ => rfl
theorem fk_t {S T U : gx_S} (h : fk S T) (h' : fk T U) : fk S U := fun q j a1 a2 a3 a4 a5 => (h' q j a1 a2 a3 a4 a5).trans (h q j a1 a2 a3 a4 a5)
theorem pU_k {G D S T : gx_S} {sh : Int32} (h : pU G D sh S) (f : fk S T) : pU G D sh T := pU_f h (fun q j hq => f q j (by omega) (by omega) (by omega) (by omega) (by omega))
theorem u_openGroup {d : Nat} {s : eT} {S : gx_S} (h1 : S 0 40 + 1 = nn d) (hd : d ≤ 50) (h2 : ∀ i, i < d → S 23 i = ib (s.2.1 i) ∧ S 24 i = ib (s.2.2.1 i) ∧ S 25 i = ib (s.2.2.2 i)) : gt (n_openGroup S) fun T => fk S T ∧ uE (d, ub s.2.1 d false, ub s.2.2.1 d true, ub s.2.2.2 d false) T := by
  unfold n_openGroup
  rw [h1, nar_b (Or.inl rfl), nar_b (Or.inr rfl)]
  simp (disch := omega) only [let_s, gx_st_eq, gx_st_q, nn_c, ck_n]
  refine gt_some ⟨fun q j b1 b2 b3 b4 b5 => ?_, ?_, fun i hi => ?_⟩
  · rw [gx_st_q _ _ _ _ b5, gx_st_q _ _ _ _ b4, gx_st_q _ _ _ _ b3]
    by_cases z : q = 0
    · subst z; exact gx_st_j _ _ _ (by omega)
    · exact gx_st_q _ _ _ _ z
  · simp (disch := omega) only [gx_st_q, gx_st_eq]
  · show _ = ib (ub _ _ _ i) ∧ _ = ib (ub _ _ _ i) ∧ _ = ib (ub _ _ _ i)
    by_cases z : i = d
    · subst z
      rw [ub_e, ub_e, ub_e]
      simp (disch := omega) only [gx_st_q, gx_st_eq]
      exact ⟨rfl, rfl, rfl⟩
    · obtain ⟨c1, c2, c3⟩ := h2 i (by simp only at hi; omega)
      rw [ub_n _ _ z, ub_n _ _ z, ub_n _ _ z]
      simp (disch := omega) only [gx_st_q, gx_st_j]
      exact ⟨c1, c2, c3⟩
theorem u_factor {s : eT} {S : gx_S} (h : uE s S) (hd : s.1 ≤ 50) (b : Bool) : gt (n_factor (ib b) S) fun T => fk S T ∧ uE (eFac b s) T := by
  obtain ⟨h1, h2⟩ := h
  obtain ⟨a1, a2, a3⟩ := h2 s.1 (Nat.le_refl _)
  have main : ∀ x : Bool, x = (s.2.2.1 s.1 && (b != s.2.2.2 s.1)) → gt (n_factor_38 (nn s.1) (ib x) S) fun T => fk S T ∧ uE (eFac b s) T := fun x hx => by
    unfold n_factor_38
    rw [nar_ib]
    simp (disch := omega) only [ck_n, nn_c, let_s, gx_st_q, h1, nar_b (Or.inl rfl)]
    refine gt_some ⟨fun q j b1 b2 b3 b4 b5 => ?_, ?_, fun i hi => ?_⟩
    · rw [gx_st_q _ _ _ _ b5, gx_st_q _ _ _ _ b4]
    · rw [gx_st_q _ _ _ _ (by omega), gx_st_q _ _ _ _ (by omega)]; exact h1
    · obtain ⟨c1, c2, c3⟩ := h2 i hi
      rw [gx_st_q _ _ _ _ (by omega), gx_st_q _ _ _ _ (by omega), gx_st_q _ _ _ _ (by omega)]
      refine ⟨c1, ?_, ?_⟩
      · show _ = ib (ub _ _ _ i)
        by_cases z : i = s.1
        · rw [z, gx_st_eq, ub_e, hx]
        · rw [gx_st_j _ _ _ z, ub_n _ _ z]; exact c2
      · show _ = ib (ub _ _ _ i)
        by_cases z : i = s.1
        · rw [z, gx_st_eq, ub_e]; rfl
        · rw [gx_st_j _ _ _ z, ub_n _ _ z, gx_st_q _ _ _ _ (by omega)]; exact c3
  unfold n_factor n_factor_37
  rw [h1]
  simp (disch := omega) only [ck_n, nn_c, a2, a3, ib_0]
  cases hB : s.2.2.1 s.1 with
  | false => rw [if_pos rfl]; exact main false (by rw [hB]; rfl)
  | true =>
    rw [if_neg (by decide)]
    cases hC : s.2.2.2 s.1 with
    | false =>
      cases b with
      | false => rw [if_pos rfl]; exact main false (by rw [hB, hC]; rfl)
      | true => rw [if_neg (by decide)]; exact main true (by rw [hB, hC]; rfl)
    | true =>
      cases b with
      | false => rw [if_neg (by decide)]; exact main true (by rw [hB, hC]; rfl)
      | true => rw [if_pos rfl]; exact main false (by rw [hB, hC]; rfl)
/-- the reference's test t -/
def uQ (t n : Nat) (L : Nat → Nat) (T : gx_S) : Prop := n ≤ 50 ∧ T 10 t = nn n ∧ ∀ j, j < n → T 9 (50 * t + j) = nn (L j) ∧ L j ≤ 126
theorem uQ_k {t n : Nat} {L : Nat → Nat} {S T : gx_S} (h : uQ t n L S) (f : fk S T) : uQ t n L T := ⟨h.1, by rw [f _ _ (by omega) (by omega) (by omega) (by omega) (by omega)]; exact h.2.1, fun j hj => by rw [f _ _ (by omega) (by omega) (by omega) (by omega) (by omega)]; exact h.2.2 j hj⟩
theorem dig_le {L : Nat → Nat} : ∀ (f p : Nat) (x : Int32), p ≤ (dig L f p x).1 ∧ (dig L f p x).1 ≤ p + f
  | 0, p, x => ⟨Nat.le_refl _, Nat.le_refl _⟩
  | f + 1, p, x => by
    unfold dig
    split
    · have := dig_le (L := L) f (p + 1) (10 * x + nn (L p) - 48)
      omega
    · exact ⟨Nat.le_refl _, by simp only; omega⟩
/-- behind the digits the reading stands at a bound -/
theorem dig_b {V : Nat → Int32} {n : Nat} {L : Nat → Nat} {F : Nat × Option (Nat × Nat)} (hF : okT n L F) : ∀ (f p q o : Nat) (x : Int32), p + f = n → 2 ≤ q → q ≤ 6 → ffr L f p q o = F → ∃ q', 2 < q' ∧ q' ≤ 7 ∧ ffr L (n - (dig L f p x).1) (dig L f p x).1 q' o = F ∧ ((dig L f p x).1 < n → dg (L (dig L f p x).1) = false) ∧ evF V n L (dig L f p x).1 = evF V n L p
  | 0, p, q, o, x, h1, h2, h3, h4 => by
    obtain ⟨a, b, c⟩ := ffr_z hF h4
    refine ⟨q, b, by omega, ?_, fun z => ?_, rfl⟩
    · show ffr L (n - p) p q o = F
      rw [show n - p = 0 by omega]; exact h4
    · have : p < n := z
      omega
  | f + 1, p, q, o, x, h1, h2, h3, h4 => by
    obtain ⟨s, ht, er⟩ := ffr_s hF h4
    unfold dig
    by_cases hd : dg (L p) = true
    · rw [if_pos hd]
      have hq6 : q < 6 := by
        rcases Nat.lt_or_ge q 6 with z | z
        · exact z
        · exfalso
          have hq : q = 6 := by omega
          have h48 : 48 ≤ L p ∧ L p ≤ 57 := by
            unfold dg at hd
            simp at hd
            omega
          unfold tr at ht
          rw [if_neg (by omega), if_neg (by omega), if_neg (show ¬ (q < 6 ∧ dg (L p) = true) from fun w => by have := w.1; omega), if_neg (show ¬ (2 < q ∧ (L p = 38 ∨ L p = 124)) by omega), if_neg (show ¬ (2 < q ∧ L p = 41 ∧ 0 < o) by omega)] at ht
          cases ht
      have ht2 : tr q o (L p) = some (q + 1, o) := by
        unfold tr
        rw [if_neg (by omega), if_neg (by omega), if_pos ⟨hq6, hd⟩]
      rw [ht2] at ht
      cases ht
      obtain ⟨q', a1, a2, a3, a4, a5⟩ := dig_b (V := V) hF f (p + 1) (q + 1) o (10 * x + nn (L p) - 48) (by omega) (by omega) (by omega) er
      refine ⟨q', a1, a2, a3, a4, ?_⟩
      rw [a5]
      have h48 : 48 ≤ L p ∧ L p ≤ 62 := by
        unfold dg at hd
        simp at hd
        omega
      exact est_id h48
    · rw [if_neg hd]
      have hq2 : 2 < q := by
        rcases Nat.lt_or_ge 2 q with z | z
        · exact z
        · exfalso
          have hq : q = 2 := by omega
          unfold tr at ht
          rw [if_neg (by omega), if_neg (by omega), if_neg (fun w => hd w.2), if_neg (by omega), if_neg (by omega)] at ht
          cases ht
      refine ⟨q, hq2, by omega, ?_, fun _ => by simpa using hd, rfl⟩
      show ffr L (n - p) p q o = F
      rw [show n - p = f + 1 by omega]; exact h4
theorem u_digits {t n : Nat} {L : Nat → Nat} {S : gx_S} (h : uQ t n L S) (ht : t < 4) (k : Int32 × gx_S → Option (Int32 × gx_S)) (x2 x3 c op : Int32) : ∀ f e num m, e + f = n → f < m → gx_loop (n_barsNow_232 k (nn t) x2 x3 c op S) m (nn e, num) = n_barsNow_290 k (nn t) x2 x3 (nn (dig L f e num).1) c op (dig L f e num).2 S := by
  have hn := h.1
  intro f
  induction f with
  | zero =>
    intro e num m h1 h2
    obtain ⟨m', rfl⟩ : ∃ m', m = m' + 1 := ⟨m - 1, by omega⟩
    rw [gx_loop_s]
    simp only [n_barsNow_232]
    simp (disch := omega) only [ck_n, nn_c, h.2.1, nn_le]
    rw [if_pos (by omega)]
    rfl
  | succ f ih =>
    intro e num m h1 h2
    obtain ⟨m', rfl⟩ : ∃ m', m = m' + 1 := ⟨m - 1, by omega⟩
    have he : e < n := by omega
    obtain ⟨e9, hL⟩ := h.2.2 e he
    rw [gx_loop_s]
    simp only [n_barsNow_232]
    rw [show (50 : Int32) = nn 50 from rfl, nn_mul, nn_add]
    simp (disch := omega) only [ck_n, nn_c, h.2.1, nn_le, e9, u_isDigit, cp_s, nn_s, ib_0]
    rw [if_neg (by omega)]
    unfold dig
    by_cases hd : dg (L e) = true
    · rw [if_neg (by simp [hd]), if_pos hd]
      exact ih (e + 1) _ m' (by omega) (by omega)
    · rw [if_pos (by simpa using hd), if_neg hd]
theorem u_barsNow {G D : gx_S} {a b : Nat} {t n : Nat} {L : Nat → Nat} {S : gx_S} (p0 : pU G D (-1) S) (hw : wD G D) (ha : a < nO G) (hb : b < nO G) (hab : a ≠ b) (h : uQ t n L S) (ht : t < 4) (hT : isT n L = true) : gt (n_barsNow (nn t) (nn a) (nn b) S) fun r => fk S r.2 ∧ r.1 = ib (eTh (evF (val G D a b) n L n)) := by
  have hn := h.1
  have hF := isT_ok hT
  obtain ⟨F, hFe⟩ : ∃ F, F = ffr L n 0 0 0 := ⟨_, rfl⟩
  rw [← hFe] at hF
  unfold n_barsNow
  refine gt_let ?_
  refine gt_cp (u_openGroup (d := 0) (s := e0) (by rw [gx_st_eq]; decide) (by omega) (fun i hi => absurd hi (by omega))) (fun T0 hT0 => ?_)
  obtain ⟨f0, j0⟩ := hT0
  have f0' : fk S T0 := fun q j b1 b2 b3 b4 b5 => by
    rw [f0 q j b1 b2 b3 b4 b5]
    by_cases z : q = 0
    · subst z; exact gx_st_j _ _ _ (by omega)
    · exact gx_st_q _ _ _ _ z
  have j0' : uE e0 T0 := ⟨j0.1, fun i hi => by
    have : i = 0 := by simp only [e0] at hi; omega
    subst this
    exact j0.2 0 (Nat.le_refl _)⟩
  refine gt_loop (fun r => ∃ i, r.1 = nn i ∧ i ≤ n ∧ fk S r.2 ∧ uE (evF (val G D a b) n L i) r.2 ∧ ∃ q, q ≤ 7 ∧ (evF (val G D a b) n L i).1 ≤ i ∧ ffr L (n - i) i q (evF (val G D a b) n L i).1 = F ∧ (q = 0 ∨ (2 < q ∧ (i < n → dg (L i) = false)))) (fun r => n - r.1.toNatClampNeg) ?_ 5000 _ ?_ ?_
  · rintro ⟨_, T⟩ k ⟨i, rfl, hi, f, e, q, hq, ho, er, hbd⟩ hk
    simp only at f e hk
    rw [nn_c (by omega)] at hk
    simp only [n_barsNow_12]
    have hQ := uQ_k h f
    have p := pU_k p0 f
    obtain ⟨e1, e2⟩ := id e
    obtain ⟨a1, a2, a3⟩ := e2 _ (Nat.le_refl _)
    rw [ck_n ht (by omega), nn_c (by omega), hQ.2.1]
    by_cases hin : n ≤ i
    · have : i = n := by omega
      subst this
      rw [if_pos (Int32.le_refl _), Nat.sub_self] at *
      obtain ⟨_, _, o0⟩ := ffr_z hF er
      rw [o0] at a1 a2
      rw [ck_0 (by omega) (by omega), z_c, a1, a2]
      unfold eTh n_barsNow_381
      rw [o0]
      simp only [ib_0]
      cases (evF (val G D a b) i L i).2.1 0 with
      | true => rw [if_neg (by decide)]; exact gt_some ⟨f, rfl⟩
      | false =>
        rw [if_pos rfl]
        cases (evF (val G D a b) i L i).2.2.1 0 with
        | true => rw [if_neg (by decide)]; exact gt_some ⟨f, rfl⟩
        | false => rw [if_pos rfl]; exact gt_some ⟨f, rfl⟩
    · obtain ⟨e9, hL⟩ := hQ.2.2 i (by omega)
      obtain ⟨m, hm⟩ : ∃ m, n - i = m + 1 := ⟨n - i - 1, by omega⟩
      rw [hm] at er
      obtain ⟨s, hts, er'⟩ := ffr_s hF er
      obtain ⟨t1, t2⟩ := tr_o hts
      have hsb := tr_b hq hts
      have ed : (evF (val G D a b) n L (i + 1)).1 = s.2 := by
        show (est (val G D a b) n L i (evF (val G D a b) n L i)).1 = s.2
        rw [est_d, t1]
      have ev1 : evF (val G D a b) n L (i + 1) = est (val G D a b) n L i (evF (val G D a b) n L i) := rfl
      rw [if_neg (by rw [nn_le (by omega) (by omega)]; omega)]
      rw [show (50 : Int32) = nn 50 from rfl, nn_mul, nn_s, nn_add, nn_add, ck_n (by omega) (by omega), nn_c (by omega), e9]
      have cne : ∀ d, d < 1000 → ¬ L i = d → ¬ nn (L i) = nn d := fun d hd h => by rw [nn_eq (by omega) (by omega)]; exact h
      -- the next letter
      have nx : ∀ U, fk S U → uE (evF (val G D a b) n L (i + 1)) U → (s.1 = 0 ∨ (2 < s.1 ∧ (i + 1 < n → dg (L (i + 1)) = false))) → gt (n_barsNow_360 k (nn t) (nn a) (nn b) (nn (i + 1)) U) fun r => fk S r.2 ∧ r.1 = ib (eTh (evF (val G D a b) n L n)) := fun U fU eU hs => by
        unfold n_barsNow_360
        refine hk _ ⟨i + 1, rfl, by omega, fU, eU, s.1, hsb.1, by rw [ed]; omega, ?_, hs⟩ ?_
        · rw [ed, show n - (i + 1) = m by omega]; exact er'
        · simp only
          rw [nn_c (by omega)]; omega
      rw [show (33 : Int32) = nn 33 from rfl, show (40 : Int32) = nn 40 from rfl, show (41 : Int32) = nn 41 from rfl, show (124 : Int32) = nn 124 from rfl, show (38 : Int32) = nn 38 from rfl]
      by_cases c33 : L i = 33
      · rw [if_pos (by rw [c33]), e1]
        simp (disch := omega) only [ck_n, nn_c, a3, ib_0]
        have hs0 : s.1 = 0 := by
          unfold tr at hts
          rw [c33] at hts
          by_cases q0 : q = 0
          · rw [if_pos q0, if_pos rfl] at hts
            cases hts; rfl
          · have hd : dg 33 = false := by decide
            rw [if_neg q0, if_neg (by omega), if_neg (fun w => by rw [hd] at w; exact absurd w.2 (by decide)), if_neg (by omega), if_neg (by omega)] at hts
            cases hts
        have ee : evF (val G D a b) n L (i + 1) = eNot (evF (val G D a b) n L i) := by
          rw [ev1]; unfold est; rw [if_pos c33]
        have main : ∀ x : Bool, x = !(evF (val G D a b) n L i).2.2.2 (evF (val G D a b) n L i).1 → gt (n_barsNow_72 k (nn t) (nn a) (nn b) (nn (i + 1)) (nn (evF (val G D a b) n L i).1) (ib x) T) fun r => fk S r.2 ∧ r.1 = ib (eTh (evF (val G D a b) n L n)) := fun x hx => by
          unfold n_barsNow_72
          rw [nar_ib]
          simp (disch := omega) only [ck_n, nn_c, let_s]
          refine nx _ (fk_t f (fun q j b1 b2 b3 b4 b5 => gx_st_q _ _ _ _ b5)) ?_ (Or.inl hs0)
          rw [ee]
          refine ⟨by rw [gx_st_q _ _ _ _ (by omega)]; exact e1, fun j hj => ?_⟩
          obtain ⟨c1, c2, c3⟩ := e2 j hj
          rw [gx_st_q _ _ _ _ (by omega), gx_st_q _ _ _ _ (by omega)]
          refine ⟨c1, c2, ?_⟩
          show _ = ib (ub _ _ _ j)
          by_cases z : j = (evF (val G D a b) n L i).1
          · rw [z, gx_st_eq, ub_e, hx]
          · rw [gx_st_j _ _ _ z, ub_n _ _ z]; exact c3
        cases hC : (evF (val G D a b) n L i).2.2.2 (evF (val G D a b) n L i).1 with
        | false => rw [if_pos rfl]; exact main true (by rw [hC]; rfl)
        | true => rw [if_neg (by decide)]; exact main false (by rw [hC]; rfl)
      · rw [if_neg (cne 33 (by omega) c33)]
        by_cases c40 : L i = 40
        · rw [if_pos (by rw [c40])]
          have hs0 : s.1 = 0 := by
            unfold tr at hts
            rw [c40] at hts
            by_cases q0 : q = 0
            · rw [if_pos q0, if_neg (by omega), if_pos rfl] at hts
              cases hts; rfl
            · have hd : dg 40 = false := by decide
              rw [if_neg q0, if_neg (by omega), if_neg (fun w => by rw [hd] at w; exact absurd w.2 (by decide)), if_neg (by omega), if_neg (by omega)] at hts
              cases hts
          have ee : evF (val G D a b) n L (i + 1) = eOpen (evF (val G D a b) n L i) := by
            rw [ev1]; unfold est; rw [if_neg c33, if_pos c40]
          refine gt_cp (u_openGroup (d := (evF (val G D a b) n L i).1 + 1) (s := evF (val G D a b) n L i) (by rw [e1, nn_s]) (by omega) (fun j hj => e2 j (by omega))) (fun U hU => ?_)
          exact nx U (fk_t f hU.1) (by rw [ee]; exact hU.2) (Or.inl hs0)
        · rw [if_neg (cne 40 (by omega) c40)]
          by_cases c41 : L i = 41
          · rw [if_pos (by rw [c41]), e1]
            have hd0 := t2 c41
            simp (disch := omega) only [ck_n, nn_c, a1, a2, ib_0]
            have hs7 : s.1 = 7 := by
              unfold tr at hts
              rw [c41] at hts
              have hd : dg 41 = false := by decide
              by_cases q0 : q = 0
              · rw [if_pos q0, if_neg (by omega), if_neg (by omega), if_neg (by unfold nam; omega)] at hts
                cases hts
              · by_cases q1 : q = 1
                · omega
                · rw [if_neg q0, if_neg q1, if_neg (fun w => by rw [hd] at w; exact absurd w.2 (by decide)), if_neg (by omega)] at hts
                  by_cases q3 : 2 < q ∧ 41 = 41 ∧ 0 < (evF (val G D a b) n L i).1
                  · rw [if_pos q3] at hts
                    cases hts; rfl
                  · rw [if_neg q3] at hts
                    cases hts
            have hs : s.1 = 0 ∨ (2 < s.1 ∧ (i + 1 < n → dg (L (i + 1)) = false)) := Or.inr ⟨by omega, fun hi1 => by
              obtain ⟨m', hm'⟩ : ∃ m', m = m' + 1 := ⟨m - 1, by omega⟩
              rw [hm'] at er'
              obtain ⟨s', ht', _⟩ := ffr_s hF er'
              cases hd : dg (L (i + 1)) with
              | false => rfl
              | true =>
                exfalso
                have h48 : 48 ≤ L (i + 1) ∧ L (i + 1) ≤ 57 := by
                  unfold dg at hd
                  simp at hd
                  omega
                unfold tr at ht'
                rw [if_neg (by omega), if_neg (by omega), if_neg (show ¬ (s.1 < 6 ∧ dg (L (i + 1)) = true) from fun w => by have := w.1; omega), if_neg (show ¬ (2 < s.1 ∧ (L (i + 1) = 38 ∨ L (i + 1) = 124)) by omega), if_neg (show ¬ (2 < s.1 ∧ L (i + 1) = 41 ∧ 0 < s.2) by omega)] at ht'
                cases ht'⟩
            have ee : evF (val G D a b) n L (i + 1) = eShut (evF (val G D a b) n L i) := by
              rw [ev1]; unfold est; rw [if_neg c33, if_neg c40, if_pos c41]
            have main : ∀ x : Bool, x = eTh (evF (val G D a b) n L i) → gt (n_barsNow_126 k (nn t) (nn a) (nn b) (nn (i + 1)) (ib x) T) fun r => fk S r.2 ∧ r.1 = ib (eTh (evF (val G D a b) n L n)) := fun x hx => by
              unfold n_barsNow_126
              rw [e1, nn_p hd0]
              refine gt_let ?_
              have e' : uE ((evF (val G D a b) n L i).1 - 1, (evF (val G D a b) n L i).2) (gx_st T 0 40 (nn ((evF (val G D a b) n L i).1 - 1))) := ⟨gx_st_eq _ _ _ _, fun j hj => by
                rw [gx_st_q _ _ _ _ (by omega), gx_st_q _ _ _ _ (by omega), gx_st_q _ _ _ _ (by omega)]
                exact e2 j (by simp only at hj; omega)⟩
              refine gt_cp (u_factor e' (by simp only; omega) x) (fun U hU => ?_)
              refine nx U (fk_t f (fun q j b1 b2 b3 b4 b5 => ?_)) ?_ hs
              · rw [hU.1 q j b1 b2 b3 b4 b5]
                by_cases z : q = 0
                · subst z; exact gx_st_j _ _ _ (by omega)
                · exact gx_st_q _ _ _ _ z
              · rw [ee]
                unfold eShut
                rw [← hx]
                exact hU.2
            unfold n_barsNow_121
            unfold eTh at main
            cases hA : (evF (val G D a b) n L i).2.1 (evF (val G D a b) n L i).1 with
            | true => rw [if_neg (by decide)]; exact main true (by rw [hA]; rfl)
            | false =>
              rw [if_pos rfl]
              cases hB : (evF (val G D a b) n L i).2.2.1 (evF (val G D a b) n L i).1 with
              | true => rw [if_neg (by decide)]; exact main true (by rw [hA, hB]; rfl)
              | false => rw [if_pos rfl]; exact main false (by rw [hA, hB]; rfl)
          · rw [if_neg (cne 41 (by omega) c41)]
            by_cases c124 : L i = 124
            · rw [if_pos (by rw [c124]), e1]
              simp (disch := omega) only [ck_n, nn_c, a1, a2, ib_0]
              have hs0 : s.1 = 0 := by
                unfold tr at hts
                rw [c124] at hts
                have hd : dg 124 = false := by decide
                by_cases q0 : q = 0
                · rw [if_pos q0, if_neg (by omega), if_neg (by omega), if_neg (by unfold nam; omega)] at hts
                  cases hts
                · by_cases q1 : q = 1
                  · omega
                  · rw [if_neg q0, if_neg q1, if_neg (fun w => by rw [hd] at w; exact absurd w.2 (by decide))] at hts
                    by_cases q3 : 2 < q ∧ (124 = 38 ∨ 124 = 124)
                    · rw [if_pos q3] at hts
                      cases hts; rfl
                    · rw [if_neg q3, if_neg (by omega)] at hts
                      cases hts
              have ee : evF (val G D a b) n L (i + 1) = eOr (evF (val G D a b) n L i) := by
                rw [ev1]; unfold est; rw [if_neg c33, if_neg c40, if_neg c41, if_pos c124]
              have main : ∀ x : Bool, x = eTh (evF (val G D a b) n L i) → gt (n_barsNow_191 k (nn t) (nn a) (nn b) (nn (i + 1)) (nn (evF (val G D a b) n L i).1) (ib x) T) fun r => fk S r.2 ∧ r.1 = ib (eTh (evF (val G D a b) n L n)) := fun x hx => by
                unfold n_barsNow_191
                rw [nar_ib, nar_b (Or.inr rfl)]
                simp (disch := omega) only [ck_n, nn_c, let_s, gx_st_q, e1]
                refine nx _ (fk_t f (fun q j b1 b2 b3 b4 b5 => by rw [gx_st_q _ _ _ _ b4, gx_st_q _ _ _ _ b3])) ?_ (Or.inl hs0)
                rw [ee]
                refine ⟨by rw [gx_st_q _ _ _ _ (by omega), gx_st_q _ _ _ _ (by omega)]; exact e1, fun j hj => ?_⟩
                obtain ⟨c1, c2, c3⟩ := e2 j hj
                refine ⟨?_, ?_, ?_⟩
                · show _ = ib (ub _ _ _ j)
                  rw [gx_st_q _ _ _ _ (by omega)]
                  by_cases z : j = (evF (val G D a b) n L i).1
                  · rw [z, gx_st_eq, ub_e, hx]
                  · rw [gx_st_j _ _ _ z, ub_n _ _ z]; exact c1
                · show _ = ib (ub _ _ _ j)
                  by_cases z : j = (evF (val G D a b) n L i).1
                  · rw [z, gx_st_eq, ub_e]; rfl
                  · rw [gx_st_j _ _ _ z, ub_n _ _ z, gx_st_q _ _ _ _ (by omega)]; exact c2
                · rw [gx_st_q _ _ _ _ (by omega), gx_st_q _ _ _ _ (by omega)]; exact c3
              unfold n_barsNow_186
              unfold eTh at main
              cases hA : (evF (val G D a b) n L i).2.1 (evF (val G D a b) n L i).1 with
              | true => rw [if_neg (by decide)]; exact main true (by rw [hA]; rfl)
              | false =>
                rw [if_pos rfl]
                cases hB : (evF (val G D a b) n L i).2.2.1 (evF (val G D a b) n L i).1 with
                | true => rw [if_neg (by decide)]; exact main true (by rw [hA, hB]; rfl)
                | false => rw [if_pos rfl]; exact main false (by rw [hA, hB]; rfl)
            · rw [if_neg (cne 124 (by omega) c124)]
              by_cases c38 : L i = 38
              · rw [if_pos (by rw [c38])]
                have hs0 : s.1 = 0 := by
                  unfold tr at hts
                  rw [c38] at hts
                  have hd : dg 38 = false := by decide
                  by_cases q0 : q = 0
                  · rw [if_pos q0, if_neg (by omega), if_neg (by omega), if_neg (by unfold nam; omega)] at hts
                    cases hts
                  · by_cases q1 : q = 1
                    · omega
                    · rw [if_neg q0, if_neg q1, if_neg (fun w => by rw [hd] at w; exact absurd w.2 (by decide))] at hts
                      by_cases q3 : 2 < q ∧ (38 = 38 ∨ 38 = 124)
                      · rw [if_pos q3] at hts
                        cases hts; rfl
                      · rw [if_neg q3, if_neg (by omega)] at hts
                        cases hts
                have ee : evF (val G D a b) n L (i + 1) = evF (val G D a b) n L i := by
                  rw [ev1]; unfold est; rw [if_neg c33, if_neg c40, if_neg c41, if_neg c124, if_neg (by unfold nam; omega)]
                exact nx T f (by rw [ee]; exact e) (Or.inl hs0)
              · rw [if_neg (cne 38 (by omega) c38)]
                -- a comparison
                have hq0 : q = 0 ∧ nam (L i) := by
                  unfold tr at hts
                  rcases hbd with q0 | ⟨q2, hdg⟩
                  · rw [if_pos q0, if_neg c33, if_neg c40] at hts
                    by_cases hnm : nam (L i)
                    · exact ⟨q0, hnm⟩
                    · rw [if_neg hnm] at hts
                      cases hts
                  · exfalso
                    have hd := hdg (by omega)
                    rw [if_neg (by omega), if_neg (by omega), if_neg (fun w => by rw [hd] at w; exact absurd w.2 (by decide)), if_neg (by omega), if_neg (by omega)] at hts
                    cases hts
                obtain ⟨q0, hnm⟩ := hq0
                have hs1 : s = (1, (evF (val G D a b) n L i).1) := by
                  unfold tr at hts
                  rw [if_pos q0, if_neg c33, if_neg c40, if_pos hnm] at hts
                  cases hts; rfl
                rw [hs1] at er'
                have hm1 : ∃ m', m = m' + 1 := by
                  rcases m with _ | m'
                  · obtain ⟨_, z, _⟩ := ffr_z hF er'
                    omega
                  · exact ⟨m', rfl⟩
                obtain ⟨m', hm'⟩ := hm1
                rw [hm'] at er'
                obtain ⟨s2, hts2, er2⟩ := ffr_s hF er'
                have hs2 : sgn (L (i + 1)) ∧ s2 = (2, (evF (val G D a b) n L i).1) := by
                  unfold tr at hts2
                  rw [if_neg (by omega), if_pos rfl] at hts2
                  by_cases hsg : sgn (L (i + 1))
                  · rw [if_pos hsg] at hts2
                    cases hts2
                    exact ⟨hsg, rfl⟩
                  · rw [if_neg hsg] at hts2
                    cases hts2
                obtain ⟨hsg, hs2⟩ := hs2
                rw [hs2] at er2
                have hsg6 : 48 ≤ L (i + 1) ∧ L (i + 1) ≤ 62 := by
                  rcases hsg with z | z | z <;> omega
                obtain ⟨e9', hL'⟩ := hQ.2.2 (i + 1) (by omega)
                rw [ck_n (by omega) (by omega), nn_c (by omega), e9', nn_s, show i + 1 + 1 = i + 2 from rfl]
                rw [show gx_loop (n_barsNow_232 k (nn t) (nn a) (nn b) (nn (L i)) (nn (L (i + 1))) T) 5000 (nn (i + 2), 0) = _ from u_digits hQ ht k _ _ _ _ (n - (i + 2)) (i + 2) 0 5000 (by omega) (by omega)]
                obtain ⟨q', a4, a5, a6, a7, a8⟩ := dig_b (V := val G D a b) hF (n - (i + 2)) (i + 2) 2 (evF (val G D a b) n L i).1 0 (by omega) (by omega) (by omega) (by rw [show n - (i + 2) = m' by omega]; exact er2)
                have hdl := dig_le (L := L) (n - (i + 2)) (i + 2) 0
                have ee1 : evF (val G D a b) n L (i + 1) = eFac (cmpB n L (val G D a b (L i)) i) (evF (val G D a b) n L i) := by
                  rw [ev1]; unfold est; rw [if_neg c33, if_neg c40, if_neg c41, if_neg c124, if_pos hnm]
                have ee2 : evF (val G D a b) n L (i + 2) = evF (val G D a b) n L (i + 1) := est_id hsg6
                obtain ⟨E, hE⟩ : ∃ E, E = (dig L (n - (i + 2)) (i + 2) 0).1 := ⟨_, rfl⟩
                rw [← hE] at a6 a7 a8 hdl ⊢
                have eeE : evF (val G D a b) n L E = eFac (cmpB n L (val G D a b (L i)) i) (evF (val G D a b) n L i) := by rw [a8, ee2, ee1]
                unfold n_barsNow_290
                refine gt_cs (u_valueOf p hw ha hb hab (c := L i) hnm) (fun v U hU => ?_)
                obtain ⟨u1, u2⟩ := hU
                simp only at u1 u2
                rw [u1]
                have fU : fk S U := fk_t f (fun q j b1 b2 b3 b4 b5 => u2 q j b2)
                have eU : uE (evF (val G D a b) n L i) U := ⟨by rw [u2 _ _ (by omega)]; exact e1, fun j hj => by rw [u2 _ _ (by omega), u2 _ _ (by omega), u2 _ _ (by omega)]; exact e2 j hj⟩
                have fin : ∀ x : Bool, x = cmpB n L (val G D a b (L i)) i → gt (n_barsNow_357 k (nn t) (nn a) (nn b) (nn E) (ib x) U) fun r => fk S r.2 ∧ r.1 = ib (eTh (evF (val G D a b) n L n)) := fun x hx => by
                  unfold n_barsNow_357
                  refine gt_cp (u_factor eU (by omega) x) (fun W hW => ?_)
                  unfold n_barsNow_360
                  refine hk _ ⟨E, rfl, by omega, fk_t fU hW.1, by rw [eeE, ← hx]; exact hW.2, q', a5, ?_, ?_, Or.inr ⟨a4, a7⟩⟩ ?_
                  · rw [eeE]
                    show (evF (val G D a b) n L i).1 ≤ E
                    omega
                  · rw [eeE]; exact a6
                  · simp only
                    rw [nn_c (by omega)]; omega
                have hop : cmpB n L (val G D a b (L i)) i = cmpV (L (i + 1)) (val G D a b (L i)) (dig L (n - (i + 2)) (i + 2) 0).2 := by
                  unfold cmpB
                  rw [if_pos (by omega)]
                rw [hop] at fin
                generalize (dig L (n - (i + 2)) (i + 2) 0).2 = num at fin ⊢
                generalize val G D a b (L i) = w at fin ⊢
                unfold cmpV at fin
                rw [show (60 : Int32) = nn 60 from rfl, show (62 : Int32) = nn 62 from rfl]
                rcases hsg with z | z | z
                · rw [z] at fin ⊢
                  rw [if_pos rfl]
                  rw [if_pos rfl] at fin
                  by_cases y : num ≤ w
                  · rw [if_pos y]
                    exact fin false (by symm; simp; lia)
                  · rw [if_neg y]
                    exact fin true (by symm; simp; lia)
                · rw [z] at fin ⊢
                  rw [if_neg (by decide), if_neg (by decide)]
                  rw [if_neg (by decide), if_pos rfl] at fin
                  by_cases y : w = num
                  · rw [if_pos y]
                    exact fin true (by symm; simp [y])
                  · rw [if_neg y]
                    exact fin false (by symm; simp [y])
                · rw [z] at fin ⊢
                  rw [if_neg (by decide), if_pos rfl]
                  rw [if_neg (by decide), if_neg (by decide)] at fin
                  by_cases y : w ≤ num
                  · rw [if_pos y]
                    exact fin false (by symm; simp; lia)
                  · rw [if_neg y]
                    exact fin true (by symm; simp; lia)
  · exact ⟨0, rfl, by omega, f0', j0', 0, by omega, Nat.le_refl _, hFe.symm, Or.inl rfl⟩
  · simp only
    rw [z_c]; omega

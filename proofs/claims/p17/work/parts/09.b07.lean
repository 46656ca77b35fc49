/-! b07: a price put at a level; the best kept -/
theorem nn_b {k : Nat} {b : Nat} (h : k ≤ b) (hb : b < 2147483648) : bw (nn k) 0 (nn b) := ⟨by rw [nn_0, nn_le (by omega) (by omega)]; omega, by rw [nn_le (by omega) (by omega)]; exact h⟩
def tset (τ : Nat → Int32) (l : Nat) (x : Int32) : Nat → Int32 := fun i => if i = l then x else τ i
theorem ti_add {a b : Int32} (h1 : -2147483648 ≤ a.toInt + b.toInt) (h2 : a.toInt + b.toInt < 2147483648) : (a + b).toInt = a.toInt + b.toInt := by
  rw [Int32.toInt_add, Int.bmod_def]
  omega
theorem ti_sub {a b : Int32} (h1 : -2147483648 ≤ a.toInt - b.toInt) (h2 : a.toInt - b.toInt < 2147483648) : (a - b).toInt = a.toInt - b.toInt := by
  rw [Int32.toInt_sub, Int.bmod_def]
  omega
theorem bw_i {x a b : Int32} (h : bw x a b) : a.toInt ≤ x.toInt ∧ x.toInt ≤ b.toInt := ⟨Int32.le_iff_toInt_le.mp h.1, Int32.le_iff_toInt_le.mp h.2⟩
theorem hf_cmp (p b l c k : Int32) (hp : bw p 0 9) (hb : bw b (-9) 45) (hl : bw l (-9) 54) : ((if c ≤ k then l - b - 1 else l - b) < p) ↔ ¬ (p + b < l ∨ p + b = l ∧ k < c) := by
  obtain ⟨p1, p2⟩ := bw_i hp
  obtain ⟨b1, b2⟩ := bw_i hb
  obtain ⟨l1, l2⟩ := bw_i hl
  have c0 : (0 : Int32).toInt = 0 := by decide
  have c1 : (1 : Int32).toInt = 1 := by decide
  have c2 : (9 : Int32).toInt = 9 := by decide
  have c3 : (-9 : Int32).toInt = -9 := by decide
  have c4 : (45 : Int32).toInt = 45 := by decide
  have c5 : (54 : Int32).toInt = 54 := by decide
  rw [c0] at p1
  rw [c2] at p2
  rw [c3] at b1 l1
  rw [c4] at b2
  rw [c5] at l2
  have e1 : (p + b).toInt = p.toInt + b.toInt := ti_add (by omega) (by omega)
  have e2 : (l - b).toInt = l.toInt - b.toInt := ti_sub (by omega) (by omega)
  have e3 : (l - b - 1).toInt = l.toInt - b.toInt - 1 := by rw [ti_sub (by omega) (by omega), e2, c1]
  by_cases q : c ≤ k
  · rw [if_pos q]
    simp only [Int32.lt_iff_toInt_lt, Int32.le_iff_toInt_le, ← Int32.toInt_inj, e1, e3] at q ⊢
    omega
  · rw [if_neg q]
    simp only [Int32.lt_iff_toInt_lt, Int32.le_iff_toInt_le, ← Int32.toInt_inj, e1, e2] at q ⊢
    omega
theorem ist_b {G D : gx_S} {o : Nat} {τ : Nat → Int32} (hG : wG G) (hw : wD G D) (ht : ∀ i, bw (τ i) 0 9) (s : Nat) {k : Nat} (hk : k < 6) : bw (ist G D o τ s k) (-9) 54 := by
  obtain ⟨b1, b2⟩ := bes_b hG s k
  obtain ⟨t1, t2⟩ := ht (cu D o k)
  obtain ⟨d1, d2⟩ := (hw.1 k hk).1
  unfold ist
  constructor
  · split <;> lia
  · split <;> lia
theorem l_b {G D : gx_S} {o : Nat} {τ : Nat → Int32} (hG : wG G) (hw : wD G D) (ht : ∀ i, bw (τ i) 0 9) {s : Nat} {M : Nat → Prop} {l c : Int32} (h : isC M (ist G D o τ s) (G 9 s) (nP G) l c) : bw l (-9) 54 := by
  have hP := (wG_P hG).2
  obtain ⟨w1, w2⟩ := (hG.2.2.2 s).2.2.2.1
  rcases h with ⟨_, e, _⟩ | ⟨i, hi, _, e, _⟩
  · rw [e]
    constructor <;> lia
  · rw [e]; exact ist_b hG hw ht s (by omega)
theorem x_highestFor {G S : gx_S} (hG : wG G) (hv : vG G S) {l s k : Nat} (hl : l < 3) (hs : s < nS G) (hk : k < nP G) (e : S 42 l = nn k) : m_Bests_highestFor (nn l) (nn s) S = some (if S (52 + l) s ≤ nn k then S (47 + l) s - bes G s k - 1 else S (47 + l) s - bes G s k) := by
  have hP := (wG_P hG).2
  have hS := (wG_S hG).2
  have v2 := hv.2
  unfold m_Bests_highestFor
  simp (disch := omega) only [ck_n, nn_c, e, v2]
  split <;> rfl
theorem lM_1 {G D : gx_S} {o l k : Nat} (hk : ow D o k = true) (hc : cu D o k = l) (j : Nat) : lM G D o (l + 1) j ↔ lM G D o l j ∨ j = k := by
  unfold lM
  by_cases h : ow D o j = true
  · rw [if_pos h, if_pos h]
    constructor
    · intro q
      rcases Nat.lt_or_ge (cu D o j) l with y | y
      · exact Or.inl y
      · exact Or.inr (cn_inj (ow D o) h hk (by show cu D o j = cu D o k; omega))
    · rintro (q | q)
      · omega
      · subst q; omega
  · rw [if_neg h, if_neg h]
    constructor
    · exact Or.inl
    · rintro (q | q)
      · exact q
      · subst q; exact absurd hk h
theorem ist_1 {G D : gx_S} {o l : Nat} {τ : Nat → Int32} {x : Int32} {s j : Nat} (h : lM G D o l j) : ist G D o (tset τ l x) s j = ist G D o τ s j := by
  unfold ist tset
  by_cases hj : ow D o j = true
  · unfold lM at h
    rw [if_pos hj] at h
    rw [if_pos hj, if_pos hj, if_neg (by omega)]
  · rw [if_neg hj, if_neg hj]
theorem er_1 {G D : gx_S} {o l : Nat} {τ : Nat → Int32} {x : Int32} {is : Nat → Int32} {w y c : Int32} (hP : nP G ≤ 6) (h : isC (lM G D o l) is w (nP G) y c) : er G D o (tset τ l x) c = er G D o τ c := by
  rcases h with ⟨e, _⟩ | ⟨i, hi, e, _, hm, _⟩
  · rw [e]; rfl
  · unfold er tset
    rw [e, if_neg (nn_m1 (by omega)), if_neg (nn_m1 (by omega)), nn_c (by omega)]
    by_cases hj : ow D o i = true
    · unfold lM at hm
      rw [if_pos hj] at hm
      rw [if_pos hj, if_pos hj, if_neg (by omega)]
    · rw [if_neg hj, if_neg hj]
/-- whether a sort comes to shop k at price p from (l, c) -/
def cms (b p l c : Int32) (k : Nat) : Prop := p + b < l ∨ p + b = l ∧ nn k < c
theorem lv_1 {G D : gx_S} {o l k s : Nat} {τ : Nat → Int32} {p y c e : Int32} (hP : nP G ≤ 6) (hkn : k < nP G) (hk : ow D o k = true) (hc : cu D o k = l) (h : isC (lM G D o l) (ist G D o τ s) (G 9 s) (nP G) y c) (he : e = er G D o τ c) [Decidable (cms (bes G s k) p y c k)] :
    isC (lM G D o (l + 1)) (ist G D o (tset τ l p) s) (G 9 s) (nP G) (if cms (bes G s k) p y c k then p + bes G s k else y) (if cms (bes G s k) p y c k then nn k else c) ∧ (if cms (bes G s k) p y c k then p - co G o k else e) = er G D o (tset τ l p) (if cms (bes G s k) p y c k then nn k else c) := by
  have hno : ¬ lM G D o l k := by
    unfold lM
    rw [if_pos hk]
    omega
  have h' : isC (lM G D o l) (ist G D o (tset τ l p) s) (G 9 s) (nP G) y c := isC_cg h (fun _ _ => Iff.rfl) (fun j _ hm => (ist_1 hm).symm)
  have hv : ist G D o (tset τ l p) s k = p + bes G s k := by
    unfold ist tset
    rw [if_pos hk, if_pos hc]
  have ha := isC_add (by omega) h' hkn (fun j _ => lM_1 hk hc j) hno
  rw [hv] at ha
  refine ⟨?_, ?_⟩
  · by_cases q : cms (bes G s k) p y c k
    · have q1 : p + bes G s k < y ∨ p + bes G s k = y ∧ nn k < c := q
      rw [if_pos q, if_pos q]
      rw [if_pos q1, if_pos q1] at ha
      exact ha
    · have q1 : ¬ (p + bes G s k < y ∨ p + bes G s k = y ∧ nn k < c) := q
      rw [if_neg q, if_neg q]
      rw [if_neg q1, if_neg q1] at ha
      exact ha
  · by_cases q : cms (bes G s k) p y c k
    · rw [if_pos q, if_pos q]
      unfold er tset
      rw [if_neg (nn_m1 (by omega)), nn_c (by omega), if_pos hk, if_pos hc]
    · rw [if_neg q, if_neg q, er_1 hP h]
      exact he
theorem x_putPrice {G D S : gx_S} {o l : Nat} {τ : Nat → Int32} (ho : o < 6) (hG : wG G) (hw : wD G D) (ht : ∀ i, bw (τ i) 0 9) (hv : vG G S) (hL : oL G D o S) (hl : lv G D o τ l S) (hc : l < cnt G D o) {p : Nat} (hp : p < 10) : gt (m_Bests_putPrice (nn l) (nn p) S) fun T => (∀ q j, q ≠ 44 → q ≠ 48 + l → q ≠ 53 + l → q ≠ 58 + l → T q j = S q j) ∧ T 44 l = nn p ∧ (∀ i, i ≠ l → T 44 i = S 44 i) ∧ lv G D o (tset τ l (nn p)) (l + 1) T := by
  obtain ⟨eP, hP⟩ := wG_P hG
  obtain ⟨eS, hS⟩ := wG_S hG
  have h3 := hw.2.2 o ho
  obtain ⟨k, hkn, hk, hck⟩ := cn_at (ow D o) (n := nP G) hc
  have hck' : cu D o k = l := hck
  obtain ⟨eL, eC⟩ := hL.2 k hkn hk
  rw [hck'] at eL eC
  have v := hv.1
  unfold m_Bests_putPrice
  simp (disch := omega) only [ck_n, nn_c, let_s, gx_st_q, eL]
  refine gt_for (nS G) (fun s t => t.1 = nn s ∧ (∀ q j, q ≠ 44 → q ≠ 48 + l → q ≠ 53 + l → q ≠ 58 + l → t.2 q j = S q j) ∧ t.2 44 l = nn p ∧ (∀ i, i ≠ l → t.2 44 i = S 44 i) ∧ ∀ s', s' < s → isC (lM G D o (l + 1)) (ist G D o (tset τ l (nn p)) s') (G 9 s') (nP G) (t.2 (47 + (l + 1)) s') (t.2 (52 + (l + 1)) s') ∧ t.2 (57 + (l + 1)) s' = er G D o (tset τ l (nn p)) (t.2 (52 + (l + 1)) s')) ?_ ?_ 0 5000 _ (by omega) ⟨rfl, fun q j h1 h2 h3 h4 => ?_, ?_, fun i hi => ?_, fun s' hs => absurd hs (by omega)⟩ (by omega)
  · rintro s ⟨x, T⟩ kk hs ⟨e, f, g1, g2, g3⟩ hkk
    subst e
    simp only at f g1 g2 g3
    have hvT : vG G T := vG_f hv hS (fun q j hq => f q j (by omega) (by omega) (by omega) (by omega))
    have vb := hvT.2
    have e1 : T 1 2 = nn (nS G) := by rw [hvT.1 _ _ (by omega) (by omega), eS]
    have eL' : T 42 l = nn k := by rw [f _ _ (by omega) (by omega) (by omega) (by omega), eL]
    have eC' : T 43 l = co G o k := by rw [f _ _ (by omega) (by omega) (by omega) (by omega), eC]
    have a1 : T (47 + l) s = S (47 + l) s := f _ _ (by omega) (by omega) (by omega) (by omega)
    have a2 : T (52 + l) s = S (52 + l) s := f _ _ (by omega) (by omega) (by omega) (by omega)
    have a3 : T (57 + l) s = S (57 + l) s := f _ _ (by omega) (by omega) (by omega) (by omega)
    simp only [m_Bests_putPrice_17]
    simp (disch := omega) only [e1, nn_le, nn_s, x_highestFor hG hvT (l := l) (by omega) hs hkn eL', cp_s, a1, a2]
    rw [if_neg (by omega)]
    have hcm := hf_cmp (nn p) (bes G s k) (S (47 + l) s) (S (52 + l) s) (nn k) (nn_b (b := 9) (by omega) (by omega)) (bes_b hG s k) (l_b hG hw ht (hl s hs).1)
    haveI : Decidable (cms (bes G s k) (nn p) (S (47 + l) s) (S (52 + l) s) k) := Classical.propDecidable _
    have hlv := lv_1 (p := nn p) hP hkn hk hck' (hl s hs).1 (hl s hs).2
    simp only [m_Bests_putPrice_45, m_Bests_putPrice_88, m_Bests_putPrice_117, m_Bests_putPrice_153]
    by_cases q : cms (bes G s k) (nn p) (S (47 + l) s) (S (52 + l) s) k
    · rw [if_neg (by rw [hcm]; exact fun z => z q)]
      rw [if_pos q, if_pos q, if_pos q] at hlv
      rw [if_neg (by decide)]
      simp (disch := omega) only [nn_s, nn_c, ck_n, let_s, vb, if_neg (show ¬ (1 : Int32) = 0 by decide), gx_st_q, eC']
      refine hkk _ ⟨rfl, fun q j h1 h2 h3 h4 => ?_, ?_, fun i hi => ?_, fun s' hs' => ?_⟩
      · simp (disch := omega) only [gx_st_q]
        exact f q j h1 h2 h3 h4
      · simp (disch := omega) only [gx_st_q]
        exact g1
      · simp (disch := omega) only [gx_st_q]
        exact g2 i hi
      · rcases Nat.lt_or_ge s' s with y | y
        · simp (disch := omega) only [gx_st_q, gx_st_j]
          exact g3 s' y
        · have : s' = s := by omega
          subst this
          simp (disch := omega) only [gx_st_q, gx_st_eq]
          exact hlv
    · rw [if_pos (by rw [hcm]; exact q)]
      rw [if_neg q, if_neg q, if_neg q] at hlv
      rw [if_pos trivial]
      simp (disch := omega) only [nn_s, nn_c, ck_n, let_s, vb, ↓reduceIte, gx_st_q, a1, a2, a3]
      refine hkk _ ⟨rfl, fun q j h1 h2 h3 h4 => ?_, ?_, fun i hi => ?_, fun s' hs' => ?_⟩
      · simp (disch := omega) only [gx_st_q]
        exact f q j h1 h2 h3 h4
      · simp (disch := omega) only [gx_st_q]
        exact g1
      · simp (disch := omega) only [gx_st_q]
        exact g2 i hi
      · rcases Nat.lt_or_ge s' s with y | y
        · simp (disch := omega) only [gx_st_q, gx_st_j]
          exact g3 s' y
        · have : s' = s := by omega
          subst this
          simp (disch := omega) only [gx_st_q, gx_st_eq]
          exact hlv
  · rintro ⟨x, T⟩ kk ⟨e, f, g1, g2, g3⟩
    subst e
    simp only at f g1 g2 g3
    simp only [m_Bests_putPrice_17]
    have e1 : T 1 2 = nn (nS G) := by rw [f _ _ (by omega) (by omega) (by omega) (by omega), v _ _ (by omega) (by omega), eS]
    simp (disch := omega) only [e1, nn_le]
    rw [if_pos (by omega)]
    refine gt_some ⟨f, g1, g2, fun s hs => ?_⟩
    exact g3 s hs
  · simp (disch := omega) only [gx_st_q]
  · simp (disch := omega) only [gx_st_eq]
  · simp (disch := omega) only [gx_st_j]
theorem x_keep {G D S : gx_S} {o : Nat} (hc : cnt G D o ≤ 3) (e : S 41 5 = nn (cnt G D o)) (f : Int32) : gt (m_Bests_keepIfBetter f S) fun T => (∀ q j, q ≠ 45 → (q ≠ 41 ∨ j ≠ 11) → T q j = S q j) ∧ ((S 41 11 < f ∧ T 41 11 = f ∧ ∀ i, i < cnt G D o → T 45 i = S 44 i) ∨ (¬ S 41 11 < f ∧ T = S)) := by
  unfold m_Bests_keepIfBetter
  refine gt_ite (fun q => gt_some ⟨fun _ _ _ _ => rfl, Or.inr ⟨by lia, rfl⟩⟩) (fun q => gt_let ?_)
  refine gt_for (cnt G D o) (fun j t => t.1 = nn j ∧ (∀ q j, q ≠ 45 → (q ≠ 41 ∨ j ≠ 11) → t.2 q j = S q j) ∧ t.2 41 11 = f ∧ ∀ i, i < j → t.2 45 i = S 44 i) ?_ ?_ 0 5000 _ (by omega) ⟨rfl, fun q j h1 h2 => ?_, gx_st_eq S 41 11 f, fun i hi => absurd hi (by omega)⟩ (by omega)
  · rintro j ⟨x, T⟩ k hj ⟨rfl, g, g1, g2⟩ hk
    simp only at g g1 g2
    simp only [m_Bests_keepIfBetter_15]
    have e1 : T 41 5 = nn (cnt G D o) := by rw [g _ _ (by omega) (Or.inr (by omega)), e]
    have e2 : T 44 j = S 44 j := g _ _ (by omega) (Or.inl (by omega))
    simp (disch := omega) only [e1, nn_le, nn_c, ck_n, let_s, nn_s, e2]
    rw [if_neg (by omega)]
    refine hk _ ⟨rfl, fun q j h1 h2 => ?_, ?_, fun i hi => ?_⟩
    · simp (disch := omega) only [gx_st_q]
      exact g q j h1 h2
    · simp (disch := omega) only [gx_st_q]
      exact g1
    · rcases Nat.lt_or_ge i j with y | y
      · simp (disch := omega) only [gx_st_j]
        exact g2 i y
      · have : i = j := by omega
        subst this
        simp only [gx_st_eq]
  · rintro ⟨x, T⟩ k ⟨rfl, g, g1, g2⟩
    simp only at g g1 g2
    simp only [m_Bests_keepIfBetter_15]
    have e1 : T 41 5 = nn (cnt G D o) := by rw [g _ _ (by omega) (Or.inr (by omega)), e]
    simp (disch := omega) only [e1, nn_le]
    rw [if_pos (by omega)]
    exact gt_some ⟨g, Or.inl ⟨by lia, g1, g2⟩⟩
  · by_cases z : q = 41
    · subst z
      simp only
      exact gx_st_j _ _ _ (by omega)
    · exact gx_st_q _ _ _ _ z

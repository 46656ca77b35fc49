/-! b10: the best of an owner; a turn; rounds -/
def oneP (G : gx_S) (o : Nat) : Bool := decide (G 2 o = 1) || decide (G 2 o = 4)
def cds (G D : gx_S) (o : Nat) : Nat := if oneP G o = true then 10 else 10 ^ cnt G D o
def bF (G D : gx_S) (o : Nat) : Int32 := if G 2 o = 2 then pro G D o else if cnt G D o = 0 then 0 else (bst (fF G D o (oneP G o)) (cds G D o)).1
def bC (G D : gx_S) (o : Nat) : Nat := (bst (fF G D o (oneP G o)) (cds G D o)).2
def bI (G D : gx_S) (o : Nat) : Int32 := if G 2 o = 4 ∧ G 3 o < bF G D o then 1 else 0
/-- a comer that stays out -/
def shu (G D : gx_S) (o : Nat) : Prop := G 2 o = 4 ∧ ¬ G 3 o < bF G D o
def bG (G D : gx_S) (o : Nat) : Int32 := if G 2 o = 4 ∧ ¬ G 3 o < bF G D o then 0 else bF G D o
def bP (G D : gx_S) (o k : Nat) : Int32 := if k < nP G ∧ ow D o k = true ∧ ¬ G 2 o = 2 ∧ ¬ (G 2 o = 4 ∧ ¬ G 3 o < bF G D o) then tm (oneP G o) (cnt G D o) (bC G D o) (cu D o k) else D 1 k
def tk (G D : gx_S) (o : Nat) : gx_S := fun i j => if i = 1 then bP G D o j else if i = 3 ∧ j = o then bI G D o else D i j
theorem tk_1 (G D : gx_S) (o j : Nat) : tk G D o 1 j = bP G D o j := by simp [tk]
theorem tk_2 (G D : gx_S) (o j : Nat) : tk G D o 2 j = D 2 j := by simp [tk]
theorem tk_3 (G D : gx_S) (o j : Nat) : tk G D o 3 j = if j = o then bI G D o else D 3 j := by simp [tk]
/-- how much a turn changes -/
def nch (G D : gx_S) (o : Nat) : Int32 := sm (fun k => if D 1 k = bP G D o k then 0 else 1) (nP G) + (if D 3 o = bI G D o then 0 else 1)
theorem cu_lt {G D : gx_S} {o k : Nat} (h1 : k < nP G) (h2 : ow D o k = true) : cu D o k < cnt G D o := cn_lt (ow D o) h1 h2
theorem bst_lt (F : Nat → Int32) : ∀ {m : Nat}, 0 < m → (bst F m).2 < m
  | 0, h => absurd h (by omega)
  | 1, _ => by
    unfold bst bst
    split <;> simp
  | m + 2, _ => by
    have := bst_lt F (m := m + 1) (by omega)
    show (if (bst F (m + 1)).1 < F (m + 1) then (F (m + 1), m + 1) else bst F (m + 1)).2 < m + 2
    split
    · show m + 1 < m + 2
      omega
    · omega
theorem bC_b (G D : gx_S) (o : Nat) (h : oneP G o = true) : bC G D o < 10 := by
  unfold bC cds
  rw [if_pos h]
  exact bst_lt _ (by decide)
theorem bI_01 (G D : gx_S) (o : Nat) : bI G D o = 0 ∨ bI G D o = 1 := by
  unfold bI
  split
  · exact Or.inr rfl
  · exact Or.inl rfl
theorem wD_tk {G D : gx_S} (hG : wG G) (hw : wD G D) (o : Nat) : wD G (tk G D o) := by
  have e1 : ∀ k, wh (tk G D o) k = wh D k := fun k => by unfold wh; rw [tk_2]
  have e2 : ∀ u k, ow (tk G D o) u k = ow D u k := fun u k => by unfold ow; rw [tk_2]
  refine ⟨fun j hj => ⟨?_, ?_, ?_⟩, fun k hk => ?_, fun u hu => ?_⟩
  · rw [tk_1]
    unfold bP
    split
    · exact tm_b _ _ (bC_b G D o) _
    · exact (hw.1 j hj).1
  · rw [tk_2]; exact (hw.1 j hj).2.1
  · rw [tk_3]
    by_cases z : j = o
    · subst z
      rw [if_pos rfl]
      unfold bI
      split
      · rename_i y; exact Or.inr ⟨rfl, y.1⟩
      · exact Or.inl rfl
    · rw [if_neg z]; exact (hw.1 j hj).2.2
  · rw [e1]; exact hw.2.1 k hk
  · have : cnt G (tk G D o) u = cnt G D u := by
      unfold cnt cu
      rw [show ow (tk G D o) u = ow D u from funext (e2 u)]
    rw [this]; exact hw.2.2 u hu
theorem x_look_82 {r : Nat} {G D S U : gx_S} {o : Nat} (h : pX r G D S) (hw : wD G D) (hr : r < 5) (ho : o < 6) (hk : ¬ G 2 o = 2) (f : fB S U) (hL : oL G D o U) (h11 : U 41 11 = bF G D o) (h12 : U 41 12 = 0) (hc : ∀ k, k < nP G → ow D o k = true → U 45 (cu D o k) = tm (oneP G o) (cnt G D o) (bC G D o) (cu D o k)) : gt (m_Bests_look_82 r (nn o) (G 2 o) U) fun T => fB S T ∧ oL G D o T ∧ T 41 11 = bG G D o ∧ T 41 12 = bI G D o ∧ ∀ k, k < nP G → ow D o k = true → T 45 (cu D o k) = bP G D o k := by
  have p := pX_f h hr f
  have v := p.2.2.1.1
  unfold m_Bests_look_82
  by_cases q : G 2 o = 4
  · rw [if_pos q]
    simp (disch := omega) only [ck_n, nn_c, v, h11]
    by_cases y : bF G D o ≤ G 3 o
    · rw [if_pos y]
      have y' : G 2 o = 4 ∧ ¬ G 3 o < bF G D o := ⟨q, by lia⟩
      have y2 : ¬ (G 2 o = 4 ∧ G 3 o < bF G D o) := fun z => y'.2 z.2
      unfold m_Bests_look_109
      rw [bz_0]
      simp only [let_s]
      rw [gx_st_eq, if_pos rfl]
      have f1 : fB S (gx_st U 41 12 0) := fB_st f (by omega) (by omega)
      refine gt_cp (x_listShops (pX_f h hr f1) hw hr ho) (fun T hT => gt_some ?_)
      obtain ⟨t1, t2, t3, t4⟩ := hT
      refine ⟨fB_st (fB_t f1 t1) (by omega) (by omega), ⟨?_, fun k h1 h2 => ?_⟩, ?_, ?_, fun k h1 h2 => ?_⟩
      · rw [gx_st_j _ _ _ (by omega)]; exact t2.1
      · rw [gx_st_q _ _ _ _ (by omega), gx_st_q _ _ _ _ (by omega)]; exact t2.2 k h1 h2
      · rw [gx_st_eq]
        unfold bG
        rw [if_pos y']
      · rw [gx_st_j _ _ _ (by omega), t4 12 (by omega), gx_st_eq]
        unfold bI
        rw [if_neg y2]
      · rw [gx_st_q _ _ _ _ (by omega), t3 k h1 h2]
        unfold bP
        rw [if_neg (fun z => z.2.2.2 y')]
    · rw [if_neg y]
      have y' : ¬ (G 2 o = 4 ∧ ¬ G 3 o < bF G D o) := fun z => z.2 (by lia)
      have y2 : G 2 o = 4 ∧ G 3 o < bF G D o := ⟨q, by lia⟩
      unfold m_Bests_look_109
      rw [bz_1]
      simp only [let_s]
      rw [gx_st_eq, if_neg (by decide)]
      refine gt_some ⟨fB_st f (by omega) (by omega), ⟨?_, fun k h1 h2 => ?_⟩, ?_, ?_, fun k h1 h2 => ?_⟩
      · rw [gx_st_j _ _ _ (by omega)]; exact hL.1
      · rw [gx_st_q _ _ _ _ (by omega), gx_st_q _ _ _ _ (by omega)]; exact hL.2 k h1 h2
      · rw [gx_st_j _ _ _ (by omega), h11]
        unfold bG
        rw [if_neg y']
      · rw [gx_st_eq]
        unfold bI
        rw [if_pos y2]
      · rw [gx_st_q _ _ _ _ (by omega), hc k h1 h2]
        unfold bP
        rw [if_pos ⟨h1, h2, hk, y'⟩]
  · rw [if_neg q]
    have y' : ¬ (G 2 o = 4 ∧ ¬ G 3 o < bF G D o) := fun z => q z.1
    refine gt_some ⟨f, hL, ?_, ?_, fun k h1 h2 => ?_⟩
    · rw [h11]
      unfold bG
      rw [if_neg y']
    · rw [h12]
      unfold bI
      rw [if_neg (fun z => q z.1)]
    · rw [hc k h1 h2]
      unfold bP
      rw [if_pos ⟨h1, h2, hk, y'⟩]
theorem fR_fB {S T : gx_S} (h : fR 0 S T) : fB S T := fun q j hq => h q j (by omega) (by omega) (by omega) (by omega) (by omega) (by omega) (by omega) (by omega)
theorem x_look {r : Nat} {G D S : gx_S} {o : Nat} (h : pX r G D S) (hw : wD G D) (hr : r < 5) (ho : o < 6) : gt (m_Bests_look r (nn o) S) fun T => fB S T ∧ oL G D o T ∧ T 41 11 = bG G D o ∧ T 41 12 = bI G D o ∧ ∀ k, k < nP G → ow D o k = true → T 45 (cu D o k) = bP G D o k := by
  have hG := h.1
  have h3 := hw.2.2 o ho
  unfold m_Bests_look
  refine gt_cp (x_listShops h hw hr ho) (fun S2 hS2 => ?_)
  obtain ⟨f2, L2, c2, _⟩ := hS2
  have p2 := pX_f h hr f2
  have v2 := p2.2.2.1.1
  simp (disch := omega) only [ck_n, nn_c, let_s, v2]
  have f4 : fB S (gx_st S2 41 12 0) := fB_st f2 (by omega) (by omega)
  have p4 := pX_f h hr f4
  by_cases q2 : G 2 o = 2
  · rw [if_pos q2, x_profitOf p4 ho, cp_s]
    have y' : ¬ (G 2 o = 4 ∧ ¬ G 3 o < bF G D o) := fun z => absurd (q2.symm.trans z.1) (by decide)
    refine gt_some ⟨fB_st f4 (by omega) (by omega), ⟨?_, fun k h1 h2 => ?_⟩, ?_, ?_, fun k h1 h2 => ?_⟩
    · rw [gx_st_j _ _ _ (by omega), gx_st_j _ _ _ (by omega)]; exact L2.1
    · simp (disch := omega) only [gx_st_q]
      exact L2.2 k h1 h2
    · rw [gx_st_eq]
      unfold bG
      rw [if_neg y']
      unfold bF
      rw [if_pos q2]
    · rw [gx_st_j _ _ _ (by omega), gx_st_eq]
      unfold bI
      rw [if_neg (fun z => absurd (q2.symm.trans z.1) (by decide))]
    · simp (disch := omega) only [gx_st_q]
      rw [c2 k h1 h2]
      unfold bP
      rw [if_neg (fun z => z.2.2.1 q2)]
  · rw [if_neg q2]
    have e5 : gx_st (gx_st S2 41 12 0) 41 11 0 41 5 = nn (cnt G D o) := by
      rw [gx_st_j _ _ _ (by omega), gx_st_j _ _ _ (by omega)]; exact L2.1
    have f6 : fB S (gx_st (gx_st S2 41 12 0) 41 11 0) := fB_st f4 (by omega) (by omega)
    rw [e5]
    by_cases q0 : cnt G D o = 0
    · rw [if_pos (by rw [q0]; decide)]
      refine x_look_82 h hw hr ho q2 f6 ⟨e5, fun k h1 h2 => ?_⟩ ?_ ?_ (fun k h1 h2 => ?_)
      · simp (disch := omega) only [gx_st_q]
        exact L2.2 k h1 h2
      · rw [gx_st_eq]
        unfold bF
        rw [if_neg q2, if_pos q0]
      · rw [gx_st_j _ _ _ (by omega), gx_st_eq]
      · have := cn_lt (ow D o) h1 h2
        unfold cnt cu at q0
        omega
    · rw [if_neg (by rw [nn_0, nn_le (by omega) (by omega)]; omega)]
      have f8 : fB S (gx_st (gx_st (gx_st S2 41 12 0) 41 11 0) 41 11 (-1000000)) := fB_st f6 (by omega) (by omega)
      have p8 := pX_f h hr f8
      refine gt_cp (x_layOthers p8 hr o) (fun S11 hS11 => ?_)
      obtain ⟨g1, g2⟩ := hS11
      have f11 : fB S S11 := fB_t f8 (fun q j hq => g1 q j (by omega) (by omega) (by omega))
      have p11 := pX_f h hr f11
      have L11 : oL G D o S11 := by
        refine ⟨?_, fun k h1 h2 => ?_⟩
        · rw [g1 _ _ (by omega) (by omega) (by omega), gx_st_j _ _ _ (by omega)]; exact e5
        · rw [g1 _ _ (by omega) (by omega) (by omega), g1 _ _ (by omega) (by omega) (by omega)]
          simp (disch := omega) only [gx_st_q]
          exact L2.2 k h1 h2
      have e11 : S11 41 11 = -1000000 := by rw [g1 _ _ (by omega) (by omega) (by omega), gx_st_eq]
      have e12 : S11 41 12 = 0 := by rw [g1 _ _ (by omega) (by omega) (by omega), gx_st_j _ _ _ (by omega), gx_st_j _ _ _ (by omega), gx_st_eq]
      by_cases q1 : G 2 o = 1 ∨ G 2 o = 4
      · have hone : oneP G o = true := by
          unfold oneP
          rcases q1 with q | q <;> simp [q]
        have main : gt (m_Bests_look_70 r (nn o) (G 2 o) S11) fun T => fB S T ∧ oL G D o T ∧ T 41 11 = bG G D o ∧ T 41 12 = bI G D o ∧ ∀ k, k < nP G → ow D o k = true → T 45 (cu D o k) = bP G D o k := by
          unfold m_Bests_look_70
          refine gt_cp (x_tryOnePrice ho hG hw p11.2.2.1 L11 (fun τ => lv_0 hG g2 τ) e11) (fun T hT => ?_)
          obtain ⟨t1, t2⟩ := hT
          refine x_look_82 h hw hr ho q2 (fB_t f11 (fR_fB t1)) (fR_oL t1 L11) ?_ ?_ (fun k h1 h2 => ?_)
          · rw [t2.1]
            unfold bF cds
            rw [if_neg q2, if_neg q0, hone, if_pos rfl]
          · rw [t1 41 12 (by omega) (by omega) (by omega) (by omega) (by omega) (by omega) (by omega) (by omega)]; exact e12
          · rw [t2.2 (by decide) _ (cu_lt h1 h2)]
            unfold bC cds
            rw [hone, if_pos rfl]
        by_cases qa : G 2 o = 1
        · rw [if_pos qa]; exact main
        · rw [if_neg qa, if_pos (q1.resolve_left qa)]; exact main
      · rw [if_neg (fun z => q1 (Or.inl z)), if_neg (fun z => q1 (Or.inr z))]
        have hone : oneP G o = false := by
          unfold oneP
          simp only [Bool.or_eq_false_iff, decide_eq_false_iff_not]
          exact ⟨fun z => q1 (Or.inl z), fun z => q1 (Or.inr z)⟩
        have he : 0 + 10 ^ (cnt G D o - 1 + 1) = cds G D o := by
          unfold cds
          rw [hone, if_neg (by decide), Nat.zero_add, show cnt G D o - 1 + 1 = cnt G D o by omega]
        refine gt_cp (x_tryPrices ho hG hw (cnt G D o - 1) 0 5 (fun _ => 0) 0 S11 (by omega) (by omega) (fun _ => nn_b (k := 0) (b := 9) (by omega) (by decide)) p11.2.2.1 L11 (lv_0 hG g2 _) (fun i hi => absurd hi (by omega)) (fun x _ _ i hi => absurd hi (by omega)) ⟨0, rfl⟩ ⟨e11, fun z => absurd z (by omega)⟩) (fun T hT => ?_)
        rw [he] at hT
        obtain ⟨t1, t2⟩ := hT
        refine x_look_82 h hw hr ho q2 (fB_t f11 (fR_fB t1)) (fR_oL t1 L11) ?_ ?_ (fun k h1 h2 => ?_)
        · rw [t2.1]
          unfold bF
          rw [if_neg q2, if_neg q0, hone]
        · rw [t1 41 12 (by omega) (by omega) (by omega) (by omega) (by omega) (by omega) (by omega) (by omega)]; exact e12
        · rw [t2.2 (by rw [← he, Nat.zero_add]; exact Nat.pow_pos (by decide)) _ (cu_lt h1 h2)]
          unfold bC
          rw [hone]
theorem sm_lv {h f : Nat → Int32} {p : Nat → Bool} : ∀ {n : Nat}, (∀ k, k < n → p k = true → h (cn p k) = f k) → sm h (cn p n) = sm (fun k => if p k = true then f k else 0) n
  | 0, _ => rfl
  | n + 1, e => by
    have ih := sm_lv (h := h) (f := f) (p := p) (n := n) (fun k hk hp => e k (by omega) hp)
    by_cases q : p n = true
    · show sm h (cn p n + (if p n then 1 else 0)) = sm _ n + (if p n = true then f n else 0)
      rw [if_pos q, if_pos q, ← ih, ← e n (by omega) q]
      rfl
    · show sm h (cn p n + (if p n then 1 else 0)) = sm _ n + (if p n = true then f n else 0)
      rw [if_neg q, if_neg q, Int32.add_zero]
      exact ih
theorem x_take {r : Nat} {G D S : gx_S} {o : Nat} (h : pX r G D S) (hw : wD G D) (hr : r < 5) (ho : o < 6) (hL : oL G D o S) (h12 : S 41 12 = bI G D o) (hc : ∀ k, k < nP G → ow D o k = true → S 45 (cu D o k) = bP G D o k) : gt (m_Bests_take r (nn o) S) fun t => t.1 = nch G D o ∧ fD r S t.2 ∧ vD r (tk G D o) t.2 := by
  have hP := (wG_P h.1).2
  have h3 := hw.2.2 o ho
  have d : ∀ i j, 1 ≤ i → i ≤ 3 → j < 6 → S (21 + 4 * r + i) j = D i j := h.2.2.2
  have hno : ∀ k, ¬ (k < nP G ∧ ow D o k = true) → bP G D o k = D 1 k := fun k hk => by
    unfold bP
    rw [if_neg (fun z => hk ⟨z.1, z.2.1⟩)]
  have hsum : sm (fun i => if D 1 (S 42 i).toNatClampNeg = S 45 i then 0 else 1) (cnt G D o) = sm (fun k => if D 1 k = bP G D o k then 0 else 1) (nP G) := by
    have := sm_lv (p := ow D o) (n := nP G) (h := fun i => if D 1 (S 42 i).toNatClampNeg = S 45 i then 0 else 1) (f := fun k => if D 1 k = bP G D o k then 0 else 1) (fun k hk hp => by
      have e1 := (hL.2 k hk hp).1
      have e2 := hc k hk hp
      unfold cu at e1 e2
      rw [e1, e2, nn_c (by omega)])
    unfold cnt cu
    rw [this]
    refine sm_cg (fun k hk => ?_)
    by_cases q : ow D o k = true
    · rw [if_pos q]
    · rw [if_neg q, hno k (fun z => q z.2), if_pos rfl]
  unfold m_Bests_take
  refine gt_for (cnt G D o) (fun i t => t.1 = sm (fun i => if D 1 (S 42 i).toNatClampNeg = S 45 i then 0 else 1) i ∧ t.2.1 = nn i ∧ (∀ q j, q ≠ 21 + 4 * r + 1 → t.2.2 q j = S q j) ∧ ∀ k, k < 6 → t.2.2 (21 + 4 * r + 1) k = if k < nP G ∧ ow D o k = true ∧ cu D o k < i then bP G D o k else D 1 k) ?_ ?_ 0 5000 _ (by omega) ⟨rfl, rfl, fun _ _ _ => rfl, fun k hk => by rw [if_neg (fun z => absurd z.2.2 (by omega))]; exact d 1 k (by omega) (by omega) hk⟩ (by omega)
  · rintro i ⟨x3, x4, T⟩ kk hi ⟨rfl, rfl, f, g⟩ hkk
    simp only at f g
    simp only [m_Bests_take_5, m_Bests_take_58]
    obtain ⟨k, hk, hp, hck⟩ := cn_at (ow D o) (n := nP G) hi
    have hck' : cu D o k = i := hck
    have e5 : T 41 5 = nn (cnt G D o) := by rw [f _ _ (by omega)]; exact hL.1
    have e42' : S 42 i = nn k := by rw [← hck']; exact (hL.2 k hk hp).1
    have e45' : S 45 i = bP G D o k := by rw [← hck']; exact hc k hk hp
    have e42 : T 42 i = nn k := by rw [f _ _ (by omega)]; exact e42'
    have e45 : T 45 i = bP G D o k := by rw [f _ _ (by omega)]; exact e45'
    have epr : T (21 + 4 * r + 1) k = D 1 k := by rw [g k (by omega), if_neg (by omega)]
    have es : sm (fun i => if D 1 (S 42 i).toNatClampNeg = S 45 i then 0 else 1) (i + 1) = sm (fun i => if D 1 (S 42 i).toNatClampNeg = S 45 i then 0 else 1) i + (if D 1 k = bP G D o k then 0 else 1) := by
      show _ + (if D 1 (S 42 i).toNatClampNeg = S 45 i then 0 else 1) = _
      rw [e42', e45', nn_c (by omega)]
    simp (disch := omega) only [e5, nn_le, nn_c, ck_n, nn_s, e42, e45, epr, let_s]
    rw [if_neg (by omega)]
    have hstep : ∀ x, x < 6 → x ≠ k → (if x < nP G ∧ ow D o x = true ∧ cu D o x < i + 1 then bP G D o x else D 1 x) = (if x < nP G ∧ ow D o x = true ∧ cu D o x < i then bP G D o x else D 1 x) := fun x hx hne => by
      by_cases z : x < nP G ∧ ow D o x = true ∧ cu D o x < i
      · rw [if_pos z, if_pos ⟨z.1, z.2.1, by omega⟩]
      · rw [if_neg z, if_neg]
        rintro ⟨z1, z2, z3⟩
        have : cu D o x = i := by
          have : ¬ cu D o x < i := fun y => z ⟨z1, z2, y⟩
          omega
        exact hne (cn_inj (ow D o) z2 hp (by show cu D o x = cu D o k; omega))
    by_cases q : D 1 k = bP G D o k
    · rw [if_pos q] at es
      rw [if_pos q]
      refine hkk _ ⟨by rw [es, Int32.add_zero], rfl, f, fun x hx => ?_⟩
      by_cases z : x = k
      · subst z
        rw [if_pos ⟨hk, hp, by omega⟩]
        simp only
        rw [epr]; exact q
      · rw [hstep x hx z]; exact g x hx
    · rw [if_neg q] at es
      rw [if_neg q]
      refine hkk _ ⟨es.symm, rfl, fun q j hq => ?_, fun x hx => ?_⟩
      · simp only
        rw [gx_st_q _ _ _ _ hq]
        exact f q j hq
      · by_cases z : x = k
        · subst z
          rw [if_pos ⟨hk, hp, by omega⟩]
          simp only [gx_st_eq]
        · rw [hstep x hx z]
          simp only
          rw [gx_st_j _ _ _ z]
          exact g x hx
  · rintro ⟨x3, x4, T⟩ kk ⟨rfl, rfl, f, g⟩
    simp only at f g
    simp only [m_Bests_take_5]
    have e5 : T 41 5 = nn (cnt G D o) := by rw [f _ _ (by omega)]; exact hL.1
    have e12 : T 41 12 = bI G D o := by rw [f _ _ (by omega)]; exact h12
    have e3 : T (21 + 4 * r + 3) o = D 3 o := by rw [f _ _ (by omega)]; exact d 3 o (by omega) (by omega) ho
    simp (disch := omega) only [e5, nn_le, nn_c, ck_n, e12, e3, let_s]
    rw [if_pos (by omega), hsum]
    have gv : ∀ k, k < 6 → T (21 + 4 * r + 1) k = bP G D o k := fun k hk => by
      rw [g k hk]
      by_cases z : k < nP G ∧ ow D o k = true
      · rw [if_pos ⟨z.1, z.2, cn_lt (ow D o) z.1 z.2⟩]
      · rw [if_neg (fun y => z ⟨y.1, y.2.1⟩), hno k z]
    have f2 : ∀ k, k < 6 → T (21 + 4 * r + 2) k = D 2 k := fun k hk => by rw [f _ _ (by omega)]; exact d 2 k (by omega) (by omega) hk
    have f3 : ∀ k, k < 6 → T (21 + 4 * r + 3) k = D 3 k := fun k hk => by rw [f _ _ (by omega)]; exact d 3 k (by omega) (by omega) hk
    by_cases q : D 3 o = bI G D o
    · rw [if_pos q]
      refine gt_some ⟨?_, fun q j hq => f q j (by omega), fun i j h1 h2 hj => ?_⟩
      · unfold nch
        rw [if_pos q, Int32.add_zero]
      · match i, h1, h2 with
        | 1, _, _ => rw [tk_1]; exact gv j hj
        | 2, _, _ => rw [tk_2]; exact f2 j hj
        | 3, _, _ =>
          rw [tk_3]
          by_cases z : j = o
          · subst z
            rw [if_pos rfl, ← q]; exact f3 j hj
          · rw [if_neg z]; exact f3 j hj
    · rw [if_neg q]
      refine gt_some ⟨?_, fun q j hq => ?_, fun i j h1 h2 hj => ?_⟩
      · unfold nch
        rw [if_neg q]
      · simp only
        rw [gx_st_q _ _ _ _ (by omega)]; exact f q j (by omega)
      · match i, h1, h2 with
        | 1, _, _ =>
          rw [tk_1]
          simp only
          rw [gx_st_q _ _ _ _ (by omega)]; exact gv j hj
        | 2, _, _ =>
          rw [tk_2]
          simp only
          rw [gx_st_q _ _ _ _ (by omega)]; exact f2 j hj
        | 3, _, _ =>
          rw [tk_3]
          by_cases z : j = o
          · subst z
            simp only [gx_st_eq, nar_b (bI_01 G D j), ↓reduceIte]
          · rw [if_neg z]
            simp only
            rw [gx_st_j _ _ _ z]; exact f3 j hj

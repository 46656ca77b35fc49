/-! b11: rounds until they rest; what rests before and behind -/
def rnd (G : gx_S) : Nat → gx_S → Int32 × gx_S
  | 0, D => (0, D)
  | o + 1, D => ((rnd G o D).1 + nch G (rnd G o D).2 o, tk G (rnd G o D).2 o)
def stl (G : gx_S) : Nat → Nat → gx_S → Int32 × gx_S
  | 0, _, D => (-1, D)
  | f + 1, r, D => if (rnd G (nO G) D).1 = 0 then (nn r, (rnd G (nO G) D).2) else stl G f (r + 1) (rnd G (nO G) D).2
def ste (G D : gx_S) : Int32 × gx_S := stl G 20 0 D
theorem wD_rnd {G : gx_S} (hG : wG G) : ∀ (o : Nat) {D : gx_S}, wD G D → wD G (rnd G o D).2
  | 0, _, h => h
  | o + 1, _, h => wD_tk hG (wD_rnd hG o h) o
theorem wD_stl {G : gx_S} (hG : wG G) : ∀ (f r : Nat) {D : gx_S}, wD G D → wD G (stl G f r D).2
  | 0, _, _, h => h
  | f + 1, r, D, h => by
    unfold stl
    split
    · exact wD_rnd hG _ h
    · exact wD_stl hG f (r + 1) (wD_rnd hG _ h)
theorem wD_ste {G D : gx_S} (hG : wG G) (h : wD G D) : wD G (ste G D).2 := wD_stl hG 20 0 h
/-- all but a standing's rows and Bests' own are as they were -/
def fS (r : Nat) (S T : gx_S) : Prop := ∀ q j, (q < 41 ∨ 62 < q) → (q < 22 + 4 * r ∨ 24 + 4 * r < q) → T q j = S q j
theorem x_settle {r : Nat} {G D S : gx_S} (h : pX r G D S) (hw : wD G D) (hr : r < 5) : gt (m_Bests_settle r S) fun t => t.1 = (ste G D).1 ∧ fS r S t.2 ∧ vD r (ste G D).2 t.2 := by
  have hG := h.1
  obtain ⟨eO, hO⟩ := wG_O hG
  have hS := (wG_S hG).2
  have mk : ∀ D' T, fS r S T → vD r D' T → wD G D' → pX r G D' T := fun D' T f d w => ⟨hG, wD_0 w, vG_f h.2.2.1 hS (fun q j hq => f q j (by omega) (by omega)), d⟩
  unfold m_Bests_settle
  refine gt_for 20 (fun j t => t.1 = nn j ∧ ∃ D', stl G (20 - j) j D' = ste G D ∧ fS r S t.2 ∧ vD r D' t.2 ∧ wD G D') ?_ ?_ 0 5000 _ (by omega) ⟨rfl, D, rfl, fun _ _ _ _ => rfl, h.2.2.2, hw⟩ (by omega)
  · rintro j ⟨x, T⟩ k2 hj ⟨rfl, D', e, f, d, w⟩ hk2
    simp only at e f d
    simp only [m_Bests_settle_2]
    rw [if_neg (by rw [show (20 : Int32) = nn 20 from rfl, nn_le (by omega) (by omega)]; omega)]
    refine gt_for (nO G) (fun i t => t.1 = (rnd G i D').1 ∧ t.2.1 = nn i ∧ fS r S t.2.2 ∧ vD r (rnd G i D').2 t.2.2) ?_ ?_ 0 5000 _ (by omega) ?_ (by omega)
    · rintro i ⟨x3, x4, U⟩ k hi ⟨rfl, rfl, f, d⟩ hk
      simp only at f d
      have wi := wD_rnd hG i w
      have p := mk _ _ f d wi
      simp only [m_Bests_settle_13]
      have e1 : U 1 0 = nn (nO G) := by rw [p.2.2.1.1 _ _ (by omega) (by omega), eO]
      simp (disch := omega) only [e1, nn_le, nn_s]
      rw [if_neg (by omega)]
      refine gt_cp (x_look p wi hr (o := i) (by omega)) (fun V hV => ?_)
      obtain ⟨v1, v2, _, v4, v5⟩ := hV
      refine gt_cs (x_take (pX_f p hr v1) wi hr (o := i) (by omega) v2 v4 v5) (fun a W hW => ?_)
      obtain ⟨w1, w2, w3⟩ := hW
      simp only at w1 w2 w3
      refine hk _ ⟨by rw [w1]; rfl, rfl, fun q j h1 h2 => ?_, w3⟩
      simp only
      rw [w2 q j h2, v1 q j h1]
      exact f q j h1 h2
    · rintro ⟨x3, x4, U⟩ k ⟨rfl, rfl, f, d⟩
      simp only at f d
      have wi := wD_rnd hG (nO G) w
      have p := mk _ _ f d wi
      simp only [m_Bests_settle_13]
      have e1 : U 1 0 = nn (nO G) := by rw [p.2.2.1.1 _ _ (by omega) (by omega), eO]
      simp (disch := omega) only [e1, nn_le, nn_s]
      rw [if_pos (by omega)]
      obtain ⟨m, hm⟩ : ∃ m, 20 - j = m + 1 := ⟨20 - j - 1, by omega⟩
      rw [hm] at e
      have e' : (if (rnd G (nO G) D').1 = 0 then (nn j, (rnd G (nO G) D').2) else stl G m (j + 1) (rnd G (nO G) D').2) = ste G D := e
      by_cases q : (rnd G (nO G) D').1 = 0
      · rw [if_pos q] at e' ⊢
        exact gt_some ⟨by rw [← e'], f, by rw [← e']; exact d⟩
      · rw [if_neg q] at e' ⊢
        refine hk2 _ ⟨rfl, _, ?_, f, d, wi⟩
        rw [show 20 - (j + 1) = m by omega]
        exact e'
    · exact ⟨rfl, rfl, f, d⟩
  · rintro ⟨x, T⟩ k2 ⟨rfl, D', e, f, d, w⟩
    simp only at e f d
    simp only [m_Bests_settle_2]
    rw [if_pos (by decide)]
    have e' : ((-1 : Int32), D') = ste G D := e
    exact gt_some ⟨by rw [← e'], f, by rw [← e']; exact d⟩
/-- counts when b's shops are a's -/
theorem ow_gv {G D : gx_S} {a b : Nat} (ha : a < 6) (hb : b < 6) (hab : a ≠ b) {o : Nat} (ho : o < 2147483648) {k : Nat} (hk : k < nP G) : ow (gv G D a b) o k = if o = a then ow D a k || ow D b k else if o = b then false else ow D o k := by
  unfold ow
  by_cases q : D 2 k = nn b
  · have e : gv G D a b 2 k = nn a := by
      unfold gv
      rw [if_pos ⟨rfl, hk, q⟩]
    rw [e, q]
    by_cases z : o = a
    · subst z; simp
    · rw [if_neg z]
      have : ¬ nn a = nn o := by rw [nn_eq (by omega) ho]; omega
      by_cases y : o = b
      · subst y; simp [this]
      · rw [if_neg y]
        have : ¬ nn b = nn o := by rw [nn_eq (by omega) ho]; omega
        simp [*]
  · have e : gv G D a b 2 k = D 2 k := by
      unfold gv
      rw [if_neg (fun z => q z.2.2)]
    rw [e]
    by_cases z : o = a
    · subst z; simp [q]
    · rw [if_neg z]
      by_cases y : o = b
      · subst y; simp [q]
      · rw [if_neg y]
theorem cn_cg {p p' : Nat → Bool} : ∀ {n : Nat}, (∀ k, k < n → p k = p' k) → cn p n = cn p' n
  | 0, _ => rfl
  | n + 1, h => by
    show cn p n + (if p n then 1 else 0) = cn p' n + (if p' n then 1 else 0)
    rw [cn_cg (fun k hk => h k (by omega)), h n (by omega)]
theorem cn_or {p p' : Nat → Bool} : ∀ {n : Nat}, (∀ k, k < n → ¬ (p k = true ∧ p' k = true)) → cn (fun k => p k || p' k) n = cn p n + cn p' n
  | 0, _ => rfl
  | n + 1, h => by
    show cn _ n + (if (p n || p' n) = true then 1 else 0) = cn p n + (if p n then 1 else 0) + (cn p' n + (if p' n then 1 else 0))
    rw [cn_or (fun k hk => h k (by omega))]
    have := h n (by omega)
    cases h1 : p n <;> cases h2 : p' n <;> simp_all <;> omega
theorem cn_f : ∀ {n : Nat}, cn (fun _ => false) n = 0
  | 0 => rfl
  | n + 1 => by
    show cn (fun _ => false) n + (if false = true then 1 else 0) = 0
    rw [cn_f]; rfl
theorem ow_2 {D : gx_S} {a b k : Nat} (ha : a < 2147483648) (hb : b < 2147483648) (hab : a ≠ b) : ¬ (ow D a k = true ∧ ow D b k = true) := by
  unfold ow
  simp only [decide_eq_true_eq]
  rintro ⟨h1, h2⟩
  rw [h1, nn_eq ha hb] at h2
  exact hab h2
theorem cnt_gv {G D : gx_S} {a b : Nat} (ha : a < 6) (hb : b < 6) (hab : a ≠ b) {o : Nat} (ho : o < 2147483648) : cnt G (gv G D a b) o = if o = a then cnt G D a + cnt G D b else if o = b then 0 else cnt G D o := by
  unfold cnt cu
  rw [cn_cg (fun k hk => ow_gv ha hb hab ho hk)]
  by_cases z : o = a
  · simp only [if_pos z]
    exact cn_or (fun k hk => ow_2 (by omega) (by omega) hab)
  · simp only [if_neg z]
    by_cases y : o = b
    · simp only [if_pos y]
      exact cn_f
    · simp only [if_neg y]
theorem cnt_big {G D : gx_S} (hG : wG G) (h0 : w0 D) {o : Nat} (ho : 6 ≤ o) (ho2 : o < 2147483648) : cnt G D o = 0 := by
  have hP := (wG_P hG).2
  unfold cnt cu
  rw [cn_cg (p' := fun _ => false) (fun k hk => ?_), cn_f]
  obtain ⟨e, h⟩ := w0_w h0 (j := k) (by omega)
  unfold ow
  rw [e, decide_eq_false_iff_not, nn_eq (by omega) ho2]
  omega

theorem wh_gv {G D : gx_S} {a b k : Nat} (ha : a < 6) : wh (gv G D a b) k = if k < nP G ∧ D 2 k = nn b then a else wh D k := by
  unfold wh gv
  by_cases q : k < nP G ∧ D 2 k = nn b
  · rw [if_pos ⟨rfl, q⟩, if_pos q, nn_c (by omega)]
  · rw [if_neg (fun z => q z.2), if_neg q]
theorem wD_gv {G D : gx_S} (hw : wD G D) {a b : Nat} (hO : nO G ≤ 6) (ha : a < nO G) (hb : b < nO G) (hab : a ≠ b) (hc : cnt G D a + cnt G D b ≤ 3) : wD G (gv G D a b) := by
  refine ⟨fun j hj => ⟨?_, ?_, ?_⟩, fun k hk => ?_, fun o ho => ?_⟩
  · have : gv G D a b 1 j = D 1 j := by simp [gv]
    rw [this]; exact (hw.1 j hj).1
  · unfold gv
    split
    · exact nn_b (b := 5) (by omega) (by decide)
    · exact (hw.1 j hj).2.1
  · have : gv G D a b 3 j = D 3 j := by simp [gv]
    rw [this]; exact (hw.1 j hj).2.2
  · rw [wh_gv (by omega)]
    split
    · exact ha
    · exact hw.2.1 k hk
  · rw [cnt_gv (by omega) (by omega) hab (by omega)]
    split
    · exact hc
    · split
      · omega
      · exact hw.2.2 o ho

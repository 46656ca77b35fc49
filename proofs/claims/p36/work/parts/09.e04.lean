/-! e04: rounds by the law; what a rest is -/
theorem l_rest {G D R : gx_S} (h : LX G D R) : gt (r_rest R) fun t => ∃ r, t.1 = nn r ∧ ((r = 20 ∧ (ste G D).1 = -1) ∨ (r < 20 ∧ (ste G D).1 = nn r)) ∧ LX G (ste G D).2 t.2 := by
  have hG := h.1
  obtain ⟨eO, hO⟩ := wG_O hG
  unfold r_rest
  refine gt_for 20 (fun j t => t.1 = nn j ∧ t.2.2 = 2 * nO G * j ∧ ∃ D', stl G (20 - j) j D' = ste G D ∧ LX G D' t.2.1) ?_ ?_ 0 5000 _ (by omega) ⟨rfl, rfl, D, rfl, h⟩ (by omega)
  · rintro j ⟨x, T, c⟩ k2 hj ⟨ex, ec, D', e, hl⟩ hk2
    simp only at ex ec e hl
    subst ex
    simp only [r_rest_2]
    rw [if_neg (by rw [show (20 : Int32) = nn 20 from rfl, nn_le (by omega) (by omega)]; omega)]
    refine gt_for (nO G) (fun i t => t.1 = (rnd G i D').1 ∧ t.2.1 = nn i ∧ t.2.2.2 = 2 * nO G * j + 2 * i ∧ LX G (rnd G i D').2 t.2.2.1) ?_ ?_ 0 5000 _ (by omega) ?_ (by omega)
    · rintro i ⟨x3, x4, U, c'⟩ k hi ⟨e3, e4, e5, hu⟩ hk
      simp only at e3 e4 e5 hu
      subst e4
      have e0 : U 0 0 = nn (nO G) := hu.2.2.1.1
      simp only [r_rest_13, jk_0, jl_0]
      simp (disch := omega) only [e0, nn_le]
      rw [if_neg (by omega)]
      have hb : c' + 2 ≤ 240 := by
        have h1 : nO G * j ≤ 6 * 19 := Nat.mul_le_mul hO (by omega)
        have h2 : 2 * nO G * j = 2 * (nO G * j) := Nat.mul_assoc 2 (nO G) j
        omega
      unfold gy_lim
      rw [if_pos hb]
      refine gt_cs (l_turn hu hi) (fun v V hV => ?_)
      obtain ⟨v1, v2⟩ := hV
      simp only at v1 v2
      refine hk _ ⟨?_, by simp only; rw [jb_1], by simp only; omega, v2⟩
      simp only
      rw [e3, v1]; rfl
    · rintro ⟨x3, x4, U, c'⟩ k ⟨e3, e4, e5, hu⟩
      simp only at e3 e4 e5 hu
      subst e4
      have e0 : U 0 0 = nn (nO G) := hu.2.2.1.1
      simp only [r_rest_13, jk_0, jl_0]
      simp (disch := omega) only [e0, nn_le]
      rw [if_pos (by omega)]
      obtain ⟨m, hm⟩ : ∃ m, 20 - j = m + 1 := ⟨20 - j - 1, by omega⟩
      rw [hm] at e
      have e' : (if (rnd G (nO G) D').1 = 0 then (nn j, (rnd G (nO G) D').2) else stl G m (j + 1) (rnd G (nO G) D').2) = ste G D := e
      rw [e3]
      by_cases z : (rnd G (nO G) D').1 = 0
      · rw [if_pos z] at e' ⊢
        refine gt_some ⟨j, rfl, Or.inr ⟨hj, by rw [← e']⟩, by rw [← e']; exact hu⟩
      · rw [if_neg z] at e' ⊢
        refine hk2 _ ⟨by simp only; rw [jb_1], by simp only; rw [e5, Nat.mul_add (2 * nO G) j 1]; omega, _, ?_, hu⟩
        rw [show 20 - (j + 1) = m by omega]; exact e'
    · exact ⟨rfl, rfl, by show c = 2 * nO G * j + 2 * 0; omega, hl⟩
  · rintro ⟨x, T, c⟩ k2 ⟨ex, ec, D', e, hl⟩
    simp only at ex ec e hl
    subst ex
    simp only [r_rest_2]
    rw [if_pos (by decide)]
    rw [Nat.sub_self] at e
    have e' : ((-1 : Int32), D') = ste G D := e
    exact gt_some ⟨20, rfl, Or.inl ⟨rfl, by rw [← e']⟩, by rw [← e']; exact hl⟩
/-- a sum of noughts and ones -/
theorem sm_01 {f : Nat → Int32} : ∀ {n : Nat}, n < 1000 → (∀ j, j < n → f j = 0 ∨ f j = 1) → ∃ m, m ≤ n ∧ sm f n = nn m ∧ (m = 0 → ∀ j, j < n → f j = 0)
  | 0, _, _ => ⟨0, Nat.le_refl _, rfl, fun _ j hj => absurd hj (by omega)⟩
  | n + 1, h, hf => by
    obtain ⟨m, h1, h2, h3⟩ := sm_01 (n := n) (by omega) (fun j hj => hf j (by omega))
    have e : sm f (n + 1) = sm f n + f n := rfl
    rcases hf n (by omega) with z | z
    · refine ⟨m, by omega, by rw [e, h2, z, Int32.add_zero], fun hm j hj => ?_⟩
      by_cases y : j = n
      · subst y; exact z
      · exact h3 hm j (by omega)
    · exact ⟨m + 1, by omega, by rw [e, h2, z, nn_s], fun hm => absurd hm (by omega)⟩
theorem nch_n {G D : gx_S} (hG : wG G) (o : Nat) : ∃ m, m ≤ 7 ∧ nch G D o = nn m ∧ (m = 0 → tk G D o = D) := by
  have hP := (wG_P hG).2
  obtain ⟨m, h1, h2, h3⟩ := sm_01 (f := fun k => if D 1 k = bP G D o k then (0 : Int32) else 1) (n := nP G) (by omega) (fun j _ => by
    split
    · exact Or.inl rfl
    · exact Or.inr rfl)
  have ht : m = 0 → D 3 o = bI G D o → tk G D o = D := fun hm hi => by
    funext i j
    unfold tk
    by_cases z : i = 1
    · rw [if_pos z, z]
      by_cases y : j < nP G
      · have := h3 hm j y
        by_cases x : D 1 j = bP G D o j
        · exact x.symm
        · simp only [if_neg x] at this
          exact absurd this i10
      · unfold bP
        rw [if_neg (fun w => y w.1)]
    · rw [if_neg z]
      by_cases y : i = 3 ∧ j = o
      · rw [if_pos y, y.1, y.2]; exact hi.symm
      · rw [if_neg y]
  unfold nch
  rw [h2]
  by_cases z : D 3 o = bI G D o
  · rw [if_pos z, Int32.add_zero]
    exact ⟨m, by omega, rfl, fun hm => ht hm z⟩
  · rw [if_neg z, nn_s]
    exact ⟨m + 1, by omega, rfl, fun hm => absurd hm (by omega)⟩
theorem rnd_0 {G : gx_S} (hG : wG G) : ∀ (o : Nat) (D : gx_S), o < 1000 → ∃ m, m ≤ 7 * o ∧ (rnd G o D).1 = nn m ∧ (m = 0 → (rnd G o D).2 = D ∧ ∀ u, u < o → tk G D u = D)
  | 0, D, _ => ⟨0, Nat.le_refl _, rfl, fun _ => ⟨rfl, fun u hu => absurd hu (by omega)⟩⟩
  | o + 1, D, h => by
    obtain ⟨m, h1, h2, h3⟩ := rnd_0 hG o D (by omega)
    obtain ⟨m', g1, g2, g3⟩ := nch_n (D := (rnd G o D).2) hG o
    refine ⟨m + m', by omega, ?_, fun hm => ?_⟩
    · show (rnd G o D).1 + nch G (rnd G o D).2 o = _
      rw [h2, g2, nn_add]
    · obtain ⟨e1, e2⟩ := h3 (by omega)
      have e3 := g3 (by omega)
      rw [e1] at e3
      refine ⟨?_, fun u hu => ?_⟩
      · show tk G (rnd G o D).2 o = D
        rw [e1]; exact e3
      · by_cases z : u = o
        · subst z; exact e3
        · exact e2 u (by omega)
/-- behind a rest nobody changes anything -/
theorem stl_r {G : gx_S} (hG : wG G) (hO : nO G ≤ 6) : ∀ (f r : Nat) (D : gx_S), ¬ (stl G f r D).1 = -1 → (∀ u, u < nO G → tk G (stl G f r D).2 u = (stl G f r D).2) ∧ (rnd G (nO G) (stl G f r D).2).1 = 0
  | 0, _, _, h => absurd rfl h
  | f + 1, r, D, h => by
    have e : stl G (f + 1) r D = if (rnd G (nO G) D).1 = 0 then (nn r, (rnd G (nO G) D).2) else stl G f (r + 1) (rnd G (nO G) D).2 := rfl
    by_cases z : (rnd G (nO G) D).1 = 0
    · rw [if_pos z] at e
      rw [e]
      obtain ⟨m, h1, h2, h3⟩ := rnd_0 hG (nO G) D (by omega)
      have hm : m = 0 := by
        rw [h2, nn_0, nn_eq (by omega) (by omega)] at z
        exact z
      obtain ⟨e1, e2⟩ := h3 hm
      simp only
      rw [e1]
      exact ⟨e2, z⟩
    · rw [if_neg z] at e
      rw [e] at h ⊢
      exact stl_r hG hO f (r + 1) _ h
theorem ste_r {G D : gx_S} (hG : wG G) (h : ¬ (ste G D).1 = -1) : (∀ u, u < nO G → tk G (ste G D).2 u = (ste G D).2) ∧ ste G (ste G D).2 = (0, (ste G D).2) := by
  have hO := (wG_O hG).2
  obtain ⟨h1, h2⟩ := stl_r hG hO 20 0 D h
  refine ⟨h1, ?_⟩
  obtain ⟨E, hE⟩ : ∃ E, E = (ste G D).2 := ⟨_, rfl⟩
  have h2' : (rnd G (nO G) E).1 = 0 := by rw [hE]; exact h2
  have e2 : (rnd G (nO G) E).2 = E := by
    obtain ⟨m, a1, a2, a3⟩ := rnd_0 hG (nO G) E (by omega)
    have hm : m = 0 := by
      rw [a2, nn_0, nn_eq (by omega) (by omega)] at h2'
      exact h2'
    exact (a3 hm).1
  rw [← hE]
  show (if (rnd G (nO G) E).1 = 0 then (nn 0, (rnd G (nO G) E).2) else stl G 19 1 (rnd G (nO G) E).2) = (0, E)
  rw [if_pos h2', e2]; rfl
theorem bst_v (F : Nat → Int32) : ∀ m, (bst F m).1 = -1000000 ∨ (bst F m).1 = F (bst F m).2
  | 0 => Or.inl rfl
  | m + 1 => by
    show (if (bst F m).1 < F m then (F m, m) else bst F m).1 = -1000000 ∨ (if (bst F m).1 < F m then (F m, m) else bst F m).1 = F (if (bst F m).1 < F m then (F m, m) else bst F m).2
    split
    · exact Or.inr rfl
    · exact bst_v F m
theorem bst_hi {G D : gx_S} (hG : wG G) (hw : wD G D) (o : Nat) : ∀ m, m + 1 ≤ cds G D o → (-1000000 : Int32) < (bst (fF G D o (oneP G o)) (m + 1)).1 := fun m hm => by
  have hb := fF_b hG hw o (oneP G o) (m := m) (fun y => by
    unfold cds at hm
    rw [if_pos y] at hm
    omega)
  show (-1000000 : Int32) < (if (bst (fF G D o (oneP G o)) m).1 < fF G D o (oneP G o) m then (fF G D o (oneP G o) m, m) else bst (fF G D o (oneP G o)) m).1
  split
  · exact hb
  · rename_i z
    show (-1000000 : Int32) < (bst (fF G D o (oneP G o)) m).1
    lia
/-- an owner none of whose shops anyone goes to -/
theorem pro_none {G D : gx_S} {o : Nat} (h : ∀ k, k < nP G → D 2 k = nn o → opn G D k = false) (hP : nP G ≤ 6) : pro G D o = 0 := by
  unfold pro tot
  rw [sm_cg (g := fun _ => 0) (fun s hs => ?_), sm_0]
  rw [sx_d]
  rcases cho_n G D s (-1) with e | ⟨i, hi, e, ho⟩
  · rw [if_pos e]
  · rw [e, if_neg (nn_m1 (by omega)), nn_c (by omega)]
    unfold gPr
    by_cases z : D 2 i = nn o
    · have := h i hi z
      unfold opx at ho
      rw [this] at ho
      simp at ho
    · rw [if_neg z, Int32.mul_zero]
/-- the profit by its best -/
theorem pro_tk {G D : gx_S} (hG : wG G) (hw : wD G D) {o : Nat} (ho : o < 6) : pro G (tk G D o) o = bG G D o := by
  have hP := (wG_P hG).2
  have wtk : ∀ k, wh (tk G D o) k = wh D k := fun k => by unfold wh; rw [tk_2]
  by_cases y2 : G 2 o = 2
  · have hI : bI G D o = 0 := by
      unfold bI
      rw [if_neg (fun z => by rw [y2] at z; exact absurd z.1 (by decide))]
    have h3 : D 3 o = 0 := by
      rcases (hw.1 o ho).2.2 with e | e
      · exact e
      · rw [y2] at e; exact absurd e.2 (by decide)
    have e : tk G D o = D := by
      funext i j
      unfold tk
      by_cases z : i = 1
      · rw [if_pos z, z]
        unfold bP
        rw [if_neg (fun w => w.2.2.1 y2)]
      · rw [if_neg z]
        by_cases y : i = 3 ∧ j = o
        · rw [if_pos y, y.1, y.2, h3, hI]
        · rw [if_neg y]
    rw [e]
    unfold bG bF
    rw [if_neg (fun z => by rw [y2] at z; exact absurd z.1 (by decide)), if_pos y2]
  · by_cases c0 : cnt G D o = 0
    · have e1 : bF G D o = 0 := by unfold bF; rw [if_neg y2, if_pos c0]
      have e2 : bG G D o = 0 := by
        unfold bG
        rw [e1]
        split <;> rfl
      rw [e2]
      refine pro_none (fun k hk z => ?_) hP
      exfalso
      rw [tk_2] at z
      have := cu_lt (G := G) (D := D) (o := o) hk (by unfold ow; rw [decide_eq_true_eq]; exact z)
      omega
    · have eF : bF G D o = (bst (fF G D o (oneP G o)) (cds G D o)).1 := by unfold bF; rw [if_neg y2, if_neg c0]
      by_cases q : G 2 o = 4 ∧ ¬ G 3 o < bF G D o
      · have e2 : bG G D o = 0 := by unfold bG; rw [if_pos q]
        have hI : bI G D o = 0 := by unfold bI; rw [if_neg (fun z => q.2 z.2)]
        rw [e2]
        refine pro_none (fun k hk z => ?_) hP
        rw [tk_2] at z
        have hwo : wh D k = o := by
          unfold wh
          rw [z, nn_c (by omega)]
        unfold opn
        rw [wtk, hwo, q.1, tk_3, if_pos rfl, hI]
        rfl
      · have e2 : bG G D o = bF G D o := by unfold bG; rw [if_neg q]
        have e : pro G (tk G D o) o = pro G (dq G D o (tm (oneP G o) (cnt G D o) (bC G D o))) o := by
          have h1 : ∀ k, tk G D o 1 k = dq G D o (tm (oneP G o) (cnt G D o) (bC G D o)) 1 k := fun k => by
            rw [tk_1, dq_1]
            unfold bP
            by_cases z : k < nP G ∧ ow D o k = true
            · rw [if_pos ⟨z.1, z.2, y2, q⟩, if_pos z]
            · rw [if_neg (fun w => z ⟨w.1, w.2.1⟩), if_neg z]
          have h3 : ∀ k, tk G D o 3 k = dq G D o (tm (oneP G o) (cnt G D o) (bC G D o)) 3 k := fun k => by
            rw [tk_3, dq_3]
            by_cases z : k = o
            · rw [if_pos z, if_pos z]
              unfold bI
              by_cases y : G 2 o = 4
              · rw [if_pos y, if_pos ⟨y, Classical.byContradiction (fun w => q ⟨y, w⟩)⟩]
              · rw [if_neg y, if_neg (fun w => y w.1)]
            · rw [if_neg z, if_neg z]
          refine pro_cg h1 (fun k => by rw [tk_2, dq_2]) (fun k => ?_) o
          unfold opn
          rw [wtk, wh_dq, h3]
        rw [e, pro_dq, e2, eF]
        have hm : ∃ m, cds G D o = m + 1 := by
          have : 0 < cds G D o := by
            unfold cds
            split
            · omega
            · exact Nat.pow_pos (by omega)
          exact ⟨cds G D o - 1, by omega⟩
        obtain ⟨m, hm⟩ := hm
        have hi := bst_hi hG hw o m (by omega)
        rw [← hm] at hi
        rcases bst_v (fF G D o (oneP G o)) (cds G D o) with z | z
        · rw [z] at hi
          exact absurd hi (by decide)
        · rw [z]; rfl

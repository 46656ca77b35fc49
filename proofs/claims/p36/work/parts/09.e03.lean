/-! e03: the law's turn: a way, all ways, the turn -/
/-- one way: own shops priced by m, the profit weighed -/
theorem lt_209 {G D R : gx_S} {o : Nat} (h : LX G D R) (ho : o < nO G) {m W : Nat} {one : Bool} (hm : one = true → m < 10) (hm2 : m < 1000) (hc3 : cnt G D o ≤ 3) {k192 : Int32 × Int32 × Int32 × gx_S → Option (Int32 × gx_S)} {x3 x6 x8 x9 x10 : Int32} {P : Int32 × gx_S → Prop} {S : gx_S} (w : LW G D R o S) (k1 : ∀ U : gx_S, LW G D R o U → U 3 = S 3 → fF G D o one m ≤ x8 → gt (k192 (x8, x9, nn m + 1, U)) P) (k2 : ∀ U : gx_S, LW G D R o U → (∀ j, j < 6 → U 3 j = if j < nP G ∧ ow D o j = true then tm one (cnt G D o) m (cu D o j) else R 0 (27 + j)) → ¬ fF G D o one m ≤ x8 → gt (k192 (fF G D o one m, 1, nn m + 1, U)) P) : gt (gx_loop (r_turn_209 k192 (nn o) x3 x6 x8 x9 x10 (nn m)) 5000 (nn (un one (cnt G D o) 0), 0, S)) P := by
  have hP := (wG_P h.1).2
  have hO := (wG_O h.1).2
  have hr1 : R 0 1 = nn (nP G) := h.2.2.1.2.1
  refine gt_for (nP G) (fun j t => t.1 = nn (un one (cnt G D o) (cu D o j)) ∧ t.2.1 = nn j ∧ LW G D R o t.2.2 ∧ t.2.2 3 = S 3 ∧ ∀ k, k < j → ow D o k = true → t.2.2 0 (27 + k) = tm one (cnt G D o) m (cu D o k)) ?_ ?_ 0 5000 _ (by omega) ⟨rfl, rfl, w, rfl, fun k hk => absurd hk (by omega)⟩ (by omega)
  · rintro j ⟨a, b, U⟩ kk hj ⟨ea, eb, wu, u3, g⟩ hk
    simp only at ea eb wu u3 g
    subst ea
    subst eb
    obtain ⟨w1, w2, w3, w4⟩ := id wu
    have f : ∀ i, i < 45 → (i < 27 ∨ 32 < i) → i ≠ 39 + o → U 0 i = R 0 i := fun i a b c => w1 i a (fun k hk _ => by omega) c
    have e1 : U 0 1 = nn (nP G) := by rw [f 1 (by omega) (by omega) (by omega)]; exact hr1
    have e33 : U 0 (33 + j) = D 2 j := by rw [f _ (by omega) (by omega) (by omega)]; exact (h.2.2.2.2.1 j hj).2.2.2
    obtain ⟨ub1, ub2⟩ := un_b one hc3 (cu D o j)
    simp only [r_turn_209, r_turn_258, r_turn_260, jk_1, jl_1]
    simp (disch := omega) only [e1, nn_le, ja_33, ck_n, nn_c, e33, jb_1]
    rw [if_neg (by omega)]
    have cus : cu D o (j + 1) = cu D o j + (if ow D o j = true then 1 else 0) := rfl
    by_cases z : D 2 j = nn o
    · have hz : ow D o j = true := by unfold ow; rw [decide_eq_true_eq]; exact z
      rw [if_pos z]
      rw [if_pos hz] at cus
      have hnz : ∀ y : Option (Int32 × gx_S), gx_nz (nn (un one (cnt G D o) (cu D o j))) y = y := fun y => by
        unfold gx_nz
        rw [if_neg (by rw [nn_0, nn_eq (by omega) (by omega)]; omega)]
      rw [hnz]
      have epr : nn m / nn (un one (cnt G D o) (cu D o j)) - nn m / nn (un one (cnt G D o) (cu D o j)) / 10 * 10 = tm one (cnt G D o) m (cu D o j) := by
        rw [nn_div (by omega) (by omega) (by omega)]
        have hlt : m / un one (cnt G D o) (cu D o j) < 2147483648 := Nat.lt_of_le_of_lt (Nat.div_le_self _ _) (by omega)
        rw [show (10 : Int32) = nn 10 from rfl, nn_rem hlt (by omega) (by omega)]
        exact un_p hm _
      simp (disch := omega) only [ja_27, ck_n, nn_c, let_s]
      rw [epr]
      have hun : (if nn (un one (cnt G D o) (cu D o j)) ≤ 1 then (1 : Int32) else nn (un one (cnt G D o) (cu D o j)) / 10) = nn (un one (cnt G D o) (cu D o (j + 1))) := by
        rw [cus, ← un_n one hc3]
        by_cases y : un one (cnt G D o) (cu D o j) ≤ 1
        · rw [if_pos (show nn _ ≤ 1 by rw [show (1 : Int32) = nn 1 from rfl, nn_le (by omega) (by omega)]; exact y), if_pos y]; rfl
        · rw [if_neg (show ¬ nn _ ≤ 1 by rw [show (1 : Int32) = nn 1 from rfl, nn_le (by omega) (by omega)]; exact y), if_neg y]
          rw [show (10 : Int32) = nn 10 from rfl, nn_div (by omega) (by omega) (by omega)]
      obtain ⟨V, hV⟩ : ∃ V, V = gx_st U 0 (27 + j) (tm one (cnt G D o) m (cu D o j)) := ⟨_, rfl⟩
      have hv : LW G D R o V ∧ V 3 = S 3 ∧ ∀ k, k < j + 1 → ow D o k = true → V 0 (27 + k) = tm one (cnt G D o) m (cu D o k) := by
        refine ⟨⟨fun i a b c => ?_, ?_, ?_, fun i hi => ?_⟩, ?_, fun k hk1 hk2 => ?_⟩
        · rw [hV, gx_st_j _ _ _ (b j hj hz)]; exact w1 i a b c
        · rw [hV, gx_st_j _ _ _ (by omega)]; exact w2
        · rw [← w3, hV]; funext i; rw [gx_st_q _ _ _ _ (by omega)]
        · rw [hV, gx_st_q _ _ _ _ (by omega)]; exact w4 i hi
        · rw [← u3, hV]; funext i; rw [gx_st_q _ _ _ _ (by omega)]
        · by_cases y : k = j
          · subst y; rw [hV, gx_st_eq]
          · rw [hV, gx_st_j _ _ _ (by omega)]; exact g k (by omega) hk2
      rw [← hV]
      by_cases y : nn (un one (cnt G D o) (cu D o j)) ≤ 1
      · rw [if_pos y]
        rw [if_pos y] at hun
        exact hk _ ⟨hun, rfl, hv.1, hv.2.1, hv.2.2⟩
      · rw [if_neg y]
        rw [if_neg y] at hun
        exact hk _ ⟨hun, rfl, hv.1, hv.2.1, hv.2.2⟩
    · have hz : ¬ ow D o j = true := by unfold ow; rw [decide_eq_true_eq]; exact z
      rw [if_neg z]
      have cus' : cu D o (j + 1) = cu D o j := by rw [cus, if_neg hz]; rfl
      exact hk _ ⟨by rw [cus'], rfl, wu, u3, fun k hk1 hk2 => by
        by_cases y : k = j
        · subst y; exact absurd hk2 hz
        · exact g k (by omega) hk2⟩
  · rintro ⟨a, b, U⟩ kk ⟨ea, eb, wu, u3, g⟩
    simp only at ea eb wu u3 g
    subst ea
    subst eb
    obtain ⟨w1, w2, w3, w4⟩ := id wu
    have e1 : U 0 1 = nn (nP G) := by rw [w1 1 (by omega) (fun k hk _ => by omega) (by omega)]; exact hr1
    have hx := LW_X h ho wu (τ := tm one (cnt G D o) m) (tm_b one _ hm) g
    have hpro : r_profit (nn o) U = some (fF G D o one m) := by
      rw [l_profit hx ho, pro_dq]; rfl
    simp only [r_turn_209, r_turn_316, jk_1, jl_1]
    simp (disch := omega) only [e1, nn_le]
    rw [if_pos (by omega), hpro, cp_s]
    by_cases z : fF G D o one m ≤ x8
    · rw [if_pos z]
      exact k1 U wu u3 z
    · rw [if_neg z]
      refine lt_291 (fun V v0 v1 v2 v3 => k2 V ⟨fun i a b c => by rw [v0]; exact w1 i a b c, by rw [v0]; exact w2, by rw [v1]; exact w3, fun j hj => by rw [v2]; exact w4 j hj⟩ (fun j hj => ?_) z)
      rw [v3 j hj]
      by_cases y : j < nP G ∧ ow D o j = true
      · rw [if_pos y]; exact g j y.1 y.2
      · rw [if_neg y]
        refine w1 (27 + j) (by omega) (fun k hk hz e => ?_) (by omega)
        have : k = j := by omega
        subst this; exact y ⟨hk, hz⟩
/-- what is found so far -/
def lB (G D R : gx_S) (o : Nat) (one : Bool) (n0 : Int32) (m : Nat) (most found : Int32) (S : gx_S) : Prop := (n0 < (bst (fF G D o one) m).1 ∧ most = (bst (fF G D o one) m).1 ∧ found = 1 ∧ ∀ j, j < 6 → S 3 j = if j < nP G ∧ ow D o j = true then tm one (cnt G D o) (bst (fF G D o one) m).2 (cu D o j) else R 0 (27 + j)) ∨ (¬ n0 < (bst (fF G D o one) m).1 ∧ most = n0 ∧ found = 0 ∧ ∀ j, j < 6 → S 3 j = R 0 (27 + j))
theorem lB_k {G D R S U : gx_S} {o m : Nat} {one : Bool} {n0 most found : Int32} (h : lB G D R o one n0 m most found S) (e : U 3 = S 3) (hf : fF G D o one m ≤ most) : lB G D R o one n0 (m + 1) most found U := by
  rcases h with ⟨h1, h2, h3, h4⟩ | ⟨h1, h2, h3, h4⟩
  · have e' : bst (fF G D o one) (m + 1) = bst (fF G D o one) m := if_neg (by rw [h2] at hf; lia)
    exact Or.inl ⟨by rw [e']; exact h1, by rw [e']; exact h2, h3, fun j hj => by rw [e, e']; exact h4 j hj⟩
  · refine Or.inr ⟨?_, h2, h3, fun j hj => by rw [e]; exact h4 j hj⟩
    show ¬ n0 < (if (bst (fF G D o one) m).1 < fF G D o one m then (fF G D o one m, m) else bst (fF G D o one) m).1
    rw [h2] at hf
    split
    · show ¬ n0 < fF G D o one m; lia
    · exact h1
theorem lB_t {G D R S U : gx_S} {o m : Nat} {one : Bool} {n0 most found : Int32} (h : lB G D R o one n0 m most found S) (e : ∀ j, j < 6 → U 3 j = if j < nP G ∧ ow D o j = true then tm one (cnt G D o) m (cu D o j) else R 0 (27 + j)) (hf : ¬ fF G D o one m ≤ most) : lB G D R o one n0 (m + 1) (fF G D o one m) 1 U := by
  have hlt : (bst (fF G D o one) m).1 < fF G D o one m := by
    rcases h with ⟨h1, h2, _⟩ | ⟨h1, h2, _⟩
    · rw [h2] at hf; lia
    · rw [h2] at hf; lia
  have e' : bst (fF G D o one) (m + 1) = (fF G D o one m, m) := if_pos hlt
  refine Or.inl ⟨?_, by rw [e'], rfl, fun j hj => by rw [e']; exact e j hj⟩
  rw [e']
  show n0 < fF G D o one m
  rcases h with ⟨h1, h2, _⟩ | ⟨h1, h2, _⟩
  · lia
  · rw [h2] at hf; lia
/-- all ways -/
theorem lt_192 {G D R : gx_S} {o : Nat} (h : LX G D R) (ho : o < nO G) {W : Nat} {one : Bool} (hc3 : cnt G D o ≤ 3) (hW : W = 0 ∨ (W = 10 * un one (cnt G D o) 0 ∧ (one = true → W = 10))) {x3 x6 n0 : Int32} {P : Int32 × gx_S → Prop} {S : gx_S} (w : LW G D R o S) (h3 : ∀ j, j < 6 → S 3 j = R 0 (27 + j)) (hn0 : ¬ n0 < -1000000) (fin : ∀ (most found : Int32) (U : gx_S), LW G D R o U → lB G D R o one n0 W most found U → gt (if x3 = 4 then if found = 0 then r_turn_341 (nn o) x6 ((39 : Int32) + nn o) U else r_turn_342 (nn o) x6 ((39 : Int32) + nn o) 1 U else r_turn_341 (nn o) x6 ((39 : Int32) + nn o) U) P) : gt (r_turn_187 (nn o) x3 x6 n0 0 (nn W) S) P := by
  have ub := un_b one hc3 0
  have hW1 : W ≤ 1000 := by omega
  unfold r_turn_187
  refine gt_for W (fun m t => t.2.2.1 = nn m ∧ LW G D R o t.2.2.2 ∧ lB G D R o one n0 m t.1 t.2.1 t.2.2.2) ?_ ?_ 0 5000 _ (by omega) ⟨rfl, w, Or.inr ⟨hn0, rfl, rfl, h3⟩⟩ (by omega)
  · rintro m ⟨most, found, b, U⟩ kk hm ⟨eb, wu, lb⟩ hk
    simp only at eb wu lb
    subst eb
    simp only [r_turn_192]
    rw [if_neg (by rw [nn_le (by omega) (by omega)]; omega)]
    have hWu : nn W / 10 = nn (un one (cnt G D o) 0) := by
      rw [show (10 : Int32) = nn 10 from rfl, nn_div (by omega) (by omega) (by omega)]
      congr 1
      omega
    rw [hWu]
    refine lt_209 h ho (W := W) (fun e => by
      rcases hW with y | ⟨_, y⟩
      · omega
      · have := y e
        omega) (by omega) hc3 wu (fun V wv e hf => ?_) (fun V wv e hf => ?_)
    · exact hk _ ⟨by simp only; rw [jb_1], wv, lB_k lb e hf⟩
    · exact hk _ ⟨by simp only; rw [jb_1], wv, lB_t lb e hf⟩
  · rintro ⟨most, found, b, U⟩ kk ⟨eb, wu, lb⟩
    simp only at eb wu lb
    subst eb
    simp only [r_turn_192]
    rw [if_pos (Int32.le_refl _)]
    exact fin most found U wu lb
theorem l_turn {G D R : gx_S} (h : LX G D R) {o : Nat} (ho : o < nO G) : gt (r_turn (nn o) R) fun t => t.1 = nch G D o ∧ LX G (tk G D o) t.2 := by
  have hG := h.1
  have hw := h.2.1
  have hP := (wG_P h.1).2
  have hO := (wG_O h.1).2
  have hr1 : R 0 1 = nn (nP G) := h.2.2.1.2.1
  obtain ⟨e3, e9, e39⟩ := h.2.2.2.1 o ho
  have hc3 := hw.2.2 o (by omega)
  have hcP : cnt G D o ≤ nP G := cn_le _ _
  -- whatever way it was found: the end
  have fin : ∀ (W : Nat) (one : Bool) (n0 : Int32), (cnt G D o = 0 ∨ (G 2 o = 2 ∧ W = 0) ∨ (¬ G 2 o = 2 ∧ one = oneP G o ∧ W = cds G D o)) → (cnt G D o = 0 → W = 0) → (G 2 o = 4 → n0 = G 3 o) → (¬ G 2 o = 4 → n0 = -1000000) → ∀ (most found : Int32) (U : gx_S), LW G D R o U → lB G D R o one n0 W most found U → gt (if G 2 o = 4 then if found = 0 then r_turn_341 (nn o) (D 3 o) ((39 : Int32) + nn o) U else r_turn_342 (nn o) (D 3 o) ((39 : Int32) + nn o) 1 U else r_turn_341 (nn o) (D 3 o) ((39 : Int32) + nn o) U) fun t => t.1 = nch G D o ∧ LX G (tk G D o) t.2 := by
    intro W one n0 hcase hc0 hn4 hn most found U wu lb
    obtain ⟨w1, w2, w3, w4⟩ := wu
    have hn0 : ¬ n0 < -1000000 := by
      by_cases z : G 2 o = 4
      · rw [hn4 z]
        have := (hG.2.1 o).2.1
        lia
      · rw [hn z]; decide
    -- whether something was found
    have hfd : G 2 o = 4 → ((found = 1 ∧ bI G D o = 1) ∨ (found = 0 ∧ bI G D o = 0)) := fun y => by
      have bz : ∀ b : Int32, bF G D o = b → bI G D o = if G 3 o < b then 1 else 0 := fun b hb => by
        unfold bI
        rw [hb]
        by_cases q : G 3 o < b
        · rw [if_pos q, if_pos ⟨y, q⟩]
        · rw [if_neg q, if_neg (fun z => q z.2)]
      by_cases c0 : cnt G D o = 0
      · have e : bF G D o = 0 := by
          unfold bF
          rw [if_neg (by rw [y]; decide), if_pos c0]
        rw [bz 0 e, if_neg (by have := (hG.2.1 o).2.1; lia)]
        have hW0 := hc0 c0
        subst hW0
        rcases lb with ⟨h1, _⟩ | ⟨_, _, h3, _⟩
        · exact absurd h1 hn0
        · exact Or.inr ⟨h3, rfl⟩
      · have hcs : one = oneP G o ∧ W = cds G D o := by
          rcases hcase with q | q | q
          · exact absurd q c0
          · have := q.1; rw [y] at this; exact absurd this (by decide)
          · exact q.2
        have e : bF G D o = (bst (fF G D o one) W).1 := by
          unfold bF
          rw [if_neg (by rw [y]; decide), if_neg c0, hcs.1, hcs.2]
        rw [bz _ e, ← hn4 y]
        rcases lb with ⟨h1, _, h3, _⟩ | ⟨h1, _, h3, _⟩
        · exact Or.inl ⟨h3, if_pos h1⟩
        · exact Or.inr ⟨h3, if_neg h1⟩
    -- the best prices
    have hbp : ∀ j, j < 6 → U 3 j = if j < nP G then bP G D o j else R 0 (27 + j) := fun j hj => by
      by_cases jp : j < nP G
      · rw [if_pos jp]
        have ej : R 0 (27 + j) = D 1 j := (h.2.2.2.2.1 j jp).2.2.1
        unfold bP
        by_cases hz : ow D o j = true
        · have c0 : ¬ cnt G D o = 0 := by
            have := cu_lt jp hz
            omega
          rcases hcase with q | ⟨q, q0⟩ | ⟨q, q1, q2⟩
          · exact absurd q c0
          · rw [if_neg (fun z => z.2.2.1 q)]
            subst q0
            rcases lb with ⟨h1, _⟩ | ⟨_, _, _, h4⟩
            · exact absurd h1 hn0
            · rw [h4 j hj, ej]
          · subst q1
            subst q2
            have e : bF G D o = (bst (fF G D o (oneP G o)) (cds G D o)).1 := by
              unfold bF
              rw [if_neg q, if_neg c0]
            rcases lb with ⟨h1, _, _, h4⟩ | ⟨h1, _, _, h4⟩
            · have hq : ¬ (G 2 o = 4 ∧ ¬ G 3 o < bF G D o) := by
                rintro ⟨y1, y2⟩
                rw [e, ← hn4 y1] at y2
                exact y2 h1
              rw [h4 j hj, if_pos ⟨jp, hz⟩]
              exact (if_pos ⟨jp, hz, q, hq⟩).symm
            · by_cases y1 : G 2 o = 4
              · rw [h4 j hj, ej, if_neg]
                rintro ⟨_, _, _, z⟩
                refine z ⟨y1, ?_⟩
                rw [e, ← hn4 y1]; exact h1
              · exfalso
                rw [hn y1] at h1
                have : ∃ m, cds G D o = m + 1 := by
                  have : 0 < cds G D o := by
                    unfold cds
                    split
                    · omega
                    · exact Nat.pow_pos (by omega)
                  exact ⟨cds G D o - 1, by omega⟩
                obtain ⟨m, hm⟩ := this
                have key : ∀ m, m + 1 ≤ cds G D o → (-1000000 : Int32) < (bst (fF G D o (oneP G o)) (m + 1)).1 := fun m hm => by
                  have hb := fF_b hG hw o (oneP G o) (m := m) (fun y => by
                    unfold cds at hm
                    rw [if_pos y] at hm
                    omega)
                  show (-1000000 : Int32) < (if (bst (fF G D o (oneP G o)) m).1 < fF G D o (oneP G o) m then (fF G D o (oneP G o) m, m) else bst (fF G D o (oneP G o)) m).1
                  split
                  · exact hb
                  · rename_i z
                    show (-1000000 : Int32) < (bst (fF G D o (oneP G o)) m).1
                    lia
                rw [hm] at h1
                exact h1 (key m (by omega))
        · rw [if_neg (fun z => hz z.2.1)]
          rcases lb with ⟨_, _, _, h4⟩ | ⟨_, _, _, h4⟩
          · rw [h4 j hj, if_neg (fun z => hz z.2), ej]
          · rw [h4 j hj, ej]
      · rw [if_neg jp]
        rcases lb with ⟨_, _, _, h4⟩ | ⟨_, _, _, h4⟩
        · rw [h4 j hj, if_neg (fun z => jp z.1)]
        · exact h4 j hj
    -- whether it is in
    have hend : gt (r_turn_342 (nn o) (D 3 o) ((39 : Int32) + nn o) (bI G D o) U) fun t => t.1 = nch G D o ∧ LX G (tk G D o) t.2 := by
      unfold r_turn_342
      simp (disch := omega) only [ja_39, ck_n, nn_c, let_s, gx_st_eq]
      obtain ⟨V, hV⟩ : ∃ V, V = gx_st U 0 (39 + o) (bI G D o) := ⟨_, rfl⟩
      rw [← hV]
      have v2 : ∀ j, j < 6 → V 2 j = R 0 (27 + j) := fun j hj => by rw [hV, gx_st_q _ _ _ _ (by omega)]; exact w4 j hj
      have v3 : ∀ j, j < 6 → V 3 j = if j < nP G then bP G D o j else R 0 (27 + j) := fun j hj => by rw [hV, gx_st_q _ _ _ _ (by omega)]; exact hbp j hj
      have hsum : sm (fun k => if (if k < nP G then bP G D o k else R 0 (27 + k)) = R 0 (27 + k) then (0 : Int32) else 1) 6 = sm (fun k => if D 1 k = bP G D o k then 0 else 1) (nP G) := by
        have step : ∀ d n, n + d = 6 → nP G ≤ n → sm (fun k => if (if k < nP G then bP G D o k else R 0 (27 + k)) = R 0 (27 + k) then (0 : Int32) else 1) n = sm (fun k => if (if k < nP G then bP G D o k else R 0 (27 + k)) = R 0 (27 + k) then (0 : Int32) else 1) 6 := by
          intro d
          induction d with
          | zero => intro n e _; rw [show n = 6 by omega]
          | succ d ih =>
            intro n e hn
            rw [← ih (n + 1) (by omega) (by omega)]
            show _ = sm _ n + (if (if n < nP G then bP G D o n else R 0 (27 + n)) = R 0 (27 + n) then (0 : Int32) else 1)
            rw [if_neg (show ¬ n < nP G by omega), if_pos rfl, Int32.add_zero]
        rw [← step (6 - nP G) (nP G) (by omega) (Nat.le_refl _)]
        refine sm_cg (fun k hk => ?_)
        rw [if_pos hk, (h.2.2.2.2.1 k hk).2.2.1]
        by_cases z : D 1 k = bP G D o k
        · rw [if_pos z, if_pos z.symm]
        · rw [if_neg z, if_neg (fun y => z y.symm)]
      have fin2 : ∀ x, x = (if D 3 o = bI G D o then 0 else 1) → gt (r_turn_359 x V) fun t => t.1 = nch G D o ∧ LX G (tk G D o) t.2 := fun x hx => by
        refine gt_mono (lt_359 x _ _ v2 v3) (fun t ht => ?_)
        obtain ⟨t1, t2, t3, t4⟩ := ht
        refine ⟨?_, ?_⟩
        · rw [t1, hsum, hx]
          unfold nch
          rw [Int32.add_comm]
        · have f : ∀ i, i < 45 → (i < 27 ∨ 32 < i) → i ≠ 39 + o → t.2 0 i = R 0 i := fun i a b c => by
            rw [t2 i a b, hV, gx_st_j _ _ _ c]
            exact w1 i a (fun k hk _ => by omega) c
          refine ⟨hG, wD_tk hG hw o, ⟨?_, ?_, ?_⟩, fun u hu => ⟨?_, ?_, ?_⟩, fun k hk => ⟨?_, ?_, ?_, ?_⟩, fun s i hs hi => ?_⟩
          · rw [f 0 (by omega) (by omega) (by omega)]; exact h.2.2.1.1
          · rw [f 1 (by omega) (by omega) (by omega)]; exact h.2.2.1.2.1
          · rw [f 2 (by omega) (by omega) (by omega)]; exact h.2.2.1.2.2
          · rw [f (3 + u) (by omega) (by omega) (by omega)]; exact (h.2.2.2.1 u hu).1
          · rw [f (9 + u) (by omega) (by omega) (by omega)]; exact (h.2.2.2.1 u hu).2.1
          · rw [tk_3]
            by_cases z : u = o
            · subst z
              rw [if_pos rfl, t2 _ (by omega) (by omega), hV, gx_st_eq]
            · rw [if_neg z, f (39 + u) (by omega) (by omega) (by omega)]; exact (h.2.2.2.1 u hu).2.2
          · rw [f (15 + k) (by omega) (by omega) (by omega)]; exact (h.2.2.2.2.1 k hk).1
          · rw [f (21 + k) (by omega) (by omega) (by omega)]; exact (h.2.2.2.2.1 k hk).2.1
          · rw [tk_1, t3 k (by omega), if_pos hk]
          · rw [tk_2, f (33 + k) (by omega) (by omega) (by omega)]; exact (h.2.2.2.2.1 k hk).2.2.2
          · rw [t4, hV, show gx_st U 0 (39 + o) (bI G D o) 1 = U 1 from funext fun j => gx_st_q _ _ _ _ (by omega), w3]; exact h.2.2.2.2.2 s i hs hi
      by_cases z : bI G D o = D 3 o
      · rw [if_pos z]; exact fin2 0 (by rw [if_pos z.symm])
      · rw [if_neg z]; exact fin2 1 (by rw [if_neg (fun y => z y.symm)])
    by_cases y : G 2 o = 4
    · rw [if_pos y]
      rcases hfd y with ⟨f1, f2⟩ | ⟨f1, f2⟩
      · rw [f1, if_neg i10]
        rw [f2] at hend; exact hend
      · rw [f1, if_pos rfl]
        unfold r_turn_341
        rw [f2] at hend; exact hend
    · rw [if_neg y]
      unfold r_turn_341
      have : bI G D o = 0 := by
        unfold bI
        rw [if_neg (fun z => y z.1)]
      rw [this] at hend; exact hend
  -- from the kind on
  have from111 : ∀ (x7 : Nat) (U : gx_S), x7 = cnt G D o → U 0 = R 0 → U 1 = R 1 → (∀ j, j < 6 → U 2 j = R 0 (27 + j) ∧ U 3 j = R 0 (27 + j)) → gt (if G 2 o = 4 then r_turn_111 (nn o) (G 2 o) (D 3 o) (nn x7) ((39 : Int32) + nn o) 1 U else r_turn_111 (nn o) (G 2 o) (D 3 o) (nn x7) ((39 : Int32) + nn o) 0 U) fun t => t.1 = nch G D o ∧ LX G (tk G D o) t.2 := by
    intro x7 U ex u0 u1 u23
    obtain ⟨q, hq⟩ : ∃ q : Int32, q = if G 2 o = 4 then 1 else 0 := ⟨_, rfl⟩
    have e111 : (if G 2 o = 4 then r_turn_111 (nn o) (G 2 o) (D 3 o) (nn x7) ((39 : Int32) + nn o) 1 U else r_turn_111 (nn o) (G 2 o) (D 3 o) (nn x7) ((39 : Int32) + nn o) 0 U) = r_turn_111 (nn o) (G 2 o) (D 3 o) (nn x7) ((39 : Int32) + nn o) q U := by
      rw [hq]
      split <;> rfl
    rw [e111]
    unfold r_turn_111
    simp (disch := omega) only [ja_39, ja_9, ck_n, nn_c, let_s]
    obtain ⟨V, hV⟩ : ∃ V, V = gx_st U 0 (39 + o) q := ⟨_, rfl⟩
    rw [← hV]
    have v9 : V 0 (9 + o) = G 3 o := by rw [hV, gx_st_j _ _ _ (by omega), u0]; exact e9
    rw [v9]
    have wv : LW G D R o V := by
      refine ⟨fun i a b c => ?_, ?_, ?_, fun j hj => ?_⟩
      · rw [hV, gx_st_j _ _ _ c, u0]
      · rw [hV, gx_st_eq, hq]
      · rw [← u1, hV]; funext j; rw [gx_st_q _ _ _ _ (by omega)]
      · rw [hV, gx_st_q _ _ _ _ (by omega)]; exact (u23 j hj).1
    have v3 : ∀ j, j < 6 → V 3 j = R 0 (27 + j) := fun j hj => by rw [hV, gx_st_q _ _ _ _ (by omega)]; exact (u23 j hj).2
    have go : ∀ n0 : Int32, (G 2 o = 4 → n0 = G 3 o) → (¬ G 2 o = 4 → n0 = -1000000) → gt (r_turn_128 (nn o) (G 2 o) (D 3 o) (nn x7) n0 V) fun t => t.1 = nch G D o ∧ LX G (tk G D o) t.2 := by
      intro n0 hn4 hn
      have hn0 : ¬ n0 < -1000000 := by
        by_cases z : G 2 o = 4
        · rw [hn4 z]
          have := (hG.2.1 o).2.1
          lia
        · rw [hn z]; decide
      have run : ∀ (W : Nat) (one : Bool), (W = 0 ∨ (W = 10 * un one (cnt G D o) 0 ∧ (one = true → W = 10))) → (cnt G D o = 0 ∨ (G 2 o = 2 ∧ W = 0) ∨ (¬ G 2 o = 2 ∧ one = oneP G o ∧ W = cds G D o)) → (cnt G D o = 0 → W = 0) → gt (r_turn_187 (nn o) (G 2 o) (D 3 o) n0 0 (nn W) V) fun t => t.1 = nch G D o ∧ LX G (tk G D o) t.2 := fun W one a b c => lt_192 h ho hc3 a wv v3 hn0 (fin W one n0 b c hn4 hn)
      unfold r_turn_128 r_turn_143 r_turn_157
      subst ex
      rw [show (0 : Int32) = nn 0 from rfl, show (1 : Int32) = nn 1 from rfl, show (2 : Int32) = nn 2 from rfl]
      simp (disch := omega) only [nn_eq]
      by_cases c0 : cnt G D o = 0
      · rw [if_pos c0]
        exact run 0 true (Or.inl rfl) (Or.inl c0) (fun _ => rfl)
      · rw [if_neg c0]
        by_cases y2 : G 2 o = nn 2
        · rw [if_pos y2]
          exact run 0 true (Or.inl rfl) (Or.inr (Or.inl ⟨y2, rfl⟩)) (fun _ => rfl)
        · rw [if_neg y2]
          by_cases y1 : G 2 o = nn 1
          · have e1 : oneP G o = true := by unfold oneP; rw [y1]; rfl
            rw [if_pos y1]
            exact run 10 true (Or.inr ⟨rfl, fun _ => rfl⟩) (Or.inr (Or.inr ⟨y2, e1.symm, by unfold cds; rw [if_pos e1]⟩)) (fun z => absurd z c0)
          · rw [if_neg y1]
            by_cases y4 : G 2 o = 4
            · have e1 : oneP G o = true := by unfold oneP; rw [y4]; rfl
              rw [if_pos y4]
              exact run 10 true (Or.inr ⟨rfl, fun _ => rfl⟩) (Or.inr (Or.inr ⟨y2, e1.symm, by unfold cds; rw [if_pos e1]⟩)) (fun z => absurd z c0)
            · have e1 : oneP G o = false := by
                unfold oneP
                rw [decide_eq_false (show ¬ G 2 o = 1 from y1), decide_eq_false y4]; rfl
              have ecds : cds G D o = 10 ^ cnt G D o := by unfold cds; rw [if_neg (by rw [e1]; decide)]
              rw [if_neg y4]
              by_cases c1 : cnt G D o = 1
              · rw [if_pos c1]
                exact run 10 false (Or.inr ⟨by rw [c1]; rfl, fun z => by cases z⟩) (Or.inr (Or.inr ⟨y2, e1.symm, by rw [ecds, c1]⟩)) (fun z => absurd z c0)
              · rw [if_neg c1]
                by_cases c2 : cnt G D o = 2
                · rw [if_pos c2]
                  exact run 100 false (Or.inr ⟨by rw [c2]; rfl, fun z => by cases z⟩) (Or.inr (Or.inr ⟨y2, e1.symm, by rw [ecds, c2]⟩)) (fun z => absurd z c0)
                · have c3 : cnt G D o = 3 := by omega
                  rw [if_neg c2]
                  exact run 1000 false (Or.inr ⟨by rw [c3]; rfl, fun z => by cases z⟩) (Or.inr (Or.inr ⟨y2, e1.symm, by rw [ecds, c3]⟩)) (fun z => absurd z c0)
    by_cases y : G 2 o = 4
    · rw [if_pos y]
      exact go _ (fun _ => rfl) (fun z => absurd y z)
    · rw [if_neg y]
      exact go _ (fun z => absurd z y) (fun _ => rfl)
  -- the first loop
  unfold r_turn r_turn_w
  simp (disch := omega) only [ja_3, ja_39, ck_n, nn_c, e3]
  have t0 : gy_T4 R 0 = R 0 := rfl
  have t1 : gy_T4 R 1 = R 1 := rfl
  rw [t0, e39]
  refine gt_for 6 (fun i t => (∃ c, t.1 = nn c ∧ c = cu D o (if i < nP G then i else nP G)) ∧ t.2.1 = nn i ∧ t.2.2 0 = R 0 ∧ t.2.2 1 = R 1 ∧ ∀ j, j < i → t.2.2 2 j = R 0 (27 + j) ∧ t.2.2 3 j = R 0 (27 + j)) ?_ ?_ 0 5000 _ (by omega) ⟨⟨0, rfl, by
    split
    · rfl
    · rw [show nP G = 0 by omega]; rfl⟩, rfl, t0, t1, fun j hj => absurd hj (by omega)⟩ (by omega)
  · rintro i ⟨a, b, U⟩ kk hi ⟨⟨c, ea, ec⟩, eb, u0, u1, g⟩ hk
    simp only at ea eb u0 u1 g
    subst ea
    subst eb
    simp only [r_turn_32, r_turn_86, r_turn_87, jk_1, jl_1]
    rw [if_neg (by rw [show (6 : Int32) = nn 6 from rfl, nn_le (by omega) (by omega)]; omega)]
    simp (disch := omega) only [ja_27, ja_33, ck_n, nn_c, let_s, gx_st_eq, gx_st_q, u0, hr1, nn_le, jb_1]
    have hc6 : c ≤ 6 := by
      rw [ec]
      have hle : (if i < nP G then i else nP G) ≤ 6 := by split <;> omega
      exact Nat.le_trans (cn_le (ow D o) _) hle
    have nx : ∀ x, (∃ c', nn c + x = nn c' ∧ c' = cu D o (if i + 1 < nP G then i + 1 else nP G)) → gt (kk (nn c + x, nn (i + 1), gx_st (gx_st U 2 i (R 0 (27 + i))) 3 i (R 0 (27 + i)))) fun t => t.1 = nch G D o ∧ LX G (tk G D o) t.2 := fun x hx => by
      refine hk _ ⟨hx, rfl, ?_, ?_, fun j hj => ?_⟩
      · simp only
        rw [← u0]
        funext j
        rw [gx_st_q _ _ _ _ (by omega), gx_st_q _ _ _ _ (by omega)]
      · simp only
        rw [← u1]
        funext j
        rw [gx_st_q _ _ _ _ (by omega), gx_st_q _ _ _ _ (by omega)]
      · simp only
        by_cases z : j = i
        · subst z
          rw [gx_st_eq, gx_st_q _ _ _ _ (by omega), gx_st_eq]
          exact ⟨rfl, rfl⟩
        · have gj := g j (by omega)
          refine ⟨?_, ?_⟩
          · rw [gx_st_q _ _ _ _ (by omega), gx_st_j _ _ _ z]; exact gj.1
          · rw [gx_st_j _ _ _ z, gx_st_q _ _ _ _ (by omega)]; exact gj.2
    by_cases z : nP G ≤ i
    · rw [if_pos z]
      refine nx 0 ⟨c, by rw [Int32.add_zero], ?_⟩
      rw [ec, if_neg (by omega), if_neg (by omega)]
    · rw [if_neg z]
      rw [if_pos (by omega)] at ec
      have e33 : R 0 (33 + i) = D 2 i := (h.2.2.2.2.1 i (by omega)).2.2.2
      rw [e33]
      have es : cu D o (if i + 1 < nP G then i + 1 else nP G) = cu D o (i + 1) := by
        by_cases y : i + 1 < nP G
        · rw [if_pos y]
        · rw [if_neg y, show nP G = i + 1 by omega]
      have cus : cu D o (i + 1) = cu D o i + (if ow D o i = true then 1 else 0) := rfl
      by_cases y : D 2 i = nn o
      · have hz : ow D o i = true := by unfold ow; rw [decide_eq_true_eq]; exact y
        rw [if_pos y]
        have nn1 := nx 1 ⟨c + 1, by rw [jb_1], by rw [es, cus, if_pos hz, ec]⟩
        rw [jb_1] at nn1
        exact nn1
      · have hz : ¬ ow D o i = true := by unfold ow; rw [decide_eq_true_eq]; exact y
        rw [if_neg y]
        refine nx 0 ⟨c, by rw [Int32.add_zero], ?_⟩
        rw [es, cus, if_neg hz, ec, Nat.add_zero]
  · rintro ⟨a, b, U⟩ kk ⟨⟨c, ea, ec⟩, eb, u0, u1, g⟩
    simp only at ea eb u0 u1 g
    subst ea
    subst eb
    simp only [r_turn_32]
    rw [if_pos (by decide)]
    refine from111 c U ?_ u0 u1 g
    rw [ec]
    split
    · omega
    · rfl

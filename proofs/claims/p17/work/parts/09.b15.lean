/-! b15: the reference's best, turn, rounds -/
theorem u_shopsOf {G D T : gx_S} {sh : Int32} (h : pU G D sh T) (o : Nat) : n_shopsOf (nn o) T = some (nn (cnt G D o)) := by
  have hG := h.1
  obtain ⟨eP, hP⟩ := wG_P hG
  have e1 : T 0 4 = nn (nP G) := by rw [h.2.2.1.1.2.1, eP]
  unfold n_shopsOf
  refine lp_for (nP G) (fun j => (nn (cu D o j), nn j)) (fun j k hj => ?_) (fun k => ?_) 0 5000 (by omega) (by omega)
  · simp only [n_shopsOf_4, n_shopsOf_28]
    obtain ⟨d1, d2, d3⟩ := h.2.2.2.1 j (by omega)
    simp (disch := omega) only [e1, nn_le, nn_c, ck_n, nn_s, d2]
    rw [if_neg (by omega)]
    have hc : cu D o (j + 1) = cu D o j + (if ow D o j = true then 1 else 0) := rfl
    by_cases q : D 2 j = nn o
    · rw [if_pos (show ow D o j = true by simp [ow, q])] at hc
      rw [if_pos q, hc]
    · rw [if_neg (show ¬ ow D o j = true by simp [ow, q])] at hc
      rw [if_neg q, hc, Int32.add_zero]
      rfl
  · simp only [n_shopsOf_4]
    simp (disch := omega) only [e1, nn_le]
    rw [if_pos (by omega)]
    rfl
theorem fb_dv : ∀ a, a < 1000 → nn a / nn 1 = nn (a / 1) ∧ nn a / nn 10 = nn (a / 10) ∧ nn a / nn 100 = nn (a / 100) ∧ nn a - nn a / 10 * 10 = nn (a % 10) := by decide +kernel
theorem fb_dv2 : nn 1 / 10 = nn 0 ∧ nn 10 / 10 = nn 1 ∧ nn 100 / 10 = nn 10 ∧ nn 1000 / 10 = nn 100 := by decide +kernel
theorem dv_p {m e : Nat} (hm : m < 1000) (he : e < 3) : nn m / nn (10 ^ e) - nn m / nn (10 ^ e) / 10 * 10 = nn (m / 10 ^ e % 10) := by
  obtain ⟨a, b, c, _⟩ := fb_dv m hm
  match e, he with
  | 0, _ => rw [show (10 : Nat) ^ 0 = 1 from rfl, a]; exact (fb_dv _ (by omega)).2.2.2
  | 1, _ => rw [show (10 : Nat) ^ 1 = 10 from rfl, b]; exact (fb_dv _ (by omega)).2.2.2
  | 2, _ => rw [show (10 : Nat) ^ 2 = 100 from rfl, c]; exact (fb_dv _ (by omega)).2.2.2
theorem p10_nz : ∀ e, e < 3 → nn (10 ^ e) ≠ 0 ∧ (nn (10 ^ e) ≤ 9 ↔ e = 0) ∧ nn (10 ^ e) / 10 = nn (10 ^ e / 10) ∧ nn (10 ^ (e + 1)) / 10 = nn (10 ^ e) := by decide +kernel
/-- prices of an owner's shops by a code -/
theorem u_layCode {G D T : gx_S} {o m c : Nat} {one : Bool} (hG : wG G) (eP : T 0 4 = nn (nP G)) (e4 : ∀ k, k < 6 → T 4 k = D 2 k) (hm : m < 1000) (h3 : cnt G D o ≤ 3) (hc : one = false → nn c / 10 = nn (10 ^ (cnt G D o - 1)) ∨ cnt G D o = 0) : gt (n_layCode (nn o) (nn m) (nn c) (ib one) T) fun U => (∀ q j, q ≠ 7 → U q j = T q j) ∧ ∀ k, k < 6 → U 7 k = if k < nP G ∧ ow D o k = true then tm one (cnt G D o) m (cu D o k) else T 7 k := by
  have hP := (wG_P hG).2
  unfold n_layCode
  refine gt_for (nP G) (fun j t => t.2.1 = nn j ∧ (∀ q i, q ≠ 7 → t.2.2 q i = T q i) ∧ (∀ k, k < 6 → t.2.2 7 k = if k < j ∧ ow D o k = true then tm one (cnt G D o) m (cu D o k) else T 7 k) ∧ (one = false → t.1 = nn (10 ^ (cnt G D o - 1 - cu D o j)) ∨ cnt G D o = 0)) ?_ ?_ 0 5000 _ (by omega) ?_ (by omega)
  · rintro j ⟨x5, x6, U⟩ k hj ⟨rfl, f, g, g5⟩ hk
    simp only at f g g5
    simp only [n_layCode_9, n_layCode_51, n_layCode_68, n_layCode_70]
    have e1 : U 0 4 = nn (nP G) := by rw [f _ _ (by omega), eP]
    have e2 : U 4 j = D 2 j := by rw [f _ _ (by omega), e4 j (by omega)]
    simp (disch := omega) only [e1, nn_le, nn_c, ck_n, nn_s, e2, let_s]
    rw [if_neg (by omega)]
    have hcu : cu D o (j + 1) = cu D o j + (if ow D o j = true then 1 else 0) := rfl
    by_cases q : D 2 j = nn o
    · have q' : ow D o j = true := by simp [ow, q]
      rw [if_pos q'] at hcu
      have hlt : cu D o j < cnt G D o := cu_lt hj q'
      rw [if_pos q]
      have fin : ∀ x5', (one = false → x5' = nn (10 ^ (cnt G D o - 1 - cu D o (j + 1))) ∨ cnt G D o = 0) → ∀ p, p = tm one (cnt G D o) m (cu D o j) → gt (k (x5', nn (j + 1), gx_st U 7 j p)) fun U => (∀ q j, q ≠ 7 → U q j = T q j) ∧ ∀ k, k < 6 → U 7 k = if k < nP G ∧ ow D o k = true then tm one (cnt G D o) m (cu D o k) else T 7 k := by
        intro x5' h5 p hp
        refine hk _ ⟨rfl, fun q i hq => ?_, fun i hi => ?_, h5⟩
        · simp only
          rw [gx_st_q _ _ _ _ hq]; exact f q i hq
        · simp only
          by_cases z : i = j
          · subst z
            rw [gx_st_eq, if_pos ⟨by omega, q'⟩, hp]
          · rw [gx_st_j _ _ _ z, g i hi]
            by_cases y : i < j ∧ ow D o i = true
            · rw [if_pos y, if_pos ⟨by omega, y.2⟩]
            · rw [if_neg y, if_neg (fun w => y ⟨by omega, w.2⟩)]
      cases one with
      | true =>
        rw [show ib true = 1 from rfl, if_neg (by decide)]
        refine gt_ite (fun _ => fin _ (fun z => absurd z (by decide)) _ rfl) (fun _ => fin _ (fun z => absurd z (by decide)) _ rfl)
      | false =>
        rw [show ib false = 0 from rfl, if_pos rfl]
        have e5 : x5 = nn (10 ^ (cnt G D o - 1 - cu D o j)) := (g5 rfl).resolve_right (by omega)
        subst e5
        obtain ⟨z1, z2, z3, z4⟩ := p10_nz (cnt G D o - 1 - cu D o j) (by omega)
        unfold gx_nz
        rw [if_neg z1, dv_p hm (by omega)]
        by_cases y : cnt G D o - 1 - cu D o j = 0
        · rw [if_pos (z2.mpr y)]
          refine fin _ (fun _ => Or.inl ?_) _ rfl
          rw [show cnt G D o - 1 - cu D o (j + 1) = 0 by omega]
          rfl
        · rw [if_neg (fun w => y (z2.mp w)), z3]
          refine fin _ (fun _ => Or.inl ?_) _ rfl
          obtain ⟨e, he⟩ : ∃ e, cnt G D o - 1 - cu D o j = e + 1 := ⟨cnt G D o - 1 - cu D o j - 1, by omega⟩
          rw [he, show cnt G D o - 1 - cu D o (j + 1) = e by omega, Nat.pow_succ, Nat.mul_div_cancel _ (by decide)]
    · have q' : ¬ ow D o j = true := by simp [ow, q]
      rw [if_neg q'] at hcu
      rw [if_neg q]
      refine hk _ ⟨rfl, f, fun i hi => ?_, by rw [hcu]; exact g5⟩
      simp only
      rw [g i hi]
      by_cases y : i < j ∧ ow D o i = true
      · rw [if_pos y, if_pos ⟨by omega, y.2⟩]
      · rw [if_neg y, if_neg]
        rintro ⟨w1, w2⟩
        have : i ≠ j := fun z => q' (z ▸ w2)
        exact y ⟨by omega, w2⟩
  · rintro ⟨x5, x6, U⟩ k ⟨rfl, f, g, g5⟩
    simp only at f g g5
    simp only [n_layCode_9]
    have e1 : U 0 4 = nn (nP G) := by rw [f _ _ (by omega), eP]
    simp (disch := omega) only [e1, nn_le]
    rw [if_pos (by omega)]
    exact gt_some ⟨f, g⟩
  · exact ⟨rfl, fun _ _ _ => rfl, fun k hk => by rw [if_neg (fun z => absurd z.1 (by omega))], hc⟩
theorem cho_cg {G D D' : gx_S} {s : Nat} {sh : Int32} (h1 : ∀ k, k < nP G → D 1 k = D' 1 k) (h2 : ∀ k, k < nP G → opn G D k = opn G D' k) : cho G D s sh = cho G D' s sh := by
  obtain ⟨l, h⟩ := cho_isC G D s sh
  refine cho_u (isC_cg h (fun j hj => ?_) (fun j hj _ => ?_))
  · unfold opx
    rw [h2 j hj]
  · unfold isv
    rw [h1 j hj]
theorem tot_cg {G D D' : gx_S} {g g' : Nat → Int32} (h1 : ∀ k, k < nP G → D 1 k = D' 1 k) (h2 : ∀ k, k < nP G → opn G D k = opn G D' k) (hP : nP G ≤ 6) (hg : ∀ k, k < nP G → g k = g' k) : tot G D g = tot G D' g' := by
  refine sm_cg (fun s hs => ?_)
  rw [sx_d, sx_d, cho_cg (D' := D') h1 h2]
  rcases cho_n G D' s (-1) with e | ⟨i, hi, e, _⟩
  · rw [if_pos e, if_pos e]
  · rw [e, nn_c (by omega), hg i hi]
/-- an owner taken as in -/
def dn (D : gx_S) (o : Nat) : gx_S := fun i j => if i = 3 ∧ j = o then 1 else D i j
theorem pro_dn {G D : gx_S} (hG : wG G) (h0 : w0 D) {o : Nat} (h : G 2 o = 2) : pro G (dn D o) o = pro G D o := by
  have hP := (wG_P hG).2
  refine tot_cg (fun k _ => by simp [dn]) (fun k hk => ?_) hP (fun k _ => by simp [gPr, dn])
  have e : wh (dn D o) k = wh D k := by simp [wh, dn]
  unfold opn
  rw [e]
  by_cases q : wh D k = o
  · rw [q, h]
    simp
  · have : dn D o 3 (wh D k) = D 3 (wh D k) := by simp [dn, q]
    rw [this]
theorem pro_0 {G D : gx_S} (hG : wG G) {o : Nat} (h : cnt G D o = 0) (τ : Nat → Int32) : pro G (dt G D o τ) o = 0 := by
  have hP := (wG_P hG).2
  have hno : ∀ k, k < nP G → ¬ ow D o k = true := fun k hk hq => by
    have := cu_lt hk hq
    omega
  unfold pro
  rw [tot_sl hG, sm_cg (g := fun _ => 0) (fun k hk => ?_), sm_0]
  unfold gPr
  rw [dt_2, if_neg (by have := hno k hk; simpa [ow] using this), Int32.mul_zero]
/-- the standing at code m -/
def sE (G D : gx_S) (o m : Nat) : gx_S := if G 2 o = 2 then dn D o else dt G D o (tm (oneP G o) (cnt G D o) m)
def cdr (G D : gx_S) (o : Nat) : Nat := if G 2 o = 2 then 1 else if oneP G o = true then (if cnt G D o = 0 then 1 else 10) else 10 ^ cnt G D o
def sF (G D : gx_S) (o m : Nat) : Int32 := pro G (sE G D o m) o
theorem sF_b {G D : gx_S} (hG : wG G) (hw : wD G D) {o m : Nat} (hm : m < cdr G D o) : (-1000000 : Int32) < sF G D o m := by
  have hP := (wG_P hG).2
  unfold sF sE
  by_cases q : G 2 o = 2
  · rw [if_pos q, pro_dn hG (wD_0 hw) q, Int32.lt_iff_toInt_lt]
    have := (pro_b hG (fun k hk => (hw.1 k (by omega)).1) o).1
    have e : (-1000000 : Int32).toInt = -1000000 := by decide
    omega
  · rw [if_neg q]
    refine fF_b hG hw o _ (fun y => ?_)
    unfold cdr at hm
    rw [if_neg q, if_pos y] at hm
    split at hm <;> omega
theorem sF_best {G D : gx_S} (hG : wG G) (hw : wD G D) {o : Nat} : (bst (sF G D o) (cdr G D o)).1 = bF G D o ∧ (G 2 o = 2 ∨ cnt G D o = 0 ∨ (bst (sF G D o) (cdr G D o)).2 = bC G D o) := by
  have b0 : bst (sF G D o) 1 = (sF G D o 0, 0) := by
    show (if -1000000 < sF G D o 0 then (sF G D o 0, 0) else (-1000000, 0)) = _
    rw [if_pos (sF_b hG hw (by unfold cdr; split; omega; split; (split <;> omega); exact Nat.pow_pos (by decide)))]
  unfold bF bC
  by_cases q : G 2 o = 2
  · have ec : cdr G D o = 1 := if_pos q
    rw [ec, b0, if_pos q]
    refine ⟨?_, Or.inl q⟩
    unfold sF sE
    rw [if_pos q]
    exact pro_dn hG (wD_0 hw) q
  · rw [if_neg q]
    by_cases y : cnt G D o = 0
    · have ec : cdr G D o = 1 := by
        unfold cdr
        rw [if_neg q, if_pos y, y]
        split <;> rfl
      rw [ec, b0, if_pos y]
      refine ⟨?_, Or.inr (Or.inl y)⟩
      unfold sF sE
      rw [if_neg q]
      exact pro_0 hG y _
    · have ec : cdr G D o = cds G D o := by
        unfold cdr cds
        rw [if_neg q, if_neg y]
      have ef : sF G D o = fF G D o (oneP G o) := by
        funext m
        unfold sF sE fF
        rw [if_neg q]
      rw [ec, ef, if_neg y]
      exact ⟨rfl, Or.inr (Or.inr rfl)⟩
theorem sE_best {G D : gx_S} (hG : wG G) (hw : wD G D) {o k : Nat} (hk : k < nP G) : (if G 2 o = 4 ∧ ¬ G 3 o < bF G D o then D 1 k else sE G D o (bst (sF G D o) (cdr G D o)).2 1 k) = bP G D o k := by
  unfold bP
  by_cases s : G 2 o = 4 ∧ ¬ G 3 o < bF G D o
  · rw [if_pos s, if_neg (fun z => z.2.2.2 s)]
  · rw [if_neg s]
    unfold sE
    by_cases q : G 2 o = 2
    · rw [if_pos q, if_neg (fun z => z.2.2.1 q)]
      simp [dn]
    · rw [if_neg q, dt_1]
      by_cases y : ow D o k = true
      · rw [if_pos ⟨hk, y⟩, if_pos ⟨hk, y, q, s⟩]
        have := cu_lt hk y
        rw [((sF_best (o := o) hG hw).2.resolve_left q).resolve_left (by omega)]
      · rw [if_neg (fun z => y z.2), if_neg (fun z => y z.2.1)]

/-! b15: the reference's best, turn, rounds -/
theorem u_shopsOf {G D T : gx_S} {sh : Int32} (h : pU G D sh T) (o : Nat) : n_shopsOf (nn o) T = some (nn (cnt G D o)) := by
  have hG := h.1
  obtain ⟨eP, hP⟩ := wG_P hG
  have e1 : T 0 4 = nn (nP G) := by rw [h.2.2.1.1.2.1, eP]
  unfold n_shopsOf
  refine lp_for (nP G) (fun j => (nn (cu D o j), nn j)) (fun j k hj => ?_) (fun k => ?_) 0 5000 (by omega) (by omega)
  · simp only [n_shopsOf_4, n_shopsOf_28]
    obtain ⟨d1, d2, d3⟩ := h.2.2.2.1 j (by omega)
    simp (disch := omega) only [e1, nn_le, nn_c, ck_n, nn_s, d2]
    rw [if_neg (by omega)]
    have hc : cu D o (j + 1) = cu D o j + (if ow D o j = true then 1 else 0) := rfl
    by_cases q : D 2 j = nn o
    · rw [if_pos (show ow D o j = true by simp [ow, q])] at hc
      rw [if_pos q, hc]
    · rw [if_neg (show ¬ ow D o j = true by simp [ow, q])] at hc
      rw [if_neg q, hc, Int32.add_zero]
      rfl
  · simp only [n_shopsOf_4]
    simp (disch := omega) only [e1, nn_le]
    rw [if_pos (by omega)]
    rfl
theorem fb_dv : ∀ a, a < 1000 → nn a / nn 1 = nn (a / 1) ∧ nn a / nn 10 = nn (a / 10) ∧ nn a / nn 100 = nn (a / 100) ∧ nn a - nn a / 10 * 10 = nn (a % 10) := by decide +kernel
theorem fb_dv2 : nn 1 / 10 = nn 0 ∧ nn 10 / 10 = nn 1 ∧ nn 100 / 10 = nn 10 ∧ nn 1000 / 10 = nn 100 := by decide +kernel
theorem dv_p {m e : Nat} (hm : m < 1000) (he : e < 3) : nn m / nn (10 ^ e) - nn m / nn (10 ^ e) / 10 * 10 = nn (m / 10 ^ e % 10) := by
  obtain ⟨a, b, c, _⟩ := fb_dv m hm
  match e, he with
  | 0, _ => rw [show (10 : Nat) ^ 0 = 1 from rfl, a]; exact (fb_dv _ (by omega)).2.2.2
  | 1, _ => rw [show (10 : Nat) ^ 1 = 10 from rfl, b]; exact (fb_dv _ (by omega)).2.2.2
  | 2, _ => rw [show (10 : Nat) ^ 2 = 100 from rfl, c]; exact (fb_dv _ (by omega)).2.2.2
theorem p10_nz : ∀ e, e < 3 → nn (10 ^ e) ≠ 0 ∧ (nn (10 ^ e) ≤ 9 ↔ e = 0) ∧ nn (10 ^ e) / 10 = nn (10 ^ e / 10) ∧ nn (10 ^ (e + 1)) / 10 = nn (10 ^ e) := by decide +kernel
/-- prices of an owner's shops by a code -/
theorem u_layCode {G D T : gx_S} {o m c : Nat} {one : Bool} (hG : wG G) (eP : T 0 4 = nn (nP G)) (e4 : ∀ k, k < 6 → T 4 k = D 2 k) (hm : m < 1000) (h3 : cnt G D o ≤ 3) (hc : one = false → nn c / 10 = nn (10 ^ (cnt G D o - 1)) ∨ cnt G D o = 0) : gt (n_layCode (nn o) (nn m) (nn c) (ib one) T) fun U => (∀ q j, q ≠ 7 → U q j = T q j) ∧ ∀ k, k < 6 → U 7 k = if k < nP G ∧ ow D o k = true then tm one (cnt G D o) m (cu D o k) else T 7 k := by
  have hP := (wG_P hG).2
  unfold n_layCode
  refine gt_for (nP G) (fun j t => t.2.1 = nn j ∧ (∀ q i, q ≠ 7 → t.2.2 q i = T q i) ∧ (∀ k, k < 6 → t.2.2 7 k = if k < j ∧ ow D o k = true then tm one (cnt G D o) m (cu D o k) else T 7 k) ∧ (one = false → t.1 = nn (10 ^ (cnt G D o - 1 - cu D o j)) ∨ cnt G D o = 0)) ?_ ?_ 0 5000 _ (by omega) ?_ (by omega)
  · rintro j ⟨x5, x6, U⟩ k hj ⟨rfl, f, g, g5⟩ hk
    simp only at f g g5
    simp only [n_layCode_9, n_layCode_51, n_layCode_68, n_layCode_70]
    have e1 : U 0 4 = nn (nP G) := by rw [f _ _ (by omega), eP]
    have e2 : U 4 j = D 2 j := by rw [f _ _ (by omega), e4 j (by omega)]
    simp (disch := omega) only [e1, nn_le, nn_c, ck_n, nn_s, e2, let_s]
    rw [if_neg (by omega)]
    have hcu : cu D o (j + 1) = cu D o j + (if ow D o j = true then 1 else 0) := rfl
    by_cases q : D 2 j = nn o
    · have q' : ow D o j = true := by simp [ow, q]
      rw [if_pos q'] at hcu
      have hlt : cu D o j < cnt G D o := cu_lt hj q'
      rw [if_pos q]
      have fin : ∀ x5', (one = false → x5' = nn (10 ^ (cnt G D o - 1 - cu D o (j + 1))) ∨ cnt G D o = 0) → ∀ p, p = tm one (cnt G D o) m (cu D o j) → gt (k (x5', nn (j + 1), gx_st U 7 j p)) fun U => (∀ q j, q ≠ 7 → U q j = T q j) ∧ ∀ k, k < 6 → U 7 k = if k < nP G ∧ ow D o k = true then tm one (cnt G D o) m (cu D o k) else T 7 k := by
        intro x5' h5 p hp
        refine hk _ ⟨rfl, fun q i hq => ?_, fun i hi => ?_, h5⟩
        · simp only
          rw [gx_st_q _ _ _ _ hq]; exact f q i hq
        · simp only
          by_cases z : i = j
          · subst z
            rw [gx_st_eq, if_pos ⟨by omega, q'⟩, hp]
          · rw [gx_st_j _ _ _ z, g i hi]
            by_cases y : i < j ∧ ow D o i = true
            · rw [if_pos y, if_pos ⟨by omega, y.2⟩]
            · rw [if_neg y, if_neg (fun w => y ⟨by omega, w.2⟩)]
      cases one with
      | true =>
        rw [show ib true = 1 from rfl, if_neg (by decide)]
        refine gt_ite (fun _ => fin _ (fun z => absurd z (by decide)) _ rfl) (fun _ => fin _ (fun z => absurd z (by decide)) _ rfl)
      | false =>
        rw [show ib false = 0 from rfl, if_pos rfl]
        have e5 : x5 = nn (10 ^ (cnt G D o - 1 - cu D o j)) := (g5 rfl).resolve_right (by omega)
        subst e5
        obtain ⟨z1, z2, z3, z4⟩ := p10_nz (cnt G D o - 1 - cu D o j) (by omega)
        unfold gx_nz
        rw [if_neg z1, dv_p hm (by omega)]
        by_cases y : cnt G D o - 1 - cu D o j = 0
        · rw [if_pos (z2.mpr y)]
          refine fin _ (fun _ => Or.inl ?_) _ rfl
          rw [show cnt G D o - 1 - cu D o (j + 1) = 0 by omega]
          rfl
        · rw [if_neg (fun w => y (z2.mp w)), z3]
          refine fin _ (fun _ => Or.inl ?_) _ rfl
          obtain ⟨e, he⟩ : ∃ e, cnt G D o - 1 - cu D o j = e + 1 := ⟨cnt G D o - 1 - cu D o j - 1, by omega⟩
          rw [he, show cnt G D o - 1 - cu D o (j + 1) = e by omega, Nat.pow_succ, Nat.mul_div_cancel _ (by decide)]
    · have q' : ¬ ow D o j = true := by simp [ow, q]
      rw [if_neg q'] at hcu
      rw [if_neg q]
      refine hk _ ⟨rfl, f, fun i hi => ?_, by rw [hcu]; exact g5⟩
      simp only
      rw [g i hi]
      by_cases y : i < j ∧ ow D o i = true
      · rw [if_pos y, if_pos ⟨by omega, y.2⟩]
      · rw [if_neg y, if_neg]
        rintro ⟨w1, w2⟩
        have : i ≠ j := fun z => q' (z ▸ w2)
        exact y ⟨by omega, w2⟩
  · rintro ⟨x5, x6, U⟩ k ⟨rfl, f, g, g5⟩
    simp only at f g g5
    simp only [n_layCode_9]
    have e1 : U 0 4 = nn (nP G) := by rw [f _ _ (by omega), eP]
    simp (disch := omega) only [e1, nn_le]
    rw [if_pos (by omega)]
    exact gt_some ⟨f, g⟩
  · exact ⟨rfl, fun _ _ _ => rfl, fun k hk => by rw [if_neg (fun z => absurd z.1 (by omega))], hc⟩
theorem cho_cg {G D D' : gx_S} {s : Nat} {sh : Int32} (h1 : ∀ k, k < nP G → D 1 k = D' 1 k) (h2 : ∀ k, k < nP G → opn G D k = opn G D' k) : cho G D s sh = cho G D' s sh := by
  obtain ⟨l, h⟩ := cho_isC G D s sh
  refine cho_u (isC_cg h (fun j hj => ?_) (fun j hj _ => ?_))
  · unfold opx
    rw [h2 j hj]
  · unfold isv
    rw [h1 j hj]
theorem tot_cg {G D D' : gx_S} {g g' : Nat → Int32} (h1 : ∀ k, k < nP G → D 1 k = D' 1 k) (h2 : ∀ k, k < nP G → opn G D k = opn G D' k) (hP : nP G ≤ 6) (hg : ∀ k, k < nP G → g k = g' k) : tot G D g = tot G D' g' := by
  refine sm_cg (fun s hs => ?_)
  rw [sx_d, sx_d, cho_cg (D' := D') h1 h2]
  rcases cho_n G D' s (-1) with e | ⟨i, hi, e, _⟩
  · rw [if_pos e, if_pos e]
  · rw [e, nn_c (by omega), hg i hi]
/-- an owner taken as in -/
def dn (D : gx_S) (o : Nat) : gx_S := fun i j => if i = 3 ∧ j = o then 1 else D i j
theorem pro_dn {G D : gx_S} (hG : wG G) (h0 : w0 D) {o : Nat} (h : G 2 o = 2) : pro G (dn D o) o = pro G D o := by
  have hP := (wG_P hG).2
  refine tot_cg (fun k _ => by simp [dn]) (fun k hk => ?_) hP (fun k _ => by simp [gPr, dn])
  have e : wh (dn D o) k = wh D k := by simp [wh, dn]
  unfold opn
  rw [e]
  by_cases q : wh D k = o
  · rw [q, h]
    simp
  · have : dn D o 3 (wh D k) = D 3 (wh D k) := by simp [dn, q]
    rw [this]
theorem pro_0 {G D : gx_S} (hG : wG G) {o : Nat} (h : cnt G D o = 0) (τ : Nat → Int32) : pro G (dt G D o τ) o = 0 := by
  have hP := (wG_P hG).2
  have hno : ∀ k, k < nP G → ¬ ow D o k = true := fun k hk hq => by
    have := cu_lt hk hq
    omega
  unfold pro
  rw [tot_sl hG, sm_cg (g := fun _ => 0) (fun k hk => ?_), sm_0]
  unfold gPr
  rw [dt_2, if_neg (by have := hno k hk; simpa [ow] using this), Int32.mul_zero]
/-- the standing at code m -/
def sE (G D : gx_S) (o m : Nat) : gx_S := if G 2 o = 2 then dn D o else dt G D o (tm (oneP G o) (cnt G D o) m)
def cdr (G D : gx_S) (o : Nat) : Nat := if G 2 o = 2 then 1 else if oneP G o = true then (if cnt G D o = 0 then 1 else 10) else 10 ^ cnt G D o
def sF (G D : gx_S) (o m : Nat) : Int32 := pro G (sE G D o m) o
theorem sF_b {G D : gx_S} (hG : wG G) (hw : wD G D) {o m : Nat} (hm : m < cdr G D o) : (-1000000 : Int32) < sF G D o m := by
  have hP := (wG_P hG).2
  unfold sF sE
  by_cases q : G 2 o = 2
  · rw [if_pos q, pro_dn hG (wD_0 hw) q, Int32.lt_iff_toInt_lt]
    have := (pro_b hG (fun k hk => (hw.1 k (by omega)).1) o).1
    have e : (-1000000 : Int32).toInt = -1000000 := by decide
    omega
  · rw [if_neg q]
    refine fF_b hG hw o _ (fun y => ?_)
    unfold cdr at hm
    rw [if_neg q, if_pos y] at hm
    split at hm <;> omega
theorem sF_best {G D : gx_S} (hG : wG G) (hw : wD G D) {o : Nat} : (bst (sF G D o) (cdr G D o)).1 = bF G D o ∧ (G 2 o = 2 ∨ cnt G D o = 0 ∨ (bst (sF G D o) (cdr G D o)).2 = bC G D o) := by
  have b0 : bst (sF G D o) 1 = (sF G D o 0, 0) := by
    show (if -1000000 < sF G D o 0 then (sF G D o 0, 0) else (-1000000, 0)) = _
    rw [if_pos (sF_b hG hw (by unfold cdr; split; omega; split; (split <;> omega); exact Nat.pow_pos (by decide)))]
  unfold bF bC
  by_cases q : G 2 o = 2
  · have ec : cdr G D o = 1 := if_pos q
    rw [ec, b0, if_pos q]
    refine ⟨?_, Or.inl q⟩
    unfold sF sE
    rw [if_pos q]
    exact pro_dn hG (wD_0 hw) q
  · rw [if_neg q]
    by_cases y : cnt G D o = 0
    · have ec : cdr G D o = 1 := by
        unfold cdr
        rw [if_neg q, if_pos y, y]
        split <;> rfl
      rw [ec, b0, if_pos y]
      refine ⟨?_, Or.inr (Or.inl y)⟩
      unfold sF sE
      rw [if_neg q]
      exact pro_0 hG y _
    · have ec : cdr G D o = cds G D o := by
        unfold cdr cds
        rw [if_neg q, if_neg y]
      have ef : sF G D o = fF G D o (oneP G o) := by
        funext m
        unfold sF sE fF
        rw [if_neg q]
      rw [ec, ef, if_neg y]
      exact ⟨rfl, Or.inr (Or.inr rfl)⟩
theorem sE_best {G D : gx_S} (hG : wG G) (hw : wD G D) {o k : Nat} (hk : k < nP G) : (if G 2 o = 4 ∧ ¬ G 3 o < bF G D o then D 1 k else sE G D o (bst (sF G D o) (cdr G D o)).2 1 k) = bP G D o k := by
  unfold bP
  by_cases s : G 2 o = 4 ∧ ¬ G 3 o < bF G D o
  · rw [if_pos s, if_neg (fun z => z.2.2.2 s)]
  · rw [if_neg s]
    unfold sE
    by_cases q : G 2 o = 2
    · rw [if_pos q, if_neg (fun z => z.2.2.1 q)]
      simp [dn]
    · rw [if_neg q, dt_1]
      by_cases y : ow D o k = true
      · rw [if_pos ⟨hk, y⟩, if_pos ⟨hk, y, q, s⟩]
        have := cu_lt hk y
        rw [((sF_best (o := o) hG hw).2.resolve_left q).resolve_left (by omega)]
      · rw [if_neg (fun z => y z.2), if_neg (fun z => y z.2.1)]

/-! b16: the reference's best laid; turns; rounds -/
/-- what laying a best leaves as it was -/
def fL (S T : gx_S) : Prop := ∀ q j, q ≠ 3 → q ≠ 7 → q ≠ 15 → q ≠ 16 → q ≠ 17 → (q ≠ 0 ∨ (j ≠ 26 ∧ j ≠ 27)) → T q j = S q j
theorem fL_r (S : gx_S) : fL S S := fun _ _ _ _ _ _ _ _ => rfl
theorem fL_t {S T U : gx_S} (h : fL S T) (h' : fL T U) : fL S U := fun q j a1 a2 a3 a4 a5 a6 => (h' q j a1 a2 a3 a4 a5 a6).trans (h q j a1 a2 a3 a4 a5 a6)
theorem pU_L {G D E S T : gx_S} {sh : Int32} (h : pU G D sh S) (f : fL S T) (h0 : w0 E) (hd : uD E T) : pU G E sh T := by
  obtain ⟨hG, _, ⟨⟨a1, a2, a3⟩, b, c, d⟩, _, e⟩ := h
  refine ⟨hG, h0, ⟨⟨?_, ?_, ?_⟩, fun o ho => ?_, fun k hk => ?_, fun s i hs hi => ?_⟩, hd, ?_⟩
  · rw [f _ _ (by omega) (by omega) (by omega) (by omega) (by omega) (by omega)]; exact a1
  · rw [f _ _ (by omega) (by omega) (by omega) (by omega) (by omega) (by omega)]; exact a2
  · rw [f _ _ (by omega) (by omega) (by omega) (by omega) (by omega) (by omega)]; exact a3
  · rw [f _ _ (by omega) (by omega) (by omega) (by omega) (by omega) (by omega), f _ _ (by omega) (by omega) (by omega) (by omega) (by omega) (by omega)]; exact b o ho
  · rw [f _ _ (by omega) (by omega) (by omega) (by omega) (by omega) (by omega), f _ _ (by omega) (by omega) (by omega) (by omega) (by omega) (by omega)]; exact c k hk
  · rw [f _ _ (by omega) (by omega) (by omega) (by omega) (by omega) (by omega)]; exact d s i hs hi
  · rw [f _ _ (by omega) (by omega) (by omega) (by omega) (by omega) (by omega)]; exact e
theorem uD_15 {D S T : gx_S} (h : uD D S) (f : f15 S T) : uD D T := fun j hj => by
  rw [f _ _ (by omega), f _ _ (by omega), f _ _ (by omega)]; exact h j hj
theorem fL_15 {S T : gx_S} (f : f15 S T) : fL S T := fun q j _ _ a _ _ _ => f q j a
theorem w0_sE {G D : gx_S} (h : w0 D) (o m : Nat) : w0 (sE G D o m) := fun j hj => by
  unfold sE
  split
  · have : dn D o 2 j = D 2 j := by simp [dn]
    rw [this]; exact h j hj
  · rw [dt_2]; exact h j hj
theorem sE_2 (G D : gx_S) (o m j : Nat) : sE G D o m 2 j = D 2 j := by
  unfold sE
  split
  · simp [dn]
  · exact dt_2 _ _ _ _ _
theorem sE_3 (G D : gx_S) (o m j : Nat) : sE G D o m 3 j = if j = o then 1 else D 3 j := by
  unfold sE
  split
  · simp [dn]
  · exact dt_3 _ _ _ _ _
/-- own prices may be any, all else is D's with the owner in -/
def uO (G D : gx_S) (o : Nat) (T : gx_S) : Prop := ∀ j, j < 6 → (¬ (j < nP G ∧ ow D o j = true) → T 7 j = D 1 j) ∧ T 4 j = D 2 j ∧ T 3 j = if j = o then 1 else D 3 j
theorem cdr_le {G D : gx_S} {o : Nat} (h3 : cnt G D o ≤ 3) : cdr G D o ≤ 1000 ∧ 0 < cdr G D o := by
  have : ∀ c, c ≤ 3 → 10 ^ c ≤ 1000 ∧ 0 < 10 ^ c := by decide
  have := this _ h3
  unfold cdr
  split
  · omega
  · split
    · split <;> omega
    · exact this
theorem sE_n (G D : gx_S) (o m : Nat) {j : Nat} (h : ¬ (j < nP G ∧ ow D o j = true)) : sE G D o m 1 j = D 1 j := by
  unfold sE
  split
  · simp [dn]
  · rw [dt_1, if_neg h]
theorem u_layBest {G D S : gx_S} (h : pU G D (-1) S) (hw : wD G D) {o : Nat} (ho : o < 6) : gt (n_layBest (nn o) S) fun T => fL S T ∧ uD D T ∧ (∀ k, k < nP G → T 16 k = bP G D o k) ∧ T 0 26 = bI G D o ∧ T 0 27 = bG G D o := by
  have hG := h.1
  have hu := h.2.2.1
  have hd := h.2.2.2.1
  have h3 := hw.2.2 o ho
  obtain ⟨eP, hP⟩ := wG_P hG
  obtain ⟨hc1, hc2⟩ := cdr_le (G := G) (D := D) (o := o) h3
  have k1 : S 1 o = G 2 o := (hu.2.1 o ho).1
  have k2 : S 2 o = G 3 o := (hu.2.1 o ho).2
  unfold n_layBest
  rw [u_shopsOf h o, cp_s, ck_n ho (by omega), nn_c (by omega), (hd o ho).2.2]
  refine gt_for (nP G) (fun j t => t.1 = nn j ∧ (∀ q i, q ≠ 16 → q ≠ 17 → t.2 q i = S q i) ∧ ∀ i, i < j → t.2 17 i = D 1 i) ?_ ?_ 0 5000 _ (by omega) ⟨rfl, fun _ _ _ _ => rfl, fun i hi => absurd hi (by omega)⟩ (by omega)
  · rintro j ⟨x, T⟩ k hj ⟨rfl, f, g⟩ hk
    simp only at f g
    simp only [n_layBest_16]
    have e1 : T 0 4 = nn (nP G) := by rw [f _ _ (by omega) (by omega), hu.1.2.1, eP]
    have e7 : T 7 j = D 1 j := by rw [f _ _ (by omega) (by omega)]; exact (hd j (by omega)).1
    simp (disch := omega) only [e1, nn_le, nn_c, ck_n, let_s, nn_s, e7]
    rw [if_neg (by omega)]
    refine hk _ ⟨rfl, fun q i h1 h2 => ?_, fun i hi => ?_⟩
    · simp (disch := omega) only [gx_st_q]
      exact f q i h1 h2
    · simp only
      rw [gx_st_q _ _ _ _ (by omega)]
      by_cases z : i = j
      · subst z; rw [gx_st_eq]
      · rw [gx_st_j _ _ _ z]; exact g i (by omega)
  · rintro ⟨x, T0⟩ k ⟨rfl, f0, g0⟩
    simp only at f0 g0
    simp only [n_layBest_16]
    have e1 : T0 0 4 = nn (nP G) := by rw [f0 _ _ (by omega) (by omega), hu.1.2.1, eP]
    have e3 : T0 1 o = G 2 o := by rw [f0 _ _ (by omega) (by omega)]; exact k1
    simp (disch := omega) only [e1, nn_le, ck_n, nn_c, let_s, gx_st_q, e3]
    rw [if_pos (by omega), nar_b (Or.inr rfl)]
    clear k
    obtain ⟨T, hT⟩ : ∃ T, T = gx_st T0 3 o 1 := ⟨_, rfl⟩
    have fT : ∀ q j, q ≠ 3 → q ≠ 16 → q ≠ 17 → T q j = S q j := fun q j a1 a2 a3 => by rw [hT, gx_st_q _ _ _ _ a1]; exact f0 q j a2 a3
    have g17 : ∀ i, i < nP G → T 17 i = D 1 i := fun i hi => by rw [hT, gx_st_q _ _ _ _ (by omega)]; exact g0 i hi
    have g3 : ∀ i, i < 6 → T 3 i = if i = o then 1 else D 3 i := fun i hi => by
      rw [hT]
      by_cases z : i = o
      · subst z; rw [gx_st_eq, if_pos rfl]
      · rw [gx_st_j _ _ _ z, if_neg z, f0 _ _ (by omega) (by omega)]; exact (hd i hi).2.2
    rw [← hT]
    clear hT f0 g0 e1 e3 T0
    -- the codes
    have main : gt (n_layBest_142 (nn o) (D 3 o) (nn (cdr G D o)) (ib (oneP G o)) T) fun T => fL S T ∧ uD D T ∧ (∀ k, k < nP G → T 16 k = bP G D o k) ∧ T 0 26 = bI G D o ∧ T 0 27 = bG G D o := by
      unfold n_layBest_142
      refine gt_for (cdr G D o) (fun m t => t.1 = nn m ∧ fL S t.2 ∧ uO G D o t.2 ∧ (∀ i, i < nP G → t.2 17 i = D 1 i) ∧ (0 < m → t.2 0 27 = (bst (sF G D o) m).1 ∧ ∀ i, i < nP G → t.2 16 i = sE G D o (bst (sF G D o) m).2 1 i) ∧ (m = 0 → ∀ i, i < 6 → t.2 7 i = D 1 i)) ?_ ?_ 0 5000 _ (by omega) ?_ (by omega)
      · rintro m ⟨x, T⟩ kk hm ⟨rfl, f, u, g17, gb, gz⟩ hk
        simp only at f u g17 gb gz
        simp only [n_layBest_145]
        have e1 : T 1 o = G 2 o := by rw [f _ _ (by omega) (by omega) (by omega) (by omega) (by omega) (by omega)]; exact k1
        have eP4 : T 0 4 = nn (nP G) := by rw [f _ _ (by omega) (by omega) (by omega) (by omega) (by omega) (by omega), hu.1.2.1, eP]
        simp (disch := omega) only [nn_le, ck_n, nn_c, e1]
        rw [if_neg (by omega)]
        -- behind the code is laid
        have tail : ∀ U, fL S U → uD (sE G D o m) U → (∀ i, i < nP G → U 17 i = D 1 i) → (0 < m → U 0 27 = (bst (sF G D o) m).1 ∧ ∀ i, i < nP G → U 16 i = sE G D o (bst (sF G D o) m).2 1 i) → gt (n_layBest_173 kk (nn o) (D 3 o) (nn (cdr G D o)) (ib (oneP G o)) (nn m) U) fun T => fL S T ∧ uD D T ∧ (∀ k, k < nP G → T 16 k = bP G D o k) ∧ T 0 26 = bI G D o ∧ T 0 27 = bG G D o := by
          intro U fU uU g17 gb
          have pU' : pU G (sE G D o m) (-1) U := pU_L h fU (w0_sE (wD_0 hw) o m) uU
          unfold n_layBest_173
          refine gt_cs (u_profitOf pU' ho) (fun a V hV => ?_)
          obtain ⟨ea, fV⟩ := hV
          simp only at ea fV
          have fSV : fL S V := fL_t fU (fL_15 fV)
          have uV : uD (sE G D o m) V := uD_15 uU fV
          have uOV : ∀ W, (∀ q j, q ≠ 16 → (q ≠ 0 ∨ j ≠ 27) → W q j = V q j) → uO G D o W := fun W fW j hj => by
            obtain ⟨a1, a2, a3⟩ := uV j hj
            refine ⟨fun hn => ?_, ?_, ?_⟩
            · rw [fW _ _ (by omega) (by omega), a1]; exact sE_n G D o m hn
            · rw [fW _ _ (by omega) (by omega), a2]; exact sE_2 G D o m j
            · rw [fW _ _ (by omega) (by omega), a3]; exact sE_3 G D o m j
          have ePV : V 0 4 = nn (nP G) := by rw [fSV _ _ (by omega) (by omega) (by omega) (by omega) (by omega) (by omega), hu.1.2.1, eP]
          have eFm : a = sF G D o m := ea
          have skip : 0 < m → ¬ (bst (sF G D o) m).1 < sF G D o m → gt (n_layBest_232 kk (nn o) (D 3 o) (nn (cdr G D o)) (ib (oneP G o)) (nn m) V) fun T => fL S T ∧ uD D T ∧ (∀ k, k < nP G → T 16 k = bP G D o k) ∧ T 0 26 = bI G D o ∧ T 0 27 = bG G D o := fun hm0 hn => by
            unfold n_layBest_232
            rw [nn_s]
            have eb : bst (sF G D o) (m + 1) = bst (sF G D o) m := if_neg hn
            refine hk _ ⟨rfl, fSV, uOV V (fun _ _ _ _ => rfl), fun i hi => ?_, fun _ => ?_, fun z => absurd z (by omega)⟩
            · simp only
              rw [fV _ _ (by omega)]; exact g17 i hi
            · rw [eb]
              refine ⟨?_, fun i hi => ?_⟩
              · simp only
                rw [fV _ _ (by omega)]; exact (gb hm0).1
              · simp only
                rw [fV _ _ (by omega)]; exact (gb hm0).2 i hi
          have take : (bst (sF G D o) m).1 < sF G D o m → gt (n_layBest_194 kk (nn o) (D 3 o) (nn (cdr G D o)) (ib (oneP G o)) (nn m) a V) fun T => fL S T ∧ uD D T ∧ (∀ k, k < nP G → T 16 k = bP G D o k) ∧ T 0 26 = bI G D o ∧ T 0 27 = bG G D o := fun hy => by
            have eb : bst (sF G D o) (m + 1) = (sF G D o m, m) := if_pos hy
            unfold n_layBest_194
            refine gt_let ?_
            refine gt_for (nP G) (fun j t => t.1 = nn j ∧ (∀ q i, q ≠ 16 → (q ≠ 0 ∨ i ≠ 27) → t.2 q i = V q i) ∧ t.2 0 27 = a ∧ ∀ i, i < j → t.2 16 i = sE G D o m 1 i) ?_ ?_ 0 5000 _ (by omega) ?_ (by omega)
            · rintro j ⟨x, W⟩ k3 hj ⟨rfl, f, g1, g2⟩ hk3
              simp only at f g1 g2
              simp only [n_layBest_203]
              have e4 : W 0 4 = nn (nP G) := by rw [f _ _ (by omega) (by omega), ePV]
              have e7 : W 7 j = sE G D o m 1 j := by rw [f _ _ (by omega) (by omega)]; exact (uV j (by omega)).1
              simp (disch := omega) only [e4, nn_le, nn_c, ck_n, let_s, nn_s, e7]
              rw [if_neg (by omega)]
              refine hk3 _ ⟨rfl, fun q i h1 h2 => ?_, ?_, fun i hi => ?_⟩
              · simp only
                rw [gx_st_q _ _ _ _ h1]; exact f q i h1 h2
              · simp only
                rw [gx_st_q _ _ _ _ (by omega)]; exact g1
              · simp only
                by_cases z : i = j
                · subst z; rw [gx_st_eq]
                · rw [gx_st_j _ _ _ z]; exact g2 i (by omega)
            · rintro ⟨x, W⟩ k3 ⟨rfl, f, g1, g2⟩
              simp only at f g1 g2
              simp only [n_layBest_203, n_layBest_232]
              have e4 : W 0 4 = nn (nP G) := by rw [f _ _ (by omega) (by omega), ePV]
              simp (disch := omega) only [e4, nn_le, nn_s]
              rw [if_pos (by omega)]
              refine hk _ ⟨rfl, fun q j a1 a2 a3 a4 a5 a6 => ?_, uOV W f, fun i hi => ?_, fun _ => ?_, fun z => absurd z (by omega)⟩
              · simp only
                rw [f q j a4 (by omega)]; exact fSV q j a1 a2 a3 a4 a5 a6
              · simp only
                rw [f _ _ (by omega) (by omega), fV _ _ (by omega)]; exact g17 i hi
              · rw [eb]
                exact ⟨by simp only; rw [g1, eFm], g2⟩
            · refine ⟨rfl, fun q i h1 h2 => ?_, gx_st_eq V 0 27 a, fun i hi => absurd hi (by omega)⟩
              by_cases z : q = 0
              · subst z
                exact gx_st_j V 0 _ (by omega)
              · exact gx_st_q _ _ _ _ z
          rw [eFm] at take ⊢
          by_cases q0 : m = 0
          · subst q0
            rw [if_pos (show nn 0 = 0 from rfl)]
            exact take (sF_b hG hw hm)
          · rw [if_neg (by rw [nn_0, nn_eq (by omega) (by omega)]; exact q0)]
            have eb27 : V 0 27 = (bst (sF G D o) m).1 := by rw [fV _ _ (by omega)]; exact (gb (by omega)).1
            rw [eb27]
            by_cases y : sF G D o m ≤ (bst (sF G D o) m).1
            · rw [if_pos y]
              exact skip (by omega) (by lia)
            · rw [if_neg y]
              exact take (by lia)
        by_cases q2 : G 2 o = 2
        · rw [if_pos q2]
          refine tail T f (fun j hj => ?_) g17 gb
          obtain ⟨a1, a2, a3⟩ := u j hj
          have m0 : m = 0 := by
            unfold cdr at hm
            rw [if_pos q2] at hm
            omega
          subst m0
          rw [sE_2, sE_3]
          refine ⟨?_, a2, a3⟩
          rw [gz rfl j hj]
          unfold sE
          rw [if_pos q2]
          simp [dn]
        · rw [if_neg q2]
          refine gt_cp (u_layCode (D := D) (one := oneP G o) hG eP4 (fun k hk => (u k hk).2.1) (by omega) h3 (fun hone => ?_)) (fun U hU => ?_)
          · unfold cdr
            rw [if_neg q2, if_neg (by rw [hone]; decide)]
            obtain ⟨z1, z2, z3, z4⟩ := fb_dv2
            have : ∀ c, c ≤ 3 → nn (10 ^ c) / 10 = nn (10 ^ (c - 1)) ∨ c = 0 := by decide +kernel
            exact this _ h3
          · obtain ⟨u1, u2⟩ := hU
            refine tail U (fun q j a1 a2 a3 a4 a5 a6 => ?_) (fun j hj => ?_) (fun i hi => ?_) (fun hm0 => ?_)
            · rw [u1 q j a2]; exact f q j a1 a2 a3 a4 a5 a6
            · obtain ⟨a1, a2, a3⟩ := u j hj
              rw [u2 j hj, u1 _ _ (by omega), u1 _ _ (by omega), a2, a3, sE_2, sE_3]
              refine ⟨?_, rfl, rfl⟩
              unfold sE
              rw [if_neg q2, dt_1]
              by_cases z : j < nP G ∧ ow D o j = true
              · rw [if_pos z, if_pos z]
              · rw [if_neg z, if_neg z, a1 z]
            · rw [u1 _ _ (by omega)]; exact g17 i hi
            · rw [u1 _ _ (by omega)]
              refine ⟨(gb hm0).1, fun i hi => ?_⟩
              rw [u1 _ _ (by omega)]; exact (gb hm0).2 i hi
      · rintro ⟨x, T⟩ kk ⟨rfl, f, u, g17, gb, gz⟩
        simp only at f u g17 gb gz
        obtain ⟨gb1, gb2⟩ := gb hc2
        obtain ⟨eb1, eb2⟩ := sF_best (o := o) hG hw
        rw [eb1] at gb1
        have e1 : T 1 o = G 2 o := by rw [f _ _ (by omega) (by omega) (by omega) (by omega) (by omega) (by omega)]; exact k1
        have e2 : T 2 o = G 3 o := by rw [f _ _ (by omega) (by omega) (by omega) (by omega) (by omega) (by omega)]; exact k2
        have eP4 : T 0 4 = nn (nP G) := by rw [f _ _ (by omega) (by omega) (by omega) (by omega) (by omega) (by omega), hu.1.2.1, eP]
        have fin : gt (n_layBest_267 (nn o) (D 3 o) (bI G D o) T) fun T => fL S T ∧ uD D T ∧ (∀ k, k < nP G → T 16 k = bP G D o k) ∧ T 0 26 = bI G D o ∧ T 0 27 = bG G D o := by
          unfold n_layBest_267
          rw [show ∀ kq, gx_bz (bI G D o) kq = (kq : Option gx_S) from fun kq => by rcases bI_01 G D o with e | e <;> rw [e]; exact bz_0; exact bz_1]
          refine gt_let ?_
          refine gt_for (nP G) (fun j t => t.1 = nn j ∧ (∀ q i, q ≠ 7 → q ≠ 16 → (q ≠ 0 ∨ i ≠ 26) → t.2 q i = T q i) ∧ t.2 0 26 = bI G D o ∧ (∀ i, i < 6 → t.2 7 i = if i < j then D 1 i else T 7 i) ∧ ∀ i, i < nP G → t.2 16 i = if i < j ∧ (G 2 o = 4 ∧ ¬ G 3 o < bF G D o) then D 1 i else T 16 i) ?_ ?_ 0 5000 _ (by omega) ?_ (by omega)
          · rintro j ⟨x, W⟩ k3 hj ⟨rfl, f3, g1, g2, g3⟩ hk3
            simp only at f3 g1 g2 g3
            simp only [n_layBest_273, n_layBest_329, n_layBest_336]
            have w4 : W 0 4 = nn (nP G) := by rw [f3 _ _ (by omega) (by omega) (by omega), eP4]
            have w17 : W 17 j = D 1 j := by rw [f3 _ _ (by omega) (by omega) (by omega)]; exact g17 j hj
            have w1 : W 1 o = G 2 o := by rw [f3 _ _ (by omega) (by omega) (by omega)]; exact e1
            simp (disch := omega) only [w4, nn_le, nn_c, ck_n, let_s, nn_s, w17, gx_st_q, w1, g1]
            rw [if_neg (by omega)]
            have nx : ∀ p, p = (if G 2 o = 4 ∧ ¬ G 3 o < bF G D o then D 1 j else T 16 j) → gt (k3 (nn (j + 1), gx_st (gx_st W 7 j (D 1 j)) 16 j p)) fun T => fL S T ∧ uD D T ∧ (∀ k, k < nP G → T 16 k = bP G D o k) ∧ T 0 26 = bI G D o ∧ T 0 27 = bG G D o := fun p hp => by
              refine hk3 _ ⟨rfl, fun q i h1 h2 h3 => ?_, ?_, fun i hi => ?_, fun i hi => ?_⟩
              · simp only
                rw [gx_st_q _ _ _ _ h2, gx_st_q _ _ _ _ h1]; exact f3 q i h1 h2 h3
              · simp only
                rw [gx_st_q _ _ _ _ (by omega), gx_st_q _ _ _ _ (by omega)]; exact g1
              · simp only
                rw [gx_st_q _ _ _ _ (by omega)]
                by_cases z : i = j
                · subst z; rw [gx_st_eq, if_pos (by omega)]
                · rw [gx_st_j _ _ _ z, g2 i hi]
                  by_cases y : i < j
                  · rw [if_pos y, if_pos (by omega)]
                  · rw [if_neg y, if_neg (by omega)]
              · simp only
                by_cases z : i = j
                · subst z
                  rw [gx_st_eq, hp]
                  by_cases y : G 2 o = 4 ∧ ¬ G 3 o < bF G D o
                  · rw [if_pos y, if_pos ⟨by omega, y⟩]
                  · rw [if_neg y, if_neg (fun w => y w.2)]
                · rw [gx_st_j _ _ _ z, gx_st_q _ _ _ _ (by omega), g3 i hi]
                  by_cases y : i < j ∧ (G 2 o = 4 ∧ ¬ G 3 o < bF G D o)
                  · rw [if_pos y, if_pos ⟨by omega, y.2⟩]
                  · rw [if_neg y, if_neg (fun w => y ⟨by omega, w.2⟩)]
            have w16 : W 16 j = T 16 j := by rw [g3 j hj, if_neg (fun w => absurd w.1 (by omega))]
            by_cases q4 : G 2 o = 4
            · rw [if_pos q4]
              by_cases y : G 3 o < bF G D o
              · have : bI G D o = 1 := if_pos ⟨q4, y⟩
                rw [if_neg (show ¬ bI G D o = 0 by rw [this]; decide), w16]
                exact nx _ (by rw [if_neg (fun w => w.2 y)])
              · have : bI G D o = 0 := if_neg (fun w => y w.2)
                rw [if_pos this]
                exact nx _ (by rw [if_pos ⟨q4, y⟩])
            · rw [if_neg q4, w16]
              exact nx _ (by rw [if_neg (fun w => q4 w.1)])
          · rintro ⟨x, W⟩ k3 ⟨rfl, f3, g1, g2, g3⟩
            simp only at f3 g1 g2 g3
            simp only [n_layBest_273, n_layBest_365, n_layBest_369]
            have w4 : W 0 4 = nn (nP G) := by rw [f3 _ _ (by omega) (by omega) (by omega), eP4]
            have w1 : W 1 o = G 2 o := by rw [f3 _ _ (by omega) (by omega) (by omega)]; exact e1
            have w27 : W 0 27 = bF G D o := by rw [f3 _ _ (by omega) (by omega) (by omega)]; exact gb1
            simp (disch := omega) only [w4, nn_le, nn_c, ck_n, let_s, w1, g1, w27]
            rw [if_pos (by omega), nar_b (wD_1 hw ho)]
            have nx : ∀ p, p = bG G D o → gt (some (gx_st (gx_st W 0 27 p) 3 o (D 3 o))) fun T => fL S T ∧ uD D T ∧ (∀ k, k < nP G → T 16 k = bP G D o k) ∧ T 0 26 = bI G D o ∧ T 0 27 = bG G D o := fun p hp => by
              refine gt_some ⟨fun q j a1 a2 a3 a4 a5 a6 => ?_, fun j hj => ?_, fun i hi => ?_, ?_, ?_⟩
              · rw [gx_st_q _ _ _ _ a1]
                have : gx_st W 0 27 p q j = W q j := by
                  by_cases z : q = 0
                  · subst z; exact gx_st_j _ _ _ (by omega)
                  · exact gx_st_q _ _ _ _ z
                rw [this, f3 q j a2 a4 (by omega)]
                exact f q j a1 a2 a3 a4 a5 a6
              · obtain ⟨a1, a2, a3⟩ := u j hj
                refine ⟨?_, ?_, ?_⟩
                · rw [gx_st_q _ _ _ _ (by omega), gx_st_q _ _ _ _ (by omega), g2 j hj]
                  by_cases z : j < nP G
                  · rw [if_pos z]
                  · rw [if_neg z]; exact a1 (fun w => z w.1)
                · rw [gx_st_q _ _ _ _ (by omega), gx_st_q _ _ _ _ (by omega), f3 _ _ (by omega) (by omega) (by omega)]; exact a2
                · by_cases z : j = o
                  · subst z; rw [gx_st_eq]
                  · rw [gx_st_j _ _ _ z, gx_st_q _ _ _ _ (by omega), f3 _ _ (by omega) (by omega) (by omega), a3, if_neg z]
              · rw [gx_st_q _ _ _ _ (by omega), gx_st_q _ _ _ _ (by omega), g3 i hi, ← sE_best hG hw hi, gb2 i hi]
                by_cases y : G 2 o = 4 ∧ ¬ G 3 o < bF G D o
                · rw [if_pos y, if_pos ⟨hi, y⟩]
                · rw [if_neg y, if_neg (fun w => y w.2)]
              · rw [gx_st_q _ _ _ _ (by omega), gx_st_j _ _ _ (by omega)]; exact g1
              · rw [gx_st_q _ _ _ _ (by omega), gx_st_eq]; exact hp
            by_cases q4 : G 2 o = 4
            · rw [if_pos q4]
              by_cases y : G 3 o < bF G D o
              · have : bI G D o = 1 := if_pos ⟨q4, y⟩
                rw [if_neg (show ¬ bI G D o = 0 by rw [this]; decide)]
                exact nx _ (by unfold bG; rw [if_neg (fun w => w.2 y)])
              · have : bI G D o = 0 := if_neg (fun w => y w.2)
                rw [if_pos this]
                exact nx _ (by unfold bG; rw [if_pos ⟨q4, y⟩])
            · rw [if_neg q4]
              exact nx _ (by unfold bG; rw [if_neg (fun w => q4 w.1)])
          · refine ⟨rfl, fun q i h1 h2 h3 => ?_, gx_st_eq T 0 26 (bI G D o), fun i hi => ?_, fun i hi => ?_⟩
            · by_cases z : q = 0
              · subst z; exact gx_st_j T 0 _ (by omega)
              · exact gx_st_q T _ _ _ z
            · rw [if_neg (by omega)]
              show gx_st T 0 26 (bI G D o) 7 i = T 7 i
              exact gx_st_q _ _ _ _ (by decide)
            · rw [if_neg (fun w => absurd w.1 (by omega))]
              show gx_st T 0 26 (bI G D o) 16 i = T 16 i
              exact gx_st_q _ _ _ _ (by decide)
        simp only [n_layBest_145, n_layBest_266]
        simp (disch := omega) only [nn_le, ck_n, nn_c, e1, e2, gb1]
        rw [if_pos (by omega)]
        by_cases q4 : G 2 o = 4
        · rw [if_pos q4]
          by_cases y : bF G D o ≤ G 3 o
          · have : bI G D o = 0 := if_neg (fun w => by have := w.2; lia)
            rw [if_pos y, ← this]
            exact fin
          · have : bI G D o = 1 := if_pos ⟨q4, by lia⟩
            rw [if_neg y, ← this]
            exact fin
        · have : bI G D o = 0 := if_neg (fun w => q4 w.1)
          rw [if_neg q4, ← this]
          exact fin
      · refine ⟨rfl, fun q j a1 a2 a3 a4 a5 a6 => fT q j a1 a4 a5, fun j hj => ?_, g17, fun z => absurd z (by omega), fun _ i hi => ?_⟩
        · simp only
          refine ⟨fun _ => ?_, ?_, g3 j hj⟩
          · rw [fT _ _ (by omega) (by omega) (by omega)]; exact (hd j hj).1
          · rw [fT _ _ (by omega) (by omega) (by omega)]; exact (hd j hj).2.1
        · simp only
          rw [fT _ _ (by omega) (by omega) (by omega)]; exact (hd i hi).1
    have codes : ∀ one, one = oneP G o → gt (n_layBest_94 (nn o) (nn (cnt G D o)) (D 3 o) 1 (ib one) T) fun T => fL S T ∧ uD D T ∧ (∀ k, k < nP G → T 16 k = bP G D o k) ∧ T 0 26 = bI G D o ∧ T 0 27 = bG G D o := by
      intro one hone
      have kT : T 1 o = G 2 o := by rw [fT _ _ (by omega) (by omega) (by omega)]; exact k1
      unfold n_layBest_94
      refine gt_for (cnt G D o) (fun j t => t.1 = nn (if one = true then (if j = 0 then 1 else 10) else 10 ^ j) ∧ t.2 = nn j ∧ (G 2 o = 2 → j = 0)) ?_ ?_ 0 5000 _ (by omega) ?_ (by omega)
      · rintro j ⟨x4, x6⟩ kk hj ⟨rfl, rfl, h2⟩ hk
        simp only [n_layBest_99, n_layBest_131, n_layBest_133]
        simp (disch := omega) only [nn_le, ck_n, nn_c, kT, nn_s]
        rw [if_neg (by omega)]
        by_cases q2 : G 2 o = 2
        · rw [if_pos q2]
          have ec : cdr G D o = 1 := if_pos q2
          rw [ec, ← hone] at main
          have j0 := h2 q2
          subst j0
          have : (if one = true then (if 0 = 0 then 1 else 10) else 10 ^ 0) = 1 := by split <;> rfl
          rw [this]
          exact main
        · rw [if_neg q2]
          cases one with
          | true =>
            rw [show ib true = 1 from rfl, if_neg (by decide)]
            by_cases j0 : j = 0
            · subst j0
              rw [if_pos (show nn 0 ≤ 0 by decide)]
              exact hk _ ⟨by decide, rfl, fun z => absurd z q2⟩
            · rw [if_neg (by rw [nn_0, nn_le (by omega) (by omega)]; omega)]
              refine hk _ ⟨?_, rfl, fun z => absurd z q2⟩
              simp only [j0, ↓reduceIte, show ¬ (j + 1 = 0) from by omega, Int32.mul_one]
          | false =>
            rw [show ib false = 0 from rfl, if_pos rfl]
            refine hk _ ⟨?_, rfl, fun z => absurd z q2⟩
            simp only
            rw [if_neg (by decide), if_neg (by decide), show (10 : Int32) = nn 10 from rfl, nn_mul, Nat.pow_succ]
      · rintro ⟨x4, x6⟩ kk ⟨rfl, rfl, h2⟩
        simp only [n_layBest_99]
        simp (disch := omega) only [nn_le]
        rw [if_pos (by omega)]
        have ec : cdr G D o = (if one = true then (if cnt G D o = 0 then 1 else 10) else 10 ^ cnt G D o) := by
          unfold cdr
          by_cases q2 : G 2 o = 2
          · rw [if_pos q2, h2 q2]
            split <;> rfl
          · rw [if_neg q2, hone]
        rw [← ec, hone]
        exact main
      · exact ⟨by split <;> rfl, rfl, fun _ => rfl⟩
    unfold n_layBest_89
    by_cases q1 : G 2 o = 1
    · rw [if_pos q1]
      exact codes true (by unfold oneP; simp [q1])
    · rw [if_neg q1]
      by_cases q4 : G 2 o = 4
      · rw [if_pos q4]
        exact codes true (by unfold oneP; simp [q4])
      · rw [if_neg q4]
        exact codes false (by unfold oneP; simp [q1, q4])

/-! b17: the reference's turns, rounds, what is held -/
theorem u_turnOf {G D S : gx_S} (h : pU G D (-1) S) (hw : wD G D) {o : Nat} (ho : o < 6) : gt (n_turnOf (nn o) S) fun t => t.1 = nch G D o ∧ fL S t.2 ∧ pU G (tk G D o) (-1) t.2 := by
  have hG := h.1
  obtain ⟨eP, hP⟩ := wG_P hG
  unfold n_turnOf
  refine gt_cp (u_layBest h hw ho) (fun T0 hT0 => ?_)
  obtain ⟨f0, d0, b0, i0, _⟩ := hT0
  have p0 : pU G D (-1) T0 := pU_L h f0 (wD_0 hw) d0
  have hu := p0.2.2.1
  have k1 : T0 1 o = G 2 o := (hu.2.1 o ho).1
  have hno : ∀ k, ¬ k < nP G → bP G D o k = D 1 k := fun k hk => by
    unfold bP
    rw [if_neg (fun z => hk z.1)]
  refine gt_for (nP G) (fun j t => t.1 = sm (fun k => if D 1 k = bP G D o k then 0 else 1) j ∧ t.2.1 = nn j ∧ (∀ q i, q ≠ 7 → t.2.2 q i = T0 q i) ∧ ∀ i, i < 6 → t.2.2 7 i = if i < j then bP G D o i else D 1 i) ?_ ?_ 0 5000 _ (by omega) ?_ (by omega)
  · rintro j ⟨x2, x3, T⟩ k hj ⟨rfl, rfl, f, g⟩ hk
    simp only at f g
    simp only [n_turnOf_9, n_turnOf_38]
    have e1 : T 0 4 = nn (nP G) := by rw [f _ _ (by omega), hu.1.2.1, eP]
    have e7 : T 7 j = D 1 j := by rw [g j (by omega), if_neg (by omega)]
    have e16 : T 16 j = bP G D o j := by rw [f _ _ (by omega)]; exact b0 j hj
    simp (disch := omega) only [e1, nn_le, nn_c, ck_n, let_s, nn_s, e7, e16]
    rw [if_neg (by omega)]
    have nx : ∀ x, x = (if D 1 j = bP G D o j then 0 else 1) → gt (k (sm (fun k => if D 1 k = bP G D o k then 0 else 1) j + x, nn (j + 1), gx_st T 7 j (bP G D o j))) fun t => t.1 = nch G D o ∧ fL S t.2 ∧ pU G (tk G D o) (-1) t.2 := fun x hx => by
      refine hk _ ⟨by rw [hx]; rfl, rfl, fun q i hq => ?_, fun i hi => ?_⟩
      · simp only
        rw [gx_st_q _ _ _ _ hq]; exact f q i hq
      · simp only
        by_cases z : i = j
        · subst z; rw [gx_st_eq, if_pos (by omega)]
        · rw [gx_st_j _ _ _ z, g i hi]
          by_cases y : i < j
          · rw [if_pos y, if_pos (by omega)]
          · rw [if_neg y, if_neg (by omega)]
    by_cases q : D 1 j = bP G D o j
    · rw [if_pos q]
      exact nx _ (by rw [if_pos q])
    · rw [if_neg q]
      exact nx _ (by rw [if_neg q])
  · rintro ⟨x2, x3, T⟩ k ⟨rfl, rfl, f, g⟩
    simp only at f g
    simp only [n_turnOf_9, n_turnOf_86, n_turnOf_87, n_turnOf_115]
    have e1 : T 0 4 = nn (nP G) := by rw [f _ _ (by omega), hu.1.2.1, eP]
    have e2 : T 1 o = G 2 o := by rw [f _ _ (by omega)]; exact k1
    have e3 : T 3 o = D 3 o := by rw [f _ _ (by omega)]; exact (d0 o ho).2.2
    have e26 : T 0 26 = bI G D o := by rw [f _ _ (by omega)]; exact i0
    simp (disch := omega) only [e1, nn_le, nn_c, ck_n, let_s, e2, e3, e26]
    rw [if_pos (by omega), nar_b (Or.inl rfl), nar_b (Or.inr rfl)]
    have nx : ∀ x b, x = (if D 3 o = bI G D o then 0 else 1) → b = bI G D o → gt (some (sm (fun k => if D 1 k = bP G D o k then 0 else 1) (nP G) + x, gx_st T 3 o b)) fun t => t.1 = nch G D o ∧ fL S t.2 ∧ pU G (tk G D o) (-1) t.2 := fun x b hx hb => by
      have fU : fL S (gx_st T 3 o b) := fun q j a1 a2 a3 a4 a5 a6 => by
        rw [gx_st_q _ _ _ _ a1, f q j a2]; exact f0 q j a1 a2 a3 a4 a5 a6
      refine gt_some ⟨by rw [hx]; rfl, fU, pU_L h fU (fun j hj => by rw [tk_2]; exact wD_0 hw j hj) (fun j hj => ⟨?_, ?_, ?_⟩)⟩
      · show gx_st T 3 o b 7 j = _
        rw [gx_st_q _ _ _ _ (by omega), tk_1, g j hj]
        by_cases y : j < nP G
        · rw [if_pos y]
        · rw [if_neg y, hno j y]
      · show gx_st T 3 o b 4 j = _
        rw [gx_st_q _ _ _ _ (by omega), tk_2, f _ _ (by omega)]; exact (d0 j hj).2.1
      · show gx_st T 3 o b 3 j = _
        rw [tk_3]
        by_cases z : j = o
        · subst z; rw [gx_st_eq, if_pos rfl]; exact hb
        · rw [gx_st_j _ _ _ z, if_neg z, f _ _ (by omega)]; exact (d0 j hj).2.2
    by_cases q4 : G 2 o = 4
    · rw [if_pos q4]
      rcases bI_01 G D o with e | e
      · by_cases y : D 3 o = bI G D o
        · rw [if_pos y, if_pos q4, if_pos e]
          exact nx _ _ (by rw [if_pos y]) e.symm
        · rw [if_neg y, if_pos q4, if_pos e]
          exact nx _ _ (by rw [if_neg y]) e.symm
      · by_cases y : D 3 o = bI G D o
        · rw [if_pos y, if_pos q4, if_neg (by rw [e]; decide)]
          exact nx _ _ (by rw [if_pos y]) e.symm
        · rw [if_neg y, if_pos q4, if_neg (by rw [e]; decide)]
          exact nx _ _ (by rw [if_neg y]) e.symm
    · rw [if_neg q4, if_neg q4]
      have e : bI G D o = 0 := if_neg (fun w => q4 w.1)
      have e' : D 3 o = 0 := by
        rcases (hw.1 o ho).2.2 with y | y
        · exact y
        · exact absurd y.2 q4
      exact nx _ _ (by rw [if_pos (by rw [e, e'])]) e.symm
  · refine ⟨rfl, rfl, fun _ _ _ => rfl, fun i hi => ?_⟩
    rw [if_neg (by omega)]; exact (d0 i hi).1
theorem u_goOn {G D S : gx_S} (h : pU G D (-1) S) (hw : wD G D) : gt (n_goOn S) fun t => t.1 = (ste G D).1 ∧ fL S t.2 ∧ pU G (ste G D).2 (-1) t.2 := by
  have hG := h.1
  obtain ⟨eO, hO⟩ := wG_O hG
  unfold n_goOn
  refine gt_for 20 (fun j t => t.1 = nn j ∧ ∃ D', stl G (20 - j) j D' = ste G D ∧ fL S t.2 ∧ pU G D' (-1) t.2 ∧ wD G D') ?_ ?_ 0 5000 _ (by omega) ⟨rfl, D, rfl, fL_r S, h, hw⟩ (by omega)
  · rintro j ⟨x, T⟩ k2 hj ⟨rfl, D', e, f, d, w⟩ hk2
    simp only at e f d
    simp only [n_goOn_2]
    rw [if_neg (by rw [show (20 : Int32) = nn 20 from rfl, nn_le (by omega) (by omega)]; omega)]
    refine gt_for (nO G) (fun i t => t.1 = (rnd G i D').1 ∧ t.2.1 = nn i ∧ fL S t.2.2 ∧ pU G (rnd G i D').2 (-1) t.2.2) ?_ ?_ 0 5000 _ (by omega) ?_ (by omega)
    · rintro i ⟨x3, x4, U⟩ k hi ⟨rfl, rfl, f, p⟩ hk
      simp only at f p
      have wi := wD_rnd hG i w
      simp only [n_goOn_12]
      have e1 : U 0 0 = nn (nO G) := by rw [p.2.2.1.1.1, eO]
      simp (disch := omega) only [e1, nn_le, nn_s]
      rw [if_neg (by omega)]
      refine gt_cs (u_turnOf p wi (o := i) (by omega)) (fun a W hW => ?_)
      obtain ⟨w1, w2, w3⟩ := hW
      simp only at w1 w2 w3
      exact hk _ ⟨by rw [w1]; rfl, rfl, fL_t f w2, w3⟩
    · rintro ⟨x3, x4, U⟩ k ⟨rfl, rfl, f, p⟩
      simp only at f p
      have wi := wD_rnd hG (nO G) w
      simp only [n_goOn_12]
      have e1 : U 0 0 = nn (nO G) := by rw [p.2.2.1.1.1, eO]
      simp (disch := omega) only [e1, nn_le, nn_s]
      rw [if_pos (by omega)]
      obtain ⟨m, hm⟩ : ∃ m, 20 - j = m + 1 := ⟨20 - j - 1, by omega⟩
      rw [hm] at e
      have e' : (if (rnd G (nO G) D').1 = 0 then (nn j, (rnd G (nO G) D').2) else stl G m (j + 1) (rnd G (nO G) D').2) = ste G D := e
      by_cases q : (rnd G (nO G) D').1 = 0
      · rw [if_pos q] at e' ⊢
        exact gt_some ⟨by rw [← e'], f, by rw [← e']; exact p⟩
      · rw [if_neg q] at e' ⊢
        refine hk2 _ ⟨rfl, _, ?_, f, p, wi⟩
        rw [show 20 - (j + 1) = m by omega]
        exact e'
    · exact ⟨rfl, rfl, f, d⟩
  · rintro ⟨x, T⟩ k2 ⟨rfl, D', e, f, d, w⟩
    simp only at e f d
    simp only [n_goOn_2]
    rw [if_pos (by decide)]
    have e' : ((-1 : Int32), D') = ste G D := e
    exact gt_some ⟨by rw [← e'], f, by rw [← e']; exact d⟩
/-- D is held -/
def hH (D T : gx_S) : Prop := ∀ j, j < 6 → T 18 j = D 1 j ∧ T 19 j = D 2 j ∧ T 20 j = D 3 j
theorem u_hold {G D S : gx_S} {sh : Int32} (h : pU G D sh S) (hw : wD G D) : gt (n_hold S) fun T => (∀ q j, q ≠ 18 → q ≠ 19 → q ≠ 20 → T q j = S q j) ∧ hH D T := by
  have hd := h.2.2.2.1
  unfold n_hold
  refine gt_for 6 (fun j t => t.1 = nn j ∧ (∀ q j, q ≠ 18 → q ≠ 19 → q ≠ 20 → t.2 q j = S q j) ∧ ∀ i, i < j → t.2 18 i = D 1 i ∧ t.2 19 i = D 2 i ∧ t.2 20 i = D 3 i) ?_ ?_ 0 5000 _ (by omega) ⟨rfl, fun _ _ _ _ _ => rfl, fun i hi => absurd hi (by omega)⟩ (by omega)
  · rintro j ⟨x, T⟩ k hj ⟨rfl, f, g⟩ hk
    simp only at f g
    simp only [n_hold_2]
    obtain ⟨d1, d2, d3⟩ := hd j hj
    have e7 : T 7 j = D 1 j := by rw [f _ _ (by omega) (by omega) (by omega)]; exact d1
    have e4 : T 4 j = D 2 j := by rw [f _ _ (by omega) (by omega) (by omega)]; exact d2
    have e3 : T 3 j = D 3 j := by rw [f _ _ (by omega) (by omega) (by omega)]; exact d3
    simp (disch := omega) only [show (6 : Int32) = nn 6 from rfl, nn_le, nn_c, ck_n, let_s, nn_s, e7, e4, e3, gx_st_q]
    rw [if_neg (by omega), nar_b (wD_1 hw hj)]
    refine hk _ ⟨rfl, fun q i h1 h2 h3 => ?_, fun i hi => ?_⟩
    · simp (disch := omega) only [gx_st_q]
      exact f q i h1 h2 h3
    · by_cases z : i = j
      · subst z
        simp (disch := omega) only [gx_st_q, gx_st_eq]
        exact ⟨trivial, trivial, trivial⟩
      · simp (disch := omega) only [gx_st_q, gx_st_j]
        exact g i (by omega)
  · rintro ⟨x, T⟩ k ⟨rfl, f, g⟩
    simp only at f g
    simp only [n_hold_2]
    rw [if_pos (by decide)]
    exact gt_some ⟨f, g⟩
theorem u_back {G D S : gx_S} (hw : wD G D) (hh : hH D S) : gt (n_back S) fun T => (∀ q j, q ≠ 3 → q ≠ 4 → q ≠ 7 → T q j = S q j) ∧ uD D T := by
  unfold n_back
  refine gt_for 6 (fun j t => t.1 = nn j ∧ (∀ q j, q ≠ 3 → q ≠ 4 → q ≠ 7 → t.2 q j = S q j) ∧ ∀ i, i < j → t.2 7 i = D 1 i ∧ t.2 4 i = D 2 i ∧ t.2 3 i = D 3 i) ?_ ?_ 0 5000 _ (by omega) ⟨rfl, fun _ _ _ _ _ => rfl, fun i hi => absurd hi (by omega)⟩ (by omega)
  · rintro j ⟨x, T⟩ k hj ⟨rfl, f, g⟩ hk
    simp only at f g
    simp only [n_back_2]
    obtain ⟨d1, d2, d3⟩ := hh j hj
    have e7 : T 18 j = D 1 j := by rw [f _ _ (by omega) (by omega) (by omega)]; exact d1
    have e4 : T 19 j = D 2 j := by rw [f _ _ (by omega) (by omega) (by omega)]; exact d2
    have e3 : T 20 j = D 3 j := by rw [f _ _ (by omega) (by omega) (by omega)]; exact d3
    simp (disch := omega) only [show (6 : Int32) = nn 6 from rfl, nn_le, nn_c, ck_n, let_s, nn_s, e7, e4, e3, gx_st_q]
    rw [if_neg (by omega), nar_b (wD_1 hw hj)]
    refine hk _ ⟨rfl, fun q i h1 h2 h3 => ?_, fun i hi => ?_⟩
    · simp (disch := omega) only [gx_st_q]
      exact f q i h1 h2 h3
    · by_cases z : i = j
      · subst z
        simp (disch := omega) only [gx_st_q, gx_st_eq]
        exact ⟨trivial, trivial, trivial⟩
      · simp (disch := omega) only [gx_st_q, gx_st_j]
        exact g i (by omega)
  · rintro ⟨x, T⟩ k ⟨rfl, f, g⟩
    simp only at f g
    simp only [n_back_2]
    rw [if_pos (by decide)]
    exact gt_some ⟨f, g⟩
/-- the wider frame: all that lasts but the standing -/
def fM (S T : gx_S) : Prop := ∀ q j, q ≠ 3 → q ≠ 4 → q ≠ 7 → (q < 15 ∨ 25 < q) → (q ≠ 0 ∨ (j ≠ 26 ∧ j ≠ 27 ∧ j ≠ 34)) → T q j = S q j
theorem fM_r (S : gx_S) : fM S S := fun _ _ _ _ _ _ _ => rfl
theorem fM_t {S T U : gx_S} (h : fM S T) (h' : fM T U) : fM S U := fun q j a1 a2 a3 a4 a5 => (h' q j a1 a2 a3 a4 a5).trans (h q j a1 a2 a3 a4 a5)
theorem fL_M {S T : gx_S} (f : fL S T) : fM S T := fun q j a1 a2 a3 a4 a5 => f q j a1 a3 (by omega) (by omega) (by omega) (by omega)
theorem f15_M {S T : gx_S} (f : f15 S T) : fM S T := fun q j a1 a2 a3 a4 a5 => f q j (by omega)
theorem pU_M {G D E S T : gx_S} {sh : Int32} (h : pU G D sh S) (f : fM S T) (h0 : w0 E) (hd : uD E T) : pU G E sh T := by
  obtain ⟨hG, _, ⟨⟨a1, a2, a3⟩, b, c, d⟩, _, e⟩ := h
  refine ⟨hG, h0, ⟨⟨?_, ?_, ?_⟩, fun o ho => ?_, fun k hk => ?_, fun s i hs hi => ?_⟩, hd, ?_⟩
  · rw [f _ _ (by omega) (by omega) (by omega) (by omega) (by omega)]; exact a1
  · rw [f _ _ (by omega) (by omega) (by omega) (by omega) (by omega)]; exact a2
  · rw [f _ _ (by omega) (by omega) (by omega) (by omega) (by omega)]; exact a3
  · rw [f _ _ (by omega) (by omega) (by omega) (by omega) (by omega), f _ _ (by omega) (by omega) (by omega) (by omega) (by omega)]; exact b o ho
  · rw [f _ _ (by omega) (by omega) (by omega) (by omega) (by omega), f _ _ (by omega) (by omega) (by omega) (by omega) (by omega)]; exact c k hk
  · rw [f _ _ (by omega) (by omega) (by omega) (by omega) (by omega)]; exact d s i hs hi
  · rw [f _ _ (by omega) (by omega) (by omega) (by omega) (by omega)]; exact e
theorem u_gainOf {G D S : gx_S} (h : pU G D (-1) S) (hw : wD G D) {o : Nat} (ho : o < 6) : gt (n_gainOf (nn o) S) fun t => t.1 = bG G D o - pro G D o ∧ fM S t.2 ∧ pU G D (-1) t.2 := by
  unfold n_gainOf
  refine gt_cs (u_profitOf h ho) (fun a T hT => ?_)
  obtain ⟨ea, f⟩ := hT
  simp only at ea f
  have p := pU_15 h f
  refine gt_cp (u_layBest p hw ho) (fun U hU => ?_)
  obtain ⟨u1, u2, _, _, u5⟩ := hU
  exact gt_some ⟨by rw [u5, ea], fM_t (f15_M f) (fL_M u1), pU_L p u1 (wD_0 hw) u2⟩
def oth (G D : gx_S) : Nat → Nat → Int32
  | 0, _ => -1
  | f + 1, o => if bG G D o - pro G D o ≤ 0 then oth G D f (o + 1) else nn o
theorem u_otherwise {G D S : gx_S} (h : pU G D (-1) S) (hw : wD G D) : gt (n_otherwise S) fun t => t.1 = oth G D (nO G) 0 ∧ fM S t.2 ∧ pU G D (-1) t.2 := by
  have hG := h.1
  obtain ⟨eO, hO⟩ := wG_O hG
  unfold n_otherwise
  refine gt_for (nO G) (fun j t => t.1 = nn j ∧ oth G D (nO G - j) j = oth G D (nO G) 0 ∧ fM S t.2 ∧ pU G D (-1) t.2) ?_ ?_ 0 5000 _ (by omega) ⟨rfl, rfl, fM_r S, h⟩ (by omega)
  · rintro j ⟨x, T⟩ k hj ⟨rfl, e, f, p⟩ hk
    simp only at e f p
    simp only [n_otherwise_2]
    have e1 : T 0 0 = nn (nO G) := by rw [p.2.2.1.1.1, eO]
    simp (disch := omega) only [e1, nn_le, nn_s]
    rw [if_neg (by omega)]
    refine gt_cs (u_gainOf p hw (o := j) (by omega)) (fun a U hU => ?_)
    obtain ⟨u1, u2, u3⟩ := hU
    simp only at u1 u2 u3
    obtain ⟨m, hm⟩ : ∃ m, nO G - j = m + 1 := ⟨nO G - j - 1, by omega⟩
    rw [hm] at e
    have e' : (if bG G D j - pro G D j ≤ 0 then oth G D m (j + 1) else nn j) = oth G D (nO G) 0 := e
    rw [u1]
    by_cases q : bG G D j - pro G D j ≤ 0
    · rw [if_pos q] at e' ⊢
      refine hk _ ⟨rfl, ?_, fM_t f u2, u3⟩
      rw [show nO G - (j + 1) = m by omega]; exact e'
    · rw [if_neg q] at e' ⊢
      exact gt_some ⟨e', fM_t f u2, u3⟩
  · rintro ⟨x, T⟩ k ⟨rfl, e, f, p⟩
    simp only at e f p
    simp only [n_otherwise_2]
    have e1 : T 0 0 = nn (nO G) := by rw [p.2.2.1.1.1, eO]
    simp (disch := omega) only [e1, nn_le]
    rw [if_pos (by omega)]
    rw [Nat.sub_self] at e
    exact gt_some ⟨e, f, p⟩

/-! b18: the reference: before and behind, harm -/
theorem u_mergeNow {G D S : gx_S} {sh : Int32} (h : pU G D sh S) (a b : Nat) : gt (n_mergeNow (nn a) (nn b) S) fun T => (∀ q j, q ≠ 4 → T q j = S q j) ∧ ∀ k, k < 6 → T 4 k = gv G D a b 2 k := by
  have hG := h.1
  have hu := h.2.2.1
  have hd := h.2.2.2.1
  obtain ⟨eP, hP⟩ := wG_P hG
  unfold n_mergeNow
  refine gt_for (nP G) (fun j t => t.1 = nn j ∧ (∀ q i, q ≠ 4 → t.2 q i = S q i) ∧ ∀ k, k < 6 → t.2 4 k = if k < j then gv G D a b 2 k else D 2 k) ?_ ?_ 0 5000 _ (by omega) ?_ (by omega)
  · rintro j ⟨x, T⟩ k hj ⟨rfl, f, g⟩ hk
    simp only at f g
    simp only [n_mergeNow_2, n_mergeNow_35]
    have e1 : T 0 4 = nn (nP G) := by rw [f _ _ (by omega), hu.1.2.1, eP]
    have e4 : T 4 j = D 2 j := by rw [g j (by omega), if_neg (by omega)]
    simp (disch := omega) only [e1, nn_le, nn_c, ck_n, let_s, nn_s, e4]
    rw [if_neg (by omega)]
    have nx : ∀ x, x = gv G D a b 2 j → gt (k (nn (j + 1), gx_st T 4 j x)) fun T => (∀ q j, q ≠ 4 → T q j = S q j) ∧ ∀ k, k < 6 → T 4 k = gv G D a b 2 k := fun x hx => by
      refine hk _ ⟨rfl, fun q i hq => ?_, fun i hi => ?_⟩
      · simp only
        rw [gx_st_q _ _ _ _ hq]; exact f q i hq
      · simp only
        by_cases z : i = j
        · subst z; rw [gx_st_eq, if_pos (by omega)]; exact hx
        · rw [gx_st_j _ _ _ z, g i hi]
          by_cases y : i < j
          · rw [if_pos y, if_pos (by omega)]
          · rw [if_neg y, if_neg (by omega)]
    by_cases q : D 2 j = nn b
    · rw [if_pos q]
      exact nx _ (by unfold gv; rw [if_pos ⟨rfl, hj, q⟩])
    · rw [if_neg q]
      exact nx _ (by unfold gv; rw [if_neg (fun z => q z.2.2)])
  · rintro ⟨x, T⟩ k ⟨rfl, f, g⟩
    simp only at f g
    simp only [n_mergeNow_2]
    have e1 : T 0 4 = nn (nP G) := by rw [f _ _ (by omega), hu.1.2.1, eP]
    simp (disch := omega) only [e1, nn_le]
    rw [if_pos (by omega)]
    refine gt_some ⟨f, fun i hi => ?_⟩
    rw [g i hi]
    by_cases y : i < nP G
    · rw [if_pos y]
    · rw [if_neg y]
      unfold gv
      rw [if_neg (fun z => y z.2.1)]
  · exact ⟨rfl, fun _ _ _ => rfl, fun i hi => by rw [if_neg (by omega)]; exact (hd i hi).2.1⟩
theorem u_layBefore {G D S : gx_S} (h : pU G D (-1) S) (hw : wD G D) : gt (n_layBefore S) fun t => t.1 = (if (ste G D).1 = -1 then 0 else 1) ∧ fM S t.2 ∧ pU G D (-1) t.2 ∧ ∀ s, s < nS G → t.2 21 s = spa G (ste G D).2 s := by
  have hG := h.1
  obtain ⟨eS, hS⟩ := wG_S hG
  unfold n_layBefore
  refine gt_cp (u_hold h hw) (fun S2 hS2 => ?_)
  obtain ⟨f2, h2⟩ := hS2
  have m2 : fM S S2 := fun q j a1 a2 a3 a4 a5 => f2 q j (by omega) (by omega) (by omega)
  have d2 : uD D S2 := fun j hj => by
    rw [f2 _ _ (by omega) (by omega) (by omega), f2 _ _ (by omega) (by omega) (by omega), f2 _ _ (by omega) (by omega) (by omega)]
    exact h.2.2.2.1 j hj
  have p2 : pU G D (-1) S2 := pU_M h m2 (wD_0 hw) d2
  refine gt_cs (u_goOn p2 hw) (fun v S4 hS4 => ?_)
  obtain ⟨e4, f4, p4⟩ := hS4
  simp only at e4 f4 p4
  have m4 : fM S S4 := fM_t m2 (fL_M f4)
  have hh4 : hH D S4 := fun j hj => by
    rw [f4 _ _ (by omega) (by omega) (by omega) (by omega) (by omega) (by omega), f4 _ _ (by omega) (by omega) (by omega) (by omega) (by omega) (by omega), f4 _ _ (by omega) (by omega) (by omega) (by omega) (by omega) (by omega)]
    exact h2 j hj
  have main : ∀ x, (x = 0 ∨ x = 1) → gt (n_layBefore_17 x S4) fun t => t.1 = x ∧ fM S t.2 ∧ pU G D (-1) t.2 ∧ ∀ s, s < nS G → t.2 21 s = spa G (ste G D).2 s := by
    intro x hx
    unfold n_layBefore_17
    refine gt_for (nS G) (fun s t => t.1 = nn s ∧ (∀ q j, q ≠ 21 → t.2 q j = S4 q j) ∧ ∀ i, i < s → t.2 21 i = spa G (ste G D).2 i) ?_ ?_ 0 5000 _ (by omega) ⟨rfl, fun _ _ _ => rfl, fun i hi => absurd hi (by omega)⟩ (by omega)
    · rintro s ⟨_, T⟩ k hs ⟨rfl, f, g⟩ hk
      simp only at f g
      simp only [n_layBefore_20]
      have pT : pU G (ste G D).2 (-1) T := pU_f p4 (fun q j hq => f q j (by omega))
      have e1 : T 0 9 = nn (nS G) := by rw [pT.2.2.1.1.2.2, eS]
      simp (disch := omega) only [e1, nn_le, nn_c, ck_n, let_s, nn_s, u_spareOf pT hs, cp_s]
      rw [if_neg (by omega)]
      refine hk _ ⟨rfl, fun q i hq => ?_, fun i hi => ?_⟩
      · simp only
        rw [gx_st_q _ _ _ _ hq]; exact f q i hq
      · simp only
        by_cases z : i = s
        · subst z; rw [gx_st_eq]
        · rw [gx_st_j _ _ _ z]; exact g i (by omega)
    · rintro ⟨_, T⟩ k ⟨rfl, f, g⟩
      simp only at f g
      simp only [n_layBefore_20]
      have e1 : T 0 9 = nn (nS G) := by rw [f _ _ (by omega), p4.2.2.1.1.2.2, eS]
      simp (disch := omega) only [e1, nn_le]
      rw [if_pos (by omega)]
      refine gt_cp (u_back (D := D) hw (fun j hj => by rw [f _ _ (by omega), f _ _ (by omega), f _ _ (by omega)]; exact hh4 j hj)) (fun U hU => ?_)
      obtain ⟨u1, u2⟩ := hU
      rw [show ∀ kq : Option (Int32 × gx_S), gx_bz x kq = kq from fun kq => by rcases hx with e | e <;> rw [e]; exact bz_0; exact bz_1]
      have mU : fM S U := fun q j a1 a2 a3 a4 a5 => by
        rw [u1 q j a1 a2 a3, f q j (by omega)]; exact m4 q j a1 a2 a3 a4 a5
      refine gt_some ⟨rfl, mU, pU_M h mU (wD_0 hw) u2, fun s hs => ?_⟩
      simp only
      rw [u1 _ _ (by omega) (by omega) (by omega)]; exact g s hs
  rw [e4]
  by_cases q : (ste G D).1 = -1
  · rw [if_pos q, if_pos q]; exact main 0 (Or.inl rfl)
  · rw [if_neg q, if_neg q]; exact main 1 (Or.inr rfl)
/-- some shops another one's -/
def sx2 (G D : gx_S) (m : Nat) (x : Int32) : gx_S := fun i j => if i = 2 ∧ j < nP G ∧ m.testBit j = true then x else D i j
theorem sx2_0 (G D : gx_S) (x : Int32) : sx2 G D 0 x = D := by
  funext i j
  unfold sx2
  rw [if_neg (fun z => by simp at z)]
theorem u_22 {G D B S : gx_S} {m : Nat} {x : Int32} (h : pU G B (-1) S) (hw : wD G D) (hm : m < 64) (hE : wD G (sx2 G B m x)) (hh : hH D S) : gt (n_layBehind_22 (nn m) x S) fun t => t.1 = (if (ste G (sx2 G B m x)).1 = -1 then 0 else 1) ∧ fM S t.2 ∧ pU G D (-1) t.2 ∧ t.2 0 34 = (ste G (sx2 G B m x)).1 ∧ (∀ s, s < nS G → t.2 22 s = spa G (ste G (sx2 G B m x)).2 s) ∧ ∀ s, t.2 21 s = S 21 s := by
  have hG := h.1
  have hu := h.2.2.1
  obtain ⟨eS, hS⟩ := wG_S hG
  obtain ⟨eP, hP⟩ := wG_P hG
  unfold n_layBehind_22
  refine gt_for (nP G) (fun j t => t.1 = nn j ∧ (∀ q i, q ≠ 4 → t.2 q i = S q i) ∧ ∀ k, k < 6 → t.2 4 k = if k < j then sx2 G B m x 2 k else B 2 k) ?_ ?_ 0 5000 _ (by omega) ?_ (by omega)
  · rintro j ⟨_, T⟩ k hj ⟨rfl, f, g⟩ hk
    simp only at f g
    simp only [n_layBehind_25, n_layBehind_63]
    have e1 : T 0 4 = nn (nP G) := by rw [f _ _ (by omega), hu.1.2.1, eP]
    have e4 : T 4 j = B 2 j := by rw [g j (by omega), if_neg (by omega)]
    have hb := fb_bi m hm j (by omega)
    unfold bi at hb
    simp (disch := omega) only [e1, nn_le, nn_c, ck_n, let_s, nn_s, e4, hb]
    rw [if_neg (by omega)]
    have nx : ∀ y, y = sx2 G B m x 2 j → gt (k (nn (j + 1), gx_st T 4 j y)) fun t => t.1 = (if (ste G (sx2 G B m x)).1 = -1 then 0 else 1) ∧ fM S t.2 ∧ pU G D (-1) t.2 ∧ t.2 0 34 = (ste G (sx2 G B m x)).1 ∧ (∀ s, s < nS G → t.2 22 s = spa G (ste G (sx2 G B m x)).2 s) ∧ ∀ s, t.2 21 s = S 21 s := fun y hy => by
      refine hk _ ⟨rfl, fun q i hq => ?_, fun i hi => ?_⟩
      · simp only
        rw [gx_st_q _ _ _ _ hq]; exact f q i hq
      · simp only
        by_cases z : i = j
        · subst z; rw [gx_st_eq, if_pos (by omega)]; exact hy
        · rw [gx_st_j _ _ _ z, g i hi]
          by_cases y : i < j
          · rw [if_pos y, if_pos (by omega)]
          · rw [if_neg y, if_neg (by omega)]
    by_cases q : m.testBit j = true
    · simp only [q, ↓reduceIte]
      exact nx _ (by unfold sx2; rw [if_pos ⟨rfl, hj, q⟩])
    · simp only [q]
      rw [if_neg (by decide)]
      exact nx _ (by unfold sx2; rw [if_neg (fun z => q z.2.2)])
  · rintro ⟨_, T⟩ k ⟨rfl, f, g⟩
    simp only at f g
    simp only [n_layBehind_25]
    have e1 : T 0 4 = nn (nP G) := by rw [f _ _ (by omega), hu.1.2.1, eP]
    simp (disch := omega) only [e1, nn_le]
    rw [if_pos (by omega)]
    have mT : fM S T := fun q j a1 a2 a3 a4 a5 => f q j a2
    have x1 : ∀ j, sx2 G B m x 1 j = B 1 j := fun j => by simp [sx2]
    have x3 : ∀ j, sx2 G B m x 3 j = B 3 j := fun j => by simp [sx2]
    have dT : uD (sx2 G B m x) T := fun j hj => by
      obtain ⟨a1, a2, a3⟩ := h.2.2.2.1 j hj
      refine ⟨by rw [f _ _ (by omega), x1]; exact a1, ?_, by rw [f _ _ (by omega), x3]; exact a3⟩
      rw [g j hj]
      by_cases y : j < nP G
      · rw [if_pos y]
      · rw [if_neg y]
        unfold sx2
        rw [if_neg (fun z => y z.2.1)]
    have pT : pU G (sx2 G B m x) (-1) T := pU_M h mT (wD_0 hE) dT
    refine gt_cs (u_goOn pT hE) (fun v S4 hS4 => ?_)
    obtain ⟨e4, f4, p4⟩ := hS4
    simp only at e4 f4 p4
    rw [e4]
    refine gt_let ?_
    have m4 : fM S (gx_st S4 0 34 (ste G (sx2 G B m x)).1) := fun q j a1 a2 a3 a4 a5 => by
      by_cases z : q = 0
      · subst z
        rw [gx_st_j _ _ _ (by omega)]; exact (fL_M f4 _ _ a1 a2 a3 a4 a5).trans (mT _ _ a1 a2 a3 a4 a5)
      · rw [gx_st_q _ _ _ _ z]; exact (fL_M f4 _ _ a1 a2 a3 a4 a5).trans (mT _ _ a1 a2 a3 a4 a5)
    have p5 : pU G (ste G (sx2 G B m x)).2 (-1) (gx_st S4 0 34 (ste G (sx2 G B m x)).1) := pU_f p4 (fun q j hq => by
      by_cases z : q = 0
      · subst z
        exact gx_st_j _ _ _ (by omega)
      · exact gx_st_q _ _ _ _ z)
    have hh5 : hH D (gx_st S4 0 34 (ste G (sx2 G B m x)).1) := fun j hj => by
      rw [gx_st_q _ _ _ _ (by omega), gx_st_q _ _ _ _ (by omega), gx_st_q _ _ _ _ (by omega)]
      rw [f4 _ _ (by omega) (by omega) (by omega) (by omega) (by omega) (by omega), f4 _ _ (by omega) (by omega) (by omega) (by omega) (by omega) (by omega), f4 _ _ (by omega) (by omega) (by omega) (by omega) (by omega) (by omega), f _ _ (by omega), f _ _ (by omega), f _ _ (by omega)]
      exact hh j hj
    have e34 : gx_st S4 0 34 (ste G (sx2 G B m x)).1 0 34 = (ste G (sx2 G B m x)).1 := gx_st_eq _ _ _ _
    have e21 : ∀ s, gx_st S4 0 34 (ste G (sx2 G B m x)).1 21 s = S 21 s := fun s => by
      rw [gx_st_q _ _ _ _ (by omega), f4 _ _ (by omega) (by omega) (by omega) (by omega) (by omega) (by omega), f _ _ (by omega)]
    obtain ⟨W, hW⟩ : ∃ W, W = gx_st S4 0 34 (ste G (sx2 G B m x)).1 := ⟨_, rfl⟩
    rw [← hW] at m4 p5 hh5 e34 e21 ⊢
    refine gt_for (nS G) (fun s t => t.1 = nn s ∧ (∀ q j, q ≠ 22 → t.2 q j = W q j) ∧ ∀ i, i < s → t.2 22 i = spa G (ste G (sx2 G B m x)).2 i) ?_ ?_ 0 5000 _ (by omega) ⟨rfl, fun _ _ _ => rfl, fun i hi => absurd hi (by omega)⟩ (by omega)
    · rintro s ⟨_, U⟩ k hs ⟨rfl, f, g⟩ hk
      simp only at f g
      simp only [n_layBehind_81]
      have pU' : pU G (ste G (sx2 G B m x)).2 (-1) U := pU_f p5 (fun q j hq => f q j (by omega))
      have e1 : U 0 9 = nn (nS G) := by rw [pU'.2.2.1.1.2.2, eS]
      simp (disch := omega) only [e1, nn_le, nn_c, ck_n, let_s, nn_s, u_spareOf pU' hs, cp_s]
      rw [if_neg (by omega)]
      refine hk _ ⟨rfl, fun q i hq => ?_, fun i hi => ?_⟩
      · simp only
        rw [gx_st_q _ _ _ _ hq]; exact f q i hq
      · simp only
        by_cases z : i = s
        · subst z; rw [gx_st_eq]
        · rw [gx_st_j _ _ _ z]; exact g i (by omega)
    · rintro ⟨_, U⟩ k ⟨rfl, f, g⟩
      simp only at f g
      simp only [n_layBehind_81]
      have e1 : U 0 9 = nn (nS G) := by rw [f _ _ (by omega), p5.2.2.1.1.2.2, eS]
      simp (disch := omega) only [e1, nn_le]
      rw [if_pos (by omega)]
      refine gt_cp (u_back (D := D) hw (fun j hj => by rw [f _ _ (by omega), f _ _ (by omega), f _ _ (by omega)]; exact hh5 j hj)) (fun V hV => ?_)
      obtain ⟨v1, v2⟩ := hV
      have mV : fM S V := fun q j a1 a2 a3 a4 a5 => by
        rw [v1 q j a1 a2 a3, f q j (by omega)]; exact m4 q j a1 a2 a3 a4 a5
      have v34 : V 0 34 = (ste G (sx2 G B m x)).1 := by rw [v1 _ _ (by omega) (by omega) (by omega), f _ _ (by omega)]; exact e34
      rw [v34]
      have fin : ∀ y : Int32, y = (if (ste G (sx2 G B m x)).1 = -1 then 0 else 1) → gt (some (y, V)) fun t => t.1 = (if (ste G (sx2 G B m x)).1 = -1 then 0 else 1) ∧ fM S t.2 ∧ pU G D (-1) t.2 ∧ t.2 0 34 = (ste G (sx2 G B m x)).1 ∧ (∀ s, s < nS G → t.2 22 s = spa G (ste G (sx2 G B m x)).2 s) ∧ ∀ s, t.2 21 s = S 21 s := fun y hy => by
        refine gt_some ⟨hy, mV, pU_M h mV (wD_0 hw) v2, v34, fun s hs => ?_, fun s => ?_⟩
        · simp only
          rw [v1 _ _ (by omega) (by omega) (by omega)]; exact g s hs
        · simp only
          rw [v1 _ _ (by omega) (by omega) (by omega), f _ _ (by omega)]; exact e21 s
      by_cases q : (ste G (sx2 G B m x)).1 = -1
      · rw [if_pos q]
        exact fin 0 (by rw [if_pos q])
      · rw [if_neg q]
        exact fin 1 (by rw [if_neg q])
  · exact ⟨rfl, fun _ _ _ => rfl, fun i hi => by rw [if_neg (by omega)]; exact (h.2.2.2.1 i hi).2.1⟩
/-- b's shops a's, then some another one's -/
theorem u_layBehind {G D S : gx_S} {m a b : Nat} {x y : Int32} (h : pU G D (-1) S) (hw : wD G D) (hm : m < 64) (h0 : w0 (gv G D a b)) (hE : wD G (sx2 G (gv G D a b) m x)) : gt (n_layBehind (nn a) (nn b) (-1) y (nn m) x S) fun t => t.1 = (if (ste G (sx2 G (gv G D a b) m x)).1 = -1 then 0 else 1) ∧ fM S t.2 ∧ pU G D (-1) t.2 ∧ t.2 0 34 = (ste G (sx2 G (gv G D a b) m x)).1 ∧ (∀ s, s < nS G → t.2 22 s = spa G (ste G (sx2 G (gv G D a b) m x)).2 s) ∧ ∀ s, t.2 21 s = S 21 s := by
  unfold n_layBehind
  refine gt_cp (u_hold h hw) (fun S2 hS2 => ?_)
  obtain ⟨f2, h2⟩ := hS2
  have m2 : fM S S2 := fun q j a1 a2 a3 a4 a5 => f2 q j (by omega) (by omega) (by omega)
  have d2 : uD D S2 := fun j hj => by
    rw [f2 _ _ (by omega) (by omega) (by omega), f2 _ _ (by omega) (by omega) (by omega), f2 _ _ (by omega) (by omega) (by omega)]
    exact h.2.2.2.1 j hj
  have p2 : pU G D (-1) S2 := pU_M h m2 (wD_0 hw) d2
  refine gt_cp (u_mergeNow p2 a b) (fun S4 hS4 => ?_)
  obtain ⟨f4, g4⟩ := hS4
  rw [if_pos rfl]
  have m4 : fM S2 S4 := fun q j a1 a2 a3 a4 a5 => f4 q j a2
  have d4 : uD (gv G D a b) S4 := fun j hj => by
    obtain ⟨a1, a2, a3⟩ := d2 j hj
    refine ⟨?_, g4 j hj, ?_⟩
    · rw [f4 _ _ (by omega), a1]; simp [gv]
    · rw [f4 _ _ (by omega), a3]; simp [gv]
  have p4 : pU G (gv G D a b) (-1) S4 := pU_M p2 m4 h0 d4
  refine gt_mono (u_22 p4 hw hm hE (fun j hj => by rw [f4 _ _ (by omega), f4 _ _ (by omega), f4 _ _ (by omega)]; exact h2 j hj)) (fun t ht => ?_)
  obtain ⟨t1, t2, t3, t4, t5, t6⟩ := ht
  refine ⟨t1, fM_t m2 (fM_t m4 t2), t3, t4, t5, fun s => ?_⟩
  rw [t6, f4 _ _ (by omega), f2 _ _ (by omega) (by omega) (by omega)]
theorem u_harmNow {G D B E S : gx_S} {sh : Int32} (h : pU G D sh S) (h1 : ∀ s, s < nS G → S 21 s = spa G B s) (h2 : ∀ s, s < nS G → S 22 s = spa G E s) (x : Int32) : n_harmNow x S = some (if x = 0 then hrm G B E else hsm G B E) := by
  have hG := h.1
  obtain ⟨eS, hS⟩ := wG_S hG
  have e1 : S 0 9 = nn (nS G) := by rw [h.2.2.1.1.2.2, eS]
  unfold n_harmNow
  refine lp_for (nS G) (fun j => (sm (fun s => (if 0 < dr G B E s then dr G B E s else 0) * G 7 s) j, sto (fun s => decide (0 < dr G B E s)) j, nn j)) (fun j k hj => ?_) (fun k => ?_) 0 5000 (by omega) (by omega)
  · simp only [n_harmNow_7, n_harmNow_53, n_harmNow_69]
    have t1 : n_told (nn j) 1 S = some (G 7 j) := u_told h.2.2.1 (i := 1) (by omega) (by omega)
    simp (disch := omega) only [e1, nn_le, nn_c, ck_n, nn_s, h1 j hj, h2 j hj, t1, cp_s]
    rw [if_neg (by omega)]
    rw [show spa G B j - spa G E j = dr G B E j from rfl]
    rw [show sto (fun s => decide (0 < dr G B E s)) (j + 1) = if decide (0 < dr G B E j) = true then sto (fun s => decide (0 < dr G B E s)) j ||| ((1 : Int32) <<< (nn j &&& 31)) else sto (fun s => decide (0 < dr G B E s)) j from rfl]
    rw [show sm (fun s => (if 0 < dr G B E s then dr G B E s else 0) * G 7 s) (j + 1) = sm (fun s => (if 0 < dr G B E s then dr G B E s else 0) * G 7 s) j + (if 0 < dr G B E j then dr G B E j else 0) * G 7 j from rfl]
    by_cases q : dr G B E j ≤ 0
    · have q' : ¬ 0 < dr G B E j := by lia
      rw [if_pos q, if_pos q, if_neg q', if_neg (by simpa using q'), Int32.zero_mul, Int32.or_zero]
    · have q' : 0 < dr G B E j := by lia
      rw [if_neg q, if_neg q, if_pos q', if_pos (by simpa using q')]
  · simp only [n_harmNow_7]
    simp (disch := omega) only [e1, nn_le]
    rw [if_pos (by omega)]
    unfold hrm hsm
    split <;> rfl
def allB (G B E : gx_S) (t : Int32) : Nat → Bool
  | 0 => true
  | s + 1 => allB G B E t s && decide (dr G B E s ≤ t)
theorem u_isBelow {G D B E S : gx_S} {sh : Int32} (h : pU G D sh S) (h1 : ∀ s, s < nS G → S 21 s = spa G B s) (h2 : ∀ s, s < nS G → S 22 s = spa G E s) (t : Int32) : n_isBelow t S = some (ib (allB G B E t (nS G))) := by
  have hG := h.1
  obtain ⟨eS, hS⟩ := wG_S hG
  have e1 : S 0 9 = nn (nS G) := by rw [h.2.2.1.1.2.2, eS]
  unfold n_isBelow
  refine lp_for (nS G) (fun j => (ib (allB G B E t j), nn j)) (fun j k hj => ?_) (fun k => ?_) 0 5000 (by omega) (by omega)
  · simp only [n_isBelow_4, n_isBelow_37, n_isBelow_38]
    simp (disch := omega) only [e1, nn_le, nn_c, ck_n, nn_s, h1 j hj, h2 j hj, ib_0]
    rw [if_neg (by omega)]
    rw [show spa G B j - spa G E j = dr G B E j from rfl]
    rw [show allB G B E t (j + 1) = (allB G B E t j && decide (dr G B E j ≤ t)) from rfl]
    cases hb : allB G B E t j with
    | false => rw [if_pos rfl]; rfl
    | true =>
      rw [if_neg (by decide)]
      by_cases q : t < dr G B E j
      · rw [if_pos q]
        have : ¬ dr G B E j ≤ t := by lia
        simp [this, ib]
      · rw [if_neg q]
        have : dr G B E j ≤ t := by lia
        simp [this, ib]
  · simp only [n_isBelow_4]
    simp (disch := omega) only [e1, nn_le]
    rw [if_pos (by omega)]
    cases allB G B E t (nS G) with
    | false => exact bz_0
    | true => exact bz_1
theorem dws_le {G B E : gx_S} {t : Int32} (h0 : 0 ≤ t) (h9 : t ≤ 9) : (t < dws G B E ↔ ¬ (¬ (ste G E).1 = -1 ∧ allB G B (ste G E).2 t (nS G) = true)) := by
  have key : ∀ n, (t < mxd (dr G B (ste G E).2) n ↔ ¬ allB G B (ste G E).2 t n = true) := by
    intro n
    induction n with
    | zero => simp [mxd, allB]; lia
    | succ n ih =>
      show (t < (if mxd (dr G B (ste G E).2) n < dr G B (ste G E).2 n then dr G B (ste G E).2 n else mxd (dr G B (ste G E).2) n)) ↔ ¬ (allB G B (ste G E).2 t n && decide (dr G B (ste G E).2 n ≤ t)) = true
      rw [Bool.and_eq_true, decide_eq_true_iff]
      by_cases q : mxd (dr G B (ste G E).2) n < dr G B (ste G E).2 n
      · rw [if_pos q]
        constructor
        · intro y z
          have := z.2
          lia
        · intro y
          rcases Decidable.em (allB G B (ste G E).2 t n = true) with z | z
          · have : ¬ dr G B (ste G E).2 n ≤ t := fun w => y ⟨z, w⟩
            lia
          · have := ih.mpr z
            lia
      · rw [if_neg q]
        constructor
        · intro y z
          exact ih.mp y z.1
        · intro y
          rcases Decidable.em (allB G B (ste G E).2 t n = true) with z | z
          · have : ¬ dr G B (ste G E).2 n ≤ t := fun w => y ⟨z, w⟩
            lia
          · exact ih.mpr z
  unfold dws
  by_cases q : (ste G E).1 = -1
  · rw [if_pos q]
    constructor
    · intro _ z; exact z.1 q
    · intro _; lia
  · rw [if_neg q, key]
    constructor
    · intro y z; exact y z.2
    · intro y z; exact y ⟨q, z⟩

/-! b19: the reference: markets, sold off, from -/
theorem mb_cg {p p' : Nat → Bool} : ∀ {n : Nat}, (∀ k, k < n → p k = p' k) → mb p n = mb p' n
  | 0, _ => rfl
  | n + 1, h => by
    show mb p n + (if p n then 2 ^ n else 0) = mb p' n + (if p' n then 2 ^ n else 0)
    rw [mb_cg (fun k hk => h k (by omega)), h n (by omega)]
theorem opx_m1 {G D : gx_S} {k : Nat} (hk : k < 6) : opx G D (-1) k = opn G D k := by
  unfold opx
  have : ¬ nn k = -1 := nn_m1 (by omega)
  simp [this]
theorem u_openSet {G D T : gx_S} (h : pU G D (-1) T) : n_openSet T = some (nn (mb (opn G D) (nP G))) := by
  obtain ⟨eP, hP⟩ := wG_P h.1
  have e1 : T 0 4 = nn (nP G) := by rw [h.2.2.1.1.2.1, eP]
  unfold n_openSet
  refine lp_for (nP G) (fun j => (nn (mb (opn G D) j), nn j)) (fun j k hj => ?_) (fun k => ?_) 0 5000 (by omega) (by omega)
  · simp only [n_openSet_4, n_openSet_28]
    simp (disch := omega) only [e1, nn_le, u_isOpen h (k := j) (by omega), cp_s, nn_s, ib_0, opx_m1 (G := G) (D := D) (k := j)]
    rw [if_neg (by omega)]
    by_cases q : opn G D j = true
    · rw [if_neg (by simp [q]), mb_or _ (by omega) q]
    · rw [if_pos (by simpa using q), mb_no _ q, Int32.or_zero]
  · simp only [n_openSet_4]
    simp (disch := omega) only [e1, nn_le]
    rw [if_pos (by omega)]
theorem u_profitOfSet {G D S : gx_S} (h : pU G D (-1) S) {m : Nat} (hm : m < 64) : gt (n_profitOfSet (nn m) S) fun t => t.1 = tot G D (gMa G D (nn m)) ∧ f15 S t.2 := by
  have hG := h.1
  obtain ⟨eP, hP⟩ := wG_P hG
  unfold n_profitOfSet
  refine gt_cs (u_laySold h) (fun a T hT => ?_)
  obtain ⟨_, f, g⟩ := hT
  simp only at f g
  have p := pU_15 h f
  have hu := p.2.2.1
  have e1 : T 0 4 = nn (nP G) := by rw [hu.1.2.1, eP]
  have el : gx_loop (n_profitOfSet_9 (nn m) T) 5000 (0, 0) = some (sm (fun k => sl G D k * gMa G D (nn m) k) (nP G), T) := by
    refine lp_for (nP G) (fun j => (sm (fun k => sl G D k * gMa G D (nn m) k) j, nn j)) (fun j k hj => ?_) (fun k => ?_) 0 5000 (by omega) (by omega)
    · simp only [n_profitOfSet_9, n_profitOfSet_51]
      obtain ⟨d1, d2, d3⟩ := p.2.2.2.1 j (by omega)
      obtain ⟨s1, s2⟩ := hu.2.2.1 j (by omega)
      simp (disch := omega) only [e1, nn_le, nn_c, ck_n, nn_s, d1, s2, g j hj]
      rw [if_neg (by omega)]
      rw [show sm (fun k => sl G D k * gMa G D (nn m) k) (j + 1) = sm (fun k => sl G D k * gMa G D (nn m) k) j + sl G D j * gMa G D (nn m) j from rfl]
      have g1 : (nn m >>> (nn j &&& 31)) &&& 1 = 1 → gMa G D (nn m) j = D 1 j - G 5 j := fun q => if_pos q
      have g0 : ¬ (nn m >>> (nn j &&& 31)) &&& 1 = 1 → gMa G D (nn m) j = 0 := fun q => if_neg q
      by_cases q : (nn m >>> (nn j &&& 31)) &&& 1 = 1
      · rw [if_pos q, g1 q]
      · rw [if_neg q, g0 q, Int32.mul_zero]
    · simp only [n_profitOfSet_9]
      simp (disch := omega) only [e1, nn_le]
      rw [if_pos (by omega)]
  rw [el]
  exact gt_some ⟨(tot_sl hG _).symm, f⟩
theorem u_pays {G D S : gx_S} (h : pU G D (-1) S) (hw : wD G D) {m k : Nat} (hm : m < 64) (hk : k ≤ 5) : gt (n_pays (nn m) (nn k) S) fun t => t.1 = wpv G D m k ∧ fM S t.2 ∧ pU G D (-1) t.2 := by
  have hG := h.1
  obtain ⟨eP, hP⟩ := wG_P hG
  unfold n_pays
  refine gt_cs (u_profitOfSet h hm) (fun a T0 hT0 => ?_)
  obtain ⟨ea, f0⟩ := hT0
  simp only at ea f0
  have p0 := pU_15 h f0
  have hu := p0.2.2.1
  have hd := p0.2.2.2.1
  have u1 : ∀ j, j < nP G → up G D m k 1 j = if m.testBit j = true then (if D 1 j + nn k ≤ 9 then D 1 j + nn k else 9) else D 1 j := fun j hj => by
    have hD := bw_i (hw.1 j (by omega)).1
    have c0 : (0 : Int32).toInt = 0 := by decide
    have c9 : (9 : Int32).toInt = 9 := by decide
    rw [c0, c9] at hD
    have es : (D 1 j + nn k).toInt = (D 1 j).toInt + k := by rw [ti_add (by rw [nn_i (by omega)]; omega) (by rw [nn_i (by omega)]; omega), nn_i (by omega)]
    unfold up
    by_cases q : m.testBit j = true
    · rw [if_pos ⟨rfl, hj, q⟩, if_pos q]
      by_cases y : D 1 j + nn k < 9
      · rw [if_pos y, if_pos (by lia)]
      · rw [if_neg y]
        by_cases z : D 1 j + nn k ≤ 9
        · rw [if_pos z]; lia
        · rw [if_neg z]
    · rw [if_neg (fun z => q z.2.2), if_neg q]
  have u1n : ∀ j, ¬ j < nP G → up G D m k 1 j = D 1 j := fun j hj => by
    unfold up
    rw [if_neg (fun z => hj z.2.1)]
  have u2 : ∀ j, up G D m k 2 j = D 2 j := fun j => by simp [up]
  have u3 : ∀ j, up G D m k 3 j = D 3 j := fun j => by simp [up]
  refine gt_for (nP G) (fun j t => t.1 = nn j ∧ (∀ q i, q ≠ 7 → q ≠ 17 → t.2 q i = T0 q i) ∧ (∀ i, i < 6 → t.2 7 i = if i < j then up G D m k 1 i else D 1 i) ∧ ∀ i, i < j → t.2 17 i = D 1 i) ?_ ?_ 0 5000 _ (by omega) ?_ (by omega)
  · rintro j ⟨_, T⟩ kk hj ⟨rfl, f, g, g2⟩ hkk
    simp only at f g g2
    simp only [n_pays_9, n_pays_82]
    have e1 : T 0 4 = nn (nP G) := by rw [f _ _ (by omega) (by omega), hu.1.2.1, eP]
    have e7 : T 7 j = D 1 j := by rw [g j (by omega), if_neg (by omega)]
    have hb := fb_bi m hm j (by omega)
    unfold bi at hb
    simp (disch := omega) only [e1, nn_le, nn_c, ck_n, let_s, nn_s, e7, hb, gx_st_q]
    rw [if_neg (by omega)]
    have nx : ∀ y, y = up G D m k 1 j → gt (kk (nn (j + 1), gx_st (gx_st T 17 j (D 1 j)) 7 j y)) fun t => t.1 = wpv G D m k ∧ fM S t.2 ∧ pU G D (-1) t.2 := fun y hy => by
      refine hkk _ ⟨rfl, fun q i h1 h2 => ?_, fun i hi => ?_, fun i hi => ?_⟩
      · simp only
        rw [gx_st_q _ _ _ _ h1, gx_st_q _ _ _ _ h2]; exact f q i h1 h2
      · simp only
        by_cases z : i = j
        · subst z; rw [gx_st_eq, if_pos (by omega)]; exact hy
        · rw [gx_st_j _ _ _ z, gx_st_q _ _ _ _ (by omega), g i hi]
          by_cases y : i < j
          · rw [if_pos y, if_pos (by omega)]
          · rw [if_neg y, if_neg (by omega)]
      · simp only
        rw [gx_st_q _ _ _ _ (by omega)]
        by_cases z : i = j
        · subst z; rw [gx_st_eq]
        · rw [gx_st_j _ _ _ z]; exact g2 i (by omega)
    by_cases q : m.testBit j = true
    · simp only [q, ↓reduceIte]
      rw [if_neg (by decide)]
      have := u1 j hj
      rw [if_pos q] at this
      by_cases y : D 1 j + nn k ≤ 9
      · rw [if_pos y] at this ⊢
        exact nx _ this.symm
      · rw [if_neg y] at this ⊢
        exact nx _ this.symm
    · simp only [q]
      rw [if_pos (by decide)]
      have := u1 j hj
      rw [if_neg q] at this
      exact nx _ this.symm
  · rintro ⟨_, T⟩ kk ⟨rfl, f, g, g2⟩
    simp only at f g g2
    simp only [n_pays_9]
    have e1 : T 0 4 = nn (nP G) := by rw [f _ _ (by omega) (by omega), hu.1.2.1, eP]
    simp (disch := omega) only [e1, nn_le]
    rw [if_pos (by omega)]
    have mT : fM S T := fun q j a1 a2 a3 a4 a5 => by rw [f q j a3 (by omega)]; exact f0 q j (by omega)
    have dT : uD (up G D m k) T := fun j hj => by
      obtain ⟨a1, a2, a3⟩ := hd j hj
      refine ⟨?_, by rw [f _ _ (by omega) (by omega), u2]; exact a2, by rw [f _ _ (by omega) (by omega), u3]; exact a3⟩
      rw [g j hj]
      by_cases y : j < nP G
      · rw [if_pos y]
      · rw [if_neg y, u1n j y]
    have pT : pU G (up G D m k) (-1) T := pU_M h mT (fun j hj => by rw [u2]; exact wD_0 hw j hj) dT
    refine gt_cs (u_profitOfSet pT hm) (fun b U hU => ?_)
    obtain ⟨eb, fU⟩ := hU
    simp only at eb fU
    refine gt_for (nP G) (fun j t => t.1 = nn j ∧ (∀ q i, q ≠ 7 → t.2 q i = U q i) ∧ ∀ i, i < 6 → t.2 7 i = if i < j then D 1 i else up G D m k 1 i) ?_ ?_ 0 5000 _ (by omega) ?_ (by omega)
    · rintro j ⟨_, V⟩ kk hj ⟨rfl, fv, gv2⟩ hkk
      simp only at fv gv2
      simp only [n_pays_99]
      have e1 : V 0 4 = nn (nP G) := by rw [fv _ _ (by omega), fU _ _ (by omega), f _ _ (by omega) (by omega), hu.1.2.1, eP]
      have e17 : V 17 j = D 1 j := by rw [fv _ _ (by omega), fU _ _ (by omega)]; exact g2 j hj
      simp (disch := omega) only [e1, nn_le, nn_c, ck_n, let_s, nn_s, e17]
      rw [if_neg (by omega)]
      refine hkk _ ⟨rfl, fun q i hq => ?_, fun i hi => ?_⟩
      · simp only
        rw [gx_st_q _ _ _ _ hq]; exact fv q i hq
      · simp only
        by_cases z : i = j
        · subst z; rw [gx_st_eq, if_pos (by omega)]
        · rw [gx_st_j _ _ _ z, gv2 i hi]
          by_cases y : i < j
          · rw [if_pos y, if_pos (by omega)]
          · rw [if_neg y, if_neg (by omega)]
    · rintro ⟨_, V⟩ kk ⟨rfl, fv, gv2⟩
      simp only at fv gv2
      simp only [n_pays_99]
      have e1 : V 0 4 = nn (nP G) := by rw [fv _ _ (by omega), fU _ _ (by omega), f _ _ (by omega) (by omega), hu.1.2.1, eP]
      simp (disch := omega) only [e1, nn_le]
      rw [if_pos (by omega), ea, eb]
      have mV : fM S V := fun q j a1 a2 a3 a4 a5 => by rw [fv q j a3, fU q j (by omega)]; exact mT q j a1 a2 a3 a4 a5
      have dV : uD D V := fun j hj => by
        obtain ⟨a1, a2, a3⟩ := hd j hj
        refine ⟨?_, by rw [fv _ _ (by omega), fU _ _ (by omega), f _ _ (by omega) (by omega)]; exact a2, by rw [fv _ _ (by omega), fU _ _ (by omega), f _ _ (by omega) (by omega)]; exact a3⟩
        rw [gv2 j hj]
        by_cases y : j < nP G
        · rw [if_pos y]
        · rw [if_neg y]; exact u1n j y
      have pV := pU_M h mV (wD_0 hw) dV
      unfold wpv
      split
      · exact gt_some ⟨rfl, mV, pV⟩
      · exact gt_some ⟨rfl, mV, pV⟩
    · refine ⟨rfl, fun _ _ _ => rfl, fun i hi => ?_⟩
      rw [if_neg (by omega)]
      simp only
      rw [fU _ _ (by omega), g i hi]
      by_cases y : i < nP G
      · rw [if_pos y]
      · rw [if_neg y, u1n i y]
  · exact ⟨rfl, fun _ _ _ _ => rfl, fun i hi => by rw [if_neg (by omega)]; exact (hd i hi).1, fun i hi => absurd hi (by omega)⟩
theorem lsm_y {ok : Nat → Prop} {x : Nat} {r : Int32} (hx : x < 2147483648) (h : lsm ok x r) (ho : ok x) (hb : r = -1 ∨ pc x < pc r.toNatClampNeg) : lsm ok (x + 1) (nn x) := by
  refine Or.inr ⟨x, by omega, rfl, ho, fun m' hm' ho' => ?_⟩
  rcases Nat.lt_or_ge m' x with y | y
  · rcases h with ⟨_, a⟩ | ⟨m, h1, e, h2, a⟩
    · exact absurd ho' (a m' y)
    · have := a m' y ho'
      rcases hb with z | z
      · exact absurd (e.symm.trans z) (nn_m1 (by omega))
      · rw [e, nn_c (by omega)] at z
        exact ⟨by omega, fun w => by omega⟩
  · have : m' = x := by omega
    subst this
    exact ⟨Nat.le_refl _, fun _ => Nat.le_refl _⟩
theorem lsm_n {ok : Nat → Prop} {x : Nat} {r : Int32} (hx : x < 2147483648) (h : lsm ok x r) (hb : ¬ (ok x ∧ (r = -1 ∨ pc x < pc r.toNatClampNeg))) : lsm ok (x + 1) r := by
  rcases h with ⟨e, a⟩ | ⟨m, h1, e, h2, a⟩
  · refine Or.inl ⟨e, fun m hm ho => ?_⟩
    rcases Nat.lt_or_ge m x with y | y
    · exact a m y ho
    · have : m = x := by omega
      subst this
      exact hb ⟨ho, Or.inl e⟩
  · refine Or.inr ⟨m, by omega, e, h2, fun m' hm' ho' => ?_⟩
    rcases Nat.lt_or_ge m' x with y | y
    · exact a m' y ho'
    · have : m' = x := by omega
      subst this
      have : ¬ pc m' < pc m := fun z => hb ⟨ho', Or.inr (by rw [e, nn_c (by omega)]; exact z)⟩
      exact ⟨by omega, fun _ => by omega⟩
theorem lsm_b {ok : Nat → Prop} {x : Nat} {r : Int32} (h : lsm ok x r) : r = -1 ∨ ∃ m, m < x ∧ r = nn m := by
  rcases h with ⟨e, _⟩ | ⟨m, h1, e, _⟩
  · exact Or.inl e
  · exact Or.inr ⟨m, h1, e⟩
theorem u_leastMarket {G D S : gx_S} (h : pU G D (-1) S) (hw : wD G D) {i k : Nat} (hi : i < 6) (hk : k ≤ 5) : gt (n_leastMarket (nn i) (nn k) S) fun t => lsm (okM G D i k) (2 ^ nP G) t.1 ∧ fM S t.2 ∧ pU G D (-1) t.2 := by
  have hG := h.1
  obtain ⟨eP, hP⟩ := wG_P hG
  have hN := p64 (nP G) (by omega)
  have hop := mb_64 (opn G D) hP
  unfold n_leastMarket
  rw [u_openSet h, cp_s]
  have hN0 : 0 < 2 ^ nP G := Nat.pow_pos (by decide)
  obtain ⟨N, hNe⟩ : ∃ N, N = 2 ^ nP G := ⟨_, rfl⟩
  have main : gt (gx_loop (n_leastMarket_11 (nn i) (nn k) (nn (mb (opn G D) (nP G)))) 5000 ((-1), nn 1, S)) fun t => lsm (okM G D i k) N t.1 ∧ fM S t.2 ∧ pU G D (-1) t.2 := by
    refine gt_for N (fun x t => lsm (okM G D i k) x t.1 ∧ t.2.1 = nn x ∧ fM S t.2.2 ∧ pU G D (-1) t.2.2) ?_ ?_ 1 5000 _ (by omega) ?_ (by omega)
    · rintro x ⟨x4, _, T⟩ kk hx ⟨l, rfl, f, p⟩ hkk
      simp only at l f p
      simp only [n_leastMarket_11]
      have e1 : T 0 4 = nn (nP G) := by rw [p.2.2.1.1.2.1, eP]
      rw [e1, fb_1b _ (by omega), ← hNe]
      have hb := fb_bi x (by omega) i hi
      unfold bi at hb
      have hs := fb_sub x (by omega) _ hop
      have hpx : pc x ≤ 6 := cn_le6 x
      have no : ∀ U, fM S U → pU G D (-1) U → ¬ (okM G D i k x ∧ (x4 = -1 ∨ pc x < pc x4.toNatClampNeg)) → gt (kk (x4, nn (x + 1), U)) fun t => lsm (okM G D i k) N t.1 ∧ fM S t.2 ∧ pU G D (-1) t.2 := fun U fU pU' hn => hkk _ ⟨lsm_n (by omega) l hn, rfl, fU, pU'⟩
      have yes : (x4 = -1 ∨ pc x < pc x4.toNatClampNeg) → x &&& mb (opn G D) (nP G) = x → x.testBit i = true → gt (n_leastMarket_65 kk (nn i) (nn k) (nn (mb (opn G D) (nP G))) x4 (nn x) 1 T) fun t => lsm (okM G D i k) N t.1 ∧ fM S t.2 ∧ pU G D (-1) t.2 := fun hbest h1 h2 => by
        unfold n_leastMarket_65
        rw [if_neg (by decide)]
        refine gt_cs (u_pays p hw (by omega) hk) (fun a U hU => ?_)
        obtain ⟨ua, ub, uc⟩ := hU
        simp only at ua ub uc
        rw [ua]
        rcases wpv_01 G D x k with y | y
        · rw [if_pos y]
          simp only [n_leastMarket_87, n_leastMarket_89, nn_s]
          exact no U (fM_t f ub) uc (fun z => absurd (y.symm.trans z.1.2.2) (by decide))
        · rw [y, if_neg (by decide)]
          simp only [n_leastMarket_89, nn_s]
          exact hkk _ ⟨lsm_y (by omega) l ⟨h1, h2, y⟩ hbest, rfl, fM_t f ub, uc⟩
      have n64 : ¬ (okM G D i k x ∧ (x4 = -1 ∨ pc x < pc x4.toNatClampNeg)) → gt (n_leastMarket_64 kk (nn i) (nn k) (nn (mb (opn G D) (nP G))) x4 (nn x) T) fun t => lsm (okM G D i k) N t.1 ∧ fM S t.2 ∧ pU G D (-1) t.2 := fun hn => by
        simp only [n_leastMarket_64, n_leastMarket_65, n_leastMarket_87, n_leastMarket_89, nn_s]
        rw [if_pos trivial]
        exact no T f p hn
      simp (disch := omega) only [nn_le]
      rw [if_neg (by omega)]
      by_cases q1 : x &&& mb (opn G D) (nP G) = x
      · rw [if_pos (hs.mpr q1), hb]
        by_cases q2 : x.testBit i = true
        · simp only [q2, ↓reduceIte]
          rcases lsm_b l with e | ⟨y, hy, e⟩
          · rw [if_pos e]
            unfold n_leastMarket_60
            exact yes (Or.inl e) q1 q2
          · have hpy : pc y ≤ 6 := cn_le6 y
            subst e
            rw [if_neg (nn_m1 (by omega)), u_ones (by omega), u_ones (by omega), cp_s, cp_s]
            simp (disch := omega) only [nn_le]
            by_cases z : pc y ≤ pc x
            · rw [if_pos z]
              refine n64 (fun w => ?_)
              rcases w.2 with w | w
              · exact nn_m1 (by omega) w
              · rw [nn_c (by omega)] at w; omega
            · rw [if_neg z]
              unfold n_leastMarket_60
              exact yes (Or.inr (by rw [nn_c (by omega)]; omega)) q1 q2
        · simp only [q2]
          rw [if_neg (by decide)]
          exact n64 (fun w => q2 w.1.2.1)
      · rw [if_neg (fun z => q1 (hs.mp z))]
        exact n64 (fun w => q1 w.1.1)
    · rintro ⟨x4, _, T⟩ kk ⟨l, rfl, f, p⟩
      simp only at l f p
      simp only [n_leastMarket_11]
      have e1 : T 0 4 = nn (nP G) := by rw [p.2.2.1.1.2.1, eP]
      rw [e1, fb_1b _ (by omega), ← hNe, if_pos (Int32.le_refl _)]
      exact gt_some ⟨l, f, p⟩
    · refine ⟨Or.inl ⟨rfl, fun m hm ho => ?_⟩, rfl, fM_r S, h⟩
      have := (fb_has m (by omega) i hi ho.2.1).2
      have : m = 0 := by omega
      subst this
      exact absurd ho.2.1 (by simp)
  rw [← hNe]
  exact main

/-! b20: the reference: nearest market, instead, from, sold off -/
theorem fb_orp : ∀ n, n < 6 → ∀ m, m < 64 → m.testBit n = false → pc (m ||| 2 ^ n) = pc m + 1 := by decide +kernel
theorem fb_orl : ∀ e, e < 7 → ∀ n, n < e → ∀ m, m < 64 → m < 2 ^ e → (m ||| 2 ^ n) < 2 ^ e := by decide +kernel
theorem fb_pc2 : ∀ n, n < 6 → pc (2 ^ n) = 1 := by decide +kernel
theorem nea_gN {G D : gx_S} (hG : wG G) (i m : Nat) (hi : i < 6) : gN (fun k => ab (G 4 k - G 4 i)) (fun k => opn G D k && !m.testBit k) (nP G) = (nea G D i m (nP G)).1 := by
  have hP := (wG_P hG).2
  obtain ⟨l, hl⟩ := gN_isC (is := fun k => ab (G 4 k - G 4 i)) (op := fun k => opn G D k && !m.testBit k) (w := 98) (n := nP G) (by omega) (by decide)
  have hu := (isC_u hl (chN_isC _ _ _ _)).2
  unfold nea
  rw [← hu]
  rcases gN_c (fun k => ab (G 4 k - G 4 i)) (fun k => opn G D k && !m.testBit k) (nP G) (by omega) with ⟨e, _⟩ | ⟨x, hx, e, _⟩
  · rw [if_pos e, e]
  · rw [e, if_neg (nn_m1 (by omega)), nn_c (by omega), if_pos]
    obtain ⟨e1, h1⟩ := bw_n (n := 9) (by decide) (hG.2.2.1 x).1
    obtain ⟨e2, h2⟩ := bw_n (n := 9) (by decide) (hG.2.2.1 i).1
    rw [e1, e2, ab_n _ (by omega) _ (by omega), show (98 : Int32) = nn 98 from rfl, nn_le (by split <;> omega) (by omega)]
    split <;> omega
theorem u_nearestMarket {G D S : gx_S} (h : pU G D (-1) S) (hw : wD G D) {i k : Nat} (hi : i < nP G) (hk : k ≤ 5) : gt (n_nearestMarket (nn i) (nn k) S) fun t => t.1 = nmk G D i k (nP G) (2 ^ i) ∧ fM S t.2 ∧ pU G D (-1) t.2 := by
  have hG := h.1
  obtain ⟨eP, hP⟩ := wG_P hG
  have hop := mb_64 (opn G D) hP
  unfold n_nearestMarket
  rw [u_openSet h, cp_s, fb_1 i (by omega)]
  refine gt_loop (fun t => (fM S t.2 ∧ pU G D (-1) t.2) ∧ ((t.1 = -1 ∧ nmk G D i k (nP G) (2 ^ i) = -1) ∨ ∃ m n, t.1 = nn m ∧ m < 64 ∧ m < 2 ^ nP G ∧ n + pc m = nP G + 1 ∧ nmk G D i k n m = nmk G D i k (nP G) (2 ^ i))) (fun t => if t.1 = -1 then 0 else 8 - pc t.1.toNatClampNeg) ?_ 5000 _ ?_ ?_
  · rintro ⟨x3, T⟩ kk ⟨⟨f, p⟩, hI⟩ hkk
    simp only at f p hI hkk
    simp only [n_nearestMarket_10]
    rcases hI with ⟨e, er⟩ | ⟨m, n, rfl, hm, hmP, hn, er⟩
    · rw [if_pos e]
      exact gt_some ⟨by rw [er]; exact e, f, p⟩
    · rw [if_neg (nn_m1 (by omega))]
      have hpm := fb_pcn (nP G) (by omega) m hm hmP
      obtain ⟨n', hn'⟩ : ∃ n', n = n' + 1 := ⟨n - 1, by omega⟩
      subst hn'
      have er' : (if wpv G D m k = 0 then (if (nea G D i m (nP G)).1 = -1 then -1 else nmk G D i k n' (m ||| 2 ^ (nea G D i m (nP G)).1.toNatClampNeg)) else nn m) = nmk G D i k (nP G) (2 ^ i) := er
      refine gt_cs (u_pays p hw hm hk) (fun a U hU => ?_)
      obtain ⟨ua, ub, uc⟩ := hU
      simp only at ua ub uc
      rw [ua]
      by_cases q : wpv G D m k = 0
      · rw [if_pos q] at er' ⊢
        have e1 : U 0 4 = nn (nP G) := by rw [uc.2.2.1.1.2.1, eP]
        have el : gx_loop (n_nearestMarket_30 kk (nn i) (nn k) (nn m) (nn (mb (opn G D) (nP G))) U) 5000 ((-1), 0) = n_nearestMarket_145 kk (nn i) (nn k) (nn (mb (opn G D) (nP G))) (if gN (fun k => ab (G 4 k - G 4 i)) (fun k => opn G D k && !m.testBit k) (nP G) = -1 then -1 else nn m ||| ((1 : Int32) <<< (gN (fun k => ab (G 4 k - G 4 i)) (fun k => opn G D k && !m.testBit k) (nP G) &&& 31))) U := by
          refine lp_for (nP G) (fun j => (gN (fun k => ab (G 4 k - G 4 i)) (fun k => opn G D k && !m.testBit k) j, nn j)) (fun j k1 hj => ?_) (fun k1 => ?_) 0 5000 (by omega) (by omega)
          · simp only [n_nearestMarket_30, n_nearestMarket_63, n_nearestMarket_64, n_nearestMarket_114, n_nearestMarket_119, n_nearestMarket_121]
            have b1 := fb_bi m hm j (by omega)
            have b2 := fb_bi _ hop j (by omega)
            rw [tb_mb _ (by omega) hP] at b2
            unfold bi at b1 b2
            have hj' : decide (j < nP G) = true := by simpa using hj
            rw [hj', Bool.and_true] at b2
            rw [show gN (fun k => ab (G 4 k - G 4 i)) (fun k => opn G D k && !m.testBit k) (j + 1) = if (opn G D j && !m.testBit j) = true ∧ (gN (fun k => ab (G 4 k - G 4 i)) (fun k => opn G D k && !m.testBit k) j = -1 ∨ ab (G 4 j - G 4 i) < ab (G 4 (gN (fun k => ab (G 4 k - G 4 i)) (fun k => opn G D k && !m.testBit k) j).toNatClampNeg - G 4 i)) then nn j else gN (fun k => ab (G 4 k - G 4 i)) (fun k => opn G D k && !m.testBit k) j from rfl]
            obtain ⟨s1, _⟩ := uc.2.2.1.2.2.1 j (by omega)
            obtain ⟨s2, _⟩ := uc.2.2.1.2.2.1 i (by omega)
            simp (disch := omega) only [e1, nn_le, nn_s, b1, b2]
            rw [if_neg (by omega)]
            cases ho : opn G D j with
            | false =>
              rw [if_neg (by decide), if_pos trivial, if_neg (fun z => absurd z.1 (by simp))]
            | true =>
              cases hb : m.testBit j with
              | true =>
                rw [if_pos (by decide), if_neg (by decide), if_pos trivial, if_neg (fun z => absurd z.1 (by simp))]
              | false =>
                rw [if_pos (by decide), if_pos (by decide), if_neg (by decide)]
                rcases gN_c (fun k => ab (G 4 k - G 4 i)) (fun k => opn G D k && !m.testBit k) j (by omega) with ⟨e, _⟩ | ⟨x, hx, e, _⟩
                · rw [if_pos e, if_pos ⟨rfl, Or.inl e⟩]
                · obtain ⟨s3, _⟩ := uc.2.2.1.2.2.1 x (by omega)
                  rw [e, if_neg (nn_m1 (by omega))]
                  simp (disch := omega) only [ck_n, nn_c, s1, s2, s3, u_size, cp_s]
                  by_cases z : ab (G 4 x - G 4 i) ≤ ab (G 4 j - G 4 i)
                  · rw [if_pos z, if_neg]
                    rintro ⟨_, w | w⟩
                    · exact nn_m1 (by omega) w
                    · lia
                  · rw [if_neg z, if_pos ⟨rfl, Or.inr (by lia)⟩]
          · simp only [n_nearestMarket_30]
            simp (disch := omega) only [e1, nn_le]
            rw [if_pos (by omega)]
            split <;> rfl
        rw [el, nea_gN hG i m (by omega)]
        unfold n_nearestMarket_145
        rcases nea_n G D i m with y | ⟨x, hx, y, _, hb⟩
        · rw [if_pos y] at er' ⊢
          refine hkk _ ⟨⟨fM_t f ub, uc⟩, Or.inl ⟨rfl, er'.symm⟩⟩ ?_
          simp only
          rw [if_pos trivial, if_neg (nn_m1 (by omega)), nn_c (by omega)]
          omega
        · rw [y, if_neg (nn_m1 (by omega)), nn_c (by omega)] at er'
          have o1 := fb_orb x (by omega) m hm
          have o2 := fb_orp x (by omega) m hm hb
          rw [y, if_neg (nn_m1 (by omega)), o1.1]
          refine hkk _ ⟨⟨fM_t f ub, uc⟩, Or.inr ⟨_, n', rfl, o1.2, fb_orl _ (by omega) x hx m hm hmP, by omega, er'⟩⟩ ?_
          simp only
          rw [if_neg (nn_m1 (by omega)), if_neg (nn_m1 (by omega)), nn_c (by omega), nn_c (by omega)]
          omega
      · rw [if_neg q] at er' ⊢
        exact gt_some ⟨er', fM_t f ub, uc⟩
  · refine ⟨⟨fM_r S, h⟩, Or.inr ⟨2 ^ i, nP G, rfl, ?_, ?_, ?_, rfl⟩⟩
    · have : ∀ i, i < 6 → 2 ^ i < 64 := by decide
      exact this i (by omega)
    · exact Nat.pow_lt_pow_right (by decide) hi
    · rw [fb_pc2 i (by omega)]
  · simp only
    split <;> omega
theorem u_insteadOf {G D S : gx_S} (h : pU G D (-1) S) {s : Nat} (hs : s < nS G) (x : Int32) : gt (n_insteadOf (nn s) x S) fun t => t.1 = cho G D s x ∧ fM S t.2 ∧ pU G D (-1) t.2 := by
  have hS := (wG_S h.1).2
  unfold n_insteadOf
  refine gt_let ?_
  have p : pU G D x (gx_st S 0 23 x) := by
    obtain ⟨hG, h0, ⟨⟨a1, a2, a3⟩, b, c, d⟩, hd, e⟩ := h
    refine ⟨hG, h0, ⟨⟨?_, ?_, ?_⟩, fun o ho => ?_, fun k hk => ?_, fun s i hs hi => ?_⟩, fun j hj => ?_, gx_st_eq _ _ _ _⟩
    · rw [gx_st_j _ _ _ (by omega)]; exact a1
    · rw [gx_st_j _ _ _ (by omega)]; exact a2
    · rw [gx_st_j _ _ _ (by omega)]; exact a3
    · rw [gx_st_q _ _ _ _ (by omega), gx_st_q _ _ _ _ (by omega)]; exact b o ho
    · rw [gx_st_q _ _ _ _ (by omega), gx_st_q _ _ _ _ (by omega)]; exact c k hk
    · rw [gx_st_q _ _ _ _ (by omega)]; exact d s i hs hi
    · rw [gx_st_q _ _ _ _ (by omega), gx_st_q _ _ _ _ (by omega), gx_st_q _ _ _ _ (by omega)]; exact hd j hj
  rw [u_goesTo p hs, cp_s]
  refine gt_let ?_
  have f : ∀ q j, gx_st (gx_st S 0 23 x) 0 23 (-1) q j = S q j := fun q j => by
    by_cases z : q = 0
    · subst z
      by_cases y : j = 23
      · subst y; rw [gx_st_eq]; exact h.2.2.2.2.symm
      · rw [gx_st_j _ _ _ y, gx_st_j _ _ _ y]
    · rw [gx_st_q _ _ _ _ z, gx_st_q _ _ _ _ z]
  exact gt_some ⟨rfl, fun q j _ _ _ _ _ => f q j, pU_f h (fun q j _ => f q j)⟩
def fro (G D : gx_S) (a b : Nat) : Int32 := sm (fun s => if cho G D s (-1) = nn a ∧ cho G D s (nn a) = nn b then G 7 s else 0) (nS G)
theorem u_from {G D S : gx_S} (h : pU G D (-1) S) (a b : Nat) : gt (gx_loop (n_from_29 (nn a) (nn b)) 5000 (0, 0, S)) fun t => t.1 = fro G D a b ∧ fM S t.2 ∧ pU G D (-1) t.2 := by
  have hG := h.1
  obtain ⟨eS, hS⟩ := wG_S hG
  refine gt_for (nS G) (fun s t => t.1 = sm (fun s => if cho G D s (-1) = nn a ∧ cho G D s (nn a) = nn b then G 7 s else 0) s ∧ t.2.1 = nn s ∧ fM S t.2.2 ∧ pU G D (-1) t.2.2) ?_ ?_ 0 5000 _ (by omega) ⟨rfl, rfl, fM_r S, h⟩ (by omega)
  · rintro s ⟨_, _, T⟩ k hs ⟨rfl, rfl, f, p⟩ hk
    simp only at f p
    simp only [n_from_29, n_from_70, n_from_71]
    have e1 : T 0 9 = nn (nS G) := by rw [p.2.2.1.1.2.2, eS]
    simp (disch := omega) only [e1, nn_le, nn_s, u_goesTo p hs, cp_s]
    rw [if_neg (by omega)]
    have nx : ∀ x U, x = (if cho G D s (-1) = nn a ∧ cho G D s (nn a) = nn b then G 7 s else 0) → fM S U → pU G D (-1) U → gt (k (sm (fun s => if cho G D s (-1) = nn a ∧ cho G D s (nn a) = nn b then G 7 s else 0) s + x, nn (s + 1), U)) fun t => t.1 = fro G D a b ∧ fM S t.2 ∧ pU G D (-1) t.2 := fun x U hx hf hp => hk _ ⟨by rw [hx]; rfl, rfl, hf, hp⟩
    by_cases q : cho G D s (-1) = nn a
    · rw [if_pos q]
      refine gt_cs (u_insteadOf p hs (nn a)) (fun v U hU => ?_)
      obtain ⟨u1, u2, u3⟩ := hU
      simp only at u1 u2 u3
      have t1 : n_told (nn s) 1 U = some (G 7 s) := u_told u3.2.2.1 (i := 1) (by omega) (by omega)
      rw [u1, t1, cp_s]
      by_cases y : cho G D s (nn a) = nn b
      · rw [if_pos y]
        exact nx _ U (by rw [if_pos ⟨q, y⟩]) (fM_t f u2) u3
      · rw [if_neg y]
        exact nx _ U (by rw [if_neg (fun z => y z.2)]) (fM_t f u2) u3
    · rw [if_neg q]
      exact nx _ T (by rw [if_neg (fun z => q z.1)]) f p
  · rintro ⟨_, _, T⟩ k ⟨rfl, rfl, f, p⟩
    simp only at f p
    simp only [n_from_29]
    have e1 : T 0 9 = nn (nS G) := by rw [p.2.2.1.1.2.2, eS]
    simp (disch := omega) only [e1, nn_le]
    rw [if_pos (by omega)]
    exact gt_some ⟨rfl, f, p⟩
theorem x_from {G D S : gx_S} (h : pX 0 G D S) (a b : Nat) : gx_loop (m_ShopsAsOne_from_29 (nn a) (nn b) S) 5000 (0, 0) = some (fro G D a b) := by
  have v := h.2.2.1.1
  obtain ⟨eS, hS⟩ := wG_S h.1
  refine lp_for (nS G) (fun j => (sm (fun s => if cho G D s (-1) = nn a ∧ cho G D s (nn a) = nn b then G 7 s else 0) j, nn j)) (fun j k hj => ?_) (fun k => ?_) 0 5000 (by omega) (by omega)
  · simp only [m_ShopsAsOne_from_29, m_ShopsAsOne_from_82]
    simp (disch := omega) only [v, eS, nn_le, x_choice h hj, cp_s, nn_s, ck_n, nn_c]
    rw [if_neg (by omega)]
    rw [show sm (fun s => if cho G D s (-1) = nn a ∧ cho G D s (nn a) = nn b then G 7 s else 0) (j + 1) = sm (fun s => if cho G D s (-1) = nn a ∧ cho G D s (nn a) = nn b then G 7 s else 0) j + (if cho G D j (-1) = nn a ∧ cho G D j (nn a) = nn b then G 7 j else 0) from rfl]
    by_cases q : cho G D j (-1) = nn a
    · rw [if_pos q]
      by_cases y : cho G D j (nn a) = nn b
      · rw [if_pos y, if_pos ⟨q, y⟩]
      · rw [if_neg y, if_neg (fun z => y z.2), Int32.add_zero]
    · rw [if_neg q, if_neg (fun z => q z.1), Int32.add_zero]
  · simp only [m_ShopsAsOne_from_29]
    simp (disch := omega) only [v, eS, nn_le]
    rw [if_pos (by omega)]
    rfl

/-! b21: sold off, both -/
theorem cn_imp {p p' : Nat → Bool} : ∀ {n : Nat}, (∀ k, k < n → p k = true → p' k = true) → cn p n ≤ cn p' n
  | 0, _ => Nat.le_refl _
  | n + 1, h => by
    have ih := cn_imp (n := n) (fun k hk => h k (by omega))
    show cn p n + (if p n then 1 else 0) ≤ cn p' n + (if p' n then 1 else 0)
    by_cases q : p n = true
    · rw [if_pos q, if_pos (h n (by omega) q)]; omega
    · rw [if_neg q]; omega
theorem cn_or_le {p p' : Nat → Bool} : ∀ {n : Nat}, cn (fun k => p k || p' k) n ≤ cn p n + cn p' n
  | 0 => Nat.le_refl _
  | n + 1 => by
    have ih := cn_or_le (p := p) (p' := p') (n := n)
    show cn _ n + (if (p n || p' n) = true then 1 else 0) ≤ cn p n + (if p n then 1 else 0) + (cn p' n + (if p' n then 1 else 0))
    cases p n <;> cases p' n <;> simp <;> omega
theorem cn_tb (m : Nat) : ∀ n, cn (fun k => m.testBit k) n = pcn m n
  | 0 => rfl
  | n + 1 => by
    show cn _ n + (if m.testBit n then 1 else 0) = pcn m n + (if m.testBit n then 1 else 0)
    rw [cn_tb m n]
theorem pcn_le (m : Nat) {n : Nat} (h : n ≤ 6) : pcn m n ≤ pc m := by
  rw [← cn_tb, show pc m = pcn m 6 from rfl, ← cn_tb]
  exact cn_mono _ h
theorem wD_sx {G D : gx_S} (hG : wG G) (hw : wD G D) {m c : Nat} (hc : c < nO G) (hm : cnt G D c + pc m ≤ 3) : wD G (sx2 G D m (nn c)) := by
  have hP := (wG_P hG).2
  have hO := (wG_O hG).2
  refine ⟨fun j hj => ⟨?_, ?_, ?_⟩, fun k hk => ?_, fun o ho => ?_⟩
  · have : sx2 G D m (nn c) 1 j = D 1 j := by simp [sx2]
    rw [this]; exact (hw.1 j hj).1
  · unfold sx2
    split
    · exact nn_b (b := 5) (by omega) (by decide)
    · exact (hw.1 j hj).2.1
  · have : sx2 G D m (nn c) 3 j = D 3 j := by simp [sx2]
    rw [this]; exact (hw.1 j hj).2.2
  · unfold wh sx2
    split
    · rw [nn_c (by omega)]; exact hc
    · exact hw.2.1 k hk
  · by_cases z : o = c
    · subst z
      have h1 : cnt G (sx2 G D m (nn o)) o ≤ cn (fun k => ow D o k || m.testBit k) (nP G) := cn_imp (fun k hk hq => by
        unfold ow sx2 at hq
        by_cases y : m.testBit k = true
        · simp [y]
        · rw [if_neg (fun w => y w.2.2)] at hq
          have : ow D o k = true := hq
          simp [this])
      have h2 := cn_or_le (p := ow D o) (p' := fun k => m.testBit k) (n := nP G)
      have h3 : cn (fun k => m.testBit k) (nP G) ≤ pc m := by rw [cn_tb]; exact pcn_le m hP
      unfold cnt cu at *
      omega
    · have h1 : cnt G (sx2 G D m (nn c)) o ≤ cnt G D o := cn_imp (fun k hk hq => by
        unfold ow sx2 at hq
        by_cases y : 2 = 2 ∧ k < nP G ∧ m.testBit k = true
        · rw [if_pos y, decide_eq_true_eq, nn_eq (by omega) (by omega)] at hq
          exact absurd hq.symm z
        · rw [if_neg y] at hq
          exact hq)
      have := hw.2.2 o ho
      omega
theorem fb_or2 : ∀ m, m < 64 → ∀ m', m' < 64 → nn m ||| nn m' = nn (m ||| m') ∧ (m ||| m') < 64 := by decide +kernel
theorem fb_lt2 : ∀ e, e < 7 → ∀ m, m < 64 → m < 2 ^ e → ∀ m', m' < 64 → m' < 2 ^ e → (m ||| m') < 2 ^ e := by decide +kernel
def ths (G D : gx_S) (a b : Nat) : Nat := mb (ow D a) (nP G) ||| mb (ow D b) (nP G)
theorem fb_ext : ∀ m, m < 64 → ∀ m', m' < 64 → (∀ k, k < 6 → m.testBit k = m'.testBit k) → m = m' := by decide +kernel
theorem ths_mb {G D : gx_S} (hG : wG G) (a b : Nat) : ths G D a b = mb (fun k => ow D a k || ow D b k) (nP G) := by
  have hP := (wG_P hG).2
  have h1 := mb_64 (ow D a) hP
  have h2 := mb_64 (ow D b) hP
  refine fb_ext _ (fb_or2 _ h1 _ h2).2 _ (mb_64 _ hP) (fun k hk => ?_)
  rw [Nat.testBit_or, tb_mb _ hk hP, tb_mb _ hk hP, tb_mb _ hk hP]
  cases ow D a k <;> cases ow D b k <;> simp
def okS (G D B : gx_S) (a b c : Nat) (t : Int32) (m : Nat) : Prop := m &&& ths G D a b = m ∧ cnt G D c + pc m ≤ 3 ∧ ¬ t < dws G B (sx2 G (gv G D a b) m (nn c))
theorem wD_sxg {G D : gx_S} (hG : wG G) (hw : wD G D) {a b c m : Nat} (ha : a < nO G) (hb : b < nO G) (hc : c < nO G) (hab : a ≠ b) (hca : c ≠ a) (hcb : c ≠ b) (hm1 : cnt G D a + cnt G D b ≤ 3) (hm : cnt G D c + pc m ≤ 3) : wD G (sx2 G (gv G D a b) m (nn c)) := by
  have hO := (wG_O hG).2
  refine wD_sx hG (wD_gv hw hO ha hb hab hm1) hc ?_
  rw [cnt_gv (by omega) (by omega) hab (by omega), if_neg hca, if_neg hcb]
  exact hm
theorem pc_0 : pc 0 = 0 := by decide
theorem x_soldOff {G D S : gx_S} (h : pX 0 G D S) (hw : wD G D) {a b c : Nat} {t : Int32} (ha : a < nO G) (hb : b < nO G) (hc : c < nO G) (hab : a ≠ b) (hca : c ≠ a) (hcb : c ≠ b) (hm1 : cnt G D a + cnt G D b ≤ 3) {B : gx_S} (hB : sB G B S) : gt (gx_loop (m_ShopsAsOne_soldOff_106 (nn a) (nn b) (nn c) t (nn (ths G D a b)) ((3 : Int32) - nn (cnt G D c))) 5000 (0, S)) fun r => lsm (okS G D B a b c t) (2 ^ nP G) r.1 ∧ fK S r.2 := by
  have hG := h.1
  have hO := (wG_O hG).2
  have hP := (wG_P hG).2
  have h3 := hw.2.2 c (by omega)
  have h64 : ths G D a b < 64 := by rw [ths_mb hG]; exact mb_64 _ hP
  have hle : ∀ m, m < 2 ^ nP G → okS G D B a b c t m → m ≤ ths G D a b := fun m hm ho => fb_sle m (by have := p64 (nP G) (by omega); omega) _ h64 ho.1
  have hN : ths G D a b < 2 ^ nP G := by rw [ths_mb hG]; exact mb_lt _ _
  have hN64 := p64 (nP G) (by omega)
  have er : (3 : Int32) - nn (cnt G D c) = nn (3 - cnt G D c) := by
    have : ∀ c, c ≤ 3 → (3 : Int32) - nn c = nn (3 - c) := by decide
    exact this _ h3
  rw [er]
  refine gt_for (3 - cnt G D c + 1) (fun z r => r.1 = nn z ∧ fK S r.2 ∧ ∀ m, m < 2 ^ nP G → okS G D B a b c t m → z ≤ pc m) ?_ ?_ 0 5000 _ (by omega) ⟨rfl, fun _ _ _ => rfl, fun _ _ _ => Nat.zero_le _⟩ (by omega)
  · rintro z ⟨_, T⟩ k2 hz ⟨rfl, f, g⟩ hk2
    simp only at f g
    simp only [m_ShopsAsOne_soldOff_106]
    rw [if_neg (by rw [nn_lt (by omega) (by omega)]; omega)]
    refine gt_for (ths G D a b + 1) (fun x r => r.1 = nn x ∧ fK S r.2 ∧ ∀ m, m < 2 ^ nP G → okS G D B a b c t m → z ≤ pc m ∧ (z = pc m → x ≤ m)) ?_ ?_ 0 5000 _ (by omega) ⟨rfl, f, fun m hm ho => ⟨g m hm ho, fun _ => Nat.zero_le _⟩⟩ (by omega)
    · rintro x ⟨_, U⟩ k1 hx ⟨rfl, f, g⟩ hk1
      simp only at f g
      simp only [m_ShopsAsOne_soldOff_116, m_ShopsAsOne_soldOff_147, m_ShopsAsOne_soldOff_148, m_ShopsAsOne_soldOff_179]
      have p := pX_K h (by omega) f
      have hpx : pc x ≤ 6 := cn_le6 x
      have nx : ∀ V, fK S V → ¬ (okS G D B a b c t x ∧ pc x = z) → gt (k1 (nn x + 1, V)) fun r => lsm (okS G D B a b c t) (2 ^ nP G) r.1 ∧ fK S r.2 := fun V fV hno => by
        rw [nn_s]
        refine hk1 _ ⟨rfl, fV, fun m hm ho => ⟨(g m hm ho).1, fun y => ?_⟩⟩
        have h1 := (g m hm ho).2 y
        rcases Nat.lt_or_ge x m with y2 | y2
        · omega
        · have : m = x := by omega
          subst this
          exact absurd ⟨ho, y.symm⟩ hno
      rw [if_neg (by rw [nn_lt (by omega) (by omega)]; omega), x_bitCount (by omega), cp_s]
      simp (disch := omega) only [nn_eq]
      have hs := fb_sub x (by omega) _ h64
      by_cases q1 : pc x = z
      · rw [if_pos q1]
        by_cases q2 : x &&& ths G D a b = x
        · rw [if_pos (hs.mpr q2), if_neg (by decide)]
          have hpc : cnt G D c + pc x ≤ 3 := by omega
          refine gt_cs (x_dws p hw (by omega) (a := a) (b := b) (c := c) (m := x) (by omega) (by omega) (wD_sxg hG hw ha hb hc hab hca hcb hm1 hpc) (by omega) (sB_K hB f)) (fun v V hV => ?_)
          obtain ⟨v1, v2⟩ := hV
          simp only at v1 v2
          have ev : v = dws G B (sx2 G (gv G D a b) x (nn c)) := v1
          rw [ev]
          by_cases y : t < dws G B (sx2 G (gv G D a b) x (nn c))
          · rw [if_pos y]
            exact nx V (fK_t f v2) (fun w => w.1.2.2 y)
          · rw [if_neg y]
            refine gt_some ⟨Or.inr ⟨x, by omega, rfl, ⟨q2, hpc, y⟩, fun m' hm' ho' => ?_⟩, fK_t f v2⟩
            have := g m' hm' ho'
            rw [q1]
            exact this
        · rw [if_neg (fun w => q2 (hs.mp w)), if_pos trivial]
          exact nx U f (fun w => q2 w.1.1)
      · rw [if_neg q1, if_pos trivial]
        exact nx U f (fun w => q1 w.2)
    · rintro ⟨_, U⟩ k1 ⟨rfl, f, g⟩
      simp only at f g
      simp only [m_ShopsAsOne_soldOff_116]
      rw [if_pos (by rw [nn_lt (by omega) (by omega)]; omega), nn_s]
      refine hk2 _ ⟨rfl, f, fun m hm ho => ?_⟩
      have := g m hm ho
      have := hle m hm ho
      rcases Nat.lt_or_ge z (pc m) with y | y
      · omega
      · have := (g m hm ho).2 (by omega)
        omega
  · rintro ⟨_, T⟩ k2 ⟨rfl, f, g⟩
    simp only at f g
    simp only [m_ShopsAsOne_soldOff_106]
    rw [if_pos (by rw [nn_lt (by omega) (by omega)]; omega)]
    refine gt_some ⟨Or.inl ⟨rfl, fun m hm ho => ?_⟩, f⟩
    have := g m hm ho
    have := ho.2.1
    omega
theorem u_soldOff {G D S : gx_S} (h : pU G D (-1) S) (hw : wD G D) {a b c : Nat} {t : Int32} (h0 : 0 ≤ t) (h9 : t ≤ 9) (ha : a < nO G) (hb : b < nO G) (hc : c < nO G) (hab : a ≠ b) (hca : c ≠ a) (hcb : c ≠ b) (hm1 : cnt G D a + cnt G D b ≤ 3) {B : gx_S} (hB : ∀ s, s < nS G → S 21 s = spa G B s) : gt (gx_loop (n_soldOff_71 (nn a) (nn b) (nn c) t S) 5000 (0, 0)) fun r => lsm (okS G D B a b c t) (2 ^ nP G) r.1 ∧ fM S r.2 ∧ pU G D (-1) r.2 := by
  have hG := h.1
  have hO := (wG_O hG).2
  obtain ⟨eP, hP⟩ := wG_P hG
  have h3 := hw.2.2 c (by omega)
  have h64 : ths G D a b < 64 := by rw [ths_mb hG]; exact mb_64 _ hP
  have hN64 := p64 (nP G) (by omega)
  have e1 : S 0 4 = nn (nP G) := by rw [h.2.2.1.1.2.1, eP]
  have wg := wD_gv hw hO ha hb hab hm1
  obtain ⟨N, hNe⟩ : ∃ N, N = 2 ^ nP G := ⟨_, rfl⟩
  have main : gt (gx_loop (n_soldOff_127 (nn a) (nn b) (nn c) t (nn (ths G D a b))) 5000 ((-1), nn 0, S)) fun r => lsm (okS G D B a b c t) N r.1 ∧ fM S r.2 ∧ pU G D (-1) r.2 := by
    refine gt_for N (fun x r => lsm (okS G D B a b c t) x r.1 ∧ r.2.1 = nn x ∧ fM S r.2.2 ∧ pU G D (-1) r.2.2 ∧ ∀ s, s < nS G → r.2.2 21 s = spa G B s) ?_ ?_ 0 5000 _ (by omega) ⟨Or.inl ⟨rfl, fun m hm => absurd hm (by omega)⟩, rfl, fM_r S, h, hB⟩ (by omega)
    · rintro x ⟨x6, _, T⟩ kk hx ⟨l, rfl, f, p, b21⟩ hkk
      simp only at l f p b21
      simp only [n_soldOff_127, n_soldOff_186]
      have e1 : T 0 4 = nn (nP G) := by rw [p.2.2.1.1.2.1, eP]
      rw [e1, fb_1b _ (by omega), ← hNe]
      have hs := fb_sub x (by omega) _ h64
      have hpx : pc x ≤ 6 := cn_le6 x
      have no : ∀ U, fM S U → pU G D (-1) U → (∀ s, s < nS G → U 21 s = spa G B s) → ¬ (okS G D B a b c t x ∧ (x6 = -1 ∨ pc x < pc x6.toNatClampNeg)) → gt (kk (x6, nn (x + 1), U)) fun r => lsm (okS G D B a b c t) N r.1 ∧ fM S r.2 ∧ pU G D (-1) r.2 := fun U fU pU' bU hn => hkk _ ⟨lsm_n (by omega) l hn, rfl, fU, pU', bU⟩
      have n186 : ¬ (okS G D B a b c t x ∧ (x6 = -1 ∨ pc x < pc x6.toNatClampNeg)) → gt (n_soldOff_187 kk (nn a) (nn b) (nn c) t (nn (ths G D a b)) x6 (nn x) 0 T) fun r => lsm (okS G D B a b c t) N r.1 ∧ fM S r.2 ∧ pU G D (-1) r.2 := fun hn => by
        simp only [n_soldOff_187, n_soldOff_222, n_soldOff_224, nn_s]
        rw [if_pos trivial]
        exact no T f p b21 hn
      have yes : (x6 = -1 ∨ pc x < pc x6.toNatClampNeg) → x &&& ths G D a b = x → cnt G D c + pc x ≤ 3 → gt (n_soldOff_182 kk (nn a) (nn b) (nn c) t (nn (ths G D a b)) x6 (nn x) T) fun r => lsm (okS G D B a b c t) N r.1 ∧ fM S r.2 ∧ pU G D (-1) r.2 := fun hbest k1 k2 => by
        simp only [n_soldOff_182, n_soldOff_187, n_soldOff_222, n_soldOff_224, nn_s]
        rw [if_neg (by decide)]
        refine gt_cs (u_layBehind (m := x) (a := a) (b := b) (x := nn c) p hw (by omega) (wD_0 wg) (wD_sxg hG hw ha hb hc hab hca hcb hm1 k2)) (fun v U hU => ?_)
        obtain ⟨u1, u2, u3, u4, u5, u6⟩ := hU
        simp only at u1 u2 u3 u4 u5 u6
        have b21U : ∀ s, s < nS G → U 21 s = spa G B s := fun s hs => by rw [u6]; exact b21 s hs
        have hdw := dws_le (G := G) (B := B) (E := sx2 G (gv G D a b) x (nn c)) h0 h9
        rw [u1]
        by_cases q : (ste G (sx2 G (gv G D a b) x (nn c))).1 = -1
        · rw [if_pos q, if_pos rfl]
          exact no U (fM_t f u2) u3 b21U (fun w => w.1.2.2 (hdw.mpr (fun z => z.1 q)))
        · rw [if_neg q, if_neg (by decide), u_isBelow u3 b21U u5 t, cp_s]
          simp only [ib_0]
          by_cases y : allB G B (ste G (sx2 G (gv G D a b) x (nn c))).2 t (nS G) = true
          · rw [if_neg (by simp [y])]
            exact hkk _ ⟨lsm_y (by omega) l ⟨k1, k2, fun w => hdw.mp w ⟨q, y⟩⟩ hbest, rfl, fM_t f u2, u3, b21U⟩
          · rw [if_pos (by simpa using y)]
            exact no U (fM_t f u2) u3 b21U (fun w => w.1.2.2 (hdw.mpr (fun z => y z.2)))
      simp (disch := omega) only [nn_le]
      rw [if_neg (by omega)]
      by_cases q1 : x &&& ths G D a b = x
      · rw [if_pos (hs.mpr q1), u_shopsOf p c, cp_s, u_ones (by omega), cp_s, nn_add]
        rw [show (3 : Int32) = nn 3 from rfl]
        simp (disch := omega) only [nn_lt]
        by_cases q2 : 3 < cnt G D c + pc x
        · rw [if_pos q2]
          exact n186 (fun w => by have := w.1.2.1; omega)
        · rw [if_neg q2]
          rcases lsm_b l with e | ⟨y, hy, e⟩
          · rw [if_pos e]
            exact yes (Or.inl e) q1 (by omega)
          · have hpy : pc y ≤ 6 := cn_le6 y
            subst e
            rw [if_neg (nn_m1 (by omega)), cp_s, u_ones (by omega), cp_s]
            simp (disch := omega) only [nn_le]
            by_cases z : pc y ≤ pc x
            · rw [if_pos z]
              refine n186 (fun w => ?_)
              rcases w.2 with w | w
              · exact nn_m1 (by omega) w
              · rw [nn_c (by omega)] at w; omega
            · rw [if_neg z]
              exact yes (Or.inr (by rw [nn_c (by omega)]; omega)) q1 (by omega)
      · rw [if_neg (fun z => q1 (hs.mp z))]
        exact n186 (fun w => q1 w.1.1)
    · rintro ⟨x6, _, T⟩ kk ⟨l, rfl, f, p, _⟩
      simp only at l f p
      simp only [n_soldOff_127]
      have e1 : T 0 4 = nn (nP G) := by rw [p.2.2.1.1.2.1, eP]
      rw [e1, fb_1b _ (by omega), ← hNe, if_pos (Int32.le_refl _)]
      exact gt_some ⟨l, f, p⟩
  rw [← hNe]
  have el : gx_loop (n_soldOff_71 (nn a) (nn b) (nn c) t S) 5000 (0, 0) = gx_loop (n_soldOff_127 (nn a) (nn b) (nn c) t (nn (ths G D a b))) 5000 ((-1), nn 0, S) := by
    rw [ths_mb hG]
    refine lp_for (nP G) (fun j => (nn (mb (fun k => ow D a k || ow D b k) j), nn j)) (fun j k hj => ?_) (fun k => ?_) 0 5000 (by omega) (by omega)
    · simp only [n_soldOff_71, n_soldOff_104, n_soldOff_112]
      obtain ⟨d1, d2, d3⟩ := h.2.2.2.1 j (by omega)
      simp (disch := omega) only [e1, nn_le, nn_c, ck_n, nn_s, d2]
      rw [if_neg (by omega)]
      by_cases qa : D 2 j = nn a
      · rw [if_pos qa, mb_or _ (by omega) (by simp [ow, qa])]
      · rw [if_neg qa]
        by_cases qb : D 2 j = nn b
        · rw [if_pos qb, mb_or _ (by omega) (by simp [ow, qb])]
        · rw [if_neg qb, mb_no _ (by simp [ow, qa, qb]), Int32.or_zero]
    · simp only [n_soldOff_71]
      simp (disch := omega) only [e1, nn_le]
      rw [if_pos (by omega)]
      rfl
  rw [el]
  exact main


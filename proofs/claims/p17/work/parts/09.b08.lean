/-! b08: all prices tried: the first greatest profit -/
def dt (G D : gx_S) (o : Nat) (τ : Nat → Int32) : gx_S := fun i j => if i = 1 then (if j < nP G ∧ ow D o j = true then τ (cu D o j) else D 1 j) else if i = 3 ∧ j = o then 1 else D i j
theorem dt_1 (G D : gx_S) (o : Nat) (τ : Nat → Int32) (j : Nat) : dt G D o τ 1 j = if j < nP G ∧ ow D o j = true then τ (cu D o j) else D 1 j := by simp [dt]
theorem dt_2 (G D : gx_S) (o : Nat) (τ : Nat → Int32) (j : Nat) : dt G D o τ 2 j = D 2 j := by simp [dt]
theorem dt_3 (G D : gx_S) (o : Nat) (τ : Nat → Int32) (j : Nat) : dt G D o τ 3 j = if j = o then 1 else D 3 j := by simp [dt]
theorem ow_wh {D : gx_S} (h0 : w0 D) {o k : Nat} (ho : o < 6) (hk : k < 6) : ow D o k = true ↔ wh D k = o := by
  obtain ⟨e, h⟩ := w0_w h0 hk
  unfold ow
  rw [decide_eq_true_iff, e, nn_eq (by omega) (by omega)]
theorem opn_dt {G D : gx_S} (h0 : w0 D) {o k : Nat} (ho : o < 6) (hk : k < 6) (τ : Nat → Int32) : opn G (dt G D o τ) k = (ow D o k || opn G D k) := by
  have e : wh (dt G D o τ) k = wh D k := by unfold wh; rw [dt_2]
  unfold opn
  rw [e, dt_3]
  by_cases q : wh D k = o
  · rw [if_pos q, (ow_wh h0 ho hk).mpr q]
    simp
  · rw [if_neg q]
    have : ow D o k = false := by
      cases h : ow D o k
      · rfl
      · exact absurd ((ow_wh h0 ho hk).mp h) q
    rw [this]
    simp
theorem cho_dt {G D : gx_S} (hG : wG G) (h0 : w0 D) {o s : Nat} (ho : o < 6) {τ : Nat → Int32} {l c : Int32} (h : isC (lM G D o (cnt G D o)) (ist G D o τ s) (G 9 s) (nP G) l c) : c = cho G (dt G D o τ) s (-1) := by
  have hP := (wG_P hG).2
  refine cho_u (l := l) (isC_cg h (fun j hj => ?_) (fun j hj hm => ?_))
  · unfold opx lM
    rw [opn_dt h0 ho (by omega)]
    have : ¬ nn j = -1 := nn_m1 (by omega)
    by_cases q : ow D o j = true
    · have hlt : cu D o j < cnt G D o := cn_lt (ow D o) hj q
      rw [if_pos q, q]
      simp [hlt, this]
    · rw [if_neg q]
      simp [q, this]
  · unfold ist isv
    rw [dt_1]
    by_cases q : ow D o j = true
    · rw [if_pos q, if_pos ⟨hj, q⟩]
    · rw [if_neg q, if_neg (fun z => q z.2)]
theorem sx_dt {G D : gx_S} (hG : wG G) {o : Nat} (τ : Nat → Int32) (s : Nat) : G 7 s * er G D o τ (cho G (dt G D o τ) s (-1)) = sx G (dt G D o τ) (gPr G (dt G D o τ) o) s := by
  have hP := (wG_P hG).2
  rw [sx_d]
  unfold er
  rcases cho_n G (dt G D o τ) s (-1) with e | ⟨i, hi, e, _⟩
  · rw [e, if_pos rfl, if_pos rfl, Int32.mul_zero]
  · rw [e, if_neg (nn_m1 (by omega)), if_neg (nn_m1 (by omega)), nn_c (by omega)]
    unfold gPr
    rw [dt_1, dt_2]
    by_cases q : ow D o i = true
    · have q' : D 2 i = nn o := by simpa [ow] using q
      rw [if_pos q, if_pos q', if_pos ⟨hi, q⟩]
    · have q' : ¬ D 2 i = nn o := by simpa [ow] using q
      rw [if_neg q, if_neg q']
/-- what is found with all own shops priced -/
theorem pro_lv {G D T : gx_S} (hG : wG G) (h0 : w0 D) {o : Nat} (ho : o < 6) {τ : Nat → Int32} {e : Nat → Int32} (h : ∀ s, s < nS G → ∃ l c, isC (lM G D o (cnt G D o)) (ist G D o τ s) (G 9 s) (nP G) l c ∧ e s = er G D o τ c) : sm (fun s => G 7 s * e s) (nS G) = pro G (dt G D o τ) o := by
  refine sm_cg (fun s hs => ?_)
  obtain ⟨l, c, h1, h2⟩ := h s hs
  rw [h2, cho_dt hG h0 ho h1]
  exact sx_dt hG τ s
theorem dt_cg {G D : gx_S} {o : Nat} {τ τ' : Nat → Int32} (h : ∀ i, i < cnt G D o → τ i = τ' i) : dt G D o τ = dt G D o τ' := by
  funext i j
  unfold dt
  by_cases q : i = 1
  · rw [if_pos q, if_pos q]
    by_cases y : j < nP G ∧ ow D o j = true
    · rw [if_pos y, if_pos y]
      exact h _ (cn_lt (ow D o) y.1 y.2)
    · rw [if_neg y, if_neg y]
  · rw [if_neg q, if_neg q]
def bst (F : Nat → Int32) : Nat → Int32 × Nat
  | 0 => (-1000000, 0)
  | m + 1 => if (bst F m).1 < F m then (F m, m) else bst F m
/-- the price of level i by code m -/
def tm (one : Bool) (c m i : Nat) : Int32 := nn (if one then m else m / 10 ^ (c - 1 - i) % 10)
def fF (G D : gx_S) (o : Nat) (one : Bool) (m : Nat) : Int32 := pro G (dt G D o (tm one (cnt G D o) m)) o
def bS (G D : gx_S) (o : Nat) (one : Bool) (m : Nat) (S : gx_S) : Prop := S 41 11 = (bst (fF G D o one) m).1 ∧ (0 < m → ∀ i, i < cnt G D o → S 45 i = tm one (cnt G D o) (bst (fF G D o one) m).2 i)
theorem co_b {G : gx_S} (hG : wG G) (o k : Nat) : bw (co G o k) 0 9 := by
  obtain ⟨c1, c2⟩ := (hG.2.2.1 k).2
  obtain ⟨n1, n2⟩ := (hG.2.1 o).2
  unfold co
  constructor
  · split
    · split <;> lia
    · exact c1
  · split
    · split <;> lia
    · exact c2
theorem mu_b : ∀ i, i < 51 → ∀ j, j < 19 → bw (nn i * (nn j - 9)) (-450) 450 := by unfold bw; decide +kernel
theorem mu_i {a b : Int32} (ha : bw a 0 50) (hb : bw b (-9) 9) : -450 ≤ (a * b).toInt ∧ (a * b).toInt ≤ 450 := by
  obtain ⟨e1, h1⟩ := bw_n (n := 50) (by decide) ha
  have hb' : bw (b + 9) 0 18 := by
    obtain ⟨b1, b2⟩ := hb
    constructor <;> lia
  obtain ⟨e2, h2⟩ := bw_n (n := 18) (by decide) hb'
  have e3 : b = nn (b + 9).toNatClampNeg - 9 := by rw [← e2]; grind
  have := bw_i (mu_b a.toNatClampNeg (by omega) (b + 9).toNatClampNeg (by omega))
  rw [← e1, ← e3] at this
  exact this
theorem sm_b {f : Nat → Int32} : ∀ {n : Nat}, n ≤ 8 → (∀ j, j < n → -450 ≤ (f j).toInt ∧ (f j).toInt ≤ 450) → -(450 * n) ≤ (sm f n).toInt ∧ (sm f n).toInt ≤ 450 * n
  | 0, _, _ => by show -(450 * ((0 : Nat) : Int)) ≤ (0 : Int32).toInt ∧ (0 : Int32).toInt ≤ 450 * ((0 : Nat) : Int); decide
  | n + 1, h, hf => by
    have ih := sm_b (n := n) (by omega) (fun j hj => hf j (by omega))
    have := hf n (by omega)
    show -(450 * ((n + 1 : Nat) : Int)) ≤ (sm f n + f n).toInt ∧ (sm f n + f n).toInt ≤ 450 * ((n + 1 : Nat) : Int)
    rw [ti_add (by omega) (by omega)]
    omega
theorem tot_b {G D : gx_S} (hG : wG G) {g : Nat → Int32} (hg : ∀ k, k < nP G → bw (g k) (-9) 9) : -3600 ≤ (tot G D g).toInt ∧ (tot G D g).toInt ≤ 3600 := by
  have hP := (wG_P hG).2
  have hS := (wG_S hG).2
  have := sm_b (f := sx G D g) (n := nS G) hS (fun s _ => by
    rw [sx_d]
    rcases cho_n G D s (-1) with e | ⟨i, hi, e, _⟩
    · rw [if_pos e]; decide
    · rw [e, if_neg (nn_m1 (by omega)), nn_c (by omega)]
      exact mu_i (hG.2.2.2 s).2.1 (hg i hi))
  unfold tot
  omega
theorem pro_b {G D : gx_S} (hG : wG G) (hp : ∀ k, k < nP G → bw (D 1 k) 0 9) (o : Nat) : -3600 ≤ (pro G D o).toInt ∧ (pro G D o).toInt ≤ 3600 := by
  refine tot_b hG (fun k hk => ?_)
  obtain ⟨p1, p2⟩ := hp k hk
  obtain ⟨c1, c2⟩ := co_b hG o k
  unfold gPr
  split
  · constructor <;> lia
  · constructor <;> decide
theorem tm_b (one : Bool) (c : Nat) {m : Nat} (h : one = true → m < 10) (i : Nat) : bw (tm one c m i) 0 9 := by
  unfold tm
  refine nn_b (b := 9) ?_ (by decide)
  cases one with
  | true => have := h rfl; simp; omega
  | false => have := Nat.mod_lt (m / 10 ^ (c - 1 - i)) (y := 10) (by decide); simp; omega
theorem fF_b {G D : gx_S} (hG : wG G) (hw : wD G D) (o : Nat) (one : Bool) {m : Nat} (h : one = true → m < 10) : (-1000000 : Int32) < fF G D o one m := by
  have hP := (wG_P hG).2
  have := (pro_b (D := dt G D o (tm one (cnt G D o) m)) hG (fun k hk => by
    rw [dt_1]
    split
    · exact tm_b one _ h _
    · exact (hw.1 k (by omega)).1) o).1
  rw [Int32.lt_iff_toInt_lt]
  have e : (-1000000 : Int32).toInt = -1000000 := by decide
  show _ < (pro G (dt G D o (tm one (cnt G D o) m)) o).toInt
  omega
theorem bS_1 {G D S T : gx_S} {o m : Nat} {one : Bool} {f : Int32} (hF : f = fF G D o one m) (hlow : (-1000000 : Int32) < fF G D o one m) (h : bS G D o one m S) (ht : ∀ i, i < cnt G D o → S 44 i = tm one (cnt G D o) m i) (hk : (S 41 11 < f ∧ T 41 11 = f ∧ ∀ i, i < cnt G D o → T 45 i = S 44 i) ∨ (¬ S 41 11 < f ∧ T = S)) : bS G D o one (m + 1) T := by
  obtain ⟨h1, h2⟩ := h
  subst hF
  rcases hk with ⟨a, b, c⟩ | ⟨a, b⟩
  · rw [h1] at a
    have e : bst (fF G D o one) (m + 1) = (fF G D o one m, m) := if_pos a
    unfold bS
    rw [e]
    exact ⟨b, fun _ i hi => by rw [c i hi, ht i hi]⟩
  · rw [h1] at a
    have e : bst (fF G D o one) (m + 1) = bst (fF G D o one) m := if_neg a
    unfold bS
    rw [e, b]
    refine ⟨h1, fun _ => ?_⟩
    rcases Nat.eq_zero_or_pos m with q | q
    · subst q
      exact absurd hlow a
    · exact h2 q
/-- what the trying from level l on leaves as it was -/
def fR (l : Nat) (S T : gx_S) : Prop := ∀ q j, q ≠ 45 → (q ≠ 44 ∨ j < l) → (q < 48 + l ∨ 50 < q) → (q < 53 + l ∨ 55 < q) → (q < 58 + l ∨ 60 < q) → q ≠ 61 → q ≠ 62 → (q ≠ 41 ∨ j ≠ 11) → T q j = S q j
theorem fR_r (l : Nat) (S : gx_S) : fR l S S := fun _ _ _ _ _ _ _ _ _ _ => rfl
theorem fR_t {l : Nat} {S T U : gx_S} (h : fR l S T) (h' : fR l T U) : fR l S U := fun q j a1 a2 a3 a4 a5 a6 a7 a8 => (h' q j a1 a2 a3 a4 a5 a6 a7 a8).trans (h q j a1 a2 a3 a4 a5 a6 a7 a8)
theorem fR_m {l l' : Nat} {S T : gx_S} (hl : l ≤ l') (h : fR l' S T) : fR l S T := fun q j a1 a2 a3 a4 a5 a6 a7 a8 => h q j a1 (by omega) (by omega) (by omega) (by omega) a6 a7 a8
theorem fR_vG {l : Nat} {G S T : gx_S} (hG : wG G) (h : fR l S T) (hv : vG G S) : vG G T := vG_f hv (wG_S hG).2 (fun q j hq => h q j (by omega) (by omega) (by omega) (by omega) (by omega) (by omega) (by omega) (by omega))
theorem fR_oL {l : Nat} {G D S T : gx_S} {o : Nat} (h : fR l S T) (hL : oL G D o S) : oL G D o T := by
  refine ⟨?_, fun k h1 h2 => ?_⟩
  · rw [h 41 5 (by omega) (by omega) (by omega) (by omega) (by omega) (by omega) (by omega) (by omega)]; exact hL.1
  · rw [h 42 _ (by omega) (by omega) (by omega) (by omega) (by omega) (by omega) (by omega) (by omega), h 43 _ (by omega) (by omega) (by omega) (by omega) (by omega) (by omega) (by omega) (by omega)]
    exact hL.2 k h1 h2
theorem fR_lv {l i : Nat} {G D S T : gx_S} {o : Nat} {τ : Nat → Int32} (h : fR l S T) (hi : i ≤ l) (hl : l ≤ 3) (hL : lv G D o τ i S) : lv G D o τ i T := by
  intro s hs
  rw [h (47 + i) s (by omega) (by omega) (by omega) (by omega) (by omega) (by omega) (by omega) (by omega), h (52 + i) s (by omega) (by omega) (by omega) (by omega) (by omega) (by omega) (by omega) (by omega), h (57 + i) s (by omega) (by omega) (by omega) (by omega) (by omega) (by omega) (by omega) (by omega)]
  exact hL s hs
theorem fR_put {l : Nat} {S T : gx_S} (hl : l < 3) (h : ∀ q j, q ≠ 44 → q ≠ 48 + l → q ≠ 53 + l → q ≠ 58 + l → T q j = S q j) (h2 : ∀ i, i ≠ l → T 44 i = S 44 i) : fR l S T := by
  intro q j a1 a2 a3 a4 a5 a6 a7 a8
  by_cases z : q = 44
  · subst z
    exact h2 j (by omega)
  · exact h q j z (by omega) (by omega) (by omega)
theorem fR_keep {l : Nat} {S T : gx_S} (h : ∀ q j, q ≠ 45 → (q ≠ 41 ∨ j ≠ 11) → T q j = S q j) : fR l S T := fun q j a1 a2 a3 a4 a5 a6 a7 a8 => h q j a1 a8
theorem fR_bS {G D S T : gx_S} {o m : Nat} {one : Bool} (h : bS G D o one m S) (h1 : T 41 11 = S 41 11) (h2 : ∀ i, T 45 i = S 45 i) : bS G D o one m T := ⟨by rw [h1]; exact h.1, fun z i hi => by rw [h2]; exact h.2 z i hi⟩
theorem tset_c (x : Int32) (l : Nat) : tset (fun _ => x) l x = fun _ => x := by
  funext i
  unfold tset
  split <;> rfl
theorem x_tryOnePrice {G D S : gx_S} {o : Nat} (ho : o < 6) (hG : wG G) (hw : wD G D) (hv : vG G S) (hL : oL G D o S) (hl : ∀ τ, lv G D o τ 0 S) (hb : S 41 11 = -1000000) : gt (m_Bests_tryOnePrice S) fun T => fR 0 S T ∧ bS G D o true 10 T := by
  have h3 := hw.2.2 o ho
  obtain ⟨eS, hS⟩ := wG_S hG
  unfold m_Bests_tryOnePrice
  refine gt_for 10 (fun p t => t.1 = nn p ∧ fR 0 S t.2 ∧ bS G D o true p t.2) ?_ ?_ 0 5000 _ (by omega) ⟨rfl, fR_r _ _, hb, fun z => absurd z (by omega)⟩ (by omega)
  · rintro p ⟨x, T⟩ k2 hp ⟨rfl, f, g⟩ hk2
    simp only at f g
    simp only [m_Bests_tryOnePrice_2]
    rw [if_neg (by rw [show (9 : Int32) = nn 9 from rfl, nn_lt (by omega) (by omega)]; omega)]
    refine gt_for (cnt G D o) (fun l t => t.1 = nn l ∧ fR 0 S t.2 ∧ bS G D o true p t.2 ∧ lv G D o (fun _ => nn p) l t.2 ∧ ∀ i, i < l → t.2 44 i = nn p) ?_ ?_ 0 5000 _ (by omega) ⟨rfl, f, g, fR_lv f (Nat.le_refl _) (by omega) (hl _), fun i hi => absurd hi (by omega)⟩ (by omega)
    · rintro l ⟨x, T⟩ k hl ⟨rfl, f, g, g1, g2⟩ hk
      simp only at f g g1 g2
      simp only [m_Bests_tryOnePrice_10]
      have hLT := fR_oL f hL
      simp (disch := omega) only [hLT.1, nn_le, nn_s]
      rw [if_neg (by omega)]
      refine gt_cp (x_putPrice ho hG hw (τ := fun _ => nn p) (fun _ => nn_b (b := 9) (by omega) (by omega)) (fR_vG hG f hv) hLT g1 hl hp) (fun U hU => ?_)
      obtain ⟨u1, u2, u3, u4⟩ := hU
      rw [tset_c] at u4
      refine hk _ ⟨rfl, fR_t f (fR_m (by omega) (fR_put (l := l) (by omega) u1 u3)), fR_bS g (u1 _ _ (by omega) (by omega) (by omega) (by omega)) (fun i => u1 _ _ (by omega) (by omega) (by omega) (by omega)), u4, fun i hi => ?_⟩
      by_cases z : i = l
      · subst z; exact u2
      · simp only
        rw [u3 i z]; exact g2 i (by omega)
    · rintro ⟨x, T⟩ k ⟨rfl, f, g, g1, g2⟩
      simp only at f g g1 g2
      simp only [m_Bests_tryOnePrice_10]
      have hLT := fR_oL f hL
      have hvT := fR_vG hG f hv
      have e1 : T 1 2 = nn (nS G) := by rw [hvT.1 _ _ (by omega) (by omega), eS]
      simp (disch := omega) only [hLT.1, nn_le, nn_s]
      rw [if_pos (by omega)]
      have el : gx_loop (m_Bests_tryOnePrice_34 k2 (nn p) T) 5000 (0, 0) = gx_cp (m_Bests_keepIfBetter (sm (fun i => G 7 i * T (57 + cnt G D o) i) (nS G)) T) fun S2 => k2 (nn (p + 1), S2) := by
        refine lp_for (nS G) (fun s => (sm (fun i => G 7 i * T (57 + cnt G D o) i) s, nn s)) (fun s k hs => ?_) (fun k => ?_) 0 5000 (by omega) (by omega)
        · simp only [m_Bests_tryOnePrice_34]
          simp (disch := omega) only [e1, hLT.1, nn_le, nn_c, ck_n, nn_s, hvT.1 7]
          rw [if_neg (by omega)]
          rfl
        · simp only [m_Bests_tryOnePrice_34]
          simp (disch := omega) only [e1, nn_le, nn_s]
          rw [if_pos (by omega)]
      rw [el]
      have hF : sm (fun i => G 7 i * T (57 + cnt G D o) i) (nS G) = fF G D o true p := by
        have : dt G D o (tm true (cnt G D o) p) = dt G D o (fun _ => nn p) := dt_cg (fun _ _ => rfl)
        unfold fF
        rw [this]
        exact pro_lv (T := T) hG (wD_0 hw) ho (fun s hs => ⟨_, _, g1 s hs⟩)
      refine gt_cp (x_keep h3 hLT.1 _) (fun U hU => ?_)
      obtain ⟨u1, u2⟩ := hU
      refine hk2 _ ⟨rfl, fR_t f (fR_keep u1), bS_1 hF (fF_b hG hw o true (fun _ => hp)) g (fun i hi => ?_) u2⟩
      rw [g2 i hi]; rfl
  · rintro ⟨x, T⟩ k2 ⟨rfl, f, g⟩
    simp only at f g
    simp only [m_Bests_tryOnePrice_2]
    rw [if_pos (by decide)]
    exact gt_some ⟨f, g⟩

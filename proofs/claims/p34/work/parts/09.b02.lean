/-! b08: all prices tried: the first greatest profit -/
def dt (G D : gx_S) (o : Nat) (τ : Nat → Int32) : gx_S := fun i j => if i = 1 then (if j < nP G ∧ ow D o j = true then τ (cu D o j) else D 1 j) else if i = 3 ∧ j = o then 1 else D i j
theorem dt_1 (G D : gx_S) (o : Nat) (τ : Nat → Int32) (j : Nat) : dt G D o τ 1 j = if j < nP G ∧ ow D o j = true then τ (cu D o j) else D 1 j := by simp [dt]
theorem dt_2 (G D : gx_S) (o : Nat) (τ : Nat → Int32) (j : Nat) : dt G D o τ 2 j = D 2 j := by simp [dt]
theorem dt_3 (G D : gx_S) (o : Nat) (τ : Nat → Int32) (j : Nat) : dt G D o τ 3 j = if j = o then 1 else D 3 j := by simp [dt]
theorem ow_wh {D : gx_S} (h0 : w0 D) {o k : Nat} (ho : o < 6) (hk : k < 6) : ow D o k = true ↔ wh D k = o := by
  obtain ⟨e, h⟩ := w0_w h0 hk
  unfold ow
  rw [decide_eq_true_iff, e, nn_eq (by omega) (by omega)]
theorem opn_dt {G D : gx_S} (h0 : w0 D) {o k : Nat} (ho : o < 6) (hk : k < 6) (τ : Nat → Int32) : opn G (dt G D o τ) k = (ow D o k || opn G D k) := by
  have e : wh (dt G D o τ) k = wh D k := by unfold wh; rw [dt_2]
  unfold opn
  rw [e, dt_3]
  by_cases q : wh D k = o
  · rw [if_pos q, (ow_wh h0 ho hk).mpr q]
    simp
  · rw [if_neg q]
    have : ow D o k = false := by
      cases h : ow D o k
      · rfl
      · exact absurd ((ow_wh h0 ho hk).mp h) q
    rw [this]
    simp
theorem cho_dt {G D : gx_S} (hG : wG G) (h0 : w0 D) {o s : Nat} (ho : o < 6) {τ : Nat → Int32} {l c : Int32} (h : isC (lM G D o (cnt G D o)) (ist G D o τ s) (G 9 s) (nP G) l c) : c = cho G (dt G D o τ) s (-1) := by
  have hP := (wG_P hG).2
  refine cho_u (l := l) (isC_cg h (fun j hj => ?_) (fun j hj hm => ?_))
  · unfold opx lM
    rw [opn_dt h0 ho (by omega)]
    have : ¬ nn j = -1 := nn_m1 (by omega)
    by_cases q : ow D o j = true
    · have hlt : cu D o j < cnt G D o := cn_lt (ow D o) hj q
      rw [if_pos q, q]
      simp [hlt, this]
    · rw [if_neg q]
      simp [q, this]
  · unfold ist isv
    rw [dt_1]
    by_cases q : ow D o j = true
    · rw [if_pos q, if_pos ⟨hj, q⟩]
    · rw [if_neg q, if_neg (fun z => q z.2)]
theorem sx_dt {G D : gx_S} (hG : wG G) {o : Nat} (τ : Nat → Int32) (s : Nat) : G 7 s * er G D o τ (cho G (dt G D o τ) s (-1)) = sx G (dt G D o τ) (gPr G (dt G D o τ) o) s := by
  have hP := (wG_P hG).2
  rw [sx_d]
  unfold er
  rcases cho_n G (dt G D o τ) s (-1) with e | ⟨i, hi, e, _⟩
  · rw [e, if_pos rfl, if_pos rfl, Int32.mul_zero]
  · rw [e, if_neg (nn_m1 (by omega)), if_neg (nn_m1 (by omega)), nn_c (by omega)]
    unfold gPr
    rw [dt_1, dt_2]
    by_cases q : ow D o i = true
    · have q' : D 2 i = nn o := by simpa [ow] using q
      rw [if_pos q, if_pos q', if_pos ⟨hi, q⟩]
    · have q' : ¬ D 2 i = nn o := by simpa [ow] using q
      rw [if_neg q, if_neg q']
/-- what is found with all own shops priced -/
theorem pro_lv {G D T : gx_S} (hG : wG G) (h0 : w0 D) {o : Nat} (ho : o < 6) {τ : Nat → Int32} {e : Nat → Int32} (h : ∀ s, s < nS G → ∃ l c, isC (lM G D o (cnt G D o)) (ist G D o τ s) (G 9 s) (nP G) l c ∧ e s = er G D o τ c) : sm (fun s => G 7 s * e s) (nS G) = pro G (dt G D o τ) o := by
  refine sm_cg (fun s hs => ?_)
  obtain ⟨l, c, h1, h2⟩ := h s hs
  rw [h2, cho_dt hG h0 ho h1]
  exact sx_dt hG τ s
theorem dt_cg {G D : gx_S} {o : Nat} {τ τ' : Nat → Int32} (h : ∀ i, i < cnt G D o → τ i = τ' i) : dt G D o τ = dt G D o τ' := by
  funext i j
  unfold dt
  by_cases q : i = 1
  · rw [if_pos q, if_pos q]
    by_cases y : j < nP G ∧ ow D o j = true
    · rw [if_pos y, if_pos y]
      exact h _ (cn_lt (ow D o) y.1 y.2)
    · rw [if_neg y, if_neg y]
  · rw [if_neg q, if_neg q]
def bst (F : Nat → Int32) : Nat → Int32 × Nat
  | 0 => (-1000000, 0)
  | m + 1 => if (bst F m).1 < F m then (F m, m) else bst F m
/-- the price of level i by code m -/
def tm (one : Bool) (c m i : Nat) : Int32 := nn (if one then m else m / 10 ^ (c - 1 - i) % 10)
def fF (G D : gx_S) (o : Nat) (one : Bool) (m : Nat) : Int32 := pro G (dt G D o (tm one (cnt G D o) m)) o
def bS (G D : gx_S) (o : Nat) (one : Bool) (m : Nat) (S : gx_S) : Prop := S 41 11 = (bst (fF G D o one) m).1 ∧ (0 < m → ∀ i, i < cnt G D o → S 45 i = tm one (cnt G D o) (bst (fF G D o one) m).2 i)
theorem co_b {G : gx_S} (hG : wG G) (o k : Nat) : bw (co G o k) 0 9 := by
  obtain ⟨c1, c2⟩ := (hG.2.2.1 k).2
  obtain ⟨n1, n2⟩ := (hG.2.1 o).2
  unfold co
  constructor
  · split
    · split <;> lia
    · exact c1
  · split
    · split <;> lia
    · exact c2
theorem mu_b : ∀ i, i < 51 → ∀ j, j < 19 → bw (nn i * (nn j - 9)) (-450) 450 := by unfold bw; decide +kernel
theorem mu_i {a b : Int32} (ha : bw a 0 50) (hb : bw b (-9) 9) : -450 ≤ (a * b).toInt ∧ (a * b).toInt ≤ 450 := by
  obtain ⟨e1, h1⟩ := bw_n (n := 50) (by decide) ha
  have hb' : bw (b + 9) 0 18 := by
    obtain ⟨b1, b2⟩ := hb
    constructor <;> lia
  obtain ⟨e2, h2⟩ := bw_n (n := 18) (by decide) hb'
  have e3 : b = nn (b + 9).toNatClampNeg - 9 := by rw [← e2]; grind
  have := bw_i (mu_b a.toNatClampNeg (by omega) (b + 9).toNatClampNeg (by omega))
  rw [← e1, ← e3] at this
  exact this
theorem sm_b {f : Nat → Int32} : ∀ {n : Nat}, n ≤ 8 → (∀ j, j < n → -450 ≤ (f j).toInt ∧ (f j).toInt ≤ 450) → -(450 * n) ≤ (sm f n).toInt ∧ (sm f n).toInt ≤ 450 * n
  | 0, _, _ => by show -(450 * ((0 : Nat) : Int)) ≤ (0 : Int32).toInt ∧ (0 : Int32).toInt ≤ 450 * ((0 : Nat) : Int); decide
  | n + 1, h, hf => by
    have ih := sm_b (n := n) (by omega) (fun j hj => hf j (by omega))
    have := hf n (by omega)
    show -(450 * ((n + 1 : Nat) : Int)) ≤ (sm f n + f n).toInt ∧ (sm f n + f n).toInt ≤ 450 * ((n + 1 : Nat) : Int)
    rw [ti_add (by omega) (by omega)]
    omega
theorem tot_b {G D : gx_S} (hG : wG G) {g : Nat → Int32} (hg : ∀ k, k < nP G → bw (g k) (-9) 9) : -3600 ≤ (tot G D g).toInt ∧ (tot G D g).toInt ≤ 3600 := by
  have hP := (wG_P hG).2
  have hS := (wG_S hG).2
  have := sm_b (f := sx G D g) (n := nS G) hS (fun s _ => by
    rw [sx_d]
    rcases cho_n G D s (-1) with e | ⟨i, hi, e, _⟩
    · rw [if_pos e]; decide
    · rw [e, if_neg (nn_m1 (by omega)), nn_c (by omega)]
      exact mu_i (hG.2.2.2 s).2.1 (hg i hi))
  unfold tot
  omega
theorem pro_b {G D : gx_S} (hG : wG G) (hp : ∀ k, k < nP G → bw (D 1 k) 0 9) (o : Nat) : -3600 ≤ (pro G D o).toInt ∧ (pro G D o).toInt ≤ 3600 := by
  refine tot_b hG (fun k hk => ?_)
  obtain ⟨p1, p2⟩ := hp k hk
  obtain ⟨c1, c2⟩ := co_b hG o k
  unfold gPr
  split
  · constructor <;> lia
  · constructor <;> decide
theorem tm_b (one : Bool) (c : Nat) {m : Nat} (h : one = true → m < 10) (i : Nat) : bw (tm one c m i) 0 9 := by
  unfold tm
  refine nn_b (b := 9) ?_ (by decide)
  cases one with
  | true => have := h rfl; simp; omega
  | false => have := Nat.mod_lt (m / 10 ^ (c - 1 - i)) (y := 10) (by decide); simp; omega
theorem fF_b {G D : gx_S} (hG : wG G) (hw : wD G D) (o : Nat) (one : Bool) {m : Nat} (h : one = true → m < 10) : (-1000000 : Int32) < fF G D o one m := by
  have hP := (wG_P hG).2
  have := (pro_b (D := dt G D o (tm one (cnt G D o) m)) hG (fun k hk => by
    rw [dt_1]
    split
    · exact tm_b one _ h _
    · exact (hw.1 k (by omega)).1) o).1
  rw [Int32.lt_iff_toInt_lt]
  have e : (-1000000 : Int32).toInt = -1000000 := by decide
  show _ < (pro G (dt G D o (tm one (cnt G D o) m)) o).toInt
  omega
theorem bS_1 {G D S T : gx_S} {o m : Nat} {one : Bool} {f : Int32} (hF : f = fF G D o one m) (hlow : (-1000000 : Int32) < fF G D o one m) (h : bS G D o one m S) (ht : ∀ i, i < cnt G D o → S 44 i = tm one (cnt G D o) m i) (hk : (S 41 11 < f ∧ T 41 11 = f ∧ ∀ i, i < cnt G D o → T 45 i = S 44 i) ∨ (¬ S 41 11 < f ∧ T = S)) : bS G D o one (m + 1) T := by
  obtain ⟨h1, h2⟩ := h
  subst hF
  rcases hk with ⟨a, b, c⟩ | ⟨a, b⟩
  · rw [h1] at a
    have e : bst (fF G D o one) (m + 1) = (fF G D o one m, m) := if_pos a
    unfold bS
    rw [e]
    exact ⟨b, fun _ i hi => by rw [c i hi, ht i hi]⟩
  · rw [h1] at a
    have e : bst (fF G D o one) (m + 1) = bst (fF G D o one) m := if_neg a
    unfold bS
    rw [e, b]
    refine ⟨h1, fun _ => ?_⟩
    rcases Nat.eq_zero_or_pos m with q | q
    · subst q
      exact absurd hlow a
    · exact h2 q
/-- what the trying from level l on leaves as it was -/
def fR (l : Nat) (S T : gx_S) : Prop := ∀ q j, q ≠ 45 → (q ≠ 44 ∨ j < l) → (q < 48 + l ∨ 50 < q) → (q < 53 + l ∨ 55 < q) → (q < 58 + l ∨ 60 < q) → q ≠ 61 → q ≠ 62 → (q ≠ 41 ∨ j ≠ 11) → T q j = S q j
theorem fR_r (l : Nat) (S : gx_S) : fR l S S := fun _ _ _ _ _ _ _ _ _ _ => rfl
theorem fR_t {l : Nat} {S T U : gx_S} (h : fR l S T) (h' : fR l T U) : fR l S U := fun q j a1 a2 a3 a4 a5 a6 a7 a8 => (h' q j a1 a2 a3 a4 a5 a6 a7 a8).trans (h q j a1 a2 a3 a4 a5 a6 a7 a8)
theorem fR_m {l l' : Nat} {S T : gx_S} (hl : l ≤ l') (h : fR l' S T) : fR l S T := fun q j a1 a2 a3 a4 a5 a6 a7 a8 => h q j a1 (by omega) (by omega) (by omega) (by omega) a6 a7 a8
theorem fR_vG {l : Nat} {G S T : gx_S} (hG : wG G) (h : fR l S T) (hv : vG G S) : vG G T := vG_f hv (wG_S hG).2 (fun q j hq => h q j (by omega) (by omega) (by omega) (by omega) (by omega) (by omega) (by omega) (by omega))
theorem fR_oL {l : Nat} {G D S T : gx_S} {o : Nat} (h : fR l S T) (hL : oL G D o S) : oL G D o T := by
  refine ⟨?_, fun k h1 h2 => ?_⟩
  · rw [h 41 5 (by omega) (by omega) (by omega) (by omega) (by omega) (by omega) (by omega) (by omega)]; exact hL.1
  · rw [h 42 _ (by omega) (by omega) (by omega) (by omega) (by omega) (by omega) (by omega) (by omega), h 43 _ (by omega) (by omega) (by omega) (by omega) (by omega) (by omega) (by omega) (by omega)]
    exact hL.2 k h1 h2
theorem fR_lv {l i : Nat} {G D S T : gx_S} {o : Nat} {τ : Nat → Int32} (h : fR l S T) (hi : i ≤ l) (hl : l ≤ 3) (hL : lv G D o τ i S) : lv G D o τ i T := by
  intro s hs
  rw [h (47 + i) s (by omega) (by omega) (by omega) (by omega) (by omega) (by omega) (by omega) (by omega), h (52 + i) s (by omega) (by omega) (by omega) (by omega) (by omega) (by omega) (by omega) (by omega), h (57 + i) s (by omega) (by omega) (by omega) (by omega) (by omega) (by omega) (by omega) (by omega)]
  exact hL s hs
theorem fR_put {l : Nat} {S T : gx_S} (hl : l < 3) (h : ∀ q j, q ≠ 44 → q ≠ 48 + l → q ≠ 53 + l → q ≠ 58 + l → T q j = S q j) (h2 : ∀ i, i ≠ l → T 44 i = S 44 i) : fR l S T := by
  intro q j a1 a2 a3 a4 a5 a6 a7 a8
  by_cases z : q = 44
  · subst z
    exact h2 j (by omega)
  · exact h q j z (by omega) (by omega) (by omega)
theorem fR_keep {l : Nat} {S T : gx_S} (h : ∀ q j, q ≠ 45 → (q ≠ 41 ∨ j ≠ 11) → T q j = S q j) : fR l S T := fun q j a1 a2 a3 a4 a5 a6 a7 a8 => h q j a1 a8
theorem fR_bS {G D S T : gx_S} {o m : Nat} {one : Bool} (h : bS G D o one m S) (h1 : T 41 11 = S 41 11) (h2 : ∀ i, T 45 i = S 45 i) : bS G D o one m T := ⟨by rw [h1]; exact h.1, fun z i hi => by rw [h2]; exact h.2 z i hi⟩
theorem tset_c (x : Int32) (l : Nat) : tset (fun _ => x) l x = fun _ => x := by
  funext i
  unfold tset
  split <;> rfl
theorem x_tryOnePrice {G D S : gx_S} {o : Nat} (ho : o < 6) (hG : wG G) (hw : wD G D) (hv : vG G S) (hL : oL G D o S) (hl : ∀ τ, lv G D o τ 0 S) (hb : S 41 11 = -1000000) : gt (m_Bests_tryOnePrice S) fun T => fR 0 S T ∧ bS G D o true 10 T := by
  have h3 := hw.2.2 o ho
  obtain ⟨eS, hS⟩ := wG_S hG
  unfold m_Bests_tryOnePrice
  refine gt_for 10 (fun p t => t.1 = nn p ∧ fR 0 S t.2 ∧ bS G D o true p t.2) ?_ ?_ 0 5000 _ (by omega) ⟨rfl, fR_r _ _, hb, fun z => absurd z (by omega)⟩ (by omega)
  · rintro p ⟨x, T⟩ k2 hp ⟨rfl, f, g⟩ hk2
    simp only at f g
    simp only [m_Bests_tryOnePrice_2]
    rw [if_neg (by rw [show (9 : Int32) = nn 9 from rfl, nn_lt (by omega) (by omega)]; omega)]
    refine gt_for (cnt G D o) (fun l t => t.1 = nn l ∧ fR 0 S t.2 ∧ bS G D o true p t.2 ∧ lv G D o (fun _ => nn p) l t.2 ∧ ∀ i, i < l → t.2 44 i = nn p) ?_ ?_ 0 5000 _ (by omega) ⟨rfl, f, g, fR_lv f (Nat.le_refl _) (by omega) (hl _), fun i hi => absurd hi (by omega)⟩ (by omega)
    · rintro l ⟨x, T⟩ k hl ⟨rfl, f, g, g1, g2⟩ hk
      simp only at f g g1 g2
      simp only [m_Bests_tryOnePrice_10]
      have hLT := fR_oL f hL
      simp (disch := omega) only [hLT.1, nn_le, nn_s]
      rw [if_neg (by omega)]
      refine gt_cp (x_putPrice ho hG hw (τ := fun _ => nn p) (fun _ => nn_b (b := 9) (by omega) (by omega)) (fR_vG hG f hv) hLT g1 hl hp) (fun U hU => ?_)
      obtain ⟨u1, u2, u3, u4⟩ := hU
      rw [tset_c] at u4
      refine hk _ ⟨rfl, fR_t f (fR_m (by omega) (fR_put (l := l) (by omega) u1 u3)), fR_bS g (u1 _ _ (by omega) (by omega) (by omega) (by omega)) (fun i => u1 _ _ (by omega) (by omega) (by omega) (by omega)), u4, fun i hi => ?_⟩
      by_cases z : i = l
      · subst z; exact u2
      · simp only
        rw [u3 i z]; exact g2 i (by omega)
    · rintro ⟨x, T⟩ k ⟨rfl, f, g, g1, g2⟩
      simp only at f g g1 g2
      simp only [m_Bests_tryOnePrice_10]
      have hLT := fR_oL f hL
      have hvT := fR_vG hG f hv
      have e1 : T 1 2 = nn (nS G) := by rw [hvT.1 _ _ (by omega) (by omega), eS]
      simp (disch := omega) only [hLT.1, nn_le, nn_s]
      rw [if_pos (by omega)]
      have el : gx_loop (m_Bests_tryOnePrice_34 k2 (nn p) T) 5000 (0, 0) = gx_cp (m_Bests_keepIfBetter (sm (fun i => G 7 i * T (57 + cnt G D o) i) (nS G)) T) fun S2 => k2 (nn (p + 1), S2) := by
        refine lp_for (nS G) (fun s => (sm (fun i => G 7 i * T (57 + cnt G D o) i) s, nn s)) (fun s k hs => ?_) (fun k => ?_) 0 5000 (by omega) (by omega)
        · simp only [m_Bests_tryOnePrice_34]
          simp (disch := omega) only [e1, hLT.1, nn_le, nn_c, ck_n, nn_s, hvT.1 7]
          rw [if_neg (by omega)]
          rfl
        · simp only [m_Bests_tryOnePrice_34]
          simp (disch := omega) only [e1, nn_le, nn_s]
          rw [if_pos (by omega)]
      rw [el]
      have hF : sm (fun i => G 7 i * T (57 + cnt G D o) i) (nS G) = fF G D o true p := by
        have : dt G D o (tm true (cnt G D o) p) = dt G D o (fun _ => nn p) := dt_cg (fun _ _ => rfl)
        unfold fF
        rw [this]
        exact pro_lv (T := T) hG (wD_0 hw) ho (fun s hs => ⟨_, _, g1 s hs⟩)
      refine gt_cp (x_keep h3 hLT.1 _) (fun U hU => ?_)
      obtain ⟨u1, u2⟩ := hU
      refine hk2 _ ⟨rfl, fR_t f (fR_keep u1), bS_1 hF (fF_b hG hw o true (fun _ => hp)) g (fun i hi => ?_) u2⟩
      rw [g2 i hi]; rfl
  · rintro ⟨x, T⟩ k2 ⟨rfl, f, g⟩
    simp only at f g
    simp only [m_Bests_tryOnePrice_2]
    rw [if_pos (by decide)]
    exact gt_some ⟨f, g⟩

/-! b09: the last shop's prices at once; all levels -/
def hfv (G S : gx_S) (l k s : Nat) : Int32 := if S (52 + l) s ≤ nn k then S (47 + l) s - bes G s k - 1 else S (47 + l) s - bes G s k
def hf9 (G S : gx_S) (l k s : Nat) : Int32 := if hfv G S l k s < 9 then hfv G S l k s else 9
theorem hf9_b {G S : gx_S} {l k s : Nat} (h : 0 ≤ hf9 G S l k s) : ∃ n, n < 10 ∧ hf9 G S l k s = nn n := by
  have : hf9 G S l k s ≤ 9 := by unfold hf9; split <;> lia
  obtain ⟨e, b⟩ := bw_n (x := hf9 G S l k s) (n := 9) (by decide) ⟨h, this⟩
  exact ⟨_, by omega, e⟩
theorem nn_nng {p : Nat} (hp : p < 2147483648) : (0 : Int32) ≤ nn p := (nn_b (k := p) (b := p) (Nat.le_refl _) hp).1
theorem hf9_le {G S : gx_S} {l k s p : Nat} (hp : p < 10) : nn p ≤ hf9 G S l k s ↔ ¬ hfv G S l k s < nn p := by
  have : nn p ≤ 9 := (nn_b (b := 9) (by omega) (by decide)).2
  unfold hf9
  split <;> constructor <;> intro h <;> lia
theorem sm_sub1 {f g h : Nat → Int32} {n : Nat} (e : ∀ j, j < n → f j = g j + h j) : sm f n - sm h n = sm g n := by
  rw [sm_cg (g := fun j => g j + h j) e, sm_add]
  grind
theorem nn_stp {p : Nat} (hp : p < 10) (x : Int32) : (nn (p + 1) ≤ x ↔ nn p ≤ x ∧ ¬ x = nn p) := by
  rw [← nn_s]
  have h1 := nn_nng (p := p) (by omega)
  have h2 : nn p ≤ 9 := (nn_b (b := 9) (by omega) (by decide)).2
  constructor
  · intro h
    constructor <;> lia
  · rintro ⟨a, b⟩
    lia
theorem x_tryLast {G D S : gx_S} {o l m : Nat} {τ : Nat → Int32} (ho : o < 6) (hG : wG G) (hw : wD G D) (hv : vG G S) (hL : oL G D o S) (ht : ∀ i, bw (τ i) 0 9) (hl : lv G D o τ l S) (hc : cnt G D o = l + 1) (h44 : ∀ i, i < l → S 44 i = τ i) (hm1 : ∀ p, p < 10 → ∀ i, i < l → tm false (cnt G D o) (m + p) i = τ i) (hm2 : ∀ p, p < 10 → tm false (cnt G D o) (m + p) l = nn p) (hb : bS G D o false m S) : gt (m_Bests_tryLastPrice (nn l) S) fun T => fR l S T ∧ bS G D o false (m + 10) T := by
  have h3 := hw.2.2 o ho
  obtain ⟨eS, hS⟩ := wG_S hG
  obtain ⟨eP, hP⟩ := wG_P hG
  obtain ⟨k, hkn, hk, hck⟩ := cn_at (ow D o) (n := nP G) (i := l) (by show l < cnt G D o; omega)
  have hck' : cu D o k = l := hck
  obtain ⟨eL, eC⟩ := hL.2 k hkn hk
  rw [hck'] at eL eC
  unfold m_Bests_tryLastPrice
  refine gt_for 10 (fun p t => t.1 = nn p ∧ (∀ q j, q ≠ 61 → q ≠ 62 → t.2 q j = S q j) ∧ ∀ i, i < p → t.2 61 i = 0 ∧ t.2 62 i = 0) ?_ ?_ 0 5000 _ (by omega) ⟨rfl, fun _ _ _ _ => rfl, fun i hi => absurd hi (by omega)⟩ (by omega)
  · rintro p ⟨x, T⟩ kk hp ⟨rfl, f, g⟩ hkk
    simp only at f g
    simp only [m_Bests_tryLastPrice_2]
    simp (disch := omega) only [show (9 : Int32) = nn 9 from rfl, nn_lt, nn_c, ck_n, let_s, nn_s]
    rw [if_neg (by omega)]
    refine hkk _ ⟨rfl, fun q j h1 h2 => ?_, fun i hi => ?_⟩
    · simp (disch := omega) only [gx_st_q]
      exact f q j h1 h2
    · rcases Nat.lt_or_ge i p with y | y
      · simp (disch := omega) only [gx_st_q, gx_st_j]
        exact g i y
      · have : i = p := by omega
        subst this
        simp (disch := omega) only [gx_st_q, gx_st_eq]
        exact ⟨trivial, trivial⟩
  · rintro ⟨x, T⟩ kk ⟨rfl, f, g⟩
    simp only at f g
    simp only [m_Bests_tryLastPrice_2]
    rw [if_pos (by decide)]
    clear kk
    refine gt_for (nS G) (fun s t => t.1 = sm (fun i => if 0 ≤ hf9 G S l k i then G 7 i else 0) s ∧ t.2.1 = sm (fun i => if 0 ≤ hf9 G S l k i then 0 else G 7 i * S (57 + l) i) s ∧ t.2.2.1 = nn s ∧ (∀ q j, q ≠ 61 → q ≠ 62 → t.2.2.2 q j = S q j) ∧ ∀ p, p < 10 → t.2.2.2 61 p = sm (fun i => if hf9 G S l k i = nn p then G 7 i else 0) s ∧ t.2.2.2 62 p = sm (fun i => if hf9 G S l k i = nn p then G 7 i * S (57 + l) i else 0) s) ?_ ?_ 0 5000 _ (by omega) ⟨rfl, rfl, rfl, f, fun p hp => g p hp⟩ (by omega)
    · rintro s ⟨x2, x3, x4, T⟩ kk hs ⟨rfl, rfl, rfl, f, g⟩ hkk
      simp only at f g
      simp only [m_Bests_tryLastPrice_35, m_Bests_tryLastPrice_141]
      have hvT : vG G T := vG_f hv hS (fun q j hq => f q j (by omega) (by omega))
      have e1 : T 1 2 = nn (nS G) := by rw [hvT.1 _ _ (by omega) (by omega), eS]
      have e7 : T 7 s = G 7 s := hvT.1 _ _ (by omega) (by omega)
      have eL' : T 42 l = nn k := by rw [f _ _ (by omega) (by omega), eL]
      have a1 : T (47 + l) s = S (47 + l) s := f _ _ (by omega) (by omega)
      have a2 : T (52 + l) s = S (52 + l) s := f _ _ (by omega) (by omega)
      have a3 : T (57 + l) s = S (57 + l) s := f _ _ (by omega) (by omega)
      have ehf : m_Bests_highestFor (nn l) (nn s) T = some (hfv G S l k s) := by
        rw [x_highestFor hG hvT (l := l) (by omega) hs hkn eL', a1, a2]
        rfl
      simp (disch := omega) only [e1, nn_le, nn_c, ck_n, nn_s, ehf, cp_s, e7, a3]
      rw [if_neg (by omega)]
      rw [show (if hfv G S l k s < 9 then hfv G S l k s else 9) = hf9 G S l k s from rfl]
      by_cases q : 0 ≤ hf9 G S l k s
      · rw [if_pos q]
        obtain ⟨n, hn, en⟩ := hf9_b q
        simp (disch := omega) only [en, nn_c, ck_n, let_s, gx_st_q]
        refine hkk _ ⟨?_, ?_, rfl, fun q j h1 h2 => ?_, fun p hp => ?_⟩
        · show _ = sm _ s + (if 0 ≤ hf9 G S l k s then G 7 s else 0)
          rw [if_pos q]
        · show _ = sm _ s + (if 0 ≤ hf9 G S l k s then 0 else G 7 s * S (57 + l) s)
          rw [if_pos q, Int32.add_zero]
        · simp (disch := omega) only [gx_st_q]
          exact f q j h1 h2
        · show _ = sm _ s + (if hf9 G S l k s = nn p then G 7 s else 0) ∧ _ = sm _ s + (if hf9 G S l k s = nn p then G 7 s * S (57 + l) s else 0)
          obtain ⟨g1, g2⟩ := g p hp
          rw [en]
          simp (disch := omega) only [nn_eq]
          by_cases z : n = p
          · subst z
            simp (disch := omega) only [gx_st_q, gx_st_eq, if_pos, g1, g2]
            exact ⟨rfl, rfl⟩
          · rw [if_neg z, if_neg z, Int32.add_zero, Int32.add_zero]
            simp (disch := omega) only [gx_st_q, gx_st_j, g1, g2]
            exact ⟨trivial, trivial⟩
      · rw [if_neg q]
        refine hkk _ ⟨?_, ?_, rfl, f, fun p hp => ?_⟩
        · show _ = sm _ s + (if 0 ≤ hf9 G S l k s then G 7 s else 0)
          rw [if_neg q, Int32.add_zero]
        · show _ = sm _ s + (if 0 ≤ hf9 G S l k s then 0 else G 7 s * S (57 + l) s)
          rw [if_neg q]
        · show _ = sm _ s + (if hf9 G S l k s = nn p then G 7 s else 0) ∧ _ = sm _ s + (if hf9 G S l k s = nn p then G 7 s * S (57 + l) s else 0)
          have z : ¬ hf9 G S l k s = nn p := fun z => q (by rw [z]; exact nn_nng (by omega))
          rw [if_neg z, if_neg z, Int32.add_zero, Int32.add_zero]
          exact g p hp
    · rintro ⟨x2, x3, x4, T⟩ kk ⟨rfl, rfl, rfl, f, g⟩
      simp only at f g
      simp only [m_Bests_tryLastPrice_35]
      have e1 : T 1 2 = nn (nS G) := by rw [f _ _ (by omega) (by omega), hv.1 _ _ (by omega) (by omega), eS]
      simp (disch := omega) only [e1, nn_le]
      rw [if_pos (by omega)]
      clear kk
      have f0 : fR l S T := fun q j a1 a2 a3 a4 a5 a6 a7 a8 => f q j a6 a7
      refine gt_for 10 (fun p t => t.1 = sm (fun i => if nn p ≤ hf9 G S l k i then G 7 i else 0) (nS G) ∧ t.2.1 = sm (fun i => if nn p ≤ hf9 G S l k i then 0 else G 7 i * S (57 + l) i) (nS G) ∧ t.2.2.1 = nn p ∧ (fR l S t.2.2.2 ∧ (∀ i, i < 10 → t.2.2.2 61 i = T 61 i ∧ t.2.2.2 62 i = T 62 i)) ∧ bS G D o false (m + p) t.2.2.2) ?_ ?_ 0 5000 _ (by omega) ⟨rfl, rfl, rfl, ⟨f0, fun _ _ => ⟨rfl, rfl⟩⟩, fR_bS hb (f _ _ (by omega) (by omega)) (fun i => f _ _ (by omega) (by omega))⟩ (by omega)
      · rintro p ⟨x2, x3, x4, U⟩ kk hp ⟨rfl, rfl, rfl, ⟨f1, f2⟩, b⟩ hkk
        simp only at f1 f2 b
        simp only [m_Bests_tryLastPrice_150]
        have hLU := fR_oL f1 hL
        have eC' : U 43 l = co G o k := by
          have := (hLU.2 k hkn hk).2
          rwa [hck'] at this
        simp (disch := omega) only [show (9 : Int32) = nn 9 from rfl, nn_lt, nn_c, ck_n, let_s, nn_s, gx_st_q, eC']
        rw [if_neg (by omega)]
        have hF : sm (fun i => if nn p ≤ hf9 G S l k i then 0 else G 7 i * S (57 + l) i) (nS G) + sm (fun i => if nn p ≤ hf9 G S l k i then G 7 i else 0) (nS G) * (nn p - co G o k) = fF G D o false (m + p) := by
          have hd : dt G D o (tm false (cnt G D o) (m + p)) = dt G D o (tset τ l (nn p)) := dt_cg (fun i hi => by
            unfold tset
            by_cases z : i = l
            · subst z
              rw [if_pos rfl]; exact hm2 p hp
            · rw [if_neg z]; exact hm1 p hp i (by omega))
          unfold fF
          rw [hd, ← sm_mul, ← sm_add, ← pro_lv (T := S) hG (wD_0 hw) ho (e := fun s => if nn p ≤ hf9 G S l k s then nn p - co G o k else S (57 + l) s)]
          · refine sm_cg (fun s _ => ?_)
            by_cases z : nn p ≤ hf9 G S l k s
            · rw [if_pos z, if_pos z, if_pos z, Int32.zero_add]
            · rw [if_neg z, if_neg z, if_neg z, Int32.zero_mul, Int32.add_zero]
          · intro s hs
            have hcm := hf_cmp (nn p) (bes G s k) (S (47 + l) s) (S (52 + l) s) (nn k) (nn_b (b := 9) (by omega) (by omega)) (bes_b hG s k) (l_b hG hw ht (hl s hs).1)
            haveI : Decidable (cms (bes G s k) (nn p) (S (47 + l) s) (S (52 + l) s) k) := Classical.propDecidable _
            have hlv := lv_1 (p := nn p) hP hkn hk hck' (hl s hs).1 (hl s hs).2
            rw [hc]
            have hz : nn p ≤ hf9 G S l k s ↔ cms (bes G s k) (nn p) (S (47 + l) s) (S (52 + l) s) k := by
              rw [hf9_le hp]
              unfold hfv
              rw [hcm]
              unfold cms
              exact Decidable.not_not
            refine ⟨_, _, hlv.1, ?_⟩
            rw [← hlv.2]
            by_cases z : nn p ≤ hf9 G S l k s
            · rw [if_pos z, if_pos (hz.mp z)]
            · rw [if_neg z, if_neg (fun y => z (hz.mpr y))]
        have fU : fR l S (gx_st U 44 l (nn p)) := by
          intro q j a1 a2 a3 a4 a5 a6 a7 a8
          by_cases z : q = 44
          · subst z
            rw [gx_st_j _ _ _ (by omega)]
            exact f1 _ j a1 a2 a3 a4 a5 a6 a7 a8
          · rw [gx_st_q _ _ _ _ z]
            exact f1 q j a1 a2 a3 a4 a5 a6 a7 a8
        refine gt_cp (x_keep h3 (fR_oL fU hL).1 _) (fun V hV => ?_)
        obtain ⟨u1, u2⟩ := hV
        have z1 : V 61 p = T 61 p := by
          rw [u1 _ _ (by omega) (by omega), gx_st_q _ _ _ _ (by omega)]; exact (f2 p hp).1
        have z2 : V 62 p = T 62 p := by
          rw [u1 _ _ (by omega) (by omega), gx_st_q _ _ _ _ (by omega)]; exact (f2 p hp).2
        obtain ⟨g1, g2⟩ := g p hp
        rw [z1, z2, g1, g2]
        refine hkk _ ⟨?_, ?_, rfl, ⟨fR_t fU (fR_keep u1), fun i hi => ?_⟩, ?_⟩
        · refine sm_sub1 (fun i hi => ?_)
          simp only [nn_stp hp]
          by_cases z : nn p ≤ hf9 G S l k i
          · by_cases y : hf9 G S l k i = nn p
            · simp [y]
            · simp [z, y]
          · have y : ¬ hf9 G S l k i = nn p := fun y => z (by rw [y]; exact Int32.le_refl _)
            simp [z, y]
        · show _ + _ = _
          rw [← sm_add]
          refine sm_cg (fun i hi => ?_)
          simp only [nn_stp hp]
          by_cases z : nn p ≤ hf9 G S l k i
          · by_cases y : hf9 G S l k i = nn p
            · simp [y]
            · simp [z, y]
          · have y : ¬ hf9 G S l k i = nn p := fun y => z (by rw [y]; exact Int32.le_refl _)
            simp [z, y]
        · simp only
          rw [u1 _ _ (by omega) (by omega), gx_st_q _ _ _ _ (by omega), u1 _ _ (by omega) (by omega), gx_st_q _ _ _ _ (by omega)]
          exact f2 i hi
        · show bS G D o false ((m + p) + 1) V
          refine bS_1 hF (fF_b hG hw o false (fun z => absurd z (by decide))) (fR_bS b (gx_st_q _ _ _ _ (by omega)) (fun i => gx_st_q _ _ _ _ (by omega))) (fun i hi => ?_) u2
          by_cases z : i = l
          · subst z
            rw [gx_st_eq]; exact (hm2 p hp).symm
          · rw [gx_st_j _ _ _ z, hm1 p hp i (by omega), ← h44 i (by omega)]
            exact f1 44 i (by omega) (by omega) (by omega) (by omega) (by omega) (by omega) (by omega) (by omega)
      · rintro ⟨x2, x3, x4, U⟩ kk ⟨rfl, rfl, rfl, ⟨f1, f2⟩, b⟩
        simp only at f1 f2 b
        simp only [m_Bests_tryLastPrice_150]
        rw [if_pos (by decide)]
        exact gt_some ⟨f1, b⟩
theorem x_tryPrices {G D : gx_S} {o : Nat} (ho : o < 6) (hG : wG G) (hw : wD G D) : ∀ (d l fuel : Nat) (τ : Nat → Int32) (m : Nat) (S : gx_S), cnt G D o = l + 1 + d → d < fuel → (∀ i, bw (τ i) 0 9) → vG G S → oL G D o S → lv G D o τ l S → (∀ i, i < l → S 44 i = τ i) → (∀ x, m ≤ x → x < m + 10 ^ (d + 1) → ∀ i, i < l → tm false (cnt G D o) x i = τ i) → 10 ^ (d + 1) ∣ m → bS G D o false m S → gt (m_Bests_tryPrices fuel (nn l) S) fun T => fR l S T ∧ bS G D o false (m + 10 ^ (d + 1)) T
  | d, l, 0, _, _, _, _, h, _, _, _, _, _, _, _, _ => absurd h (by omega)
  | 0, l, fuel + 1, τ, m, S, hc, _, ht, hv, hL, hl, h44, hx, hd, hb => by
    show gt (m_Bests_tryPrices_b (m_Bests_tryPrices fuel) (nn l) S) _
    unfold m_Bests_tryPrices_b
    have h3 := hw.2.2 o ho
    rw [hL.1, nn_p (by omega), if_neg (by rw [nn_lt (by omega) (by omega)]; omega)]
    have e : cnt G D o - 1 = l := by omega
    rw [e]
    obtain ⟨m', rfl⟩ := hd
    refine gt_cp (x_tryLast ho hG hw hv hL ht hl (by omega) h44 (fun p hp i hi => hx _ (by omega) (by omega) i hi) (fun p hp => ?_) hb) (fun T hT => gt_some hT)
    unfold tm
    have : cnt G D o - 1 - l = 0 := by omega
    rw [this]
    simp only [Bool.false_eq_true, ↓reduceIte]
    congr 1
    omega
  | d + 1, l, fuel + 1, τ, m, S, hc, hf, ht, hv, hL, hl, h44, hx, hd, hb => by
    show gt (m_Bests_tryPrices_b (m_Bests_tryPrices fuel) (nn l) S) _
    unfold m_Bests_tryPrices_b
    have h3 := hw.2.2 o ho
    rw [hL.1, nn_p (by omega), if_pos (by rw [nn_lt (by omega) (by omega)]; omega)]
    have e10 : 10 ^ (d + 1 + 1) = 10 * 10 ^ (d + 1) := by rw [Nat.pow_succ]; omega
    have hpos : 0 < 10 ^ (d + 1) := Nat.pow_pos (by decide)
    obtain ⟨m', rfl⟩ := hd
    rw [e10] at hx hb ⊢
    generalize hE : 10 ^ (d + 1) = E at *
    refine gt_for 10 (fun p t => t.1 = nn p ∧ fR l S t.2 ∧ bS G D o false (10 * E * m' + p * E) t.2) ?_ ?_ 0 5000 _ (by omega) ⟨rfl, fR_r _ _, by rw [Nat.zero_mul]; exact hb⟩ (by omega)
    · rintro p ⟨x, T⟩ k hp ⟨rfl, f, b⟩ hk
      simp only at f b
      simp only [m_Bests_tryPrices_23]
      simp (disch := omega) only [show (9 : Int32) = nn 9 from rfl, nn_lt, nn_s]
      rw [if_neg (by omega)]
      have hpE : p * E + E ≤ 10 * E := by
        have : (p + 1) * E ≤ 10 * E := Nat.mul_le_mul_right _ (by omega)
        rw [Nat.add_mul, Nat.one_mul] at this
        exact this
      refine gt_cp (x_putPrice (p := p) ho hG hw ht (fR_vG hG f hv) (fR_oL f hL) (fR_lv f (Nat.le_refl _) (by omega) hl) (by omega) hp) (fun U hU => ?_)
      obtain ⟨u1, u2, u3, u4⟩ := hU
      have fU : fR l T U := fR_put (by omega) u1 u3
      have fSU := fR_t f fU
      have hdig : ∀ x, 10 * E * m' + p * E ≤ x → x < 10 * E * m' + p * E + E → x / E % 10 = p := fun x h1 h2 => by
        obtain ⟨y, rfl⟩ : ∃ y, x = 10 * E * m' + p * E + y := ⟨x - (10 * E * m' + p * E), by omega⟩
        have e1 : 10 * E * m' + p * E + y = E * (10 * m' + p) + y := by grind
        rw [e1, Nat.mul_add_div hpos, Nat.div_eq_of_lt (show y < E by omega)]
        omega
      refine gt_cp (x_tryPrices ho hG hw d (l + 1) fuel (tset τ l (nn p)) (10 * E * m' + p * E) U (by omega) (by omega) (fun i => ?_) (fR_vG hG fSU hv) (fR_oL fSU hL) u4 (fun i hi => ?_) (fun x h1 h2 i hi => ?_) ?_ (fR_bS b (u1 _ _ (by omega) (by omega) (by omega) (by omega)) (fun i => u1 _ _ (by omega) (by omega) (by omega) (by omega)))) (fun V hV => ?_)
      · unfold tset
        split
        · exact nn_b (b := 9) (by omega) (by omega)
        · exact ht i
      · unfold tset
        by_cases z : i = l
        · rw [if_pos z, z]; exact u2
        · rw [if_neg z, u3 i z, ← h44 i (by omega)]
          exact f 44 i (by omega) (by omega) (by omega) (by omega) (by omega) (by omega) (by omega) (by omega)
      · rw [hE] at h2
        unfold tset
        by_cases z : i = l
        · rw [if_pos z]
          unfold tm
          have : cnt G D o - 1 - i = d + 1 := by omega
          rw [this, hE, hdig x h1 h2]
          rfl
        · rw [if_neg z]
          exact hx x (by omega) (by omega) i (by omega)
      · rw [hE]
        exact ⟨10 * m' + p, by grind⟩
      · obtain ⟨v1, v2⟩ := hV
        rw [hE] at v2
        refine hk _ ⟨rfl, fR_t fSU (fR_m (by omega) v1), ?_⟩
        have : 10 * E * m' + (p + 1) * E = 10 * E * m' + p * E + E := by rw [Nat.add_mul, Nat.one_mul, Nat.add_assoc]
        simp only
        rw [this]
        exact v2
    · rintro ⟨x, T⟩ k ⟨rfl, f, b⟩
      simp only at f b
      simp only [m_Bests_tryPrices_23]
      rw [if_pos (by decide)]
      exact gt_some ⟨f, b⟩

/-! b10: the best of an owner; a turn; rounds -/
def oneP (G : gx_S) (o : Nat) : Bool := decide (G 2 o = 1) || decide (G 2 o = 4)
def cds (G D : gx_S) (o : Nat) : Nat := if oneP G o = true then 10 else 10 ^ cnt G D o
def bF (G D : gx_S) (o : Nat) : Int32 := if G 2 o = 2 then pro G D o else if cnt G D o = 0 then 0 else (bst (fF G D o (oneP G o)) (cds G D o)).1
def bC (G D : gx_S) (o : Nat) : Nat := (bst (fF G D o (oneP G o)) (cds G D o)).2
def bI (G D : gx_S) (o : Nat) : Int32 := if G 2 o = 4 ∧ G 3 o < bF G D o then 1 else 0
/-- a comer that stays out -/
def shu (G D : gx_S) (o : Nat) : Prop := G 2 o = 4 ∧ ¬ G 3 o < bF G D o
def bG (G D : gx_S) (o : Nat) : Int32 := if G 2 o = 4 ∧ ¬ G 3 o < bF G D o then 0 else bF G D o
def bP (G D : gx_S) (o k : Nat) : Int32 := if k < nP G ∧ ow D o k = true ∧ ¬ G 2 o = 2 ∧ ¬ (G 2 o = 4 ∧ ¬ G 3 o < bF G D o) then tm (oneP G o) (cnt G D o) (bC G D o) (cu D o k) else D 1 k
def tk (G D : gx_S) (o : Nat) : gx_S := fun i j => if i = 1 then bP G D o j else if i = 3 ∧ j = o then bI G D o else D i j
theorem tk_1 (G D : gx_S) (o j : Nat) : tk G D o 1 j = bP G D o j := by simp [tk]
theorem tk_2 (G D : gx_S) (o j : Nat) : tk G D o 2 j = D 2 j := by simp [tk]
theorem tk_3 (G D : gx_S) (o j : Nat) : tk G D o 3 j = if j = o then bI G D o else D 3 j := by simp [tk]
/-- how much a turn changes -/
def nch (G D : gx_S) (o : Nat) : Int32 := sm (fun k => if D 1 k = bP G D o k then 0 else 1) (nP G) + (if D 3 o = bI G D o then 0 else 1)
theorem cu_lt {G D : gx_S} {o k : Nat} (h1 : k < nP G) (h2 : ow D o k = true) : cu D o k < cnt G D o := cn_lt (ow D o) h1 h2
theorem bst_lt (F : Nat → Int32) : ∀ {m : Nat}, 0 < m → (bst F m).2 < m
  | 0, h => absurd h (by omega)
  | 1, _ => by
    unfold bst bst
    split <;> simp
  | m + 2, _ => by
    have := bst_lt F (m := m + 1) (by omega)
    show (if (bst F (m + 1)).1 < F (m + 1) then (F (m + 1), m + 1) else bst F (m + 1)).2 < m + 2
    split
    · show m + 1 < m + 2
      omega
    · omega
theorem bC_b (G D : gx_S) (o : Nat) (h : oneP G o = true) : bC G D o < 10 := by
  unfold bC cds
  rw [if_pos h]
  exact bst_lt _ (by decide)
theorem bI_01 (G D : gx_S) (o : Nat) : bI G D o = 0 ∨ bI G D o = 1 := by
  unfold bI
  split
  · exact Or.inr rfl
  · exact Or.inl rfl
theorem wD_tk {G D : gx_S} (hG : wG G) (hw : wD G D) (o : Nat) : wD G (tk G D o) := by
  have e1 : ∀ k, wh (tk G D o) k = wh D k := fun k => by unfold wh; rw [tk_2]
  have e2 : ∀ u k, ow (tk G D o) u k = ow D u k := fun u k => by unfold ow; rw [tk_2]
  refine ⟨fun j hj => ⟨?_, ?_, ?_⟩, fun k hk => ?_, fun u hu => ?_⟩
  · rw [tk_1]
    unfold bP
    split
    · exact tm_b _ _ (bC_b G D o) _
    · exact (hw.1 j hj).1
  · rw [tk_2]; exact (hw.1 j hj).2.1
  · rw [tk_3]
    by_cases z : j = o
    · subst z
      rw [if_pos rfl]
      unfold bI
      split
      · rename_i y; exact Or.inr ⟨rfl, y.1⟩
      · exact Or.inl rfl
    · rw [if_neg z]; exact (hw.1 j hj).2.2
  · rw [e1]; exact hw.2.1 k hk
  · have : cnt G (tk G D o) u = cnt G D u := by
      unfold cnt cu
      rw [show ow (tk G D o) u = ow D u from funext (e2 u)]
    rw [this]; exact hw.2.2 u hu
theorem x_look_82 {r : Nat} {G D S U : gx_S} {o : Nat} (h : pX r G D S) (hw : wD G D) (hr : r < 5) (ho : o < 6) (hk : ¬ G 2 o = 2) (f : fB S U) (hL : oL G D o U) (h11 : U 41 11 = bF G D o) (h12 : U 41 12 = 0) (hc : ∀ k, k < nP G → ow D o k = true → U 45 (cu D o k) = tm (oneP G o) (cnt G D o) (bC G D o) (cu D o k)) : gt (m_Bests_look_82 r (nn o) (G 2 o) U) fun T => fB S T ∧ oL G D o T ∧ T 41 11 = bG G D o ∧ T 41 12 = bI G D o ∧ ∀ k, k < nP G → ow D o k = true → T 45 (cu D o k) = bP G D o k := by
  have p := pX_f h hr f
  have v := p.2.2.1.1
  unfold m_Bests_look_82
  by_cases q : G 2 o = 4
  · rw [if_pos q]
    simp (disch := omega) only [ck_n, nn_c, v, h11]
    by_cases y : bF G D o ≤ G 3 o
    · rw [if_pos y]
      have y' : G 2 o = 4 ∧ ¬ G 3 o < bF G D o := ⟨q, by lia⟩
      have y2 : ¬ (G 2 o = 4 ∧ G 3 o < bF G D o) := fun z => y'.2 z.2
      unfold m_Bests_look_109
      rw [bz_0]
      simp only [let_s]
      rw [gx_st_eq, if_pos rfl]
      have f1 : fB S (gx_st U 41 12 0) := fB_st f (by omega) (by omega)
      refine gt_cp (x_listShops (pX_f h hr f1) hw hr ho) (fun T hT => gt_some ?_)
      obtain ⟨t1, t2, t3, t4⟩ := hT
      refine ⟨fB_st (fB_t f1 t1) (by omega) (by omega), ⟨?_, fun k h1 h2 => ?_⟩, ?_, ?_, fun k h1 h2 => ?_⟩
      · rw [gx_st_j _ _ _ (by omega)]; exact t2.1
      · rw [gx_st_q _ _ _ _ (by omega), gx_st_q _ _ _ _ (by omega)]; exact t2.2 k h1 h2
      · rw [gx_st_eq]
        unfold bG
        rw [if_pos y']
      · rw [gx_st_j _ _ _ (by omega), t4 12 (by omega), gx_st_eq]
        unfold bI
        rw [if_neg y2]
      · rw [gx_st_q _ _ _ _ (by omega), t3 k h1 h2]
        unfold bP
        rw [if_neg (fun z => z.2.2.2 y')]
    · rw [if_neg y]
      have y' : ¬ (G 2 o = 4 ∧ ¬ G 3 o < bF G D o) := fun z => z.2 (by lia)
      have y2 : G 2 o = 4 ∧ G 3 o < bF G D o := ⟨q, by lia⟩
      unfold m_Bests_look_109
      rw [bz_1]
      simp only [let_s]
      rw [gx_st_eq, if_neg (by decide)]
      refine gt_some ⟨fB_st f (by omega) (by omega), ⟨?_, fun k h1 h2 => ?_⟩, ?_, ?_, fun k h1 h2 => ?_⟩
      · rw [gx_st_j _ _ _ (by omega)]; exact hL.1
      · rw [gx_st_q _ _ _ _ (by omega), gx_st_q _ _ _ _ (by omega)]; exact hL.2 k h1 h2
      · rw [gx_st_j _ _ _ (by omega), h11]
        unfold bG
        rw [if_neg y']
      · rw [gx_st_eq]
        unfold bI
        rw [if_pos y2]
      · rw [gx_st_q _ _ _ _ (by omega), hc k h1 h2]
        unfold bP
        rw [if_pos ⟨h1, h2, hk, y'⟩]
  · rw [if_neg q]
    have y' : ¬ (G 2 o = 4 ∧ ¬ G 3 o < bF G D o) := fun z => q z.1
    refine gt_some ⟨f, hL, ?_, ?_, fun k h1 h2 => ?_⟩
    · rw [h11]
      unfold bG
      rw [if_neg y']
    · rw [h12]
      unfold bI
      rw [if_neg (fun z => q z.1)]
    · rw [hc k h1 h2]
      unfold bP
      rw [if_pos ⟨h1, h2, hk, y'⟩]
theorem fR_fB {S T : gx_S} (h : fR 0 S T) : fB S T := fun q j hq => h q j (by omega) (by omega) (by omega) (by omega) (by omega) (by omega) (by omega) (by omega)
theorem x_look {r : Nat} {G D S : gx_S} {o : Nat} (h : pX r G D S) (hw : wD G D) (hr : r < 5) (ho : o < 6) : gt (m_Bests_look r (nn o) S) fun T => fB S T ∧ oL G D o T ∧ T 41 11 = bG G D o ∧ T 41 12 = bI G D o ∧ ∀ k, k < nP G → ow D o k = true → T 45 (cu D o k) = bP G D o k := by
  have hG := h.1
  have h3 := hw.2.2 o ho
  unfold m_Bests_look
  refine gt_cp (x_listShops h hw hr ho) (fun S2 hS2 => ?_)
  obtain ⟨f2, L2, c2, _⟩ := hS2
  have p2 := pX_f h hr f2
  have v2 := p2.2.2.1.1
  simp (disch := omega) only [ck_n, nn_c, let_s, v2]
  have f4 : fB S (gx_st S2 41 12 0) := fB_st f2 (by omega) (by omega)
  have p4 := pX_f h hr f4
  by_cases q2 : G 2 o = 2
  · rw [if_pos q2, x_profitOf p4 ho, cp_s]
    have y' : ¬ (G 2 o = 4 ∧ ¬ G 3 o < bF G D o) := fun z => absurd (q2.symm.trans z.1) (by decide)
    refine gt_some ⟨fB_st f4 (by omega) (by omega), ⟨?_, fun k h1 h2 => ?_⟩, ?_, ?_, fun k h1 h2 => ?_⟩
    · rw [gx_st_j _ _ _ (by omega), gx_st_j _ _ _ (by omega)]; exact L2.1
    · simp (disch := omega) only [gx_st_q]
      exact L2.2 k h1 h2
    · rw [gx_st_eq]
      unfold bG
      rw [if_neg y']
      unfold bF
      rw [if_pos q2]
    · rw [gx_st_j _ _ _ (by omega), gx_st_eq]
      unfold bI
      rw [if_neg (fun z => absurd (q2.symm.trans z.1) (by decide))]
    · simp (disch := omega) only [gx_st_q]
      rw [c2 k h1 h2]
      unfold bP
      rw [if_neg (fun z => z.2.2.1 q2)]
  · rw [if_neg q2]
    have e5 : gx_st (gx_st S2 41 12 0) 41 11 0 41 5 = nn (cnt G D o) := by
      rw [gx_st_j _ _ _ (by omega), gx_st_j _ _ _ (by omega)]; exact L2.1
    have f6 : fB S (gx_st (gx_st S2 41 12 0) 41 11 0) := fB_st f4 (by omega) (by omega)
    rw [e5]
    by_cases q0 : cnt G D o = 0
    · rw [if_pos (by rw [q0]; decide)]
      refine x_look_82 h hw hr ho q2 f6 ⟨e5, fun k h1 h2 => ?_⟩ ?_ ?_ (fun k h1 h2 => ?_)
      · simp (disch := omega) only [gx_st_q]
        exact L2.2 k h1 h2
      · rw [gx_st_eq]
        unfold bF
        rw [if_neg q2, if_pos q0]
      · rw [gx_st_j _ _ _ (by omega), gx_st_eq]
      · have := cn_lt (ow D o) h1 h2
        unfold cnt cu at q0
        omega
    · rw [if_neg (by rw [nn_0, nn_le (by omega) (by omega)]; omega)]
      have f8 : fB S (gx_st (gx_st (gx_st S2 41 12 0) 41 11 0) 41 11 (-1000000)) := fB_st f6 (by omega) (by omega)
      have p8 := pX_f h hr f8
      refine gt_cp (x_layOthers p8 hr o) (fun S11 hS11 => ?_)
      obtain ⟨g1, g2⟩ := hS11
      have f11 : fB S S11 := fB_t f8 (fun q j hq => g1 q j (by omega) (by omega) (by omega))
      have p11 := pX_f h hr f11
      have L11 : oL G D o S11 := by
        refine ⟨?_, fun k h1 h2 => ?_⟩
        · rw [g1 _ _ (by omega) (by omega) (by omega), gx_st_j _ _ _ (by omega)]; exact e5
        · rw [g1 _ _ (by omega) (by omega) (by omega), g1 _ _ (by omega) (by omega) (by omega)]
          simp (disch := omega) only [gx_st_q]
          exact L2.2 k h1 h2
      have e11 : S11 41 11 = -1000000 := by rw [g1 _ _ (by omega) (by omega) (by omega), gx_st_eq]
      have e12 : S11 41 12 = 0 := by rw [g1 _ _ (by omega) (by omega) (by omega), gx_st_j _ _ _ (by omega), gx_st_j _ _ _ (by omega), gx_st_eq]
      by_cases q1 : G 2 o = 1 ∨ G 2 o = 4
      · have hone : oneP G o = true := by
          unfold oneP
          rcases q1 with q | q <;> simp [q]
        have main : gt (m_Bests_look_70 r (nn o) (G 2 o) S11) fun T => fB S T ∧ oL G D o T ∧ T 41 11 = bG G D o ∧ T 41 12 = bI G D o ∧ ∀ k, k < nP G → ow D o k = true → T 45 (cu D o k) = bP G D o k := by
          unfold m_Bests_look_70
          refine gt_cp (x_tryOnePrice ho hG hw p11.2.2.1 L11 (fun τ => lv_0 hG g2 τ) e11) (fun T hT => ?_)
          obtain ⟨t1, t2⟩ := hT
          refine x_look_82 h hw hr ho q2 (fB_t f11 (fR_fB t1)) (fR_oL t1 L11) ?_ ?_ (fun k h1 h2 => ?_)
          · rw [t2.1]
            unfold bF cds
            rw [if_neg q2, if_neg q0, hone, if_pos rfl]
          · rw [t1 41 12 (by omega) (by omega) (by omega) (by omega) (by omega) (by omega) (by omega) (by omega)]; exact e12
          · rw [t2.2 (by decide) _ (cu_lt h1 h2)]
            unfold bC cds
            rw [hone, if_pos rfl]
        by_cases qa : G 2 o = 1
        · rw [if_pos qa]; exact main
        · rw [if_neg qa, if_pos (q1.resolve_left qa)]; exact main
      · rw [if_neg (fun z => q1 (Or.inl z)), if_neg (fun z => q1 (Or.inr z))]
        have hone : oneP G o = false := by
          unfold oneP
          simp only [Bool.or_eq_false_iff, decide_eq_false_iff_not]
          exact ⟨fun z => q1 (Or.inl z), fun z => q1 (Or.inr z)⟩
        have he : 0 + 10 ^ (cnt G D o - 1 + 1) = cds G D o := by
          unfold cds
          rw [hone, if_neg (by decide), Nat.zero_add, show cnt G D o - 1 + 1 = cnt G D o by omega]
        refine gt_cp (x_tryPrices ho hG hw (cnt G D o - 1) 0 5 (fun _ => 0) 0 S11 (by omega) (by omega) (fun _ => nn_b (k := 0) (b := 9) (by omega) (by decide)) p11.2.2.1 L11 (lv_0 hG g2 _) (fun i hi => absurd hi (by omega)) (fun x _ _ i hi => absurd hi (by omega)) ⟨0, rfl⟩ ⟨e11, fun z => absurd z (by omega)⟩) (fun T hT => ?_)
        rw [he] at hT
        obtain ⟨t1, t2⟩ := hT
        refine x_look_82 h hw hr ho q2 (fB_t f11 (fR_fB t1)) (fR_oL t1 L11) ?_ ?_ (fun k h1 h2 => ?_)
        · rw [t2.1]
          unfold bF
          rw [if_neg q2, if_neg q0, hone]
        · rw [t1 41 12 (by omega) (by omega) (by omega) (by omega) (by omega) (by omega) (by omega) (by omega)]; exact e12
        · rw [t2.2 (by rw [← he, Nat.zero_add]; exact Nat.pow_pos (by decide)) _ (cu_lt h1 h2)]
          unfold bC
          rw [hone]
theorem sm_lv {h f : Nat → Int32} {p : Nat → Bool} : ∀ {n : Nat}, (∀ k, k < n → p k = true → h (cn p k) = f k) → sm h (cn p n) = sm (fun k => if p k = true then f k else 0) n
  | 0, _ => rfl
  | n + 1, e => by
    have ih := sm_lv (h := h) (f := f) (p := p) (n := n) (fun k hk hp => e k (by omega) hp)
    by_cases q : p n = true
    · show sm h (cn p n + (if p n then 1 else 0)) = sm _ n + (if p n = true then f n else 0)
      rw [if_pos q, if_pos q, ← ih, ← e n (by omega) q]
      rfl
    · show sm h (cn p n + (if p n then 1 else 0)) = sm _ n + (if p n = true then f n else 0)
      rw [if_neg q, if_neg q, Int32.add_zero]
      exact ih
theorem x_take {r : Nat} {G D S : gx_S} {o : Nat} (h : pX r G D S) (hw : wD G D) (hr : r < 5) (ho : o < 6) (hL : oL G D o S) (h12 : S 41 12 = bI G D o) (hc : ∀ k, k < nP G → ow D o k = true → S 45 (cu D o k) = bP G D o k) : gt (m_Bests_take r (nn o) S) fun t => t.1 = nch G D o ∧ fD r S t.2 ∧ vD r (tk G D o) t.2 := by
  have hP := (wG_P h.1).2
  have h3 := hw.2.2 o ho
  have d : ∀ i j, 1 ≤ i → i ≤ 3 → j < 6 → S (21 + 4 * r + i) j = D i j := h.2.2.2
  have hno : ∀ k, ¬ (k < nP G ∧ ow D o k = true) → bP G D o k = D 1 k := fun k hk => by
    unfold bP
    rw [if_neg (fun z => hk ⟨z.1, z.2.1⟩)]
  have hsum : sm (fun i => if D 1 (S 42 i).toNatClampNeg = S 45 i then 0 else 1) (cnt G D o) = sm (fun k => if D 1 k = bP G D o k then 0 else 1) (nP G) := by
    have := sm_lv (p := ow D o) (n := nP G) (h := fun i => if D 1 (S 42 i).toNatClampNeg = S 45 i then 0 else 1) (f := fun k => if D 1 k = bP G D o k then 0 else 1) (fun k hk hp => by
      have e1 := (hL.2 k hk hp).1
      have e2 := hc k hk hp
      unfold cu at e1 e2
      rw [e1, e2, nn_c (by omega)])
    unfold cnt cu
    rw [this]
    refine sm_cg (fun k hk => ?_)
    by_cases q : ow D o k = true
    · rw [if_pos q]
    · rw [if_neg q, hno k (fun z => q z.2), if_pos rfl]
  unfold m_Bests_take
  refine gt_for (cnt G D o) (fun i t => t.1 = sm (fun i => if D 1 (S 42 i).toNatClampNeg = S 45 i then 0 else 1) i ∧ t.2.1 = nn i ∧ (∀ q j, q ≠ 21 + 4 * r + 1 → t.2.2 q j = S q j) ∧ ∀ k, k < 6 → t.2.2 (21 + 4 * r + 1) k = if k < nP G ∧ ow D o k = true ∧ cu D o k < i then bP G D o k else D 1 k) ?_ ?_ 0 5000 _ (by omega) ⟨rfl, rfl, fun _ _ _ => rfl, fun k hk => by rw [if_neg (fun z => absurd z.2.2 (by omega))]; exact d 1 k (by omega) (by omega) hk⟩ (by omega)
  · rintro i ⟨x3, x4, T⟩ kk hi ⟨rfl, rfl, f, g⟩ hkk
    simp only at f g
    simp only [m_Bests_take_5, m_Bests_take_58]
    obtain ⟨k, hk, hp, hck⟩ := cn_at (ow D o) (n := nP G) hi
    have hck' : cu D o k = i := hck
    have e5 : T 41 5 = nn (cnt G D o) := by rw [f _ _ (by omega)]; exact hL.1
    have e42' : S 42 i = nn k := by rw [← hck']; exact (hL.2 k hk hp).1
    have e45' : S 45 i = bP G D o k := by rw [← hck']; exact hc k hk hp
    have e42 : T 42 i = nn k := by rw [f _ _ (by omega)]; exact e42'
    have e45 : T 45 i = bP G D o k := by rw [f _ _ (by omega)]; exact e45'
    have epr : T (21 + 4 * r + 1) k = D 1 k := by rw [g k (by omega), if_neg (by omega)]
    have es : sm (fun i => if D 1 (S 42 i).toNatClampNeg = S 45 i then 0 else 1) (i + 1) = sm (fun i => if D 1 (S 42 i).toNatClampNeg = S 45 i then 0 else 1) i + (if D 1 k = bP G D o k then 0 else 1) := by
      show _ + (if D 1 (S 42 i).toNatClampNeg = S 45 i then 0 else 1) = _
      rw [e42', e45', nn_c (by omega)]
    simp (disch := omega) only [e5, nn_le, nn_c, ck_n, nn_s, e42, e45, epr, let_s]
    rw [if_neg (by omega)]
    have hstep : ∀ x, x < 6 → x ≠ k → (if x < nP G ∧ ow D o x = true ∧ cu D o x < i + 1 then bP G D o x else D 1 x) = (if x < nP G ∧ ow D o x = true ∧ cu D o x < i then bP G D o x else D 1 x) := fun x hx hne => by
      by_cases z : x < nP G ∧ ow D o x = true ∧ cu D o x < i
      · rw [if_pos z, if_pos ⟨z.1, z.2.1, by omega⟩]
      · rw [if_neg z, if_neg]
        rintro ⟨z1, z2, z3⟩
        have : cu D o x = i := by
          have : ¬ cu D o x < i := fun y => z ⟨z1, z2, y⟩
          omega
        exact hne (cn_inj (ow D o) z2 hp (by show cu D o x = cu D o k; omega))
    by_cases q : D 1 k = bP G D o k
    · rw [if_pos q] at es
      rw [if_pos q]
      refine hkk _ ⟨by rw [es, Int32.add_zero], rfl, f, fun x hx => ?_⟩
      by_cases z : x = k
      · subst z
        rw [if_pos ⟨hk, hp, by omega⟩]
        simp only
        rw [epr]; exact q
      · rw [hstep x hx z]; exact g x hx
    · rw [if_neg q] at es
      rw [if_neg q]
      refine hkk _ ⟨es.symm, rfl, fun q j hq => ?_, fun x hx => ?_⟩
      · simp only
        rw [gx_st_q _ _ _ _ hq]
        exact f q j hq
      · by_cases z : x = k
        · subst z
          rw [if_pos ⟨hk, hp, by omega⟩]
          simp only [gx_st_eq]
        · rw [hstep x hx z]
          simp only
          rw [gx_st_j _ _ _ z]
          exact g x hx
  · rintro ⟨x3, x4, T⟩ kk ⟨rfl, rfl, f, g⟩
    simp only at f g
    simp only [m_Bests_take_5]
    have e5 : T 41 5 = nn (cnt G D o) := by rw [f _ _ (by omega)]; exact hL.1
    have e12 : T 41 12 = bI G D o := by rw [f _ _ (by omega)]; exact h12
    have e3 : T (21 + 4 * r + 3) o = D 3 o := by rw [f _ _ (by omega)]; exact d 3 o (by omega) (by omega) ho
    simp (disch := omega) only [e5, nn_le, nn_c, ck_n, e12, e3, let_s]
    rw [if_pos (by omega), hsum]
    have gv : ∀ k, k < 6 → T (21 + 4 * r + 1) k = bP G D o k := fun k hk => by
      rw [g k hk]
      by_cases z : k < nP G ∧ ow D o k = true
      · rw [if_pos ⟨z.1, z.2, cn_lt (ow D o) z.1 z.2⟩]
      · rw [if_neg (fun y => z ⟨y.1, y.2.1⟩), hno k z]
    have f2 : ∀ k, k < 6 → T (21 + 4 * r + 2) k = D 2 k := fun k hk => by rw [f _ _ (by omega)]; exact d 2 k (by omega) (by omega) hk
    have f3 : ∀ k, k < 6 → T (21 + 4 * r + 3) k = D 3 k := fun k hk => by rw [f _ _ (by omega)]; exact d 3 k (by omega) (by omega) hk
    by_cases q : D 3 o = bI G D o
    · rw [if_pos q]
      refine gt_some ⟨?_, fun q j hq => f q j (by omega), fun i j h1 h2 hj => ?_⟩
      · unfold nch
        rw [if_pos q, Int32.add_zero]
      · match i, h1, h2 with
        | 1, _, _ => rw [tk_1]; exact gv j hj
        | 2, _, _ => rw [tk_2]; exact f2 j hj
        | 3, _, _ =>
          rw [tk_3]
          by_cases z : j = o
          · subst z
            rw [if_pos rfl, ← q]; exact f3 j hj
          · rw [if_neg z]; exact f3 j hj
    · rw [if_neg q]
      refine gt_some ⟨?_, fun q j hq => ?_, fun i j h1 h2 hj => ?_⟩
      · unfold nch
        rw [if_neg q]
      · simp only
        rw [gx_st_q _ _ _ _ (by omega)]; exact f q j (by omega)
      · match i, h1, h2 with
        | 1, _, _ =>
          rw [tk_1]
          simp only
          rw [gx_st_q _ _ _ _ (by omega)]; exact gv j hj
        | 2, _, _ =>
          rw [tk_2]
          simp only
          rw [gx_st_q _ _ _ _ (by omega)]; exact f2 j hj
        | 3, _, _ =>
          rw [tk_3]
          by_cases z : j = o
          · subst z
            simp only [gx_st_eq, nar_b (bI_01 G D j), ↓reduceIte]
          · rw [if_neg z]
            simp only
            rw [gx_st_j _ _ _ z]; exact f3 j hj

/-! b11: rounds until they rest; what rests before and behind -/
def rnd (G : gx_S) : Nat → gx_S → Int32 × gx_S
  | 0, D => (0, D)
  | o + 1, D => ((rnd G o D).1 + nch G (rnd G o D).2 o, tk G (rnd G o D).2 o)
def stl (G : gx_S) : Nat → Nat → gx_S → Int32 × gx_S
  | 0, _, D => (-1, D)
  | f + 1, r, D => if (rnd G (nO G) D).1 = 0 then (nn r, (rnd G (nO G) D).2) else stl G f (r + 1) (rnd G (nO G) D).2
def ste (G D : gx_S) : Int32 × gx_S := stl G 20 0 D
theorem wD_rnd {G : gx_S} (hG : wG G) : ∀ (o : Nat) {D : gx_S}, wD G D → wD G (rnd G o D).2
  | 0, _, h => h
  | o + 1, _, h => wD_tk hG (wD_rnd hG o h) o
theorem wD_stl {G : gx_S} (hG : wG G) : ∀ (f r : Nat) {D : gx_S}, wD G D → wD G (stl G f r D).2
  | 0, _, _, h => h
  | f + 1, r, D, h => by
    unfold stl
    split
    · exact wD_rnd hG _ h
    · exact wD_stl hG f (r + 1) (wD_rnd hG _ h)
theorem wD_ste {G D : gx_S} (hG : wG G) (h : wD G D) : wD G (ste G D).2 := wD_stl hG 20 0 h
/-- all but a standing's rows and Bests' own are as they were -/
def fS (r : Nat) (S T : gx_S) : Prop := ∀ q j, (q < 41 ∨ 62 < q) → (q < 22 + 4 * r ∨ 24 + 4 * r < q) → T q j = S q j
theorem x_settle {r : Nat} {G D S : gx_S} (h : pX r G D S) (hw : wD G D) (hr : r < 5) : gt (m_Bests_settle r S) fun t => t.1 = (ste G D).1 ∧ fS r S t.2 ∧ vD r (ste G D).2 t.2 := by
  have hG := h.1
  obtain ⟨eO, hO⟩ := wG_O hG
  have hS := (wG_S hG).2
  have mk : ∀ D' T, fS r S T → vD r D' T → wD G D' → pX r G D' T := fun D' T f d w => ⟨hG, wD_0 w, vG_f h.2.2.1 hS (fun q j hq => f q j (by omega) (by omega)), d⟩
  unfold m_Bests_settle
  refine gt_for 20 (fun j t => t.1 = nn j ∧ ∃ D', stl G (20 - j) j D' = ste G D ∧ fS r S t.2 ∧ vD r D' t.2 ∧ wD G D') ?_ ?_ 0 5000 _ (by omega) ⟨rfl, D, rfl, fun _ _ _ _ => rfl, h.2.2.2, hw⟩ (by omega)
  · rintro j ⟨x, T⟩ k2 hj ⟨rfl, D', e, f, d, w⟩ hk2
    simp only at e f d
    simp only [m_Bests_settle_2]
    rw [if_neg (by rw [show (20 : Int32) = nn 20 from rfl, nn_le (by omega) (by omega)]; omega)]
    refine gt_for (nO G) (fun i t => t.1 = (rnd G i D').1 ∧ t.2.1 = nn i ∧ fS r S t.2.2 ∧ vD r (rnd G i D').2 t.2.2) ?_ ?_ 0 5000 _ (by omega) ?_ (by omega)
    · rintro i ⟨x3, x4, U⟩ k hi ⟨rfl, rfl, f, d⟩ hk
      simp only at f d
      have wi := wD_rnd hG i w
      have p := mk _ _ f d wi
      simp only [m_Bests_settle_13]
      have e1 : U 1 0 = nn (nO G) := by rw [p.2.2.1.1 _ _ (by omega) (by omega), eO]
      simp (disch := omega) only [e1, nn_le, nn_s]
      rw [if_neg (by omega)]
      refine gt_cp (x_look p wi hr (o := i) (by omega)) (fun V hV => ?_)
      obtain ⟨v1, v2, _, v4, v5⟩ := hV
      refine gt_cs (x_take (pX_f p hr v1) wi hr (o := i) (by omega) v2 v4 v5) (fun a W hW => ?_)
      obtain ⟨w1, w2, w3⟩ := hW
      simp only at w1 w2 w3
      refine hk _ ⟨by rw [w1]; rfl, rfl, fun q j h1 h2 => ?_, w3⟩
      simp only
      rw [w2 q j h2, v1 q j h1]
      exact f q j h1 h2
    · rintro ⟨x3, x4, U⟩ k ⟨rfl, rfl, f, d⟩
      simp only at f d
      have wi := wD_rnd hG (nO G) w
      have p := mk _ _ f d wi
      simp only [m_Bests_settle_13]
      have e1 : U 1 0 = nn (nO G) := by rw [p.2.2.1.1 _ _ (by omega) (by omega), eO]
      simp (disch := omega) only [e1, nn_le, nn_s]
      rw [if_pos (by omega)]
      obtain ⟨m, hm⟩ : ∃ m, 20 - j = m + 1 := ⟨20 - j - 1, by omega⟩
      rw [hm] at e
      have e' : (if (rnd G (nO G) D').1 = 0 then (nn j, (rnd G (nO G) D').2) else stl G m (j + 1) (rnd G (nO G) D').2) = ste G D := e
      by_cases q : (rnd G (nO G) D').1 = 0
      · rw [if_pos q] at e' ⊢
        exact gt_some ⟨by rw [← e'], f, by rw [← e']; exact d⟩
      · rw [if_neg q] at e' ⊢
        refine hk2 _ ⟨rfl, _, ?_, f, d, wi⟩
        rw [show 20 - (j + 1) = m by omega]
        exact e'
    · exact ⟨rfl, rfl, f, d⟩
  · rintro ⟨x, T⟩ k2 ⟨rfl, D', e, f, d, w⟩
    simp only at e f d
    simp only [m_Bests_settle_2]
    rw [if_pos (by decide)]
    have e' : ((-1 : Int32), D') = ste G D := e
    exact gt_some ⟨by rw [← e'], f, by rw [← e']; exact d⟩
/-- counts when b's shops are a's -/
theorem ow_gv {G D : gx_S} {a b : Nat} (ha : a < 6) (hb : b < 6) (hab : a ≠ b) {o : Nat} (ho : o < 2147483648) {k : Nat} (hk : k < nP G) : ow (gv G D a b) o k = if o = a then ow D a k || ow D b k else if o = b then false else ow D o k := by
  unfold ow
  by_cases q : D 2 k = nn b
  · have e : gv G D a b 2 k = nn a := by
      unfold gv
      rw [if_pos ⟨rfl, hk, q⟩]
    rw [e, q]
    by_cases z : o = a
    · subst z; simp
    · rw [if_neg z]
      have : ¬ nn a = nn o := by rw [nn_eq (by omega) ho]; omega
      by_cases y : o = b
      · subst y; simp [this]
      · rw [if_neg y]
        have : ¬ nn b = nn o := by rw [nn_eq (by omega) ho]; omega
        simp [*]
  · have e : gv G D a b 2 k = D 2 k := by
      unfold gv
      rw [if_neg (fun z => q z.2.2)]
    rw [e]
    by_cases z : o = a
    · subst z; simp [q]
    · rw [if_neg z]
      by_cases y : o = b
      · subst y; simp [q]
      · rw [if_neg y]
theorem cn_cg {p p' : Nat → Bool} : ∀ {n : Nat}, (∀ k, k < n → p k = p' k) → cn p n = cn p' n
  | 0, _ => rfl
  | n + 1, h => by
    show cn p n + (if p n then 1 else 0) = cn p' n + (if p' n then 1 else 0)
    rw [cn_cg (fun k hk => h k (by omega)), h n (by omega)]
theorem cn_or {p p' : Nat → Bool} : ∀ {n : Nat}, (∀ k, k < n → ¬ (p k = true ∧ p' k = true)) → cn (fun k => p k || p' k) n = cn p n + cn p' n
  | 0, _ => rfl
  | n + 1, h => by
    show cn _ n + (if (p n || p' n) = true then 1 else 0) = cn p n + (if p n then 1 else 0) + (cn p' n + (if p' n then 1 else 0))
    rw [cn_or (fun k hk => h k (by omega))]
    have := h n (by omega)
    cases h1 : p n <;> cases h2 : p' n <;> simp_all <;> omega
theorem cn_f : ∀ {n : Nat}, cn (fun _ => false) n = 0
  | 0 => rfl
  | n + 1 => by
    show cn (fun _ => false) n + (if false = true then 1 else 0) = 0
    rw [cn_f]; rfl
theorem ow_2 {D : gx_S} {a b k : Nat} (ha : a < 2147483648) (hb : b < 2147483648) (hab : a ≠ b) : ¬ (ow D a k = true ∧ ow D b k = true) := by
  unfold ow
  simp only [decide_eq_true_eq]
  rintro ⟨h1, h2⟩
  rw [h1, nn_eq ha hb] at h2
  exact hab h2
theorem cnt_gv {G D : gx_S} {a b : Nat} (ha : a < 6) (hb : b < 6) (hab : a ≠ b) {o : Nat} (ho : o < 2147483648) : cnt G (gv G D a b) o = if o = a then cnt G D a + cnt G D b else if o = b then 0 else cnt G D o := by
  unfold cnt cu
  rw [cn_cg (fun k hk => ow_gv ha hb hab ho hk)]
  by_cases z : o = a
  · simp only [if_pos z]
    exact cn_or (fun k hk => ow_2 (by omega) (by omega) hab)
  · simp only [if_neg z]
    by_cases y : o = b
    · simp only [if_pos y]
      exact cn_f
    · simp only [if_neg y]
theorem cnt_big {G D : gx_S} (hG : wG G) (h0 : w0 D) {o : Nat} (ho : 6 ≤ o) (ho2 : o < 2147483648) : cnt G D o = 0 := by
  have hP := (wG_P hG).2
  unfold cnt cu
  rw [cn_cg (p' := fun _ => false) (fun k hk => ?_), cn_f]
  obtain ⟨e, h⟩ := w0_w h0 (j := k) (by omega)
  unfold ow
  rw [e, decide_eq_false_iff_not, nn_eq (by omega) ho2]
  omega

theorem wh_gv {G D : gx_S} {a b k : Nat} (ha : a < 6) : wh (gv G D a b) k = if k < nP G ∧ D 2 k = nn b then a else wh D k := by
  unfold wh gv
  by_cases q : k < nP G ∧ D 2 k = nn b
  · rw [if_pos ⟨rfl, q⟩, if_pos q, nn_c (by omega)]
  · rw [if_neg (fun z => q z.2), if_neg q]
theorem wD_gv {G D : gx_S} (hw : wD G D) {a b : Nat} (hO : nO G ≤ 6) (ha : a < nO G) (hb : b < nO G) (hab : a ≠ b) (hc : cnt G D a + cnt G D b ≤ 3) : wD G (gv G D a b) := by
  refine ⟨fun j hj => ⟨?_, ?_, ?_⟩, fun k hk => ?_, fun o ho => ?_⟩
  · have : gv G D a b 1 j = D 1 j := by simp [gv]
    rw [this]; exact (hw.1 j hj).1
  · unfold gv
    split
    · exact nn_b (b := 5) (by omega) (by decide)
    · exact (hw.1 j hj).2.1
  · have : gv G D a b 3 j = D 3 j := by simp [gv]
    rw [this]; exact (hw.1 j hj).2.2
  · rw [wh_gv (by omega)]
    split
    · exact ha
    · exact hw.2.1 k hk
  · rw [cnt_gv (by omega) (by omega) hab (by omega)]
    split
    · exact hc
    · split
      · omega
      · exact hw.2.2 o ho

/-! b12: joining -/
def ss (G D : gx_S) (m c : Nat) : gx_S := fun i j => if i = 2 ∧ j < nP G ∧ m.testBit j = true then nn c else D i j
def fK (S T : gx_S) : Prop := ∀ q j, (q < 37 ∨ 62 < q) → T q j = S q j
def fJ (S T : gx_S) : Prop := ∀ q j, (q < 33 ∨ 64 < q) → T q j = S q j
theorem fK_t {S T U : gx_S} (h : fK S T) (h' : fK T U) : fK S U := fun q j hq => (h' q j hq).trans (h q j hq)
theorem fJ_t {S T U : gx_S} (h : fJ S T) (h' : fJ T U) : fJ S U := fun q j hq => (h' q j hq).trans (h q j hq)
theorem fK_J {S T : gx_S} (h : fK S T) : fJ S T := fun q j hq => h q j (by omega)
theorem pX_J {r : Nat} {G D S T : gx_S} (h : pX r G D S) (hr : r < 3) (f : fJ S T) : pX r G D T := ⟨h.1, h.2.1, vG_f h.2.2.1 (wG_S h.1).2 (fun q j hq => f q j (by omega)), vD_f h.2.2.2 (fun q j h1 h2 => f q j (by omega))⟩
theorem pX_K {r : Nat} {G D S T : gx_S} (h : pX r G D S) (hr : r < 4) (f : fK S T) : pX r G D T := ⟨h.1, h.2.1, vG_f h.2.2.1 (wG_S h.1).2 (fun q j hq => f q j (by omega)), vD_f h.2.2.2 (fun q j h1 h2 => f q j (by omega))⟩
def sB (G B S : gx_S) : Prop := ∀ s, s < nS G → S 64 s = spa G B s
theorem x_restsBefore {r : Nat} {G D S : gx_S} (h : pX r G D S) (hw : wD G D) (hr : r < 3) : gt (m_Joining_restsBefore r S) fun t => t.1 = (if (ste G D).1 = -1 then 0 else 1) ∧ fJ S t.2 ∧ (¬ (ste G D).1 = -1 → sB G (ste G D).2 t.2) := by
  have hG := h.1
  obtain ⟨eS, hS⟩ := wG_S hG
  unfold m_Joining_restsBefore
  refine gt_cp (x_become (r := 3) (by omega) hw h.2.2.2) (fun S2 hS2 => ?_)
  obtain ⟨f2, d2⟩ := hS2
  have p2 : pX 3 G D S2 := ⟨hG, wD_0 hw, vG_f h.2.2.1 hS (fun q j hq => f2 q j (by omega)), d2⟩
  refine gt_cs (x_settle p2 hw (by omega)) (fun v S4 hS4 => ?_)
  obtain ⟨e4, f4, d4⟩ := hS4
  simp only at e4 f4 d4
  have fj : fJ S S4 := fun q j hq => (f4 q j (by omega) (by omega)).trans (f2 q j (by omega))
  have p4 : pX 3 G (ste G D).2 S4 := ⟨hG, wD_0 (wD_ste hG hw), vG_f h.2.2.1 hS (fun q j hq => fj q j (by omega)), d4⟩
  rw [e4]
  by_cases q : (ste G D).1 = -1
  · rw [if_pos q]
    exact gt_some ⟨by rw [if_pos q], fj, fun z => absurd q z⟩
  · rw [if_neg q]
    refine gt_for (nS G) (fun s t => t.1 = nn s ∧ (∀ q j, q ≠ 64 → t.2 q j = S4 q j) ∧ ∀ i, i < s → t.2 64 i = spa G (ste G D).2 i) ?_ ?_ 0 5000 _ (by omega) ?_ (by omega)
    · rintro s ⟨x, T⟩ k hs ⟨rfl, f, g⟩ hk
      simp only at f g
      have pT : pX 3 G (ste G D).2 T := ⟨hG, p4.2.1, vG_f p4.2.2.1 hS (fun q j hq => f q j (by omega)), vD_f p4.2.2.2 (fun q j h1 h2 => f q j (by omega))⟩
      have e1 : T 1 2 = nn (nS G) := by rw [pT.2.2.1.1 _ _ (by omega) (by omega), eS]
      simp only [m_Joining_restsBefore_27]
      simp (disch := omega) only [e1, nn_le, nn_c, ck_n, nn_s, let_s, x_spareOf pT hs, cp_s]
      rw [if_neg (by omega)]
      refine hk _ ⟨rfl, fun q j hq => ?_, fun i hi => ?_⟩
      · simp only
        rw [gx_st_q _ _ _ _ hq]; exact f q j hq
      · rcases Nat.lt_or_ge i s with y | y
        · simp only
          rw [gx_st_j _ _ _ (by omega)]; exact g i y
        · have : i = s := by omega
          subst this
          simp only [gx_st_eq]
    · rintro ⟨x, T⟩ k ⟨rfl, f, g⟩
      simp only at f g
      have e1 : T 1 2 = nn (nS G) := by rw [f _ _ (by omega), p4.2.2.1.1 _ _ (by omega) (by omega), eS]
      simp only [m_Joining_restsBefore_27]
      simp (disch := omega) only [e1, nn_le]
      rw [if_pos (by omega)]
      exact gt_some ⟨by rw [if_neg q], fun q j hq => (f q j (by omega)).trans (fj q j hq), fun _ => g⟩
    · exact ⟨rfl, fun _ _ _ => rfl, fun i hi => absurd hi (by omega)⟩
/-- standing 4 is that of r with b's shops a's -/
theorem x_behind {r : Nat} {G D S : gx_S} (h : pX r G D S) (hw : wD G D) (hr : r < 4) {a b : Nat} (ha : a < 6) (hb : b < 6) : gt (gx_cp (m_Standing_become 4 r S) fun S2 => m_Standing_give 4 (nn b) (nn a) S2) fun T => (∀ q j, (q < 37 ∨ 40 < q) → T q j = S q j) ∧ vD 4 (gv G D a b) T := by
  have hG := h.1
  have hS := (wG_S hG).2
  refine gt_cp (x_become (r := 4) (by omega) hw h.2.2.2) (fun S2 hS2 => ?_)
  obtain ⟨f2, d2⟩ := hS2
  have p2 : pX 4 G D S2 := ⟨hG, wD_0 hw, vG_f h.2.2.1 hS (fun q j hq => f2 q j (by omega)), d2⟩
  refine gt_mono (x_give p2 (by omega) a b) (fun T hT => ?_)
  exact ⟨fun q j hq => (hT.1 q j (by omega)).trans (f2 q j (by omega)), hT.2⟩
theorem cp_cp {A B R : Type} {o : Option A} {f : A → Option B} {k : B → Option R} : (gx_cp o fun a => gx_cp (f a) k) = gx_cp (gx_cp o f) k := by
  cases o <;> rfl
theorem cp_cs {A B R : Type} {o : Option A} {f : A → Option (B × gx_S)} {k : B → gx_S → Option R} : (gx_cp o fun a => gx_cs (f a) k) = gx_cs (gx_cp o f) k := by
  cases o <;> rfl
theorem x_settle4 {r : Nat} {G D S E T : gx_S} (h : pX r G D S) (hE : wD G E) (f : ∀ q j, (q < 37 ∨ 40 < q) → T q j = S q j) (d : vD 4 E T) : gt (m_Bests_settle 4 T) fun t => t.1 = (ste G E).1 ∧ fK S t.2 ∧ pX 4 G (ste G E).2 t.2 := by
  have hG := h.1
  have hS := (wG_S hG).2
  have p : pX 4 G E T := ⟨hG, wD_0 hE, vG_f h.2.2.1 hS (fun q j hq => f q j (by omega)), d⟩
  refine gt_mono (x_settle p hE (by omega)) (fun t ht => ?_)
  obtain ⟨e4, f4, d4⟩ := ht
  have fk : fK S t.2 := fun q j hq => (f4 q j (by omega) (by omega)).trans (f q j (by omega))
  exact ⟨e4, fk, hG, wD_0 (wD_ste hG hE), vG_f h.2.2.1 hS (fun q j hq => fk q j (by omega)), d4⟩
theorem x_roundsBehind {r : Nat} {G D S : gx_S} (h : pX r G D S) (hw : wD G D) (hr : r < 4) {a b : Nat} (ha : a < 6) (hb : b < 6) (hm : wD G (gv G D a b)) : gt (m_Joining_roundsBehind r (nn a) (nn b) S) fun t => t.1 = (ste G (gv G D a b)).1 ∧ fK S t.2 ∧ pX 4 G (ste G (gv G D a b)).2 t.2 := by
  unfold m_Joining_roundsBehind
  rw [cp_cp]
  refine gt_cp (x_behind h hw hr ha hb) (fun T hT => ?_)
  exact gt_cs (x_settle4 h hm hT.1 hT.2) (fun v U hU => gt_some hU)
def dr (G B E : gx_S) (s : Nat) : Int32 := spa G B s - spa G E s
def hrm (G B E : gx_S) : Int32 := sm (fun s => (if 0 < dr G B E s then dr G B E s else 0) * G 7 s) (nS G)
def sto (p : Nat → Bool) : Nat → Int32
  | 0 => 0
  | j + 1 => if p j then sto p j ||| ((1 : Int32) <<< (nn j &&& 31)) else sto p j
def hsm (G B E : gx_S) : Int32 := sto (fun s => decide (0 < dr G B E s)) (nS G)
theorem x_dearerFor {G B E S : gx_S} (h : pX 4 G E S) (hB : sB G B S) {s : Nat} (hs : s < nS G) : m_Joining_dearerFor (nn s) S = some (dr G B E s) := by
  have hS := (wG_S h.1).2
  unfold m_Joining_dearerFor
  simp (disch := omega) only [ck_n, x_spareOf h hs, cp_s, nn_c, hB s hs]
  rfl
theorem x_harmInAll {G B E S : gx_S} (h : pX 4 G E S) (hB : sB G B S) : m_Joining_harmInAll S = some (hrm G B E) := by
  have v := h.2.2.1.1
  obtain ⟨eS, hS⟩ := wG_S h.1
  unfold m_Joining_harmInAll
  refine lp_for (nS G) (fun j => (sm (fun s => (if 0 < dr G B E s then dr G B E s else 0) * G 7 s) j, nn j)) (fun j k hj => ?_) (fun k => ?_) 0 5000 (by omega) (by omega)
  · simp only [m_Joining_harmInAll_4]
    simp (disch := omega) only [v, eS, nn_le, x_dearerFor h hB hj, cp_s, nn_s, nn_c, ck_n]
    rw [if_neg (by omega)]
    rfl
  · simp only [m_Joining_harmInAll_4]
    simp (disch := omega) only [v, eS, nn_le]
    rw [if_pos (by omega)]
    rfl
theorem x_sortsHarmed {G B E S : gx_S} (h : pX 4 G E S) (hB : sB G B S) : m_Joining_sortsHarmed S = some (hsm G B E) := by
  have v := h.2.2.1.1
  obtain ⟨eS, hS⟩ := wG_S h.1
  unfold m_Joining_sortsHarmed
  refine lp_for (nS G) (fun j => (sto (fun s => decide (0 < dr G B E s)) j, nn j)) (fun j k hj => ?_) (fun k => ?_) 0 5000 (by omega) (by omega)
  · simp only [m_Joining_sortsHarmed_4, m_Joining_sortsHarmed_29]
    simp (disch := omega) only [v, eS, nn_le, x_dearerFor h hB hj, cp_s, nn_s, nn_c, ck_n]
    rw [if_neg (by omega)]
    rw [show sto (fun s => decide (0 < dr G B E s)) (j + 1) = if decide (0 < dr G B E j) = true then sto (fun s => decide (0 < dr G B E s)) j ||| ((1 : Int32) <<< (nn j &&& 31)) else sto (fun s => decide (0 < dr G B E s)) j from rfl]
    by_cases q : dr G B E j ≤ 0
    · rw [if_pos q, if_neg (by simp only [decide_eq_true_eq]; lia)]
    · rw [if_neg q, if_pos (by simp only [decide_eq_true_eq]; lia)]
  · simp only [m_Joining_sortsHarmed_4]
    simp (disch := omega) only [v, eS, nn_le]
    rw [if_pos (by omega)]
    rfl
theorem sB_K {G B S T : gx_S} (h : sB G B S) (f : fK S T) : sB G B T := fun s hs => (f 64 s (by omega)).trans (h s hs)
def hmo (G B E : gx_S) : Int32 := if (ste G E).1 = -1 then -1 else hrm G B (ste G E).2
theorem x_harmOf {r : Nat} {G D B S : gx_S} (h : pX r G D S) (hw : wD G D) (hr : r < 4) {a b : Nat} (ha : a < 6) (hb : b < 6) (hm : wD G (gv G D a b)) (hB : sB G B S) : gt (m_Joining_harmOf r (nn a) (nn b) S) fun t => t.1 = hmo G B (gv G D a b) ∧ fK S t.2 := by
  unfold m_Joining_harmOf
  rw [cp_cp]
  refine gt_cp (x_behind h hw hr ha hb) (fun T hT => ?_)
  refine gt_cs (x_settle4 h hm hT.1 hT.2) (fun v U hU => ?_)
  obtain ⟨e, f, p⟩ := hU
  simp only at e f p
  rw [e]
  unfold hmo
  by_cases q : (ste G (gv G D a b)).1 = -1
  · rw [if_pos q, if_pos q]
    exact gt_some ⟨rfl, f⟩
  · rw [if_neg q, if_neg q, x_harmInAll p (sB_K hB f), cp_s]
    exact gt_some ⟨rfl, f⟩
def mxd (f : Nat → Int32) : Nat → Int32
  | 0 => 0
  | j + 1 => if mxd f j < f j then f j else mxd f j
def dws (G B E : gx_S) : Int32 := if (ste G E).1 = -1 then 1000000 else mxd (dr G B (ste G E).2) (nS G)
theorem x_dws {r : Nat} {G D B S : gx_S} (h : pX r G D S) (hw : wD G D) (hr : r < 4) {a b c m : Nat} (ha : a < 6) (hb : b < 6) (hm : wD G (ss G (gv G D a b) m c)) (h64 : m < 64) (hB : sB G B S) : gt (m_Joining_dearestWhenSold r (nn a) (nn b) (nn c) (nn m) S) fun t => t.1 = dws G B (ss G (gv G D a b) m c) ∧ fK S t.2 := by
  have hG := h.1
  obtain ⟨eS, hS⟩ := wG_S hG
  obtain ⟨eP, hP⟩ := wG_P hG
  unfold m_Joining_dearestWhenSold
  rw [cp_cp]
  refine gt_cp (x_behind h hw hr ha hb) (fun T0 hT0 => ?_)
  obtain ⟨f0, d0⟩ := hT0
  refine gt_for (nP G) (fun j t => t.1 = nn j ∧ (∀ q i, q ≠ 39 → t.2 q i = T0 q i) ∧ ∀ i, i < 6 → t.2 39 i = if i < j then ss G (gv G D a b) m c 2 i else gv G D a b 2 i) ?_ ?_ 0 5000 _ (by omega) ?_ (by omega)
  · rintro j ⟨x, T⟩ k hj ⟨rfl, f, g⟩ hk
    simp only at f g
    simp only [m_Joining_dearestWhenSold_20, m_Joining_dearestWhenSold_55]
    have e1 : T 1 1 = nn (nP G) := by rw [f _ _ (by omega), f0 _ _ (by omega), h.2.2.1.1 _ _ (by omega) (by omega), eP]
    have hb := fb_bi m h64 j (by omega)
    unfold bi at hb
    simp (disch := omega) only [e1, nn_le, nn_c, ck_n, let_s, nn_s, hb]
    rw [if_neg (by omega)]
    by_cases q : m.testBit j = true
    · simp only [q, ↓reduceIte]
      refine hk _ ⟨rfl, fun q i hq => ?_, fun i hi => ?_⟩
      · simp only
        rw [gx_st_q _ _ _ _ hq]; exact f q i hq
      · simp only
        by_cases z : i = j
        · subst z
          rw [gx_st_eq, if_pos (by omega)]
          unfold ss
          rw [if_pos ⟨rfl, hj, q⟩]
        · rw [gx_st_j _ _ _ z, g i hi]
          by_cases y : i < j
          · rw [if_pos y, if_pos (by omega)]
          · rw [if_neg y, if_neg (by omega)]
    · simp only [q]
      rw [if_neg (by decide)]
      refine hk _ ⟨rfl, f, fun i hi => ?_⟩
      simp only
      rw [g i hi]
      by_cases z : i = j
      · subst z
        rw [if_neg (by omega), if_pos (by omega)]
        unfold ss
        rw [if_neg (fun z => q z.2.2)]
      · by_cases y : i < j
        · rw [if_pos y, if_pos (by omega)]
        · rw [if_neg y, if_neg (by omega)]
  · rintro ⟨x, T⟩ k ⟨rfl, f, g⟩
    simp only at f g
    simp only [m_Joining_dearestWhenSold_20]
    have e1 : T 1 1 = nn (nP G) := by rw [f _ _ (by omega), f0 _ _ (by omega), h.2.2.1.1 _ _ (by omega) (by omega), eP]
    simp (disch := omega) only [e1, nn_le]
    rw [if_pos (by omega)]
    have dT : vD 4 (ss G (gv G D a b) m c) T := by
      intro i j h1 h2 h3
      match i, h1, h2 with
      | 1, _, _ =>
        have : ss G (gv G D a b) m c 1 j = gv G D a b 1 j := by simp [ss]
        rw [f _ _ (by omega), this]; exact d0 1 j (by omega) (by omega) h3
      | 2, _, _ =>
        show T 39 j = _
        rw [g j h3]
        by_cases y : j < nP G
        · rw [if_pos y]
        · rw [if_neg y]
          unfold ss
          rw [if_neg (fun z => y z.2.1)]
      | 3, _, _ =>
        have : ss G (gv G D a b) m c 3 j = gv G D a b 3 j := by simp [ss]
        rw [f _ _ (by omega), this]; exact d0 3 j (by omega) (by omega) h3
    refine gt_cs (x_settle4 h hm (fun q j hq => (f q j (by omega)).trans (f0 q j hq)) dT) (fun v U hU => ?_)
    obtain ⟨e, f, p⟩ := hU
    simp only at e f p
    rw [e]
    unfold dws
    by_cases q : (ste G (ss G (gv G D a b) m c)).1 = -1
    · rw [if_pos q, if_pos q]
      exact gt_some ⟨rfl, f⟩
    · rw [if_neg q, if_neg q]
      have hB' := sB_K hB f
      have el : gx_loop (m_Joining_dearestWhenSold_85 r U) 5000 (0, 0) = some (mxd (dr G B (ste G (ss G (gv G D a b) m c)).2) (nS G), U) := by
        refine lp_for (nS G) (fun j => (mxd (dr G B (ste G (ss G (gv G D a b) m c)).2) j, nn j)) (fun j k hj => ?_) (fun k => ?_) 0 5000 (by omega) (by omega)
        · simp only [m_Joining_dearestWhenSold_85]
          simp (disch := omega) only [p.2.2.1.1, eS, nn_le, x_dearerFor p hB' hj, cp_s, nn_s]
          rw [if_neg (by omega)]
          rfl
        · simp only [m_Joining_dearestWhenSold_85]
          simp (disch := omega) only [p.2.2.1.1, eS, nn_le]
          rw [if_pos (by omega)]
      rw [el]
      exact gt_some ⟨rfl, f⟩
  · exact ⟨rfl, fun _ _ _ => rfl, fun i hi => by rw [if_neg (by omega)]; exact d0 2 i (by omega) (by omega) hi⟩

/-! b13: markets; sold off -/
def fX (S T : gx_S) : Prop := ∀ q j, (q < 25 ∨ (28 < q ∧ q < 33) ∨ 64 < q) → T q j = S q j
theorem fX_r (S : gx_S) : fX S S := fun _ _ _ => rfl
theorem fX_t {S T U : gx_S} (h : fX S T) (h' : fX T U) : fX S U := fun q j hq => (h' q j hq).trans (h q j hq)
theorem fJ_X {S T : gx_S} (h : fJ S T) : fX S T := fun q j hq => h q j (by omega)
theorem fK_X {S T : gx_S} (h : fK S T) : fX S T := fJ_X (fK_J h)
theorem fB_X {S T : gx_S} (h : fB S T) : fX S T := fun q j hq => h q j (by omega)
theorem pX_X {G D S T : gx_S} (h : pX 0 G D S) (f : fX S T) : pX 0 G D T := ⟨h.1, h.2.1, vG_f h.2.2.1 (wG_S h.1).2 (fun q j hq => f q j (by omega)), vD_f h.2.2.2 (fun q j h1 h2 => f q j (by omega))⟩
def up (G D : gx_S) (m k : Nat) : gx_S := fun i j => if i = 1 ∧ j < nP G ∧ m.testBit j = true then (if D 1 j + nn k < 9 then D 1 j + nn k else 9) else D i j
def wpv (G D : gx_S) (m k : Nat) : Int32 := if tot G (up G D m k) (gMa G (up G D m k) (nn m)) < tot G D (gMa G D (nn m)) then 0 else 1
theorem x_wouldPay {G D S : gx_S} (h : pX 0 G D S) (hw : wD G D) {m k : Nat} (hm : m < 64) : gt (m_ShopsAsOne_wouldPay (nn m) (nn k) S) fun t => t.1 = wpv G D m k ∧ ∀ q j, (q < 26 ∨ 28 < q) → t.2 q j = S q j := by
  have hG := h.1
  obtain ⟨eP, hP⟩ := wG_P hG
  have hS := (wG_S hG).2
  have v := h.2.2.1.1
  have d : ∀ i j, 1 ≤ i → i ≤ 3 → j < 6 → S (21 + 4 * 0 + i) j = D i j := h.2.2.2
  have u2 : ∀ j, up G D m k 2 j = D 2 j := fun j => by simp [up]
  have u3 : ∀ j, up G D m k 3 j = D 3 j := fun j => by simp [up]
  have w0u : w0 (up G D m k) := fun j hj => by rw [u2]; exact wD_0 hw j hj
  unfold m_ShopsAsOne_wouldPay
  refine gt_cp (x_become (r := 1) (r1 := 0) (by omega) hw h.2.2.2) (fun S2 hS2 => ?_)
  obtain ⟨f2, d2⟩ := hS2
  refine gt_for (nP G) (fun j t => t.1 = nn j ∧ (∀ q i, q ≠ 26 → t.2 q i = S2 q i) ∧ ∀ i, i < 6 → t.2 26 i = if i < j then up G D m k 1 i else D 1 i) ?_ ?_ 0 5000 _ (by omega) ?_ (by omega)
  · rintro j ⟨x, T⟩ kk hj ⟨rfl, f, g⟩ hk
    simp only at f g
    simp only [m_ShopsAsOne_wouldPay_13, m_ShopsAsOne_wouldPay_58]
    have e1 : T 1 1 = nn (nP G) := by rw [f _ _ (by omega), f2 _ _ (by omega), v _ _ (by omega) (by omega), eP]
    have e22 : T 22 j = D 1 j := by rw [f _ _ (by omega), f2 _ _ (by omega)]; exact d 1 j (by omega) (by omega) (by omega)
    have hb := fb_bi m hm j (by omega)
    unfold bi at hb
    simp (disch := omega) only [e1, e22, nn_le, nn_c, ck_n, let_s, nn_s, hb]
    rw [if_neg (by omega)]
    by_cases q : m.testBit j = true
    · simp only [q, ↓reduceIte]
      refine hk _ ⟨rfl, fun q i hq => ?_, fun i hi => ?_⟩
      · simp only
        rw [gx_st_q _ _ _ _ hq]; exact f q i hq
      · simp only
        by_cases z : i = j
        · subst z
          have hu : up G D m k 1 i = (if D 1 i + nn k < 9 then D 1 i + nn k else 9) := by simp [up, hj, q]
          rw [gx_st_eq, if_pos (show i < i + 1 by omega)]
          exact hu.symm
        · rw [gx_st_j _ _ _ z, g i hi]
          by_cases y : i < j
          · rw [if_pos y, if_pos (by omega)]
          · rw [if_neg y, if_neg (by omega)]
    · simp only [q]
      rw [if_neg (by decide)]
      refine hk _ ⟨rfl, f, fun i hi => ?_⟩
      simp only
      rw [g i hi]
      by_cases z : i = j
      · subst z
        rw [if_neg (by omega), if_pos (by omega)]
        unfold up
        rw [if_neg (fun z => q z.2.2)]
      · by_cases y : i < j
        · rw [if_pos y, if_pos (by omega)]
        · rw [if_neg y, if_neg (by omega)]
  · rintro ⟨x, T⟩ kk ⟨rfl, f, g⟩
    simp only at f g
    simp only [m_ShopsAsOne_wouldPay_13]
    have e1 : T 1 1 = nn (nP G) := by rw [f _ _ (by omega), f2 _ _ (by omega), v _ _ (by omega) (by omega), eP]
    simp (disch := omega) only [e1, nn_le]
    rw [if_pos (by omega)]
    have fT : ∀ q j, (q < 26 ∨ 28 < q) → T q j = S q j := fun q j hq => (f q j (by omega)).trans (f2 q j (by omega))
    have vT : vG G T := vG_f h.2.2.1 hS (fun q j hq => fT q j (by omega))
    have p0 : pX 0 G D T := ⟨hG, wD_0 hw, vT, vD_f h.2.2.2 (fun q j h1 h2 => fT q j (by omega))⟩
    have p1 : pX 1 G (up G D m k) T := by
      refine ⟨hG, w0u, vT, fun i j h1 h2 h3 => ?_⟩
      match i, h1, h2 with
      | 1, _, _ =>
        show T 26 j = _
        rw [g j h3]
        by_cases y : j < nP G
        · rw [if_pos y]
        · rw [if_neg y]
          unfold up
          rw [if_neg (fun z => y z.2.1)]
      | 2, _, _ => rw [u2, f _ _ (by omega)]; exact d2 2 j (by omega) (by omega) h3
      | 3, _, _ => rw [u3, f _ _ (by omega)]; exact d2 3 j (by omega) (by omega) h3
    rw [x_marginOf p1, x_marginOf p0, cp_s, cp_s]
    unfold wpv
    split
    · exact gt_some ⟨rfl, fT⟩
    · exact gt_some ⟨rfl, fT⟩
  · exact ⟨rfl, fun _ _ _ => rfl, fun i hi => by rw [if_neg (by omega)]; exact d2 1 i (by omega) (by omega) hi⟩
theorem fb_orb : ∀ n, n < 6 → ∀ m, m < 64 → nn m ||| ((1 : Int32) <<< (nn n &&& 31)) = nn (m ||| 2 ^ n) ∧ (m ||| 2 ^ n) < 64 := by decide +kernel
theorem fb_1b : ∀ n, n < 7 → ((1 : Int32) <<< (nn n &&& 31)) = nn (2 ^ n) := by decide +kernel
theorem p64 : ∀ n, n < 7 → 2 ^ n ≤ 64 := by decide
theorem fb_sub : ∀ m, m < 64 → ∀ m', m' < 64 → ((nn m &&& (nn m' ^^^ (-1))) = 0 ↔ m &&& m' = m) := by decide +kernel
theorem fb_has : ∀ m, m < 64 → ∀ k, k < 6 → m.testBit k = true → 2 ^ k ≤ m ∧ 0 < pc m := by decide +kernel
theorem fb_pcn : ∀ n, n < 7 → ∀ m, m < 64 → m < 2 ^ n → pc m ≤ n := by decide +kernel
theorem fb_sle : ∀ m, m < 64 → ∀ m', m' < 64 → m &&& m' = m → m ≤ m' := by decide +kernel
theorem cn_le6 (m : Nat) : pc m ≤ 6 := by
  unfold pc pcn pcn pcn pcn pcn pcn pcn
  repeat' split
  all_goals omega
def nmk (G D : gx_S) (i k : Nat) : Nat → Nat → Int32
  | 0, _ => -1
  | f + 1, m => if wpv G D m k = 0 then (if (nea G D i m (nP G)).1 = -1 then -1 else nmk G D i k f (m ||| 2 ^ (nea G D i m (nP G)).1.toNatClampNeg)) else nn m
theorem nea_n (G D : gx_S) (i m : Nat) : (nea G D i m (nP G)).1 = -1 ∨ ∃ x, x < nP G ∧ (nea G D i m (nP G)).1 = nn x ∧ (opn G D x = true ∧ m.testBit x = false) := by
  rcases chN_isC (fun k => ab (G 4 k - G 4 i)) (fun k => opn G D k && !m.testBit k) 98 (nP G) with ⟨e, _⟩ | ⟨x, h1, e, _, h2, _⟩
  · exact Or.inl e
  · refine Or.inr ⟨x, h1, e, ?_⟩
    simpa using h2
theorem x_nearMarket {G D S : gx_S} (h : pX 0 G D S) (hw : wD G D) {i k : Nat} (hi : i < 6) : gt (m_ShopsAsOne_nearMarket (nn i) (nn k) S) fun t => t.1 = nmk G D i k (nP G) (2 ^ i) ∧ fX S t.2 := by
  have hG := h.1
  obtain ⟨eP, hP⟩ := wG_P hG
  have v := h.2.2.1.1
  unfold m_ShopsAsOne_nearMarket
  rw [fb_1 i hi]
  have h64 : 2 ^ i < 64 := by
    have : ∀ i, i < 6 → 2 ^ i < 64 := by decide
    exact this i hi
  refine gt_for (nP G + 1) (fun j t => t.2.1 = nn j ∧ ∃ m, m < 64 ∧ t.1 = nn m ∧ nmk G D i k (nP G + 1 - j) m = nmk G D i k (nP G) (2 ^ i) ∧ fX S t.2.2) ?_ ?_ 1 5000 _ (by omega) ?_ (by omega)
  · rintro j ⟨x3, x4, T⟩ kk hj ⟨rfl, m, hm, rfl, e, f⟩ hk
    simp only at e f
    simp only [m_ShopsAsOne_nearMarket_7]
    have p := pX_X h f
    have e1 : T 1 1 = nn (nP G) := by rw [p.2.2.1.1 _ _ (by omega) (by omega), eP]
    rw [e1, if_neg (by rw [nn_lt (by omega) (by omega)]; omega)]
    obtain ⟨n, hn⟩ : ∃ n, nP G + 1 - j = n + 1 := ⟨nP G - j, by omega⟩
    rw [hn] at e
    have e' : (if wpv G D m k = 0 then (if (nea G D i m (nP G)).1 = -1 then -1 else nmk G D i k n (m ||| 2 ^ (nea G D i m (nP G)).1.toNatClampNeg)) else nn m) = nmk G D i k (nP G) (2 ^ i) := e
    refine gt_cs (x_wouldPay p hw hm) (fun a U hU => ?_)
    obtain ⟨u1, u2⟩ := hU
    simp only at u1 u2
    have fU : fX S U := fX_t f (fun q j hq => u2 q j (by omega))
    have pU := pX_X h fU
    rw [u1]
    by_cases q : wpv G D m k = 0
    · rw [if_pos q] at e' ⊢
      rw [x_nearestOpen pU hi hm, cp_s]
      rcases nea_n G D i m with y | ⟨x, h1, y, _⟩
      · rw [if_pos y] at e' ⊢
        exact gt_some ⟨e', fU⟩
      · rw [y, if_neg (nn_m1 (by omega)), nn_c (by omega)] at e'
        rw [y, if_neg (nn_m1 (by omega)), (fb_orb x (by omega) m hm).1, nn_s]
        refine hk _ ⟨rfl, _, (fb_orb x (by omega) m hm).2, rfl, ?_, fU⟩
        rw [show nP G + 1 - (j + 1) = n by omega]
        exact e'
    · rw [if_neg q] at e' ⊢
      exact gt_some ⟨e', fU⟩
  · rintro ⟨x3, x4, T⟩ kk ⟨rfl, m, hm, rfl, e, f⟩
    simp only at e f
    simp only [m_ShopsAsOne_nearMarket_7]
    have p := pX_X h f
    have e1 : T 1 1 = nn (nP G) := by rw [p.2.2.1.1 _ _ (by omega) (by omega), eP]
    rw [e1, if_pos (by rw [nn_lt (by omega) (by omega)]; omega)]
    rw [show nP G + 1 - (nP G + 1) = 0 by omega] at e
    exact gt_some ⟨e, f⟩
  · exact ⟨rfl, 2 ^ i, h64, rfl, rfl, fX_r S⟩
/-- one of fewest, of like ones of least bits -/
def lsm (ok : Nat → Prop) (N : Nat) (r : Int32) : Prop := (r = -1 ∧ ∀ m, m < N → ¬ ok m) ∨ ∃ m, m < N ∧ r = nn m ∧ ok m ∧ ∀ m', m' < N → ok m' → pc m ≤ pc m' ∧ (pc m = pc m' → m ≤ m')
theorem lsm_u {ok : Nat → Prop} {N : Nat} {r r' : Int32} (h : lsm ok N r) (h' : lsm ok N r') : r = r' := by
  rcases h with ⟨e, a⟩ | ⟨m, h1, e, h2, a⟩
  · rcases h' with ⟨e', _⟩ | ⟨m', h1', _, h2', _⟩
    · rw [e, e']
    · exact absurd h2' (a m' h1')
  · rcases h' with ⟨_, a'⟩ | ⟨m', h1', e', h2', a'⟩
    · exact absurd h2 (a' m h1)
    · have x := a m' h1' h2'
      have y := a' m h1 h2
      have z : pc m = pc m' := by omega
      have : m = m' := by
        have := x.2 z
        have := y.2 z.symm
        omega
      rw [e, e', this]
def okM (G D : gx_S) (i k m : Nat) : Prop := m &&& mb (opn G D) (nP G) = m ∧ m.testBit i = true ∧ wpv G D m k = 1
theorem wpv_01 (G D : gx_S) (m k : Nat) : wpv G D m k = 0 ∨ wpv G D m k = 1 := by
  unfold wpv
  split
  · exact Or.inl rfl
  · exact Or.inr rfl
theorem x_leastMarket {G D S : gx_S} (h : pX 0 G D S) (hw : wD G D) {i k : Nat} (hi : i < 6) : gt (m_ShopsAsOne_leastMarket (nn i) (nn k) S) fun t => lsm (okM G D i k) (2 ^ nP G) t.1 ∧ fX S t.2 := by
  have hG := h.1
  obtain ⟨eP, hP⟩ := wG_P hG
  have v := h.2.2.1.1
  have hN := p64 (nP G) (by omega)
  unfold m_ShopsAsOne_leastMarket
  rw [x_openShops h, cp_s]
  have hop := mb_64 (opn G D) hP
  refine gt_for (nP G + 1) (fun z t => t.1 = nn z ∧ fX S t.2 ∧ ∀ m, m < 2 ^ nP G → okM G D i k m → z ≤ pc m) ?_ ?_ 1 5000 _ (by omega) ?_ (by omega)
  · rintro z ⟨x, T⟩ k2 hz ⟨rfl, f, g⟩ hk2
    simp only at f g
    simp only [m_ShopsAsOne_leastMarket_11]
    have e1 : T 1 1 = nn (nP G) := by rw [f _ _ (by omega), v _ _ (by omega) (by omega), eP]
    rw [e1, if_neg (by rw [nn_lt (by omega) (by omega)]; omega), fb_1 i hi]
    have hgo : ∀ n E, n = max (2 ^ nP G) E → E = 2 ^ i → gt (gx_loop (m_ShopsAsOne_leastMarket_28 k2 (nn i) (nn k) (nn (mb (opn G D) (nP G))) (nn z)) 5000 (nn E, T)) fun t => lsm (okM G D i k) (2 ^ nP G) t.1 ∧ fX S t.2 := by
      intro n E hn hE
      have h64i := p64 i (by omega)
      rw [← hE] at h64i
      have hn64 : n ≤ 64 := by omega
      have hEn : E ≤ n := by omega
      have hNn : 2 ^ nP G ≤ n := by omega
      have hnn : n = 2 ^ nP G ∨ n = E := by omega
      refine gt_for n (fun x t => t.1 = nn x ∧ fX S t.2 ∧ ∀ m, m < 2 ^ nP G → okM G D i k m → z ≤ pc m ∧ (z = pc m → x ≤ m)) ?_ ?_ E 5000 _ hEn ?_ (by omega)
      · rintro x ⟨_, T⟩ k1 hx ⟨rfl, f, g⟩ hk1
        simp only at f g
        simp only [m_ShopsAsOne_leastMarket_28]
        have p := pX_X h f
        have e1 : T 1 1 = nn (nP G) := by rw [f _ _ (by omega), v _ _ (by omega) (by omega), eP]
        have nx : ∀ U, fX S U → (x < 2 ^ nP G → ¬ (okM G D i k x ∧ pc x = z)) → gt (m_ShopsAsOne_leastMarket_96 k2 k1 (nn i) (nn k) (nn (mb (opn G D) (nP G))) (nn z) (nn x) U) fun t => lsm (okM G D i k) (2 ^ nP G) t.1 ∧ fX S t.2 := fun U fU hno => by
          unfold m_ShopsAsOne_leastMarket_96
          rw [nn_s]
          refine hk1 _ ⟨rfl, fU, fun m hm ho => ⟨(g m hm ho).1, fun y => ?_⟩⟩
          have h1 := (g m hm ho).2 y
          rcases Nat.lt_or_ge x m with y2 | y2
          · omega
          · have : m = x := by omega
            subst this
            exact absurd ⟨ho, y.symm⟩ (hno hm)
        rw [e1, fb_1b _ (by omega)]
        have hpx : pc x ≤ 6 := cn_le6 x
        simp (disch := omega) only [nn_le]
        by_cases q : 2 ^ nP G ≤ x
        · rw [if_pos q, nn_s]
          refine hk2 _ ⟨rfl, f, fun m hm ho => ?_⟩
          have := g m hm ho
          rcases Nat.lt_or_ge z (pc m) with y | y
          · omega
          · have := this.2 (by omega)
            omega
        · rw [if_neg q, x_bitCount (by omega), cp_s]
          simp (disch := omega) only [nn_eq]
          have hb := fb_bi x (by omega) i hi
          unfold bi at hb
          have hs := fb_sub x (by omega) _ hop
          simp only [m_ShopsAsOne_leastMarket_75, m_ShopsAsOne_leastMarket_76]
          by_cases q1 : pc x = z
          · rw [if_pos q1, hb]
            by_cases q2 : x.testBit i = true
            · simp only [q2, ↓reduceIte]
              by_cases q3 : x &&& mb (opn G D) (nP G) = x
              · rw [if_pos (hs.mpr q3), if_neg (by decide)]
                refine gt_cs (x_wouldPay p hw (by omega)) (fun a U hU => ?_)
                obtain ⟨u1, u2⟩ := hU
                simp only at u1 u2
                have fU : fX S U := fX_t f (fun q j hq => u2 q j (by omega))
                rw [u1]
                rcases wpv_01 G D x k with y | y
                · rw [if_pos y]
                  exact nx U fU (fun _ z => absurd (y.symm.trans z.1.2.2) (by decide))
                · rw [y, if_neg (by decide)]
                  refine gt_some ⟨Or.inr ⟨x, by omega, rfl, ⟨q3, q2, y⟩, fun m' hm' ho' => ?_⟩, fU⟩
                  have := g m' hm' ho'
                  rw [q1]
                  exact this
              · rw [if_neg (fun y => q3 (hs.mp y))]
                exact nx T f (fun _ z => q3 z.1.1)
            · simp only [q2]
              rw [if_neg (by decide), if_pos trivial]
              exact nx T f (fun _ z => q2 z.1.2.1)
          · rw [if_neg q1, if_pos trivial]
            exact nx T f (fun _ z => q1 z.2)
      · rintro ⟨x, T⟩ k1 ⟨rfl, f, g⟩
        simp only at f g
        simp only [m_ShopsAsOne_leastMarket_28]
        have e1 : T 1 1 = nn (nP G) := by rw [f _ _ (by omega), v _ _ (by omega) (by omega), eP]
        rw [e1, fb_1b _ (by omega)]
        simp (disch := omega) only [nn_le]
        rw [if_pos (by omega), nn_s]
        refine hk2 _ ⟨rfl, f, fun m hm ho => ?_⟩
        have := g m hm ho
        rcases Nat.lt_or_ge z (pc m) with y | y
        · omega
        · have := this.2 (by omega)
          omega
      · refine ⟨rfl, f, fun m hm ho => ⟨g m hm ho, fun _ => ?_⟩⟩
        rw [hE]
        exact (fb_has m (by omega) i hi ho.2.1).1
    exact hgo _ _ rfl rfl
  · rintro ⟨x, T⟩ k2 ⟨rfl, f, g⟩
    simp only at f g
    simp only [m_ShopsAsOne_leastMarket_11]
    have e1 : T 1 1 = nn (nP G) := by rw [f _ _ (by omega), v _ _ (by omega) (by omega), eP]
    rw [e1, if_pos (by rw [nn_lt (by omega) (by omega)]; omega)]
    refine gt_some ⟨Or.inl ⟨rfl, fun m hm ho => ?_⟩, f⟩
    have := g m hm ho
    have := fb_pcn _ (by omega) m (by omega) hm
    omega
  · exact ⟨rfl, fX_r S, fun m hm ho => (fb_has m (by omega) i hi ho.2.1).2⟩

/-! b14: the reference's queries -/
def uG (G T : gx_S) : Prop := (T 0 0 = G 1 0 ∧ T 0 4 = G 1 1 ∧ T 0 9 = G 1 2) ∧ (∀ o, o < 6 → T 1 o = G 2 o ∧ T 2 o = G 3 o) ∧ (∀ k, k < 6 → T 5 k = G 4 k ∧ T 6 k = G 5 k) ∧ ∀ s i, s < 8 → i < 6 → T 8 (6 * s + i) = G (6 + i) s
def uD (D T : gx_S) : Prop := ∀ j, j < 6 → T 7 j = D 1 j ∧ T 4 j = D 2 j ∧ T 3 j = D 3 j
def pU (G D : gx_S) (sh : Int32) (T : gx_S) : Prop := wG G ∧ w0 D ∧ uG G T ∧ uD D T ∧ T 0 23 = sh
theorem nn_mul (a b : Nat) : nn a * nn b = nn (a * b) := by
  show Int32.ofNat a * Int32.ofNat b = Int32.ofNat (a * b)
  rw [Int32.ofNat_mul]
theorem u_told {G T : gx_S} (h : uG G T) {s i : Nat} (hs : s < 8) (hi : i < 6) : n_told (nn s) (nn i) T = some (G (6 + i) s) := by
  unfold n_told
  rw [show (6 : Int32) = nn 6 from rfl, nn_mul, nn_add]
  simp (disch := omega) only [ck_n, nn_c, h.2.2.2 s i hs hi]
theorem ab_s {x y : Int32} (hx : bw x 0 9) (hy : bw y 0 9) : ab (x - y) = ab (y - x) := by
  obtain ⟨e1, h1⟩ := bw_n (n := 9) (by decide) hx
  obtain ⟨e2, h2⟩ := bw_n (n := 9) (by decide) hy
  rw [e1, e2, ab_n _ (by omega) _ (by omega), ab_n _ (by omega) _ (by omega)]
  congr 1
  split <;> split <;> omega
theorem u_size (x : Int32) (T : gx_S) : n_size x T = some (ab x) := by
  unfold n_size ab
  split
  · rfl
  · rw [Int32.zero_sub]
theorem u_isTo {G D T : gx_S} {sh : Int32} (h : pU G D sh T) {s k : Nat} (hs : s < nS G) (hk : k < nP G) : n_isTo (nn s) (nn k) T = some (isv G D s k) := by
  obtain ⟨hG, h0, hu, hd, _⟩ := h
  have hP := (wG_P hG).2
  have hS := (wG_S hG).2
  have t0 : n_told (nn s) 0 T = some (G 6 s) := u_told hu (i := 0) (by omega) (by omega)
  have t2 : n_told (nn s) 2 T = some (G 8 s) := u_told hu (i := 2) (by omega) (by omega)
  have t4 : n_told (nn s) 4 T = some (G 10 s) := u_told hu (i := 4) (by omega) (by omega)
  have t5 : n_told (nn s) 5 T = some (G 11 s) := u_told hu (i := 5) (by omega) (by omega)
  obtain ⟨d1, d2, d3⟩ := hd k (by omega)
  obtain ⟨s1, s2⟩ := hu.2.2.1 k (by omega)
  have ea : ab (G 4 k - G 6 s) = ab (G 6 s - G 4 k) := ab_s (hG.2.2.1 k).1 (hG.2.2.2 s).1
  unfold n_isTo isv bes
  rw [t0, t2, t4, t5]
  simp (disch := omega) only [cp_s, ck_n, nn_c, d1, s1, u_size, ea]
  by_cases q : G 10 s = nn k
  · rw [if_pos q, if_pos q]
    congr 1
    grind
  · rw [if_neg q, if_neg q]
    congr 1
    grind
theorem u_isOpen {G D T : gx_S} {sh : Int32} (h : pU G D sh T) {k : Nat} (hk : k < 6) : n_isOpen (nn k) T = some (ib (opx G D sh k)) := by
  obtain ⟨hG, h0, hu, hd, e⟩ := h
  obtain ⟨ew, hw⟩ := w0_w h0 hk
  obtain ⟨d1, d2, d3⟩ := hd k hk
  obtain ⟨_, _, d3'⟩ := hd _ hw
  have s1 := (hu.2.1 _ hw).1
  unfold n_isOpen n_isOpen_41 n_isOpen_37 opx opn
  rw [e]
  by_cases q : nn k = sh
  · rw [if_pos q]
    simp [q, ib]
  · rw [if_neg q]
    simp (disch := omega) only [ck_n, nn_c, d2, ew, s1, d3']
    by_cases a : G 2 (wh D k) = 4
    · by_cases b : D 3 (wh D k) = 0
      · simp [a, b, ib]
      · simp [a, b, ib, q]
    · simp [a, ib, q]
/-- the first least, by its number -/
def gN (is : Nat → Int32) (op : Nat → Bool) : Nat → Int32
  | 0 => -1
  | k + 1 => if op k = true ∧ (gN is op k = -1 ∨ is k < is (gN is op k).toNatClampNeg) then nn k else gN is op k
theorem gN_c (is : Nat → Int32) (op : Nat → Bool) : ∀ n, n < 2147483648 → (gN is op n = -1 ∧ ∀ j, j < n → ¬ op j = true) ∨ ∃ i, i < n ∧ gN is op n = nn i ∧ op i = true ∧ ∀ j, j < n → op j = true → is i ≤ is j ∧ (j < i → is i < is j)
  | 0, _ => Or.inl ⟨rfl, fun j h => absurd h (by omega)⟩
  | n + 1, hn => by
    have ih := gN_c is op n (by omega)
    unfold gN
    by_cases q : op n = true ∧ (gN is op n = -1 ∨ is n < is (gN is op n).toNatClampNeg)
    · rw [if_pos q]
      refine Or.inr ⟨n, by omega, rfl, q.1, fun j hj ho => ?_⟩
      rcases Nat.lt_or_ge j n with y | y
      · rcases ih with ⟨e, a⟩ | ⟨i, hi, e, h1, a⟩
        · exact absurd ho (a j y)
        · have := (a j y ho).1
          rcases q.2 with z | z
          · exact absurd (e.symm.trans z) (nn_m1 (by omega))
          · rw [e, nn_c (by omega)] at z
            exact ⟨by lia, fun _ => by lia⟩
      · have : j = n := by omega
        subst this
        exact ⟨Int32.le_refl _, fun z => absurd z (by omega)⟩
    · rw [if_neg q]
      rcases ih with ⟨e, a⟩ | ⟨i, hi, e, h1, a⟩
      · refine Or.inl ⟨e, fun j hj ho => ?_⟩
        rcases Nat.lt_or_ge j n with y | y
        · exact a j y ho
        · have : j = n := by omega
          subst this
          exact q ⟨ho, Or.inl e⟩
      · refine Or.inr ⟨i, by omega, e, h1, fun j hj ho => ?_⟩
        rcases Nat.lt_or_ge j n with y | y
        · exact a j y ho
        · have : j = n := by omega
          subst this
          have : ¬ is j < is i := fun z => q ⟨ho, Or.inr (by rw [e, nn_c (by omega)]; exact z)⟩
          exact ⟨by lia, fun z => absurd z (by omega)⟩
theorem gN_isC {is : Nat → Int32} {op : Nat → Bool} {w : Int32} {n : Nat} (hn : n < 2147483648) (hw : w ≤ 1000) : ∃ l, isC (fun k => op k = true) is w n l (if gN is op n = -1 then -1 else if is (gN is op n).toNatClampNeg ≤ w then gN is op n else -1) := by
  rcases gN_c is op n hn with ⟨e, a⟩ | ⟨i, hi, e, h1, a⟩
  · exact ⟨w + 1, Or.inl ⟨by rw [if_pos e], rfl, fun j hj hm => absurd hm (a j hj)⟩⟩
  · rw [e, if_neg (nn_m1 (by omega)), nn_c (by omega)]
    by_cases q : is i ≤ w
    · rw [if_pos q]
      exact ⟨is i, Or.inr ⟨i, hi, rfl, rfl, h1, by lia, fun j hj hm => a j hj hm⟩⟩
    · rw [if_neg q]
      refine ⟨w + 1, Or.inl ⟨rfl, rfl, fun j hj hm => ?_⟩⟩
      have := (a j hj hm).1
      lia
theorem u_goesTo {G D T : gx_S} {sh : Int32} (h : pU G D sh T) {s : Nat} (hs : s < nS G) : n_goesTo (nn s) T = some (cho G D s sh) := by
  have hG := h.1
  obtain ⟨eP, hP⟩ := wG_P hG
  have hS := (wG_S hG).2
  have e1 : T 0 4 = nn (nP G) := by rw [h.2.2.1.1.2.1, eP]
  have t3 : n_told (nn s) 3 T = some (G 9 s) := u_told h.2.2.1 (i := 3) (by omega) (by omega)
  have hch : cho G D s sh = (if gN (isv G D s) (opx G D sh) (nP G) = -1 then -1 else if isv G D s (gN (isv G D s) (opx G D sh) (nP G)).toNatClampNeg ≤ G 9 s then gN (isv G D s) (opx G D sh) (nP G) else -1) := by
    obtain ⟨l, hl⟩ := gN_isC (is := isv G D s) (op := opx G D sh) (w := G 9 s) (n := nP G) (by omega) (by have := (hG.2.2.2 s).2.2.2.1.2; lia)
    exact (cho_u hl).symm
  unfold n_goesTo
  refine lp_for (nP G) (fun j => (gN (isv G D s) (opx G D sh) j, nn j)) (fun j k hj => ?_) (fun k => ?_) 0 5000 (by omega) (by omega)
  · simp only [n_goesTo_4, n_goesTo_40, n_goesTo_44, n_goesTo_45]
    simp (disch := omega) only [e1, nn_le, u_isOpen h (k := j) (by omega), cp_s, nn_s, ib_0]
    rw [if_neg (by omega)]
    rw [show gN (isv G D s) (opx G D sh) (j + 1) = if opx G D sh j = true ∧ (gN (isv G D s) (opx G D sh) j = -1 ∨ isv G D s j < isv G D s (gN (isv G D s) (opx G D sh) j).toNatClampNeg) then nn j else gN (isv G D s) (opx G D sh) j from rfl]
    by_cases a : opx G D sh j = false
    · rw [if_pos a, if_neg (fun z => by rw [a] at z; exact absurd z.1 (by decide))]
    · have a' : opx G D sh j = true := by simpa using a
      rw [if_neg a]
      rcases gN_c (isv G D s) (opx G D sh) j (by omega) with ⟨e, _⟩ | ⟨i, hi, e, _, _⟩
      · rw [if_pos e, if_pos ⟨a', Or.inl e⟩]
      · rw [e, if_neg (nn_m1 (by omega))]
        simp (disch := omega) only [u_isTo h hs hj, u_isTo h hs (show i < nP G by omega), cp_s, nn_c]
        by_cases b : isv G D s i ≤ isv G D s j
        · rw [if_pos b, if_neg]
          rintro ⟨_, z | z⟩
          · exact absurd z (nn_m1 (by omega))
          · lia
        · rw [if_neg b, if_pos ⟨a', Or.inr (by lia)⟩]
  · simp only [n_goesTo_4, n_goesTo_72]
    simp (disch := omega) only [e1, nn_le]
    rw [if_pos (by omega), hch]
    rcases gN_c (isv G D s) (opx G D sh) (nP G) (by omega) with ⟨e, _⟩ | ⟨i, hi, e, _, _⟩
    · rw [if_pos e, if_pos e]
    · rw [e, if_neg (nn_m1 (by omega)), if_neg (nn_m1 (by omega))]
      simp (disch := omega) only [u_isTo h hs hi, t3, cp_s, nn_c]
      split <;> rfl
theorem u_spareOf {G D T : gx_S} (h : pU G D (-1) T) {s : Nat} (hs : s < nS G) : n_spareOf (nn s) T = some (spa G D s) := by
  have hS := (wG_S h.1).2
  have hP := (wG_P h.1).2
  have t3 : n_told (nn s) 3 T = some (G 9 s) := u_told h.2.2.1 (i := 3) (by omega) (by omega)
  unfold n_spareOf spa
  rw [u_goesTo h hs, cp_s]
  rcases cho_n G D s (-1) with e | ⟨i, hi, e, _⟩
  · rw [if_pos e, if_pos e]
  · rw [e, if_neg (nn_m1 (by omega)), if_neg (nn_m1 (by omega))]
    simp (disch := omega) only [nn_c, t3, u_isTo h hs hi, cp_s]
/-- how many a shop sells to -/
def sl (G D : gx_S) (k : Nat) : Int32 := sm (fun s => if cho G D s (-1) = nn k then G 7 s else 0) (nS G)
theorem tot_sl {G D : gx_S} (hG : wG G) (g : Nat → Int32) : tot G D g = sm (fun k => sl G D k * g k) (nP G) := by
  have hP := (wG_P hG).2
  have e : ∀ s, sx G D g s = sm (fun k => (if cho G D s (-1) = nn k then G 7 s else 0) * g k) (nP G) := fun s => by
    rw [sx_d]
    rcases cho_n G D s (-1) with e | ⟨i, hi, e, _⟩
    · rw [if_pos e, sm_cg (g := fun _ => 0) (fun k hk => ?_), sm_0]
      rw [e, if_neg (fun z => nn_m1 (by omega) z.symm), Int32.zero_mul]
    · rw [e, if_neg (nn_m1 (by omega)), nn_c (by omega), sm_cg (g := fun k => if k = i then G 7 s * g k else 0) (fun k hk => ?_), sm_one, if_pos hi]
      by_cases z : k = i
      · subst z; rw [if_pos rfl, if_pos rfl]
      · rw [if_neg z, if_neg (by rw [nn_eq (by omega) (by omega)]; omega), Int32.zero_mul]
  unfold tot
  rw [show sx G D g = fun s => sm (fun k => (if cho G D s (-1) = nn k then G 7 s else 0) * g k) (nP G) from funext e]
  rw [sm_swap]
  refine sm_cg (fun k hk => ?_)
  unfold sl
  rw [← sm_mul]
/-- all but soldNow is as it was -/
def f15 (S T : gx_S) : Prop := ∀ q j, q ≠ 15 → T q j = S q j
theorem pU_f {G D S T : gx_S} {sh : Int32} (h : pU G D sh S) (f : ∀ q j, (q < 9 ∧ (q ≠ 0 ∨ j = 0 ∨ j = 4 ∨ j = 9 ∨ j = 23)) → T q j = S q j) : pU G D sh T := by
  obtain ⟨hG, h0, ⟨⟨a1, a2, a3⟩, b, c, d⟩, hd, e⟩ := h
  refine ⟨hG, h0, ⟨⟨?_, ?_, ?_⟩, fun o ho => ?_, fun k hk => ?_, fun s i hs hi => ?_⟩, fun j hj => ?_, ?_⟩
  · rw [f _ _ (by omega)]; exact a1
  · rw [f _ _ (by omega)]; exact a2
  · rw [f _ _ (by omega)]; exact a3
  · rw [f _ _ (by omega), f _ _ (by omega)]; exact b o ho
  · rw [f _ _ (by omega), f _ _ (by omega)]; exact c k hk
  · rw [f _ _ (by omega)]; exact d s i hs hi
  · rw [f _ _ (by omega), f _ _ (by omega), f _ _ (by omega)]; exact hd j hj
  · rw [f _ _ (by omega)]; exact e
theorem pU_15 {G D S T : gx_S} {sh : Int32} (h : pU G D sh S) (f : f15 S T) : pU G D sh T := pU_f h (fun q j hq => f q j (by omega))
def all (G D : gx_S) : Int32 := sm (fun s => if cho G D s (-1) = -1 then 0 else G 7 s) (nS G)
theorem u_laySold {G D S : gx_S} (h : pU G D (-1) S) : gt (n_laySold S) fun t => t.1 = all G D ∧ f15 S t.2 ∧ ∀ k, k < nP G → t.2 15 k = sl G D k := by
  have hG := h.1
  obtain ⟨eP, hP⟩ := wG_P hG
  obtain ⟨eS, hS⟩ := wG_S hG
  have hu := h.2.2.1
  unfold n_laySold
  refine gt_for (nP G) (fun j t => t.1 = nn j ∧ f15 S t.2 ∧ ∀ i, i < j → t.2 15 i = 0) ?_ ?_ 0 5000 _ (by omega) ⟨rfl, fun _ _ _ => rfl, fun i hi => absurd hi (by omega)⟩ (by omega)
  · rintro j ⟨x, T⟩ k hj ⟨rfl, f, g⟩ hk
    simp only at f g
    simp only [n_laySold_2]
    have e1 : T 0 4 = nn (nP G) := by rw [f _ _ (by omega), hu.1.2.1, eP]
    simp (disch := omega) only [e1, nn_le, nn_c, ck_n, let_s, nn_s]
    rw [if_neg (by omega)]
    refine hk _ ⟨rfl, fun q i hq => ?_, fun i hi => ?_⟩
    · simp only
      rw [gx_st_q _ _ _ _ hq]; exact f q i hq
    · simp only
      by_cases z : i = j
      · subst z; rw [gx_st_eq]
      · rw [gx_st_j _ _ _ z]; exact g i (by omega)
  · rintro ⟨x, T⟩ k ⟨rfl, f, g⟩
    simp only at f g
    simp only [n_laySold_2]
    have e1 : T 0 4 = nn (nP G) := by rw [f _ _ (by omega), hu.1.2.1, eP]
    simp (disch := omega) only [e1, nn_le]
    rw [if_pos (by omega)]
    clear k
    refine gt_for (nS G) (fun s t => t.1 = sm (fun s => if cho G D s (-1) = -1 then 0 else G 7 s) s ∧ t.2.1 = nn s ∧ f15 S t.2.2 ∧ ∀ i, i < nP G → t.2.2 15 i = sm (fun s => if cho G D s (-1) = nn i then G 7 s else 0) s) ?_ ?_ 0 5000 _ (by omega) ?_ (by omega)
    · rintro s ⟨x1, x2, T⟩ k hs ⟨rfl, rfl, f, g⟩ hk
      simp only at f g
      simp only [n_laySold_27, n_laySold_70]
      have p := pU_15 h f
      have e1 : T 0 9 = nn (nS G) := by rw [f _ _ (by omega), hu.1.2.2, eS]
      have t1 : n_told (nn s) 1 T = some (G 7 s) := u_told p.2.2.1 (i := 1) (by omega) (by omega)
      simp (disch := omega) only [e1, nn_le, u_goesTo p hs, cp_s, nn_s, t1]
      rw [if_neg (by omega)]
      rcases cho_n G D s (-1) with e | ⟨i, hi, e, _⟩
      · rw [if_pos e]
        refine hk _ ⟨?_, rfl, f, fun i hi => ?_⟩
        · show _ = sm _ s + (if cho G D s (-1) = -1 then 0 else G 7 s)
          rw [if_pos e, Int32.add_zero]
        · show _ = sm _ s + (if cho G D s (-1) = nn i then G 7 s else 0)
          rw [e, if_neg (fun z => nn_m1 (by omega) z.symm), Int32.add_zero]
          exact g i hi
      · rw [e, if_neg (nn_m1 (by omega))]
        have fT : f15 S (gx_st T 15 i (T 15 i + G 7 s)) := fun q j hq => by rw [gx_st_q _ _ _ _ hq]; exact f q j hq
        have t1' : n_told (nn s) 1 (gx_st T 15 i (T 15 i + G 7 s)) = some (G 7 s) := u_told (pU_15 h fT).2.2.1 (i := 1) (by omega) (by omega)
        simp (disch := omega) only [ck_n, nn_c, let_s, t1', cp_s]
        refine hk _ ⟨?_, rfl, fT, fun j hj => ?_⟩
        · show _ = sm _ s + (if cho G D s (-1) = -1 then 0 else G 7 s)
          rw [e, if_neg (nn_m1 (by omega))]
        · show _ = sm _ s + (if cho G D s (-1) = nn j then G 7 s else 0)
          rw [e]
          by_cases z : j = i
          · subst z
            rw [if_pos rfl]
            simp only
            rw [gx_st_eq, g j hj]
          · rw [if_neg (by rw [nn_eq (by omega) (by omega)]; omega), Int32.add_zero]
            simp only
            rw [gx_st_j _ _ _ z]; exact g j hj
    · rintro ⟨x1, x2, T⟩ k ⟨rfl, rfl, f, g⟩
      simp only at f g
      simp only [n_laySold_27]
      have e1 : T 0 9 = nn (nS G) := by rw [f _ _ (by omega), hu.1.2.2, eS]
      simp (disch := omega) only [e1, nn_le]
      rw [if_pos (by omega)]
      exact gt_some ⟨rfl, f, g⟩
    · exact ⟨rfl, rfl, f, g⟩
theorem u_profitOf {G D S : gx_S} (h : pU G D (-1) S) {o : Nat} (ho : o < 6) : gt (n_profitOf (nn o) S) fun t => t.1 = pro G D o ∧ f15 S t.2 := by
  have hG := h.1
  obtain ⟨eP, hP⟩ := wG_P hG
  unfold n_profitOf
  refine gt_cs (u_laySold h) (fun a T hT => ?_)
  obtain ⟨_, f, g⟩ := hT
  simp only at f g
  have p := pU_15 h f
  have hu := p.2.2.1
  have e1 : T 0 4 = nn (nP G) := by rw [hu.1.2.1, eP]
  have el : gx_loop (n_profitOf_9 (nn o) T) 5000 (0, 0) = some (sm (fun k => sl G D k * gPr G D o k) (nP G), T) := by
    refine lp_for (nP G) (fun j => (sm (fun k => sl G D k * gPr G D o k) j, nn j)) (fun j k hj => ?_) (fun k => ?_) 0 5000 (by omega) (by omega)
    · simp only [n_profitOf_9, n_profitOf_43, n_profitOf_80, n_profitOf_86]
      obtain ⟨d1, d2, d3⟩ := p.2.2.2.1 j (by omega)
      obtain ⟨s1, s2⟩ := hu.2.2.1 j (by omega)
      obtain ⟨s3, s4⟩ := hu.2.1 o ho
      simp (disch := omega) only [e1, nn_le, nn_c, ck_n, nn_s, d1, d2, s2, s3, s4, g j hj]
      rw [if_neg (by omega)]
      rw [show sm (fun k => sl G D k * gPr G D o k) (j + 1) = sm (fun k => sl G D k * gPr G D o k) j + sl G D j * gPr G D o j from rfl]
      have hc := (hG.2.2.1 j).2.1
      have g1 : D 2 j = nn o → gPr G D o j = D 1 j - co G o j := fun q => if_pos q
      have g0 : ¬ D 2 j = nn o → gPr G D o j = 0 := fun q => if_neg q
      have c3 : G 2 o = 3 → co G o j = if 0 ≤ G 5 j - G 3 o then G 5 j - G 3 o else 0 := fun y => by
        unfold co
        rw [if_pos y]
        by_cases z : 0 ≤ G 5 j - G 3 o
        · rw [if_pos z]
          by_cases z2 : 0 < G 5 j - G 3 o
          · rw [if_pos z2]
          · rw [if_neg z2]; lia
        · rw [if_neg z, if_neg (by lia)]
      have c0 : ¬ G 2 o = 3 → co G o j = G 5 j := fun y => if_neg y
      by_cases y : G 2 o = 3
      · rw [if_pos y]
        by_cases q : D 2 j = nn o
        · rw [if_pos q, g1 q, c3 y]
          split <;> rfl
        · rw [if_neg q, g0 q, Int32.mul_zero]
      · rw [if_neg y]
        by_cases q : D 2 j = nn o
        · rw [if_pos q, g1 q, c0 y, Int32.sub_zero, if_pos hc]
        · rw [if_neg q, g0 q, Int32.mul_zero]
    · simp only [n_profitOf_9]
      simp (disch := omega) only [e1, nn_le]
      rw [if_pos (by omega)]
  rw [el]
  exact gt_some ⟨(tot_sl hG _).symm, f⟩


/-! b19: the reference: markets, sold off, from -/
theorem mb_cg {p p' : Nat → Bool} : ∀ {n : Nat}, (∀ k, k < n → p k = p' k) → mb p n = mb p' n
  | 0, _ => rfl
  | n + 1, h => by
    show mb p n + (if p n then 2 ^ n else 0) = mb p' n + (if p' n then 2 ^ n else 0)
    rw [mb_cg (fun k hk => h k (by omega)), h n (by omega)]
theorem opx_m1 {G D : gx_S} {k : Nat} (hk : k < 6) : opx G D (-1) k = opn G D k := by
  unfold opx
  have : ¬ nn k = -1 := nn_m1 (by omega)
  simp [this]
theorem u_openSet {G D T : gx_S} (h : pU G D (-1) T) : n_openSet T = some (nn (mb (opn G D) (nP G))) := by
  obtain ⟨eP, hP⟩ := wG_P h.1
  have e1 : T 0 4 = nn (nP G) := by rw [h.2.2.1.1.2.1, eP]
  unfold n_openSet
  refine lp_for (nP G) (fun j => (nn (mb (opn G D) j), nn j)) (fun j k hj => ?_) (fun k => ?_) 0 5000 (by omega) (by omega)
  · simp only [n_openSet_4, n_openSet_28]
    simp (disch := omega) only [e1, nn_le, u_isOpen h (k := j) (by omega), cp_s, nn_s, ib_0, opx_m1 (G := G) (D := D) (k := j)]
    rw [if_neg (by omega)]
    by_cases q : opn G D j = true
    · rw [if_neg (by simp [q]), mb_or _ (by omega) q]
    · rw [if_pos (by simpa using q), mb_no _ q, Int32.or_zero]
  · simp only [n_openSet_4]
    simp (disch := omega) only [e1, nn_le]
    rw [if_pos (by omega)]
theorem u_profitOfSet {G D S : gx_S} (h : pU G D (-1) S) {m : Nat} (hm : m < 64) : gt (n_profitOfSet (nn m) S) fun t => t.1 = tot G D (gMa G D (nn m)) ∧ f15 S t.2 := by
  have hG := h.1
  obtain ⟨eP, hP⟩ := wG_P hG
  unfold n_profitOfSet
  refine gt_cs (u_laySold h) (fun a T hT => ?_)
  obtain ⟨_, f, g⟩ := hT
  simp only at f g
  have p := pU_15 h f
  have hu := p.2.2.1
  have e1 : T 0 4 = nn (nP G) := by rw [hu.1.2.1, eP]
  have el : gx_loop (n_profitOfSet_9 (nn m) T) 5000 (0, 0) = some (sm (fun k => sl G D k * gMa G D (nn m) k) (nP G), T) := by
    refine lp_for (nP G) (fun j => (sm (fun k => sl G D k * gMa G D (nn m) k) j, nn j)) (fun j k hj => ?_) (fun k => ?_) 0 5000 (by omega) (by omega)
    · simp only [n_profitOfSet_9, n_profitOfSet_51]
      obtain ⟨d1, d2, d3⟩ := p.2.2.2.1 j (by omega)
      obtain ⟨s1, s2⟩ := hu.2.2.1 j (by omega)
      simp (disch := omega) only [e1, nn_le, nn_c, ck_n, nn_s, d1, s2, g j hj]
      rw [if_neg (by omega)]
      rw [show sm (fun k => sl G D k * gMa G D (nn m) k) (j + 1) = sm (fun k => sl G D k * gMa G D (nn m) k) j + sl G D j * gMa G D (nn m) j from rfl]
      have g1 : (nn m >>> (nn j &&& 31)) &&& 1 = 1 → gMa G D (nn m) j = D 1 j - G 5 j := fun q => if_pos q
      have g0 : ¬ (nn m >>> (nn j &&& 31)) &&& 1 = 1 → gMa G D (nn m) j = 0 := fun q => if_neg q
      by_cases q : (nn m >>> (nn j &&& 31)) &&& 1 = 1
      · rw [if_pos q, g1 q]
      · rw [if_neg q, g0 q, Int32.mul_zero]
    · simp only [n_profitOfSet_9]
      simp (disch := omega) only [e1, nn_le]
      rw [if_pos (by omega)]
  rw [el]
  exact gt_some ⟨(tot_sl hG _).symm, f⟩
theorem u_pays {G D S : gx_S} (h : pU G D (-1) S) (hw : wD G D) {m k : Nat} (hm : m < 64) (hk : k ≤ 5) : gt (n_pays (nn m) (nn k) S) fun t => t.1 = wpv G D m k ∧ fM S t.2 ∧ pU G D (-1) t.2 := by
  have hG := h.1
  obtain ⟨eP, hP⟩ := wG_P hG
  unfold n_pays
  refine gt_cs (u_profitOfSet h hm) (fun a T0 hT0 => ?_)
  obtain ⟨ea, f0⟩ := hT0
  simp only at ea f0
  have p0 := pU_15 h f0
  have hu := p0.2.2.1
  have hd := p0.2.2.2.1
  have u1 : ∀ j, j < nP G → up G D m k 1 j = if m.testBit j = true then (if D 1 j + nn k ≤ 9 then D 1 j + nn k else 9) else D 1 j := fun j hj => by
    have hD := bw_i (hw.1 j (by omega)).1
    have c0 : (0 : Int32).toInt = 0 := by decide
    have c9 : (9 : Int32).toInt = 9 := by decide
    rw [c0, c9] at hD
    have es : (D 1 j + nn k).toInt = (D 1 j).toInt + k := by rw [ti_add (by rw [nn_i (by omega)]; omega) (by rw [nn_i (by omega)]; omega), nn_i (by omega)]
    unfold up
    by_cases q : m.testBit j = true
    · rw [if_pos ⟨rfl, hj, q⟩, if_pos q]
      by_cases y : D 1 j + nn k < 9
      · rw [if_pos y, if_pos (by lia)]
      · rw [if_neg y]
        by_cases z : D 1 j + nn k ≤ 9
        · rw [if_pos z]; lia
        · rw [if_neg z]
    · rw [if_neg (fun z => q z.2.2), if_neg q]
  have u1n : ∀ j, ¬ j < nP G → up G D m k 1 j = D 1 j := fun j hj => by
    unfold up
    rw [if_neg (fun z => hj z.2.1)]
  have u2 : ∀ j, up G D m k 2 j = D 2 j := fun j => by simp [up]
  have u3 : ∀ j, up G D m k 3 j = D 3 j := fun j => by simp [up]
  refine gt_for (nP G) (fun j t => t.1 = nn j ∧ (∀ q i, q ≠ 7 → q ≠ 17 → t.2 q i = T0 q i) ∧ (∀ i, i < 6 → t.2 7 i = if i < j then up G D m k 1 i else D 1 i) ∧ ∀ i, i < j → t.2 17 i = D 1 i) ?_ ?_ 0 5000 _ (by omega) ?_ (by omega)
  · rintro j ⟨_, T⟩ kk hj ⟨rfl, f, g, g2⟩ hkk
    simp only at f g g2
    simp only [n_pays_9, n_pays_82]
    have e1 : T 0 4 = nn (nP G) := by rw [f _ _ (by omega) (by omega), hu.1.2.1, eP]
    have e7 : T 7 j = D 1 j := by rw [g j (by omega), if_neg (by omega)]
    have hb := fb_bi m hm j (by omega)
    unfold bi at hb
    simp (disch := omega) only [e1, nn_le, nn_c, ck_n, let_s, nn_s, e7, hb, gx_st_q]
    rw [if_neg (by omega)]
    have nx : ∀ y, y = up G D m k 1 j → gt (kk (nn (j + 1), gx_st (gx_st T 17 j (D 1 j)) 7 j y)) fun t => t.1 = wpv G D m k ∧ fM S t.2 ∧ pU G D (-1) t.2 := fun y hy => by
      refine hkk _ ⟨rfl, fun q i h1 h2 => ?_, fun i hi => ?_, fun i hi => ?_⟩
      · simp only
        rw [gx_st_q _ _ _ _ h1, gx_st_q _ _ _ _ h2]; exact f q i h1 h2
      · simp only
        by_cases z : i = j
        · subst z; rw [gx_st_eq, if_pos (by omega)]; exact hy
        · rw [gx_st_j _ _ _ z, gx_st_q _ _ _ _ (by omega), g i hi]
          by_cases y : i < j
          · rw [if_pos y, if_pos (by omega)]
          · rw [if_neg y, if_neg (by omega)]
      · simp only
        rw [gx_st_q _ _ _ _ (by omega)]
        by_cases z : i = j
        · subst z; rw [gx_st_eq]
        · rw [gx_st_j _ _ _ z]; exact g2 i (by omega)
    by_cases q : m.testBit j = true
    · simp only [q, ↓reduceIte]
      rw [if_neg (by decide)]
      have := u1 j hj
      rw [if_pos q] at this
      by_cases y : D 1 j + nn k ≤ 9
      · rw [if_pos y] at this ⊢
        exact nx _ this.symm
      · rw [if_neg y] at this ⊢
        exact nx _ this.symm
    · simp only [q]
      rw [if_pos (by decide)]
      have := u1 j hj
      rw [if_neg q] at this
      exact nx _ this.symm
  · rintro ⟨_, T⟩ kk ⟨rfl, f, g, g2⟩
    simp only at f g g2
    simp only [n_pays_9]
    have e1 : T 0 4 = nn (nP G) := by rw [f _ _ (by omega) (by omega), hu.1.2.1, eP]
    simp (disch := omega) only [e1, nn_le]
    rw [if_pos (by omega)]
    have mT : fM S T := fun q j a1 a2 a3 a4 a5 => by rw [f q j a3 (by omega)]; exact f0 q j (by omega)
    have dT : uD (up G D m k) T := fun j hj => by
      obtain ⟨a1, a2, a3⟩ := hd j hj
      refine ⟨?_, by rw [f _ _ (by omega) (by omega), u2]; exact a2, by rw [f _ _ (by omega) (by omega), u3]; exact a3⟩
      rw [g j hj]
      by_cases y : j < nP G
      · rw [if_pos y]
      · rw [if_neg y, u1n j y]
    have pT : pU G (up G D m k) (-1) T := pU_M h mT (fun j hj => by rw [u2]; exact wD_0 hw j hj) dT
    refine gt_cs (u_profitOfSet pT hm) (fun b U hU => ?_)
    obtain ⟨eb, fU⟩ := hU
    simp only at eb fU
    refine gt_for (nP G) (fun j t => t.1 = nn j ∧ (∀ q i, q ≠ 7 → t.2 q i = U q i) ∧ ∀ i, i < 6 → t.2 7 i = if i < j then D 1 i else up G D m k 1 i) ?_ ?_ 0 5000 _ (by omega) ?_ (by omega)
    · rintro j ⟨_, V⟩ kk hj ⟨rfl, fv, gv2⟩ hkk
      simp only at fv gv2
      simp only [n_pays_99]
      have e1 : V 0 4 = nn (nP G) := by rw [fv _ _ (by omega), fU _ _ (by omega), f _ _ (by omega) (by omega), hu.1.2.1, eP]
      have e17 : V 17 j = D 1 j := by rw [fv _ _ (by omega), fU _ _ (by omega)]; exact g2 j hj
      simp (disch := omega) only [e1, nn_le, nn_c, ck_n, let_s, nn_s, e17]
      rw [if_neg (by omega)]
      refine hkk _ ⟨rfl, fun q i hq => ?_, fun i hi => ?_⟩
      · simp only
        rw [gx_st_q _ _ _ _ hq]; exact fv q i hq
      · simp only
        by_cases z : i = j
        · subst z; rw [gx_st_eq, if_pos (by omega)]
        · rw [gx_st_j _ _ _ z, gv2 i hi]
          by_cases y : i < j
          · rw [if_pos y, if_pos (by omega)]
          · rw [if_neg y, if_neg (by omega)]
    · rintro ⟨_, V⟩ kk ⟨rfl, fv, gv2⟩
      simp only at fv gv2
      simp only [n_pays_99]
      have e1 : V 0 4 = nn (nP G) := by rw [fv _ _ (by omega), fU _ _ (by omega), f _ _ (by omega) (by omega), hu.1.2.1, eP]
      simp (disch := omega) only [e1, nn_le]
      rw [if_pos (by omega), ea, eb]
      have mV : fM S V := fun q j a1 a2 a3 a4 a5 => by rw [fv q j a3, fU q j (by omega)]; exact mT q j a1 a2 a3 a4 a5
      have dV : uD D V := fun j hj => by
        obtain ⟨a1, a2, a3⟩ := hd j hj
        refine ⟨?_, by rw [fv _ _ (by omega), fU _ _ (by omega), f _ _ (by omega) (by omega)]; exact a2, by rw [fv _ _ (by omega), fU _ _ (by omega), f _ _ (by omega) (by omega)]; exact a3⟩
        rw [gv2 j hj]
        by_cases y : j < nP G
        · rw [if_pos y]
        · rw [if_neg y]; exact u1n j y
      have pV := pU_M h mV (wD_0 hw) dV
      unfold wpv
      split
      · exact gt_some ⟨rfl, mV, pV⟩
      · exact gt_some ⟨rfl, mV, pV⟩
    · refine ⟨rfl, fun _ _ _ => rfl, fun i hi => ?_⟩
      rw [if_neg (by omega)]
      simp only
      rw [fU _ _ (by omega), g i hi]
      by_cases y : i < nP G
      · rw [if_pos y]
      · rw [if_neg y, u1n i y]
  · exact ⟨rfl, fun _ _ _ _ => rfl, fun i hi => by rw [if_neg (by omega)]; exact (hd i hi).1, fun i hi => absurd hi (by omega)⟩
theorem lsm_y {ok : Nat → Prop} {x : Nat} {r : Int32} (hx : x < 2147483648) (h : lsm ok x r) (ho : ok x) (hb : r = -1 ∨ pc x < pc r.toNatClampNeg) : lsm ok (x + 1) (nn x) := by
  refine Or.inr ⟨x, by omega, rfl, ho, fun m' hm' ho' => ?_⟩
  rcases Nat.lt_or_ge m' x with y | y
  · rcases h with ⟨_, a⟩ | ⟨m, h1, e, h2, a⟩
    · exact absurd ho' (a m' y)
    · have := a m' y ho'
      rcases hb with z | z
      · exact absurd (e.symm.trans z) (nn_m1 (by omega))
      · rw [e, nn_c (by omega)] at z
        exact ⟨by omega, fun w => by omega⟩
  · have : m' = x := by omega
    subst this
    exact ⟨Nat.le_refl _, fun _ => Nat.le_refl _⟩
theorem lsm_n {ok : Nat → Prop} {x : Nat} {r : Int32} (hx : x < 2147483648) (h : lsm ok x r) (hb : ¬ (ok x ∧ (r = -1 ∨ pc x < pc r.toNatClampNeg))) : lsm ok (x + 1) r := by
  rcases h with ⟨e, a⟩ | ⟨m, h1, e, h2, a⟩
  · refine Or.inl ⟨e, fun m hm ho => ?_⟩
    rcases Nat.lt_or_ge m x with y | y
    · exact a m y ho
    · have : m = x := by omega
      subst this
      exact hb ⟨ho, Or.inl e⟩
  · refine Or.inr ⟨m, by omega, e, h2, fun m' hm' ho' => ?_⟩
    rcases Nat.lt_or_ge m' x with y | y
    · exact a m' y ho'
    · have : m' = x := by omega
      subst this
      have : ¬ pc m' < pc m := fun z => hb ⟨ho', Or.inr (by rw [e, nn_c (by omega)]; exact z)⟩
      exact ⟨by omega, fun _ => by omega⟩
theorem lsm_b {ok : Nat → Prop} {x : Nat} {r : Int32} (h : lsm ok x r) : r = -1 ∨ ∃ m, m < x ∧ r = nn m := by
  rcases h with ⟨e, _⟩ | ⟨m, h1, e, _⟩
  · exact Or.inl e
  · exact Or.inr ⟨m, h1, e⟩
theorem u_leastMarket {G D S : gx_S} (h : pU G D (-1) S) (hw : wD G D) {i k : Nat} (hi : i < 6) (hk : k ≤ 5) : gt (n_leastMarket (nn i) (nn k) S) fun t => lsm (okM G D i k) (2 ^ nP G) t.1 ∧ fM S t.2 ∧ pU G D (-1) t.2 := by
  have hG := h.1
  obtain ⟨eP, hP⟩ := wG_P hG
  have hN := p64 (nP G) (by omega)
  have hop := mb_64 (opn G D) hP
  unfold n_leastMarket
  rw [u_openSet h, cp_s]
  have hN0 : 0 < 2 ^ nP G := Nat.pow_pos (by decide)
  obtain ⟨N, hNe⟩ : ∃ N, N = 2 ^ nP G := ⟨_, rfl⟩
  have main : gt (gx_loop (n_leastMarket_11 (nn i) (nn k) (nn (mb (opn G D) (nP G)))) 5000 ((-1), nn 1, S)) fun t => lsm (okM G D i k) N t.1 ∧ fM S t.2 ∧ pU G D (-1) t.2 := by
    refine gt_for N (fun x t => lsm (okM G D i k) x t.1 ∧ t.2.1 = nn x ∧ fM S t.2.2 ∧ pU G D (-1) t.2.2) ?_ ?_ 1 5000 _ (by omega) ?_ (by omega)
    · rintro x ⟨x4, _, T⟩ kk hx ⟨l, rfl, f, p⟩ hkk
      simp only at l f p
      simp only [n_leastMarket_11]
      have e1 : T 0 4 = nn (nP G) := by rw [p.2.2.1.1.2.1, eP]
      rw [e1, fb_1b _ (by omega), ← hNe]
      have hb := fb_bi x (by omega) i hi
      unfold bi at hb
      have hs := fb_sub x (by omega) _ hop
      have hpx : pc x ≤ 6 := cn_le6 x
      have no : ∀ U, fM S U → pU G D (-1) U → ¬ (okM G D i k x ∧ (x4 = -1 ∨ pc x < pc x4.toNatClampNeg)) → gt (kk (x4, nn (x + 1), U)) fun t => lsm (okM G D i k) N t.1 ∧ fM S t.2 ∧ pU G D (-1) t.2 := fun U fU pU' hn => hkk _ ⟨lsm_n (by omega) l hn, rfl, fU, pU'⟩
      have yes : (x4 = -1 ∨ pc x < pc x4.toNatClampNeg) → x &&& mb (opn G D) (nP G) = x → x.testBit i = true → gt (n_leastMarket_65 kk (nn i) (nn k) (nn (mb (opn G D) (nP G))) x4 (nn x) 1 T) fun t => lsm (okM G D i k) N t.1 ∧ fM S t.2 ∧ pU G D (-1) t.2 := fun hbest h1 h2 => by
        unfold n_leastMarket_65
        rw [if_neg (by decide)]
        refine gt_cs (u_pays p hw (by omega) hk) (fun a U hU => ?_)
        obtain ⟨ua, ub, uc⟩ := hU
        simp only at ua ub uc
        rw [ua]
        rcases wpv_01 G D x k with y | y
        · rw [if_pos y]
          simp only [n_leastMarket_87, n_leastMarket_89, nn_s]
          exact no U (fM_t f ub) uc (fun z => absurd (y.symm.trans z.1.2.2) (by decide))
        · rw [y, if_neg (by decide)]
          simp only [n_leastMarket_89, nn_s]
          exact hkk _ ⟨lsm_y (by omega) l ⟨h1, h2, y⟩ hbest, rfl, fM_t f ub, uc⟩
      have n64 : ¬ (okM G D i k x ∧ (x4 = -1 ∨ pc x < pc x4.toNatClampNeg)) → gt (n_leastMarket_64 kk (nn i) (nn k) (nn (mb (opn G D) (nP G))) x4 (nn x) T) fun t => lsm (okM G D i k) N t.1 ∧ fM S t.2 ∧ pU G D (-1) t.2 := fun hn => by
        simp only [n_leastMarket_64, n_leastMarket_65, n_leastMarket_87, n_leastMarket_89, nn_s]
        rw [if_pos trivial]
        exact no T f p hn
      simp (disch := omega) only [nn_le]
      rw [if_neg (by omega)]
      by_cases q1 : x &&& mb (opn G D) (nP G) = x
      · rw [if_pos (hs.mpr q1), hb]
        by_cases q2 : x.testBit i = true
        · simp only [q2, ↓reduceIte]
          rcases lsm_b l with e | ⟨y, hy, e⟩
          · rw [if_pos e]
            unfold n_leastMarket_60
            exact yes (Or.inl e) q1 q2
          · have hpy : pc y ≤ 6 := cn_le6 y
            subst e
            rw [if_neg (nn_m1 (by omega)), u_ones (by omega), u_ones (by omega), cp_s, cp_s]
            simp (disch := omega) only [nn_le]
            by_cases z : pc y ≤ pc x
            · rw [if_pos z]
              refine n64 (fun w => ?_)
              rcases w.2 with w | w
              · exact nn_m1 (by omega) w
              · rw [nn_c (by omega)] at w; omega
            · rw [if_neg z]
              unfold n_leastMarket_60
              exact yes (Or.inr (by rw [nn_c (by omega)]; omega)) q1 q2
        · simp only [q2]
          rw [if_neg (by decide)]
          exact n64 (fun w => q2 w.1.2.1)
      · rw [if_neg (fun z => q1 (hs.mp z))]
        exact n64 (fun w => q1 w.1.1)
    · rintro ⟨x4, _, T⟩ kk ⟨l, rfl, f, p⟩
      simp only at l f p
      simp only [n_leastMarket_11]
      have e1 : T 0 4 = nn (nP G) := by rw [p.2.2.1.1.2.1, eP]
      rw [e1, fb_1b _ (by omega), ← hNe, if_pos (Int32.le_refl _)]
      exact gt_some ⟨l, f, p⟩
    · refine ⟨Or.inl ⟨rfl, fun m hm ho => ?_⟩, rfl, fM_r S, h⟩
      have := (fb_has m (by omega) i hi ho.2.1).2
      have : m = 0 := by omega
      subst this
      exact absurd ho.2.1 (by simp)
  rw [← hNe]
  exact main

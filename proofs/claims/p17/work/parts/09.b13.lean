/-! b13: markets; sold off -/
def fX (S T : gx_S) : Prop := ∀ q j, (q < 25 ∨ (28 < q ∧ q < 33) ∨ 64 < q) → T q j = S q j
theorem fX_r (S : gx_S) : fX S S := fun _ _ _ => rfl
theorem fX_t {S T U : gx_S} (h : fX S T) (h' : fX T U) : fX S U := fun q j hq => (h' q j hq).trans (h q j hq)
theorem fJ_X {S T : gx_S} (h : fJ S T) : fX S T := fun q j hq => h q j (by omega)
theorem fK_X {S T : gx_S} (h : fK S T) : fX S T := fJ_X (fK_J h)
theorem fB_X {S T : gx_S} (h : fB S T) : fX S T := fun q j hq => h q j (by omega)
theorem pX_X {G D S T : gx_S} (h : pX 0 G D S) (f : fX S T) : pX 0 G D T := ⟨h.1, h.2.1, vG_f h.2.2.1 (wG_S h.1).2 (fun q j hq => f q j (by omega)), vD_f h.2.2.2 (fun q j h1 h2 => f q j (by omega))⟩
def up (G D : gx_S) (m k : Nat) : gx_S := fun i j => if i = 1 ∧ j < nP G ∧ m.testBit j = true then (if D 1 j + nn k < 9 then D 1 j + nn k else 9) else D i j
def wpv (G D : gx_S) (m k : Nat) : Int32 := if tot G (up G D m k) (gMa G (up G D m k) (nn m)) < tot G D (gMa G D (nn m)) then 0 else 1
theorem x_wouldPay {G D S : gx_S} (h : pX 0 G D S) (hw : wD G D) {m k : Nat} (hm : m < 64) : gt (m_ShopsAsOne_wouldPay (nn m) (nn k) S) fun t => t.1 = wpv G D m k ∧ ∀ q j, (q < 26 ∨ 28 < q) → t.2 q j = S q j := by
  have hG := h.1
  obtain ⟨eP, hP⟩ := wG_P hG
  have hS := (wG_S hG).2
  have v := h.2.2.1.1
  have d : ∀ i j, 1 ≤ i → i ≤ 3 → j < 6 → S (21 + 4 * 0 + i) j = D i j := h.2.2.2
  have u2 : ∀ j, up G D m k 2 j = D 2 j := fun j => by simp [up]
  have u3 : ∀ j, up G D m k 3 j = D 3 j := fun j => by simp [up]
  have w0u : w0 (up G D m k) := fun j hj => by rw [u2]; exact wD_0 hw j hj
  unfold m_ShopsAsOne_wouldPay
  refine gt_cp (x_become (r := 1) (r1 := 0) (by omega) hw h.2.2.2) (fun S2 hS2 => ?_)
  obtain ⟨f2, d2⟩ := hS2
  refine gt_for (nP G) (fun j t => t.1 = nn j ∧ (∀ q i, q ≠ 26 → t.2 q i = S2 q i) ∧ ∀ i, i < 6 → t.2 26 i = if i < j then up G D m k 1 i else D 1 i) ?_ ?_ 0 5000 _ (by omega) ?_ (by omega)
  · rintro j ⟨x, T⟩ kk hj ⟨rfl, f, g⟩ hk
    simp only at f g
    simp only [m_ShopsAsOne_wouldPay_13, m_ShopsAsOne_wouldPay_58]
    have e1 : T 1 1 = nn (nP G) := by rw [f _ _ (by omega), f2 _ _ (by omega), v _ _ (by omega) (by omega), eP]
    have e22 : T 22 j = D 1 j := by rw [f _ _ (by omega), f2 _ _ (by omega)]; exact d 1 j (by omega) (by omega) (by omega)
    have hb := fb_bi m hm j (by omega)
    unfold bi at hb
    simp (disch := omega) only [e1, e22, nn_le, nn_c, ck_n, let_s, nn_s, hb]
    rw [if_neg (by omega)]
    by_cases q : m.testBit j = true
    · simp only [q, ↓reduceIte]
      refine hk _ ⟨rfl, fun q i hq => ?_, fun i hi => ?_⟩
      · simp only
        rw [gx_st_q _ _ _ _ hq]; exact f q i hq
      · simp only
        by_cases z : i = j
        · subst z
          have hu : up G D m k 1 i = (if D 1 i + nn k < 9 then D 1 i + nn k else 9) := by simp [up, hj, q]
          rw [gx_st_eq, if_pos (show i < i + 1 by omega)]
          exact hu.symm
        · rw [gx_st_j _ _ _ z, g i hi]
          by_cases y : i < j
          · rw [if_pos y, if_pos (by omega)]
          · rw [if_neg y, if_neg (by omega)]
    · simp only [q]
      rw [if_neg (by decide)]
      refine hk _ ⟨rfl, f, fun i hi => ?_⟩
      simp only
      rw [g i hi]
      by_cases z : i = j
      · subst z
        rw [if_neg (by omega), if_pos (by omega)]
        unfold up
        rw [if_neg (fun z => q z.2.2)]
      · by_cases y : i < j
        · rw [if_pos y, if_pos (by omega)]
        · rw [if_neg y, if_neg (by omega)]
  · rintro ⟨x, T⟩ kk ⟨rfl, f, g⟩
    simp only at f g
    simp only [m_ShopsAsOne_wouldPay_13]
    have e1 : T 1 1 = nn (nP G) := by rw [f _ _ (by omega), f2 _ _ (by omega), v _ _ (by omega) (by omega), eP]
    simp (disch := omega) only [e1, nn_le]
    rw [if_pos (by omega)]
    have fT : ∀ q j, (q < 26 ∨ 28 < q) → T q j = S q j := fun q j hq => (f q j (by omega)).trans (f2 q j (by omega))
    have vT : vG G T := vG_f h.2.2.1 hS (fun q j hq => fT q j (by omega))
    have p0 : pX 0 G D T := ⟨hG, wD_0 hw, vT, vD_f h.2.2.2 (fun q j h1 h2 => fT q j (by omega))⟩
    have p1 : pX 1 G (up G D m k) T := by
      refine ⟨hG, w0u, vT, fun i j h1 h2 h3 => ?_⟩
      match i, h1, h2 with
      | 1, _, _ =>
        show T 26 j = _
        rw [g j h3]
        by_cases y : j < nP G
        · rw [if_pos y]
        · rw [if_neg y]
          unfold up
          rw [if_neg (fun z => y z.2.1)]
      | 2, _, _ => rw [u2, f _ _ (by omega)]; exact d2 2 j (by omega) (by omega) h3
      | 3, _, _ => rw [u3, f _ _ (by omega)]; exact d2 3 j (by omega) (by omega) h3
    rw [x_marginOf p1, x_marginOf p0, cp_s, cp_s]
    unfold wpv
    split
    · exact gt_some ⟨rfl, fT⟩
    · exact gt_some ⟨rfl, fT⟩
  · exact ⟨rfl, fun _ _ _ => rfl, fun i hi => by rw [if_neg (by omega)]; exact d2 1 i (by omega) (by omega) hi⟩
theorem fb_orb : ∀ n, n < 6 → ∀ m, m < 64 → nn m ||| ((1 : Int32) <<< (nn n &&& 31)) = nn (m ||| 2 ^ n) ∧ (m ||| 2 ^ n) < 64 := by decide +kernel
theorem fb_1b : ∀ n, n < 7 → ((1 : Int32) <<< (nn n &&& 31)) = nn (2 ^ n) := by decide +kernel
theorem p64 : ∀ n, n < 7 → 2 ^ n ≤ 64 := by decide
theorem fb_sub : ∀ m, m < 64 → ∀ m', m' < 64 → ((nn m &&& (nn m' ^^^ (-1))) = 0 ↔ m &&& m' = m) := by decide +kernel
theorem fb_has : ∀ m, m < 64 → ∀ k, k < 6 → m.testBit k = true → 2 ^ k ≤ m ∧ 0 < pc m := by decide +kernel
theorem fb_pcn : ∀ n, n < 7 → ∀ m, m < 64 → m < 2 ^ n → pc m ≤ n := by decide +kernel
theorem fb_sle : ∀ m, m < 64 → ∀ m', m' < 64 → m &&& m' = m → m ≤ m' := by decide +kernel
theorem cn_le6 (m : Nat) : pc m ≤ 6 := by
  unfold pc pcn pcn pcn pcn pcn pcn pcn
  repeat' split
  all_goals omega
def nmk (G D : gx_S) (i k : Nat) : Nat → Nat → Int32
  | 0, _ => -1
  | f + 1, m => if wpv G D m k = 0 then (if (nea G D i m (nP G)).1 = -1 then -1 else nmk G D i k f (m ||| 2 ^ (nea G D i m (nP G)).1.toNatClampNeg)) else nn m
theorem nea_n (G D : gx_S) (i m : Nat) : (nea G D i m (nP G)).1 = -1 ∨ ∃ x, x < nP G ∧ (nea G D i m (nP G)).1 = nn x ∧ (opn G D x = true ∧ m.testBit x = false) := by
  rcases chN_isC (fun k => ab (G 4 k - G 4 i)) (fun k => opn G D k && !m.testBit k) 98 (nP G) with ⟨e, _⟩ | ⟨x, h1, e, _, h2, _⟩
  · exact Or.inl e
  · refine Or.inr ⟨x, h1, e, ?_⟩
    simpa using h2
theorem x_nearMarket {G D S : gx_S} (h : pX 0 G D S) (hw : wD G D) {i k : Nat} (hi : i < 6) : gt (m_ShopsAsOne_nearMarket (nn i) (nn k) S) fun t => t.1 = nmk G D i k (nP G) (2 ^ i) ∧ fX S t.2 := by
  have hG := h.1
  obtain ⟨eP, hP⟩ := wG_P hG
  have v := h.2.2.1.1
  unfold m_ShopsAsOne_nearMarket
  rw [fb_1 i hi]
  have h64 : 2 ^ i < 64 := by
    have : ∀ i, i < 6 → 2 ^ i < 64 := by decide
    exact this i hi
  refine gt_for (nP G + 1) (fun j t => t.2.1 = nn j ∧ ∃ m, m < 64 ∧ t.1 = nn m ∧ nmk G D i k (nP G + 1 - j) m = nmk G D i k (nP G) (2 ^ i) ∧ fX S t.2.2) ?_ ?_ 1 5000 _ (by omega) ?_ (by omega)
  · rintro j ⟨x3, x4, T⟩ kk hj ⟨rfl, m, hm, rfl, e, f⟩ hk
    simp only at e f
    simp only [m_ShopsAsOne_nearMarket_7]
    have p := pX_X h f
    have e1 : T 1 1 = nn (nP G) := by rw [p.2.2.1.1 _ _ (by omega) (by omega), eP]
    rw [e1, if_neg (by rw [nn_lt (by omega) (by omega)]; omega)]
    obtain ⟨n, hn⟩ : ∃ n, nP G + 1 - j = n + 1 := ⟨nP G - j, by omega⟩
    rw [hn] at e
    have e' : (if wpv G D m k = 0 then (if (nea G D i m (nP G)).1 = -1 then -1 else nmk G D i k n (m ||| 2 ^ (nea G D i m (nP G)).1.toNatClampNeg)) else nn m) = nmk G D i k (nP G) (2 ^ i) := e
    refine gt_cs (x_wouldPay p hw hm) (fun a U hU => ?_)
    obtain ⟨u1, u2⟩ := hU
    simp only at u1 u2
    have fU : fX S U := fX_t f (fun q j hq => u2 q j (by omega))
    have pU := pX_X h fU
    rw [u1]
    by_cases q : wpv G D m k = 0
    · rw [if_pos q] at e' ⊢
      rw [x_nearestOpen pU hi hm, cp_s]
      rcases nea_n G D i m with y | ⟨x, h1, y, _⟩
      · rw [if_pos y] at e' ⊢
        exact gt_some ⟨e', fU⟩
      · rw [y, if_neg (nn_m1 (by omega)), nn_c (by omega)] at e'
        rw [y, if_neg (nn_m1 (by omega)), (fb_orb x (by omega) m hm).1, nn_s]
        refine hk _ ⟨rfl, _, (fb_orb x (by omega) m hm).2, rfl, ?_, fU⟩
        rw [show nP G + 1 - (j + 1) = n by omega]
        exact e'
    · rw [if_neg q] at e' ⊢
      exact gt_some ⟨e', fU⟩
  · rintro ⟨x3, x4, T⟩ kk ⟨rfl, m, hm, rfl, e, f⟩
    simp only at e f
    simp only [m_ShopsAsOne_nearMarket_7]
    have p := pX_X h f
    have e1 : T 1 1 = nn (nP G) := by rw [p.2.2.1.1 _ _ (by omega) (by omega), eP]
    rw [e1, if_pos (by rw [nn_lt (by omega) (by omega)]; omega)]
    rw [show nP G + 1 - (nP G + 1) = 0 by omega] at e
    exact gt_some ⟨e, f⟩
  · exact ⟨rfl, 2 ^ i, h64, rfl, rfl, fX_r S⟩
/-- one of fewest, of like ones of least bits -/
def lsm (ok : Nat → Prop) (N : Nat) (r : Int32) : Prop := (r = -1 ∧ ∀ m, m < N → ¬ ok m) ∨ ∃ m, m < N ∧ r = nn m ∧ ok m ∧ ∀ m', m' < N → ok m' → pc m ≤ pc m' ∧ (pc m = pc m' → m ≤ m')
theorem lsm_u {ok : Nat → Prop} {N : Nat} {r r' : Int32} (h : lsm ok N r) (h' : lsm ok N r') : r = r' := by
  rcases h with ⟨e, a⟩ | ⟨m, h1, e, h2, a⟩
  · rcases h' with ⟨e', _⟩ | ⟨m', h1', _, h2', _⟩
    · rw [e, e']
    · exact absurd h2' (a m' h1')
  · rcases h' with ⟨_, a'⟩ | ⟨m', h1', e', h2', a'⟩
    · exact absurd h2 (a' m h1)
    · have x := a m' h1' h2'
      have y := a' m h1 h2
      have z : pc m = pc m' := by omega
      have : m = m' := by
        have := x.2 z
        have := y.2 z.symm
        omega
      rw [e, e', this]
def okM (G D : gx_S) (i k m : Nat) : Prop := m &&& mb (opn G D) (nP G) = m ∧ m.testBit i = true ∧ wpv G D m k = 1
theorem wpv_01 (G D : gx_S) (m k : Nat) : wpv G D m k = 0 ∨ wpv G D m k = 1 := by
  unfold wpv
  split
  · exact Or.inl rfl
  · exact Or.inr rfl
theorem x_leastMarket {G D S : gx_S} (h : pX 0 G D S) (hw : wD G D) {i k : Nat} (hi : i < 6) : gt (m_ShopsAsOne_leastMarket (nn i) (nn k) S) fun t => lsm (okM G D i k) (2 ^ nP G) t.1 ∧ fX S t.2 := by
  have hG := h.1
  obtain ⟨eP, hP⟩ := wG_P hG
  have v := h.2.2.1.1
  have hN := p64 (nP G) (by omega)
  unfold m_ShopsAsOne_leastMarket
  rw [x_openShops h, cp_s]
  have hop := mb_64 (opn G D) hP
  refine gt_for (nP G + 1) (fun z t => t.1 = nn z ∧ fX S t.2 ∧ ∀ m, m < 2 ^ nP G → okM G D i k m → z ≤ pc m) ?_ ?_ 1 5000 _ (by omega) ?_ (by omega)
  · rintro z ⟨x, T⟩ k2 hz ⟨rfl, f, g⟩ hk2
    simp only at f g
    simp only [m_ShopsAsOne_leastMarket_11]
    have e1 : T 1 1 = nn (nP G) := by rw [f _ _ (by omega), v _ _ (by omega) (by omega), eP]
    rw [e1, if_neg (by rw [nn_lt (by omega) (by omega)]; omega), fb_1 i hi]
    have hgo : ∀ n E, n = max (2 ^ nP G) E → E = 2 ^ i → gt (gx_loop (m_ShopsAsOne_leastMarket_28 k2 (nn i) (nn k) (nn (mb (opn G D) (nP G))) (nn z)) 5000 (nn E, T)) fun t => lsm (okM G D i k) (2 ^ nP G) t.1 ∧ fX S t.2 := by
      intro n E hn hE
      have h64i := p64 i (by omega)
      rw [← hE] at h64i
      have hn64 : n ≤ 64 := by omega
      have hEn : E ≤ n := by omega
      have hNn : 2 ^ nP G ≤ n := by omega
      have hnn : n = 2 ^ nP G ∨ n = E := by omega
      refine gt_for n (fun x t => t.1 = nn x ∧ fX S t.2 ∧ ∀ m, m < 2 ^ nP G → okM G D i k m → z ≤ pc m ∧ (z = pc m → x ≤ m)) ?_ ?_ E 5000 _ hEn ?_ (by omega)
      · rintro x ⟨_, T⟩ k1 hx ⟨rfl, f, g⟩ hk1
        simp only at f g
        simp only [m_ShopsAsOne_leastMarket_28]
        have p := pX_X h f
        have e1 : T 1 1 = nn (nP G) := by rw [f _ _ (by omega), v _ _ (by omega) (by omega), eP]
        have nx : ∀ U, fX S U → (x < 2 ^ nP G → ¬ (okM G D i k x ∧ pc x = z)) → gt (m_ShopsAsOne_leastMarket_96 k2 k1 (nn i) (nn k) (nn (mb (opn G D) (nP G))) (nn z) (nn x) U) fun t => lsm (okM G D i k) (2 ^ nP G) t.1 ∧ fX S t.2 := fun U fU hno => by
          unfold m_ShopsAsOne_leastMarket_96
          rw [nn_s]
          refine hk1 _ ⟨rfl, fU, fun m hm ho => ⟨(g m hm ho).1, fun y => ?_⟩⟩
          have h1 := (g m hm ho).2 y
          rcases Nat.lt_or_ge x m with y2 | y2
          · omega
          · have : m = x := by omega
            subst this
            exact absurd ⟨ho, y.symm⟩ (hno hm)
        rw [e1, fb_1b _ (by omega)]
        have hpx : pc x ≤ 6 := cn_le6 x
        simp (disch := omega) only [nn_le]
        by_cases q : 2 ^ nP G ≤ x
        · rw [if_pos q, nn_s]
          refine hk2 _ ⟨rfl, f, fun m hm ho => ?_⟩
          have := g m hm ho
          rcases Nat.lt_or_ge z (pc m) with y | y
          · omega
          · have := this.2 (by omega)
            omega
        · rw [if_neg q, x_bitCount (by omega), cp_s]
          simp (disch := omega) only [nn_eq]
          have hb := fb_bi x (by omega) i hi
          unfold bi at hb
          have hs := fb_sub x (by omega) _ hop
          simp only [m_ShopsAsOne_leastMarket_75, m_ShopsAsOne_leastMarket_76]
          by_cases q1 : pc x = z
          · rw [if_pos q1, hb]
            by_cases q2 : x.testBit i = true
            · simp only [q2, ↓reduceIte]
              by_cases q3 : x &&& mb (opn G D) (nP G) = x
              · rw [if_pos (hs.mpr q3), if_neg (by decide)]
                refine gt_cs (x_wouldPay p hw (by omega)) (fun a U hU => ?_)
                obtain ⟨u1, u2⟩ := hU
                simp only at u1 u2
                have fU : fX S U := fX_t f (fun q j hq => u2 q j (by omega))
                rw [u1]
                rcases wpv_01 G D x k with y | y
                · rw [if_pos y]
                  exact nx U fU (fun _ z => absurd (y.symm.trans z.1.2.2) (by decide))
                · rw [y, if_neg (by decide)]
                  refine gt_some ⟨Or.inr ⟨x, by omega, rfl, ⟨q3, q2, y⟩, fun m' hm' ho' => ?_⟩, fU⟩
                  have := g m' hm' ho'
                  rw [q1]
                  exact this
              · rw [if_neg (fun y => q3 (hs.mp y))]
                exact nx T f (fun _ z => q3 z.1.1)
            · simp only [q2]
              rw [if_neg (by decide), if_pos trivial]
              exact nx T f (fun _ z => q2 z.1.2.1)
          · rw [if_neg q1, if_pos trivial]
            exact nx T f (fun _ z => q1 z.2)
      · rintro ⟨x, T⟩ k1 ⟨rfl, f, g⟩
        simp only at f g
        simp only [m_ShopsAsOne_leastMarket_28]
        have e1 : T 1 1 = nn (nP G) := by rw [f _ _ (by omega), v _ _ (by omega) (by omega), eP]
        rw [e1, fb_1b _ (by omega)]
        simp (disch := omega) only [nn_le]
        rw [if_pos (by omega), nn_s]
        refine hk2 _ ⟨rfl, f, fun m hm ho => ?_⟩
        have := g m hm ho
        rcases Nat.lt_or_ge z (pc m) with y | y
        · omega
        · have := this.2 (by omega)
          omega
      · refine ⟨rfl, f, fun m hm ho => ⟨g m hm ho, fun _ => ?_⟩⟩
        rw [hE]
        exact (fb_has m (by omega) i hi ho.2.1).1
    exact hgo _ _ rfl rfl
  · rintro ⟨x, T⟩ k2 ⟨rfl, f, g⟩
    simp only at f g
    simp only [m_ShopsAsOne_leastMarket_11]
    have e1 : T 1 1 = nn (nP G) := by rw [f _ _ (by omega), v _ _ (by omega) (by omega), eP]
    rw [e1, if_pos (by rw [nn_lt (by omega) (by omega)]; omega)]
    refine gt_some ⟨Or.inl ⟨rfl, fun m hm ho => ?_⟩, f⟩
    have := g m hm ho
    have := fb_pcn _ (by omega) m (by omega) hm
    omega
  · exact ⟨rfl, fX_r S, fun m hm ho => (fb_has m (by omega) i hi ho.2.1).2⟩

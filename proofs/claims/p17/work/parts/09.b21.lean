/-! b21: sold off, both -/
theorem cn_imp {p p' : Nat → Bool} : ∀ {n : Nat}, (∀ k, k < n → p k = true → p' k = true) → cn p n ≤ cn p' n
  | 0, _ => Nat.le_refl _
  | n + 1, h => by
    have ih := cn_imp (n := n) (fun k hk => h k (by omega))
    show cn p n + (if p n then 1 else 0) ≤ cn p' n + (if p' n then 1 else 0)
    by_cases q : p n = true
    · rw [if_pos q, if_pos (h n (by omega) q)]; omega
    · rw [if_neg q]; omega
theorem cn_or_le {p p' : Nat → Bool} : ∀ {n : Nat}, cn (fun k => p k || p' k) n ≤ cn p n + cn p' n
  | 0 => Nat.le_refl _
  | n + 1 => by
    have ih := cn_or_le (p := p) (p' := p') (n := n)
    show cn _ n + (if (p n || p' n) = true then 1 else 0) ≤ cn p n + (if p n then 1 else 0) + (cn p' n + (if p' n then 1 else 0))
    cases p n <;> cases p' n <;> simp <;> omega
theorem cn_tb (m : Nat) : ∀ n, cn (fun k => m.testBit k) n = pcn m n
  | 0 => rfl
  | n + 1 => by
    show cn _ n + (if m.testBit n then 1 else 0) = pcn m n + (if m.testBit n then 1 else 0)
    rw [cn_tb m n]
theorem pcn_le (m : Nat) {n : Nat} (h : n ≤ 6) : pcn m n ≤ pc m := by
  rw [← cn_tb, show pc m = pcn m 6 from rfl, ← cn_tb]
  exact cn_mono _ h
theorem wD_sx {G D : gx_S} (hG : wG G) (hw : wD G D) {m c : Nat} (hc : c < nO G) (hm : cnt G D c + pc m ≤ 3) : wD G (sx2 G D m (nn c)) := by
  have hP := (wG_P hG).2
  have hO := (wG_O hG).2
  refine ⟨fun j hj => ⟨?_, ?_, ?_⟩, fun k hk => ?_, fun o ho => ?_⟩
  · have : sx2 G D m (nn c) 1 j = D 1 j := by simp [sx2]
    rw [this]; exact (hw.1 j hj).1
  · unfold sx2
    split
    · exact nn_b (b := 5) (by omega) (by decide)
    · exact (hw.1 j hj).2.1
  · have : sx2 G D m (nn c) 3 j = D 3 j := by simp [sx2]
    rw [this]; exact (hw.1 j hj).2.2
  · unfold wh sx2
    split
    · rw [nn_c (by omega)]; exact hc
    · exact hw.2.1 k hk
  · by_cases z : o = c
    · subst z
      have h1 : cnt G (sx2 G D m (nn o)) o ≤ cn (fun k => ow D o k || m.testBit k) (nP G) := cn_imp (fun k hk hq => by
        unfold ow sx2 at hq
        by_cases y : m.testBit k = true
        · simp [y]
        · rw [if_neg (fun w => y w.2.2)] at hq
          have : ow D o k = true := hq
          simp [this])
      have h2 := cn_or_le (p := ow D o) (p' := fun k => m.testBit k) (n := nP G)
      have h3 : cn (fun k => m.testBit k) (nP G) ≤ pc m := by rw [cn_tb]; exact pcn_le m hP
      unfold cnt cu at *
      omega
    · have h1 : cnt G (sx2 G D m (nn c)) o ≤ cnt G D o := cn_imp (fun k hk hq => by
        unfold ow sx2 at hq
        by_cases y : 2 = 2 ∧ k < nP G ∧ m.testBit k = true
        · rw [if_pos y, decide_eq_true_eq, nn_eq (by omega) (by omega)] at hq
          exact absurd hq.symm z
        · rw [if_neg y] at hq
          exact hq)
      have := hw.2.2 o ho
      omega
theorem fb_or2 : ∀ m, m < 64 → ∀ m', m' < 64 → nn m ||| nn m' = nn (m ||| m') ∧ (m ||| m') < 64 := by decide +kernel
theorem fb_lt2 : ∀ e, e < 7 → ∀ m, m < 64 → m < 2 ^ e → ∀ m', m' < 64 → m' < 2 ^ e → (m ||| m') < 2 ^ e := by decide +kernel
def ths (G D : gx_S) (a b : Nat) : Nat := mb (ow D a) (nP G) ||| mb (ow D b) (nP G)
theorem fb_ext : ∀ m, m < 64 → ∀ m', m' < 64 → (∀ k, k < 6 → m.testBit k = m'.testBit k) → m = m' := by decide +kernel
theorem ths_mb {G D : gx_S} (hG : wG G) (a b : Nat) : ths G D a b = mb (fun k => ow D a k || ow D b k) (nP G) := by
  have hP := (wG_P hG).2
  have h1 := mb_64 (ow D a) hP
  have h2 := mb_64 (ow D b) hP
  refine fb_ext _ (fb_or2 _ h1 _ h2).2 _ (mb_64 _ hP) (fun k hk => ?_)
  rw [Nat.testBit_or, tb_mb _ hk hP, tb_mb _ hk hP, tb_mb _ hk hP]
  cases ow D a k <;> cases ow D b k <;> simp
def okS (G D B : gx_S) (a b c : Nat) (t : Int32) (m : Nat) : Prop := m &&& ths G D a b = m ∧ cnt G D c + pc m ≤ 3 ∧ ¬ t < dws G B (sx2 G (gv G D a b) m (nn c))
theorem wD_sxg {G D : gx_S} (hG : wG G) (hw : wD G D) {a b c m : Nat} (ha : a < nO G) (hb : b < nO G) (hc : c < nO G) (hab : a ≠ b) (hca : c ≠ a) (hcb : c ≠ b) (hm1 : cnt G D a + cnt G D b ≤ 3) (hm : cnt G D c + pc m ≤ 3) : wD G (sx2 G (gv G D a b) m (nn c)) := by
  have hO := (wG_O hG).2
  refine wD_sx hG (wD_gv hw hO ha hb hab hm1) hc ?_
  rw [cnt_gv (by omega) (by omega) hab (by omega), if_neg hca, if_neg hcb]
  exact hm
theorem pc_0 : pc 0 = 0 := by decide
theorem x_soldOff {G D S : gx_S} (h : pX 0 G D S) (hw : wD G D) {a b c : Nat} {t : Int32} (ha : a < nO G) (hb : b < nO G) (hc : c < nO G) (hab : a ≠ b) (hca : c ≠ a) (hcb : c ≠ b) (hm1 : cnt G D a + cnt G D b ≤ 3) {B : gx_S} (hB : sB G B S) : gt (gx_loop (m_ShopsAsOne_soldOff_106 (nn a) (nn b) (nn c) t (nn (ths G D a b)) ((3 : Int32) - nn (cnt G D c))) 5000 (0, S)) fun r => lsm (okS G D B a b c t) (2 ^ nP G) r.1 ∧ fK S r.2 := by
  have hG := h.1
  have hO := (wG_O hG).2
  have hP := (wG_P hG).2
  have h3 := hw.2.2 c (by omega)
  have h64 : ths G D a b < 64 := by rw [ths_mb hG]; exact mb_64 _ hP
  have hle : ∀ m, m < 2 ^ nP G → okS G D B a b c t m → m ≤ ths G D a b := fun m hm ho => fb_sle m (by have := p64 (nP G) (by omega); omega) _ h64 ho.1
  have hN : ths G D a b < 2 ^ nP G := by rw [ths_mb hG]; exact mb_lt _ _
  have hN64 := p64 (nP G) (by omega)
  have er : (3 : Int32) - nn (cnt G D c) = nn (3 - cnt G D c) := by
    have : ∀ c, c ≤ 3 → (3 : Int32) - nn c = nn (3 - c) := by decide
    exact this _ h3
  rw [er]
  refine gt_for (3 - cnt G D c + 1) (fun z r => r.1 = nn z ∧ fK S r.2 ∧ ∀ m, m < 2 ^ nP G → okS G D B a b c t m → z ≤ pc m) ?_ ?_ 0 5000 _ (by omega) ⟨rfl, fun _ _ _ => rfl, fun _ _ _ => Nat.zero_le _⟩ (by omega)
  · rintro z ⟨_, T⟩ k2 hz ⟨rfl, f, g⟩ hk2
    simp only at f g
    simp only [m_ShopsAsOne_soldOff_106]
    rw [if_neg (by rw [nn_lt (by omega) (by omega)]; omega)]
    refine gt_for (ths G D a b + 1) (fun x r => r.1 = nn x ∧ fK S r.2 ∧ ∀ m, m < 2 ^ nP G → okS G D B a b c t m → z ≤ pc m ∧ (z = pc m → x ≤ m)) ?_ ?_ 0 5000 _ (by omega) ⟨rfl, f, fun m hm ho => ⟨g m hm ho, fun _ => Nat.zero_le _⟩⟩ (by omega)
    · rintro x ⟨_, U⟩ k1 hx ⟨rfl, f, g⟩ hk1
      simp only at f g
      simp only [m_ShopsAsOne_soldOff_116, m_ShopsAsOne_soldOff_147, m_ShopsAsOne_soldOff_148, m_ShopsAsOne_soldOff_179]
      have p := pX_K h (by omega) f
      have hpx : pc x ≤ 6 := cn_le6 x
      have nx : ∀ V, fK S V → ¬ (okS G D B a b c t x ∧ pc x = z) → gt (k1 (nn x + 1, V)) fun r => lsm (okS G D B a b c t) (2 ^ nP G) r.1 ∧ fK S r.2 := fun V fV hno => by
        rw [nn_s]
        refine hk1 _ ⟨rfl, fV, fun m hm ho => ⟨(g m hm ho).1, fun y => ?_⟩⟩
        have h1 := (g m hm ho).2 y
        rcases Nat.lt_or_ge x m with y2 | y2
        · omega
        · have : m = x := by omega
          subst this
          exact absurd ⟨ho, y.symm⟩ hno
      rw [if_neg (by rw [nn_lt (by omega) (by omega)]; omega), x_bitCount (by omega), cp_s]
      simp (disch := omega) only [nn_eq]
      have hs := fb_sub x (by omega) _ h64
      by_cases q1 : pc x = z
      · rw [if_pos q1]
        by_cases q2 : x &&& ths G D a b = x
        · rw [if_pos (hs.mpr q2), if_neg (by decide)]
          have hpc : cnt G D c + pc x ≤ 3 := by omega
          refine gt_cs (x_dws p hw (by omega) (a := a) (b := b) (c := c) (m := x) (by omega) (by omega) (wD_sxg hG hw ha hb hc hab hca hcb hm1 hpc) (by omega) (sB_K hB f)) (fun v V hV => ?_)
          obtain ⟨v1, v2⟩ := hV
          simp only at v1 v2
          have ev : v = dws G B (sx2 G (gv G D a b) x (nn c)) := v1
          rw [ev]
          by_cases y : t < dws G B (sx2 G (gv G D a b) x (nn c))
          · rw [if_pos y]
            exact nx V (fK_t f v2) (fun w => w.1.2.2 y)
          · rw [if_neg y]
            refine gt_some ⟨Or.inr ⟨x, by omega, rfl, ⟨q2, hpc, y⟩, fun m' hm' ho' => ?_⟩, fK_t f v2⟩
            have := g m' hm' ho'
            rw [q1]
            exact this
        · rw [if_neg (fun w => q2 (hs.mp w)), if_pos trivial]
          exact nx U f (fun w => q2 w.1.1)
      · rw [if_neg q1, if_pos trivial]
        exact nx U f (fun w => q1 w.2)
    · rintro ⟨_, U⟩ k1 ⟨rfl, f, g⟩
      simp only at f g
      simp only [m_ShopsAsOne_soldOff_116]
      rw [if_pos (by rw [nn_lt (by omega) (by omega)]; omega), nn_s]
      refine hk2 _ ⟨rfl, f, fun m hm ho => ?_⟩
      have := g m hm ho
      have := hle m hm ho
      rcases Nat.lt_or_ge z (pc m) with y | y
      · omega
      · have := (g m hm ho).2 (by omega)
        omega
  · rintro ⟨_, T⟩ k2 ⟨rfl, f, g⟩
    simp only at f g
    simp only [m_ShopsAsOne_soldOff_106]
    rw [if_pos (by rw [nn_lt (by omega) (by omega)]; omega)]
    refine gt_some ⟨Or.inl ⟨rfl, fun m hm ho => ?_⟩, f⟩
    have := g m hm ho
    have := ho.2.1
    omega
theorem u_soldOff {G D S : gx_S} (h : pU G D (-1) S) (hw : wD G D) {a b c : Nat} {t : Int32} (h0 : 0 ≤ t) (h9 : t ≤ 9) (ha : a < nO G) (hb : b < nO G) (hc : c < nO G) (hab : a ≠ b) (hca : c ≠ a) (hcb : c ≠ b) (hm1 : cnt G D a + cnt G D b ≤ 3) {B : gx_S} (hB : ∀ s, s < nS G → S 21 s = spa G B s) : gt (gx_loop (n_soldOff_71 (nn a) (nn b) (nn c) t S) 5000 (0, 0)) fun r => lsm (okS G D B a b c t) (2 ^ nP G) r.1 ∧ fM S r.2 ∧ pU G D (-1) r.2 := by
  have hG := h.1
  have hO := (wG_O hG).2
  obtain ⟨eP, hP⟩ := wG_P hG
  have h3 := hw.2.2 c (by omega)
  have h64 : ths G D a b < 64 := by rw [ths_mb hG]; exact mb_64 _ hP
  have hN64 := p64 (nP G) (by omega)
  have e1 : S 0 4 = nn (nP G) := by rw [h.2.2.1.1.2.1, eP]
  have wg := wD_gv hw hO ha hb hab hm1
  obtain ⟨N, hNe⟩ : ∃ N, N = 2 ^ nP G := ⟨_, rfl⟩
  have main : gt (gx_loop (n_soldOff_127 (nn a) (nn b) (nn c) t (nn (ths G D a b))) 5000 ((-1), nn 0, S)) fun r => lsm (okS G D B a b c t) N r.1 ∧ fM S r.2 ∧ pU G D (-1) r.2 := by
    refine gt_for N (fun x r => lsm (okS G D B a b c t) x r.1 ∧ r.2.1 = nn x ∧ fM S r.2.2 ∧ pU G D (-1) r.2.2 ∧ ∀ s, s < nS G → r.2.2 21 s = spa G B s) ?_ ?_ 0 5000 _ (by omega) ⟨Or.inl ⟨rfl, fun m hm => absurd hm (by omega)⟩, rfl, fM_r S, h, hB⟩ (by omega)
    · rintro x ⟨x6, _, T⟩ kk hx ⟨l, rfl, f, p, b21⟩ hkk
      simp only at l f p b21
      simp only [n_soldOff_127, n_soldOff_186]
      have e1 : T 0 4 = nn (nP G) := by rw [p.2.2.1.1.2.1, eP]
      rw [e1, fb_1b _ (by omega), ← hNe]
      have hs := fb_sub x (by omega) _ h64
      have hpx : pc x ≤ 6 := cn_le6 x
      have no : ∀ U, fM S U → pU G D (-1) U → (∀ s, s < nS G → U 21 s = spa G B s) → ¬ (okS G D B a b c t x ∧ (x6 = -1 ∨ pc x < pc x6.toNatClampNeg)) → gt (kk (x6, nn (x + 1), U)) fun r => lsm (okS G D B a b c t) N r.1 ∧ fM S r.2 ∧ pU G D (-1) r.2 := fun U fU pU' bU hn => hkk _ ⟨lsm_n (by omega) l hn, rfl, fU, pU', bU⟩
      have n186 : ¬ (okS G D B a b c t x ∧ (x6 = -1 ∨ pc x < pc x6.toNatClampNeg)) → gt (n_soldOff_187 kk (nn a) (nn b) (nn c) t (nn (ths G D a b)) x6 (nn x) 0 T) fun r => lsm (okS G D B a b c t) N r.1 ∧ fM S r.2 ∧ pU G D (-1) r.2 := fun hn => by
        simp only [n_soldOff_187, n_soldOff_222, n_soldOff_224, nn_s]
        rw [if_pos trivial]
        exact no T f p b21 hn
      have yes : (x6 = -1 ∨ pc x < pc x6.toNatClampNeg) → x &&& ths G D a b = x → cnt G D c + pc x ≤ 3 → gt (n_soldOff_182 kk (nn a) (nn b) (nn c) t (nn (ths G D a b)) x6 (nn x) T) fun r => lsm (okS G D B a b c t) N r.1 ∧ fM S r.2 ∧ pU G D (-1) r.2 := fun hbest k1 k2 => by
        simp only [n_soldOff_182, n_soldOff_187, n_soldOff_222, n_soldOff_224, nn_s]
        rw [if_neg (by decide)]
        refine gt_cs (u_layBehind (m := x) (a := a) (b := b) (x := nn c) p hw (by omega) (wD_0 wg) (wD_sxg hG hw ha hb hc hab hca hcb hm1 k2)) (fun v U hU => ?_)
        obtain ⟨u1, u2, u3, u4, u5, u6⟩ := hU
        simp only at u1 u2 u3 u4 u5 u6
        have b21U : ∀ s, s < nS G → U 21 s = spa G B s := fun s hs => by rw [u6]; exact b21 s hs
        have hdw := dws_le (G := G) (B := B) (E := sx2 G (gv G D a b) x (nn c)) h0 h9
        rw [u1]
        by_cases q : (ste G (sx2 G (gv G D a b) x (nn c))).1 = -1
        · rw [if_pos q, if_pos rfl]
          exact no U (fM_t f u2) u3 b21U (fun w => w.1.2.2 (hdw.mpr (fun z => z.1 q)))
        · rw [if_neg q, if_neg (by decide), u_isBelow u3 b21U u5 t, cp_s]
          simp only [ib_0]
          by_cases y : allB G B (ste G (sx2 G (gv G D a b) x (nn c))).2 t (nS G) = true
          · rw [if_neg (by simp [y])]
            exact hkk _ ⟨lsm_y (by omega) l ⟨k1, k2, fun w => hdw.mp w ⟨q, y⟩⟩ hbest, rfl, fM_t f u2, u3, b21U⟩
          · rw [if_pos (by simpa using y)]
            exact no U (fM_t f u2) u3 b21U (fun w => w.1.2.2 (hdw.mpr (fun z => y z.2)))
      simp (disch := omega) only [nn_le]
      rw [if_neg (by omega)]
      by_cases q1 : x &&& ths G D a b = x
      · rw [if_pos (hs.mpr q1), u_shopsOf p c, cp_s, u_ones (by omega), cp_s, nn_add]
        rw [show (3 : Int32) = nn 3 from rfl]
        simp (disch := omega) only [nn_lt]
        by_cases q2 : 3 < cnt G D c + pc x
        · rw [if_pos q2]
          exact n186 (fun w => by have := w.1.2.1; omega)
        · rw [if_neg q2]
          rcases lsm_b l with e | ⟨y, hy, e⟩
          · rw [if_pos e]
            exact yes (Or.inl e) q1 (by omega)
          · have hpy : pc y ≤ 6 := cn_le6 y
            subst e
            rw [if_neg (nn_m1 (by omega)), cp_s, u_ones (by omega), cp_s]
            simp (disch := omega) only [nn_le]
            by_cases z : pc y ≤ pc x
            · rw [if_pos z]
              refine n186 (fun w => ?_)
              rcases w.2 with w | w
              · exact nn_m1 (by omega) w
              · rw [nn_c (by omega)] at w; omega
            · rw [if_neg z]
              exact yes (Or.inr (by rw [nn_c (by omega)]; omega)) q1 (by omega)
      · rw [if_neg (fun z => q1 (hs.mp z))]
        exact n186 (fun w => q1 w.1.1)
    · rintro ⟨x6, _, T⟩ kk ⟨l, rfl, f, p, _⟩
      simp only at l f p
      simp only [n_soldOff_127]
      have e1 : T 0 4 = nn (nP G) := by rw [p.2.2.1.1.2.1, eP]
      rw [e1, fb_1b _ (by omega), ← hNe, if_pos (Int32.le_refl _)]
      exact gt_some ⟨l, f, p⟩
  rw [← hNe]
  have el : gx_loop (n_soldOff_71 (nn a) (nn b) (nn c) t S) 5000 (0, 0) = gx_loop (n_soldOff_127 (nn a) (nn b) (nn c) t (nn (ths G D a b))) 5000 ((-1), nn 0, S) := by
    rw [ths_mb hG]
    refine lp_for (nP G) (fun j => (nn (mb (fun k => ow D a k || ow D b k) j), nn j)) (fun j k hj => ?_) (fun k => ?_) 0 5000 (by omega) (by omega)
    · simp only [n_soldOff_71, n_soldOff_104, n_soldOff_112]
      obtain ⟨d1, d2, d3⟩ := h.2.2.2.1 j (by omega)
      simp (disch := omega) only [e1, nn_le, nn_c, ck_n, nn_s, d2]
      rw [if_neg (by omega)]
      by_cases qa : D 2 j = nn a
      · rw [if_pos qa, mb_or _ (by omega) (by simp [ow, qa])]
      · rw [if_neg qa]
        by_cases qb : D 2 j = nn b
        · rw [if_pos qb, mb_or _ (by omega) (by simp [ow, qb])]
        · rw [if_neg qb, mb_no _ (by simp [ow, qa, qb]), Int32.or_zero]
    · simp only [n_soldOff_71]
      simp (disch := omega) only [e1, nn_le]
      rw [if_pos (by omega)]
      rfl
  rw [el]
  exact main

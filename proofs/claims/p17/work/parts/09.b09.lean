/-! b09: the last shop's prices at once; all levels -/
def hfv (G S : gx_S) (l k s : Nat) : Int32 := if S (52 + l) s ≤ nn k then S (47 + l) s - bes G s k - 1 else S (47 + l) s - bes G s k
def hf9 (G S : gx_S) (l k s : Nat) : Int32 := if hfv G S l k s < 9 then hfv G S l k s else 9
theorem hf9_b {G S : gx_S} {l k s : Nat} (h : 0 ≤ hf9 G S l k s) : ∃ n, n < 10 ∧ hf9 G S l k s = nn n := by
  have : hf9 G S l k s ≤ 9 := by unfold hf9; split <;> lia
  obtain ⟨e, b⟩ := bw_n (x := hf9 G S l k s) (n := 9) (by decide) ⟨h, this⟩
  exact ⟨_, by omega, e⟩
theorem nn_nng {p : Nat} (hp : p < 2147483648) : (0 : Int32) ≤ nn p := (nn_b (k := p) (b := p) (Nat.le_refl _) hp).1
theorem hf9_le {G S : gx_S} {l k s p : Nat} (hp : p < 10) : nn p ≤ hf9 G S l k s ↔ ¬ hfv G S l k s < nn p := by
  have : nn p ≤ 9 := (nn_b (b := 9) (by omega) (by decide)).2
  unfold hf9
  split <;> constructor <;> intro h <;> lia
theorem sm_sub1 {f g h : Nat → Int32} {n : Nat} (e : ∀ j, j < n → f j = g j + h j) : sm f n - sm h n = sm g n := by
  rw [sm_cg (g := fun j => g j + h j) e, sm_add]
  grind
theorem nn_stp {p : Nat} (hp : p < 10) (x : Int32) : (nn (p + 1) ≤ x ↔ nn p ≤ x ∧ ¬ x = nn p) := by
  rw [← nn_s]
  have h1 := nn_nng (p := p) (by omega)
  have h2 : nn p ≤ 9 := (nn_b (b := 9) (by omega) (by decide)).2
  constructor
  · intro h
    constructor <;> lia
  · rintro ⟨a, b⟩
    lia
theorem x_tryLast {G D S : gx_S} {o l m : Nat} {τ : Nat → Int32} (ho : o < 6) (hG : wG G) (hw : wD G D) (hv : vG G S) (hL : oL G D o S) (ht : ∀ i, bw (τ i) 0 9) (hl : lv G D o τ l S) (hc : cnt G D o = l + 1) (h44 : ∀ i, i < l → S 44 i = τ i) (hm1 : ∀ p, p < 10 → ∀ i, i < l → tm false (cnt G D o) (m + p) i = τ i) (hm2 : ∀ p, p < 10 → tm false (cnt G D o) (m + p) l = nn p) (hb : bS G D o false m S) : gt (m_Bests_tryLastPrice (nn l) S) fun T => fR l S T ∧ bS G D o false (m + 10) T := by
  have h3 := hw.2.2 o ho
  obtain ⟨eS, hS⟩ := wG_S hG
  obtain ⟨eP, hP⟩ := wG_P hG
  obtain ⟨k, hkn, hk, hck⟩ := cn_at (ow D o) (n := nP G) (i := l) (by show l < cnt G D o; omega)
  have hck' : cu D o k = l := hck
  obtain ⟨eL, eC⟩ := hL.2 k hkn hk
  rw [hck'] at eL eC
  unfold m_Bests_tryLastPrice
  refine gt_for 10 (fun p t => t.1 = nn p ∧ (∀ q j, q ≠ 61 → q ≠ 62 → t.2 q j = S q j) ∧ ∀ i, i < p → t.2 61 i = 0 ∧ t.2 62 i = 0) ?_ ?_ 0 5000 _ (by omega) ⟨rfl, fun _ _ _ _ => rfl, fun i hi => absurd hi (by omega)⟩ (by omega)
  · rintro p ⟨x, T⟩ kk hp ⟨rfl, f, g⟩ hkk
    simp only at f g
    simp only [m_Bests_tryLastPrice_2]
    simp (disch := omega) only [show (9 : Int32) = nn 9 from rfl, nn_lt, nn_c, ck_n, let_s, nn_s]
    rw [if_neg (by omega)]
    refine hkk _ ⟨rfl, fun q j h1 h2 => ?_, fun i hi => ?_⟩
    · simp (disch := omega) only [gx_st_q]
      exact f q j h1 h2
    · rcases Nat.lt_or_ge i p with y | y
      · simp (disch := omega) only [gx_st_q, gx_st_j]
        exact g i y
      · have : i = p := by omega
        subst this
        simp (disch := omega) only [gx_st_q, gx_st_eq]
        exact ⟨trivial, trivial⟩
  · rintro ⟨x, T⟩ kk ⟨rfl, f, g⟩
    simp only at f g
    simp only [m_Bests_tryLastPrice_2]
    rw [if_pos (by decide)]
    clear kk
    refine gt_for (nS G) (fun s t => t.1 = sm (fun i => if 0 ≤ hf9 G S l k i then G 7 i else 0) s ∧ t.2.1 = sm (fun i => if 0 ≤ hf9 G S l k i then 0 else G 7 i * S (57 + l) i) s ∧ t.2.2.1 = nn s ∧ (∀ q j, q ≠ 61 → q ≠ 62 → t.2.2.2 q j = S q j) ∧ ∀ p, p < 10 → t.2.2.2 61 p = sm (fun i => if hf9 G S l k i = nn p then G 7 i else 0) s ∧ t.2.2.2 62 p = sm (fun i => if hf9 G S l k i = nn p then G 7 i * S (57 + l) i else 0) s) ?_ ?_ 0 5000 _ (by omega) ⟨rfl, rfl, rfl, f, fun p hp => g p hp⟩ (by omega)
    · rintro s ⟨x2, x3, x4, T⟩ kk hs ⟨rfl, rfl, rfl, f, g⟩ hkk
      simp only at f g
      simp only [m_Bests_tryLastPrice_35, m_Bests_tryLastPrice_141]
      have hvT : vG G T := vG_f hv hS (fun q j hq => f q j (by omega) (by omega))
      have e1 : T 1 2 = nn (nS G) := by rw [hvT.1 _ _ (by omega) (by omega), eS]
      have e7 : T 7 s = G 7 s := hvT.1 _ _ (by omega) (by omega)
      have eL' : T 42 l = nn k := by rw [f _ _ (by omega) (by omega), eL]
      have a1 : T (47 + l) s = S (47 + l) s := f _ _ (by omega) (by omega)
      have a2 : T (52 + l) s = S (52 + l) s := f _ _ (by omega) (by omega)
      have a3 : T (57 + l) s = S (57 + l) s := f _ _ (by omega) (by omega)
      have ehf : m_Bests_highestFor (nn l) (nn s) T = some (hfv G S l k s) := by
        rw [x_highestFor hG hvT (l := l) (by omega) hs hkn eL', a1, a2]
        rfl
      simp (disch := omega) only [e1, nn_le, nn_c, ck_n, nn_s, ehf, cp_s, e7, a3]
      rw [if_neg (by omega)]
      rw [show (if hfv G S l k s < 9 then hfv G S l k s else 9) = hf9 G S l k s from rfl]
      by_cases q : 0 ≤ hf9 G S l k s
      · rw [if_pos q]
        obtain ⟨n, hn, en⟩ := hf9_b q
        simp (disch := omega) only [en, nn_c, ck_n, let_s, gx_st_q]
        refine hkk _ ⟨?_, ?_, rfl, fun q j h1 h2 => ?_, fun p hp => ?_⟩
        · show _ = sm _ s + (if 0 ≤ hf9 G S l k s then G 7 s else 0)
          rw [if_pos q]
        · show _ = sm _ s + (if 0 ≤ hf9 G S l k s then 0 else G 7 s * S (57 + l) s)
          rw [if_pos q, Int32.add_zero]
        · simp (disch := omega) only [gx_st_q]
          exact f q j h1 h2
        · show _ = sm _ s + (if hf9 G S l k s = nn p then G 7 s else 0) ∧ _ = sm _ s + (if hf9 G S l k s = nn p then G 7 s * S (57 + l) s else 0)
          obtain ⟨g1, g2⟩ := g p hp
          rw [en]
          simp (disch := omega) only [nn_eq]
          by_cases z : n = p
          · subst z
            simp (disch := omega) only [gx_st_q, gx_st_eq, if_pos, g1, g2]
            exact ⟨rfl, rfl⟩
          · rw [if_neg z, if_neg z, Int32.add_zero, Int32.add_zero]
            simp (disch := omega) only [gx_st_q, gx_st_j, g1, g2]
            exact ⟨trivial, trivial⟩
      · rw [if_neg q]
        refine hkk _ ⟨?_, ?_, rfl, f, fun p hp => ?_⟩
        · show _ = sm _ s + (if 0 ≤ hf9 G S l k s then G 7 s else 0)
          rw [if_neg q, Int32.add_zero]
        · show _ = sm _ s + (if 0 ≤ hf9 G S l k s then 0 else G 7 s * S (57 + l) s)
          rw [if_neg q]
        · show _ = sm _ s + (if hf9 G S l k s = nn p then G 7 s else 0) ∧ _ = sm _ s + (if hf9 G S l k s = nn p then G 7 s * S (57 + l) s else 0)
          have z : ¬ hf9 G S l k s = nn p := fun z => q (by rw [z]; exact nn_nng (by omega))
          rw [if_neg z, if_neg z, Int32.add_zero, Int32.add_zero]
          exact g p hp
    · rintro ⟨x2, x3, x4, T⟩ kk ⟨rfl, rfl, rfl, f, g⟩
      simp only at f g
      simp only [m_Bests_tryLastPrice_35]
      have e1 : T 1 2 = nn (nS G) := by rw [f _ _ (by omega) (by omega), hv.1 _ _ (by omega) (by omega), eS]
      simp (disch := omega) only [e1, nn_le]
      rw [if_pos (by omega)]
      clear kk
      have f0 : fR l S T := fun q j a1 a2 a3 a4 a5 a6 a7 a8 => f q j a6 a7
      refine gt_for 10 (fun p t => t.1 = sm (fun i => if nn p ≤ hf9 G S l k i then G 7 i else 0) (nS G) ∧ t.2.1 = sm (fun i => if nn p ≤ hf9 G S l k i then 0 else G 7 i * S (57 + l) i) (nS G) ∧ t.2.2.1 = nn p ∧ (fR l S t.2.2.2 ∧ (∀ i, i < 10 → t.2.2.2 61 i = T 61 i ∧ t.2.2.2 62 i = T 62 i)) ∧ bS G D o false (m + p) t.2.2.2) ?_ ?_ 0 5000 _ (by omega) ⟨rfl, rfl, rfl, ⟨f0, fun _ _ => ⟨rfl, rfl⟩⟩, fR_bS hb (f _ _ (by omega) (by omega)) (fun i => f _ _ (by omega) (by omega))⟩ (by omega)
      · rintro p ⟨x2, x3, x4, U⟩ kk hp ⟨rfl, rfl, rfl, ⟨f1, f2⟩, b⟩ hkk
        simp only at f1 f2 b
        simp only [m_Bests_tryLastPrice_150]
        have hLU := fR_oL f1 hL
        have eC' : U 43 l = co G o k := by
          have := (hLU.2 k hkn hk).2
          rwa [hck'] at this
        simp (disch := omega) only [show (9 : Int32) = nn 9 from rfl, nn_lt, nn_c, ck_n, let_s, nn_s, gx_st_q, eC']
        rw [if_neg (by omega)]
        have hF : sm (fun i => if nn p ≤ hf9 G S l k i then 0 else G 7 i * S (57 + l) i) (nS G) + sm (fun i => if nn p ≤ hf9 G S l k i then G 7 i else 0) (nS G) * (nn p - co G o k) = fF G D o false (m + p) := by
          have hd : dt G D o (tm false (cnt G D o) (m + p)) = dt G D o (tset τ l (nn p)) := dt_cg (fun i hi => by
            unfold tset
            by_cases z : i = l
            · subst z
              rw [if_pos rfl]; exact hm2 p hp
            · rw [if_neg z]; exact hm1 p hp i (by omega))
          unfold fF
          rw [hd, ← sm_mul, ← sm_add, ← pro_lv (T := S) hG (wD_0 hw) ho (e := fun s => if nn p ≤ hf9 G S l k s then nn p - co G o k else S (57 + l) s)]
          · refine sm_cg (fun s _ => ?_)
            by_cases z : nn p ≤ hf9 G S l k s
            · rw [if_pos z, if_pos z, if_pos z, Int32.zero_add]
            · rw [if_neg z, if_neg z, if_neg z, Int32.zero_mul, Int32.add_zero]
          · intro s hs
            have hcm := hf_cmp (nn p) (bes G s k) (S (47 + l) s) (S (52 + l) s) (nn k) (nn_b (b := 9) (by omega) (by omega)) (bes_b hG s k) (l_b hG hw ht (hl s hs).1)
            haveI : Decidable (cms (bes G s k) (nn p) (S (47 + l) s) (S (52 + l) s) k) := Classical.propDecidable _
            have hlv := lv_1 (p := nn p) hP hkn hk hck' (hl s hs).1 (hl s hs).2
            rw [hc]
            have hz : nn p ≤ hf9 G S l k s ↔ cms (bes G s k) (nn p) (S (47 + l) s) (S (52 + l) s) k := by
              rw [hf9_le hp]
              unfold hfv
              rw [hcm]
              unfold cms
              exact Decidable.not_not
            refine ⟨_, _, hlv.1, ?_⟩
            rw [← hlv.2]
            by_cases z : nn p ≤ hf9 G S l k s
            · rw [if_pos z, if_pos (hz.mp z)]
            · rw [if_neg z, if_neg (fun y => z (hz.mpr y))]
        have fU : fR l S (gx_st U 44 l (nn p)) := by
          intro q j a1 a2 a3 a4 a5 a6 a7 a8
          by_cases z : q = 44
          · subst z
            rw [gx_st_j _ _ _ (by omega)]
            exact f1 _ j a1 a2 a3 a4 a5 a6 a7 a8
          · rw [gx_st_q _ _ _ _ z]
            exact f1 q j a1 a2 a3 a4 a5 a6 a7 a8
        refine gt_cp (x_keep h3 (fR_oL fU hL).1 _) (fun V hV => ?_)
        obtain ⟨u1, u2⟩ := hV
        have z1 : V 61 p = T 61 p := by
          rw [u1 _ _ (by omega) (by omega), gx_st_q _ _ _ _ (by omega)]; exact (f2 p hp).1
        have z2 : V 62 p = T 62 p := by
          rw [u1 _ _ (by omega) (by omega), gx_st_q _ _ _ _ (by omega)]; exact (f2 p hp).2
        obtain ⟨g1, g2⟩ := g p hp
        rw [z1, z2, g1, g2]
        refine hkk _ ⟨?_, ?_, rfl, ⟨fR_t fU (fR_keep u1), fun i hi => ?_⟩, ?_⟩
        · refine sm_sub1 (fun i hi => ?_)
          simp only [nn_stp hp]
          by_cases z : nn p ≤ hf9 G S l k i
          · by_cases y : hf9 G S l k i = nn p
            · simp [y]
            · simp [z, y]
          · have y : ¬ hf9 G S l k i = nn p := fun y => z (by rw [y]; exact Int32.le_refl _)
            simp [z, y]
        · show _ + _ = _
          rw [← sm_add]
          refine sm_cg (fun i hi => ?_)
          simp only [nn_stp hp]
          by_cases z : nn p ≤ hf9 G S l k i
          · by_cases y : hf9 G S l k i = nn p
            · simp [y]
            · simp [z, y]
          · have y : ¬ hf9 G S l k i = nn p := fun y => z (by rw [y]; exact Int32.le_refl _)
            simp [z, y]
        · simp only
          rw [u1 _ _ (by omega) (by omega), gx_st_q _ _ _ _ (by omega), u1 _ _ (by omega) (by omega), gx_st_q _ _ _ _ (by omega)]
          exact f2 i hi
        · show bS G D o false ((m + p) + 1) V
          refine bS_1 hF (fF_b hG hw o false (fun z => absurd z (by decide))) (fR_bS b (gx_st_q _ _ _ _ (by omega)) (fun i => gx_st_q _ _ _ _ (by omega))) (fun i hi => ?_) u2
          by_cases z : i = l
          · subst z
            rw [gx_st_eq]; exact (hm2 p hp).symm
          · rw [gx_st_j _ _ _ z, hm1 p hp i (by omega), ← h44 i (by omega)]
            exact f1 44 i (by omega) (by omega) (by omega) (by omega) (by omega) (by omega) (by omega) (by omega)
      · rintro ⟨x2, x3, x4, U⟩ kk ⟨rfl, rfl, rfl, ⟨f1, f2⟩, b⟩
        simp only at f1 f2 b
        simp only [m_Bests_tryLastPrice_150]
        rw [if_pos (by decide)]
        exact gt_some ⟨f1, b⟩
theorem x_tryPrices {G D : gx_S} {o : Nat} (ho : o < 6) (hG : wG G) (hw : wD G D) : ∀ (d l fuel : Nat) (τ : Nat → Int32) (m : Nat) (S : gx_S), cnt G D o = l + 1 + d → d < fuel → (∀ i, bw (τ i) 0 9) → vG G S → oL G D o S → lv G D o τ l S → (∀ i, i < l → S 44 i = τ i) → (∀ x, m ≤ x → x < m + 10 ^ (d + 1) → ∀ i, i < l → tm false (cnt G D o) x i = τ i) → 10 ^ (d + 1) ∣ m → bS G D o false m S → gt (m_Bests_tryPrices fuel (nn l) S) fun T => fR l S T ∧ bS G D o false (m + 10 ^ (d + 1)) T
  | d, l, 0, _, _, _, _, h, _, _, _, _, _, _, _, _ => absurd h (by omega)
  | 0, l, fuel + 1, τ, m, S, hc, _, ht, hv, hL, hl, h44, hx, hd, hb => by
    show gt (m_Bests_tryPrices_b (m_Bests_tryPrices fuel) (nn l) S) _
    unfold m_Bests_tryPrices_b
    have h3 := hw.2.2 o ho
    rw [hL.1, nn_p (by omega), if_neg (by rw [nn_lt (by omega) (by omega)]; omega)]
    have e : cnt G D o - 1 = l := by omega
    rw [e]
    obtain ⟨m', rfl⟩ := hd
    refine gt_cp (x_tryLast ho hG hw hv hL ht hl (by omega) h44 (fun p hp i hi => hx _ (by omega) (by omega) i hi) (fun p hp => ?_) hb) (fun T hT => gt_some hT)
    unfold tm
    have : cnt G D o - 1 - l = 0 := by omega
    rw [this]
    simp only [Bool.false_eq_true, ↓reduceIte]
    congr 1
    omega
  | d + 1, l, fuel + 1, τ, m, S, hc, hf, ht, hv, hL, hl, h44, hx, hd, hb => by
    show gt (m_Bests_tryPrices_b (m_Bests_tryPrices fuel) (nn l) S) _
    unfold m_Bests_tryPrices_b
    have h3 := hw.2.2 o ho
    rw [hL.1, nn_p (by omega), if_pos (by rw [nn_lt (by omega) (by omega)]; omega)]
    have e10 : 10 ^ (d + 1 + 1) = 10 * 10 ^ (d + 1) := by rw [Nat.pow_succ]; omega
    have hpos : 0 < 10 ^ (d + 1) := Nat.pow_pos (by decide)
    obtain ⟨m', rfl⟩ := hd
    rw [e10] at hx hb ⊢
    generalize hE : 10 ^ (d + 1) = E at *
    refine gt_for 10 (fun p t => t.1 = nn p ∧ fR l S t.2 ∧ bS G D o false (10 * E * m' + p * E) t.2) ?_ ?_ 0 5000 _ (by omega) ⟨rfl, fR_r _ _, by rw [Nat.zero_mul]; exact hb⟩ (by omega)
    · rintro p ⟨x, T⟩ k hp ⟨rfl, f, b⟩ hk
      simp only at f b
      simp only [m_Bests_tryPrices_23]
      simp (disch := omega) only [show (9 : Int32) = nn 9 from rfl, nn_lt, nn_s]
      rw [if_neg (by omega)]
      have hpE : p * E + E ≤ 10 * E := by
        have : (p + 1) * E ≤ 10 * E := Nat.mul_le_mul_right _ (by omega)
        rw [Nat.add_mul, Nat.one_mul] at this
        exact this
      refine gt_cp (x_putPrice (p := p) ho hG hw ht (fR_vG hG f hv) (fR_oL f hL) (fR_lv f (Nat.le_refl _) (by omega) hl) (by omega) hp) (fun U hU => ?_)
      obtain ⟨u1, u2, u3, u4⟩ := hU
      have fU : fR l T U := fR_put (by omega) u1 u3
      have fSU := fR_t f fU
      have hdig : ∀ x, 10 * E * m' + p * E ≤ x → x < 10 * E * m' + p * E + E → x / E % 10 = p := fun x h1 h2 => by
        obtain ⟨y, rfl⟩ : ∃ y, x = 10 * E * m' + p * E + y := ⟨x - (10 * E * m' + p * E), by omega⟩
        have e1 : 10 * E * m' + p * E + y = E * (10 * m' + p) + y := by grind
        rw [e1, Nat.mul_add_div hpos, Nat.div_eq_of_lt (show y < E by omega)]
        omega
      refine gt_cp (x_tryPrices ho hG hw d (l + 1) fuel (tset τ l (nn p)) (10 * E * m' + p * E) U (by omega) (by omega) (fun i => ?_) (fR_vG hG fSU hv) (fR_oL fSU hL) u4 (fun i hi => ?_) (fun x h1 h2 i hi => ?_) ?_ (fR_bS b (u1 _ _ (by omega) (by omega) (by omega) (by omega)) (fun i => u1 _ _ (by omega) (by omega) (by omega) (by omega)))) (fun V hV => ?_)
      · unfold tset
        split
        · exact nn_b (b := 9) (by omega) (by omega)
        · exact ht i
      · unfold tset
        by_cases z : i = l
        · rw [if_pos z, z]; exact u2
        · rw [if_neg z, u3 i z, ← h44 i (by omega)]
          exact f 44 i (by omega) (by omega) (by omega) (by omega) (by omega) (by omega) (by omega) (by omega)
      · rw [hE] at h2
        unfold tset
        by_cases z : i = l
        · rw [if_pos z]
          unfold tm
          have : cnt G D o - 1 - i = d + 1 := by omega
          rw [this, hE, hdig x h1 h2]
          rfl
        · rw [if_neg z]
          exact hx x (by omega) (by omega) i (by omega)
      · rw [hE]
        exact ⟨10 * m' + p, by grind⟩
      · obtain ⟨v1, v2⟩ := hV
        rw [hE] at v2
        refine hk _ ⟨rfl, fR_t fSU (fR_m (by omega) v1), ?_⟩
        have : 10 * E * m' + (p + 1) * E = 10 * E * m' + p * E + E := by rw [Nat.add_mul, Nat.one_mul, Nat.add_assoc]
        simp only
        rw [this]
        exact v2
    · rintro ⟨x, T⟩ k ⟨rfl, f, b⟩
      simp only at f b
      simp only [m_Bests_tryPrices_23]
      rw [if_pos (by decide)]
      exact gt_some ⟨f, b⟩

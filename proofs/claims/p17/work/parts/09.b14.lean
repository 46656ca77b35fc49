/-! b14: the reference's queries -/
def uG (G T : gx_S) : Prop := (T 0 0 = G 1 0 ∧ T 0 4 = G 1 1 ∧ T 0 9 = G 1 2) ∧ (∀ o, o < 6 → T 1 o = G 2 o ∧ T 2 o = G 3 o) ∧ (∀ k, k < 6 → T 5 k = G 4 k ∧ T 6 k = G 5 k) ∧ ∀ s i, s < 8 → i < 6 → T 8 (6 * s + i) = G (6 + i) s
def uD (D T : gx_S) : Prop := ∀ j, j < 6 → T 7 j = D 1 j ∧ T 4 j = D 2 j ∧ T 3 j = D 3 j
def pU (G D : gx_S) (sh : Int32) (T : gx_S) : Prop := wG G ∧ w0 D ∧ uG G T ∧ uD D T ∧ T 0 23 = sh
theorem nn_mul (a b : Nat) : nn a * nn b = nn (a * b) := by
  show Int32.ofNat a * Int32.ofNat b = Int32.ofNat (a * b)
  rw [Int32.ofNat_mul]
theorem u_told {G T : gx_S} (h : uG G T) {s i : Nat} (hs : s < 8) (hi : i < 6) : n_told (nn s) (nn i) T = some (G (6 + i) s) := by
  unfold n_told
  rw [show (6 : Int32) = nn 6 from rfl, nn_mul, nn_add]
  simp (disch := omega) only [ck_n, nn_c, h.2.2.2 s i hs hi]
theorem ab_s {x y : Int32} (hx : bw x 0 9) (hy : bw y 0 9) : ab (x - y) = ab (y - x) := by
  obtain ⟨e1, h1⟩ := bw_n (n := 9) (by decide) hx
  obtain ⟨e2, h2⟩ := bw_n (n := 9) (by decide) hy
  rw [e1, e2, ab_n _ (by omega) _ (by omega), ab_n _ (by omega) _ (by omega)]
  congr 1
  split <;> split <;> omega
theorem u_size (x : Int32) (T : gx_S) : n_size x T = some (ab x) := by
  unfold n_size ab
  split
  · rfl
  · rw [Int32.zero_sub]
theorem u_isTo {G D T : gx_S} {sh : Int32} (h : pU G D sh T) {s k : Nat} (hs : s < nS G) (hk : k < nP G) : n_isTo (nn s) (nn k) T = some (isv G D s k) := by
  obtain ⟨hG, h0, hu, hd, _⟩ := h
  have hP := (wG_P hG).2
  have hS := (wG_S hG).2
  have t0 : n_told (nn s) 0 T = some (G 6 s) := u_told hu (i := 0) (by omega) (by omega)
  have t2 : n_told (nn s) 2 T = some (G 8 s) := u_told hu (i := 2) (by omega) (by omega)
  have t4 : n_told (nn s) 4 T = some (G 10 s) := u_told hu (i := 4) (by omega) (by omega)
  have t5 : n_told (nn s) 5 T = some (G 11 s) := u_told hu (i := 5) (by omega) (by omega)
  obtain ⟨d1, d2, d3⟩ := hd k (by omega)
  obtain ⟨s1, s2⟩ := hu.2.2.1 k (by omega)
  have ea : ab (G 4 k - G 6 s) = ab (G 6 s - G 4 k) := ab_s (hG.2.2.1 k).1 (hG.2.2.2 s).1
  unfold n_isTo isv bes
  rw [t0, t2, t4, t5]
  simp (disch := omega) only [cp_s, ck_n, nn_c, d1, s1, u_size, ea]
  by_cases q : G 10 s = nn k
  · rw [if_pos q, if_pos q]
    congr 1
    grind
  · rw [if_neg q, if_neg q]
    congr 1
    grind
theorem u_isOpen {G D T : gx_S} {sh : Int32} (h : pU G D sh T) {k : Nat} (hk : k < 6) : n_isOpen (nn k) T = some (ib (opx G D sh k)) := by
  obtain ⟨hG, h0, hu, hd, e⟩ := h
  obtain ⟨ew, hw⟩ := w0_w h0 hk
  obtain ⟨d1, d2, d3⟩ := hd k hk
  obtain ⟨_, _, d3'⟩ := hd _ hw
  have s1 := (hu.2.1 _ hw).1
  unfold n_isOpen n_isOpen_41 n_isOpen_37 opx opn
  rw [e]
  by_cases q : nn k = sh
  · rw [if_pos q]
    simp [q, ib]
  · rw [if_neg q]
    simp (disch := omega) only [ck_n, nn_c, d2, ew, s1, d3']
    by_cases a : G 2 (wh D k) = 4
    · by_cases b : D 3 (wh D k) = 0
      · simp [a, b, ib]
      · simp [a, b, ib, q]
    · simp [a, ib, q]
/-- the first least, by its number -/
def gN (is : Nat → Int32) (op : Nat → Bool) : Nat → Int32
  | 0 => -1
  | k + 1 => if op k = true ∧ (gN is op k = -1 ∨ is k < is (gN is op k).toNatClampNeg) then nn k else gN is op k
theorem gN_c (is : Nat → Int32) (op : Nat → Bool) : ∀ n, n < 2147483648 → (gN is op n = -1 ∧ ∀ j, j < n → ¬ op j = true) ∨ ∃ i, i < n ∧ gN is op n = nn i ∧ op i = true ∧ ∀ j, j < n → op j = true → is i ≤ is j ∧ (j < i → is i < is j)
  | 0, _ => Or.inl ⟨rfl, fun j h => absurd h (by omega)⟩
  | n + 1, hn => by
    have ih := gN_c is op n (by omega)
    unfold gN
    by_cases q : op n = true ∧ (gN is op n = -1 ∨ is n < is (gN is op n).toNatClampNeg)
    · rw [if_pos q]
      refine Or.inr ⟨n, by omega, rfl, q.1, fun j hj ho => ?_⟩
      rcases Nat.lt_or_ge j n with y | y
      · rcases ih with ⟨e, a⟩ | ⟨i, hi, e, h1, a⟩
        · exact absurd ho (a j y)
        · have := (a j y ho).1
          rcases q.2 with z | z
          · exact absurd (e.symm.trans z) (nn_m1 (by omega))
          · rw [e, nn_c (by omega)] at z
            exact ⟨by lia, fun _ => by lia⟩
      · have : j = n := by omega
        subst this
        exact ⟨Int32.le_refl _, fun z => absurd z (by omega)⟩
    · rw [if_neg q]
      rcases ih with ⟨e, a⟩ | ⟨i, hi, e, h1, a⟩
      · refine Or.inl ⟨e, fun j hj ho => ?_⟩
        rcases Nat.lt_or_ge j n with y | y
        · exact a j y ho
        · have : j = n := by omega
          subst this
          exact q ⟨ho, Or.inl e⟩
      · refine Or.inr ⟨i, by omega, e, h1, fun j hj ho => ?_⟩
        rcases Nat.lt_or_ge j n with y | y
        · exact a j y ho
        · have : j = n := by omega
          subst this
          have : ¬ is j < is i := fun z => q ⟨ho, Or.inr (by rw [e, nn_c (by omega)]; exact z)⟩
          exact ⟨by lia, fun z => absurd z (by omega)⟩
theorem gN_isC {is : Nat → Int32} {op : Nat → Bool} {w : Int32} {n : Nat} (hn : n < 2147483648) (hw : w ≤ 1000) : ∃ l, isC (fun k => op k = true) is w n l (if gN is op n = -1 then -1 else if is (gN is op n).toNatClampNeg ≤ w then gN is op n else -1) := by
  rcases gN_c is op n hn with ⟨e, a⟩ | ⟨i, hi, e, h1, a⟩
  · exact ⟨w + 1, Or.inl ⟨by rw [if_pos e], rfl, fun j hj hm => absurd hm (a j hj)⟩⟩
  · rw [e, if_neg (nn_m1 (by omega)), nn_c (by omega)]
    by_cases q : is i ≤ w
    · rw [if_pos q]
      exact ⟨is i, Or.inr ⟨i, hi, rfl, rfl, h1, by lia, fun j hj hm => a j hj hm⟩⟩
    · rw [if_neg q]
      refine ⟨w + 1, Or.inl ⟨rfl, rfl, fun j hj hm => ?_⟩⟩
      have := (a j hj hm).1
      lia
theorem u_goesTo {G D T : gx_S} {sh : Int32} (h : pU G D sh T) {s : Nat} (hs : s < nS G) : n_goesTo (nn s) T = some (cho G D s sh) := by
  have hG := h.1
  obtain ⟨eP, hP⟩ := wG_P hG
  have hS := (wG_S hG).2
  have e1 : T 0 4 = nn (nP G) := by rw [h.2.2.1.1.2.1, eP]
  have t3 : n_told (nn s) 3 T = some (G 9 s) := u_told h.2.2.1 (i := 3) (by omega) (by omega)
  have hch : cho G D s sh = (if gN (isv G D s) (opx G D sh) (nP G) = -1 then -1 else if isv G D s (gN (isv G D s) (opx G D sh) (nP G)).toNatClampNeg ≤ G 9 s then gN (isv G D s) (opx G D sh) (nP G) else -1) := by
    obtain ⟨l, hl⟩ := gN_isC (is := isv G D s) (op := opx G D sh) (w := G 9 s) (n := nP G) (by omega) (by have := (hG.2.2.2 s).2.2.2.1.2; lia)
    exact (cho_u hl).symm
  unfold n_goesTo
  refine lp_for (nP G) (fun j => (gN (isv G D s) (opx G D sh) j, nn j)) (fun j k hj => ?_) (fun k => ?_) 0 5000 (by omega) (by omega)
  · simp only [n_goesTo_4, n_goesTo_40, n_goesTo_44, n_goesTo_45]
    simp (disch := omega) only [e1, nn_le, u_isOpen h (k := j) (by omega), cp_s, nn_s, ib_0]
    rw [if_neg (by omega)]
    rw [show gN (isv G D s) (opx G D sh) (j + 1) = if opx G D sh j = true ∧ (gN (isv G D s) (opx G D sh) j = -1 ∨ isv G D s j < isv G D s (gN (isv G D s) (opx G D sh) j).toNatClampNeg) then nn j else gN (isv G D s) (opx G D sh) j from rfl]
    by_cases a : opx G D sh j = false
    · rw [if_pos a, if_neg (fun z => by rw [a] at z; exact absurd z.1 (by decide))]
    · have a' : opx G D sh j = true := by simpa using a
      rw [if_neg a]
      rcases gN_c (isv G D s) (opx G D sh) j (by omega) with ⟨e, _⟩ | ⟨i, hi, e, _, _⟩
      · rw [if_pos e, if_pos ⟨a', Or.inl e⟩]
      · rw [e, if_neg (nn_m1 (by omega))]
        simp (disch := omega) only [u_isTo h hs hj, u_isTo h hs (show i < nP G by omega), cp_s, nn_c]
        by_cases b : isv G D s i ≤ isv G D s j
        · rw [if_pos b, if_neg]
          rintro ⟨_, z | z⟩
          · exact absurd z (nn_m1 (by omega))
          · lia
        · rw [if_neg b, if_pos ⟨a', Or.inr (by lia)⟩]
  · simp only [n_goesTo_4, n_goesTo_72]
    simp (disch := omega) only [e1, nn_le]
    rw [if_pos (by omega), hch]
    rcases gN_c (isv G D s) (opx G D sh) (nP G) (by omega) with ⟨e, _⟩ | ⟨i, hi, e, _, _⟩
    · rw [if_pos e, if_pos e]
    · rw [e, if_neg (nn_m1 (by omega)), if_neg (nn_m1 (by omega))]
      simp (disch := omega) only [u_isTo h hs hi, t3, cp_s, nn_c]
      split <;> rfl
theorem u_spareOf {G D T : gx_S} (h : pU G D (-1) T) {s : Nat} (hs : s < nS G) : n_spareOf (nn s) T = some (spa G D s) := by
  have hS := (wG_S h.1).2
  have hP := (wG_P h.1).2
  have t3 : n_told (nn s) 3 T = some (G 9 s) := u_told h.2.2.1 (i := 3) (by omega) (by omega)
  unfold n_spareOf spa
  rw [u_goesTo h hs, cp_s]
  rcases cho_n G D s (-1) with e | ⟨i, hi, e, _⟩
  · rw [if_pos e, if_pos e]
  · rw [e, if_neg (nn_m1 (by omega)), if_neg (nn_m1 (by omega))]
    simp (disch := omega) only [nn_c, t3, u_isTo h hs hi, cp_s]
/-- how many a shop sells to -/
def sl (G D : gx_S) (k : Nat) : Int32 := sm (fun s => if cho G D s (-1) = nn k then G 7 s else 0) (nS G)
theorem tot_sl {G D : gx_S} (hG : wG G) (g : Nat → Int32) : tot G D g = sm (fun k => sl G D k * g k) (nP G) := by
  have hP := (wG_P hG).2
  have e : ∀ s, sx G D g s = sm (fun k => (if cho G D s (-1) = nn k then G 7 s else 0) * g k) (nP G) := fun s => by
    rw [sx_d]
    rcases cho_n G D s (-1) with e | ⟨i, hi, e, _⟩
    · rw [if_pos e, sm_cg (g := fun _ => 0) (fun k hk => ?_), sm_0]
      rw [e, if_neg (fun z => nn_m1 (by omega) z.symm), Int32.zero_mul]
    · rw [e, if_neg (nn_m1 (by omega)), nn_c (by omega), sm_cg (g := fun k => if k = i then G 7 s * g k else 0) (fun k hk => ?_), sm_one, if_pos hi]
      by_cases z : k = i
      · subst z; rw [if_pos rfl, if_pos rfl]
      · rw [if_neg z, if_neg (by rw [nn_eq (by omega) (by omega)]; omega), Int32.zero_mul]
  unfold tot
  rw [show sx G D g = fun s => sm (fun k => (if cho G D s (-1) = nn k then G 7 s else 0) * g k) (nP G) from funext e]
  rw [sm_swap]
  refine sm_cg (fun k hk => ?_)
  unfold sl
  rw [← sm_mul]
/-- all but soldNow is as it was -/
def f15 (S T : gx_S) : Prop := ∀ q j, q ≠ 15 → T q j = S q j
theorem pU_f {G D S T : gx_S} {sh : Int32} (h : pU G D sh S) (f : ∀ q j, (q < 9 ∧ (q ≠ 0 ∨ j = 0 ∨ j = 4 ∨ j = 9 ∨ j = 23)) → T q j = S q j) : pU G D sh T := by
  obtain ⟨hG, h0, ⟨⟨a1, a2, a3⟩, b, c, d⟩, hd, e⟩ := h
  refine ⟨hG, h0, ⟨⟨?_, ?_, ?_⟩, fun o ho => ?_, fun k hk => ?_, fun s i hs hi => ?_⟩, fun j hj => ?_, ?_⟩
  · rw [f _ _ (by omega)]; exact a1
  · rw [f _ _ (by omega)]; exact a2
  · rw [f _ _ (by omega)]; exact a3
  · rw [f _ _ (by omega), f _ _ (by omega)]; exact b o ho
  · rw [f _ _ (by omega), f _ _ (by omega)]; exact c k hk
  · rw [f _ _ (by omega)]; exact d s i hs hi
  · rw [f _ _ (by omega), f _ _ (by omega), f _ _ (by omega)]; exact hd j hj
  · rw [f _ _ (by omega)]; exact e
theorem pU_15 {G D S T : gx_S} {sh : Int32} (h : pU G D sh S) (f : f15 S T) : pU G D sh T := pU_f h (fun q j hq => f q j (by omega))
def all (G D : gx_S) : Int32 := sm (fun s => if cho G D s (-1) = -1 then 0 else G 7 s) (nS G)
theorem u_laySold {G D S : gx_S} (h : pU G D (-1) S) : gt (n_laySold S) fun t => t.1 = all G D ∧ f15 S t.2 ∧ ∀ k, k < nP G → t.2 15 k = sl G D k := by
  have hG := h.1
  obtain ⟨eP, hP⟩ := wG_P hG
  obtain ⟨eS, hS⟩ := wG_S hG
  have hu := h.2.2.1
  unfold n_laySold
  refine gt_for (nP G) (fun j t => t.1 = nn j ∧ f15 S t.2 ∧ ∀ i, i < j → t.2 15 i = 0) ?_ ?_ 0 5000 _ (by omega) ⟨rfl, fun _ _ _ => rfl, fun i hi => absurd hi (by omega)⟩ (by omega)
  · rintro j ⟨x, T⟩ k hj ⟨rfl, f, g⟩ hk
    simp only at f g
    simp only [n_laySold_2]
    have e1 : T 0 4 = nn (nP G) := by rw [f _ _ (by omega), hu.1.2.1, eP]
    simp (disch := omega) only [e1, nn_le, nn_c, ck_n, let_s, nn_s]
    rw [if_neg (by omega)]
    refine hk _ ⟨rfl, fun q i hq => ?_, fun i hi => ?_⟩
    · simp only
      rw [gx_st_q _ _ _ _ hq]; exact f q i hq
    · simp only
      by_cases z : i = j
      · subst z; rw [gx_st_eq]
      · rw [gx_st_j _ _ _ z]; exact g i (by omega)
  · rintro ⟨x, T⟩ k ⟨rfl, f, g⟩
    simp only at f g
    simp only [n_laySold_2]
    have e1 : T 0 4 = nn (nP G) := by rw [f _ _ (by omega), hu.1.2.1, eP]
    simp (disch := omega) only [e1, nn_le]
    rw [if_pos (by omega)]
    clear k
    refine gt_for (nS G) (fun s t => t.1 = sm (fun s => if cho G D s (-1) = -1 then 0 else G 7 s) s ∧ t.2.1 = nn s ∧ f15 S t.2.2 ∧ ∀ i, i < nP G → t.2.2 15 i = sm (fun s => if cho G D s (-1) = nn i then G 7 s else 0) s) ?_ ?_ 0 5000 _ (by omega) ?_ (by omega)
    · rintro s ⟨x1, x2, T⟩ k hs ⟨rfl, rfl, f, g⟩ hk
      simp only at f g
      simp only [n_laySold_27, n_laySold_70]
      have p := pU_15 h f
      have e1 : T 0 9 = nn (nS G) := by rw [f _ _ (by omega), hu.1.2.2, eS]
      have t1 : n_told (nn s) 1 T = some (G 7 s) := u_told p.2.2.1 (i := 1) (by omega) (by omega)
      simp (disch := omega) only [e1, nn_le, u_goesTo p hs, cp_s, nn_s, t1]
      rw [if_neg (by omega)]
      rcases cho_n G D s (-1) with e | ⟨i, hi, e, _⟩
      · rw [if_pos e]
        refine hk _ ⟨?_, rfl, f, fun i hi => ?_⟩
        · show _ = sm _ s + (if cho G D s (-1) = -1 then 0 else G 7 s)
          rw [if_pos e, Int32.add_zero]
        · show _ = sm _ s + (if cho G D s (-1) = nn i then G 7 s else 0)
          rw [e, if_neg (fun z => nn_m1 (by omega) z.symm), Int32.add_zero]
          exact g i hi
      · rw [e, if_neg (nn_m1 (by omega))]
        have fT : f15 S (gx_st T 15 i (T 15 i + G 7 s)) := fun q j hq => by rw [gx_st_q _ _ _ _ hq]; exact f q j hq
        have t1' : n_told (nn s) 1 (gx_st T 15 i (T 15 i + G 7 s)) = some (G 7 s) := u_told (pU_15 h fT).2.2.1 (i := 1) (by omega) (by omega)
        simp (disch := omega) only [ck_n, nn_c, let_s, t1', cp_s]
        refine hk _ ⟨?_, rfl, fT, fun j hj => ?_⟩
        · show _ = sm _ s + (if cho G D s (-1) = -1 then 0 else G 7 s)
          rw [e, if_neg (nn_m1 (by omega))]
        · show _ = sm _ s + (if cho G D s (-1) = nn j then G 7 s else 0)
          rw [e]
          by_cases z : j = i
          · subst z
            rw [if_pos rfl]
            simp only
            rw [gx_st_eq, g j hj]
          · rw [if_neg (by rw [nn_eq (by omega) (by omega)]; omega), Int32.add_zero]
            simp only
            rw [gx_st_j _ _ _ z]; exact g j hj
    · rintro ⟨x1, x2, T⟩ k ⟨rfl, rfl, f, g⟩
      simp only at f g
      simp only [n_laySold_27]
      have e1 : T 0 9 = nn (nS G) := by rw [f _ _ (by omega), hu.1.2.2, eS]
      simp (disch := omega) only [e1, nn_le]
      rw [if_pos (by omega)]
      exact gt_some ⟨rfl, f, g⟩
    · exact ⟨rfl, rfl, f, g⟩
theorem u_profitOf {G D S : gx_S} (h : pU G D (-1) S) {o : Nat} (ho : o < 6) : gt (n_profitOf (nn o) S) fun t => t.1 = pro G D o ∧ f15 S t.2 := by
  have hG := h.1
  obtain ⟨eP, hP⟩ := wG_P hG
  unfold n_profitOf
  refine gt_cs (u_laySold h) (fun a T hT => ?_)
  obtain ⟨_, f, g⟩ := hT
  simp only at f g
  have p := pU_15 h f
  have hu := p.2.2.1
  have e1 : T 0 4 = nn (nP G) := by rw [hu.1.2.1, eP]
  have el : gx_loop (n_profitOf_9 (nn o) T) 5000 (0, 0) = some (sm (fun k => sl G D k * gPr G D o k) (nP G), T) := by
    refine lp_for (nP G) (fun j => (sm (fun k => sl G D k * gPr G D o k) j, nn j)) (fun j k hj => ?_) (fun k => ?_) 0 5000 (by omega) (by omega)
    · simp only [n_profitOf_9, n_profitOf_43, n_profitOf_80, n_profitOf_86]
      obtain ⟨d1, d2, d3⟩ := p.2.2.2.1 j (by omega)
      obtain ⟨s1, s2⟩ := hu.2.2.1 j (by omega)
      obtain ⟨s3, s4⟩ := hu.2.1 o ho
      simp (disch := omega) only [e1, nn_le, nn_c, ck_n, nn_s, d1, d2, s2, s3, s4, g j hj]
      rw [if_neg (by omega)]
      rw [show sm (fun k => sl G D k * gPr G D o k) (j + 1) = sm (fun k => sl G D k * gPr G D o k) j + sl G D j * gPr G D o j from rfl]
      have hc := (hG.2.2.1 j).2.1
      have g1 : D 2 j = nn o → gPr G D o j = D 1 j - co G o j := fun q => if_pos q
      have g0 : ¬ D 2 j = nn o → gPr G D o j = 0 := fun q => if_neg q
      have c3 : G 2 o = 3 → co G o j = if 0 ≤ G 5 j - G 3 o then G 5 j - G 3 o else 0 := fun y => by
        unfold co
        rw [if_pos y]
        by_cases z : 0 ≤ G 5 j - G 3 o
        · rw [if_pos z]
          by_cases z2 : 0 < G 5 j - G 3 o
          · rw [if_pos z2]
          · rw [if_neg z2]; lia
        · rw [if_neg z, if_neg (by lia)]
      have c0 : ¬ G 2 o = 3 → co G o j = G 5 j := fun y => if_neg y
      by_cases y : G 2 o = 3
      · rw [if_pos y]
        by_cases q : D 2 j = nn o
        · rw [if_pos q, g1 q, c3 y]
          split <;> rfl
        · rw [if_neg q, g0 q, Int32.mul_zero]
      · rw [if_neg y]
        by_cases q : D 2 j = nn o
        · rw [if_pos q, g1 q, c0 y, Int32.sub_zero, if_pos hc]
        · rw [if_neg q, g0 q, Int32.mul_zero]
    · simp only [n_profitOf_9]
      simp (disch := omega) only [e1, nn_le]
      rw [if_pos (by omega)]
  rw [el]
  exact gt_some ⟨(tot_sl hG _).symm, f⟩

/-! e02: the law's turn: all prices, the first greatest -/
theorem pro_cg {G D D' : gx_S} (h1 : ∀ k, D 1 k = D' 1 k) (h2 : ∀ k, D 2 k = D' 2 k) (h3 : ∀ k, opn G D k = opn G D' k) (o : Nat) : pro G D o = pro G D' o := by
  have e1 : ∀ s, isv G D s = isv G D' s := fun s => funext fun k => by unfold isv; rw [h1]
  have e2 : ∀ sh, opx G D sh = opx G D' sh := fun sh => funext fun k => by unfold opx; rw [h3]
  have e3 : ∀ s sh, cho G D s sh = cho G D' s sh := fun s sh => by unfold cho; rw [e1, e2]
  unfold pro tot
  refine sm_cg (fun s _ => ?_)
  rw [sx_d, sx_d, e3]
  have e4 : ∀ k, gPr G D o k = gPr G D' o k := fun k => by unfold gPr; rw [h1, h2]
  rw [e4]
/-- own shops priced by τ, a comer in -/
def dq (G D : gx_S) (o : Nat) (τ : Nat → Int32) : gx_S := fun i j => if i = 1 then (if j < nP G ∧ ow D o j = true then τ (cu D o j) else D 1 j) else if i = 3 ∧ j = o then (if G 2 o = 4 then 1 else 0) else D i j
theorem dq_1 (G D : gx_S) (o : Nat) (τ : Nat → Int32) (j : Nat) : dq G D o τ 1 j = if j < nP G ∧ ow D o j = true then τ (cu D o j) else D 1 j := by simp [dq]
theorem dq_2 (G D : gx_S) (o : Nat) (τ : Nat → Int32) (j : Nat) : dq G D o τ 2 j = D 2 j := by simp [dq]
theorem dq_3 (G D : gx_S) (o : Nat) (τ : Nat → Int32) (j : Nat) : dq G D o τ 3 j = if j = o then (if G 2 o = 4 then 1 else 0) else D 3 j := by simp [dq]
theorem wh_dq (G D : gx_S) (o : Nat) (τ : Nat → Int32) (k : Nat) : wh (dq G D o τ) k = wh D k := by unfold wh; rw [dq_2]
theorem wD_dq {G D : gx_S} (hw : wD G D) {o : Nat} {τ : Nat → Int32} (ht : ∀ i, bw (τ i) 0 9) : wD G (dq G D o τ) := by
  refine ⟨fun j hj => ⟨?_, ?_, ?_⟩, fun k hk => ?_, fun u hu => ?_⟩
  · rw [dq_1]; split
    · exact ht _
    · exact (hw.1 j hj).1
  · rw [dq_2]; exact (hw.1 j hj).2.1
  · rw [dq_3]
    by_cases z : j = o
    · subst z
      rw [if_pos rfl]
      by_cases y : G 2 j = 4
      · rw [if_pos y]; exact Or.inr ⟨rfl, y⟩
      · rw [if_neg y]; exact Or.inl rfl
    · rw [if_neg z]; exact (hw.1 j hj).2.2
  · rw [wh_dq]; exact hw.2.1 k hk
  · have : cnt G (dq G D o τ) u = cnt G D u := cn_cg (fun j _ => by unfold ow; rw [dq_2])
    rw [this]; exact hw.2.2 u hu
theorem pro_dq (G D : gx_S) (o : Nat) (τ : Nat → Int32) : pro G (dq G D o τ) o = pro G (dt G D o τ) o := by
  refine pro_cg (fun k => by rw [dq_1, dt_1]) (fun k => by rw [dq_2, dt_2]) (fun k => ?_) o
  have e : wh (dt G D o τ) k = wh D k := by unfold wh; rw [dt_2]
  unfold opn
  rw [wh_dq, e, dq_3, dt_3]
  by_cases z : wh D k = o
  · rw [if_pos z, if_pos z, z]
    by_cases y : G 2 o = 4
    · rw [if_pos y]
    · simp [y]
  · rw [if_neg z, if_neg z]
/-- a row in the midst of a turn: all but own prices and whether o is in are as they were -/
def LW (G D R : gx_S) (o : Nat) (S : gx_S) : Prop := (∀ i, i < 45 → (∀ k, k < nP G → ow D o k = true → i ≠ 27 + k) → i ≠ 39 + o → S 0 i = R 0 i) ∧ S 0 (39 + o) = (if G 2 o = 4 then 1 else 0) ∧ S 1 = R 1 ∧ ∀ j, j < 6 → S 2 j = R 0 (27 + j)
theorem LW_X {G D R S : gx_S} {o : Nat} (h : LX G D R) (ho : o < nO G) (w : LW G D R o S) {τ : Nat → Int32} (ht : ∀ i, bw (τ i) 0 9) (hp : ∀ k, k < nP G → ow D o k = true → S 0 (27 + k) = τ (cu D o k)) : LX G (dq G D o τ) S := by
  have hP := (wG_P h.1).2
  have hO := (wG_O h.1).2
  obtain ⟨w1, w2, w3, w4⟩ := w
  have f : ∀ i, i < 45 → (i < 27 ∨ 32 < i) → i ≠ 39 + o → S 0 i = R 0 i := fun i a b c => w1 i a (fun k hk _ => by omega) c
  refine ⟨h.1, wD_dq h.2.1 ht, ⟨?_, ?_, ?_⟩, fun u hu => ⟨?_, ?_, ?_⟩, fun k hk => ⟨?_, ?_, ?_, ?_⟩, fun s i hs hi => ?_⟩
  · rw [f 0 (by omega) (by omega) (by omega)]; exact h.2.2.1.1
  · rw [f 1 (by omega) (by omega) (by omega)]; exact h.2.2.1.2.1
  · rw [f 2 (by omega) (by omega) (by omega)]; exact h.2.2.1.2.2
  · rw [f (3 + u) (by omega) (by omega) (by omega)]; exact (h.2.2.2.1 u hu).1
  · rw [f (9 + u) (by omega) (by omega) (by omega)]; exact (h.2.2.2.1 u hu).2.1
  · rw [dq_3]
    by_cases z : u = o
    · subst z; rw [if_pos rfl]; exact w2
    · rw [if_neg z, f (39 + u) (by omega) (by omega) (by omega)]; exact (h.2.2.2.1 u hu).2.2
  · rw [f (15 + k) (by omega) (by omega) (by omega)]; exact (h.2.2.2.2.1 k hk).1
  · rw [f (21 + k) (by omega) (by omega) (by omega)]; exact (h.2.2.2.2.1 k hk).2.1
  · rw [dq_1]
    by_cases z : ow D o k = true
    · rw [if_pos ⟨hk, z⟩]; exact hp k hk z
    · rw [if_neg (fun y => z y.2), w1 (27 + k) (by omega) (fun k' hk' hz e => by
        have : k' = k := by omega
        subst this; exact z hz) (by omega)]
      exact (h.2.2.2.2.1 k hk).2.2.1
  · rw [dq_2, f (33 + k) (by omega) (by omega) (by omega)]; exact (h.2.2.2.2.1 k hk).2.2.2
  · rw [w3]; exact h.2.2.2.2.2 s i hs hi
/-- prices back from the best, how many are others -/
theorem lt_359 {S : gx_S} (x : Int32) (wv bv : Nat → Int32) (h2 : ∀ j, j < 6 → S 2 j = wv j) (h3 : ∀ j, j < 6 → S 3 j = bv j) : gt (r_turn_359 x S) fun t => t.1 = x + sm (fun k => if bv k = wv k then 0 else 1) 6 ∧ (∀ i, i < 45 → (i < 27 ∨ 32 < i) → t.2 0 i = S 0 i) ∧ (∀ j, j < 6 → t.2 0 (27 + j) = bv j) ∧ t.2 1 = S 1 := by
  unfold r_turn_359
  refine gt_for 6 (fun i t => t.1 = x + sm (fun k => if bv k = wv k then 0 else 1) i ∧ t.2.1 = nn i ∧ (∀ i, i < 45 → (i < 27 ∨ 32 < i) → t.2.2 0 i = S 0 i) ∧ (∀ j, j < i → t.2.2 0 (27 + j) = bv j) ∧ ∀ q, q ≠ 0 → t.2.2 q = S q) ?_ ?_ 0 5000 _ (by omega) ⟨by show x = x + 0; rw [Int32.add_zero], rfl, fun _ _ _ => rfl, fun j hj => absurd hj (by omega), fun _ _ => rfl⟩ (by omega)
  · rintro i ⟨a, b, U⟩ kk hi ⟨ea, eb, f, g, q⟩ hk
    simp only at ea eb f g q
    subst eb
    simp only [r_turn_364, r_turn_403]
    rw [if_neg (by rw [show (6 : Int32) = nn 6 from rfl, nn_le (by omega) (by omega)]; omega)]
    have u3 : U 3 i = bv i := by rw [q 3 (by omega)]; exact h3 i hi
    have u2 : U 2 i = wv i := by rw [q 2 (by omega)]; exact h2 i hi
    simp (disch := omega) only [ja_27, ck_n, nn_c, let_s, gx_st_q, u3, u2, jb_1]
    have nx : ∀ y, y = (if bv i = wv i then 0 else 1) → gt (kk (a + y, nn (i + 1), gx_st U 0 (27 + i) (bv i))) fun t => t.1 = x + sm (fun k => if bv k = wv k then 0 else 1) 6 ∧ (∀ i, i < 45 → (i < 27 ∨ 32 < i) → t.2 0 i = S 0 i) ∧ (∀ j, j < 6 → t.2 0 (27 + j) = bv j) ∧ t.2 1 = S 1 := fun y hy => by
      refine hk _ ⟨?_, rfl, fun i' h1 h2 => ?_, fun j hj => ?_, fun q' hq => ?_⟩
      · simp only
        rw [ea, hy, Int32.add_assoc]
        rfl
      · simp only
        rw [gx_st_j _ _ _ (by omega)]; exact f i' h1 h2
      · simp only
        by_cases z : j = i
        · subst z; rw [gx_st_eq]
        · rw [gx_st_j _ _ _ (by omega)]; exact g j (by omega)
      · simp only
        funext j
        rw [gx_st_q _ _ _ _ hq]
        rw [q q' hq]
    by_cases z : bv i = wv i
    · rw [if_pos z]
      exact nx 0 (by rw [if_pos z])
    · rw [if_neg z]
      exact nx 1 (by rw [if_neg z])
  · rintro ⟨a, b, U⟩ kk ⟨ea, eb, f, g, q⟩
    simp only at ea eb f g q
    subst eb
    simp only [r_turn_364]
    rw [if_pos (by decide)]
    exact gt_some ⟨ea, f, g, q 1 (by omega)⟩
/-- the prices kept as the best -/
theorem lt_291 {S : gx_S} {k192 : Int32 × Int32 × Int32 × gx_S → Option (Int32 × gx_S)} {x2 x3 x6 x8 x9 x10 x11 : Int32} {P : Int32 × gx_S → Prop} (hk : ∀ U : gx_S, U 0 = S 0 → U 1 = S 1 → U 2 = S 2 → (∀ j, j < 6 → U 3 j = S 0 (27 + j)) → gt (k192 (x8, x9, x11 + 1, U)) P) : gt (gx_loop (r_turn_291 k192 x2 x3 x6 x8 x9 x10 x11) 5000 (0, S)) P := by
  refine gt_for 6 (fun i t => t.1 = nn i ∧ (∀ q, q ≠ 3 → t.2 q = S q) ∧ ∀ j, j < i → t.2 3 j = S 0 (27 + j)) ?_ ?_ 0 5000 _ (by omega) ⟨rfl, fun _ _ => rfl, fun j hj => absurd hj (by omega)⟩ (by omega)
  · rintro i ⟨b, U⟩ kk hi ⟨eb, q, g⟩ hkk
    simp only at eb q g
    subst eb
    simp only [r_turn_291]
    rw [if_neg (by rw [show (6 : Int32) = nn 6 from rfl, nn_le (by omega) (by omega)]; omega)]
    have u0 : U 0 = S 0 := q 0 (by omega)
    simp (disch := omega) only [ja_27, ck_n, nn_c, let_s, jb_1, u0]
    refine hkk _ ⟨rfl, fun q' hq => ?_, fun j hj => ?_⟩
    · simp only
      funext j
      rw [gx_st_q _ _ _ _ hq, q q' hq]
    · simp only
      by_cases z : j = i
      · subst z; rw [gx_st_eq]
      · rw [gx_st_j _ _ _ (by omega)]; exact g j (by omega)
  · rintro ⟨b, U⟩ kk ⟨eb, q, g⟩
    simp only at eb q g
    subst eb
    simp only [r_turn_291, r_turn_316]
    rw [if_pos (by decide)]
    exact hk U (q 0 (by omega)) (q 1 (by omega)) (q 2 (by omega)) g
/-- the unit ahead of a shop -/
def un (one : Bool) (c i : Nat) : Nat := if one then 1 else 10 ^ (c - 1 - i)
theorem un_b (one : Bool) {c : Nat} (hc : c ≤ 3) (i : Nat) : 1 ≤ un one c i ∧ un one c i ≤ 100 := by
  unfold un
  cases one with
  | true => simp
  | false =>
    have : ∀ e, e ≤ 2 → 1 ≤ 10 ^ e ∧ 10 ^ e ≤ 100 := by decide
    exact this (c - 1 - i) (by omega)
theorem un_n (one : Bool) {c : Nat} (hc : c ≤ 3) (i : Nat) : (if un one c i ≤ 1 then 1 else un one c i / 10) = un one c (i + 1) := by
  unfold un
  cases one with
  | true => simp
  | false =>
    have : ∀ c, c ≤ 3 → ∀ i, i ≤ 3 → (if (if false = true then 1 else 10 ^ (c - 1 - i)) ≤ 1 then 1 else (if false = true then 1 else 10 ^ (c - 1 - i)) / 10) = if false = true then 1 else 10 ^ (c - 1 - (i + 1)) := by decide
    rcases Nat.lt_or_ge i 4 with z | z
    · exact this c hc i (by omega)
    · rw [show c - 1 - i = 0 by omega, show c - 1 - (i + 1) = 0 by omega]; rfl
theorem un_p {one : Bool} {c m : Nat} (hm : one = true → m < 10) (i : Nat) : nn (m / un one c i % 10) = tm one c m i := by
  unfold un tm
  cases one with
  | true =>
    have := hm rfl
    show nn (m / 1 % 10) = nn m
    rw [Nat.div_one, Nat.mod_eq_of_lt this]
  | false => rfl

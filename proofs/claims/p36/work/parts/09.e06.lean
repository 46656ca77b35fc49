/-! e06: the law's telling: one owner, shop, sort more -/
theorem n_in {x a b : Int32} (h : bw x a b) (Z : gx_S) : n_within x a b Z = some 1 := by
  rw [u_within, if_neg (by have := h.1; lia), if_neg (by have := h.2; lia)]
theorem n_inO {m o : Nat} {Z : gx_S} (hm : m < 1000) (h : Z 0 0 = nn m) (ho : o < m) : n_isOwner (nn o) Z = some 1 := by
  unfold n_isOwner
  rw [h, nn_p (by omega), n_in (nn_b (b := m - 1) (by omega) (by omega)), cp_s]
  exact bz_1
theorem n_inP {m o : Nat} {Z : gx_S} (hm : m < 1000) (h : Z 0 4 = nn m) (ho : o < m) : n_isShop (nn o) Z = some 1 := by
  unfold n_isShop
  rw [h, nn_p (by omega), n_in (nn_b (b := m - 1) (by omega) (by omega)), cp_s]
  exact bz_1
theorem n_owner_e {Z : gx_S} {o : Nat} {kd nu : Int32} (h : Z 0 0 = nn o) (ho : o < 6) (hk : bw kd 0 4) (hn : bw nu 0 99) : n_owner kd nu Z = some (nn o, gx_st (gx_st (gx_st (gx_st Z 1 o kd) 2 o nu) 3 o 0) 0 0 (nn (o + 1))) := by
  unfold n_owner
  rw [n_in hk, cp_s, if_neg i10, n_in hn, cp_s, if_neg i10, h, if_neg (show ¬ nn o = 6 by rw [show (6 : Int32) = nn 6 from rfl, nn_eq (by omega) (by omega)]; omega)]
  simp (disch := omega) only [ck_n, nn_c, let_s, gx_st_q, h, nn_s, gx_st_eq]
  rw [nn_p (by omega), Nat.add_sub_cancel, nar_b (Or.inl rfl)]
theorem n_shop_e {Z : gx_S} {m o p c : Nat} {pl co pr : Int32} (h0 : Z 0 0 = nn m) (hm : m ≤ 6) (ho : o < m) (h4 : Z 0 4 = nn p) (hp : p < 6) (hc : n_shopsOf (nn o) Z = some (nn c)) (hc3 : c ≤ 3) (h1 : bw pl 0 9) (h2 : bw co 0 9) (h3 : bw pr 0 9) : n_shop (nn o) pl co pr Z = if c = 3 then some (-104, Z) else some (nn p, gx_st (gx_st (gx_st (gx_st (gx_st Z 4 p (nn o)) 5 p pl) 6 p co) 7 p pr) 0 4 (nn (p + 1))) := by
  unfold n_shop
  rw [n_inO (by omega) h0 ho, cp_s, if_neg i10, n_in h1, cp_s, if_neg i10, n_in h2, cp_s, if_neg i10, n_in h3, cp_s, if_neg i10, h4, if_neg (show ¬ nn p = 6 by rw [show (6 : Int32) = nn 6 from rfl, nn_eq (by omega) (by omega)]; omega), hc, cp_s]
  rw [show (3 : Int32) = nn 3 from rfl]
  simp (disch := omega) only [nn_eq]
  by_cases z : c = 3
  · rw [if_pos z, if_pos z]
  · rw [if_neg z, if_neg z]
    simp (disch := omega) only [ck_n, nn_c, let_s, gx_st_q, h4, nn_s, gx_st_eq]
    rw [nn_p (by omega), Nat.add_sub_cancel]
theorem n_sort_e {Z : gx_S} {p s : Nat} {pl mn wy wo li lk : Int32} (h4 : Z 0 4 = nn p) (hp : p ≤ 6) (h9 : Z 0 9 = nn s) (hs : s < 8) (h1 : bw pl 0 9) (h2 : bw mn 1 50) (h3 : bw wy 0 5) (h5 : bw wo 0 30) (h6 : bw lk 0 9) (hl : li = -1 ∨ ∃ k, k < p ∧ li = nn k) : n_sort pl mn wy wo li lk Z = some (nn s, gx_st (gx_st (gx_st (gx_st (gx_st (gx_st (gx_st Z 8 (6 * s) pl) 8 (6 * s + 1) mn) 8 (6 * s + 2) wy) 8 (6 * s + 3) wo) 8 (6 * s + 4) li) 8 (6 * s + 5) lk) 0 9 (nn (s + 1))) := by
  have e72 : n_sort_72 pl mn wy wo li lk Z = some (nn s, gx_st (gx_st (gx_st (gx_st (gx_st (gx_st (gx_st Z 8 (6 * s) pl) 8 (6 * s + 1) mn) 8 (6 * s + 2) wy) 8 (6 * s + 3) wo) 8 (6 * s + 4) li) 8 (6 * s + 5) lk) 0 9 (nn (s + 1))) := by
    unfold n_sort_72
    rw [h9, if_neg (show ¬ nn s = 8 by rw [show (8 : Int32) = nn 8 from rfl, nn_eq (by omega) (by omega)]; omega)]
    simp (disch := omega) only [jm_6, jb_1, jb_2, jb_3, jb_4, jb_5, ck_n, nn_c, let_s, gx_st_q, h9, nn_s, gx_st_eq]
    rw [nn_p (by omega), Nat.add_sub_cancel]
  unfold n_sort
  rw [n_in h1, cp_s, if_neg i10, n_in h2, cp_s, if_neg i10, n_in h3, cp_s, if_neg i10, n_in h5, cp_s, if_neg i10, n_in h6, cp_s, if_neg i10]
  rcases hl with e | ⟨k, hk, e⟩
  · rw [if_pos e]; exact e72
  · rw [if_neg (by rw [e]; exact nn_m1 (by omega)), e, n_inP (by omega) h4 hk, cp_s, if_neg i10, ← e]; exact e72
theorem RR_0 {T0 : gx_S} (h23 : T0 0 23 = -1) (h0 : ∀ q j, (q ≠ 0 ∨ j ≠ 23) → T0 q j = 0) : RR (fun _ _ => 0) T0 := by
  have e0 : nn 0 = 0 := rfl
  have z0 : nO (fun _ _ => 0) = 0 := by decide
  have z1 : nP (fun _ _ => 0) = 0 := by decide
  have z2 : nS (fun _ _ => 0) = 0 := by decide
  refine ⟨(fun _ _ => 0, fun _ _ => 0, 0, fun _ => 0, 0, fun _ => 0, fun _ _ => 0, 0), ⟨?_, fun _ _ => rfl, ?_, fun _ _ _ => ⟨rfl, rfl⟩, by decide, by decide, fun t ht => absurd ht (by show ¬ t < 0; omega)⟩, ?_, ?_, Or.inl ⟨rfl, h0 _ _ (by omega)⟩⟩
  · have b (m : Int32) (h : 0 ≤ m) : bw 0 0 m := ⟨Int32.le_refl _, h⟩
    exact ⟨⟨b 6 (by decide), b 6 (by decide), b 8 (by decide)⟩, fun j => ⟨b 4 (by decide), b 99 (by decide)⟩, fun j => ⟨b 9 (by decide), b 9 (by decide)⟩, fun j => ⟨b 9 (by decide), b 50 (by decide), b 5 (by decide), b 30 (by decide), ⟨by show (-1 : Int32) ≤ 0; decide, by show (0 : Int32) ≤ 5; decide⟩, b 9 (by decide)⟩⟩
  · refine ⟨fun j _ => ⟨?_, ?_, Or.inl rfl⟩, fun k hk => ?_, fun o _ => ?_⟩
    · exact ⟨Int32.le_refl _, by show (0 : Int32) ≤ 9; decide⟩
    · exact ⟨Int32.le_refl _, by show (0 : Int32) ≤ 5; decide⟩
    · exact absurd hk (by rw [show nP (qG ((fun _ _ => 0, fun _ _ => 0, 0, fun _ => 0, 0, fun _ => 0, fun _ _ => 0, 0) : rA)) = 0 from z1]; omega)
    · have : cnt (qG ((fun _ _ => 0, fun _ _ => 0, 0, fun _ => 0, 0, fun _ => 0, fun _ _ => 0, 0) : rA)) (qD ((fun _ _ => 0, fun _ _ => 0, 0, fun _ => 0, 0, fun _ => 0, fun _ _ => 0, 0) : rA)) o ≤ nP (fun _ _ => 0) := cn_le _ _
      omega
  · refine ⟨⟨fun _ _ _ _ => rfl, fun s k hs _ => ?_⟩, fun _ _ _ _ _ => rfl, ⟨by show 0 ≤ 50; omega, rfl, fun j hj => absurd hj (by show ¬ j < 0; omega)⟩, rfl, rfl, fun t ht => absurd ht (by show ¬ t < 0; omega)⟩
    exact absurd hs (by rw [show nS (qG ((fun _ _ => 0, fun _ _ => 0, 0, fun _ => 0, 0, fun _ => 0, fun _ _ => 0, 0) : rA)) = 0 from z2]; omega)
  · refine ⟨⟨⟨?_, ?_, ?_⟩, fun o _ => ⟨?_, ?_⟩, fun k _ => ⟨?_, ?_⟩, fun s i _ _ => ?_⟩, fun j _ => ⟨?_, ?_, ?_⟩, h23, ⟨by show 0 ≤ 50; omega, ?_, fun j hj => absurd hj (by show ¬ j < 0; omega)⟩, ?_, ?_, fun t ht => absurd ht (by show ¬ t < 0; omega)⟩ <;> exact h0 _ _ (by omega)
/-- so many owners, shops, sorts are told, as the rows have them -/
def TR (o p s : Nat) (S R : gx_S) : Prop := ∃ Z, RR S Z ∧ (Z 0 0 = nn o ∧ Z 0 4 = nn p ∧ Z 0 9 = nn s) ∧ (∀ u, u < o → R 0 (3 + u) = Z 1 u ∧ R 0 (9 + u) = Z 2 u ∧ R 0 (39 + u) = Z 3 u) ∧ (∀ k, k < p → R 0 (15 + k) = Z 5 k ∧ R 0 (21 + k) = Z 6 k ∧ R 0 (27 + k) = Z 7 k ∧ R 0 (33 + k) = Z 4 k) ∧ ∀ u i, u < s → i < 6 → R 1 (6 * u + i) = Z 8 (6 * u + i)
theorem t_owner {o : Nat} {S R : gx_S} (h : TR o 0 0 S R) (ho : o < 6) {kd nu : Int32} (hk : bw kd 0 4) (hn : bw nu 0 99) : gt (m_ShopsAsOne_owner kd nu S) fun t => t.1 = nn o ∧ ∀ R' : gx_S, (∀ i, i ≠ 3 + o → i ≠ 9 + o → R' 0 i = R 0 i) → R' 0 (3 + o) = kd → R' 0 (9 + o) = nu → R 0 (39 + o) = 0 → TR (o + 1) 0 0 t.2 R' := by
  obtain ⟨Z, hR, ⟨z0, z4, z9⟩, zo, _, _⟩ := h
  obtain ⟨⟨v, S'⟩, e1, ⟨v', Z'⟩, e2, e3, e4⟩ := st_owner hR kd nu
  simp only at e3 e4
  rw [n_owner_e z0 ho hk hn] at e2
  cases e2
  refine ⟨_, e1, e3, fun R' f f3 f9 f39 => ⟨_, e4, ⟨?_, ?_, ?_⟩, fun u hu => ?_, fun k hk => absurd hk (by omega), fun u i hu _ => absurd hu (by omega)⟩⟩
  · rw [gx_st_eq]
  · rw [gx_st_j _ _ _ (by omega), gx_st_q _ _ _ _ (by omega), gx_st_q _ _ _ _ (by omega), gx_st_q _ _ _ _ (by omega)]; exact z4
  · rw [gx_st_j _ _ _ (by omega), gx_st_q _ _ _ _ (by omega), gx_st_q _ _ _ _ (by omega), gx_st_q _ _ _ _ (by omega)]; exact z9
  · by_cases z : u = o
    · subst z
      simp (disch := omega) only [gx_st_q, gx_st_eq]
      refine ⟨f3, f9, ?_⟩
      rw [f _ (by omega) (by omega)]; exact f39
    · obtain ⟨a1, a2, a3⟩ := zo u (by omega)
      simp (disch := omega) only [gx_st_q, gx_st_j]
      rw [f _ (by omega) (by omega), f _ (by omega) (by omega), f _ (by omega) (by omega)]
      exact ⟨a1, a2, a3⟩
/-- how many of the first j shops the rows give an owner -/
def ct (R : gx_S) (o : Nat) : Nat → Nat := cn (fun k => decide (R 0 (33 + k) = nn o))
theorem t_shop {m o p : Nat} {S R : gx_S} (h : TR m p 0 S R) (hm : m ≤ 6) (ho : o < m) (hp : p < 6) {pl co pr : Int32} (h1 : bw pl 0 9) (h2 : bw co 0 9) (h3 : bw pr 0 9) : ct R o p ≤ 3 ∧ gt (m_ShopsAsOne_shop (nn o) pl co pr S) fun t => t.1 = (if ct R o p = 3 then -104 else nn p) ∧ ∀ R' : gx_S, (∀ i, i ≠ 1 → i ≠ 15 + p → i ≠ 21 + p → i ≠ 27 + p → i ≠ 33 + p → R' 0 i = R 0 i) → R' 0 (15 + p) = pl → R' 0 (21 + p) = co → R' 0 (27 + p) = pr → R' 0 (33 + p) = nn o → TR m (if ct R o p = 3 then p else p + 1) 0 t.2 R' := by
  obtain ⟨Z, hR, ⟨z0, z4, z9⟩, zo, zp, _⟩ := h
  obtain ⟨A, hA, hS, hT, hK⟩ := id hR
  have hnP : nP (qG A) = p := by
    have := (RT_c hA hT).2.1
    rw [z4, nn_eq (by omega) (by have := (wG_P hA.1).2; omega)] at this
    exact this.symm
  have hct : cnt (qG A) (qD A) o = ct R o p := by
    unfold cnt cu ct
    rw [hnP]
    refine cn_cg (fun k hk => ?_)
    unfold ow
    rw [← (hT.2.1 k (by omega)).2.1, (zp k hk).2.2.2]
  have hc := u_shopsOf (pU_R hA hT) o
  have hc3 := hA.2.2.1.2.2 o (by omega)
  rw [hct] at hc hc3
  refine ⟨hc3, ?_⟩
  obtain ⟨⟨v, S'⟩, e1, ⟨v', Z'⟩, e2, e3, e4⟩ := st_shop hR (nn o) pl co pr
  simp only at e3 e4
  rw [n_shop_e z0 hm ho z4 hp hc hc3 h1 h2 h3] at e2
  have keep : ∀ R' : gx_S, (∀ i, i ≠ 1 → i ≠ 15 + p → i ≠ 21 + p → i ≠ 27 + p → i ≠ 33 + p → R' 0 i = R 0 i) → (∀ u, u < m → R' 0 (3 + u) = Z 1 u ∧ R' 0 (9 + u) = Z 2 u ∧ R' 0 (39 + u) = Z 3 u) ∧ ∀ k, k < p → R' 0 (15 + k) = Z 5 k ∧ R' 0 (21 + k) = Z 6 k ∧ R' 0 (27 + k) = Z 7 k ∧ R' 0 (33 + k) = Z 4 k := fun R' f => by
    refine ⟨fun u hu => ?_, fun k hk => ?_⟩
    · rw [f _ (by omega) (by omega) (by omega) (by omega) (by omega), f _ (by omega) (by omega) (by omega) (by omega) (by omega), f _ (by omega) (by omega) (by omega) (by omega) (by omega)]
      exact zo u hu
    · rw [f _ (by omega) (by omega) (by omega) (by omega) (by omega), f _ (by omega) (by omega) (by omega) (by omega) (by omega), f _ (by omega) (by omega) (by omega) (by omega) (by omega), f _ (by omega) (by omega) (by omega) (by omega) (by omega)]
      exact zp k hk
  by_cases z : ct R o p = 3
  · simp only [if_pos z] at e2 ⊢
    cases e2
    refine ⟨_, e1, e3, fun R' f _ _ _ _ => ⟨_, e4, ⟨z0, z4, z9⟩, (keep R' f).1, (keep R' f).2, fun u i hu _ => absurd hu (by omega)⟩⟩
  · simp only [if_neg z] at e2 ⊢
    cases e2
    refine ⟨_, e1, e3, fun R' f f15 f21 f27 f33 => ⟨_, e4, ⟨?_, ?_, ?_⟩, fun u hu => ?_, fun k hk => ?_, fun u i hu _ => absurd hu (by omega)⟩⟩
    · simp (disch := omega) only [gx_st_j, gx_st_q]; exact z0
    · rw [gx_st_eq]
    · simp (disch := omega) only [gx_st_j, gx_st_q]; exact z9
    · simp (disch := omega) only [gx_st_q]
      exact (keep R' f).1 u hu
    · by_cases y : k = p
      · subst y
        simp (disch := omega) only [gx_st_q, gx_st_eq]
        exact ⟨f15, f21, f27, f33⟩
      · simp (disch := omega) only [gx_st_q, gx_st_j]
        exact (keep R' f).2 k (by omega)
theorem t_sort {m p s : Nat} {S R : gx_S} (h : TR m p s S R) (hp : p ≤ 6) (hs : s < 8) {pl mn wy wo li lk : Int32} (h1 : bw pl 0 9) (h2 : bw mn 1 50) (h3 : bw wy 0 5) (h5 : bw wo 0 30) (h6 : bw lk 0 9) (hl : li = -1 ∨ ∃ k, k < p ∧ li = nn k) : gt (m_ShopsAsOne_sort pl mn wy wo li lk S) fun t => t.1 = nn s ∧ ∀ R' : gx_S, R' 0 = R 0 → (∀ i, (i < 6 * s ∨ 6 * s + 5 < i) → R' 1 i = R 1 i) → R' 1 (6 * s) = pl → R' 1 (6 * s + 1) = mn → R' 1 (6 * s + 2) = wy → R' 1 (6 * s + 3) = wo → R' 1 (6 * s + 4) = li → R' 1 (6 * s + 5) = lk → TR m p (s + 1) t.2 R' := by
  obtain ⟨Z, hR, ⟨z0, z4, z9⟩, zo, zp, zs⟩ := h
  obtain ⟨⟨v, S'⟩, e1, ⟨v', Z'⟩, e2, e3, e4⟩ := st_sort hR pl mn wy wo li lk
  simp only at e3 e4
  rw [n_sort_e z4 hp z9 hs h1 h2 h3 h5 h6 hl] at e2
  cases e2
  refine ⟨_, e1, e3, fun R' f0 f g0 g1 g2 g3 g4 g5 => ⟨_, e4, ⟨?_, ?_, ?_⟩, fun u hu => ?_, fun k hk => ?_, fun u i hu hi => ?_⟩⟩
  · simp (disch := omega) only [gx_st_j, gx_st_q]; exact z0
  · simp (disch := omega) only [gx_st_j, gx_st_q]; exact z4
  · rw [gx_st_eq]
  · rw [f0]
    simp (disch := omega) only [gx_st_q]
    exact zo u hu
  · rw [f0]
    simp (disch := omega) only [gx_st_q]
    exact zp k hk
  · rw [gx_st_q _ _ _ _ (by omega)]
    by_cases z : u = s
    · subst z
      match i, hi with
      | 0, _ => rw [gx_st_j _ _ _ (by omega), gx_st_j _ _ _ (by omega), gx_st_j _ _ _ (by omega), gx_st_j _ _ _ (by omega), gx_st_j _ _ _ (by omega), Nat.add_zero, gx_st_eq]; exact g0
      | 1, _ => rw [gx_st_j _ _ _ (by omega), gx_st_j _ _ _ (by omega), gx_st_j _ _ _ (by omega), gx_st_j _ _ _ (by omega), gx_st_eq]; exact g1
      | 2, _ => rw [gx_st_j _ _ _ (by omega), gx_st_j _ _ _ (by omega), gx_st_j _ _ _ (by omega), gx_st_eq]; exact g2
      | 3, _ => rw [gx_st_j _ _ _ (by omega), gx_st_j _ _ _ (by omega), gx_st_eq]; exact g3
      | 4, _ => rw [gx_st_j _ _ _ (by omega), gx_st_eq]; exact g4
      | 5, _ => rw [gx_st_eq]; exact g5
    · rw [gx_st_j _ _ _ (by omega), gx_st_j _ _ _ (by omega), gx_st_j _ _ _ (by omega), gx_st_j _ _ _ (by omega), gx_st_j _ _ _ (by omega), gx_st_j _ _ _ (by omega), f _ (by omega)]
      exact zs u i (by omega) hi
theorem TR_X {m p s : Nat} {S R : gx_S} (h : TR m p s S R) (hm : m ≤ 6) (hp : p ≤ 6) (hs : s ≤ 8) (r0 : R 0 0 = nn m) (r1 : R 0 1 = nn p) (r2 : R 0 2 = nn s) : ∃ G D, KX G D S ∧ LX G D R ∧ nO G = m := by
  obtain ⟨Z, hR, ⟨z0, z4, z9⟩, zo, zp, zs⟩ := h
  obtain ⟨A, hA, hS, hT, hK⟩ := hR
  have c := RT_c hA hT
  have hO := (wG_O hA.1).2
  have hP := (wG_P hA.1).2
  have hN := (wG_S hA.1).2
  have eO : nO (qG A) = m := by
    have := c.1
    rw [z0, nn_eq (by omega) (by omega)] at this
    exact this.symm
  have eP : nP (qG A) = p := by
    have := c.2.1
    rw [z4, nn_eq (by omega) (by omega)] at this
    exact this.symm
  have eS : nS (qG A) = s := by
    have := c.2.2
    rw [z9, nn_eq (by omega) (by omega)] at this
    exact this.symm
  refine ⟨qG A, qD A, ⟨A, Z, hA, hS, hT, hK, rfl, rfl⟩, ⟨hA.1, hA.2.2.1, ⟨by rw [eO]; exact r0, by rw [eP]; exact r1, by rw [eS]; exact r2⟩, fun u hu => ?_, fun k hk => ?_, fun u i hu hi => ?_⟩, eO⟩
  · rw [eO] at hu
    obtain ⟨a1, a2, a3⟩ := zo u hu
    rw [a1, a2, a3]
    exact ⟨(hT.1.2.1 u (by omega)).1, (hT.1.2.1 u (by omega)).2, (hT.2.1 u (by omega)).2.2⟩
  · rw [eP] at hk
    obtain ⟨a1, a2, a3, a4⟩ := zp k hk
    rw [a1, a2, a3, a4]
    exact ⟨(hT.1.2.2.1 k (by omega)).1, (hT.1.2.2.1 k (by omega)).2, (hT.2.1 k (by omega)).1, (hT.2.1 k (by omega)).2.1⟩
  · rw [eS] at hu
    rw [zs u i hu hi]
    exact hT.1.2.2.2 u i (by omega) hi
theorem TR_0 : TR 0 0 0 (fun _ _ => 0) (fun _ _ => 0) := by
  refine ⟨fun q j => if q = 0 ∧ j = 23 then -1 else 0, RR_0 rfl (fun q j h => ?_), ⟨rfl, rfl, rfl⟩, fun u hu => absurd hu (by omega), fun k hk => absurd hk (by omega), fun u i hu _ => absurd hu (by omega)⟩
  rw [if_neg (by omega)]

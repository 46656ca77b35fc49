/-! b29: calls that leave all as it was -/
theorem st_as {S T : gx_S} (h : RR S T) (x y : Int32) : cPP (m_ShopsAsOne_as x y S) (n_as x y T) := by
  obtain ⟨A, hA, hS, hT, hK⟩ := h
  have hO := (wG_O hA.1).2
  unfold m_ShopsAsOne_as n_as m_ShopsAsOne_as_52 m_ShopsAsOne_as_56 m_ShopsAsOne_as_57 n_as_52 n_as_56
  rcases chkO (by omega) (RS_c hA hS).1 (RT_c hA hT).1 x with ⟨o, h1, rfl, h3, h4⟩ | ⟨h3, h4⟩
  · rw [h3, h4, cp_s, cp_s, if_pos rfl, if_neg i10]
    rcases chkR y 0 4 S T with ⟨_, g3, g4⟩ | ⟨g3, g4⟩
    · rw [g3, g4, cp_s, cp_s, if_pos rfl, if_neg i10]
      have e1 : S 2 o = qG A 2 o := hS.1.1 _ _ (by omega) (by omega)
      have e2 : T 1 o = qG A 2 o := (hT.1.2.1 o (by omega)).1
      simp (disch := omega) only [ck_n, nn_c, e1, e2, if_neg (show ¬ (1 : Int32) = 0 by decide), ↓reduceIte]
      by_cases c0 : y = 0
      · rw [if_pos c0, if_pos c0]; exact cPP_s
      · rw [if_neg c0, if_neg c0]
        by_cases c1 : y = qG A 2 o
        · rw [if_pos c1, if_pos c1.symm]; exact cPP_s
        · rw [if_neg c1, if_neg (show ¬ qG A 2 o = y from fun z => c1 z.symm)]
          by_cases c2 : y = 1
          · rw [if_pos c2]
            by_cases c3 : qG A 2 o = 4
            · rw [if_pos c3]; exact cPP_s
            · rw [if_neg c3]; exact cPP_s
          · rw [if_neg c2]; exact cPP_s
    · rw [g3, g4, cp_s, cp_s, if_neg i10, if_pos rfl]; exact cPP_s
  · rw [h3, h4, cp_s, cp_s, if_neg i10, if_pos rfl]; exact cPP_s
theorem st_is {S T : gx_S} (h : RR S T) (x y : Int32) : cPP (m_ShopsAsOne_is x y S) (n_is x y T) := by
  obtain ⟨A, hA, hS, hT, hK⟩ := h
  have hn := (wG_S hA.1).2
  have hP := (wG_P hA.1).2
  unfold m_ShopsAsOne_is n_is m_ShopsAsOne_is_16 n_is_25
  rcases chkS (by omega) (RS_c hA hS).2.2 (RT_c hA hT).2.2 x with ⟨s, h1, rfl, h3, h4⟩ | ⟨h3, h4⟩
  · rw [h3, h4, cp_s, cp_s, if_pos rfl, if_neg i10]
    rcases chkP (by omega) (RS_c hA hS).2.1 (RT_c hA hT).2.1 y with ⟨k, g1, rfl, g3, g4⟩ | ⟨g3, g4⟩
    · rw [g3, g4, cp_s, cp_s, if_pos rfl, if_neg i10, x_whatIs (pX_R hA hS) h1 g1, u_isTo (pU_R hA hT) h1 g1]; exact cPP_s
    · rw [g3, g4, cp_s, cp_s, if_neg i10, if_pos rfl]; exact cPP_s
  · rw [h3, h4, cp_s, cp_s, if_neg i10, if_pos rfl]; exact cPP_s
theorem st_goes {S T : gx_S} (h : RR S T) (x : Int32) : cPP (m_ShopsAsOne_goes x S) (n_goes x T) := by
  obtain ⟨A, hA, hS, hT, hK⟩ := h
  have hn := (wG_S hA.1).2
  unfold m_ShopsAsOne_goes n_goes
  rcases chkS (by omega) (RS_c hA hS).2.2 (RT_c hA hT).2.2 x with ⟨s, h1, rfl, h3, h4⟩ | ⟨h3, h4⟩
  · rw [h3, h4, cp_s, cp_s, if_pos rfl, if_neg i10, x_choice (pX_R hA hS) h1, u_goesTo (pU_R hA hT) h1]; exact cPP_s
  · rw [h3, h4, cp_s, cp_s, if_neg i10, if_pos rfl]; exact cPP_s
theorem st_spare {S T : gx_S} (h : RR S T) (x : Int32) : cPP (m_ShopsAsOne_spare x S) (n_spare x T) := by
  obtain ⟨A, hA, hS, hT, hK⟩ := h
  have hn := (wG_S hA.1).2
  unfold m_ShopsAsOne_spare n_spare
  rcases chkS (by omega) (RS_c hA hS).2.2 (RT_c hA hT).2.2 x with ⟨s, h1, rfl, h3, h4⟩ | ⟨h3, h4⟩
  · rw [h3, h4, cp_s, cp_s, if_pos rfl, if_neg i10, x_spareOf (pX_R hA hS) h1, u_spareOf (pU_R hA hT) h1]; exact cPP_s
  · rw [h3, h4, cp_s, cp_s, if_neg i10, if_pos rfl]; exact cPP_s
theorem st_profit {S T : gx_S} (h : RR S T) (x : Int32) : cPS S (m_ShopsAsOne_profit x S) (n_profit x T) := by
  obtain ⟨A, hA, hS, hT, hK⟩ := id h
  have hO := (wG_O hA.1).2
  unfold m_ShopsAsOne_profit n_profit
  rcases chkO (by omega) (RS_c hA hS).1 (RT_c hA hT).1 x with ⟨o, h1, rfl, h3, h4⟩ | ⟨h3, h4⟩
  · rw [h3, h4, cp_s, cp_s, if_pos rfl, if_neg i10, x_profitOf (pX_R hA hS) (by omega), cp_s]
    refine gt_some (gt_cs (u_profitOf (pU_R hA hT) (by omega)) (fun a U hU => gt_some ⟨hU.1.symm, RR_f hA hS hT hK (fP_r S) (f15_Q hU.2)⟩))
  · rw [h3, h4, cp_s, cp_s, if_neg i10, if_pos rfl]; exact cPS_s h
/-- how many a shop sells to, by the class -/
theorem so_sl1 {G D : gx_S} (hG : wG G) {k : Nat} (hk : k < nP G) : tot G D (gSo (nn (2 ^ k))) = sl G D k := by
  have hP := (wG_P hG).2
  rw [tot_sl hG, sm_cg (g := fun j => if j = k then sl G D j else 0) (fun j hj => ?_), sm_one, if_pos hk]
  have hb := fb_bi (2 ^ k) (Nat.lt_of_lt_of_le (Nat.pow_lt_pow_right (by decide) (show k < 6 by omega)) (by decide)) j (by omega)
  unfold gSo
  rw [hb]
  have ht : (2 ^ k).testBit j = decide (k = j) := Nat.testBit_two_pow
  rw [ht]
  by_cases z : j = k
  · subst z
    simp
  · have : ¬ k = j := fun y => z y.symm
    simp [z, this]
theorem u_about {G D T : gx_S} (p : pU G D (-1) T) {k : Nat} (hk : k < nP G) (y : Int32) (hy : bw y 0 5) : gt (n_aboutOf (nn k) y T) fun r => r.1 = (if y = 0 then D 2 k else if y = 1 then G 4 k else if y = 2 then G 5 k else if y = 3 then D 1 k else if y = 4 then ib (opn G D k) else sl G D k) ∧ f15 T r.2 := by
  have hP := (wG_P p.1).2
  obtain ⟨d1, d2, d3⟩ := p.2.2.2.1 k (by omega)
  obtain ⟨s1, s2⟩ := p.2.2.1.2.2.1 k (by omega)
  have f0 : f15 T T := fun _ _ _ => rfl
  unfold n_aboutOf
  simp (disch := omega) only [ck_n, nn_c, d1, d2, s1, s2, u_isOpen p (k := k) (by omega), opx_m1 (G := G) (D := D) (k := k), cp_s, ib_0]
  by_cases c0 : y = 0
  · rw [if_pos c0, if_pos c0]; exact gt_some ⟨rfl, f0⟩
  · rw [if_neg c0, if_neg c0]
    by_cases c1 : y = 1
    · rw [if_pos c1, if_pos c1]; exact gt_some ⟨rfl, f0⟩
    · rw [if_neg c1, if_neg c1]
      by_cases c2 : y = 2
      · rw [if_pos c2, if_pos c2]; exact gt_some ⟨rfl, f0⟩
      · rw [if_neg c2, if_neg c2]
        by_cases c3 : y = 3
        · rw [if_pos c3, if_pos c3]; exact gt_some ⟨rfl, f0⟩
        · rw [if_neg c3, if_neg c3]
          by_cases c4 : y = 4
          · rw [if_pos c4, if_pos c4]
            cases opn G D k with
            | false => rw [if_pos rfl]; exact gt_some ⟨rfl, f0⟩
            | true => rw [if_neg (show ¬ true = false by decide)]; exact gt_some ⟨rfl, f0⟩
          · rw [if_neg c4, if_neg c4]
            refine gt_cs (u_laySold p) (fun a U hU => ?_)
            obtain ⟨_, f, g⟩ := hU
            simp only at f g
            exact gt_some ⟨g k hk, f⟩
theorem x_about {G D S : gx_S} (p : pX 0 G D S) {k : Nat} (hk : k < nP G) (y : Int32) (hno : m_ShopsAsOne_isNoShop (nn k) S = some 0) : m_ShopsAsOne_about (nn k) y S = some (if 0 ≤ y ∧ y ≤ 5 then (if y = 0 then D 2 k else if y = 1 then G 4 k else if y = 2 then G 5 k else if y = 3 then D 1 k else if y = 4 then ib (opn G D k) else sl G D k) else -102) := by
  have hP := (wG_P p.1).2
  have v := p.2.2.1.1
  have d1 : S 22 k = D 1 k := p.2.2.2 1 k (by omega) (by omega) (by omega)
  have d2 : S 23 k = D 2 k := p.2.2.2 2 k (by omega) (by omega) (by omega)
  unfold m_ShopsAsOne_about
  rw [hno, cp_s, if_pos rfl, fb_1 k (by omega), x_soldBy p, cp_s, so_sl1 p.1 hk]
  simp (disch := omega) only [ck_n, nn_c, d1, d2, v, x_isOpen p (k := k) (by omega), cp_s, ib_0]
  by_cases c0 : y = 0
  · subst c0; rw [if_pos rfl, if_pos (by decide), if_pos rfl]
  · by_cases c1 : y = 1
    · subst c1; rw [if_neg c0, if_pos rfl, if_pos (by decide), if_neg c0, if_pos rfl]
    · by_cases c2 : y = 2
      · subst c2; rw [if_neg c0, if_neg c1, if_pos rfl, if_pos (by decide), if_neg c0, if_neg c1, if_pos rfl]
      · by_cases c3 : y = 3
        · subst c3; rw [if_neg c0, if_neg c1, if_neg c2, if_pos rfl, if_pos (by decide), if_neg c0, if_neg c1, if_neg c2, if_pos rfl]
        · by_cases c4 : y = 4
          · subst c4
            rw [if_neg c0, if_neg c1, if_neg c2, if_neg c3, if_pos rfl, if_pos (show (0 : Int32) ≤ 4 ∧ (4 : Int32) ≤ 5 by decide), if_neg c0, if_neg c1, if_neg c2, if_neg c3, if_pos rfl]
            cases opn G D k <;> rfl
          · by_cases c5 : y = 5
            · subst c5
              rw [if_neg c0, if_neg c1, if_neg c2, if_neg c3, if_neg c4, if_pos rfl, if_pos (by decide), if_neg c0, if_neg c1, if_neg c2, if_neg c3, if_neg c4]
            · rw [if_neg c0, if_neg c1, if_neg c2, if_neg c3, if_neg c4, if_neg c5, if_neg]
              rintro ⟨z1, z2⟩
              obtain ⟨e, hb⟩ := bw_n (x := y) (n := 5) (by decide) ⟨z1, z2⟩
              have : ∀ m, m ≤ 5 → nn m = 0 ∨ nn m = 1 ∨ nn m = 2 ∨ nn m = 3 ∨ nn m = 4 ∨ nn m = 5 := by decide
              rcases this _ hb with w | w | w | w | w | w
              · exact c0 (e.trans w)
              · exact c1 (e.trans w)
              · exact c2 (e.trans w)
              · exact c3 (e.trans w)
              · exact c4 (e.trans w)
              · exact c5 (e.trans w)
theorem st_about {S T : gx_S} (h : RR S T) (x y : Int32) : cPS S (m_ShopsAsOne_about x y S) (n_about x y T) := by
  obtain ⟨A, hA, hS, hT, hK⟩ := id h
  have hP := (wG_P hA.1).2
  unfold n_about
  rcases chkP (by omega) (RS_c hA hS).2.1 (RT_c hA hT).2.1 x with ⟨k, h1, rfl, h3, h4⟩ | ⟨h3, h4⟩
  · rw [x_about (pX_R hA hS) h1 y h3, h4, cp_s, if_neg i10]
    rcases chkR y 0 5 S T with ⟨g, _, g4⟩ | ⟨g3, g4⟩
    · rw [g4, cp_s, if_neg i10, if_pos (show 0 ≤ y ∧ y ≤ 5 from g)]
      exact gt_some (gt_cs (u_about (pU_R hA hT) h1 y g) (fun a U hU => gt_some ⟨hU.1.symm, RR_f hA hS hT hK (fP_r S) (f15_Q hU.2)⟩))
    · rw [g4, cp_s, if_pos rfl, if_neg]
      · exact cPS_s h
      · rintro ⟨z1, z2⟩
        unfold m_ShopsAsOne_isNot m_ShopsAsOne_isNot_10 at g3
        rw [if_neg (by lia), if_pos z2] at g3
        exact absurd (Option.some.inj g3) (by decide)
  · unfold m_ShopsAsOne_about
    rw [h3, h4, cp_s, cp_s, if_neg i10, if_pos rfl]; exact cPS_s h
theorem st_instead {S T : gx_S} (h : RR S T) (x y : Int32) : cPS S (m_ShopsAsOne_instead x y S) (n_instead x y T) := by
  obtain ⟨A, hA, hS, hT, hK⟩ := id h
  have hn := (wG_S hA.1).2
  have hP := (wG_P hA.1).2
  unfold m_ShopsAsOne_instead n_instead m_ShopsAsOne_instead_16 n_instead_25
  rcases chkS (by omega) (RS_c hA hS).2.2 (RT_c hA hT).2.2 x with ⟨s, h1, rfl, h3, h4⟩ | ⟨h3, h4⟩
  · rw [h3, h4, cp_s, cp_s, if_pos rfl, if_neg i10]
    rcases chkP (by omega) (RS_c hA hS).2.1 (RT_c hA hT).2.1 y with ⟨k, g1, rfl, g3, g4⟩ | ⟨g3, g4⟩
    · rw [g3, g4, cp_s, cp_s, if_pos rfl, if_neg i10, x_choice (pX_R hA hS) h1, cp_s]
      exact gt_some (gt_cs (u_insteadOf (pU_R hA hT) h1 (nn k)) (fun a U hU => gt_some ⟨hU.1.symm, RR_M hA hS hT hK (fP_r S) hU.2.1 hU.2.2.2.2.2.1⟩))
    · rw [g3, g4, cp_s, cp_s, if_neg i10, if_pos rfl]; exact cPS_s h
  · rw [h3, h4, cp_s, cp_s, if_neg i10, if_pos rfl]; exact cPS_s h
theorem st_from {S T : gx_S} (h : RR S T) (x y : Int32) : cPS S (m_ShopsAsOne_from x y S) (n_from x y T) := by
  obtain ⟨A, hA, hS, hT, hK⟩ := id h
  have hP := (wG_P hA.1).2
  unfold m_ShopsAsOne_from n_from
  rcases chkP (by omega) (RS_c hA hS).2.1 (RT_c hA hT).2.1 x with ⟨a, h1, rfl, h3, h4⟩ | ⟨h3, h4⟩
  · rw [h3, h4, cp_s, cp_s, if_pos rfl, if_neg i10]
    rcases chkP (by omega) (RS_c hA hS).2.1 (RT_c hA hT).2.1 y with ⟨b, g1, rfl, g3, g4⟩ | ⟨g3, g4⟩
    · rw [g3, g4, cp_s, cp_s, if_pos rfl, if_neg i10]
      by_cases z : nn a = nn b
      · rw [if_pos z, if_pos z]; exact cPS_s h
      · rw [if_neg z, if_neg z, x_from (pX_R hA hS)]
        exact gt_some (gt_mono (u_from (pU_R hA hT) a b) (fun r hU => ⟨hU.1.symm, RR_M hA hS hT hK (fP_r S) hU.2.1 hU.2.2.2.2.2.1⟩))
    · rw [g3, g4, cp_s, cp_s, if_neg i10, if_pos rfl]; exact cPS_s h
  · rw [h3, h4, cp_s, cp_s, if_neg i10, if_pos rfl]; exact cPS_s h

/-! b30: calls that tell the street -/
theorem st_price {S T : gx_S} (h : RR S T) (x y : Int32) : cSS (m_ShopsAsOne_price x y S) (n_price x y T) := by
  obtain ⟨A, hA, hS, hT, hK⟩ := id h
  have hP := (wG_P hA.1).2
  unfold m_ShopsAsOne_price n_price
  rcases chkP (by omega) (RS_c hA hS).2.1 (RT_c hA hT).2.1 x with ⟨k, h1, rfl, h3, h4⟩ | ⟨h3, h4⟩
  · rw [h3, h4, cp_s, cp_s, if_pos rfl, if_neg i10]
    rcases chkR y 0 9 S T with ⟨g, g3, g4⟩ | ⟨g3, g4⟩
    · rw [g3, g4, cp_s, cp_s, if_pos rfl, if_neg i10]
      have e1 : S 22 k = qD A 1 k := hS.2.1 1 k (by omega) (by omega) (by omega)
      have e2 : T 7 k = qD A 1 k := (hT.2.1 k (by omega)).1
      simp (disch := omega) only [ck_n, nn_c, e1, e2, let_s]
      obtain ⟨D', hD'⟩ : ∃ D' : gx_S, D' = fun i j => if i = 1 ∧ j = k then y else qD A i j := ⟨_, rfl⟩
      have d1 : ∀ j, D' 1 j = if j = k then y else qD A 1 j := fun j => by rw [hD']; simp
      have d2 : ∀ j, D' 2 j = qD A 2 j := fun j => by rw [hD']; simp
      have d3 : ∀ j, D' 3 j = qD A 3 j := fun j => by rw [hD']; simp
      have hw : wD (qG A) D' := by
        have w := hA.2.2.1
        refine ⟨fun j hj => ⟨?_, ?_, ?_⟩, fun j hj => ?_, fun o ho => ?_⟩
        · rw [d1]; split
          · exact g
          · exact (w.1 j hj).1
        · rw [d2]; exact (w.1 j hj).2.1
        · rw [d3]; exact (w.1 j hj).2.2
        · unfold wh; rw [d2]; exact w.2.1 j hj
        · have : cnt (qG A) D' o = cnt (qG A) (qD A) o := cn_cg (fun j _ => by unfold ow; rw [d2])
          rw [this]; exact w.2.2 o ho
      have hz : zD (qG A) D' := fun j hj hn => by
        rw [d1, d2, if_neg (by omega)]; exact hA.2.2.2.1 j hj hn
      refine gt_some (gt_some ⟨rfl, RR_D hA hS hT hK hw hz (fun q j hq => gx_st_q _ _ _ _ (by omega)) (fun i j a b c => ?_) (fun q j a1 a2 a3 a4 a5 => gx_st_q _ _ _ _ (by omega)) (fun j hj => ⟨?_, ?_, ?_⟩)⟩)
      · match i, a, b with
        | 1, _, _ =>
          show gx_st S 22 k y 22 j = _
          rw [d1]
          by_cases z : j = k
          · subst z; rw [gx_st_eq, if_pos rfl]
          · rw [gx_st_j _ _ _ z, if_neg z]; exact hS.2.1 1 j (by omega) (by omega) c
        | 2, _, _ =>
          show gx_st S 22 k y 23 j = _
          rw [d2, gx_st_q _ _ _ _ (by omega)]; exact hS.2.1 2 j (by omega) (by omega) c
        | 3, _, _ =>
          show gx_st S 22 k y 24 j = _
          rw [d3, gx_st_q _ _ _ _ (by omega)]; exact hS.2.1 3 j (by omega) (by omega) c
      · show gx_st T 7 k y 7 j = _
        rw [d1]
        by_cases z : j = k
        · subst z; rw [gx_st_eq, if_pos rfl]
        · rw [gx_st_j _ _ _ z, if_neg z]; exact (hT.2.1 j hj).1
      · show gx_st T 7 k y 4 j = _
        rw [d2, gx_st_q _ _ _ _ (by omega)]; exact (hT.2.1 j hj).2.1
      · show gx_st T 7 k y 3 j = _
        rw [d3, gx_st_q _ _ _ _ (by omega)]; exact (hT.2.1 j hj).2.2
    · rw [g3, g4, cp_s, cp_s, if_neg i10, if_pos rfl]; exact cSS_s h
  · rw [h3, h4, cp_s, cp_s, if_neg i10, if_pos rfl]; exact cSS_s h
theorem nn_ge {k n : Nat} (hk : k < 1000) (hn : n < 1000) : bw (nn k) 0 (nn n) ↔ k ≤ n := by
  unfold bw
  rw [nn_0, nn_le (by omega) (by omega), nn_le (by omega) (by omega)]
  omega
/-- kept stands as the street grows -/
theorem RK_G {G G' S T S' T' : gx_S} (h : RK G S T) (f : ∀ q j, (q = 0 ∧ 12 ≤ j ∧ j ≤ 14) ∨ (29 < q ∧ q < 33) → S' q j = S q j) (g : ∀ q j, (q = 0 ∧ 17 ≤ j ∧ j ≤ 19) ∨ (11 < q ∧ q < 15) → T' q j = T q j) (hO : nO G ≤ nO G') (hP : nP G ≤ nP G') (hk : ∀ j, j < nO G → G' 2 j = G 2 j) (hw : ∀ K ko, (∀ j, j < 6 → K 3 j = 0 ∨ K 3 j = 1 ∧ G' 2 j = 4) → ko ≤ nO G → nP G = nP G' → wD G K ∧ zD G K → wD G' K ∧ zD G' K) : RK G' S' T' := by
  have h := RK_f h f g
  rcases h with h | ⟨h1, h2, K, ko, ks, h3, h4, h5, h6, h7, h8, h9, h10, h11, h12, h13⟩
  · exact Or.inl h
  · have hk3 : ∀ j, j < 6 → K 3 j = 0 ∨ K 3 j = 1 ∧ G' 2 j = 4 := fun j hj => by
      rcases Nat.lt_or_ge j ko with y | y
      · rw [hk j (by omega)]; exact h12 j hj
      · exact Or.inl (h11 j hj y)
    refine Or.inr ⟨h1, h2, K, ko, ks, h3, h4, h5, h6, by omega, by omega, h9, fun j hj hh => h10 j hj (by omega), h11, hk3, fun e => ?_⟩
    exact hw K ko hk3 h7 (by omega) (h13 (by omega))
theorem st_owner {S T : gx_S} (h : RR S T) (x y : Int32) : cSS (m_ShopsAsOne_owner x y S) (n_owner x y T) := by
  obtain ⟨A, hA, hS, hT, hK⟩ := id h
  obtain ⟨eO, hO⟩ := wG_O hA.1
  have hP := wG_P hA.1
  have hN := wG_S hA.1
  unfold m_ShopsAsOne_owner n_owner
  rcases chkR x 0 4 S T with ⟨g, g3, g4⟩ | ⟨g3, g4⟩
  · rw [g3, g4, cp_s, cp_s, if_pos rfl, if_neg i10]
    rcases chkR y 0 99 S T with ⟨k, k3, k4⟩ | ⟨k3, k4⟩
    · rw [k3, k4, cp_s, cp_s, if_pos rfl, if_neg i10]
      unfold m_Street_addOwner
      have e1 := (RS_c hA hS).1
      have e2 := (RT_c hA hT).1
      rw [e1, e2, show (6 : Int32) = nn 6 from rfl]
      simp (disch := omega) only [nn_lt, nn_eq]
      by_cases z : nO (qG A) < 6
      · rw [if_pos z, if_neg (by omega)]
        simp (disch := omega) only [ck_n, nn_c, let_s, gx_st_q, e1, e2, cs_s, nn_s, gx_st_eq]
        rw [nn_p (by omega), Nat.add_sub_cancel, nar_b (Or.inl rfl)]
        obtain ⟨o, ho⟩ : ∃ o, o = nO (qG A) := ⟨_, rfl⟩
        rw [← ho]
        rw [← ho] at z
        obtain ⟨G', hG'⟩ : ∃ G' : gx_S, G' = fun q j => if q = 1 ∧ j = 0 then nn (o + 1) else if q = 2 ∧ j = o then x else if q = 3 ∧ j = o then y else qG A q j := ⟨_, rfl⟩
        have g1 : G' 1 0 = nn (o + 1) := by rw [hG']; simp
        have g2 : ∀ j, G' 2 j = if j = o then x else qG A 2 j := fun j => by rw [hG']; simp
        have g3 : ∀ j, G' 3 j = if j = o then y else qG A 3 j := fun j => by rw [hG']; simp
        have g1' : ∀ j, j ≠ 0 → G' 1 j = qG A 1 j := fun j hj => by rw [hG']; simp [hj]
        have gq : ∀ q j, q ≠ 1 → q ≠ 2 → q ≠ 3 → G' q j = qG A q j := fun q j a b c => by rw [hG']; simp [a, b, c]
        have nO' : nO G' = o + 1 := by unfold nO; rw [g1, nn_c (by omega)]
        have nP' : nP G' = nP (qG A) := by unfold nP; rw [g1' 1 (by omega)]
        have nS' : nS G' = nS (qG A) := by unfold nS; rw [g1' 2 (by omega)]
        have hwG : wG G' := by
          obtain ⟨⟨a1, a2, a3⟩, b, c, d⟩ := hA.1
          refine ⟨⟨?_, ?_, ?_⟩, fun j => ⟨?_, ?_⟩, fun j => ?_, fun j => ?_⟩
          · rw [g1]; exact nn_b (b := 6) (by omega) (by decide)
          · rw [g1' 1 (by omega)]; exact a2
          · rw [g1' 2 (by omega)]; exact a3
          · rw [g2]; split
            · exact g
            · exact (b j).1
          · rw [g3]; split
            · exact k
            · exact (b j).2
          · rw [gq _ _ (by omega) (by omega) (by omega), gq _ _ (by omega) (by omega) (by omega)]; exact c j
          · rw [gq _ _ (by omega) (by omega) (by omega), gq _ _ (by omega) (by omega) (by omega), gq _ _ (by omega) (by omega) (by omega), gq _ _ (by omega) (by omega) (by omega), gq _ _ (by omega) (by omega) (by omega), gq _ _ (by omega) (by omega) (by omega)]; exact d j
        have hbes : ∀ s k, bes G' s k = bes (qG A) s k := fun s k => by
          unfold bes
          rw [gq _ _ (by omega) (by omega) (by omega), gq _ _ (by omega) (by omega) (by omega), gq _ _ (by omega) (by omega) (by omega), gq _ _ (by omega) (by omega) (by omega), gq _ _ (by omega) (by omega) (by omega)]
        have hwD : ∀ K, (∀ j, j < 6 → K 3 j = 0 ∨ K 3 j = 1 ∧ G' 2 j = 4) → wD (qG A) K → wD G' K := fun K hK3 w => by
          refine ⟨fun j hj => ⟨(w.1 j hj).1, (w.1 j hj).2.1, hK3 j hj⟩, fun j hj => ?_, fun u hu => ?_⟩
          · rw [nP'] at hj
            have := w.2.1 j hj
            omega
          · have : cnt G' K u = cnt (qG A) K u := by unfold cnt; rw [nP']
            rw [this]; exact w.2.2 u hu
        have hzD : ∀ K, zD (qG A) K → zD G' K := fun K w j hj hn => by
          rw [nP'] at hn
          exact w j hj hn
        have hD3 : ∀ j, j < 6 → qD A 3 j = 0 ∨ qD A 3 j = 1 ∧ G' 2 j = 4 := fun j hj => by
          rcases (hA.2.2.1.1 j hj).2.2 with w | w
          · exact Or.inl w
          · by_cases z : j = o
            · have : qG A 2 j = 0 := hA.2.1 j (by omega)
              rw [this] at w
              exact absurd w.2 (by decide)
            · rw [g2, if_neg z]; exact Or.inr w
        refine gt_some (gt_some ⟨rfl, (G', A.2), ⟨hwG, fun j hj => ?_, hwD _ hD3 hA.2.2.1, hzD _ hA.2.2.2.1, hA.2.2.2.2⟩, ?_, ?_, ?_⟩)
        · have hj' : o + 1 ≤ j := by
            have : nO (qG ((G', A.2) : rA)) = o + 1 := nO'
            omega
          show G' 2 j = 0
          rw [g2, if_neg (by omega)]
          exact hA.2.1 j (by omega)
        · obtain ⟨s1, s2, s3, s4, s5, s6⟩ := hS
          refine ⟨⟨fun q j a b => ?_, fun s k hs hk => ?_⟩, fun i j a b c => ?_, ⟨s3.1, ?_, fun j hj => ?_⟩, ?_, ?_, fun t ht => ⟨(s6 t ht).1, ?_, fun j hj => ?_⟩⟩
          · show gx_st (gx_st (gx_st S 2 o x) 3 o y) 1 0 (nn (o + 1)) q j = G' q j
            by_cases q1 : q = 1
            · subst q1
              by_cases z : j = 0
              · subst z; rw [gx_st_eq, g1]
              · rw [gx_st_j _ _ _ z, gx_st_q _ _ _ _ (by omega), gx_st_q _ _ _ _ (by omega), g1' j z]; exact s1.1 1 j a b
            · rw [gx_st_q _ _ _ _ q1]
              by_cases q3 : q = 3
              · subst q3
                rw [g3]
                by_cases z : j = o
                · subst z; rw [gx_st_eq, if_pos rfl]
                · rw [gx_st_j _ _ _ z, if_neg z, gx_st_q _ _ _ _ (by omega)]; exact s1.1 3 j a b
              · rw [gx_st_q _ _ _ _ q3]
                by_cases q2 : q = 2
                · subst q2
                  rw [g2]
                  by_cases z : j = o
                  · subst z; rw [gx_st_eq, if_pos rfl]
                  · rw [gx_st_j _ _ _ z, if_neg z]; exact s1.1 2 j a b
                · rw [gx_st_q _ _ _ _ q2, gq q j q1 q2 q3]; exact s1.1 q j a b
          · have hs' : s < nS (qG A) := by rw [← nS']; exact hs
            have hk' : k < nP (qG A) := by rw [← nP']; exact hk
            show gx_st (gx_st (gx_st S 2 o x) 3 o y) 1 0 (nn (o + 1)) (13 + s) k = bes G' s k
            rw [gx_st_q _ _ _ _ (by omega), gx_st_q _ _ _ _ (by omega), gx_st_q _ _ _ _ (by omega), hbes]; exact s1.2 s k hs' hk'
          · show gx_st (gx_st (gx_st S 2 o x) 3 o y) 1 0 (nn (o + 1)) (21 + 4 * 0 + i) j = _
            rw [gx_st_q _ _ _ _ (by omega), gx_st_q _ _ _ _ (by omega), gx_st_q _ _ _ _ (by omega)]; exact s2 i j a b c
          · simp (disch := omega) only [gx_st_q]; exact s3.2.1
          · simp (disch := omega) only [gx_st_q]; exact s3.2.2 j hj
          · simp (disch := omega) only [gx_st_q]; exact s4
          · simp (disch := omega) only [gx_st_q]; exact s5
          · simp (disch := omega) only [gx_st_q]; exact (s6 t ht).2.1
          · simp (disch := omega) only [gx_st_q]; exact (s6 t ht).2.2 j hj
        · obtain ⟨⟨⟨a1, a2, a3⟩, b, c, d⟩, h2, h3, h4, h5, h6, h7⟩ := hT
          refine ⟨⟨⟨?_, ?_, ?_⟩, fun u hu => ?_, fun k hk => ?_, fun s i hs hi => ?_⟩, fun j hj => ⟨?_, ?_, ?_⟩, ?_, ⟨h4.1, ?_, fun j hj => ?_⟩, ?_, ?_, fun t ht => ⟨(h7 t ht).1, ?_, fun j hj => ?_⟩⟩
          · show _ = G' 1 0
            rw [g1]; simp only [gx_st_eq]
          · show _ = G' 1 1
            rw [g1' 1 (by omega)]
            simp (disch := omega) only [gx_st_q, gx_st_j]; exact a2
          · show _ = G' 1 2
            rw [g1' 2 (by omega)]
            simp (disch := omega) only [gx_st_q, gx_st_j]; exact a3
          · show _ = G' 2 u ∧ _ = G' 3 u
            rw [g2, g3]
            by_cases z : u = o
            · subst z
              simp (disch := omega) only [gx_st_q, gx_st_eq, ↓reduceIte]
              exact ⟨trivial, trivial⟩
            · simp (disch := omega) only [gx_st_q, gx_st_j, if_neg z]
              exact b u hu
          · show _ = G' 4 k ∧ _ = G' 5 k
            rw [gq _ _ (by omega) (by omega) (by omega), gq _ _ (by omega) (by omega) (by omega)]
            simp (disch := omega) only [gx_st_q]; exact c k hk
          · show _ = G' (6 + i) s
            rw [gq _ _ (by omega) (by omega) (by omega)]
            simp (disch := omega) only [gx_st_q]; exact d s i hs hi
          · simp (disch := omega) only [gx_st_q]; exact (h2 j hj).1
          · simp (disch := omega) only [gx_st_q]; exact (h2 j hj).2.1
          · show _ = qD A 3 j
            by_cases z : j = o
            · subst z
              simp (disch := omega) only [gx_st_q, gx_st_eq]
              rcases (hA.2.2.1.1 j hj).2.2 with w | w
              · exact w.symm
              · have : qG A 2 j = 0 := hA.2.1 j (by omega)
                rw [this] at w
                exact absurd w.2 (by decide)
            · simp (disch := omega) only [gx_st_q, gx_st_j]; exact (h2 j hj).2.2
          · simp (disch := omega) only [gx_st_q, gx_st_j]; exact h3
          · simp (disch := omega) only [gx_st_q, gx_st_j]; exact h4.2.1
          · simp (disch := omega) only [gx_st_q, gx_st_j]; exact h4.2.2 j hj
          · simp (disch := omega) only [gx_st_q, gx_st_j]; exact h5
          · simp (disch := omega) only [gx_st_q, gx_st_j]; exact h6
          · simp (disch := omega) only [gx_st_q, gx_st_j]; exact (h7 t ht).2.1
          · simp (disch := omega) only [gx_st_q, gx_st_j]; exact (h7 t ht).2.2 j hj
        · refine RK_G hK (fun q j hq => by simp (disch := omega) only [gx_st_q]) (fun q j hq => ?_) (by show nO (qG A) ≤ nO G'; omega) (by show nP (qG A) ≤ nP G'; omega) (fun j hj => ?_) (fun K ko hK3 _ _ w => ⟨hwD K hK3 w.1, hzD K w.2⟩)
          · rcases hq with ⟨rfl, hq⟩ | hq
            · simp (disch := omega) only [gx_st_q, gx_st_j]
            · simp (disch := omega) only [gx_st_q]
          · show G' 2 j = qG A 2 j
            rw [g2, if_neg (by omega)]
      · rw [if_neg z, if_pos (by omega)]; exact cSS_s h
    · rw [k3, k4, cp_s, cp_s, if_neg i10, if_pos rfl]; exact cSS_s h
  · rw [g3, g4, cp_s, cp_s, if_neg i10, if_pos rfl]; exact cSS_s h

/-! b31: a shop, a sort -/
theorem x_measure {s k : Nat} (hs : s < 8) (hk : k < 6) (S : gx_S) : m_Street_measure (nn s) (nn k) S = some (gx_st S (13 + s) k (bes S s k)) := by
  unfold m_Street_measure bes
  simp (disch := omega) only [ck_n, nn_c, ab_d, let_s]
  by_cases z : S 10 s = nn k
  · rw [if_pos z, if_pos z]
  · rw [if_neg z, if_neg z]
theorem bes_c {G S : gx_S} {s k : Nat} (h : ∀ q, q = 4 ∨ q = 6 ∨ q = 8 ∨ q = 10 ∨ q = 11 → ∀ j, S q j = G q j) : bes S s k = bes G s k := by
  unfold bes
  rw [h 4 (by omega), h 6 (by omega), h 8 (by omega), h 10 (by omega), h 11 (by omega)]
def gShop (G : gx_S) (x y : Int32) : gx_S := fun q j => if q = 1 ∧ j = 1 then nn (nP G + 1) else if q = 4 ∧ j = nP G then x else if q = 5 ∧ j = nP G then y else G q j
theorem x_addShop {G S : gx_S} (hG : wG G) (hv : vG G S) (x y : Int32) (hP : nP G < 6) : gt (m_Street_addShop x y S) fun t => t.1 = nn (nP G) ∧ (∀ q j, (q = 0 ∨ 20 < q) → t.2 q j = S q j) ∧ (∀ q j, 1 ≤ q → q ≤ 11 → t.2 q j = gShop G x y q j) ∧ ∀ s k, s < nS G → k < nP G + 1 → t.2 (13 + s) k = bes (gShop G x y) s k := by
  obtain ⟨eS, hS⟩ := wG_S hG
  obtain ⟨eP, _⟩ := wG_P hG
  have e1 : S 1 1 = nn (nP G) := by rw [hv.1 _ _ (by omega) (by omega), eP]
  unfold m_Street_addShop
  rw [e1, show (6 : Int32) = nn 6 from rfl]
  simp (disch := omega) only [nn_lt, ck_n, nn_c, let_s, gx_st_q, e1, nn_s]
  rw [if_pos hP]
  obtain ⟨G', hG'⟩ : ∃ G', G' = gShop G x y := ⟨_, rfl⟩
  have g1 : G' 1 1 = nn (nP G + 1) := by rw [hG']; simp [gShop]
  have g12 : G' 1 2 = nn (nS G) := by rw [hG', ← eS]; simp [gShop]
  have gold : ∀ s k, k < nP G → bes G' s k = bes G s k := fun s k hk => by
    have e4 : G' 4 k = G 4 k := by rw [hG']; unfold gShop; rw [if_neg (by omega), if_neg (by omega), if_neg (by omega)]
    have eq : ∀ q j, q ≠ 1 → q ≠ 4 → q ≠ 5 → G' q j = G q j := fun q j a b c => by rw [hG']; unfold gShop; rw [if_neg (by omega), if_neg (by omega), if_neg (by omega)]
    unfold bes
    rw [e4, eq _ _ (by omega) (by omega) (by omega), eq _ _ (by omega) (by omega) (by omega), eq _ _ (by omega) (by omega) (by omega), eq _ _ (by omega) (by omega) (by omega)]
  rw [← hG']
  refine gt_for (nS G) (fun s t => t.1 = nn s ∧ (∀ q j, (q = 0 ∨ 20 < q) → t.2 q j = S q j) ∧ (∀ q j, 1 ≤ q → q ≤ 11 → t.2 q j = G' q j) ∧ ∀ s' k, s' < nS G → (k < nP G ∨ k = nP G ∧ s' < s) → t.2 (13 + s') k = bes G' s' k) ?_ ?_ 0 5000 _ (by omega) ?_ (by omega)
  · rintro s ⟨_, T⟩ k hs ⟨rfl, f, g, b⟩ hk
    simp only at f g b
    simp only [m_Street_addShop_44]
    have e2 : T 1 2 = nn (nS G) := by rw [g _ _ (by omega) (by omega), g12]
    have e3 : T 1 1 = nn (nP G + 1) := by rw [g _ _ (by omega) (by omega), g1]
    have em := x_measure (s := s) (k := nP G) (by omega) hP T
    rw [e2, e3, nn_p (by omega), Nat.add_sub_cancel, if_neg (by rw [nn_le (by omega) (by omega)]; omega), em, cp_s, nn_s]
    have eb : bes T s (nP G) = bes G' s (nP G) := bes_c (fun q hq j => g q j (by omega) (by omega))
    refine hk _ ⟨rfl, fun q j hq => ?_, fun q j a c => ?_, fun s' k' h1 h2 => ?_⟩
    · simp only
      rw [gx_st_q _ _ _ _ (by omega)]; exact f q j hq
    · simp only
      rw [gx_st_q _ _ _ _ (by omega)]; exact g q j a c
    · simp only
      by_cases z : s' = s ∧ k' = nP G
      · obtain ⟨rfl, rfl⟩ := z
        rw [gx_st_eq, eb]
      · have : gx_st T (13 + s) (nP G) (bes T s (nP G)) (13 + s') k' = T (13 + s') k' := by
          by_cases y : s' = s
          · subst y; exact gx_st_j _ _ _ (by omega)
          · exact gx_st_q _ _ _ _ (by omega)
        rw [this]
        exact b s' k' h1 (by omega)
  · rintro ⟨_, T⟩ k ⟨rfl, f, g, b⟩
    simp only at f g b
    simp only [m_Street_addShop_44]
    have e2 : T 1 2 = nn (nS G) := by rw [g _ _ (by omega) (by omega), g12]
    have e3 : T 1 1 = nn (nP G + 1) := by rw [g _ _ (by omega) (by omega), g1]
    rw [e2, e3, nn_p (by omega), Nat.add_sub_cancel, if_pos (Int32.le_refl _)]
    exact gt_some ⟨rfl, f, g, fun s k h1 h2 => b s k h1 (by omega)⟩
  · refine ⟨rfl, fun q j hq => ?_, fun q j a c => ?_, fun s' k h1 h2 => ?_⟩
    · simp (disch := omega) only [gx_st_q]
    · show gx_st (gx_st (gx_st S 4 (nP G) x) 5 (nP G) y) 1 1 (nn (nP G + 1)) q j = G' q j
      rw [hG']
      unfold gShop
      by_cases q1 : q = 1
      · subst q1
        by_cases z : j = 1
        · subst z; rw [gx_st_eq, if_pos ⟨rfl, rfl⟩]
        · rw [gx_st_j _ _ _ z, gx_st_q _ _ _ _ (by omega), gx_st_q _ _ _ _ (by omega), if_neg (by omega), if_neg (by omega), if_neg (by omega)]; exact hv.1 1 j a c
      · rw [gx_st_q _ _ _ _ q1, if_neg (by omega)]
        by_cases q5 : q = 5
        · subst q5
          rw [if_neg (by omega)]
          by_cases z : j = nP G
          · subst z; rw [gx_st_eq, if_pos ⟨rfl, rfl⟩]
          · rw [gx_st_j _ _ _ z, if_neg (by omega), gx_st_q _ _ _ _ (by omega)]; exact hv.1 5 j a c
        · rw [gx_st_q _ _ _ _ q5]
          by_cases q4 : q = 4
          · subst q4
            by_cases z : j = nP G
            · subst z; rw [gx_st_eq, if_pos ⟨rfl, rfl⟩]
            · rw [gx_st_j _ _ _ z, if_neg (by omega), if_neg (by omega)]; exact hv.1 4 j a c
          · rw [gx_st_q _ _ _ _ q4, if_neg (by omega), if_neg (by omega)]; exact hv.1 q j a c
    · simp (disch := omega) only [gx_st_q]
      rw [gold s' k (by omega)]
      exact hv.2 s' k h1 (by omega)
theorem st_shop {S T : gx_S} (h : RR S T) (w x y z : Int32) : cSS (m_ShopsAsOne_shop w x y z S) (n_shop w x y z T) := by
  obtain ⟨A, hA, hS, hT, hK⟩ := id h
  have hO := wG_O hA.1
  obtain ⟨eP, hP⟩ := wG_P hA.1
  have hN := wG_S hA.1
  unfold m_ShopsAsOne_shop n_shop
  rcases chkO (by omega) (RS_c hA hS).1 (RT_c hA hT).1 w with ⟨o, h1, rfl, h3, h4⟩ | ⟨h3, h4⟩
  · rw [h3, h4, cp_s, cp_s, if_pos rfl, if_neg i10]
    rcases chkR x 0 9 S T with ⟨gx, g3, g4⟩ | ⟨g3, g4⟩
    · rw [g3, g4, cp_s, cp_s, if_pos rfl, if_neg i10]
      rcases chkR y 0 9 S T with ⟨gy, g5, g6⟩ | ⟨g5, g6⟩
      · rw [g5, g6, cp_s, cp_s, if_pos rfl, if_neg i10]
        rcases chkR z 0 9 S T with ⟨gz, g7, g8⟩ | ⟨g7, g8⟩
        · rw [g7, g8, cp_s, cp_s, if_pos rfl, if_neg i10]
          have pS := pX_R hA hS
          have pT := pU_R hA hT
          have e2 := (RT_c hA hT).2.1
          have hc := hA.2.2.1.2.2 o (by omega)
          rw [x_shopsOf pS, u_shopsOf pT, cp_s, cp_s, e2, show (3 : Int32) = nn 3 from rfl, show (6 : Int32) = nn 6 from rfl]
          simp (disch := omega) only [nn_lt, nn_eq]
          by_cases c3 : cnt (qG A) (qD A) o < 3
          · rw [if_pos c3, if_neg (show ¬ cnt (qG A) (qD A) o = 3 by omega)]
            by_cases c6 : nP (qG A) < 6
            · rw [if_neg (show ¬ nP (qG A) = 6 by omega)]
              refine gt_cs (x_addShop hA.1 hS.1 x y c6) (fun a U hU => ?_)
              obtain ⟨u1, u2, u3, u4⟩ := hU
              simp only at u1 u2 u3 u4
              have hn104 : ¬ nn (nP (qG A)) = -104 := by
                have : ∀ m, m < 6 → ¬ nn m = -104 := by decide
                exact this _ c6
              rw [u1, if_neg hn104]
              simp (disch := omega) only [ck_n, nn_c, let_s, gx_st_q, e2, nn_s, gx_st_eq]
              rw [nn_p (by omega), Nat.add_sub_cancel]
              obtain ⟨k, hk⟩ : ∃ k, k = nP (qG A) := ⟨_, rfl⟩
              obtain ⟨G', hG'⟩ : ∃ G', G' = gShop (qG A) x y := ⟨_, rfl⟩
              rw [← hG'] at u3 u4
              rw [← hk] at u4 ⊢
              have g11 : G' 1 1 = nn (k + 1) := by rw [hG', hk]; simp [gShop]
              have gq1 : ∀ j, j ≠ 1 → G' 1 j = qG A 1 j := fun j hj => by rw [hG']; simp [gShop, hj]
              have gq4 : ∀ j, G' 4 j = if j = k then x else qG A 4 j := fun j => by rw [hG', hk]; simp [gShop]
              have gq5 : ∀ j, G' 5 j = if j = k then y else qG A 5 j := fun j => by rw [hG', hk]; simp [gShop]
              have gq : ∀ q j, q ≠ 1 → q ≠ 4 → q ≠ 5 → G' q j = qG A q j := fun q j a b c => by rw [hG']; unfold gShop; rw [if_neg (by omega), if_neg (by omega), if_neg (by omega)]
              have nP' : nP G' = k + 1 := by unfold nP; rw [g11, nn_c (by omega)]
              have nO' : nO G' = nO (qG A) := by unfold nO; rw [gq1 0 (by omega)]
              have nS' : nS G' = nS (qG A) := by unfold nS; rw [gq1 2 (by omega)]
              have hwG : wG G' := by
                obtain ⟨⟨a1, a2, a3⟩, b, c, d⟩ := hA.1
                refine ⟨⟨?_, ?_, ?_⟩, fun j => ?_, fun j => ⟨?_, ?_⟩, fun j => ?_⟩
                · rw [gq1 0 (by omega)]; exact a1
                · rw [g11]; exact nn_b (b := 6) (by omega) (by decide)
                · rw [gq1 2 (by omega)]; exact a3
                · rw [gq _ _ (by omega) (by omega) (by omega), gq _ _ (by omega) (by omega) (by omega)]; exact b j
                · rw [gq4]; split
                  · exact gx
                  · exact (c j).1
                · rw [gq5]; split
                  · exact gy
                  · exact (c j).2
                · rw [gq _ _ (by omega) (by omega) (by omega), gq _ _ (by omega) (by omega) (by omega), gq _ _ (by omega) (by omega) (by omega), gq _ _ (by omega) (by omega) (by omega), gq _ _ (by omega) (by omega) (by omega), gq _ _ (by omega) (by omega) (by omega)]; exact d j
              obtain ⟨D', hD'⟩ : ∃ D' : gx_S, D' = fun i j => if i = 1 ∧ j = k then z else if i = 2 ∧ j = k then nn o else qD A i j := ⟨_, rfl⟩
              have d1 : ∀ j, D' 1 j = if j = k then z else qD A 1 j := fun j => by rw [hD']; simp
              have d2 : ∀ j, D' 2 j = if j = k then nn o else qD A 2 j := fun j => by rw [hD']; simp
              have d3 : ∀ j, D' 3 j = qD A 3 j := fun j => by rw [hD']; simp
              have hwD : wD G' D' := by
                have w := hA.2.2.1
                refine ⟨fun j hj => ⟨?_, ?_, ?_⟩, fun j hj => ?_, fun u hu => ?_⟩
                · rw [d1]; split
                  · exact gz
                  · exact (w.1 j hj).1
                · rw [d2]; split
                  · exact nn_b (b := 5) (by omega) (by decide)
                  · exact (w.1 j hj).2.1
                · rw [d3, gq _ _ (by omega) (by omega) (by omega)]; exact (w.1 j hj).2.2
                · rw [nO']
                  unfold wh
                  rw [d2]
                  split
                  · rw [nn_c (by omega)]; exact h1
                  · exact w.2.1 j (by omega)
                · have e : cnt G' D' u = cnt (qG A) (qD A) u + (if ow D' u k = true then 1 else 0) := by
                    unfold cnt cu
                    rw [nP', ← hk]
                    show cn (ow D' u) k + _ = _
                    congr 1
                    exact cn_cg (fun j hj => by unfold ow; rw [d2, if_neg (by omega)])
                  rw [e]
                  by_cases y : ow D' u k = true
                  · have : u = o := by
                      unfold ow at y
                      rw [d2, if_pos rfl, decide_eq_true_eq, nn_eq (by omega) (by omega)] at y
                      exact y.symm
                    rw [if_pos y, this]
                    omega
                  · rw [if_neg y]
                    exact w.2.2 u hu
              have hzD : zD G' D' := fun j hj hn => by
                rw [nP'] at hn
                rw [d1, d2, if_neg (by omega), if_neg (by omega)]
                exact hA.2.2.2.1 j hj (by omega)
              refine gt_some (gt_some ⟨rfl, (G', D', A.2.2), ⟨hwG, fun j hj => ?_, hwD, hzD, hA.2.2.2.2⟩, ?_, ?_, ?_⟩)
              · have hj' : nO (qG A) ≤ j := by
                  have : nO (qG ((G', D', A.2.2) : rA)) = nO (qG A) := nO'
                  omega
                show G' 2 j = 0
                rw [gq _ _ (by omega) (by omega) (by omega)]
                exact hA.2.1 j hj'
              · obtain ⟨s1, s2, s3, s4, s5, s6⟩ := hS
                have fU : ∀ q j, (q = 0 ∨ 20 < q) → q ≠ 22 → q ≠ 23 → gx_st (gx_st U 23 k (nn o)) 22 k z q j = S q j := fun q j a b c => by
                  rw [gx_st_q _ _ _ _ b, gx_st_q _ _ _ _ c]; exact u2 q j a
                refine ⟨⟨fun q j a b => ?_, fun s i hs hi => ?_⟩, fun i j a b c => ?_, ⟨s3.1, ?_, fun j hj => ?_⟩, ?_, ?_, fun t ht => ⟨(s6 t ht).1, ?_, fun j hj => ?_⟩⟩
                · show gx_st (gx_st U 23 k (nn o)) 22 k z q j = G' q j
                  rw [gx_st_q _ _ _ _ (by omega), gx_st_q _ _ _ _ (by omega)]; exact u3 q j a b
                · show gx_st (gx_st U 23 k (nn o)) 22 k z (13 + s) i = bes G' s i
                  have hs' : s < nS (qG A) := by rw [← nS']; exact hs
                  have hi' : i < k + 1 := by rw [← nP']; exact hi
                  rw [gx_st_q _ _ _ _ (by omega), gx_st_q _ _ _ _ (by omega)]; exact u4 s i hs' hi'
                · match i, a, b with
                  | 1, _, _ =>
                    show gx_st (gx_st U 23 k (nn o)) 22 k z 22 j = D' 1 j
                    rw [d1]
                    by_cases y : j = k
                    · rw [y, gx_st_eq, if_pos rfl]
                    · rw [gx_st_j _ _ _ y, if_neg y, gx_st_q _ _ _ _ (by omega), u2 _ _ (by omega)]; exact s2 1 j (by omega) (by omega) c
                  | 2, _, _ =>
                    show gx_st (gx_st U 23 k (nn o)) 22 k z 23 j = D' 2 j
                    rw [d2, gx_st_q _ _ _ _ (by omega)]
                    by_cases y : j = k
                    · rw [y, gx_st_eq, if_pos rfl]
                    · rw [gx_st_j _ _ _ y, if_neg y, u2 _ _ (by omega)]; exact s2 2 j (by omega) (by omega) c
                  | 3, _, _ =>
                    show gx_st (gx_st U 23 k (nn o)) 22 k z 24 j = D' 3 j
                    rw [d3, fU _ _ (by omega) (by omega) (by omega)]; exact s2 3 j (by omega) (by omega) c
                · simp only
                  rw [fU _ _ (by omega) (by omega) (by omega)]; exact s3.2.1
                · simp only
                  rw [fU _ _ (by omega) (by omega) (by omega)]; exact s3.2.2 j hj
                · simp only
                  rw [fU _ _ (by omega) (by omega) (by omega)]; exact s4
                · simp only
                  rw [fU _ _ (by omega) (by omega) (by omega)]; exact s5
                · simp only
                  rw [fU _ _ (by omega) (by omega) (by omega)]; exact (s6 t ht).2.1
                · simp only
                  rw [fU _ _ (by omega) (by omega) (by omega)]; exact (s6 t ht).2.2 j hj
              · obtain ⟨⟨⟨a1, a2, a3⟩, b, c, d⟩, t2, t3, t4, t5, t6, t7⟩ := hT
                refine ⟨⟨⟨?_, ?_, ?_⟩, fun u hu => ?_, fun i hi => ?_, fun s i hs hi => ?_⟩, fun j hj => ⟨?_, ?_, ?_⟩, ?_, ⟨t4.1, ?_, fun j hj => ?_⟩, ?_, ?_, fun t ht => ⟨(t7 t ht).1, ?_, fun j hj => ?_⟩⟩
                · show _ = G' 1 0
                  rw [gq1 0 (by omega)]
                  simp (disch := omega) only [gx_st_q, gx_st_j]; exact a1
                · show _ = G' 1 1
                  rw [g11]; simp only [gx_st_eq]
                · show _ = G' 1 2
                  rw [gq1 2 (by omega)]
                  simp (disch := omega) only [gx_st_q, gx_st_j]; exact a3
                · show _ = G' 2 u ∧ _ = G' 3 u
                  rw [gq _ _ (by omega) (by omega) (by omega), gq _ _ (by omega) (by omega) (by omega)]
                  simp (disch := omega) only [gx_st_q]; exact b u hu
                · show _ = G' 4 i ∧ _ = G' 5 i
                  rw [gq4, gq5]
                  by_cases y : i = k
                  · rw [y]
                    simp (disch := omega) only [gx_st_q, gx_st_eq, ↓reduceIte]
                    exact ⟨trivial, trivial⟩
                  · simp (disch := omega) only [gx_st_q, gx_st_j, if_neg y]
                    exact c i hi
                · show _ = G' (6 + i) s
                  rw [gq _ _ (by omega) (by omega) (by omega)]
                  simp (disch := omega) only [gx_st_q]; exact d s i hs hi
                · show _ = D' 1 j
                  rw [d1]
                  by_cases y : j = k
                  · rw [y]
                    simp (disch := omega) only [gx_st_q, gx_st_eq, ↓reduceIte]
                  · simp (disch := omega) only [gx_st_q, gx_st_j, if_neg y]
                    exact (t2 j hj).1
                · show _ = D' 2 j
                  rw [d2]
                  by_cases y : j = k
                  · rw [y]
                    simp (disch := omega) only [gx_st_q, gx_st_eq, ↓reduceIte]
                  · simp (disch := omega) only [gx_st_q, gx_st_j, if_neg y]
                    exact (t2 j hj).2.1
                · show _ = D' 3 j
                  rw [d3]
                  simp (disch := omega) only [gx_st_q]; exact (t2 j hj).2.2
                · simp (disch := omega) only [gx_st_q, gx_st_j]; exact t3
                · simp (disch := omega) only [gx_st_q, gx_st_j]; exact t4.2.1
                · simp (disch := omega) only [gx_st_q, gx_st_j]; exact t4.2.2 j hj
                · simp (disch := omega) only [gx_st_q, gx_st_j]; exact t5
                · simp (disch := omega) only [gx_st_q, gx_st_j]; exact t6
                · simp (disch := omega) only [gx_st_q, gx_st_j]; exact (t7 t ht).2.1
                · simp (disch := omega) only [gx_st_q, gx_st_j]; exact (t7 t ht).2.2 j hj
              · refine RK_G hK (fun q j hq => ?_) (fun q j hq => ?_) (by show nO (qG A) ≤ nO G'; omega) (by show nP (qG A) ≤ nP G'; omega) (fun j hj => ?_) (fun K ko _ _ e _ => ?_)
                · simp only
                  rw [gx_st_q _ _ _ _ (by omega), gx_st_q _ _ _ _ (by omega)]; exact u2 q j (by omega)
                · rcases hq with ⟨rfl, hq⟩ | hq
                  · simp (disch := omega) only [gx_st_q, gx_st_j]
                  · simp (disch := omega) only [gx_st_q]
                · show G' 2 j = qG A 2 j
                  rw [gq _ _ (by omega) (by omega) (by omega)]
                · have : nP (qG A) = nP G' := e
                  omega
            · rw [if_pos (show nP (qG A) = 6 by omega)]
              unfold m_Street_addShop
              rw [(RS_c hA hS).2.1, if_neg (by rw [show (6 : Int32) = nn 6 from rfl, nn_lt (by omega) (by omega)]; omega), cs_s, if_pos rfl]
              exact cSS_s h
          · rw [if_neg c3]
            by_cases c6 : nP (qG A) = 6
            · rw [if_pos c6]; exact cSS_s h
            · rw [if_neg c6, if_pos (show cnt (qG A) (qD A) o = 3 by omega)]; exact cSS_s h
        · rw [g7, g8, cp_s, cp_s, if_neg i10, if_pos rfl]; exact cSS_s h
      · rw [g5, g6, cp_s, cp_s, if_neg i10, if_pos rfl]; exact cSS_s h
    · rw [g3, g4, cp_s, cp_s, if_neg i10, if_pos rfl]; exact cSS_s h
  · rw [h3, h4, cp_s, cp_s, if_neg i10, if_pos rfl]; exact cSS_s h

/-! b32: a sort -/
def gSort (G : gx_S) (v : Nat → Int32) : gx_S := fun q j => if q = 1 ∧ j = 2 then nn (nS G + 1) else if 6 ≤ q ∧ q ≤ 11 ∧ j = nS G then v q else G q j
theorem x_addSort {G S : gx_S} (hG : wG G) (hv : vG G S) (v : Nat → Int32) (hS : nS G < 8) : gt (m_Street_addSort (v 6) (v 7) (v 8) (v 9) (v 10) (v 11) S) fun t => t.1 = nn (nS G) ∧ (∀ q j, (q = 0 ∨ 20 < q) → t.2 q j = S q j) ∧ (∀ q j, 1 ≤ q → q ≤ 11 → t.2 q j = gSort G v q j) ∧ ∀ s k, s < nS G + 1 → k < nP G → t.2 (13 + s) k = bes (gSort G v) s k := by
  obtain ⟨eS, _⟩ := wG_S hG
  obtain ⟨eP, hP⟩ := wG_P hG
  have e1 : S 1 2 = nn (nS G) := by rw [hv.1 _ _ (by omega) (by omega), eS]
  unfold m_Street_addSort
  rw [e1, show (8 : Int32) = nn 8 from rfl]
  simp (disch := omega) only [nn_lt, ck_n, nn_c, let_s, gx_st_q, e1, nn_s]
  rw [if_pos hS]
  obtain ⟨G', hG'⟩ : ∃ G', G' = gSort G v := ⟨_, rfl⟩
  have g1 : G' 1 1 = nn (nP G) := by rw [hG', ← eP]; simp [gSort]
  have g12 : G' 1 2 = nn (nS G + 1) := by rw [hG']; simp [gSort]
  have gold : ∀ s k, s < nS G → bes G' s k = bes G s k := fun s k hk => by
    have eq : ∀ q, q ≠ 1 → G' q s = G q s := fun q a => by rw [hG']; unfold gSort; rw [if_neg (by omega), if_neg (by omega)]
    have e4 : G' 4 k = G 4 k := by rw [hG']; unfold gSort; rw [if_neg (by omega), if_neg (by omega)]
    unfold bes
    rw [e4, eq _ (by omega), eq _ (by omega), eq _ (by omega), eq _ (by omega)]
  rw [← hG']
  obtain ⟨s0, hs0⟩ : ∃ s0, s0 = nS G := ⟨_, rfl⟩
  rw [← hs0]
  rw [← hs0] at g12 hS gold e1
  refine gt_for (nP G) (fun k t => t.1 = nn k ∧ (∀ q j, (q = 0 ∨ 20 < q) → t.2 q j = S q j) ∧ (∀ q j, 1 ≤ q → q ≤ 11 → t.2 q j = G' q j) ∧ ∀ s' k', k' < nP G → (s' < s0 ∨ s' = s0 ∧ k' < k) → t.2 (13 + s') k' = bes G' s' k') ?_ ?_ 0 5000 _ (by omega) ?_ (by omega)
  · rintro k ⟨_, T⟩ kk hk ⟨rfl, f, g, b⟩ hkk
    simp only at f g b
    simp only [m_Street_addSort_88]
    have e2 : T 1 2 = nn (s0 + 1) := by rw [g _ _ (by omega) (by omega), g12]
    have e3 : T 1 1 = nn (nP G) := by rw [g _ _ (by omega) (by omega), g1]
    have em := x_measure (s := s0) (k := k) (by omega) (by omega) T
    rw [e2, e3, nn_p (by omega), Nat.add_sub_cancel, if_neg (by rw [nn_le (by omega) (by omega)]; omega), em, cp_s, nn_s]
    have eb : bes T s0 k = bes G' s0 k := bes_c (fun q hq j => g q j (by omega) (by omega))
    refine hkk _ ⟨rfl, fun q j hq => ?_, fun q j a c => ?_, fun s' k' h1 h2 => ?_⟩
    · simp only
      rw [gx_st_q _ _ _ _ (by omega)]; exact f q j hq
    · simp only
      rw [gx_st_q _ _ _ _ (by omega)]; exact g q j a c
    · simp only
      by_cases z : s' = s0 ∧ k' = k
      · obtain ⟨rfl, rfl⟩ := z
        rw [gx_st_eq, eb]
      · have : gx_st T (13 + s0) k (bes T s0 k) (13 + s') k' = T (13 + s') k' := by
          by_cases y : s' = s0
          · subst y; exact gx_st_j _ _ _ (by omega)
          · exact gx_st_q _ _ _ _ (by omega)
        rw [this]
        exact b s' k' h1 (by omega)
  · rintro ⟨_, T⟩ k ⟨rfl, f, g, b⟩
    simp only at f g b
    simp only [m_Street_addSort_88]
    have e2 : T 1 2 = nn (s0 + 1) := by rw [g _ _ (by omega) (by omega), g12]
    have e3 : T 1 1 = nn (nP G) := by rw [g _ _ (by omega) (by omega), g1]
    rw [e2, e3, nn_p (by omega), Nat.add_sub_cancel, if_pos (Int32.le_refl _)]
    exact gt_some ⟨rfl, f, g, fun s k h1 h2 => b s k h2 (by omega)⟩
  · refine ⟨rfl, fun q j hq => ?_, fun q j a c => ?_, fun s' k h1 h2 => ?_⟩
    · simp (disch := omega) only [gx_st_q]
    · have hvq := hv.1 q j a c
      simp only
      rw [hG']
      unfold gSort
      rw [← hs0]
      by_cases q1 : q = 1
      · subst q1
        by_cases z : j = 2
        · subst z; rw [gx_st_eq, if_pos ⟨rfl, rfl⟩]
        · rw [gx_st_j _ _ _ z, if_neg (by omega), if_neg (by omega)]
          simp (disch := omega) only [gx_st_q]
          exact hvq
      · rw [gx_st_q _ _ _ _ q1, if_neg (by omega)]
        by_cases hr : 6 ≤ q ∧ q ≤ 11
        · by_cases z : j = s0
          · rw [if_pos ⟨hr.1, hr.2, z⟩, z]
            have : q = 6 ∨ q = 7 ∨ q = 8 ∨ q = 9 ∨ q = 10 ∨ q = 11 := by omega
            rcases this with rfl | rfl | rfl | rfl | rfl | rfl <;> simp (disch := omega) only [gx_st_q, gx_st_eq]
          · rw [if_neg (by omega)]
            have : q = 6 ∨ q = 7 ∨ q = 8 ∨ q = 9 ∨ q = 10 ∨ q = 11 := by omega
            rcases this with rfl | rfl | rfl | rfl | rfl | rfl <;> simp (disch := omega) only [gx_st_q, gx_st_j] <;> exact hvq
        · rw [if_neg (by omega)]
          simp (disch := omega) only [gx_st_q]
          exact hvq
    · simp (disch := omega) only [gx_st_q]
      rw [gold s' k (by omega)]
      exact hv.2 s' k (by omega) h1
theorem st_sort {S T : gx_S} (h : RR S T) (x1 x2 x3 x4 x5 x6 : Int32) : cSS (m_ShopsAsOne_sort x1 x2 x3 x4 x5 x6 S) (n_sort x1 x2 x3 x4 x5 x6 T) := by
  obtain ⟨A, hA, hS, hT, hK⟩ := id h
  have hO := wG_O hA.1
  have hP := wG_P hA.1
  obtain ⟨eS, hN⟩ := wG_S hA.1
  unfold m_ShopsAsOne_sort n_sort
  rcases chkR x1 0 9 S T with ⟨b1, a1, a2⟩ | ⟨a1, a2⟩
  · rw [a1, a2, cp_s, cp_s, if_pos rfl, if_neg i10]
    rcases chkR x2 1 50 S T with ⟨b2, a1, a2⟩ | ⟨a1, a2⟩
    · rw [a1, a2, cp_s, cp_s, if_pos rfl, if_neg i10]
      rcases chkR x3 0 5 S T with ⟨b3, a1, a2⟩ | ⟨a1, a2⟩
      · rw [a1, a2, cp_s, cp_s, if_pos rfl, if_neg i10]
        rcases chkR x4 0 30 S T with ⟨b4, a1, a2⟩ | ⟨a1, a2⟩
        · rw [a1, a2, cp_s, cp_s, if_pos rfl, if_neg i10]
          rcases chkR x6 0 9 S T with ⟨b6, a1, a2⟩ | ⟨a1, a2⟩
          · rw [a1, a2, cp_s, cp_s, if_pos rfl, if_neg i10]
            have main : bw x5 (-1) 5 → cSS (m_ShopsAsOne_sort_72 x1 x2 x3 x4 x5 x6 S) (n_sort_72 x1 x2 x3 x4 x5 x6 T) := by
              intro b5
              unfold m_ShopsAsOne_sort_72 n_sort_72
              have e2 := (RT_c hA hT).2.2
              rw [e2, show (8 : Int32) = nn 8 from rfl]
              simp (disch := omega) only [nn_eq]
              by_cases c8 : nS (qG A) < 8
              · rw [if_neg (show ¬ nS (qG A) = 8 by omega)]
                obtain ⟨v, hv⟩ : ∃ v : Nat → Int32, v = fun q => if q = 6 then x1 else if q = 7 then x2 else if q = 8 then x3 else if q = 9 then x4 else if q = 10 then x5 else x6 := ⟨_, rfl⟩
                have v6 : v 6 = x1 := by rw [hv]; rfl
                have v7 : v 7 = x2 := by rw [hv]; rfl
                have v8 : v 8 = x3 := by rw [hv]; rfl
                have v9 : v 9 = x4 := by rw [hv]; rfl
                have v10 : v 10 = x5 := by rw [hv]; rfl
                have v11 : v 11 = x6 := by rw [hv]; rfl
                have hadd := x_addSort hA.1 hS.1 v c8
                rw [v6, v7, v8, v9, v10, v11] at hadd
                refine gt_cs hadd (fun a U hU => ?_)
                obtain ⟨u1, u2, u3, u4⟩ := hU
                simp only at u1 u2 u3 u4
                rw [u1, show (6 : Int32) = nn 6 from rfl, show (1 : Int32) = nn 1 from rfl, show (2 : Int32) = nn 2 from rfl, show (3 : Int32) = nn 3 from rfl, show (4 : Int32) = nn 4 from rfl, show (5 : Int32) = nn 5 from rfl]
                simp (disch := omega) only [nn_mul, nn_add, ck_n, nn_c, let_s, gx_st_q, e2, gx_st_eq]
                rw [show nn (nS (qG A) + 1) - nn 1 = nn (nS (qG A)) from by rw [show nn 1 = (1 : Int32) from rfl, nn_p (by omega), Nat.add_sub_cancel]]
                obtain ⟨s0, hs0⟩ : ∃ s0, s0 = nS (qG A) := ⟨_, rfl⟩
                obtain ⟨G', hG'⟩ : ∃ G', G' = gSort (qG A) v := ⟨_, rfl⟩
                rw [← hG'] at u3 u4
                rw [← hs0] at u4 ⊢
                have g12 : G' 1 2 = nn (s0 + 1) := by rw [hG', hs0]; simp [gSort]
                have gq1 : ∀ j, j ≠ 2 → G' 1 j = qG A 1 j := fun j hj => by rw [hG']; simp [gSort, hj]
                have gs : ∀ q, 6 ≤ q → q ≤ 11 → ∀ j, G' q j = if j = s0 then v q else qG A q j := fun q a b j => by
                  rw [hG', hs0]; unfold gSort
                  rw [if_neg (by omega)]
                  by_cases y : j = nS (qG A)
                  · rw [if_pos ⟨a, b, y⟩, if_pos y]
                  · rw [if_neg (fun w => y w.2.2), if_neg y]
                have gq : ∀ q j, q ≠ 1 → q < 6 → G' q j = qG A q j := fun q j a b => by rw [hG']; unfold gSort; rw [if_neg (by omega), if_neg (by omega)]
                have nS' : nS G' = s0 + 1 := by unfold nS; rw [g12, nn_c (by omega)]
                have nO' : nO G' = nO (qG A) := by unfold nO; rw [gq1 0 (by omega)]
                have nP' : nP G' = nP (qG A) := by unfold nP; rw [gq1 1 (by omega)]
                have hwG : wG G' := by
                  obtain ⟨⟨a1, a2, a3⟩, b, c, d⟩ := hA.1
                  refine ⟨⟨?_, ?_, ?_⟩, fun j => ?_, fun j => ?_, fun j => ?_⟩
                  · rw [gq1 0 (by omega)]; exact a1
                  · rw [gq1 1 (by omega)]; exact a2
                  · rw [g12]; exact nn_b (b := 8) (by omega) (by decide)
                  · rw [gq _ _ (by omega) (by omega), gq _ _ (by omega) (by omega)]; exact b j
                  · rw [gq _ _ (by omega) (by omega), gq _ _ (by omega) (by omega)]; exact c j
                  · rw [gs 6 (by omega) (by omega), gs 7 (by omega) (by omega), gs 8 (by omega) (by omega), gs 9 (by omega) (by omega), gs 10 (by omega) (by omega), gs 11 (by omega) (by omega)]
                    by_cases y : j = s0
                    · simp only [if_pos y]
                      rw [v6, v7, v8, v9, v10, v11]
                      refine ⟨b1, ⟨?_, b2.2⟩, b3, b4, b5, b6⟩
                      have := b2.1
                      lia
                    · simp only [if_neg y]
                      exact d j
                have hwD : ∀ K, wD (qG A) K → wD G' K := fun K w => by
                  refine ⟨fun j hj => ⟨(w.1 j hj).1, (w.1 j hj).2.1, ?_⟩, fun j hj => ?_, fun u hu => ?_⟩
                  · rw [gq _ _ (by omega) (by omega)]; exact (w.1 j hj).2.2
                  · rw [nP'] at hj
                    rw [nO']
                    exact w.2.1 j hj
                  · have : cnt G' K u = cnt (qG A) K u := by unfold cnt; rw [nP']
                    rw [this]; exact w.2.2 u hu
                have hzD : ∀ K, zD (qG A) K → zD G' K := fun K w j hj hn => by
                  rw [nP'] at hn
                  exact w j hj hn
                refine gt_some (gt_some ⟨rfl, (G', A.2), ⟨hwG, fun j hj => ?_, hwD _ hA.2.2.1, hzD _ hA.2.2.2.1, hA.2.2.2.2⟩, ?_, ?_, ?_⟩)
                · have hj' : nO (qG A) ≤ j := by
                    have : nO (qG ((G', A.2) : rA)) = nO (qG A) := nO'
                    omega
                  show G' 2 j = 0
                  rw [gq _ _ (by omega) (by omega)]
                  exact hA.2.1 j hj'
                · obtain ⟨s1, s2, s3, s4, s5, s6⟩ := hS
                  refine ⟨⟨fun q j a b => u3 q j a b, fun s i hs hi => ?_⟩, fun i j a b c => ?_, ⟨s3.1, ?_, fun j hj => ?_⟩, ?_, ?_, fun t ht => ⟨(s6 t ht).1, ?_, fun j hj => ?_⟩⟩
                  · have hs' : s < s0 + 1 := by rw [← nS']; exact hs
                    have hi' : i < nP (qG A) := by rw [← nP']; exact hi
                    exact u4 s i hs' hi'
                  · simp only
                    rw [u2 _ _ (by omega)]; exact s2 i j a b c
                  · simp only
                    rw [u2 _ _ (by omega)]; exact s3.2.1
                  · simp only
                    rw [u2 _ _ (by omega)]; exact s3.2.2 j hj
                  · simp only
                    rw [u2 _ _ (by omega)]; exact s4
                  · simp only
                    rw [u2 _ _ (by omega)]; exact s5
                  · simp only
                    rw [u2 _ _ (by omega)]; exact (s6 t ht).2.1
                  · simp only
                    rw [u2 _ _ (by omega)]; exact (s6 t ht).2.2 j hj
                · obtain ⟨⟨⟨a1, a2, a3⟩, b, c, d⟩, t2, t3, t4, t5, t6, t7⟩ := hT
                  refine ⟨⟨⟨?_, ?_, ?_⟩, fun u hu => ?_, fun i hi => ?_, fun s i hs hi => ?_⟩, fun j hj => ?_, ?_, ⟨t4.1, ?_, fun j hj => ?_⟩, ?_, ?_, fun t ht => ⟨(t7 t ht).1, ?_, fun j hj => ?_⟩⟩
                  · show _ = G' 1 0
                    rw [gq1 0 (by omega)]
                    simp (disch := omega) only [gx_st_q, gx_st_j]; exact a1
                  · show _ = G' 1 1
                    rw [gq1 1 (by omega)]
                    simp (disch := omega) only [gx_st_q, gx_st_j]; exact a2
                  · show _ = G' 1 2
                    rw [g12]; simp only [gx_st_eq]
                  · show _ = G' 2 u ∧ _ = G' 3 u
                    rw [gq _ _ (by omega) (by omega), gq _ _ (by omega) (by omega)]
                    simp (disch := omega) only [gx_st_q]; exact b u hu
                  · show _ = G' 4 i ∧ _ = G' 5 i
                    rw [gq _ _ (by omega) (by omega), gq _ _ (by omega) (by omega)]
                    simp (disch := omega) only [gx_st_q]; exact c i hi
                  · show _ = G' (6 + i) s
                    rw [gs _ (by omega) (by omega)]
                    simp (disch := omega) only [gx_st_q]
                    by_cases y : s = s0
                    · rw [if_pos y, y]
                      have : i = 0 ∨ i = 1 ∨ i = 2 ∨ i = 3 ∨ i = 4 ∨ i = 5 := by omega
                      rcases this with rfl | rfl | rfl | rfl | rfl | rfl
                      · rw [v6]; simp (disch := omega) only [gx_st_j]; exact gx_st_eq _ _ _ _
                      · rw [v7]; simp (disch := omega) only [gx_st_j]; exact gx_st_eq _ _ _ _
                      · rw [v8]; simp (disch := omega) only [gx_st_j]; exact gx_st_eq _ _ _ _
                      · rw [v9]; simp (disch := omega) only [gx_st_j]; exact gx_st_eq _ _ _ _
                      · rw [v10]; simp (disch := omega) only [gx_st_j]; exact gx_st_eq _ _ _ _
                      · rw [v11]; exact gx_st_eq _ _ _ _
                    · rw [if_neg y]
                      simp (disch := omega) only [gx_st_j]
                      exact d s i hs hi
                  · simp (disch := omega) only [gx_st_q]; exact t2 j hj
                  · simp (disch := omega) only [gx_st_q, gx_st_j]; exact t3
                  · simp (disch := omega) only [gx_st_q, gx_st_j]; exact t4.2.1
                  · simp (disch := omega) only [gx_st_q, gx_st_j]; exact t4.2.2 j hj
                  · simp (disch := omega) only [gx_st_q, gx_st_j]; exact t5
                  · simp (disch := omega) only [gx_st_q, gx_st_j]; exact t6
                  · simp (disch := omega) only [gx_st_q, gx_st_j]; exact (t7 t ht).2.1
                  · simp (disch := omega) only [gx_st_q, gx_st_j]; exact (t7 t ht).2.2 j hj
                · refine RK_G hK (fun q j hq => ?_) (fun q j hq => ?_) (by show nO (qG A) ≤ nO G'; omega) (by show nP (qG A) ≤ nP G'; omega) (fun j hj => ?_) (fun K ko _ _ _ w => ⟨hwD K w.1, hzD K w.2⟩)
                  · simp only
                    exact u2 q j (by omega)
                  · rcases hq with ⟨rfl, hq⟩ | hq
                    · simp (disch := omega) only [gx_st_q, gx_st_j]
                    · simp (disch := omega) only [gx_st_q]
                  · show G' 2 j = qG A 2 j
                    rw [gq _ _ (by omega) (by omega)]
              · rw [if_pos (show nS (qG A) = 8 by omega)]
                unfold m_Street_addSort
                rw [(RS_c hA hS).2.2, if_neg (by rw [show (8 : Int32) = nn 8 from rfl, nn_lt (by omega) (by omega)]; omega), cs_s]
                exact cSS_s h
            by_cases c5 : x5 = -1
            · rw [if_pos c5, if_pos c5]
              exact main (by rw [c5]; unfold bw; decide)
            · rw [if_neg c5, if_neg c5]
              rcases chkP (by omega) (RS_c hA hS).2.1 (RT_c hA hT).2.1 x5 with ⟨k, h1, e5, h3, h4⟩ | ⟨h3, h4⟩
              · rw [h3, h4, cp_s, cp_s, if_pos rfl, if_neg i10]
                refine main ?_
                rw [e5]
                have := nn_b (k := k) (b := 5) (by omega) (by decide)
                exact ⟨by have := this.1; lia, this.2⟩
              · rw [h3, h4, cp_s, cp_s, if_neg i10, if_pos rfl]; exact cSS_s h
          · rw [a1, a2, cp_s, cp_s, if_neg i10, if_pos rfl]; exact cSS_s h
        · rw [a1, a2, cp_s, cp_s, if_neg i10, if_pos rfl]; exact cSS_s h
      · rw [a1, a2, cp_s, cp_s, if_neg i10, if_pos rfl]; exact cSS_s h
    · rw [a1, a2, cp_s, cp_s, if_neg i10, if_pos rfl]; exact cSS_s h
  · rw [a1, a2, cp_s, cp_s, if_neg i10, if_pos rfl]; exact cSS_s h

/-! b33: prices, markets, two made one -/
theorem zD_tk {G D : gx_S} (h : zD G D) (o : Nat) : zD G (tk G D o) := fun j hj hn => by
  rw [tk_1, tk_2]
  unfold bP
  rw [if_neg (fun z => by have := z.1; omega)]
  exact h j hj hn
theorem zD_rnd {G : gx_S} : ∀ (o : Nat) {D : gx_S}, zD G D → zD G (rnd G o D).2
  | 0, _, h => h
  | o + 1, _, h => zD_tk (zD_rnd o h) o
theorem zD_stl {G : gx_S} : ∀ (f r : Nat) {D : gx_S}, zD G D → zD G (stl G f r D).2
  | 0, _, _, h => h
  | f + 1, r, D, h => by
    unfold stl
    split
    · exact zD_rnd _ h
    · exact zD_stl f (r + 1) (zD_rnd _ h)
theorem zD_gv {G D : gx_S} (h : zD G D) (a b : Nat) : zD G (gv G D a b) := fun j hj hn => by
  unfold gv
  rw [if_neg (fun z => absurd z.1 (by decide)), if_neg (fun z => by have := z.2.1; omega)]
  exact h j hj hn
theorem x_priceOf {G D S : gx_S} {o k : Nat} (hL : oL G D o S) (hc : ∀ k, k < nP G → ow D o k = true → S 45 (cu D o k) = bP G D o k) (h3 : cnt G D o ≤ 3) (hk : k < nP G) (hP : nP G ≤ 6) (ho : ow D o k = true) : m_Bests_priceOf (nn k) S = some (bP G D o k) := by
  refine gt_to ?_
  unfold m_Bests_priceOf
  have hck := cu_lt hk ho
  refine gt_for (cu D o k) (fun i t => t = nn i) ?_ ?_ 0 5000 _ (by omega) rfl (by omega)
  · rintro i t kk hi rfl hkk
    obtain ⟨k', h1, h2, h4⟩ := cn_at (ow D o) (n := nP G) (i := i) (by show i < cnt G D o; omega)
    have e42 : S 42 i = nn k' := by
      have := (hL.2 k' h1 h2).1
      have h5 : cu D o k' = i := h4
      rwa [h5] at this
    have hne : k' ≠ k := fun z => by
      subst z
      have h5 : cu D o k' = i := h4
      omega
    simp only [m_Bests_priceOf_2]
    simp (disch := omega) only [hL.1, nn_le, ck_n, nn_c, e42, nn_eq, nn_s]
    rw [if_neg (by omega), if_neg hne]
    exact hkk _ rfl
  · rintro t kk rfl
    obtain ⟨e1, _⟩ := hL.2 k hk ho
    simp only [m_Bests_priceOf_2]
    simp (disch := omega) only [hL.1, nn_le, ck_n, nn_c, e1, hc k hk ho]
    rw [if_neg (by omega), if_pos trivial]
    exact gt_some rfl
theorem st_best {S T : gx_S} (h : RR S T) (x y : Int32) : cSS (m_ShopsAsOne_best x y S) (n_best x y T) := by
  obtain ⟨A, hA, hS, hT, hK⟩ := id h
  have hP := (wG_P hA.1).2
  have hO := (wG_O hA.1).2
  unfold m_ShopsAsOne_best n_best m_ShopsAsOne_best_81 n_best_65
  rcases chkP (by omega) (RS_c hA hS).2.1 (RT_c hA hT).2.1 x with ⟨k, h1, rfl, h3, h4⟩ | ⟨h3, h4⟩
  · rw [h3, h4, cp_s, cp_s, if_pos rfl, if_neg i10]
    rcases chkR y 0 1 S T with ⟨_, g3, g4⟩ | ⟨g3, g4⟩
    · rw [g3, g4, cp_s, cp_s, if_pos rfl, if_neg i10]
      have pS := pX_R hA hS
      have pT := pU_R hA hT
      obtain ⟨ew, hw6⟩ := w0_w (wD_0 hA.2.2.1) (j := k) (by omega)
      have e23 : S 23 k = nn (wh (qD A) k) := by rw [← ew]; exact pS.2.2.2 2 k (by omega) (by omega) (by omega)
      have e4 : T 4 k = nn (wh (qD A) k) := by rw [← ew]; exact (pT.2.2.2.1 k (by omega)).2.1
      have hown : ow (qD A) (wh (qD A) k) k = true := by unfold ow; rw [decide_eq_true_eq]; exact ew
      rw [ck_n (by omega) (by omega), ck_n (by omega) (by omega), nn_c (by omega), e23, e4]
      obtain ⟨o, ho⟩ : ∃ o, o = wh (qD A) k := ⟨_, rfl⟩
      rw [← ho] at hw6 hown ⊢
      refine gt_cp (x_look pS hA.2.2.1 (by omega) hw6) (fun S' hS' => ?_)
      obtain ⟨s1, s2, s3, s4, s5⟩ := hS'
      have hl := u_layBest pT hA.2.2.1 hw6
      have fin : ∀ T', fL T T' → uD (qD A) T' → RR S' T' := fun T' f u => RR_M hA hS hT hK (fX_P (fB_X s1)) (fL_M f) u
      by_cases y0 : y = 0
      · rw [if_pos y0, x_priceOf s2 s5 (hA.2.2.1.2.2 o hw6) h1 hP hown, cp_s]
        refine gt_some (gt_cp hl (fun T' hT' => ?_))
        obtain ⟨t1, t2, t3, t4, t5⟩ := hT'
        rw [if_pos y0, t3 k h1]
        exact gt_some ⟨rfl, fin T' t1 t2⟩
      · rw [if_neg y0]
        have e2 : S' 2 o = qG A 2 o := by rw [s1 _ _ (by omega)]; exact hS.1.1 _ _ (by omega) (by omega)
        rw [ck_n hw6 (by omega), nn_c (by omega), e2, s4]
        have fin2 : ∀ v : Int32, v = (if qG A 2 o = 4 then (if bI (qG A) (qD A) o = 0 then 0 else 1) else 1) → gt (gx_cp (n_layBest (nn o) T) fun S7 => if y = 0 then some (S7 16 k, S7) else gx_ck 6 (nn o) (if (S7 1 o) = 4 then if (S7 0 26) = 0 then some (0, S7) else some (1, S7) else some (1, S7))) fun r' => v = r'.1 ∧ RR S' r'.2 := fun v hv => by
          refine gt_cp hl (fun T' hT' => ?_)
          obtain ⟨t1, t2, t3, t4, t5⟩ := hT'
          have e1 : T' 1 o = qG A 2 o := by
            rw [t1 _ _ (by omega) (by omega) (by omega) (by omega) (by omega) (by omega)]; exact (pT.2.2.1.2.1 o hw6).1
          rw [if_neg y0, ck_n hw6 (by omega), e1, t4]
          by_cases q4 : qG A 2 o = 4
          · rw [if_pos q4] at hv ⊢
            by_cases b0 : bI (qG A) (qD A) o = 0
            · rw [if_pos b0] at hv ⊢; exact gt_some ⟨hv, fin T' t1 t2⟩
            · rw [if_neg b0] at hv ⊢; exact gt_some ⟨hv, fin T' t1 t2⟩
          · rw [if_neg q4] at hv ⊢; exact gt_some ⟨hv, fin T' t1 t2⟩
        by_cases q4 : qG A 2 o = 4
        · rw [if_pos q4]
          by_cases b0 : bI (qG A) (qD A) o = 0
          · rw [if_pos b0]; exact gt_some (fin2 0 (by rw [if_pos q4, if_pos b0]))
          · rw [if_neg b0]; exact gt_some (fin2 1 (by rw [if_pos q4, if_neg b0]))
        · rw [if_neg q4]; exact gt_some (fin2 1 (by rw [if_neg q4]))
    · rw [g3, g4, cp_s, cp_s, if_neg i10, if_pos rfl]; exact cSS_s h
  · rw [h3, h4, cp_s, cp_s, if_neg i10, if_pos rfl]; exact cSS_s h
theorem st_turn {S T : gx_S} (h : RR S T) (x : Int32) : cSS (m_ShopsAsOne_turn x S) (n_turn x T) := by
  obtain ⟨A, hA, hS, hT, hK⟩ := id h
  have hO := (wG_O hA.1).2
  unfold m_ShopsAsOne_turn n_turn
  rcases chkO (by omega) (RS_c hA hS).1 (RT_c hA hT).1 x with ⟨o, h1, rfl, h3, h4⟩ | ⟨h3, h4⟩
  · rw [h3, h4, cp_s, cp_s, if_pos rfl, if_neg i10]
    have pS := pX_R hA hS
    have pT := pU_R hA hT
    refine gt_cp (x_look pS hA.2.2.1 (by omega) (by omega)) (fun S' hS' => ?_)
    obtain ⟨s1, s2, s3, s4, s5⟩ := hS'
    refine gt_cs (x_take (pX_f pS (by omega) s1) hA.2.2.1 (by omega) (by omega) s2 s4 s5) (fun v S2 h2 => ?_)
    obtain ⟨w1, w2, w3⟩ := h2
    simp only at w1 w2 w3
    refine gt_some (gt_cs (u_turnOf pT hA.2.2.1 (by omega)) (fun v' T' hT' => ?_))
    obtain ⟨t1, t2, t3⟩ := hT'
    simp only at t1 t2 t3
    exact gt_some ⟨by rw [w1, t1], RR_D hA hS hT hK (wD_tk hA.1 hA.2.2.1 o) (zD_tk hA.2.2.2.1 o) (fun q j hq => by show S2 q j = S q j; rw [w2 q j (by omega), s1 q j (by omega)]) w3 (fL_M t2) t3.2.2.2.1⟩
  · rw [h3, h4, cp_s, cp_s, if_neg i10, if_pos rfl]; exact cSS_s h
theorem st_rest {S T : gx_S} (h : RR S T) : cSS (m_ShopsAsOne_rest S) (n_rest T) := by
  obtain ⟨A, hA, hS, hT, hK⟩ := id h
  have hN := (wG_S hA.1).2
  have pS := pX_R hA hS
  have pT := pU_R hA hT
  unfold m_ShopsAsOne_rest n_rest
  refine gt_cp (x_become (r := 1) (r1 := 0) (by omega) hA.2.2.1 pS.2.2.2) (fun S2 h2 => ?_)
  obtain ⟨f2, d2⟩ := h2
  have p2 : pX 1 (qG A) (qD A) S2 := ⟨hA.1, pS.2.1, vG_f pS.2.2.1 hN (fun q j hq => f2 q j (by omega)), d2⟩
  refine gt_cs (x_settle p2 hA.2.2.1 (by omega)) (fun v S4 h4 => ?_)
  obtain ⟨e4, f4, d4⟩ := h4
  simp only at e4 f4 d4
  have f04 : fP S S4 := fun q j hq => (f4 q j (by omega) (by omega)).trans (f2 q j (by omega))
  rw [e4]
  have hR : gt (gx_cp (n_hold T) fun S2 => gx_cs (n_goOn S2) fun v5 S4 => if v5 = -1 then gx_cp (n_back S4) fun S7 => some ((-103), S7) else some (v5, S4)) fun r' => (if (ste (qG A) (qD A)).1 = -1 then r'.1 = -103 ∧ fM T r'.2 ∧ uD (qD A) r'.2 else r'.1 = (ste (qG A) (qD A)).1 ∧ fM T r'.2 ∧ uD (ste (qG A) (qD A)).2 r'.2) := by
    refine gt_cp (u_hold pT hA.2.2.1) (fun T2 h2 => ?_)
    obtain ⟨g2, hh⟩ := h2
    have m2 : fM T T2 := fun q j a1 a2 a3 a4 a5 => g2 q j (by omega) (by omega) (by omega)
    have pT2 : pU (qG A) (qD A) (-1) T2 := pU_M pT m2 pT.2.1 (fun j hj => by
      rw [g2 _ _ (by omega) (by omega) (by omega), g2 _ _ (by omega) (by omega) (by omega), g2 _ _ (by omega) (by omega) (by omega)]; exact pT.2.2.2.1 j hj)
    refine gt_cs (u_goOn pT2 hA.2.2.1) (fun v5 T4 h4 => ?_)
    obtain ⟨e5, f5, p5⟩ := h4
    simp only at e5 f5 p5
    have hh4 : hH (qD A) T4 := fun j hj => by
      rw [f5 _ _ (by omega) (by omega) (by omega) (by omega) (by omega) (by omega), f5 _ _ (by omega) (by omega) (by omega) (by omega) (by omega) (by omega), f5 _ _ (by omega) (by omega) (by omega) (by omega) (by omega) (by omega)]
      exact hh j hj
    rw [e5]
    by_cases q : (ste (qG A) (qD A)).1 = -1
    · rw [if_pos q]
      simp only [if_pos q]
      refine gt_cp (u_back hA.2.2.1 hh4) (fun T7 h7 => ?_)
      exact gt_some ⟨rfl, fun q j a1 a2 a3 a4 a5 => by show T7 q j = T q j; rw [h7.1 q j a1 a2 a3, fL_M f5 q j a1 a2 a3 a4 a5]; exact m2 q j a1 a2 a3 a4 a5, h7.2⟩
    · rw [if_neg q]
      simp only [if_neg q]
      exact gt_some ⟨rfl, fM_t m2 (fL_M f5), p5.2.2.2.1⟩
  by_cases q : (ste (qG A) (qD A)).1 = -1
  · simp only [if_pos q] at hR
    rw [if_pos q]
    exact gt_some (gt_mono hR (fun r' h' => ⟨h'.1.symm, RR_M hA hS hT hK f04 h'.2.1 h'.2.2⟩))
  · simp only [if_neg q] at hR
    rw [if_neg q]
    have hw := wD_ste hA.1 hA.2.2.1
    refine gt_cp (x_become (r := 0) (r1 := 1) (by omega) hw d4) (fun S7 h7 => ?_)
    obtain ⟨f7, d7⟩ := h7
    refine gt_some (gt_mono hR (fun r' h' => ⟨h'.1.symm, RR_D hA hS hT hK hw (zD_stl 20 0 hA.2.2.2.1) (fun q j hq => ?_) d7 h'.2.1 h'.2.2⟩))
    simp only
    rw [f7 q j (by omega)]; exact f04 q j (by omega)
theorem x_gainOf {G D S : gx_S} (p : pX 0 G D S) (hw : wD G D) {o : Nat} (ho : o < 6) : gt (m_ShopsAsOne_gainOf (nn o) S) fun t => t.1 = bG G D o - pro G D o ∧ fB S t.2 := by
  unfold m_ShopsAsOne_gainOf
  refine gt_cp (x_look p hw (by omega) ho) (fun S' h' => ?_)
  obtain ⟨s1, s2, s3, s4, s5⟩ := h'
  rw [x_profitOf (pX_f p (by omega) s1) ho, cp_s, s3]
  exact gt_some ⟨rfl, s1⟩
theorem st_gain {S T : gx_S} (h : RR S T) (x : Int32) : cSS (m_ShopsAsOne_gain x S) (n_gain x T) := by
  obtain ⟨A, hA, hS, hT, hK⟩ := id h
  have hO := (wG_O hA.1).2
  unfold m_ShopsAsOne_gain n_gain
  rcases chkO (by omega) (RS_c hA hS).1 (RT_c hA hT).1 x with ⟨o, h1, rfl, h3, h4⟩ | ⟨h3, h4⟩
  · rw [h3, h4, cp_s, cp_s, if_pos rfl, if_neg i10]
    refine gt_cs (x_gainOf (pX_R hA hS) hA.2.2.1 (by omega)) (fun v S' h' => ?_)
    refine gt_some (gt_cs (u_gainOf (pU_R hA hT) hA.2.2.1 (by omega)) (fun v' T' hT' => ?_))
    exact gt_some ⟨by have := h'.1; have := hT'.1; simp only at *; rw [h'.1, hT'.1], RR_M hA hS hT hK (fX_P (fB_X h'.2)) hT'.2.1 hT'.2.2.2.2.2.1⟩
  · rw [h3, h4, cp_s, cp_s, if_neg i10, if_pos rfl]; exact cSS_s h
theorem st_otherwise {S T : gx_S} (h : RR S T) : cSS (m_ShopsAsOne_otherwise S) (n_otherwise T) := by
  obtain ⟨A, hA, hS, hT, hK⟩ := id h
  have hO := (wG_O hA.1).2
  have pS := pX_R hA hS
  have key : gt (m_ShopsAsOne_otherwise S) fun t => t.1 = oth (qG A) (qD A) (nO (qG A)) 0 ∧ fB S t.2 := by
    unfold m_ShopsAsOne_otherwise
    refine gt_for (nO (qG A)) (fun j t => t.1 = nn j ∧ oth (qG A) (qD A) (nO (qG A) - j) j = oth (qG A) (qD A) (nO (qG A)) 0 ∧ fB S t.2) ?_ ?_ 0 5000 _ (by omega) ⟨rfl, rfl, fB_r S⟩ (by omega)
    · rintro j ⟨_, U⟩ k hj ⟨rfl, e, f⟩ hk
      simp only at e f
      simp only [m_ShopsAsOne_otherwise_2]
      have p := pX_f pS (by omega) f
      have e1 : U 1 0 = nn (nO (qG A)) := by rw [f _ _ (by omega)]; exact (RS_c hA hS).1
      simp (disch := omega) only [e1, nn_le, nn_s]
      rw [if_neg (by omega)]
      refine gt_cs (x_gainOf p hA.2.2.1 (o := j) (by omega)) (fun a V hV => ?_)
      obtain ⟨v1, v2⟩ := hV
      simp only at v1 v2
      obtain ⟨m, hm⟩ : ∃ m, nO (qG A) - j = m + 1 := ⟨nO (qG A) - j - 1, by omega⟩
      rw [hm] at e
      have e' : (if bG (qG A) (qD A) j - pro (qG A) (qD A) j ≤ 0 then oth (qG A) (qD A) m (j + 1) else nn j) = oth (qG A) (qD A) (nO (qG A)) 0 := e
      rw [v1]
      by_cases q : bG (qG A) (qD A) j - pro (qG A) (qD A) j ≤ 0
      · rw [if_pos q] at e' ⊢
        refine hk _ ⟨rfl, ?_, fB_t f v2⟩
        rw [show nO (qG A) - (j + 1) = m by omega]; exact e'
      · rw [if_neg q] at e' ⊢
        exact gt_some ⟨e', fB_t f v2⟩
    · rintro ⟨_, U⟩ k ⟨rfl, e, f⟩
      simp only at e f
      simp only [m_ShopsAsOne_otherwise_2]
      have e1 : U 1 0 = nn (nO (qG A)) := by rw [f _ _ (by omega)]; exact (RS_c hA hS).1
      simp (disch := omega) only [e1, nn_le]
      rw [if_pos (by omega)]
      rw [Nat.sub_self] at e
      exact gt_some ⟨e, f⟩
  refine gt_mono key (fun r hr => gt_mono (u_otherwise (pU_R hA hT) hA.2.2.1) (fun r' hr' => ⟨by rw [hr.1, hr'.1], RR_M hA hS hT hK (fX_P (fB_X hr.2)) hr'.2.1 hr'.2.2.2.2.2.1⟩))
theorem st_market {S T : gx_S} (h : RR S T) (x y z : Int32) : cSS (m_ShopsAsOne_market x y z S) (n_market x y z T) := by
  obtain ⟨A, hA, hS, hT, hK⟩ := id h
  have hP := (wG_P hA.1).2
  have pS := pX_R hA hS
  have pT := pU_R hA hT
  unfold m_ShopsAsOne_market n_market
  rcases chkP (by omega) (RS_c hA hS).2.1 (RT_c hA hT).2.1 x with ⟨i, h1, rfl, h3, h4⟩ | ⟨h3, h4⟩
  · rw [h3, h4, cp_s, cp_s, if_pos rfl, if_neg i10]
    rcases chkR y 1 5 S T with ⟨hb, g3, g4⟩ | ⟨g3, g4⟩
    · rw [g3, g4, cp_s, cp_s, if_pos rfl, if_neg i10]
      obtain ⟨ey, hy⟩ := bw_n (x := y) (n := 5) (by decide) ⟨by have := hb.1; lia, hb.2⟩
      rw [ey]
      generalize y.toNatClampNeg = k at hy
      rw [x_isOpen pS (by omega), u_isOpen pT (by omega), opx_m1 (by omega), cp_s, cp_s]
      simp only [ib_0]
      by_cases c : opn (qG A) (qD A) i = false
      · rw [if_pos c, if_pos c]; exact cSS_s h
      · rw [if_neg c, if_neg c]
        by_cases z0 : z = 0
        · rw [if_pos z0, if_pos z0]
          refine gt_cs (x_nearMarket pS hA.2.2.1 (by omega)) (fun v S' h' => ?_)
          refine gt_some (gt_cs (u_nearestMarket pT hA.2.2.1 h1 hy) (fun v' T' hT' => ?_))
          have e1 := h'.1
          have e2 := hT'.1
          simp only at e1 e2
          exact gt_some ⟨by rw [e1, e2], RR_M hA hS hT hK (fX_P h'.2) hT'.2.1 hT'.2.2.2.2.2.1⟩
        · rw [if_neg z0, if_neg z0]
          refine gt_cs (x_leastMarket pS hA.2.2.1 (by omega)) (fun v S' h' => ?_)
          refine gt_some (gt_cs (u_leastMarket pT hA.2.2.1 (by omega) hy) (fun v' T' hT' => ?_))
          exact gt_some ⟨lsm_u h'.1 hT'.1, RR_M hA hS hT hK (fX_P h'.2) hT'.2.1 hT'.2.2.2.2.2.1⟩
    · rw [g3, g4, cp_s, cp_s, if_neg i10, if_pos rfl]; exact cSS_s h
  · rw [h3, h4, cp_s, cp_s, if_neg i10, if_pos rfl]; exact cSS_s h
theorem st_merge {S T : gx_S} (h : RR S T) (x y : Int32) : cSS (m_ShopsAsOne_merge x y S) (n_merge x y T) := by
  obtain ⟨A, hA, hS, hT, hK⟩ := id h
  have hO := (wG_O hA.1).2
  have pS := pX_R hA hS
  have pT := pU_R hA hT
  unfold m_ShopsAsOne_merge n_merge
  rcases chkTwo (by omega) (RS_c hA hS).1 (RT_c hA hT).1 x y with ⟨a, b, h1, h2, hab, rfl, rfl, h3, h4⟩ | ⟨h3, h4⟩
  · rw [h3, h4, cp_s, cp_s, if_pos rfl, if_neg i10]
    rcases chkM pS pT a b with ⟨c3, g3, g4⟩ | ⟨_, g3, g4⟩
    · rw [g3, g4, cp_s, cp_s, if_pos rfl, if_neg i10]
      have hw := wD_gv hA.2.2.1 hO h1 h2 hab c3
      refine gt_cp (x_give pS (by omega) a b) (fun S' h' => ?_)
      obtain ⟨f, d⟩ := h'
      have pS' : pX 0 (qG A) (gv (qG A) (qD A) a b) S' := ⟨hA.1, wD_0 hw, vG_f pS.2.2.1 (wG_S hA.1).2 (fun q j hq => f q j (by omega)), d⟩
      rw [x_shopsOf pS', cp_s]
      refine gt_some (gt_cp (u_mergeNow pT a b) (fun T' hT' => ?_))
      obtain ⟨g, e⟩ := hT'
      have mT : fM T T' := fun q j a1 a2 a3 a4 a5 => g q j a2
      have dT : uD (gv (qG A) (qD A) a b) T' := fun j hj => by
        obtain ⟨a1, a2, a3⟩ := hT.2.1 j hj
        refine ⟨?_, e j hj, ?_⟩
        · rw [g _ _ (by omega), a1]; simp [gv]
        · rw [g _ _ (by omega), a3]; simp [gv]
      rw [u_shopsOf (pU_M pT mT (wD_0 hw) dT), cp_s]
      exact gt_some ⟨rfl, RR_D hA hS hT hK hw (zD_gv hA.2.2.2.1 a b) (fun q j hq => f q j (by omega)) d mT dT⟩
    · rw [g3, g4, cp_s, cp_s, if_neg i10, if_pos rfl]; exact cSS_s h
  · rw [h3, h4, cp_s, cp_s, if_neg i10, if_pos rfl]; exact cSS_s h

/-! b34: what rests before and behind -/
theorem x_before {A : rA} {S : gx_S} (hA : RA A) (hS : RS A S) : gt (m_Joining_restsBefore 0 S) fun t => t.1 = (if (ste (qG A) (qD A)).1 = -1 then 0 else 1) ∧ fJ S t.2 ∧ (¬ (ste (qG A) (qD A)).1 = -1 → sB (qG A) (ste (qG A) (qD A)).2 t.2) := x_restsBefore (pX_R hA hS) hA.2.2.1 (by omega)
theorem fJ_P {S T : gx_S} (f : fJ S T) : fP S T := fX_P (fJ_X f)
theorem fK_P {S T : gx_S} (f : fK S T) : fP S T := fX_P (fK_X f)
/-- the reference's merged pair, all as it was behind it -/
theorem u_beh {G D T : gx_S} {a b : Nat} {y : Int32} (p : pU G D (-1) T) (hw : wD G D) (hg : wD G (gv G D a b)) : gt (n_layBehind (nn a) (nn b) (-1) y 0 (-1) T) fun t => t.1 = (if (ste G (gv G D a b)).1 = -1 then 0 else 1) ∧ fM T t.2 ∧ pU G D (-1) t.2 ∧ t.2 0 34 = (ste G (gv G D a b)).1 ∧ (∀ s, s < nS G → t.2 22 s = spa G (ste G (gv G D a b)).2 s) ∧ ∀ s, t.2 21 s = T 21 s := by
  have h := u_layBehind (m := 0) (a := a) (b := b) (x := -1) (y := y) p hw (by decide) (wD_0 hg) (by rw [sx2_0]; exact hg)
  rw [sx2_0] at h
  exact h
theorem st_dearer {S T : gx_S} (h : RR S T) (x y z : Int32) : cSS (m_ShopsAsOne_dearer x y z S) (n_dearer x y z T) := by
  obtain ⟨A, hA, hS, hT, hK⟩ := id h
  have hO := (wG_O hA.1).2
  have hN := (wG_S hA.1).2
  have pS := pX_R hA hS
  have pT := pU_R hA hT
  unfold m_ShopsAsOne_dearer n_dearer n_dearer_54
  rcases chkTwo (by omega) (RS_c hA hS).1 (RT_c hA hT).1 x y with ⟨a, b, h1, h2, hab, rfl, rfl, h3, h4⟩ | ⟨h3, h4⟩
  · rw [h3, h4, cp_s, cp_s, if_pos rfl, if_neg i10]
    rcases chkS (by omega) (RS_c hA hS).2.2 (RT_c hA hT).2.2 z with ⟨s, k1, rfl, k3, k4⟩ | ⟨k3, k4⟩
    · rw [k3, k4, cp_s, cp_s, if_pos rfl, if_neg i10]
      rcases chkM pS pT a b with ⟨c3, g3, g4⟩ | ⟨_, g3, g4⟩
      · rw [g3, g4, cp_s, cp_s, if_pos rfl, if_neg i10]
        have hg := wD_gv hA.2.2.1 hO h1 h2 hab c3
        refine gt_cs (x_before hA hS) (fun v S1 hS1 => ?_)
        obtain ⟨e1, f1, b1⟩ := hS1
        simp only at e1 f1 b1
        rw [e1]
        have pS1 := pX_J pS (by omega) f1
        by_cases q : (ste (qG A) (qD A)).1 = -1
        · rw [if_pos q, if_pos rfl]
          refine gt_some (gt_cs (u_layBefore pT hA.2.2.1) (fun v' T1 hT1 => ?_))
          obtain ⟨e2, g1, p1, _⟩ := hT1
          simp only at e2 g1 p1
          rw [e2, if_pos q, if_pos rfl]
          unfold n_dearer_55
          rw [if_pos rfl]
          exact gt_some ⟨rfl, RR_M hA hS hT hK (fJ_P f1) g1 p1.2.2.2.1⟩
        · rw [if_neg q, if_neg i10]
          refine gt_cs (x_roundsBehind pS1 hA.2.2.1 (by omega) (by omega) (by omega) hg) (fun v2 S2 hS2 => ?_)
          obtain ⟨e3, f3, p3⟩ := hS2
          simp only at e3 f3 p3
          rw [e3]
          have b3 := sB_K (b1 q) f3
          have fp : fP S S2 := fP_t (fJ_P f1) (fK_P f3)
          have right : ∀ v : Int32, v = (if (ste (qG A) (gv (qG A) (qD A) a b)).1 = -1 then -1002 else dr (qG A) (ste (qG A) (qD A)).2 (ste (qG A) (gv (qG A) (qD A) a b)).2 s) → gt (gx_cs (n_layBefore T) fun v9 S8 => if v9 = 0 then n_dearer_55 (nn s) 0 S8 else gx_cs (n_layBehind (nn a) (nn b) (-1) (-1) 0 (-1) S8) fun v12 S11 => if v12 = 0 then n_dearer_55 (nn s) 0 S11 else n_dearer_55 (nn s) 1 S11) fun r' => v = r'.1 ∧ RR S2 r'.2 := fun v hv => by
            refine gt_cs (u_layBefore pT hA.2.2.1) (fun v' T1 hT1 => ?_)
            obtain ⟨e2, g1, p1, t21⟩ := hT1
            simp only at e2 g1 p1 t21
            rw [e2, if_neg q, if_neg i10]
            refine gt_cs (u_beh p1 hA.2.2.1 hg) (fun v2 T2 hT2 => ?_)
            obtain ⟨e4, g4, p4, _, t22, t21'⟩ := hT2
            simp only at e4 g4 p4 t22 t21'
            rw [e4]
            unfold n_dearer_55
            by_cases q2 : (ste (qG A) (gv (qG A) (qD A) a b)).1 = -1
            · rw [if_pos q2] at hv
              rw [if_pos q2, if_pos rfl, if_pos rfl]
              exact gt_some ⟨hv, RR_M hA hS hT hK fp (fM_t g1 g4) p4.2.2.2.1⟩
            · rw [if_neg q2] at hv
              rw [if_neg q2, if_neg i10, if_neg i10, ck_n (by omega) (by omega), nn_c (by omega), t21', t21 s k1, t22 s k1]
              exact gt_some ⟨hv, RR_M hA hS hT hK fp (fM_t g1 g4) p4.2.2.2.1⟩
          by_cases q2 : (ste (qG A) (gv (qG A) (qD A) a b)).1 = -1
          · rw [if_pos q2]
            exact gt_some (right _ (by rw [if_pos q2]))
          · rw [if_neg q2, x_dearerFor p3 b3 k1, cp_s]
            exact gt_some (right _ (by rw [if_neg q2]))
      · rw [g3, g4, cp_s, cp_s, if_neg i10, if_pos rfl]
        unfold n_dearer_55
        rw [if_pos rfl]
        exact cSS_s h
    · rw [k3, k4, cp_s, cp_s, if_neg i10, if_pos rfl]; exact cSS_s h
  · rw [h3, h4, cp_s, cp_s, if_neg i10, if_pos rfl]; exact cSS_s h
theorem st_harm {S T : gx_S} (h : RR S T) (x y z : Int32) : cSS (m_ShopsAsOne_harm x y z S) (n_harm x y z T) := by
  obtain ⟨A, hA, hS, hT, hK⟩ := id h
  have hO := (wG_O hA.1).2
  have hN := (wG_S hA.1).2
  have pS := pX_R hA hS
  have pT := pU_R hA hT
  unfold m_ShopsAsOne_harm n_harm
  rcases chkTwo (by omega) (RS_c hA hS).1 (RT_c hA hT).1 x y with ⟨a, b, h1, h2, hab, rfl, rfl, h3, h4⟩ | ⟨h3, h4⟩
  · rw [h3, h4, cp_s, cp_s, if_pos rfl, if_neg i10]
    rcases chkR z 0 2 S T with ⟨hz, k3, k4⟩ | ⟨k3, k4⟩
    · rw [k3, k4, cp_s, cp_s, if_pos rfl, if_neg i10]
      rcases chkM pS pT a b with ⟨c3, g3, g4⟩ | ⟨_, g3, g4⟩
      · rw [g3, g4, cp_s, cp_s, if_pos rfl, if_neg i10]
        have hg := wD_gv hA.2.2.1 hO h1 h2 hab c3
        refine gt_cs (x_before hA hS) (fun v S1 hS1 => ?_)
        obtain ⟨e1, f1, b1⟩ := hS1
        simp only at e1 f1 b1
        rw [e1]
        have pS1 := pX_J pS (by omega) f1
        by_cases q : (ste (qG A) (qD A)).1 = -1
        · rw [if_pos q, if_pos rfl]
          refine gt_some (gt_cs (u_layBefore pT hA.2.2.1) (fun v' T1 hT1 => ?_))
          obtain ⟨e2, g1, p1, _⟩ := hT1
          simp only at e2 g1 p1
          rw [e2, if_pos q, if_pos rfl]
          exact gt_some ⟨rfl, RR_M hA hS hT hK (fJ_P f1) g1 p1.2.2.2.1⟩
        · rw [if_neg q, if_neg i10]
          refine gt_cs (x_roundsBehind pS1 hA.2.2.1 (by omega) (by omega) (by omega) hg) (fun v2 S2 hS2 => ?_)
          obtain ⟨e3, f3, p3⟩ := hS2
          simp only at e3 f3 p3
          rw [e3]
          have b3 := sB_K (b1 q) f3
          have fp : fP S S2 := fP_t (fJ_P f1) (fK_P f3)
          have right : ∀ v : Int32, v = (if (ste (qG A) (gv (qG A) (qD A) a b)).1 = -1 then -1 else if z = 2 then (ste (qG A) (gv (qG A) (qD A) a b)).1 else if z = 1 then hsm (qG A) (ste (qG A) (qD A)).2 (ste (qG A) (gv (qG A) (qD A) a b)).2 else hrm (qG A) (ste (qG A) (qD A)).2 (ste (qG A) (gv (qG A) (qD A) a b)).2) → gt (gx_cs (n_layBefore T) fun v9 S8 => if v9 = 0 then some ((-1), S8) else gx_cs (n_layBehind (nn a) (nn b) (-1) (-1) 0 (-1) S8) fun v12 S11 => if v12 = 0 then some ((-1), S11) else if z = 2 then some (S11 0 34, S11) else if z = 1 then n_harm_81 1 S11 else n_harm_81 0 S11) fun r' => v = r'.1 ∧ RR S2 r'.2 := fun v hv => by
            refine gt_cs (u_layBefore pT hA.2.2.1) (fun v' T1 hT1 => ?_)
            obtain ⟨e2, g1, p1, t21⟩ := hT1
            simp only at e2 g1 p1 t21
            rw [e2, if_neg q, if_neg i10]
            refine gt_cs (u_beh p1 hA.2.2.1 hg) (fun v2 T2 hT2 => ?_)
            obtain ⟨e4, g4, p4, t34, t22, t21'⟩ := hT2
            simp only at e4 g4 p4 t34 t22 t21'
            rw [e4]
            have fin := RR_M hA hS hT hK fp (fM_t g1 g4) p4.2.2.2.1
            by_cases q2 : (ste (qG A) (gv (qG A) (qD A) a b)).1 = -1
            · rw [if_pos q2] at hv
              rw [if_pos q2, if_pos rfl]
              exact gt_some ⟨hv, fin⟩
            · rw [if_neg q2] at hv
              rw [if_neg q2, if_neg i10]
              have hh := u_harmNow p4 (B := (ste (qG A) (qD A)).2) (E := (ste (qG A) (gv (qG A) (qD A) a b)).2) (fun s hs => by rw [t21']; exact t21 s hs) t22
              by_cases z2 : z = 2
              · rw [if_pos z2] at hv ⊢
                exact gt_some ⟨by rw [hv, ← t34], fin⟩
              · rw [if_neg z2] at hv ⊢
                by_cases z1 : z = 1
                · rw [if_pos z1] at hv ⊢
                  unfold n_harm_81
                  rw [hh, if_neg i10, cp_s]
                  exact gt_some ⟨hv, fin⟩
                · rw [if_neg z1] at hv ⊢
                  unfold n_harm_81
                  rw [hh, if_pos rfl, cp_s]
                  exact gt_some ⟨hv, fin⟩
          by_cases q2 : (ste (qG A) (gv (qG A) (qD A) a b)).1 = -1
          · rw [if_pos q2]
            exact gt_some (right _ (by rw [if_pos q2]; exact q2))
          · rw [if_neg q2]
            by_cases z2 : z = 2
            · rw [if_pos z2]
              exact gt_some (right _ (by rw [if_neg q2, if_pos z2]))
            · rw [if_neg z2]
              by_cases z0 : z = 0
              · rw [if_pos z0, x_harmInAll p3 b3, cp_s]
                exact gt_some (right _ (by rw [if_neg q2, if_neg z2, if_neg (by rw [z0]; decide)]))
              · have z1 : z = 1 := by
                  obtain ⟨w1, w2⟩ := hz
                  lia
                rw [if_neg z0, x_sortsHarmed p3 b3, cp_s]
                exact gt_some (right _ (by rw [if_neg q2, if_neg z2, if_pos z1]))
      · rw [g3, g4, cp_s, cp_s, if_neg i10, if_pos rfl]; exact cSS_s h
    · rw [k3, k4, cp_s, cp_s, if_neg i10, if_pos rfl]; exact cSS_s h
  · rw [h3, h4, cp_s, cp_s, if_neg i10, if_pos rfl]; exact cSS_s h
theorem st_soldOff {S T : gx_S} (h : RR S T) (x y z t : Int32) : cSS (m_ShopsAsOne_soldOff x y z t S) (n_soldOff x y z t T) := by
  obtain ⟨A, hA, hS, hT, hK⟩ := id h
  have hO := (wG_O hA.1).2
  have hP := (wG_P hA.1).2
  have pS := pX_R hA hS
  have pT := pU_R hA hT
  unfold m_ShopsAsOne_soldOff n_soldOff
  rcases chkTwo (by omega) (RS_c hA hS).1 (RT_c hA hT).1 x y with ⟨a, b, h1, h2, hab, rfl, rfl, h3, h4⟩ | ⟨h3, h4⟩
  · rw [h3, h4, cp_s, cp_s, if_pos rfl, if_neg i10]
    -- c, as each side asks for it
    have two : ∀ u v, u < nO (qG A) → (∃ c, c < nO (qG A) ∧ u ≠ c ∧ v = nn c ∧ m_ShopsAsOne_areNotTwo (nn u) v S = some 0) ∨ (m_ShopsAsOne_areNotTwo (nn u) v S = some 1 ∧ (n_isOwner v T = some 0 ∨ n_isOwner v T = some 1 ∧ v = nn u)) := fun u v hu => by
      rcases chkTwo (by omega) (RS_c hA hS).1 (RT_c hA hT).1 (nn u) v with ⟨a', c, i1, i2, i3, i4, i5, i6, _⟩ | ⟨i6, _⟩
      · rw [nn_eq (by omega) (by omega)] at i4
        subst i4
        exact Or.inl ⟨c, i2, i3, i5, i6⟩
      · refine Or.inr ⟨i6, ?_⟩
        rcases chkO (by omega) (RS_c hA hS).1 (RT_c hA hT).1 v with ⟨c, j1, j2, j3, j4⟩ | ⟨j3, j4⟩
        · refine Or.inr ⟨j4, ?_⟩
          rcases Nat.lt_trichotomy u c with w | w | w
          · exfalso
            rcases chkO (by omega) (RS_c hA hS).1 (RT_c hA hT).1 (nn u) with ⟨_, _, _, l3, _⟩ | ⟨l3, l4⟩
            · unfold m_ShopsAsOne_areNotTwo m_ShopsAsOne_areNotTwo_21 at i6
              rw [l3, j3, cp_s, if_pos rfl, cp_s, if_pos rfl, j2, if_neg (by rw [nn_eq (by omega) (by omega)]; omega)] at i6
              exact absurd (Option.some.inj i6) (by decide)
            · rcases chk (n := nO (qG A)) (by omega) (nn u) S T with ⟨_, _, _, m3, _⟩ | ⟨m3, m4⟩
              · unfold m_ShopsAsOne_isNoOwner at l3
                rw [(RS_c hA hS).1, m3] at l3
                exact absurd (Option.some.inj ((bz_0 (k := some (0 : Int32))).symm.trans l3)) (by decide)
              · rw [u_within, if_neg (by rw [nn_0, nn_lt (by omega) (by omega)]; omega), nn_p (by omega), if_neg (by rw [nn_lt (by omega) (by omega)]; omega)] at m4
                exact absurd (Option.some.inj m4) (by decide)
          · rw [j2, w]
          · exfalso
            rcases chkO (by omega) (RS_c hA hS).1 (RT_c hA hT).1 (nn u) with ⟨_, _, _, l3, _⟩ | ⟨l3, l4⟩
            · unfold m_ShopsAsOne_areNotTwo m_ShopsAsOne_areNotTwo_21 at i6
              rw [l3, j3, cp_s, if_pos rfl, cp_s, if_pos rfl, j2, if_neg (by rw [nn_eq (by omega) (by omega)]; omega)] at i6
              exact absurd (Option.some.inj i6) (by decide)
            · rcases chk (n := nO (qG A)) (by omega) (nn u) S T with ⟨_, _, _, m3, _⟩ | ⟨m3, m4⟩
              · unfold m_ShopsAsOne_isNoOwner at l3
                rw [(RS_c hA hS).1, m3] at l3
                exact absurd (Option.some.inj ((bz_0 (k := some (0 : Int32))).symm.trans l3)) (by decide)
              · rw [u_within, if_neg (by rw [nn_0, nn_lt (by omega) (by omega)]; omega), nn_p (by omega), if_neg (by rw [nn_lt (by omega) (by omega)]; omega)] at m4
                exact absurd (Option.some.inj m4) (by decide)
        · exact Or.inl j4
    have unk : n_isOwner z T = some 0 ∨ n_isOwner z T = some 1 ∧ (z = nn a ∨ z = nn b) → (∃ X, (gx_cp (n_isOwner z T) fun v4 => if v4 = 0 then some ((-101), T) else if z = nn a then some ((-101), T) else if z = nn b then some ((-101), T) else X) = some (-101, T)) ∨ True := fun _ => Or.inr trivial
    have unk2 : ∀ X : Option (Int32 × gx_S), n_isOwner z T = some 0 ∨ n_isOwner z T = some 1 ∧ (z = nn a ∨ z = nn b) → (gx_cp (n_isOwner z T) fun v4 => if v4 = 0 then some ((-101), T) else if z = nn a then some ((-101), T) else if z = nn b then some ((-101), T) else X) = some (-101, T) := fun X hx => by
      rcases hx with e | ⟨e, e2 | e2⟩
      · rw [e, cp_s, if_pos rfl]
      · rw [e, cp_s, if_neg i10, if_pos e2]
      · rw [e, cp_s, if_neg i10]
        by_cases z1 : z = nn a
        · rw [if_pos z1]
        · rw [if_neg z1, if_pos e2]
    rcases two a z h1 with ⟨c, hc, hac, rfl, m1⟩ | ⟨m1, mr⟩
    · rcases two b (nn c) h2 with ⟨c', hc', hbc, ec, m2⟩ | ⟨m2, mr⟩
      · rw [nn_eq (by omega) (by omega)] at ec
        subst ec
        rcases chkO (by omega) (RS_c hA hS).1 (RT_c hA hT).1 (nn c) with ⟨_, _, _, _, l4⟩ | ⟨l3, l4⟩
        · rw [m1, m2, l4, cp_s, cp_s, cp_s, if_pos rfl, if_pos rfl, if_neg i10, if_neg (show ¬ nn c = nn a by rw [nn_eq (by omega) (by omega)]; omega), if_neg (show ¬ nn c = nn b by rw [nn_eq (by omega) (by omega)]; omega)]
          rcases chkR t 0 9 S T with ⟨ht, k3, k4⟩ | ⟨k3, k4⟩
          · rw [k3, k4, cp_s, cp_s, if_pos rfl, if_neg i10]
            rcases chkM pS pT a b with ⟨c3, g3, g4⟩ | ⟨_, g3, g4⟩
            · rw [g3, g4, cp_s, cp_s, if_pos rfl, if_neg i10]
              refine gt_cs (x_before hA hS) (fun v S1 hS1 => ?_)
              obtain ⟨e1, f1, b1⟩ := hS1
              simp only at e1 f1 b1
              rw [e1]
              have pS1 := pX_J pS (by omega) f1
              by_cases q : (ste (qG A) (qD A)).1 = -1
              · rw [if_pos q, if_pos rfl]
                refine gt_some (gt_cs (u_layBefore pT hA.2.2.1) (fun v' T1 hT1 => ?_))
                obtain ⟨e2, g1, p1, _⟩ := hT1
                simp only at e2 g1 p1
                rw [e2, if_pos q, if_pos rfl]
                exact gt_some ⟨rfl, RR_M hA hS hT hK (fJ_P f1) g1 p1.2.2.2.1⟩
              · rw [if_neg q, if_neg i10, x_setOf pS1, x_setOf pS1, x_shopsOf pS1, cp_s, cp_s, cp_s, (fb_or2 _ (mb_64 _ hP) _ (mb_64 _ hP)).1]
                refine gt_mono (x_soldOff (t := t) pS1 hA.2.2.1 h1 h2 hc hab (Ne.symm hac) (Ne.symm hbc) c3 (b1 q)) (fun r hr => ?_)
                refine gt_cs (u_layBefore pT hA.2.2.1) (fun v' T1 hT1 => ?_)
                obtain ⟨e2, g1, p1, t21⟩ := hT1
                simp only at e2 g1 p1 t21
                rw [e2, if_neg q, if_neg i10]
                refine gt_mono (u_soldOff (t := t) p1 hA.2.2.1 ht.1 ht.2 h1 h2 hc hab (Ne.symm hac) (Ne.symm hbc) c3 t21) (fun r' hr' => ?_)
                exact ⟨lsm_u hr.1 hr'.1, RR_M hA hS hT hK (fP_t (fJ_P f1) (fK_P hr.2)) (fM_t g1 hr'.2.1) hr'.2.2.2.2.2.1⟩
            · rw [g3, g4, cp_s, cp_s, if_neg i10, if_pos rfl]; exact cSS_s h
          · rw [k3, k4, cp_s, cp_s, if_neg i10, if_pos rfl]; exact cSS_s h
        · exfalso
          rcases chk (n := nO (qG A)) (by omega) (nn c) S T with ⟨_, _, _, m3, _⟩ | ⟨m3, m4⟩
          · unfold m_ShopsAsOne_isNoOwner at l3
            rw [(RS_c hA hS).1, m3] at l3
            exact absurd (Option.some.inj ((bz_0 (k := some (0 : Int32))).symm.trans l3)) (by decide)
          · rw [u_within, if_neg (by rw [nn_0, nn_lt (by omega) (by omega)]; omega), nn_p (by omega), if_neg (by rw [nn_lt (by omega) (by omega)]; omega)] at m4
            exact absurd (Option.some.inj m4) (by decide)
      · rw [m1, m2, cp_s, cp_s, if_pos rfl, if_neg i10, unk2 _ (by rcases mr with e | ⟨e, e2⟩; exact Or.inl e; exact Or.inr ⟨e, Or.inr e2⟩)]
        exact cSS_s h
    · rw [m1, cp_s, if_neg i10, unk2 _ (by rcases mr with e | ⟨e, e2⟩; exact Or.inl e; exact Or.inr ⟨e, Or.inl e2⟩)]
      exact cSS_s h
  · rw [h3, h4, cp_s, cp_s, if_neg i10, if_pos rfl]; exact cSS_s h

/-! b35: two joinings, one after another: only that both return, and what stays -/
def cTT (o o' : Option (Int32 × gx_S)) : Prop := gt o fun r => gt o' fun r' => RR r.2 r'.2
theorem cTT_s {v v' : Int32} {S T : gx_S} (h : RR S T) : cTT (some (v, S)) (some (v', T)) := gt_some (gt_some h)
theorem no1 {n : Nat} (hn : n < 1000) {S : gx_S} (hS : S 1 0 = nn n) {a : Nat} (ha : a < n) : m_ShopsAsOne_isNoOwner (nn a) S = some 0 := by
  unfold m_ShopsAsOne_isNoOwner
  rw [hS]
  rcases chk hn (nn a) S S with ⟨_, _, _, m3, _⟩ | ⟨m3, m4⟩
  · rw [m3]; exact bz_0
  · exfalso
    rw [u_within, if_neg (by rw [nn_0, nn_lt (by omega) (by omega)]; omega), nn_p (by omega), if_neg (by rw [nn_lt (by omega) (by omega)]; omega)] at m4
    exact absurd (Option.some.inj m4) (by decide)
theorem no2 {n : Nat} (hn : n < 1000) {S : gx_S} (hS : S 1 0 = nn n) {a c : Nat} (ha : a < n) (hc : c < n) : m_ShopsAsOne_areNotTwo (nn a) (nn c) S = some (if a = c then 1 else 0) := by
  unfold m_ShopsAsOne_areNotTwo m_ShopsAsOne_areNotTwo_21
  rw [no1 hn hS ha, no1 hn hS hc, cp_s, if_pos rfl, cp_s, if_pos rfl]
  by_cases z : a = c
  · rw [if_pos (by rw [z]), if_pos z]
  · rw [if_neg (by rw [nn_eq (by omega) (by omega)]; exact z), if_neg z]
/-- b's shops a's, and d's c's -/
theorem u_layBehind2 {G D S : gx_S} {a b c d : Nat} (h : pU G D (-1) S) (hw : wD G D) (hc : c < 6) (h0 : wD G (gv G D a b)) (hE : wD G (gv G (gv G D a b) c d)) : gt (n_layBehind (nn a) (nn b) (nn c) (nn d) 0 (-1) S) fun t => t.1 = (if (ste G (gv G (gv G D a b) c d)).1 = -1 then 0 else 1) ∧ fM S t.2 ∧ pU G D (-1) t.2 ∧ t.2 0 34 = (ste G (gv G (gv G D a b) c d)).1 ∧ (∀ s, s < nS G → t.2 22 s = spa G (ste G (gv G (gv G D a b) c d)).2 s) ∧ ∀ s, t.2 21 s = S 21 s := by
  unfold n_layBehind
  refine gt_cp (u_hold h hw) (fun S2 hS2 => ?_)
  obtain ⟨f2, h2⟩ := hS2
  have m2 : fM S S2 := fun q j a1 a2 a3 a4 a5 => f2 q j (by omega) (by omega) (by omega)
  have d2 : uD D S2 := fun j hj => by
    rw [f2 _ _ (by omega) (by omega) (by omega), f2 _ _ (by omega) (by omega) (by omega), f2 _ _ (by omega) (by omega) (by omega)]
    exact h.2.2.2.1 j hj
  have p2 : pU G D (-1) S2 := pU_M h m2 (wD_0 hw) d2
  refine gt_cp (u_mergeNow p2 a b) (fun S4 hS4 => ?_)
  obtain ⟨f4, g4⟩ := hS4
  have hn1 : ¬ nn c = -1 := by
    have : ∀ m, m < 6 → ¬ nn m = -1 := by decide
    exact this _ hc
  rw [if_neg hn1]
  have m4 : fM S2 S4 := fun q j a1 a2 a3 a4 a5 => f4 q j a2
  have d4 : uD (gv G D a b) S4 := fun j hj => by
    obtain ⟨a1, a2, a3⟩ := d2 j hj
    refine ⟨?_, g4 j hj, ?_⟩
    · rw [f4 _ _ (by omega), a1]; simp [gv]
    · rw [f4 _ _ (by omega), a3]; simp [gv]
  have p4 : pU G (gv G D a b) (-1) S4 := pU_M p2 m4 (wD_0 h0) d4
  refine gt_cp (u_mergeNow p4 c d) (fun S6 hS6 => ?_)
  obtain ⟨f6, g6⟩ := hS6
  have m6 : fM S4 S6 := fun q j a1 a2 a3 a4 a5 => f6 q j a2
  have d6 : uD (gv G (gv G D a b) c d) S6 := fun j hj => by
    obtain ⟨a1, a2, a3⟩ := d4 j hj
    refine ⟨?_, g6 j hj, ?_⟩
    · rw [f6 _ _ (by omega), a1]; simp [gv]
    · rw [f6 _ _ (by omega), a3]; simp [gv]
  have p6 : pU G (gv G (gv G D a b) c d) (-1) S6 := pU_M p4 m6 (wD_0 hE) d6
  have h22 := u_22 (m := 0) (x := -1) p6 hw (by decide) (by rw [sx2_0]; exact hE) (fun j hj => by rw [f6 _ _ (by omega), f6 _ _ (by omega), f6 _ _ (by omega), f4 _ _ (by omega), f4 _ _ (by omega), f4 _ _ (by omega)]; exact h2 j hj)
  rw [sx2_0] at h22
  refine gt_mono h22 (fun t ht => ?_)
  obtain ⟨t1, t2, t3, t4, t5, t6⟩ := ht
  refine ⟨t1, fM_t m2 (fM_t m4 (fM_t m6 t2)), t3, t4, t5, fun s => ?_⟩
  rw [t6, f6 _ _ (by omega), f4 _ _ (by omega), f2 _ _ (by omega) (by omega) (by omega)]
theorem st_twice {S T : gx_S} (h : RR S T) (x1 x2 x3 x4 x5 : Int32) : cTT (m_ShopsAsOne_twice x1 x2 x3 x4 x5 S) (n_twice x1 x2 x3 x4 x5 T) := by
  obtain ⟨A, hA, hS, hT, hK⟩ := id h
  have hO := (wG_O hA.1).2
  have hN := (wG_S hA.1).2
  have pS := pX_R hA hS
  have pT := pU_R hA hT
  unfold m_ShopsAsOne_twice n_twice
  rcases chkTwo (by omega) (RS_c hA hS).1 (RT_c hA hT).1 x1 x2 with ⟨a, b, h1, h2, hab, rfl, rfl, h3, h4⟩ | ⟨h3, h4⟩
  · rw [h3, h4, cp_s, cp_s, if_pos rfl, if_neg i10]
    rcases chkTwo (by omega) (RS_c hA hS).1 (RT_c hA hT).1 x3 x4 with ⟨c, d, k1, k2, hcd, rfl, rfl, k3, k4⟩ | ⟨k3, k4⟩
    · rw [k3, k4, cp_s, cp_s, if_pos rfl, if_neg i10]
      have o := (RS_c hA hS).1
      rw [no2 (by omega) o h1 k1, no2 (by omega) o h1 k2, no2 (by omega) o h2 k1, no2 (by omega) o h2 k2]
      by_cases n1 : a = c
      · rw [if_pos n1, cp_s, if_neg i10, if_pos (show nn a = nn c by rw [n1])]; exact cTT_s h
      rw [if_neg n1, cp_s, if_pos rfl, if_neg (show ¬ nn a = nn c by rw [nn_eq (by omega) (by omega)]; exact n1)]
      by_cases n2 : a = d
      · rw [if_pos n2, cp_s, if_neg i10, if_pos (show nn a = nn d by rw [n2])]; exact cTT_s h
      rw [if_neg n2, cp_s, if_pos rfl, if_neg (show ¬ nn a = nn d by rw [nn_eq (by omega) (by omega)]; exact n2)]
      by_cases n3 : b = c
      · rw [if_pos n3, cp_s, if_neg i10, if_pos (show nn b = nn c by rw [n3])]; exact cTT_s h
      rw [if_neg n3, cp_s, if_pos rfl, if_neg (show ¬ nn b = nn c by rw [nn_eq (by omega) (by omega)]; exact n3)]
      by_cases n4 : b = d
      · rw [if_pos n4, cp_s, if_neg i10, if_pos (show nn b = nn d by rw [n4])]; exact cTT_s h
      rw [if_neg n4, cp_s, if_pos rfl, if_neg (show ¬ nn b = nn d by rw [nn_eq (by omega) (by omega)]; exact n4)]
      rcases chkR x5 0 2 S T with ⟨hz, i3, i4⟩ | ⟨i3, i4⟩
      · rw [i3, i4, cp_s, cp_s, if_pos rfl, if_neg i10]
        rcases chkM pS pT a b with ⟨c3, g3, g4⟩ | ⟨_, g3, g4⟩
        · rw [g3, g4, cp_s, cp_s, if_pos rfl, if_neg i10]
          rcases chkM pS pT c d with ⟨c4, j3, j4⟩ | ⟨_, j3, j4⟩
          · rw [j3, j4, cp_s, cp_s, if_pos rfl, if_neg i10]
            have hg := wD_gv hA.2.2.1 hO h1 h2 hab c3
            have hg' := wD_gv hA.2.2.1 hO k1 k2 hcd c4
            have hgg : wD (qG A) (gv (qG A) (gv (qG A) (qD A) a b) c d) := by
              refine wD_gv hg hO k1 k2 hcd ?_
              rw [cnt_gv (by omega) (by omega) hab (by omega), cnt_gv (by omega) (by omega) hab (by omega), if_neg (by omega), if_neg (by omega), if_neg (by omega), if_neg (by omega)]
              exact c4
            refine gt_cs (x_before hA hS) (fun v S1 hS1 => ?_)
            obtain ⟨e1, f1, b1⟩ := hS1
            simp only at e1 f1 b1
            rw [e1]
            have pS1 := pX_J pS (by omega) f1
            have right : ∀ S', fP S S' → gt (gx_cs (n_layBefore T) fun v13 S12 => if v13 = 0 then n_twice_136 S12 else if x5 = 1 then gx_cs (n_layBehind (nn c) (nn d) (-1) (-1) 0 (-1) S12) fun v17 S16 => if v17 = 0 then n_twice_136 S16 else n_twice_132 S16 else if x5 = 0 then n_twice_122 (nn d) (nn a) (nn b) (-1) S12 else n_twice_122 (nn d) (nn a) (nn b) (nn c) S12) fun r' => RR S' r'.2 := fun S' fp => by
              refine gt_cs (u_layBefore pT hA.2.2.1) (fun v' T1 hT1 => ?_)
              obtain ⟨e2, g1, p1, t21⟩ := hT1
              simp only at e2 g1 p1 t21
              have low : ∀ T', fM T T' → pU (qG A) (qD A) (-1) T' → gt (n_twice_136 T') fun r' => RR S' r'.2 := fun T' fm p => by
                unfold n_twice_136 n_twice_137
                rw [if_pos rfl]
                exact gt_some (RR_M hA hS hT hK fp fm p.2.2.2.1)
              have high : ∀ T' E, fM T1 T' → pU (qG A) (qD A) (-1) T' → (∀ s, s < nS (qG A) → T' 22 s = spa (qG A) E s) → (∀ s, T' 21 s = T1 21 s) → gt (n_twice_132 T') fun r' => RR S' r'.2 := fun T' E fm p t22 t21' => by
                unfold n_twice_132 n_twice_137
                rw [if_neg i10, u_harmNow p (B := (ste (qG A) (qD A)).2) (E := E) (fun s hs => by rw [t21']; exact t21 s hs) t22, cp_s]
                exact gt_some (RR_M hA hS hT hK fp (fM_t g1 fm) p.2.2.2.1)
              have two : ∀ v T' (E : gx_S), fM T1 T' → pU (qG A) (qD A) (-1) T' → (∀ s, s < nS (qG A) → T' 22 s = spa (qG A) E s) → (∀ s, T' 21 s = T1 21 s) → gt (if v = (0 : Int32) then n_twice_136 T' else n_twice_132 T') fun r' => RR S' r'.2 := fun v T' E fm p t22 t21' => by
                by_cases z : v = 0
                · rw [if_pos z]; exact low T' (fM_t g1 fm) p
                · rw [if_neg z]; exact high T' E fm p t22 t21'
              by_cases z0 : v' = 0
              · rw [if_pos z0]; exact low T1 g1 p1
              rw [if_neg z0]
              by_cases z1 : x5 = 1
              · rw [if_pos z1]
                refine gt_cs (u_beh p1 hA.2.2.1 hg') (fun v2 T2 hT2 => ?_)
                obtain ⟨_, g4, p4, _, t22, t21'⟩ := hT2
                exact two _ _ _ g4 p4 t22 t21'
              rw [if_neg z1]
              by_cases z2 : x5 = 0
              · rw [if_pos z2]
                unfold n_twice_122
                refine gt_cs (u_beh p1 hA.2.2.1 hg) (fun v2 T2 hT2 => ?_)
                obtain ⟨_, g4, p4, _, t22, t21'⟩ := hT2
                exact two _ _ _ g4 p4 t22 t21'
              · rw [if_neg z2]
                unfold n_twice_122
                refine gt_cs (u_layBehind2 p1 hA.2.2.1 (by omega) hg hgg) (fun v2 T2 hT2 => ?_)
                obtain ⟨_, g4, p4, _, t22, t21'⟩ := hT2
                exact two _ _ _ g4 p4 t22 t21'
            by_cases q : (ste (qG A) (qD A)).1 = -1
            · rw [if_pos q, if_pos rfl]
              exact gt_some (right _ (fJ_P f1))
            · rw [if_neg q, if_neg i10]
              have b1' := b1 q
              refine gt_cs (x_harmOf pS1 hA.2.2.1 (by omega) (by omega) (by omega) hg b1') (fun v2 S2 hS2 => ?_)
              obtain ⟨_, f2⟩ := hS2
              simp only at f2
              have pS2 := pX_K pS1 (by omega) f2
              have b2 := sB_K b1' f2
              refine gt_cs (x_harmOf pS2 hA.2.2.1 (by omega) (by omega) (by omega) hg' b2) (fun v3 S3 hS3 => ?_)
              obtain ⟨_, f3⟩ := hS3
              simp only at f3
              have pS3 := pX_K pS2 (by omega) f3
              have b3 := sB_K b2 f3
              refine gt_cp (x_become (r := 1) (r1 := 0) (by omega) hA.2.2.1 pS3.2.2.2) (fun S4 hS4 => ?_)
              obtain ⟨f4, d4⟩ := hS4
              have pS4 : pX 1 (qG A) (qD A) S4 := ⟨hA.1, wD_0 hA.2.2.1, vG_f pS3.2.2.1 hN (fun q j hq => f4 q j (by omega)), d4⟩
              refine gt_cp (x_give pS4 (by omega) a b) (fun S5 hS5 => ?_)
              obtain ⟨f5, d5⟩ := hS5
              have pS5 : pX 1 (qG A) (gv (qG A) (qD A) a b) S5 := ⟨hA.1, wD_0 hg, vG_f pS4.2.2.1 hN (fun q j hq => f5 q j (by omega)), d5⟩
              have b5 : sB (qG A) (ste (qG A) (qD A)).2 S5 := fun s hs => by rw [f5 _ _ (by omega), f4 _ _ (by omega)]; exact b3 s hs
              refine gt_cs (x_harmOf pS5 hg (by omega) (by omega) (by omega) hgg b5) (fun v6 S6 hS6 => ?_)
              obtain ⟨_, f6⟩ := hS6
              simp only at f6
              have fp : fP S S6 := fP_t (fJ_P f1) (fP_t (fK_P f2) (fP_t (fK_P f3) (fP_t (fun q j hq => f4 q j (by omega)) (fP_t (fun q j hq => f5 q j (by omega)) (fK_P f6)))))
              have fin := right S6 fp
              exact gt_ite (fun _ => gt_some fin) (fun _ => gt_ite (fun _ => gt_some fin) (fun _ => gt_ite (fun _ => gt_some fin) (fun _ => gt_ite (fun _ => gt_some fin) (fun _ => gt_ite (fun _ => gt_some fin) (fun _ => gt_some fin)))))
          · rw [j3, j4, cp_s, cp_s, if_neg i10, if_pos rfl]; exact cTT_s h
        · rw [g3, g4, cp_s, cp_s, if_neg i10, if_pos rfl]; exact cTT_s h
      · rw [i3, i4, cp_s, cp_s, if_neg i10, if_pos rfl]; exact cTT_s h
    · rw [k3, k4, cp_s, cp_s, if_neg i10, if_pos rfl]; exact cTT_s h
  · rw [h3, h4, cp_s, cp_s, if_neg i10, if_pos rfl]; exact cTT_s h


/-! b29: calls that leave all as it was -/
theorem st_as {S T : gx_S} (h : RR S T) (x y : Int32) : cPP (m_ShopsAsOne_as x y S) (n_as x y T) := by
  obtain ⟨A, hA, hS, hT, hK⟩ := h
  have hO := (wG_O hA.1).2
  unfold m_ShopsAsOne_as n_as m_ShopsAsOne_as_52 m_ShopsAsOne_as_56 m_ShopsAsOne_as_57 n_as_52 n_as_56
  rcases chkO (by omega) (RS_c hA hS).1 (RT_c hA hT).1 x with ⟨o, h1, rfl, h3, h4⟩ | ⟨h3, h4⟩
  · rw [h3, h4, cp_s, cp_s, if_pos rfl, if_neg i10]
    rcases chkR y 0 4 S T with ⟨_, g3, g4⟩ | ⟨g3, g4⟩
    · rw [g3, g4, cp_s, cp_s, if_pos rfl, if_neg i10]
      have e1 : S 2 o = qG A 2 o := hS.1.1 _ _ (by omega) (by omega)
      have e2 : T 1 o = qG A 2 o := (hT.1.2.1 o (by omega)).1
      simp (disch := omega) only [ck_n, nn_c, e1, e2, if_neg (show ¬ (1 : Int32) = 0 by decide), ↓reduceIte]
      by_cases c0 : y = 0
      · rw [if_pos c0, if_pos c0]; exact cPP_s
      · rw [if_neg c0, if_neg c0]
        by_cases c1 : y = qG A 2 o
        · rw [if_pos c1, if_pos c1.symm]; exact cPP_s
        · rw [if_neg c1, if_neg (show ¬ qG A 2 o = y from fun z => c1 z.symm)]
          by_cases c2 : y = 1
          · rw [if_pos c2]
            by_cases c3 : qG A 2 o = 4
            · rw [if_pos c3]; exact cPP_s
            · rw [if_neg c3]; exact cPP_s
          · rw [if_neg c2]; exact cPP_s
    · rw [g3, g4, cp_s, cp_s, if_neg i10, if_pos rfl]; exact cPP_s
  · rw [h3, h4, cp_s, cp_s, if_neg i10, if_pos rfl]; exact cPP_s
theorem st_is {S T : gx_S} (h : RR S T) (x y : Int32) : cPP (m_ShopsAsOne_is x y S) (n_is x y T) := by
  obtain ⟨A, hA, hS, hT, hK⟩ := h
  have hn := (wG_S hA.1).2
  have hP := (wG_P hA.1).2
  unfold m_ShopsAsOne_is n_is m_ShopsAsOne_is_16 n_is_25
  rcases chkS (by omega) (RS_c hA hS).2.2 (RT_c hA hT).2.2 x with ⟨s, h1, rfl, h3, h4⟩ | ⟨h3, h4⟩
  · rw [h3, h4, cp_s, cp_s, if_pos rfl, if_neg i10]
    rcases chkP (by omega) (RS_c hA hS).2.1 (RT_c hA hT).2.1 y with ⟨k, g1, rfl, g3, g4⟩ | ⟨g3, g4⟩
    · rw [g3, g4, cp_s, cp_s, if_pos rfl, if_neg i10, x_whatIs (pX_R hA hS) h1 g1, u_isTo (pU_R hA hT) h1 g1]; exact cPP_s
    · rw [g3, g4, cp_s, cp_s, if_neg i10, if_pos rfl]; exact cPP_s
  · rw [h3, h4, cp_s, cp_s, if_neg i10, if_pos rfl]; exact cPP_s
theorem st_goes {S T : gx_S} (h : RR S T) (x : Int32) : cPP (m_ShopsAsOne_goes x S) (n_goes x T) := by
  obtain ⟨A, hA, hS, hT, hK⟩ := h
  have hn := (wG_S hA.1).2
  unfold m_ShopsAsOne_goes n_goes
  rcases chkS (by omega) (RS_c hA hS).2.2 (RT_c hA hT).2.2 x with ⟨s, h1, rfl, h3, h4⟩ | ⟨h3, h4⟩
  · rw [h3, h4, cp_s, cp_s, if_pos rfl, if_neg i10, x_choice (pX_R hA hS) h1, u_goesTo (pU_R hA hT) h1]; exact cPP_s
  · rw [h3, h4, cp_s, cp_s, if_neg i10, if_pos rfl]; exact cPP_s
theorem st_spare {S T : gx_S} (h : RR S T) (x : Int32) : cPP (m_ShopsAsOne_spare x S) (n_spare x T) := by
  obtain ⟨A, hA, hS, hT, hK⟩ := h
  have hn := (wG_S hA.1).2
  unfold m_ShopsAsOne_spare n_spare
  rcases chkS (by omega) (RS_c hA hS).2.2 (RT_c hA hT).2.2 x with ⟨s, h1, rfl, h3, h4⟩ | ⟨h3, h4⟩
  · rw [h3, h4, cp_s, cp_s, if_pos rfl, if_neg i10, x_spareOf (pX_R hA hS) h1, u_spareOf (pU_R hA hT) h1]; exact cPP_s
  · rw [h3, h4, cp_s, cp_s, if_neg i10, if_pos rfl]; exact cPP_s
theorem st_profit {S T : gx_S} (h : RR S T) (x : Int32) : cPS S (m_ShopsAsOne_profit x S) (n_profit x T) := by
  obtain ⟨A, hA, hS, hT, hK⟩ := id h
  have hO := (wG_O hA.1).2
  unfold m_ShopsAsOne_profit n_profit
  rcases chkO (by omega) (RS_c hA hS).1 (RT_c hA hT).1 x with ⟨o, h1, rfl, h3, h4⟩ | ⟨h3, h4⟩
  · rw [h3, h4, cp_s, cp_s, if_pos rfl, if_neg i10, x_profitOf (pX_R hA hS) (by omega), cp_s]
    refine gt_some (gt_cs (u_profitOf (pU_R hA hT) (by omega)) (fun a U hU => gt_some ⟨hU.1.symm, RR_f hA hS hT hK (fP_r S) (f15_Q hU.2)⟩))
  · rw [h3, h4, cp_s, cp_s, if_neg i10, if_pos rfl]; exact cPS_s h
/-- how many a shop sells to, by the class -/
theorem so_sl1 {G D : gx_S} (hG : wG G) {k : Nat} (hk : k < nP G) : tot G D (gSo (nn (2 ^ k))) = sl G D k := by
  have hP := (wG_P hG).2
  rw [tot_sl hG, sm_cg (g := fun j => if j = k then sl G D j else 0) (fun j hj => ?_), sm_one, if_pos hk]
  have hb := fb_bi (2 ^ k) (Nat.lt_of_lt_of_le (Nat.pow_lt_pow_right (by decide) (show k < 6 by omega)) (by decide)) j (by omega)
  unfold gSo
  rw [hb]
  have ht : (2 ^ k).testBit j = decide (k = j) := Nat.testBit_two_pow
  rw [ht]
  by_cases z : j = k
  · subst z
    simp
  · have : ¬ k = j := fun y => z y.symm
    simp [z, this]
theorem u_about {G D T : gx_S} (p : pU G D (-1) T) {k : Nat} (hk : k < nP G) (y : Int32) (hy : bw y 0 5) : gt (n_aboutOf (nn k) y T) fun r => r.1 = (if y = 0 then D 2 k else if y = 1 then G 4 k else if y = 2 then G 5 k else if y = 3 then D 1 k else if y = 4 then ib (opn G D k) else sl G D k) ∧ f15 T r.2 := by
  have hP := (wG_P p.1).2
  obtain ⟨d1, d2, d3⟩ := p.2.2.2.1 k (by omega)
  obtain ⟨s1, s2⟩ := p.2.2.1.2.2.1 k (by omega)
  have f0 : f15 T T := fun _ _ _ => rfl
  unfold n_aboutOf
  simp (disch := omega) only [ck_n, nn_c, d1, d2, s1, s2, u_isOpen p (k := k) (by omega), opx_m1 (G := G) (D := D) (k := k), cp_s, ib_0]
  by_cases c0 : y = 0
  · rw [if_pos c0, if_pos c0]; exact gt_some ⟨rfl, f0⟩
  · rw [if_neg c0, if_neg c0]
    by_cases c1 : y = 1
    · rw [if_pos c1, if_pos c1]; exact gt_some ⟨rfl, f0⟩
    · rw [if_neg c1, if_neg c1]
      by_cases c2 : y = 2
      · rw [if_pos c2, if_pos c2]; exact gt_some ⟨rfl, f0⟩
      · rw [if_neg c2, if_neg c2]
        by_cases c3 : y = 3
        · rw [if_pos c3, if_pos c3]; exact gt_some ⟨rfl, f0⟩
        · rw [if_neg c3, if_neg c3]
          by_cases c4 : y = 4
          · rw [if_pos c4, if_pos c4]
            cases opn G D k with
            | false => rw [if_pos rfl]; exact gt_some ⟨rfl, f0⟩
            | true => rw [if_neg (show ¬ true = false by decide)]; exact gt_some ⟨rfl, f0⟩
          · rw [if_neg c4, if_neg c4]
            refine gt_cs (u_laySold p) (fun a U hU => ?_)
            obtain ⟨_, f, g⟩ := hU
            simp only at f g
            exact gt_some ⟨g k hk, f⟩
theorem x_about {G D S : gx_S} (p : pX 0 G D S) {k : Nat} (hk : k < nP G) (y : Int32) (hno : m_ShopsAsOne_isNoShop (nn k) S = some 0) : m_ShopsAsOne_about (nn k) y S = some (if 0 ≤ y ∧ y ≤ 5 then (if y = 0 then D 2 k else if y = 1 then G 4 k else if y = 2 then G 5 k else if y = 3 then D 1 k else if y = 4 then ib (opn G D k) else sl G D k) else -102) := by
  have hP := (wG_P p.1).2
  have v := p.2.2.1.1
  have d1 : S 22 k = D 1 k := p.2.2.2 1 k (by omega) (by omega) (by omega)
  have d2 : S 23 k = D 2 k := p.2.2.2 2 k (by omega) (by omega) (by omega)
  unfold m_ShopsAsOne_about
  rw [hno, cp_s, if_pos rfl, fb_1 k (by omega), x_soldBy p, cp_s, so_sl1 p.1 hk]
  simp (disch := omega) only [ck_n, nn_c, d1, d2, v, x_isOpen p (k := k) (by omega), cp_s, ib_0]
  by_cases c0 : y = 0
  · subst c0; rw [if_pos rfl, if_pos (by decide), if_pos rfl]
  · by_cases c1 : y = 1
    · subst c1; rw [if_neg c0, if_pos rfl, if_pos (by decide), if_neg c0, if_pos rfl]
    · by_cases c2 : y = 2
      · subst c2; rw [if_neg c0, if_neg c1, if_pos rfl, if_pos (by decide), if_neg c0, if_neg c1, if_pos rfl]
      · by_cases c3 : y = 3
        · subst c3; rw [if_neg c0, if_neg c1, if_neg c2, if_pos rfl, if_pos (by decide), if_neg c0, if_neg c1, if_neg c2, if_pos rfl]
        · by_cases c4 : y = 4
          · subst c4
            rw [if_neg c0, if_neg c1, if_neg c2, if_neg c3, if_pos rfl, if_pos (show (0 : Int32) ≤ 4 ∧ (4 : Int32) ≤ 5 by decide), if_neg c0, if_neg c1, if_neg c2, if_neg c3, if_pos rfl]
            cases opn G D k <;> rfl
          · by_cases c5 : y = 5
            · subst c5
              rw [if_neg c0, if_neg c1, if_neg c2, if_neg c3, if_neg c4, if_pos rfl, if_pos (by decide), if_neg c0, if_neg c1, if_neg c2, if_neg c3, if_neg c4]
            · rw [if_neg c0, if_neg c1, if_neg c2, if_neg c3, if_neg c4, if_neg c5, if_neg]
              rintro ⟨z1, z2⟩
              obtain ⟨e, hb⟩ := bw_n (x := y) (n := 5) (by decide) ⟨z1, z2⟩
              have : ∀ m, m ≤ 5 → nn m = 0 ∨ nn m = 1 ∨ nn m = 2 ∨ nn m = 3 ∨ nn m = 4 ∨ nn m = 5 := by decide
              rcases this _ hb with w | w | w | w | w | w
              · exact c0 (e.trans w)
              · exact c1 (e.trans w)
              · exact c2 (e.trans w)
              · exact c3 (e.trans w)
              · exact c4 (e.trans w)
              · exact c5 (e.trans w)
theorem st_about {S T : gx_S} (h : RR S T) (x y : Int32) : cPS S (m_ShopsAsOne_about x y S) (n_about x y T) := by
  obtain ⟨A, hA, hS, hT, hK⟩ := id h
  have hP := (wG_P hA.1).2
  unfold n_about
  rcases chkP (by omega) (RS_c hA hS).2.1 (RT_c hA hT).2.1 x with ⟨k, h1, rfl, h3, h4⟩ | ⟨h3, h4⟩
  · rw [x_about (pX_R hA hS) h1 y h3, h4, cp_s, if_neg i10]
    rcases chkR y 0 5 S T with ⟨g, _, g4⟩ | ⟨g3, g4⟩
    · rw [g4, cp_s, if_neg i10, if_pos (show 0 ≤ y ∧ y ≤ 5 from g)]
      exact gt_some (gt_cs (u_about (pU_R hA hT) h1 y g) (fun a U hU => gt_some ⟨hU.1.symm, RR_f hA hS hT hK (fP_r S) (f15_Q hU.2)⟩))
    · rw [g4, cp_s, if_pos rfl, if_neg]
      · exact cPS_s h
      · rintro ⟨z1, z2⟩
        unfold m_ShopsAsOne_isNot m_ShopsAsOne_isNot_10 at g3
        rw [if_neg (by lia), if_pos z2] at g3
        exact absurd (Option.some.inj g3) (by decide)
  · unfold m_ShopsAsOne_about
    rw [h3, h4, cp_s, cp_s, if_neg i10, if_pos rfl]; exact cPS_s h
theorem st_instead {S T : gx_S} (h : RR S T) (x y : Int32) : cPS S (m_ShopsAsOne_instead x y S) (n_instead x y T) := by
  obtain ⟨A, hA, hS, hT, hK⟩ := id h
  have hn := (wG_S hA.1).2
  have hP := (wG_P hA.1).2
  unfold m_ShopsAsOne_instead n_instead m_ShopsAsOne_instead_16 n_instead_25
  rcases chkS (by omega) (RS_c hA hS).2.2 (RT_c hA hT).2.2 x with ⟨s, h1, rfl, h3, h4⟩ | ⟨h3, h4⟩
  · rw [h3, h4, cp_s, cp_s, if_pos rfl, if_neg i10]
    rcases chkP (by omega) (RS_c hA hS).2.1 (RT_c hA hT).2.1 y with ⟨k, g1, rfl, g3, g4⟩ | ⟨g3, g4⟩
    · rw [g3, g4, cp_s, cp_s, if_pos rfl, if_neg i10, x_choice (pX_R hA hS) h1, cp_s]
      exact gt_some (gt_cs (u_insteadOf (pU_R hA hT) h1 (nn k)) (fun a U hU => gt_some ⟨hU.1.symm, RR_M hA hS hT hK (fP_r S) hU.2.1 hU.2.2.2.2.2.1⟩))
    · rw [g3, g4, cp_s, cp_s, if_neg i10, if_pos rfl]; exact cPS_s h
  · rw [h3, h4, cp_s, cp_s, if_neg i10, if_pos rfl]; exact cPS_s h
theorem st_from {S T : gx_S} (h : RR S T) (x y : Int32) : cPS S (m_ShopsAsOne_from x y S) (n_from x y T) := by
  obtain ⟨A, hA, hS, hT, hK⟩ := id h
  have hP := (wG_P hA.1).2
  unfold m_ShopsAsOne_from n_from
  rcases chkP (by omega) (RS_c hA hS).2.1 (RT_c hA hT).2.1 x with ⟨a, h1, rfl, h3, h4⟩ | ⟨h3, h4⟩
  · rw [h3, h4, cp_s, cp_s, if_pos rfl, if_neg i10]
    rcases chkP (by omega) (RS_c hA hS).2.1 (RT_c hA hT).2.1 y with ⟨b, g1, rfl, g3, g4⟩ | ⟨g3, g4⟩
    · rw [g3, g4, cp_s, cp_s, if_pos rfl, if_neg i10]
      by_cases z : nn a = nn b
      · rw [if_pos z, if_pos z]; exact cPS_s h
      · rw [if_neg z, if_neg z, x_from (pX_R hA hS)]
        exact gt_some (gt_mono (u_from (pU_R hA hT) a b) (fun r hU => ⟨hU.1.symm, RR_M hA hS hT hK (fP_r S) hU.2.1 hU.2.2.2.2.2.1⟩))
    · rw [g3, g4, cp_s, cp_s, if_neg i10, if_pos rfl]; exact cPS_s h
  · rw [h3, h4, cp_s, cp_s, if_neg i10, if_pos rfl]; exact cPS_s h

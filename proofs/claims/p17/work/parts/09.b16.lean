/-! b16: the reference's best laid; turns; rounds -/
/-- what laying a best leaves as it was -/
def fL (S T : gx_S) : Prop := ∀ q j, q ≠ 3 → q ≠ 7 → q ≠ 15 → q ≠ 16 → q ≠ 17 → (q ≠ 0 ∨ (j ≠ 26 ∧ j ≠ 27)) → T q j = S q j
theorem fL_r (S : gx_S) : fL S S := fun _ _ _ _ _ _ _ _ => rfl
theorem fL_t {S T U : gx_S} (h : fL S T) (h' : fL T U) : fL S U := fun q j a1 a2 a3 a4 a5 a6 => (h' q j a1 a2 a3 a4 a5 a6).trans (h q j a1 a2 a3 a4 a5 a6)
theorem pU_L {G D E S T : gx_S} {sh : Int32} (h : pU G D sh S) (f : fL S T) (h0 : w0 E) (hd : uD E T) : pU G E sh T := by
  obtain ⟨hG, _, ⟨⟨a1, a2, a3⟩, b, c, d⟩, _, e⟩ := h
  refine ⟨hG, h0, ⟨⟨?_, ?_, ?_⟩, fun o ho => ?_, fun k hk => ?_, fun s i hs hi => ?_⟩, hd, ?_⟩
  · rw [f _ _ (by omega) (by omega) (by omega) (by omega) (by omega) (by omega)]; exact a1
  · rw [f _ _ (by omega) (by omega) (by omega) (by omega) (by omega) (by omega)]; exact a2
  · rw [f _ _ (by omega) (by omega) (by omega) (by omega) (by omega) (by omega)]; exact a3
  · rw [f _ _ (by omega) (by omega) (by omega) (by omega) (by omega) (by omega), f _ _ (by omega) (by omega) (by omega) (by omega) (by omega) (by omega)]; exact b o ho
  · rw [f _ _ (by omega) (by omega) (by omega) (by omega) (by omega) (by omega), f _ _ (by omega) (by omega) (by omega) (by omega) (by omega) (by omega)]; exact c k hk
  · rw [f _ _ (by omega) (by omega) (by omega) (by omega) (by omega) (by omega)]; exact d s i hs hi
  · rw [f _ _ (by omega) (by omega) (by omega) (by omega) (by omega) (by omega)]; exact e
theorem uD_15 {D S T : gx_S} (h : uD D S) (f : f15 S T) : uD D T := fun j hj => by
  rw [f _ _ (by omega), f _ _ (by omega), f _ _ (by omega)]; exact h j hj
theorem fL_15 {S T : gx_S} (f : f15 S T) : fL S T := fun q j _ _ a _ _ _ => f q j a
theorem w0_sE {G D : gx_S} (h : w0 D) (o m : Nat) : w0 (sE G D o m) := fun j hj => by
  unfold sE
  split
  · have : dn D o 2 j = D 2 j := by simp [dn]
    rw [this]; exact h j hj
  · rw [dt_2]; exact h j hj
theorem sE_2 (G D : gx_S) (o m j : Nat) : sE G D o m 2 j = D 2 j := by
  unfold sE
  split
  · simp [dn]
  · exact dt_2 _ _ _ _ _
theorem sE_3 (G D : gx_S) (o m j : Nat) : sE G D o m 3 j = if j = o then 1 else D 3 j := by
  unfold sE
  split
  · simp [dn]
  · exact dt_3 _ _ _ _ _
/-- own prices may be any, all else is D's with the owner in -/
def uO (G D : gx_S) (o : Nat) (T : gx_S) : Prop := ∀ j, j < 6 → (¬ (j < nP G ∧ ow D o j = true) → T 7 j = D 1 j) ∧ T 4 j = D 2 j ∧ T 3 j = if j = o then 1 else D 3 j
theorem cdr_le {G D : gx_S} {o : Nat} (h3 : cnt G D o ≤ 3) : cdr G D o ≤ 1000 ∧ 0 < cdr G D o := by
  have : ∀ c, c ≤ 3 → 10 ^ c ≤ 1000 ∧ 0 < 10 ^ c := by decide
  have := this _ h3
  unfold cdr
  split
  · omega
  · split
    · split <;> omega
    · exact this
theorem sE_n (G D : gx_S) (o m : Nat) {j : Nat} (h : ¬ (j < nP G ∧ ow D o j = true)) : sE G D o m 1 j = D 1 j := by
  unfold sE
  split
  · simp [dn]
  · rw [dt_1, if_neg h]
theorem u_layBest {G D S : gx_S} (h : pU G D (-1) S) (hw : wD G D) {o : Nat} (ho : o < 6) : gt (n_layBest (nn o) S) fun T => fL S T ∧ uD D T ∧ (∀ k, k < nP G → T 16 k = bP G D o k) ∧ T 0 26 = bI G D o ∧ T 0 27 = bG G D o := by
  have hG := h.1
  have hu := h.2.2.1
  have hd := h.2.2.2.1
  have h3 := hw.2.2 o ho
  obtain ⟨eP, hP⟩ := wG_P hG
  obtain ⟨hc1, hc2⟩ := cdr_le (G := G) (D := D) (o := o) h3
  have k1 : S 1 o = G 2 o := (hu.2.1 o ho).1
  have k2 : S 2 o = G 3 o := (hu.2.1 o ho).2
  unfold n_layBest
  rw [u_shopsOf h o, cp_s, ck_n ho (by omega), nn_c (by omega), (hd o ho).2.2]
  refine gt_for (nP G) (fun j t => t.1 = nn j ∧ (∀ q i, q ≠ 16 → q ≠ 17 → t.2 q i = S q i) ∧ ∀ i, i < j → t.2 17 i = D 1 i) ?_ ?_ 0 5000 _ (by omega) ⟨rfl, fun _ _ _ _ => rfl, fun i hi => absurd hi (by omega)⟩ (by omega)
  · rintro j ⟨x, T⟩ k hj ⟨rfl, f, g⟩ hk
    simp only at f g
    simp only [n_layBest_16]
    have e1 : T 0 4 = nn (nP G) := by rw [f _ _ (by omega) (by omega), hu.1.2.1, eP]
    have e7 : T 7 j = D 1 j := by rw [f _ _ (by omega) (by omega)]; exact (hd j (by omega)).1
    simp (disch := omega) only [e1, nn_le, nn_c, ck_n, let_s, nn_s, e7]
    rw [if_neg (by omega)]
    refine hk _ ⟨rfl, fun q i h1 h2 => ?_, fun i hi => ?_⟩
    · simp (disch := omega) only [gx_st_q]
      exact f q i h1 h2
    · simp only
      rw [gx_st_q _ _ _ _ (by omega)]
      by_cases z : i = j
      · subst z; rw [gx_st_eq]
      · rw [gx_st_j _ _ _ z]; exact g i (by omega)
  · rintro ⟨x, T0⟩ k ⟨rfl, f0, g0⟩
    simp only at f0 g0
    simp only [n_layBest_16]
    have e1 : T0 0 4 = nn (nP G) := by rw [f0 _ _ (by omega) (by omega), hu.1.2.1, eP]
    have e3 : T0 1 o = G 2 o := by rw [f0 _ _ (by omega) (by omega)]; exact k1
    simp (disch := omega) only [e1, nn_le, ck_n, nn_c, let_s, gx_st_q, e3]
    rw [if_pos (by omega), nar_b (Or.inr rfl)]
    clear k
    obtain ⟨T, hT⟩ : ∃ T, T = gx_st T0 3 o 1 := ⟨_, rfl⟩
    have fT : ∀ q j, q ≠ 3 → q ≠ 16 → q ≠ 17 → T q j = S q j := fun q j a1 a2 a3 => by rw [hT, gx_st_q _ _ _ _ a1]; exact f0 q j a2 a3
    have g17 : ∀ i, i < nP G → T 17 i = D 1 i := fun i hi => by rw [hT, gx_st_q _ _ _ _ (by omega)]; exact g0 i hi
    have g3 : ∀ i, i < 6 → T 3 i = if i = o then 1 else D 3 i := fun i hi => by
      rw [hT]
      by_cases z : i = o
      · subst z; rw [gx_st_eq, if_pos rfl]
      · rw [gx_st_j _ _ _ z, if_neg z, f0 _ _ (by omega) (by omega)]; exact (hd i hi).2.2
    rw [← hT]
    clear hT f0 g0 e1 e3 T0
    -- the codes
    have main : gt (n_layBest_142 (nn o) (D 3 o) (nn (cdr G D o)) (ib (oneP G o)) T) fun T => fL S T ∧ uD D T ∧ (∀ k, k < nP G → T 16 k = bP G D o k) ∧ T 0 26 = bI G D o ∧ T 0 27 = bG G D o := by
      unfold n_layBest_142
      refine gt_for (cdr G D o) (fun m t => t.1 = nn m ∧ fL S t.2 ∧ uO G D o t.2 ∧ (∀ i, i < nP G → t.2 17 i = D 1 i) ∧ (0 < m → t.2 0 27 = (bst (sF G D o) m).1 ∧ ∀ i, i < nP G → t.2 16 i = sE G D o (bst (sF G D o) m).2 1 i) ∧ (m = 0 → ∀ i, i < 6 → t.2 7 i = D 1 i)) ?_ ?_ 0 5000 _ (by omega) ?_ (by omega)
      · rintro m ⟨x, T⟩ kk hm ⟨rfl, f, u, g17, gb, gz⟩ hk
        simp only at f u g17 gb gz
        simp only [n_layBest_145]
        have e1 : T 1 o = G 2 o := by rw [f _ _ (by omega) (by omega) (by omega) (by omega) (by omega) (by omega)]; exact k1
        have eP4 : T 0 4 = nn (nP G) := by rw [f _ _ (by omega) (by omega) (by omega) (by omega) (by omega) (by omega), hu.1.2.1, eP]
        simp (disch := omega) only [nn_le, ck_n, nn_c, e1]
        rw [if_neg (by omega)]
        -- behind the code is laid
        have tail : ∀ U, fL S U → uD (sE G D o m) U → (∀ i, i < nP G → U 17 i = D 1 i) → (0 < m → U 0 27 = (bst (sF G D o) m).1 ∧ ∀ i, i < nP G → U 16 i = sE G D o (bst (sF G D o) m).2 1 i) → gt (n_layBest_173 kk (nn o) (D 3 o) (nn (cdr G D o)) (ib (oneP G o)) (nn m) U) fun T => fL S T ∧ uD D T ∧ (∀ k, k < nP G → T 16 k = bP G D o k) ∧ T 0 26 = bI G D o ∧ T 0 27 = bG G D o := by
          intro U fU uU g17 gb
          have pU' : pU G (sE G D o m) (-1) U := pU_L h fU (w0_sE (wD_0 hw) o m) uU
          unfold n_layBest_173
          refine gt_cs (u_profitOf pU' ho) (fun a V hV => ?_)
          obtain ⟨ea, fV⟩ := hV
          simp only at ea fV
          have fSV : fL S V := fL_t fU (fL_15 fV)
          have uV : uD (sE G D o m) V := uD_15 uU fV
          have uOV : ∀ W, (∀ q j, q ≠ 16 → (q ≠ 0 ∨ j ≠ 27) → W q j = V q j) → uO G D o W := fun W fW j hj => by
            obtain ⟨a1, a2, a3⟩ := uV j hj
            refine ⟨fun hn => ?_, ?_, ?_⟩
            · rw [fW _ _ (by omega) (by omega), a1]; exact sE_n G D o m hn
            · rw [fW _ _ (by omega) (by omega), a2]; exact sE_2 G D o m j
            · rw [fW _ _ (by omega) (by omega), a3]; exact sE_3 G D o m j
          have ePV : V 0 4 = nn (nP G) := by rw [fSV _ _ (by omega) (by omega) (by omega) (by omega) (by omega) (by omega), hu.1.2.1, eP]
          have eFm : a = sF G D o m := ea
          have skip : 0 < m → ¬ (bst (sF G D o) m).1 < sF G D o m → gt (n_layBest_232 kk (nn o) (D 3 o) (nn (cdr G D o)) (ib (oneP G o)) (nn m) V) fun T => fL S T ∧ uD D T ∧ (∀ k, k < nP G → T 16 k = bP G D o k) ∧ T 0 26 = bI G D o ∧ T 0 27 = bG G D o := fun hm0 hn => by
            unfold n_layBest_232
            rw [nn_s]
            have eb : bst (sF G D o) (m + 1) = bst (sF G D o) m := if_neg hn
            refine hk _ ⟨rfl, fSV, uOV V (fun _ _ _ _ => rfl), fun i hi => ?_, fun _ => ?_, fun z => absurd z (by omega)⟩
            · simp only
              rw [fV _ _ (by omega)]; exact g17 i hi
            · rw [eb]
              refine ⟨?_, fun i hi => ?_⟩
              · simp only
                rw [fV _ _ (by omega)]; exact (gb hm0).1
              · simp only
                rw [fV _ _ (by omega)]; exact (gb hm0).2 i hi
          have take : (bst (sF G D o) m).1 < sF G D o m → gt (n_layBest_194 kk (nn o) (D 3 o) (nn (cdr G D o)) (ib (oneP G o)) (nn m) a V) fun T => fL S T ∧ uD D T ∧ (∀ k, k < nP G → T 16 k = bP G D o k) ∧ T 0 26 = bI G D o ∧ T 0 27 = bG G D o := fun hy => by
            have eb : bst (sF G D o) (m + 1) = (sF G D o m, m) := if_pos hy
            unfold n_layBest_194
            refine gt_let ?_
            refine gt_for (nP G) (fun j t => t.1 = nn j ∧ (∀ q i, q ≠ 16 → (q ≠ 0 ∨ i ≠ 27) → t.2 q i = V q i) ∧ t.2 0 27 = a ∧ ∀ i, i < j → t.2 16 i = sE G D o m 1 i) ?_ ?_ 0 5000 _ (by omega) ?_ (by omega)
            · rintro j ⟨x, W⟩ k3 hj ⟨rfl, f, g1, g2⟩ hk3
              simp only at f g1 g2
              simp only [n_layBest_203]
              have e4 : W 0 4 = nn (nP G) := by rw [f _ _ (by omega) (by omega), ePV]
              have e7 : W 7 j = sE G D o m 1 j := by rw [f _ _ (by omega) (by omega)]; exact (uV j (by omega)).1
              simp (disch := omega) only [e4, nn_le, nn_c, ck_n, let_s, nn_s, e7]
              rw [if_neg (by omega)]
              refine hk3 _ ⟨rfl, fun q i h1 h2 => ?_, ?_, fun i hi => ?_⟩
              · simp only
                rw [gx_st_q _ _ _ _ h1]; exact f q i h1 h2
              · simp only
                rw [gx_st_q _ _ _ _ (by omega)]; exact g1
              · simp only
                by_cases z : i = j
                · subst z; rw [gx_st_eq]
                · rw [gx_st_j _ _ _ z]; exact g2 i (by omega)
            · rintro ⟨x, W⟩ k3 ⟨rfl, f, g1, g2⟩
              simp only at f g1 g2
              simp only [n_layBest_203, n_layBest_232]
              have e4 : W 0 4 = nn (nP G) := by rw [f _ _ (by omega) (by omega), ePV]
              simp (disch := omega) only [e4, nn_le, nn_s]
              rw [if_pos (by omega)]
              refine hk _ ⟨rfl, fun q j a1 a2 a3 a4 a5 a6 => ?_, uOV W f, fun i hi => ?_, fun _ => ?_, fun z => absurd z (by omega)⟩
              · simp only
                rw [f q j a4 (by omega)]; exact fSV q j a1 a2 a3 a4 a5 a6
              · simp only
                rw [f _ _ (by omega) (by omega), fV _ _ (by omega)]; exact g17 i hi
              · rw [eb]
                exact ⟨by simp only; rw [g1, eFm], g2⟩
            · refine ⟨rfl, fun q i h1 h2 => ?_, gx_st_eq V 0 27 a, fun i hi => absurd hi (by omega)⟩
              by_cases z : q = 0
              · subst z
                exact gx_st_j V 0 _ (by omega)
              · exact gx_st_q _ _ _ _ z
          rw [eFm] at take ⊢
          by_cases q0 : m = 0
          · subst q0
            rw [if_pos (show nn 0 = 0 from rfl)]
            exact take (sF_b hG hw hm)
          · rw [if_neg (by rw [nn_0, nn_eq (by omega) (by omega)]; exact q0)]
            have eb27 : V 0 27 = (bst (sF G D o) m).1 := by rw [fV _ _ (by omega)]; exact (gb (by omega)).1
            rw [eb27]
            by_cases y : sF G D o m ≤ (bst (sF G D o) m).1
            · rw [if_pos y]
              exact skip (by omega) (by lia)
            · rw [if_neg y]
              exact take (by lia)
        by_cases q2 : G 2 o = 2
        · rw [if_pos q2]
          refine tail T f (fun j hj => ?_) g17 gb
          obtain ⟨a1, a2, a3⟩ := u j hj
          have m0 : m = 0 := by
            unfold cdr at hm
            rw [if_pos q2] at hm
            omega
          subst m0
          rw [sE_2, sE_3]
          refine ⟨?_, a2, a3⟩
          rw [gz rfl j hj]
          unfold sE
          rw [if_pos q2]
          simp [dn]
        · rw [if_neg q2]
          refine gt_cp (u_layCode (D := D) (one := oneP G o) hG eP4 (fun k hk => (u k hk).2.1) (by omega) h3 (fun hone => ?_)) (fun U hU => ?_)
          · unfold cdr
            rw [if_neg q2, if_neg (by rw [hone]; decide)]
            obtain ⟨z1, z2, z3, z4⟩ := fb_dv2
            have : ∀ c, c ≤ 3 → nn (10 ^ c) / 10 = nn (10 ^ (c - 1)) ∨ c = 0 := by decide +kernel
            exact this _ h3
          · obtain ⟨u1, u2⟩ := hU
            refine tail U (fun q j a1 a2 a3 a4 a5 a6 => ?_) (fun j hj => ?_) (fun i hi => ?_) (fun hm0 => ?_)
            · rw [u1 q j a2]; exact f q j a1 a2 a3 a4 a5 a6
            · obtain ⟨a1, a2, a3⟩ := u j hj
              rw [u2 j hj, u1 _ _ (by omega), u1 _ _ (by omega), a2, a3, sE_2, sE_3]
              refine ⟨?_, rfl, rfl⟩
              unfold sE
              rw [if_neg q2, dt_1]
              by_cases z : j < nP G ∧ ow D o j = true
              · rw [if_pos z, if_pos z]
              · rw [if_neg z, if_neg z, a1 z]
            · rw [u1 _ _ (by omega)]; exact g17 i hi
            · rw [u1 _ _ (by omega)]
              refine ⟨(gb hm0).1, fun i hi => ?_⟩
              rw [u1 _ _ (by omega)]; exact (gb hm0).2 i hi
      · rintro ⟨x, T⟩ kk ⟨rfl, f, u, g17, gb, gz⟩
        simp only at f u g17 gb gz
        obtain ⟨gb1, gb2⟩ := gb hc2
        obtain ⟨eb1, eb2⟩ := sF_best (o := o) hG hw
        rw [eb1] at gb1
        have e1 : T 1 o = G 2 o := by rw [f _ _ (by omega) (by omega) (by omega) (by omega) (by omega) (by omega)]; exact k1
        have e2 : T 2 o = G 3 o := by rw [f _ _ (by omega) (by omega) (by omega) (by omega) (by omega) (by omega)]; exact k2
        have eP4 : T 0 4 = nn (nP G) := by rw [f _ _ (by omega) (by omega) (by omega) (by omega) (by omega) (by omega), hu.1.2.1, eP]
        have fin : gt (n_layBest_267 (nn o) (D 3 o) (bI G D o) T) fun T => fL S T ∧ uD D T ∧ (∀ k, k < nP G → T 16 k = bP G D o k) ∧ T 0 26 = bI G D o ∧ T 0 27 = bG G D o := by
          unfold n_layBest_267
          rw [show ∀ kq, gx_bz (bI G D o) kq = (kq : Option gx_S) from fun kq => by rcases bI_01 G D o with e | e <;> rw [e]; exact bz_0; exact bz_1]
          refine gt_let ?_
          refine gt_for (nP G) (fun j t => t.1 = nn j ∧ (∀ q i, q ≠ 7 → q ≠ 16 → (q ≠ 0 ∨ i ≠ 26) → t.2 q i = T q i) ∧ t.2 0 26 = bI G D o ∧ (∀ i, i < 6 → t.2 7 i = if i < j then D 1 i else T 7 i) ∧ ∀ i, i < nP G → t.2 16 i = if i < j ∧ (G 2 o = 4 ∧ ¬ G 3 o < bF G D o) then D 1 i else T 16 i) ?_ ?_ 0 5000 _ (by omega) ?_ (by omega)
          · rintro j ⟨x, W⟩ k3 hj ⟨rfl, f3, g1, g2, g3⟩ hk3
            simp only at f3 g1 g2 g3
            simp only [n_layBest_273, n_layBest_329, n_layBest_336]
            have w4 : W 0 4 = nn (nP G) := by rw [f3 _ _ (by omega) (by omega) (by omega), eP4]
            have w17 : W 17 j = D 1 j := by rw [f3 _ _ (by omega) (by omega) (by omega)]; exact g17 j hj
            have w1 : W 1 o = G 2 o := by rw [f3 _ _ (by omega) (by omega) (by omega)]; exact e1
            simp (disch := omega) only [w4, nn_le, nn_c, ck_n, let_s, nn_s, w17, gx_st_q, w1, g1]
            rw [if_neg (by omega)]
            have nx : ∀ p, p = (if G 2 o = 4 ∧ ¬ G 3 o < bF G D o then D 1 j else T 16 j) → gt (k3 (nn (j + 1), gx_st (gx_st W 7 j (D 1 j)) 16 j p)) fun T => fL S T ∧ uD D T ∧ (∀ k, k < nP G → T 16 k = bP G D o k) ∧ T 0 26 = bI G D o ∧ T 0 27 = bG G D o := fun p hp => by
              refine hk3 _ ⟨rfl, fun q i h1 h2 h3 => ?_, ?_, fun i hi => ?_, fun i hi => ?_⟩
              · simp only
                rw [gx_st_q _ _ _ _ h2, gx_st_q _ _ _ _ h1]; exact f3 q i h1 h2 h3
              · simp only
                rw [gx_st_q _ _ _ _ (by omega), gx_st_q _ _ _ _ (by omega)]; exact g1
              · simp only
                rw [gx_st_q _ _ _ _ (by omega)]
                by_cases z : i = j
                · subst z; rw [gx_st_eq, if_pos (by omega)]
                · rw [gx_st_j _ _ _ z, g2 i hi]
                  by_cases y : i < j
                  · rw [if_pos y, if_pos (by omega)]
                  · rw [if_neg y, if_neg (by omega)]
              · simp only
                by_cases z : i = j
                · subst z
                  rw [gx_st_eq, hp]
                  by_cases y : G 2 o = 4 ∧ ¬ G 3 o < bF G D o
                  · rw [if_pos y, if_pos ⟨by omega, y⟩]
                  · rw [if_neg y, if_neg (fun w => y w.2)]
                · rw [gx_st_j _ _ _ z, gx_st_q _ _ _ _ (by omega), g3 i hi]
                  by_cases y : i < j ∧ (G 2 o = 4 ∧ ¬ G 3 o < bF G D o)
                  · rw [if_pos y, if_pos ⟨by omega, y.2⟩]
                  · rw [if_neg y, if_neg (fun w => y ⟨by omega, w.2⟩)]
            have w16 : W 16 j = T 16 j := by rw [g3 j hj, if_neg (fun w => absurd w.1 (by omega))]
            by_cases q4 : G 2 o = 4
            · rw [if_pos q4]
              by_cases y : G 3 o < bF G D o
              · have : bI G D o = 1 := if_pos ⟨q4, y⟩
                rw [if_neg (show ¬ bI G D o = 0 by rw [this]; decide), w16]
                exact nx _ (by rw [if_neg (fun w => w.2 y)])
              · have : bI G D o = 0 := if_neg (fun w => y w.2)
                rw [if_pos this]
                exact nx _ (by rw [if_pos ⟨q4, y⟩])
            · rw [if_neg q4, w16]
              exact nx _ (by rw [if_neg (fun w => q4 w.1)])
          · rintro ⟨x, W⟩ k3 ⟨rfl, f3, g1, g2, g3⟩
            simp only at f3 g1 g2 g3
            simp only [n_layBest_273, n_layBest_365, n_layBest_369]
            have w4 : W 0 4 = nn (nP G) := by rw [f3 _ _ (by omega) (by omega) (by omega), eP4]
            have w1 : W 1 o = G 2 o := by rw [f3 _ _ (by omega) (by omega) (by omega)]; exact e1
            have w27 : W 0 27 = bF G D o := by rw [f3 _ _ (by omega) (by omega) (by omega)]; exact gb1
            simp (disch := omega) only [w4, nn_le, nn_c, ck_n, let_s, w1, g1, w27]
            rw [if_pos (by omega), nar_b (wD_1 hw ho)]
            have nx : ∀ p, p = bG G D o → gt (some (gx_st (gx_st W 0 27 p) 3 o (D 3 o))) fun T => fL S T ∧ uD D T ∧ (∀ k, k < nP G → T 16 k = bP G D o k) ∧ T 0 26 = bI G D o ∧ T 0 27 = bG G D o := fun p hp => by
              refine gt_some ⟨fun q j a1 a2 a3 a4 a5 a6 => ?_, fun j hj => ?_, fun i hi => ?_, ?_, ?_⟩
              · rw [gx_st_q _ _ _ _ a1]
                have : gx_st W 0 27 p q j = W q j := by
                  by_cases z : q = 0
                  · subst z; exact gx_st_j _ _ _ (by omega)
                  · exact gx_st_q _ _ _ _ z
                rw [this, f3 q j a2 a4 (by omega)]
                exact f q j a1 a2 a3 a4 a5 a6
              · obtain ⟨a1, a2, a3⟩ := u j hj
                refine ⟨?_, ?_, ?_⟩
                · rw [gx_st_q _ _ _ _ (by omega), gx_st_q _ _ _ _ (by omega), g2 j hj]
                  by_cases z : j < nP G
                  · rw [if_pos z]
                  · rw [if_neg z]; exact a1 (fun w => z w.1)
                · rw [gx_st_q _ _ _ _ (by omega), gx_st_q _ _ _ _ (by omega), f3 _ _ (by omega) (by omega) (by omega)]; exact a2
                · by_cases z : j = o
                  · subst z; rw [gx_st_eq]
                  · rw [gx_st_j _ _ _ z, gx_st_q _ _ _ _ (by omega), f3 _ _ (by omega) (by omega) (by omega), a3, if_neg z]
              · rw [gx_st_q _ _ _ _ (by omega), gx_st_q _ _ _ _ (by omega), g3 i hi, ← sE_best hG hw hi, gb2 i hi]
                by_cases y : G 2 o = 4 ∧ ¬ G 3 o < bF G D o
                · rw [if_pos y, if_pos ⟨hi, y⟩]
                · rw [if_neg y, if_neg (fun w => y w.2)]
              · rw [gx_st_q _ _ _ _ (by omega), gx_st_j _ _ _ (by omega)]; exact g1
              · rw [gx_st_q _ _ _ _ (by omega), gx_st_eq]; exact hp
            by_cases q4 : G 2 o = 4
            · rw [if_pos q4]
              by_cases y : G 3 o < bF G D o
              · have : bI G D o = 1 := if_pos ⟨q4, y⟩
                rw [if_neg (show ¬ bI G D o = 0 by rw [this]; decide)]
                exact nx _ (by unfold bG; rw [if_neg (fun w => w.2 y)])
              · have : bI G D o = 0 := if_neg (fun w => y w.2)
                rw [if_pos this]
                exact nx _ (by unfold bG; rw [if_pos ⟨q4, y⟩])
            · rw [if_neg q4]
              exact nx _ (by unfold bG; rw [if_neg (fun w => q4 w.1)])
          · refine ⟨rfl, fun q i h1 h2 h3 => ?_, gx_st_eq T 0 26 (bI G D o), fun i hi => ?_, fun i hi => ?_⟩
            · by_cases z : q = 0
              · subst z; exact gx_st_j T 0 _ (by omega)
              · exact gx_st_q T _ _ _ z
            · rw [if_neg (by omega)]
              show gx_st T 0 26 (bI G D o) 7 i = T 7 i
              exact gx_st_q _ _ _ _ (by decide)
            · rw [if_neg (fun w => absurd w.1 (by omega))]
              show gx_st T 0 26 (bI G D o) 16 i = T 16 i
              exact gx_st_q _ _ _ _ (by decide)
        simp only [n_layBest_145, n_layBest_266]
        simp (disch := omega) only [nn_le, ck_n, nn_c, e1, e2, gb1]
        rw [if_pos (by omega)]
        by_cases q4 : G 2 o = 4
        · rw [if_pos q4]
          by_cases y : bF G D o ≤ G 3 o
          · have : bI G D o = 0 := if_neg (fun w => by have := w.2; lia)
            rw [if_pos y, ← this]
            exact fin
          · have : bI G D o = 1 := if_pos ⟨q4, by lia⟩
            rw [if_neg y, ← this]
            exact fin
        · have : bI G D o = 0 := if_neg (fun w => q4 w.1)
          rw [if_neg q4, ← this]
          exact fin
      · refine ⟨rfl, fun q j a1 a2 a3 a4 a5 a6 => fT q j a1 a4 a5, fun j hj => ?_, g17, fun z => absurd z (by omega), fun _ i hi => ?_⟩
        · simp only
          refine ⟨fun _ => ?_, ?_, g3 j hj⟩
          · rw [fT _ _ (by omega) (by omega) (by omega)]; exact (hd j hj).1
          · rw [fT _ _ (by omega) (by omega) (by omega)]; exact (hd j hj).2.1
        · simp only
          rw [fT _ _ (by omega) (by omega) (by omega)]; exact (hd i hi).1
    have codes : ∀ one, one = oneP G o → gt (n_layBest_94 (nn o) (nn (cnt G D o)) (D 3 o) 1 (ib one) T) fun T => fL S T ∧ uD D T ∧ (∀ k, k < nP G → T 16 k = bP G D o k) ∧ T 0 26 = bI G D o ∧ T 0 27 = bG G D o := by
      intro one hone
      have kT : T 1 o = G 2 o := by rw [fT _ _ (by omega) (by omega) (by omega)]; exact k1
      unfold n_layBest_94
      refine gt_for (cnt G D o) (fun j t => t.1 = nn (if one = true then (if j = 0 then 1 else 10) else 10 ^ j) ∧ t.2 = nn j ∧ (G 2 o = 2 → j = 0)) ?_ ?_ 0 5000 _ (by omega) ?_ (by omega)
      · rintro j ⟨x4, x6⟩ kk hj ⟨rfl, rfl, h2⟩ hk
        simp only [n_layBest_99, n_layBest_131, n_layBest_133]
        simp (disch := omega) only [nn_le, ck_n, nn_c, kT, nn_s]
        rw [if_neg (by omega)]
        by_cases q2 : G 2 o = 2
        · rw [if_pos q2]
          have ec : cdr G D o = 1 := if_pos q2
          rw [ec, ← hone] at main
          have j0 := h2 q2
          subst j0
          have : (if one = true then (if 0 = 0 then 1 else 10) else 10 ^ 0) = 1 := by split <;> rfl
          rw [this]
          exact main
        · rw [if_neg q2]
          cases one with
          | true =>
            rw [show ib true = 1 from rfl, if_neg (by decide)]
            by_cases j0 : j = 0
            · subst j0
              rw [if_pos (show nn 0 ≤ 0 by decide)]
              exact hk _ ⟨by decide, rfl, fun z => absurd z q2⟩
            · rw [if_neg (by rw [nn_0, nn_le (by omega) (by omega)]; omega)]
              refine hk _ ⟨?_, rfl, fun z => absurd z q2⟩
              simp only [j0, ↓reduceIte, show ¬ (j + 1 = 0) from by omega, Int32.mul_one]
          | false =>
            rw [show ib false = 0 from rfl, if_pos rfl]
            refine hk _ ⟨?_, rfl, fun z => absurd z q2⟩
            simp only
            rw [if_neg (by decide), if_neg (by decide), show (10 : Int32) = nn 10 from rfl, nn_mul, Nat.pow_succ]
      · rintro ⟨x4, x6⟩ kk ⟨rfl, rfl, h2⟩
        simp only [n_layBest_99]
        simp (disch := omega) only [nn_le]
        rw [if_pos (by omega)]
        have ec : cdr G D o = (if one = true then (if cnt G D o = 0 then 1 else 10) else 10 ^ cnt G D o) := by
          unfold cdr
          by_cases q2 : G 2 o = 2
          · rw [if_pos q2, h2 q2]
            split <;> rfl
          · rw [if_neg q2, hone]
        rw [← ec, hone]
        exact main
      · exact ⟨by split <;> rfl, rfl, fun _ => rfl⟩
    unfold n_layBest_89
    by_cases q1 : G 2 o = 1
    · rw [if_pos q1]
      exact codes true (by unfold oneP; simp [q1])
    · rw [if_neg q1]
      by_cases q4 : G 2 o = 4
      · rw [if_pos q4]
        exact codes true (by unfold oneP; simp [q4])
      · rw [if_neg q4]
        exact codes false (by unfold oneP; simp [q1, q4])

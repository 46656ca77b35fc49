/-! b41: the digest, the reference's -/
def hh (v : Int64) (T : gx_S) : Prop := gx_mk (T 0 182) (T 0 183) = v
def jJ (A : rA) (T0 : gx_S) (v : Int64) (U : gx_S) : Prop := RT A U ∧ fO T0 U ∧ hh v U
theorem stl_f (S : gx_S) (v : Int64) {q j : Nat} (h : q ≠ 0 ∨ (j ≠ 182 ∧ j ≠ 183)) : gx_stl S 0 182 v q j = S q j := by
  unfold gx_stl
  by_cases z : q = 0
  · subst z
    have h1 : j ≠ 182 := by omega
    have h2 : j ≠ 183 := by omega
    simp [va_up, upd, h1, h2]
  · simp [va_up, z]
theorem stl_h (S : gx_S) (v : Int64) : hh v (gx_stl S 0 182 v) := by
  unfold hh gx_stl
  simp only [va_up, ↓reduceIte]
  exact gx_mk_up
theorem jJ_mix {A : rA} {T0 U : gx_S} {v : Int64} (h : jJ A T0 v U) (x : Int64) : gt (n_mix x U) (jJ A T0 (mx v x)) := by
  unfold n_mix
  refine gt_let (gt_some ?_)
  have e : gx_mk (U 0 182) (U 0 183) = v := h.2.2
  rw [e]
  refine ⟨RT_Q h.1 (fun q j a b => stl_f _ _ (by omega)), fO_t h.2.1 (fun q j _ _ _ _ b => stl_f _ _ (by omega)), stl_h _ _⟩
theorem jJ_15 {A : rA} {T0 U V : gx_S} {v : Int64} (h : jJ A T0 v U) (f : f15 U V) : jJ A T0 v V := by
  refine ⟨RT_Q h.1 (f15_Q f), fO_t h.2.1 (fun q j _ _ _ a _ => f q j (by omega)), ?_⟩
  unfold hh
  rw [f _ _ (by omega), f _ _ (by omega)]
  exact h.2.2
theorem jJ_k {A : rA} {T0 U V : gx_S} {v : Int64} (h : jJ A T0 v U) (f : fk U V) : jJ A T0 v V := by
  refine ⟨RT_Q h.1 (fun q j a b => f q j (by omega) (by omega) (by omega) (by omega) (by omega)), fO_t h.2.1 (fk_O f), ?_⟩
  unfold hh
  rw [f _ _ (by omega) (by omega) (by omega) (by omega) (by omega), f _ _ (by omega) (by omega) (by omega) (by omega) (by omega)]
  exact h.2.2
theorem jJ_r {A : rA} {T0 U : gx_S} {v w : Int64} (h : jJ A T0 v U) (e : v = w) : jJ A T0 w U := by rw [← e]; exact h
theorem u_d255 {A : rA} {T0 U : gx_S} {v : Int64} (hA : RA A) (h : jJ A T0 v U) : gt (gx_loop n_digest_255 5000 (0, U)) fun r => r.1 = fo (E6 A) 7 v ∧ ∃ w, jJ A T0 w r.2 := by
  refine gt_for 7 (fun i τ => τ.1 = nn i ∧ jJ A T0 (fo (E6 A) i v) τ.2) ?_ ?_ 0 5000 _ (by omega) ⟨rfl, jJ_r h (fo_z (E6 A) v).symm⟩ (by omega)
  · rintro i ⟨_, V⟩ k hi ⟨rfl, hV⟩ hk
    simp only at hV
    simp only [n_digest_255]
    rw [if_neg (show ¬ (7 : Int32) ≤ nn i by rw [show (7 : Int32) = nn 7 from rfl, nn_le (by omega) (by omega)]; omega)]
    refine gt_cs (u_count hA hV.1 (nn i)) (fun x W hW => gt_cp (jJ_mix (jJ_15 hV hW.2) _) (fun X hX => ?_))
    rw [nn_s]
    refine hk (_, _) ⟨rfl, jJ_r hX ?_⟩
    rw [fo_s, ← E6_e, show x = hmV A (nn i) from hW.1]
  · rintro ⟨_, V⟩ k ⟨rfl, hV⟩
    simp only at hV
    simp only [n_digest_255]
    rw [if_pos (show (7 : Int32) ≤ nn 7 by decide)]
    exact gt_some ⟨hV.2.2, _, hV⟩
theorem u_d228 {A : rA} {T0 U : gx_S} {v : Int64} (hA : RA A) (h : jJ A T0 v U) : gt (gx_loop n_digest_228 5000 (0, U)) fun r => r.1 = fo (E6 A) 7 (fo (E5 A) (qn A) v) ∧ ∃ w, jJ A T0 w r.2 := by
  have hn := h.1.2.2.2.1.1
  refine gt_for (qn A) (fun i τ => τ.1 = nn i ∧ jJ A T0 (fo (E5 A) i v) τ.2) ?_ ?_ 0 5000 _ (by omega) ⟨rfl, jJ_r h (fo_z (E5 A) v).symm⟩ (by omega)
  · rintro i ⟨_, V⟩ k hi ⟨rfl, hV⟩ hk
    simp only at hV
    simp only [n_digest_228]
    obtain ⟨_, e1, e2'⟩ := hV.1.2.2.2.1
    rw [e1, if_neg (show ¬ nn (qn A) ≤ nn i by rw [nn_le (by omega) (by omega)]; omega), ck_n (by omega) (by omega), nn_c (by omega), (e2' i hi).1]
    refine gt_cp (jJ_mix hV _) (fun X hX => ?_)
    rw [nn_s]
    refine hk (_, _) ⟨rfl, jJ_r hX ?_⟩
    rw [fo_s, ← E5_e]
  · rintro ⟨_, V⟩ k ⟨rfl, hV⟩
    simp only at hV
    simp only [n_digest_228]
    obtain ⟨_, e1, _⟩ := hV.1.2.2.2.1
    rw [e1, if_pos (Int32.le_refl _)]
    exact u_d255 hA hV
theorem u_d159 {A : rA} {T0 U : gx_S} {v : Int64} (hA : RA A) (h : jJ A T0 v U) : gt (gx_loop n_digest_159 5000 (0, U)) fun r => r.1 = fo (E6 A) 7 (fo (E5 A) (qn A) (fo (E4 A) (qc A) v)) ∧ ∃ w, jJ A T0 w r.2 := by
  have hO := (wG_O hA.1).2
  have hc := hA.2.2.2.2.1
  refine gt_for (qc A) (fun t τ => τ.1 = nn t ∧ jJ A T0 (fo (E4 A) t v) τ.2) ?_ ?_ 0 5000 _ (by omega) ⟨rfl, jJ_r h (fo_z (E4 A) v).symm⟩ (by omega)
  · rintro t ⟨_, V⟩ k ht ⟨rfl, hV⟩ hk
    simp only at hV
    simp only [n_digest_159]
    rw [hV.1.2.2.2.2.1, if_neg (show ¬ nn (qc A) ≤ nn t by rw [nn_le (by omega) (by omega)]; omega)]
    refine gt_for (nO (qG A)) (fun a τ => τ.1 = nn a ∧ jJ A T0 (fo (d4 A t) a (fo (E4 A) t v)) τ.2) ?_ ?_ 0 5000 _ (by omega) ⟨rfl, jJ_r hV (fo_z (d4 A t) (fo (E4 A) t v)).symm⟩ (by omega)
    · rintro a ⟨_, W⟩ k2 ha ⟨rfl, hW⟩ hk2
      simp only at hW
      simp only [n_digest_169]
      rw [(RT_c hA hW.1).1, if_neg (show ¬ nn (nO (qG A)) ≤ nn a by rw [nn_le (by omega) (by omega)]; omega), nn_s]
      refine gt_for (nO (qG A)) (fun b τ => a < b ∧ τ.1 = nn b ∧ jJ A T0 (fo (e4 A t a) b (fo (d4 A t) a (fo (E4 A) t v))) τ.2) ?_ ?_ (a + 1) 5000 _ (by omega) ⟨by omega, rfl, jJ_r hW (e4_0 A t a (fo (d4 A t) a (fo (E4 A) t v))).symm⟩ (by omega)
      · rintro b ⟨_, X⟩ k3 hb ⟨hab, rfl, hX⟩ hk3
        simp only at hX
        simp only [n_digest_181]
        rw [(RT_c hA hX.1).1, if_neg (show ¬ nn (nO (qG A)) ≤ nn b by rw [nn_le (by omega) (by omega)]; omega)]
        refine gt_cs (u_bars hA hX.1 ht ha hb (by omega)) (fun x Y hY => ?_)
        obtain ⟨g, e⟩ := hY
        simp only at g e
        have hY := jJ_k hX g
        have nx : ∀ z : Int64, z = (if barV A t a b = true then 1 else 0) → gt (n_digest_205 k k2 k3 (nn t) (nn a) (nn b) z Y) (fun r => r.1 = fo (E6 A) 7 (fo (E5 A) (qn A) (fo (E4 A) (qc A) v)) ∧ ∃ w, jJ A T0 w r.2) := fun z hz => by
          unfold n_digest_205
          refine gt_cp (jJ_mix hY z) (fun Z hZ => ?_)
          rw [nn_s]
          refine hk3 (_, _) ⟨by omega, rfl, jJ_r hZ ?_⟩
          rw [fo_s]
          unfold e4
          rw [if_pos hab, hz]
        rw [e]
        cases hb2 : barV A t a b with
        | false =>
          rw [if_pos (show ib false = 0 from rfl)]
          exact nx 0 (by rw [hb2]; rfl)
        | true =>
          rw [if_neg (show ¬ ib true = 0 from i10)]
          exact nx 1 (by rw [hb2]; rfl)
      · rintro ⟨_, X⟩ k3 ⟨_, rfl, hX⟩
        simp only at hX
        simp only [n_digest_181]
        rw [(RT_c hA hX.1).1, if_pos (Int32.le_refl _), nn_s]
        refine hk2 (_, _) ⟨rfl, jJ_r hX ?_⟩
        rw [d4_e, fo_s]
    · rintro ⟨_, W⟩ k2 ⟨rfl, hW⟩
      simp only at hW
      simp only [n_digest_169]
      rw [(RT_c hA hW.1).1, if_pos (Int32.le_refl _), nn_s]
      refine hk (_, _) ⟨rfl, jJ_r hW ?_⟩
      rw [E4_e, fo_s]
  · rintro ⟨_, V⟩ k ⟨rfl, hV⟩
    simp only at hV
    simp only [n_digest_159]
    rw [hV.1.2.2.2.2.1, if_pos (Int32.le_refl _)]
    exact u_d228 hA hV
theorem u_d98 {A : rA} {T0 U : gx_S} {v : Int64} (hA : RA A) (h : jJ A T0 v U) : gt (gx_loop n_digest_98 5000 (0, U)) fun r => r.1 = fo (E6 A) 7 (fo (E5 A) (qn A) (fo (E4 A) (qc A) (fo (E3 A) (nS (qG A)) v))) ∧ ∃ w, jJ A T0 w r.2 := by
  have hN := (wG_S hA.1).2
  refine gt_for (nS (qG A)) (fun s τ => τ.1 = nn s ∧ jJ A T0 (fo (E3 A) s v) τ.2) ?_ ?_ 0 5000 _ (by omega) ⟨rfl, jJ_r h (fo_z (E3 A) v).symm⟩ (by omega)
  · rintro s ⟨_, V⟩ k hs ⟨rfl, hV⟩ hk
    simp only at hV
    simp only [n_digest_98]
    rw [(RT_c hA hV.1).2.2, if_neg (show ¬ nn (nS (qG A)) ≤ nn s by rw [nn_le (by omega) (by omega)]; omega)]
    refine gt_for 6 (fun i τ => τ.1 = nn i ∧ jJ A T0 (fo (e3 A s) i (fo (E3 A) s v)) τ.2) ?_ ?_ 0 5000 _ (by omega) ⟨rfl, jJ_r hV (fo_z (e3 A s) (fo (E3 A) s v)).symm⟩ (by omega)
    · rintro i ⟨_, W⟩ k2 hi ⟨rfl, hW⟩ hk2
      simp only at hW
      simp only [n_digest_108]
      rw [if_neg (show ¬ (6 : Int32) ≤ nn i by rw [show (6 : Int32) = nn 6 from rfl, nn_le (by omega) (by omega)]; omega), u_told hW.1.1 (by omega) hi, cp_s]
      refine gt_cp (jJ_mix hW _) (fun X hX => ?_)
      rw [nn_s]
      refine hk2 (_, _) ⟨rfl, jJ_r hX ?_⟩
      rw [fo_s, ← e3_e]
    · rintro ⟨_, W⟩ k2 ⟨rfl, hW⟩
      simp only at hW
      simp only [n_digest_108]
      rw [if_pos (show (6 : Int32) ≤ nn 6 by decide), u_goesTo (pU_R hA hW.1) hs, cp_s]
      refine gt_cp (jJ_mix hW _) (fun X hX => ?_)
      rw [u_spareOf (pU_R hA hX.1) hs, cp_s]
      refine gt_cp (jJ_mix hX _) (fun Y hY => ?_)
      rw [nn_s]
      refine hk (_, _) ⟨rfl, jJ_r hY ?_⟩
      rw [E3_e, fo_s]
  · rintro ⟨_, V⟩ k ⟨rfl, hV⟩
    simp only at hV
    simp only [n_digest_98]
    rw [(RT_c hA hV.1).2.2, if_pos (Int32.le_refl _)]
    exact u_d159 hA hV
theorem u_d57 {A : rA} {T0 U : gx_S} {v : Int64} (hA : RA A) (h : jJ A T0 v U) : gt (gx_loop n_digest_57 5000 (0, U)) fun r => r.1 = fo (E6 A) 7 (fo (E5 A) (qn A) (fo (E4 A) (qc A) (fo (E3 A) (nS (qG A)) (fo (E2 A) (nP (qG A)) v)))) ∧ ∃ w, jJ A T0 w r.2 := by
  have hP := (wG_P hA.1).2
  refine gt_for (nP (qG A)) (fun s τ => τ.1 = nn s ∧ jJ A T0 (fo (E2 A) s v) τ.2) ?_ ?_ 0 5000 _ (by omega) ⟨rfl, jJ_r h (fo_z (E2 A) v).symm⟩ (by omega)
  · rintro s ⟨_, V⟩ k hs ⟨rfl, hV⟩ hk
    simp only at hV
    simp only [n_digest_57]
    rw [(RT_c hA hV.1).2.1, if_neg (show ¬ nn (nP (qG A)) ≤ nn s by rw [nn_le (by omega) (by omega)]; omega)]
    refine gt_for 6 (fun i τ => τ.1 = nn i ∧ jJ A T0 (fo (e2 A s) i (fo (E2 A) s v)) τ.2) ?_ ?_ 0 5000 _ (by omega) ⟨rfl, jJ_r hV (fo_z (e2 A s) (fo (E2 A) s v)).symm⟩ (by omega)
    · rintro i ⟨_, W⟩ k2 hi ⟨rfl, hW⟩ hk2
      simp only at hW
      simp only [n_digest_67]
      rw [if_neg (show ¬ (6 : Int32) ≤ nn i by rw [show (6 : Int32) = nn 6 from rfl, nn_le (by omega) (by omega)]; omega)]
      refine gt_cs (u_about (pU_R hA hW.1) hs (nn i) (nn_b (k := i) (b := 5) (by omega) (by decide))) (fun x X hX => ?_)
      obtain ⟨e, f⟩ := hX
      simp only at e f
      rw [abv_e] at e
      rw [e]
      refine gt_cp (jJ_mix (jJ_15 hW f) _) (fun Y hY => ?_)
      rw [nn_s]
      refine hk2 (_, _) ⟨rfl, jJ_r hY ?_⟩
      rw [fo_s, ← e2_e]
    · rintro ⟨_, W⟩ k2 ⟨rfl, hW⟩
      simp only at hW
      simp only [n_digest_67]
      rw [if_pos (show (6 : Int32) ≤ nn 6 by decide), nn_s]
      refine hk (_, _) ⟨rfl, jJ_r hW ?_⟩
      rw [E2_e, fo_s]
  · rintro ⟨_, V⟩ k ⟨rfl, hV⟩
    simp only at hV
    simp only [n_digest_57]
    rw [(RT_c hA hV.1).2.1, if_pos (Int32.le_refl _)]
    exact u_d98 hA hV
theorem u_digest {A : rA} {T : gx_S} (hA : RA A) (hT : RT A T) : gt (n_digest T) fun r => r.1 = dgV A ∧ ∃ w, jJ A T w r.2 := by
  have hO := (wG_O hA.1).2
  unfold n_digest
  refine gt_let ?_
  have h : jJ A T 373 (gx_stl T 0 182 373) := ⟨RT_Q hT (fun q j a b => stl_f _ _ (by omega)), fun q j _ _ _ _ b => stl_f _ _ (by omega), stl_h _ _⟩
  generalize gx_stl T 0 182 373 = U at h
  unfold dgV
  refine gt_for (nO (qG A)) (fun s τ => τ.1 = nn s ∧ jJ A T (fo (E1 A) s 373) τ.2) ?_ ?_ 0 5000 _ (by omega) ⟨rfl, jJ_r h (fo_z (E1 A) 373).symm⟩ (by omega)
  · rintro j ⟨_, V⟩ k hj ⟨rfl, hV⟩ hk
    simp only at hV
    simp only [n_digest_9]
    rw [(RT_c hA hV.1).1, if_neg (show ¬ nn (nO (qG A)) ≤ nn j by rw [nn_le (by omega) (by omega)]; omega), ck_n (by omega) (by omega), nn_c (by omega), (hV.1.1.2.1 j (by omega)).1]
    refine gt_cp (jJ_mix hV _) (fun W hW => ?_)
    rw [(hW.1.1.2.1 j (by omega)).2]
    refine gt_cp (jJ_mix hW _) (fun X hX => ?_)
    refine gt_cs (u_profitOf (pU_R hA hX.1) (by omega)) (fun x Y hY => ?_)
    obtain ⟨e, f⟩ := hY
    simp only at e f
    rw [e]
    refine gt_cp (jJ_mix (jJ_15 hX f) _) (fun Z hZ => ?_)
    rw [nn_s]
    refine hk (_, _) ⟨rfl, jJ_r hZ ?_⟩
    rw [E1_e, fo_s]
  · rintro ⟨_, V⟩ k ⟨rfl, hV⟩
    simp only at hV
    simp only [n_digest_9]
    rw [(RT_c hA hV.1).1, if_pos (Int32.le_refl _)]
    exact u_d57 hA hV
def cLL (o o' : Option (Int64 × gx_S)) : Prop := gt o fun r => gt o' fun r' => r.1 = r'.1 ∧ RR r.2 r'.2
theorem st_digest {S T : gx_S} (h : RR S T) : cLL (m_ShopsAsOne_digest S) (n_digest T) := by
  obtain ⟨A, hA, hS, hT, hK⟩ := id h
  refine gt_mono (x_digest hA hS) (fun r hr => gt_mono (u_digest hA hT) (fun r' hr' => ?_))
  obtain ⟨e1, w, hJ⟩ := hr'
  exact ⟨hr.1.trans e1.symm, RR_O hA hS hT hK (fW_P hr.2) hJ.2.1 hJ.1.2.1⟩

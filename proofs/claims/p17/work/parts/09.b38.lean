/-! b38: wrong tests -/
theorem x_tooMany {G D S : gx_S} (p : pX 0 G D S) (a b : Nat) : m_ShopsAsOne_areTooMany (nn a) (nn b) S = some (if cnt G D a + cnt G D b ≤ 3 then 0 else 1) := by
  have h1 := cnt6 (D := D) p.1 a
  have h2 := cnt6 (D := D) p.1 b
  unfold m_ShopsAsOne_areTooMany
  rw [x_shopsOf p, x_shopsOf p, cp_s, cp_s, nn_add, show (3 : Int32) = nn 3 from rfl]
  by_cases z : cnt G D a + cnt G D b ≤ 3
  · rw [if_pos (show nn (cnt G D a + cnt G D b) ≤ nn 3 by rw [nn_le (by omega) (by omega)]; exact z), if_pos z]
  · rw [if_neg (show ¬ nn (cnt G D a + cnt G D b) ≤ nn 3 by rw [nn_le (by omega) (by omega)]; exact z), if_neg z]
theorem u_fitsO {G D T : gx_S} (q : pU G D (-1) T) (a b : Nat) : n_fits (nn a) (nn b) T = some (if cnt G D a + cnt G D b ≤ 3 then 1 else 0) := by
  have h1 := cnt6 (D := D) q.1 a
  have h2 := cnt6 (D := D) q.1 b
  unfold n_fits
  rw [u_shopsOf q, u_shopsOf q, cp_s, cp_s, nn_add, show (3 : Int32) = nn 3 from rfl]
  by_cases z : cnt G D a + cnt G D b ≤ 3
  · rw [if_neg (show ¬ nn 3 < nn (cnt G D a + cnt G D b) by rw [nn_lt (by omega) (by omega)]; omega), if_pos z]
  · rw [if_pos (show nn 3 < nn (cnt G D a + cnt G D b) by rw [nn_lt (by omega) (by omega)]; omega), if_neg z]
theorem x_isWrong (p q : Bool) (v : Int32) (S : gx_S) : m_ShopsAsOne_isWrong (ib p) (ib q) v S = some (if ¬ v = -1 ∧ p = q ∧ (v = 0 ↔ q = true) then 1 else 0) := by
  unfold m_ShopsAsOne_isWrong m_ShopsAsOne_isWrong_27 m_ShopsAsOne_isWrong_19 m_ShopsAsOne_isWrong_27
  by_cases h1 : v = -1
  · rw [if_pos h1, if_neg (fun z => z.1 h1)]
  · rw [if_neg h1]
    by_cases h2 : p = q
    · subst h2
      rw [if_pos rfl]
      by_cases h3 : v = 0
      · rw [if_pos h3]
        cases p with
        | false => rw [if_neg (by decide), if_neg (fun z => absurd (z.2.2.mp h3) (by decide))]
        | true => rw [if_pos (by decide), if_pos ⟨h1, rfl, fun _ => rfl, fun _ => h3⟩]
      · rw [if_neg h3]
        cases p with
        | false => rw [if_pos (by decide), if_pos ⟨h1, rfl, fun z => absurd z h3, fun z => absurd z (by decide)⟩]
        | true => rw [if_neg (by decide), if_neg (fun z => h3 (z.2.2.mpr rfl))]
    · rw [if_neg (by intro z; apply h2; cases p <;> cases q <;> first | rfl | exact absurd z (by decide)), if_neg (fun z => h2 z.2.1)]
/-- whether a and b are told wrong -/
noncomputable def wb (A : rA) (x : Int32) (t a b : Nat) : Int32 := if barV A t a b = decide (x = 1) ∧ (hrm (qG A) (ste (qG A) (qD A)).2 (ste (qG A) (gv (qG A) (qD A) a b)).2 = 0 ↔ x = 1) then 1 else 0
noncomputable def wv (A : rA) (x : Int32) (t a b : Nat) : Int32 := if cnt (qG A) (qD A) a + cnt (qG A) (qD A) b ≤ 3 then (if (ste (qG A) (gv (qG A) (qD A) a b)).1 = -1 then 0 else wb A x t a b) else 0
noncomputable def wr (A : rA) (x : Int32) (t a n : Nat) : Int32 := sm (fun b => if a < b then wv A x t a b else 0) n
noncomputable def wt (A : rA) (x : Int32) (t n : Nat) : Int32 := sm (fun a => wr A x t a (nO (qG A))) n
theorem wr_0 (A : rA) (x : Int32) (t a : Nat) : wr A x t a (a + 1) = 0 := by
  unfold wr
  rw [sm_cg (g := fun _ => 0) (fun j hj => by rw [if_neg (by omega)]), sm_0]
theorem wr_s {A : rA} {x : Int32} {t a b : Nat} (h : a < b) : wr A x t a (b + 1) = wr A x t a b + wv A x t a b := by
  show wr A x t a b + (if a < b then wv A x t a b else 0) = _
  rw [if_pos h]
theorem x_wrongIn {A : rA} {S : gx_S} (hA : RA A) (hS : RS A S) (hB : sB (qG A) (ste (qG A) (qD A)).2 S) {x : Int32} {t a : Nat} (ht : t < qc A) (ha : a < nO (qG A)) (c : Int32) (k66 : Int32 × Int32 × gx_S → Option (Int32 × gx_S)) (P : Int32 × gx_S → Prop) (hk : ∀ U, fP S U → sB (qG A) (ste (qG A) (qD A)).2 U → gt (k66 (c + wr A x t a (nO (qG A)), nn (a + 1), U)) P) : gt (gx_loop (m_ShopsAsOne_wrong_84 k66 (nn t) x (nn a)) 5000 (c, nn a + 1, S)) P := by
  have hO := (wG_O hA.1).2
  have hc := hA.2.2.2.2.1
  rw [nn_s]
  refine gt_for (nO (qG A)) (fun b τ => a < b ∧ τ.1 = c + wr A x t a b ∧ τ.2.1 = nn b ∧ fP S τ.2.2 ∧ sB (qG A) (ste (qG A) (qD A)).2 τ.2.2) ?_ ?_ (a + 1) 5000 _ (by omega) ⟨by omega, by rw [wr_0, Int32.add_zero], rfl, fP_r S, hB⟩ (by omega)
  · rintro b ⟨_, _, U⟩ k hb ⟨hab, rfl, rfl, f, s⟩ hkk
    simp only at f s
    simp only [m_ShopsAsOne_wrong_84]
    have hU := RS_P hA.1 hc hS f
    have pU' := pX_R hA hU
    have e1 : U 1 0 = nn (nO (qG A)) := (RS_c hA hU).1
    rw [e1, if_neg (show ¬ nn (nO (qG A)) ≤ nn b by rw [nn_le (by omega) (by omega)]; omega), x_tooMany pU', cp_s]
    have nx : ∀ V w, fP U V → sB (qG A) (ste (qG A) (qD A)).2 V → w = wv A x t a b → gt (k (c + wr A x t a b + w, nn b + 1, V)) P := fun V w f' s' hw => by
      rw [nn_s]
      refine hkk _ ⟨by omega, ?_, rfl, fP_t f f', s'⟩
      simp only
      rw [wr_s hab, hw, Int32.add_assoc]
    unfold m_ShopsAsOne_wrong_126 m_ShopsAsOne_wrong_150
    by_cases c3 : cnt (qG A) (qD A) a + cnt (qG A) (qD A) b ≤ 3
    · rw [if_pos c3, if_pos rfl]
      refine gt_cs (x_isBarred hA hU ht ha hb) (fun v V hV => ?_)
      obtain ⟨e2, f2⟩ := hV
      simp only at e2 f2
      have hg := wD_gv hA.2.2.1 hO ha hb (by omega) c3
      have hV := RS_P hA.1 hc hU (fW_P f2)
      have sV : sB (qG A) (ste (qG A) (qD A)).2 V := fun i hi => (f2 64 i (by omega)).trans (s i hi)
      have both : ∀ q : Bool, q = decide (x = 1) → gt (gx_cs (m_Joining_harmOf 0 (nn a) (nn b) V) fun v3 S2 => gx_cp (m_ShopsAsOne_isWrong v (ib q) v3 S2) fun v5 => if v5 = 0 then k (c + wr A x t a b, nn b + 1, S2) else k (c + wr A x t a b + 1, nn b + 1, S2)) P := fun q hq => by
        refine gt_cs (x_harmOf (pX_R hA hV) hA.2.2.1 (by omega) (by omega) (by omega) hg sV) (fun v3 W hW => ?_)
        obtain ⟨e3, f3⟩ := hW
        simp only at e3 f3
        rw [e2, x_isWrong, cp_s]
        have p1 := (hrm_p hA.1 (wD_ste hA.1 hA.2.2.1) (wD_ste hA.1 hg)).1
        have fW : fP U W := fP_t (fW_P f2) (fK_P f3)
        have sW := sB_K sV f3
        have ev : wv A x t a b = if ¬ v3 = -1 ∧ barV A t a b = q ∧ (v3 = 0 ↔ q = true) then 1 else 0 := by
          unfold wv wb
          rw [if_pos c3, e3]
          unfold hmo
          by_cases y : (ste (qG A) (gv (qG A) (qD A) a b)).1 = -1
          · rw [if_pos y, if_pos y, if_neg (fun z => z.1 rfl)]
          · rw [if_neg y, if_neg y, hq]
            have dq : decide (x = 1) = true ↔ x = 1 := decide_eq_true_iff
            by_cases z : barV A t a b = decide (x = 1) ∧ (hrm (qG A) (ste (qG A) (qD A)).2 (ste (qG A) (gv (qG A) (qD A) a b)).2 = 0 ↔ x = 1)
            · rw [if_pos z, if_pos ⟨p1, z.1, z.2.trans dq.symm⟩]
            · rw [if_neg z, if_neg (fun w => z ⟨w.2.1, w.2.2.trans dq⟩)]
        by_cases z : ¬ v3 = -1 ∧ barV A t a b = q ∧ (v3 = 0 ↔ q = true)
        · rw [if_pos z] at ev ⊢
          rw [if_neg i10]
          exact nx W 1 fW sW ev.symm
        · rw [if_neg z] at ev ⊢
          rw [if_pos rfl]
          have := nx W 0 fW sW ev.symm
          rw [Int32.add_zero] at this
          exact this
      by_cases y : x = 1
      · rw [if_pos y]
        exact both true (by rw [y]; rfl)
      · rw [if_neg y]
        exact both false (by simp [y])
    · rw [if_neg c3, if_neg i10]
      have := nx U 0 (fP_r U) s (by unfold wv; rw [if_neg c3])
      rw [Int32.add_zero] at this
      exact this
  · rintro ⟨_, _, U⟩ k ⟨_, rfl, rfl, f, s⟩
    simp only at f s
    simp only [m_ShopsAsOne_wrong_84]
    have e1 : U 1 0 = nn (nO (qG A)) := (RS_c hA (RS_P hA.1 hc hS f)).1
    rw [e1, if_pos (Int32.le_refl _), nn_s]
    exact hk U f s
theorem x_wrong {A : rA} {S : gx_S} (hA : RA A) (hS : RS A S) (hB : sB (qG A) (ste (qG A) (qD A)).2 S) {x : Int32} {t : Nat} (ht : t < qc A) : gt (gx_loop (m_ShopsAsOne_wrong_66 (nn t) x) 5000 (0, 0, S)) fun r => r.1 = wt A x t (nO (qG A)) ∧ fP S r.2 := by
  have hO := (wG_O hA.1).2
  have hc := hA.2.2.2.2.1
  refine gt_for (nO (qG A)) (fun a τ => τ.1 = wt A x t a ∧ τ.2.1 = nn a ∧ fP S τ.2.2 ∧ sB (qG A) (ste (qG A) (qD A)).2 τ.2.2) ?_ ?_ 0 5000 _ (by omega) ⟨rfl, rfl, fP_r S, hB⟩ (by omega)
  · rintro a ⟨_, _, U⟩ k ha ⟨rfl, rfl, f, s⟩ hkk
    simp only at f s
    simp only [m_ShopsAsOne_wrong_66]
    have hU := RS_P hA.1 hc hS f
    have e1 : U 1 0 = nn (nO (qG A)) := (RS_c hA hU).1
    rw [e1, if_neg (show ¬ nn (nO (qG A)) ≤ nn a by rw [nn_le (by omega) (by omega)]; omega)]
    exact x_wrongIn hA hU s ht ha _ k _ (fun V f' s' => hkk _ ⟨rfl, rfl, fP_t f f', s'⟩)
  · rintro ⟨_, _, U⟩ k ⟨rfl, rfl, f, s⟩
    simp only at f s
    simp only [m_ShopsAsOne_wrong_66]
    have e1 : U 1 0 = nn (nO (qG A)) := (RS_c hA (RS_P hA.1 hc hS f)).1
    rw [e1, if_pos (Int32.le_refl _)]
    exact gt_some ⟨rfl, f⟩
/-! the reference's -/
theorem u_123 {A : rA} {T : gx_S} (hA : RA A) (hT : RT A T) {x x3 : Int32} (hx : x = 0 ∨ x = 1) {t a b : Nat} (ht : t < qc A) (ha : a < nO (qG A)) (hb : b < nO (qG A)) (hab : a ≠ b) (c : Int32) {hf : Int32} (he : hf = if hrm (qG A) (ste (qG A) (qD A)).2 (ste (qG A) (gv (qG A) (qD A) a b)).2 = 0 then 0 else 1) (k56 k75 : Int32 × Int32 × gx_S → Option (Int32 × gx_S)) (P : Int32 × gx_S → Prop) (hk : ∀ U, fk T U → gt (k75 (c + wb A x t a b, nn b + 1, U)) P) : gt (n_wrong_123 k56 k75 (nn t) x x3 c (nn a) (nn b) hf T) P := by
  have key : ∀ s2 : Int32, s2 = (if x = 0 then 1 else 0) → gt (n_wrong_138 k56 k75 (nn t) x x3 (nn a) (nn b) c hf s2 T) P := fun s2 hs => by
    unfold n_wrong_138 n_wrong_160 n_wrong_167 n_wrong_168 n_wrong_171
    have eq : hf = s2 ↔ (hrm (qG A) (ste (qG A) (qD A)).2 (ste (qG A) (gv (qG A) (qD A) a b)).2 = 0 ↔ x = 1) := by
      rw [he, hs]
      by_cases y : hrm (qG A) (ste (qG A) (qD A)).2 (ste (qG A) (gv (qG A) (qD A) a b)).2 = 0
      · rw [if_pos y]
        rcases hx with z | z
        · rw [z, if_pos rfl]
          exact ⟨fun w => absurd w (by decide), fun w => absurd (w.mp y) (by decide)⟩
        · rw [z, if_neg i10]
          exact ⟨fun _ => ⟨fun _ => rfl, fun _ => y⟩, fun _ => rfl⟩
      · rw [if_neg y]
        rcases hx with z | z
        · rw [z, if_pos rfl]
          exact ⟨fun _ => ⟨fun w => absurd w y, fun w => absurd w (by decide)⟩, fun _ => rfl⟩
        · rw [z, if_neg i10]
          exact ⟨fun w => absurd w (by decide), fun w => absurd (w.mpr rfl) y⟩
    by_cases y : hf = s2
    · rw [if_pos y]
      refine gt_cs (u_bars hA hT ht ha hb hab) (fun v U hU => ?_)
      obtain ⟨g, e⟩ := hU
      simp only at g e
      have y' := eq.mp y
      have fin : ∀ w : Int32, w = wb A x t a b → gt (k75 (c + w, nn b + 1, U)) P := fun w hw => by rw [hw]; exact hk U g
      have bb : ∀ q : Bool, q = decide (x = 1) → gt (if v = ib q then k75 (c + 1, nn b + 1, U) else k75 (c + 0, nn b + 1, U)) P := fun q hq => by
        by_cases z : barV A t a b = q
        · rw [e, z, if_pos rfl]
          exact fin 1 (by unfold wb; rw [if_pos ⟨z.trans hq, y'⟩])
        · rw [e, if_neg (by intro w; apply z; revert w; cases barV A t a b <;> cases q <;> intro w <;> first | rfl | exact absurd w (by decide))]
          exact fin 0 (by unfold wb; rw [if_neg (fun w => z (w.1.trans hq.symm))])
      by_cases z : x = 1
      · rw [if_pos z]
        exact bb true (by rw [z]; rfl)
      · rw [if_neg z]
        exact bb false (by simp [z])
    · rw [if_neg y]
      have := hk T (fk_r T)
      rw [show wb A x t a b = 0 from by unfold wb; rw [if_neg (fun w => y (eq.mpr w.2))]] at this
      exact this
  unfold n_wrong_123
  by_cases z : x = 0
  · rw [if_pos z]; exact key 1 (by rw [if_pos z])
  · rw [if_neg z]; exact key 0 (by rw [if_neg z])
theorem u_wrongIn {A : rA} {T : gx_S} (hA : RA A) (hT : RT A T) (h21 : ∀ s, s < nS (qG A) → T 21 s = spa (qG A) (ste (qG A) (qD A)).2 s) {x x3 : Int32} (hx : x = 0 ∨ x = 1) {t a : Nat} (ht : t < qc A) (ha : a < nO (qG A)) (c : Int32) (k56 : Int32 × Int32 × gx_S → Option (Int32 × gx_S)) (P : Int32 × gx_S → Prop) (hk : ∀ U, fO T U → uD (qD A) U → (∀ s, s < nS (qG A) → U 21 s = spa (qG A) (ste (qG A) (qD A)).2 s) → gt (k56 (c + wr A x t a (nO (qG A)), nn (a + 1), U)) P) : gt (gx_loop (n_wrong_75 k56 (nn t) x x3 (nn a)) 5000 (c, nn a + 1, T)) P := by
  have hO := (wG_O hA.1).2
  have hc := hA.2.2.2.2.1
  rw [nn_s]
  refine gt_for (nO (qG A)) (fun b τ => a < b ∧ τ.1 = c + wr A x t a b ∧ τ.2.1 = nn b ∧ fO T τ.2.2 ∧ uD (qD A) τ.2.2 ∧ (∀ s, s < nS (qG A) → τ.2.2 21 s = spa (qG A) (ste (qG A) (qD A)).2 s)) ?_ ?_ (a + 1) 5000 _ (by omega) ⟨by omega, by rw [wr_0, Int32.add_zero], rfl, fO_r T, hT.2.1, h21⟩ (by omega)
  · rintro b ⟨_, _, U⟩ k hb ⟨hab, rfl, rfl, f, d, s⟩ hkk
    simp only at f d s
    simp only [n_wrong_75]
    have hU := RT_O hT f d
    have pU' := pU_R hA hU
    have e1 : U 0 0 = nn (nO (qG A)) := (RT_c hA hU).1
    rw [e1, if_neg (show ¬ nn (nO (qG A)) ≤ nn b by rw [nn_le (by omega) (by omega)]; omega), u_fitsO pU', cp_s]
    have nx : ∀ V w, fO U V → uD (qD A) V → (∀ s, s < nS (qG A) → V 21 s = spa (qG A) (ste (qG A) (qD A)).2 s) → w = wv A x t a b → gt (k (c + wr A x t a b + w, nn b + 1, V)) P := fun V w f' d' s' hw => by
      rw [nn_s]
      refine hkk _ ⟨by omega, ?_, rfl, fO_t f f', d', s'⟩
      simp only
      rw [wr_s hab, hw, Int32.add_assoc]
    unfold n_wrong_171
    by_cases c3 : cnt (qG A) (qD A) a + cnt (qG A) (qD A) b ≤ 3
    · rw [if_pos c3, if_neg i10]
      have hg := wD_gv hA.2.2.1 hO ha hb (by omega) c3
      refine gt_cs (u_beh pU' hA.2.2.1 hg) (fun v V hV => ?_)
      obtain ⟨e2, g2, p2, _, t22, t21⟩ := hV
      simp only at e2 g2 p2 t22 t21
      have s2 : ∀ s, s < nS (qG A) → V 21 s = spa (qG A) (ste (qG A) (qD A)).2 s := fun i hi => (t21 i).trans (s i hi)
      rw [e2]
      by_cases y : (ste (qG A) (gv (qG A) (qD A) a b)).1 = -1
      · rw [if_pos y, if_pos rfl]
        have := nx V 0 (fM_O g2) p2.2.2.2.1 s2 (by unfold wv; rw [if_pos c3, if_pos y])
        rw [Int32.add_zero] at this
        exact this
      · rw [if_neg y, if_neg i10, u_harmNow p2 (B := (ste (qG A) (qD A)).2) (E := (ste (qG A) (gv (qG A) (qD A) a b)).2) s2 t22, cp_s, if_pos rfl]
        have p1 := (hrm_p hA.1 (wD_ste hA.1 hA.2.2.1) (wD_ste hA.1 hg)).2
        have hV := RT_O hU (fM_O g2) p2.2.2.2.1
        have last : ∀ U', fk V U' → gt (k (c + wr A x t a b + wb A x t a b, nn b + 1, U')) P := fun U' g' => by
          refine nx U' _ (fO_t (fM_O g2) (fk_O g')) (uD_k p2.2.2.2.1 g') (fun i hi => ?_) (by unfold wv; rw [if_pos c3, if_neg y])
          rw [g' _ _ (by omega) (by omega) (by omega) (by omega) (by omega)]
          exact s2 i hi
        by_cases z : hrm (qG A) (ste (qG A) (qD A)).2 (ste (qG A) (gv (qG A) (qD A) a b)).2 ≤ 0
        · rw [if_pos z]
          exact u_123 hA hV hx ht ha hb (by omega) _ (by rw [if_pos (p1.mp z)]) k56 k P last
        · rw [if_neg z]
          exact u_123 hA hV hx ht ha hb (by omega) _ (by rw [if_neg (fun w => z (p1.mpr w))]) k56 k P last
    · rw [if_neg c3, if_pos rfl]
      have := nx U 0 (fO_r U) d s (by unfold wv; rw [if_neg c3])
      rw [Int32.add_zero] at this
      exact this
  · rintro ⟨_, _, U⟩ k ⟨_, rfl, rfl, f, d, s⟩
    simp only at f d s
    simp only [n_wrong_75]
    have e1 : U 0 0 = nn (nO (qG A)) := (RT_c hA (RT_O hT f d)).1
    rw [e1, if_pos (Int32.le_refl _), nn_s]
    exact hk U f d s
theorem u_wrong {A : rA} {T : gx_S} (hA : RA A) (hT : RT A T) (h21 : ∀ s, s < nS (qG A) → T 21 s = spa (qG A) (ste (qG A) (qD A)).2 s) {x x3 : Int32} (hx : x = 0 ∨ x = 1) {t : Nat} (ht : t < qc A) : gt (gx_loop (n_wrong_56 (nn t) x x3) 5000 (0, 0, T)) fun r => r.1 = (if x3 = 0 then 0 else wt A x t (nO (qG A))) ∧ fO T r.2 ∧ uD (qD A) r.2 := by
  have hO := (wG_O hA.1).2
  by_cases z : x3 = 0
  · rw [if_pos z, gx_loop_s]
    simp only [n_wrong_56]
    by_cases y : T 0 0 ≤ 0
    · rw [if_pos y]; exact gt_some ⟨rfl, fO_r T, hT.2.1⟩
    · rw [if_neg y, if_pos z]; exact gt_some ⟨rfl, fO_r T, hT.2.1⟩
  · rw [if_neg z]
    refine gt_for (nO (qG A)) (fun a τ => τ.1 = wt A x t a ∧ τ.2.1 = nn a ∧ fO T τ.2.2 ∧ uD (qD A) τ.2.2 ∧ (∀ s, s < nS (qG A) → τ.2.2 21 s = spa (qG A) (ste (qG A) (qD A)).2 s)) ?_ ?_ 0 5000 _ (by omega) ⟨rfl, rfl, fO_r T, hT.2.1, h21⟩ (by omega)
    · rintro a ⟨_, _, U⟩ k ha ⟨rfl, rfl, f, d, s⟩ hkk
      simp only at f d s
      simp only [n_wrong_56]
      have hU := RT_O hT f d
      have e1 : U 0 0 = nn (nO (qG A)) := (RT_c hA hU).1
      rw [e1, if_neg (show ¬ nn (nO (qG A)) ≤ nn a by rw [nn_le (by omega) (by omega)]; omega), if_neg z]
      exact u_wrongIn hA hU s hx ht ha _ k _ (fun V f' d' s' => hkk _ ⟨rfl, rfl, fO_t f f', d', s'⟩)
    · rintro ⟨_, _, U⟩ k ⟨rfl, rfl, f, d, s⟩
      simp only at f d s
      simp only [n_wrong_56]
      have e1 : U 0 0 = nn (nO (qG A)) := (RT_c hA (RT_O hT f d)).1
      rw [e1, if_pos (Int32.le_refl _)]
      exact gt_some ⟨rfl, f, d⟩
theorem st_wrong {S T : gx_S} (h : RR S T) (x y : Int32) : cSS (m_ShopsAsOne_wrong x y S) (n_wrong x y T) := by
  obtain ⟨A, hA, hS, hT, hK⟩ := id h
  have hO := (wG_O hA.1).2
  have hc := hA.2.2.2.2.1
  have hw6 := hA.2.2.2.2.2.1
  have eS : S 0 11 = nn (qw A) := hS.2.2.2.2.1
  have eT : T 0 16 = nn (qw A) := hT.2.2.2.2.2.1
  unfold m_ShopsAsOne_wrong n_wrong
  rcases chkT (by omega) hS.2.2.2.1 hT.2.2.2.2.1 x with ⟨t, ht, rfl, h3, h4⟩ | ⟨h3, h4⟩
  · rw [h3, h4, cp_s, cp_s, if_pos rfl, if_neg i10]
    rcases chkR y 0 1 S T with ⟨hy, k3, k4⟩ | ⟨k3, k4⟩
    · rw [k3, k4, cp_s, cp_s, if_pos rfl, if_neg i10, eS, eT]
      have hx : y = 0 ∨ y = 1 := by
        obtain ⟨w1, w2⟩ := hy
        lia
      by_cases c6 : qw A < 6
      · rw [if_pos (show nn (qw A) < (6 : Int32) by rw [show (6 : Int32) = nn 6 from rfl, nn_lt (by omega) (by omega)]; exact c6), if_neg (show ¬ nn (qw A) = (6 : Int32) by rw [show (6 : Int32) = nn 6 from rfl, nn_eq (by omega) (by omega)]; omega), nn_s, let_s, let_s]
        obtain ⟨A', hA'e⟩ : ∃ A' : rA, A' = (qG A, qD A, qn A, qL A, qc A, qtn A, qtL A, qw A + 1) := ⟨_, rfl⟩
        have q1 : qG A' = qG A := by rw [hA'e]; rfl
        have q2 : qD A' = qD A := by rw [hA'e]; rfl
        have q3 : qc A' = qc A := by rw [hA'e]; rfl
        have hA' : RA A' := by
          rw [hA'e]
          refine ⟨hA.1, hA.2.1, hA.2.2.1, hA.2.2.2.1, hA.2.2.2.2.1, ?_, hA.2.2.2.2.2.2⟩
          show qw A + 1 ≤ 6
          omega
        have hS' : RS A' (gx_st S 0 11 (nn (qw A + 1))) := by
          rw [hA'e]
          obtain ⟨h1, h2, h3, h4, h5, h6⟩ := hS
          refine ⟨⟨fun q j a b => (gx_st_q _ _ _ _ (by omega)).trans (h1.1 q j a b), fun s k hs hk => (gx_st_q _ _ _ _ (by omega)).trans (h1.2 s k hs hk)⟩, vD_f h2 (fun q j a b => gx_st_q _ _ _ _ (by omega)), ⟨h3.1, ?_, fun j hj => ?_⟩, ?_, gx_st_eq _ _ _ _, fun t ht => ⟨(h6 t ht).1, ?_, fun j hj => ?_⟩⟩
          · rw [gx_st_q _ _ _ _ (by omega)]; exact h3.2.1
          · rw [gx_st_q _ _ _ _ (by omega)]; exact h3.2.2 j hj
          · rw [gx_st_j _ _ _ (by omega)]; exact h4
          · rw [gx_st_q _ _ _ _ (by omega)]; exact (h6 t ht).2.1
          · rw [gx_st_q _ _ _ _ (by omega)]; exact (h6 t ht).2.2 j hj
        have hT' : RT A' (gx_st T 0 16 (nn (qw A + 1))) := by
          rw [hA'e]
          obtain ⟨⟨⟨a1, a2, a3⟩, b, c, d⟩, h2, h3, h4, h5, h6, h7⟩ := hT
          have g : ∀ q j, (q ≠ 0 ∨ j ≠ 16) → gx_st T 0 16 (nn (qw A + 1)) q j = T q j := fun q j z => by
            by_cases w : q = 0
            · subst w; exact gx_st_j _ _ _ (by omega)
            · exact gx_st_q _ _ _ _ w
          refine ⟨⟨⟨?_, ?_, ?_⟩, fun o ho => ?_, fun k hk => ?_, fun s i hs hi => ?_⟩, fun j hj => ?_, ?_, ⟨h4.1, ?_, fun j hj => ?_⟩, ?_, gx_st_eq _ _ _ _, fun t ht => ⟨(h7 t ht).1, ?_, fun j hj => ?_⟩⟩
          · rw [g _ _ (by omega)]; exact a1
          · rw [g _ _ (by omega)]; exact a2
          · rw [g _ _ (by omega)]; exact a3
          · rw [g _ _ (by omega), g _ _ (by omega)]; exact b o ho
          · rw [g _ _ (by omega), g _ _ (by omega)]; exact c k hk
          · rw [g _ _ (by omega)]; exact d s i hs hi
          · rw [g _ _ (by omega), g _ _ (by omega), g _ _ (by omega)]; exact h2 j hj
          · rw [g _ _ (by omega)]; exact h3
          · rw [g _ _ (by omega)]; exact h4.2.1
          · rw [g _ _ (by omega)]; exact h4.2.2 j hj
          · rw [g _ _ (by omega)]; exact h5
          · rw [g _ _ (by omega)]; exact (h7 t ht).2.1
          · rw [g _ _ (by omega)]; exact (h7 t ht).2.2 j hj
        have hK' : RK (qG A') (gx_st S 0 11 (nn (qw A + 1))) (gx_st T 0 16 (nn (qw A + 1))) := by
          rw [q1]
          refine RK_f hK (fun q j hq => ?_) (fun q j hq => ?_)
          · rcases hq with ⟨rfl, hq⟩ | hq
            · exact gx_st_j _ _ _ (by omega)
            · exact gx_st_q _ _ _ _ (by omega)
          · rcases hq with ⟨rfl, hq⟩ | hq
            · exact gx_st_j _ _ _ (by omega)
            · exact gx_st_q _ _ _ _ (by omega)
        obtain ⟨S5, hS5⟩ : ∃ S5, S5 = gx_st S 0 11 (nn (qw A + 1)) := ⟨_, rfl⟩
        obtain ⟨T5, hT5⟩ : ∃ T5, T5 = gx_st T 0 16 (nn (qw A + 1)) := ⟨_, rfl⟩
        rw [← hS5] at hS' hK' ⊢
        rw [← hT5] at hT' hK' ⊢
        rw [← q3] at ht
        clear hS5 hT5 hA'e
        have right : ∀ S' v, fP S5 S' → v = (if (ste (qG A') (qD A')).1 = -1 then 0 else wt A' y t (nO (qG A'))) → gt (gx_cs (n_layBefore T5) fun v9 S8 => gx_loop (n_wrong_56 (nn t) y v9) 5000 (0, 0, S8)) fun r' => v = r'.1 ∧ RR S' r'.2 := fun S' v fp hv => by
          refine gt_cs (u_layBefore (pU_R hA' hT') hA'.2.2.1) (fun v' T1 hT1 => ?_)
          obtain ⟨e2, g1, p1, t21⟩ := hT1
          simp only at e2 g1 p1 t21
          refine gt_mono (u_wrong (x3 := v') hA' (RT_O hT' (fM_O g1) p1.2.2.2.1) t21 hx ht) (fun r hr => ?_)
          obtain ⟨r1, r2, r3⟩ := hr
          refine ⟨?_, RR_O hA' hS' hT' hK' fp (fO_t (fM_O g1) r2) r3⟩
          rw [r1, hv, e2]
          by_cases q : (ste (qG A') (qD A')).1 = -1
          · rw [if_pos q, if_pos q, if_pos rfl]
          · rw [if_neg q, if_neg q, if_neg i10]
        refine gt_cs (x_before hA' hS') (fun v S1 hS1 => ?_)
        obtain ⟨e1, f1, b1⟩ := hS1
        simp only at e1 f1 b1
        rw [e1]
        by_cases q : (ste (qG A') (qD A')).1 = -1
        · rw [if_pos q, if_pos rfl]
          exact gt_some (right S1 0 (fJ_P f1) (by rw [if_pos q]))
        · rw [if_neg q, if_neg i10]
          refine gt_mono (x_wrong (x := y) hA' (RS_P hA'.1 hA'.2.2.2.2.1 hS' (fJ_P f1)) (b1 q) ht) (fun r hr => ?_)
          obtain ⟨r1, r2⟩ := hr
          exact right r.2 r.1 (fP_t (fJ_P f1) r2) (by rw [if_neg q]; exact r1)
      · rw [if_neg (show ¬ nn (qw A) < (6 : Int32) by rw [show (6 : Int32) = nn 6 from rfl, nn_lt (by omega) (by omega)]; exact c6), if_pos (show nn (qw A) = (6 : Int32) by rw [show (6 : Int32) = nn 6 from rfl, nn_eq (by omega) (by omega)]; omega)]
        exact cSS_s h
    · rw [k3, k4, cp_s, cp_s, if_neg i10, if_pos rfl]; exact cSS_s h
  · rw [h3, h4, cp_s, cp_s, if_neg i10, if_pos rfl]; exact cSS_s h

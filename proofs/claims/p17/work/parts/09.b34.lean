/-! b34: what rests before and behind -/
theorem x_before {A : rA} {S : gx_S} (hA : RA A) (hS : RS A S) : gt (m_Joining_restsBefore 0 S) fun t => t.1 = (if (ste (qG A) (qD A)).1 = -1 then 0 else 1) ∧ fJ S t.2 ∧ (¬ (ste (qG A) (qD A)).1 = -1 → sB (qG A) (ste (qG A) (qD A)).2 t.2) := x_restsBefore (pX_R hA hS) hA.2.2.1 (by omega)
theorem fJ_P {S T : gx_S} (f : fJ S T) : fP S T := fX_P (fJ_X f)
theorem fK_P {S T : gx_S} (f : fK S T) : fP S T := fX_P (fK_X f)
/-- the reference's merged pair, all as it was behind it -/
theorem u_beh {G D T : gx_S} {a b : Nat} {y : Int32} (p : pU G D (-1) T) (hw : wD G D) (hg : wD G (gv G D a b)) : gt (n_layBehind (nn a) (nn b) (-1) y 0 (-1) T) fun t => t.1 = (if (ste G (gv G D a b)).1 = -1 then 0 else 1) ∧ fM T t.2 ∧ pU G D (-1) t.2 ∧ t.2 0 34 = (ste G (gv G D a b)).1 ∧ (∀ s, s < nS G → t.2 22 s = spa G (ste G (gv G D a b)).2 s) ∧ ∀ s, t.2 21 s = T 21 s := by
  have h := u_layBehind (m := 0) (a := a) (b := b) (x := -1) (y := y) p hw (by decide) (wD_0 hg) (by rw [sx2_0]; exact hg)
  rw [sx2_0] at h
  exact h
theorem st_dearer {S T : gx_S} (h : RR S T) (x y z : Int32) : cSS (m_ShopsAsOne_dearer x y z S) (n_dearer x y z T) := by
  obtain ⟨A, hA, hS, hT, hK⟩ := id h
  have hO := (wG_O hA.1).2
  have hN := (wG_S hA.1).2
  have pS := pX_R hA hS
  have pT := pU_R hA hT
  unfold m_ShopsAsOne_dearer n_dearer n_dearer_54
  rcases chkTwo (by omega) (RS_c hA hS).1 (RT_c hA hT).1 x y with ⟨a, b, h1, h2, hab, rfl, rfl, h3, h4⟩ | ⟨h3, h4⟩
  · rw [h3, h4, cp_s, cp_s, if_pos rfl, if_neg i10]
    rcases chkS (by omega) (RS_c hA hS).2.2 (RT_c hA hT).2.2 z with ⟨s, k1, rfl, k3, k4⟩ | ⟨k3, k4⟩
    · rw [k3, k4, cp_s, cp_s, if_pos rfl, if_neg i10]
      rcases chkM pS pT a b with ⟨c3, g3, g4⟩ | ⟨_, g3, g4⟩
      · rw [g3, g4, cp_s, cp_s, if_pos rfl, if_neg i10]
        have hg := wD_gv hA.2.2.1 hO h1 h2 hab c3
        refine gt_cs (x_before hA hS) (fun v S1 hS1 => ?_)
        obtain ⟨e1, f1, b1⟩ := hS1
        simp only at e1 f1 b1
        rw [e1]
        have pS1 := pX_J pS (by omega) f1
        by_cases q : (ste (qG A) (qD A)).1 = -1
        · rw [if_pos q, if_pos rfl]
          refine gt_some (gt_cs (u_layBefore pT hA.2.2.1) (fun v' T1 hT1 => ?_))
          obtain ⟨e2, g1, p1, _⟩ := hT1
          simp only at e2 g1 p1
          rw [e2, if_pos q, if_pos rfl]
          unfold n_dearer_55
          rw [if_pos rfl]
          exact gt_some ⟨rfl, RR_M hA hS hT hK (fJ_P f1) g1 p1.2.2.2.1⟩
        · rw [if_neg q, if_neg i10]
          refine gt_cs (x_roundsBehind pS1 hA.2.2.1 (by omega) (by omega) (by omega) hg) (fun v2 S2 hS2 => ?_)
          obtain ⟨e3, f3, p3⟩ := hS2
          simp only at e3 f3 p3
          rw [e3]
          have b3 := sB_K (b1 q) f3
          have fp : fP S S2 := fP_t (fJ_P f1) (fK_P f3)
          have right : ∀ v : Int32, v = (if (ste (qG A) (gv (qG A) (qD A) a b)).1 = -1 then -1002 else dr (qG A) (ste (qG A) (qD A)).2 (ste (qG A) (gv (qG A) (qD A) a b)).2 s) → gt (gx_cs (n_layBefore T) fun v9 S8 => if v9 = 0 then n_dearer_55 (nn s) 0 S8 else gx_cs (n_layBehind (nn a) (nn b) (-1) (-1) 0 (-1) S8) fun v12 S11 => if v12 = 0 then n_dearer_55 (nn s) 0 S11 else n_dearer_55 (nn s) 1 S11) fun r' => v = r'.1 ∧ RR S2 r'.2 := fun v hv => by
            refine gt_cs (u_layBefore pT hA.2.2.1) (fun v' T1 hT1 => ?_)
            obtain ⟨e2, g1, p1, t21⟩ := hT1
            simp only at e2 g1 p1 t21
            rw [e2, if_neg q, if_neg i10]
            refine gt_cs (u_beh p1 hA.2.2.1 hg) (fun v2 T2 hT2 => ?_)
            obtain ⟨e4, g4, p4, _, t22, t21'⟩ := hT2
            simp only at e4 g4 p4 t22 t21'
            rw [e4]
            unfold n_dearer_55
            by_cases q2 : (ste (qG A) (gv (qG A) (qD A) a b)).1 = -1
            · rw [if_pos q2] at hv
              rw [if_pos q2, if_pos rfl, if_pos rfl]
              exact gt_some ⟨hv, RR_M hA hS hT hK fp (fM_t g1 g4) p4.2.2.2.1⟩
            · rw [if_neg q2] at hv
              rw [if_neg q2, if_neg i10, if_neg i10, ck_n (by omega) (by omega), nn_c (by omega), t21', t21 s k1, t22 s k1]
              exact gt_some ⟨hv, RR_M hA hS hT hK fp (fM_t g1 g4) p4.2.2.2.1⟩
          by_cases q2 : (ste (qG A) (gv (qG A) (qD A) a b)).1 = -1
          · rw [if_pos q2]
            exact gt_some (right _ (by rw [if_pos q2]))
          · rw [if_neg q2, x_dearerFor p3 b3 k1, cp_s]
            exact gt_some (right _ (by rw [if_neg q2]))
      · rw [g3, g4, cp_s, cp_s, if_neg i10, if_pos rfl]
        unfold n_dearer_55
        rw [if_pos rfl]
        exact cSS_s h
    · rw [k3, k4, cp_s, cp_s, if_neg i10, if_pos rfl]; exact cSS_s h
  · rw [h3, h4, cp_s, cp_s, if_neg i10, if_pos rfl]; exact cSS_s h
theorem st_harm {S T : gx_S} (h : RR S T) (x y z : Int32) : cSS (m_ShopsAsOne_harm x y z S) (n_harm x y z T) := by
  obtain ⟨A, hA, hS, hT, hK⟩ := id h
  have hO := (wG_O hA.1).2
  have hN := (wG_S hA.1).2
  have pS := pX_R hA hS
  have pT := pU_R hA hT
  unfold m_ShopsAsOne_harm n_harm
  rcases chkTwo (by omega) (RS_c hA hS).1 (RT_c hA hT).1 x y with ⟨a, b, h1, h2, hab, rfl, rfl, h3, h4⟩ | ⟨h3, h4⟩
  · rw [h3, h4, cp_s, cp_s, if_pos rfl, if_neg i10]
    rcases chkR z 0 2 S T with ⟨hz, k3, k4⟩ | ⟨k3, k4⟩
    · rw [k3, k4, cp_s, cp_s, if_pos rfl, if_neg i10]
      rcases chkM pS pT a b with ⟨c3, g3, g4⟩ | ⟨_, g3, g4⟩
      · rw [g3, g4, cp_s, cp_s, if_pos rfl, if_neg i10]
        have hg := wD_gv hA.2.2.1 hO h1 h2 hab c3
        refine gt_cs (x_before hA hS) (fun v S1 hS1 => ?_)
        obtain ⟨e1, f1, b1⟩ := hS1
        simp only at e1 f1 b1
        rw [e1]
        have pS1 := pX_J pS (by omega) f1
        by_cases q : (ste (qG A) (qD A)).1 = -1
        · rw [if_pos q, if_pos rfl]
          refine gt_some (gt_cs (u_layBefore pT hA.2.2.1) (fun v' T1 hT1 => ?_))
          obtain ⟨e2, g1, p1, _⟩ := hT1
          simp only at e2 g1 p1
          rw [e2, if_pos q, if_pos rfl]
          exact gt_some ⟨rfl, RR_M hA hS hT hK (fJ_P f1) g1 p1.2.2.2.1⟩
        · rw [if_neg q, if_neg i10]
          refine gt_cs (x_roundsBehind pS1 hA.2.2.1 (by omega) (by omega) (by omega) hg) (fun v2 S2 hS2 => ?_)
          obtain ⟨e3, f3, p3⟩ := hS2
          simp only at e3 f3 p3
          rw [e3]
          have b3 := sB_K (b1 q) f3
          have fp : fP S S2 := fP_t (fJ_P f1) (fK_P f3)
          have right : ∀ v : Int32, v = (if (ste (qG A) (gv (qG A) (qD A) a b)).1 = -1 then -1 else if z = 2 then (ste (qG A) (gv (qG A) (qD A) a b)).1 else if z = 1 then hsm (qG A) (ste (qG A) (qD A)).2 (ste (qG A) (gv (qG A) (qD A) a b)).2 else hrm (qG A) (ste (qG A) (qD A)).2 (ste (qG A) (gv (qG A) (qD A) a b)).2) → gt (gx_cs (n_layBefore T) fun v9 S8 => if v9 = 0 then some ((-1), S8) else gx_cs (n_layBehind (nn a) (nn b) (-1) (-1) 0 (-1) S8) fun v12 S11 => if v12 = 0 then some ((-1), S11) else if z = 2 then some (S11 0 34, S11) else if z = 1 then n_harm_81 1 S11 else n_harm_81 0 S11) fun r' => v = r'.1 ∧ RR S2 r'.2 := fun v hv => by
            refine gt_cs (u_layBefore pT hA.2.2.1) (fun v' T1 hT1 => ?_)
            obtain ⟨e2, g1, p1, t21⟩ := hT1
            simp only at e2 g1 p1 t21
            rw [e2, if_neg q, if_neg i10]
            refine gt_cs (u_beh p1 hA.2.2.1 hg) (fun v2 T2 hT2 => ?_)
            obtain ⟨e4, g4, p4, t34, t22, t21'⟩ := hT2
            simp only at e4 g4 p4 t34 t22 t21'
            rw [e4]
            have fin := RR_M hA hS hT hK fp (fM_t g1 g4) p4.2.2.2.1
            by_cases q2 : (ste (qG A) (gv (qG A) (qD A) a b)).1 = -1
            · rw [if_pos q2] at hv
              rw [if_pos q2, if_pos rfl]
              exact gt_some ⟨hv, fin⟩
            · rw [if_neg q2] at hv
              rw [if_neg q2, if_neg i10]
              have hh := u_harmNow p4 (B := (ste (qG A) (qD A)).2) (E := (ste (qG A) (gv (qG A) (qD A) a b)).2) (fun s hs => by rw [t21']; exact t21 s hs) t22
              by_cases z2 : z = 2
              · rw [if_pos z2] at hv ⊢
                exact gt_some ⟨by rw [hv, ← t34], fin⟩
              · rw [if_neg z2] at hv ⊢
                by_cases z1 : z = 1
                · rw [if_pos z1] at hv ⊢
                  unfold n_harm_81
                  rw [hh, if_neg i10, cp_s]
                  exact gt_some ⟨hv, fin⟩
                · rw [if_neg z1] at hv ⊢
                  unfold n_harm_81
                  rw [hh, if_pos rfl, cp_s]
                  exact gt_some ⟨hv, fin⟩
          by_cases q2 : (ste (qG A) (gv (qG A) (qD A) a b)).1 = -1
          · rw [if_pos q2]
            exact gt_some (right _ (by rw [if_pos q2]; exact q2))
          · rw [if_neg q2]
            by_cases z2 : z = 2
            · rw [if_pos z2]
              exact gt_some (right _ (by rw [if_neg q2, if_pos z2]))
            · rw [if_neg z2]
              by_cases z0 : z = 0
              · rw [if_pos z0, x_harmInAll p3 b3, cp_s]
                exact gt_some (right _ (by rw [if_neg q2, if_neg z2, if_neg (by rw [z0]; decide)]))
              · have z1 : z = 1 := by
                  obtain ⟨w1, w2⟩ := hz
                  lia
                rw [if_neg z0, x_sortsHarmed p3 b3, cp_s]
                exact gt_some (right _ (by rw [if_neg q2, if_neg z2, if_pos z1]))
      · rw [g3, g4, cp_s, cp_s, if_neg i10, if_pos rfl]; exact cSS_s h
    · rw [k3, k4, cp_s, cp_s, if_neg i10, if_pos rfl]; exact cSS_s h
  · rw [h3, h4, cp_s, cp_s, if_neg i10, if_pos rfl]; exact cSS_s h
theorem st_soldOff {S T : gx_S} (h : RR S T) (x y z t : Int32) : cSS (m_ShopsAsOne_soldOff x y z t S) (n_soldOff x y z t T) := by
  obtain ⟨A, hA, hS, hT, hK⟩ := id h
  have hO := (wG_O hA.1).2
  have hP := (wG_P hA.1).2
  have pS := pX_R hA hS
  have pT := pU_R hA hT
  unfold m_ShopsAsOne_soldOff n_soldOff
  rcases chkTwo (by omega) (RS_c hA hS).1 (RT_c hA hT).1 x y with ⟨a, b, h1, h2, hab, rfl, rfl, h3, h4⟩ | ⟨h3, h4⟩
  · rw [h3, h4, cp_s, cp_s, if_pos rfl, if_neg i10]
    -- c, as each side asks for it
    have two : ∀ u v, u < nO (qG A) → (∃ c, c < nO (qG A) ∧ u ≠ c ∧ v = nn c ∧ m_ShopsAsOne_areNotTwo (nn u) v S = some 0) ∨ (m_ShopsAsOne_areNotTwo (nn u) v S = some 1 ∧ (n_isOwner v T = some 0 ∨ n_isOwner v T = some 1 ∧ v = nn u)) := fun u v hu => by
      rcases chkTwo (by omega) (RS_c hA hS).1 (RT_c hA hT).1 (nn u) v with ⟨a', c, i1, i2, i3, i4, i5, i6, _⟩ | ⟨i6, _⟩
      · rw [nn_eq (by omega) (by omega)] at i4
        subst i4
        exact Or.inl ⟨c, i2, i3, i5, i6⟩
      · refine Or.inr ⟨i6, ?_⟩
        rcases chkO (by omega) (RS_c hA hS).1 (RT_c hA hT).1 v with ⟨c, j1, j2, j3, j4⟩ | ⟨j3, j4⟩
        · refine Or.inr ⟨j4, ?_⟩
          rcases Nat.lt_trichotomy u c with w | w | w
          · exfalso
            rcases chkO (by omega) (RS_c hA hS).1 (RT_c hA hT).1 (nn u) with ⟨_, _, _, l3, _⟩ | ⟨l3, l4⟩
            · unfold m_ShopsAsOne_areNotTwo m_ShopsAsOne_areNotTwo_21 at i6
              rw [l3, j3, cp_s, if_pos rfl, cp_s, if_pos rfl, j2, if_neg (by rw [nn_eq (by omega) (by omega)]; omega)] at i6
              exact absurd (Option.some.inj i6) (by decide)
            · rcases chk (n := nO (qG A)) (by omega) (nn u) S T with ⟨_, _, _, m3, _⟩ | ⟨m3, m4⟩
              · unfold m_ShopsAsOne_isNoOwner at l3
                rw [(RS_c hA hS).1, m3] at l3
                exact absurd (Option.some.inj ((bz_0 (k := some (0 : Int32))).symm.trans l3)) (by decide)
              · rw [u_within, if_neg (by rw [nn_0, nn_lt (by omega) (by omega)]; omega), nn_p (by omega), if_neg (by rw [nn_lt (by omega) (by omega)]; omega)] at m4
                exact absurd (Option.some.inj m4) (by decide)
          · rw [j2, w]
          · exfalso
            rcases chkO (by omega) (RS_c hA hS).1 (RT_c hA hT).1 (nn u) with ⟨_, _, _, l3, _⟩ | ⟨l3, l4⟩
            · unfold m_ShopsAsOne_areNotTwo m_ShopsAsOne_areNotTwo_21 at i6
              rw [l3, j3, cp_s, if_pos rfl, cp_s, if_pos rfl, j2, if_neg (by rw [nn_eq (by omega) (by omega)]; omega)] at i6
              exact absurd (Option.some.inj i6) (by decide)
            · rcases chk (n := nO (qG A)) (by omega) (nn u) S T with ⟨_, _, _, m3, _⟩ | ⟨m3, m4⟩
              · unfold m_ShopsAsOne_isNoOwner at l3
                rw [(RS_c hA hS).1, m3] at l3
                exact absurd (Option.some.inj ((bz_0 (k := some (0 : Int32))).symm.trans l3)) (by decide)
              · rw [u_within, if_neg (by rw [nn_0, nn_lt (by omega) (by omega)]; omega), nn_p (by omega), if_neg (by rw [nn_lt (by omega) (by omega)]; omega)] at m4
                exact absurd (Option.some.inj m4) (by decide)
        · exact Or.inl j4
    have unk : n_isOwner z T = some 0 ∨ n_isOwner z T = some 1 ∧ (z = nn a ∨ z = nn b) → (∃ X, (gx_cp (n_isOwner z T) fun v4 => if v4 = 0 then some ((-101), T) else if z = nn a then some ((-101), T) else if z = nn b then some ((-101), T) else X) = some (-101, T)) ∨ True := fun _ => Or.inr trivial
    have unk2 : ∀ X : Option (Int32 × gx_S), n_isOwner z T = some 0 ∨ n_isOwner z T = some 1 ∧ (z = nn a ∨ z = nn b) → (gx_cp (n_isOwner z T) fun v4 => if v4 = 0 then some ((-101), T) else if z = nn a then some ((-101), T) else if z = nn b then some ((-101), T) else X) = some (-101, T) := fun X hx => by
      rcases hx with e | ⟨e, e2 | e2⟩
      · rw [e, cp_s, if_pos rfl]
      · rw [e, cp_s, if_neg i10, if_pos e2]
      · rw [e, cp_s, if_neg i10]
        by_cases z1 : z = nn a
        · rw [if_pos z1]
        · rw [if_neg z1, if_pos e2]
    rcases two a z h1 with ⟨c, hc, hac, rfl, m1⟩ | ⟨m1, mr⟩
    · rcases two b (nn c) h2 with ⟨c', hc', hbc, ec, m2⟩ | ⟨m2, mr⟩
      · rw [nn_eq (by omega) (by omega)] at ec
        subst ec
        rcases chkO (by omega) (RS_c hA hS).1 (RT_c hA hT).1 (nn c) with ⟨_, _, _, _, l4⟩ | ⟨l3, l4⟩
        · rw [m1, m2, l4, cp_s, cp_s, cp_s, if_pos rfl, if_pos rfl, if_neg i10, if_neg (show ¬ nn c = nn a by rw [nn_eq (by omega) (by omega)]; omega), if_neg (show ¬ nn c = nn b by rw [nn_eq (by omega) (by omega)]; omega)]
          rcases chkR t 0 9 S T with ⟨ht, k3, k4⟩ | ⟨k3, k4⟩
          · rw [k3, k4, cp_s, cp_s, if_pos rfl, if_neg i10]
            rcases chkM pS pT a b with ⟨c3, g3, g4⟩ | ⟨_, g3, g4⟩
            · rw [g3, g4, cp_s, cp_s, if_pos rfl, if_neg i10]
              refine gt_cs (x_before hA hS) (fun v S1 hS1 => ?_)
              obtain ⟨e1, f1, b1⟩ := hS1
              simp only at e1 f1 b1
              rw [e1]
              have pS1 := pX_J pS (by omega) f1
              by_cases q : (ste (qG A) (qD A)).1 = -1
              · rw [if_pos q, if_pos rfl]
                refine gt_some (gt_cs (u_layBefore pT hA.2.2.1) (fun v' T1 hT1 => ?_))
                obtain ⟨e2, g1, p1, _⟩ := hT1
                simp only at e2 g1 p1
                rw [e2, if_pos q, if_pos rfl]
                exact gt_some ⟨rfl, RR_M hA hS hT hK (fJ_P f1) g1 p1.2.2.2.1⟩
              · rw [if_neg q, if_neg i10, x_setOf pS1, x_setOf pS1, x_shopsOf pS1, cp_s, cp_s, cp_s, (fb_or2 _ (mb_64 _ hP) _ (mb_64 _ hP)).1]
                refine gt_mono (x_soldOff (t := t) pS1 hA.2.2.1 h1 h2 hc hab (Ne.symm hac) (Ne.symm hbc) c3 (b1 q)) (fun r hr => ?_)
                refine gt_cs (u_layBefore pT hA.2.2.1) (fun v' T1 hT1 => ?_)
                obtain ⟨e2, g1, p1, t21⟩ := hT1
                simp only at e2 g1 p1 t21
                rw [e2, if_neg q, if_neg i10]
                refine gt_mono (u_soldOff (t := t) p1 hA.2.2.1 ht.1 ht.2 h1 h2 hc hab (Ne.symm hac) (Ne.symm hbc) c3 t21) (fun r' hr' => ?_)
                exact ⟨lsm_u hr.1 hr'.1, RR_M hA hS hT hK (fP_t (fJ_P f1) (fK_P hr.2)) (fM_t g1 hr'.2.1) hr'.2.2.2.2.2.1⟩
            · rw [g3, g4, cp_s, cp_s, if_neg i10, if_pos rfl]; exact cSS_s h
          · rw [k3, k4, cp_s, cp_s, if_neg i10, if_pos rfl]; exact cSS_s h
        · exfalso
          rcases chk (n := nO (qG A)) (by omega) (nn c) S T with ⟨_, _, _, m3, _⟩ | ⟨m3, m4⟩
          · unfold m_ShopsAsOne_isNoOwner at l3
            rw [(RS_c hA hS).1, m3] at l3
            exact absurd (Option.some.inj ((bz_0 (k := some (0 : Int32))).symm.trans l3)) (by decide)
          · rw [u_within, if_neg (by rw [nn_0, nn_lt (by omega) (by omega)]; omega), nn_p (by omega), if_neg (by rw [nn_lt (by omega) (by omega)]; omega)] at m4
            exact absurd (Option.some.inj m4) (by decide)
      · rw [m1, m2, cp_s, cp_s, if_pos rfl, if_neg i10, unk2 _ (by rcases mr with e | ⟨e, e2⟩; exact Or.inl e; exact Or.inr ⟨e, Or.inr e2⟩)]
        exact cSS_s h
    · rw [m1, cp_s, if_neg i10, unk2 _ (by rcases mr with e | ⟨e, e2⟩; exact Or.inl e; exact Or.inr ⟨e, Or.inl e2⟩)]
      exact cSS_s h
  · rw [h3, h4, cp_s, cp_s, if_neg i10, if_pos rfl]; exact cSS_s h

/-! b35: two joinings, one after another: only that both return, and what stays -/
def cTT (o o' : Option (Int32 × gx_S)) : Prop := gt o fun r => gt o' fun r' => RR r.2 r'.2
theorem cTT_s {v v' : Int32} {S T : gx_S} (h : RR S T) : cTT (some (v, S)) (some (v', T)) := gt_some (gt_some h)
theorem no1 {n : Nat} (hn : n < 1000) {S : gx_S} (hS : S 1 0 = nn n) {a : Nat} (ha : a < n) : m_ShopsAsOne_isNoOwner (nn a) S = some 0 := by
  unfold m_ShopsAsOne_isNoOwner
  rw [hS]
  rcases chk hn (nn a) S S with ⟨_, _, _, m3, _⟩ | ⟨m3, m4⟩
  · rw [m3]; exact bz_0
  · exfalso
    rw [u_within, if_neg (by rw [nn_0, nn_lt (by omega) (by omega)]; omega), nn_p (by omega), if_neg (by rw [nn_lt (by omega) (by omega)]; omega)] at m4
    exact absurd (Option.some.inj m4) (by decide)
theorem no2 {n : Nat} (hn : n < 1000) {S : gx_S} (hS : S 1 0 = nn n) {a c : Nat} (ha : a < n) (hc : c < n) : m_ShopsAsOne_areNotTwo (nn a) (nn c) S = some (if a = c then 1 else 0) := by
  unfold m_ShopsAsOne_areNotTwo m_ShopsAsOne_areNotTwo_21
  rw [no1 hn hS ha, no1 hn hS hc, cp_s, if_pos rfl, cp_s, if_pos rfl]
  by_cases z : a = c
  · rw [if_pos (by rw [z]), if_pos z]
  · rw [if_neg (by rw [nn_eq (by omega) (by omega)]; exact z), if_neg z]
/-- b's shops a's, and d's c's -/
theorem u_layBehind2 {G D S : gx_S} {a b c d : Nat} (h : pU G D (-1) S) (hw : wD G D) (hc : c < 6) (h0 : wD G (gv G D a b)) (hE : wD G (gv G (gv G D a b) c d)) : gt (n_layBehind (nn a) (nn b) (nn c) (nn d) 0 (-1) S) fun t => t.1 = (if (ste G (gv G (gv G D a b) c d)).1 = -1 then 0 else 1) ∧ fM S t.2 ∧ pU G D (-1) t.2 ∧ t.2 0 34 = (ste G (gv G (gv G D a b) c d)).1 ∧ (∀ s, s < nS G → t.2 22 s = spa G (ste G (gv G (gv G D a b) c d)).2 s) ∧ ∀ s, t.2 21 s = S 21 s := by
  unfold n_layBehind
  refine gt_cp (u_hold h hw) (fun S2 hS2 => ?_)
  obtain ⟨f2, h2⟩ := hS2
  have m2 : fM S S2 := fun q j a1 a2 a3 a4 a5 => f2 q j (by omega) (by omega) (by omega)
  have d2 : uD D S2 := fun j hj => by
    rw [f2 _ _ (by omega) (by omega) (by omega), f2 _ _ (by omega) (by omega) (by omega), f2 _ _ (by omega) (by omega) (by omega)]
    exact h.2.2.2.1 j hj
  have p2 : pU G D (-1) S2 := pU_M h m2 (wD_0 hw) d2
  refine gt_cp (u_mergeNow p2 a b) (fun S4 hS4 => ?_)
  obtain ⟨f4, g4⟩ := hS4
  have hn1 : ¬ nn c = -1 := by
    have : ∀ m, m < 6 → ¬ nn m = -1 := by decide
    exact this _ hc
  rw [if_neg hn1]
  have m4 : fM S2 S4 := fun q j a1 a2 a3 a4 a5 => f4 q j a2
  have d4 : uD (gv G D a b) S4 := fun j hj => by
    obtain ⟨a1, a2, a3⟩ := d2 j hj
    refine ⟨?_, g4 j hj, ?_⟩
    · rw [f4 _ _ (by omega), a1]; simp [gv]
    · rw [f4 _ _ (by omega), a3]; simp [gv]
  have p4 : pU G (gv G D a b) (-1) S4 := pU_M p2 m4 (wD_0 h0) d4
  refine gt_cp (u_mergeNow p4 c d) (fun S6 hS6 => ?_)
  obtain ⟨f6, g6⟩ := hS6
  have m6 : fM S4 S6 := fun q j a1 a2 a3 a4 a5 => f6 q j a2
  have d6 : uD (gv G (gv G D a b) c d) S6 := fun j hj => by
    obtain ⟨a1, a2, a3⟩ := d4 j hj
    refine ⟨?_, g6 j hj, ?_⟩
    · rw [f6 _ _ (by omega), a1]; simp [gv]
    · rw [f6 _ _ (by omega), a3]; simp [gv]
  have p6 : pU G (gv G (gv G D a b) c d) (-1) S6 := pU_M p4 m6 (wD_0 hE) d6
  have h22 := u_22 (m := 0) (x := -1) p6 hw (by decide) (by rw [sx2_0]; exact hE) (fun j hj => by rw [f6 _ _ (by omega), f6 _ _ (by omega), f6 _ _ (by omega), f4 _ _ (by omega), f4 _ _ (by omega), f4 _ _ (by omega)]; exact h2 j hj)
  rw [sx2_0] at h22
  refine gt_mono h22 (fun t ht => ?_)
  obtain ⟨t1, t2, t3, t4, t5, t6⟩ := ht
  refine ⟨t1, fM_t m2 (fM_t m4 (fM_t m6 t2)), t3, t4, t5, fun s => ?_⟩
  rw [t6, f6 _ _ (by omega), f4 _ _ (by omega), f2 _ _ (by omega) (by omega) (by omega)]
theorem st_twice {S T : gx_S} (h : RR S T) (x1 x2 x3 x4 x5 : Int32) : cTT (m_ShopsAsOne_twice x1 x2 x3 x4 x5 S) (n_twice x1 x2 x3 x4 x5 T) := by
  obtain ⟨A, hA, hS, hT, hK⟩ := id h
  have hO := (wG_O hA.1).2
  have hN := (wG_S hA.1).2
  have pS := pX_R hA hS
  have pT := pU_R hA hT
  unfold m_ShopsAsOne_twice n_twice
  rcases chkTwo (by omega) (RS_c hA hS).1 (RT_c hA hT).1 x1 x2 with ⟨a, b, h1, h2, hab, rfl, rfl, h3, h4⟩ | ⟨h3, h4⟩
  · rw [h3, h4, cp_s, cp_s, if_pos rfl, if_neg i10]
    rcases chkTwo (by omega) (RS_c hA hS).1 (RT_c hA hT).1 x3 x4 with ⟨c, d, k1, k2, hcd, rfl, rfl, k3, k4⟩ | ⟨k3, k4⟩
    · rw [k3, k4, cp_s, cp_s, if_pos rfl, if_neg i10]
      have o := (RS_c hA hS).1
      rw [no2 (by omega) o h1 k1, no2 (by omega) o h1 k2, no2 (by omega) o h2 k1, no2 (by omega) o h2 k2]
      by_cases n1 : a = c
      · rw [if_pos n1, cp_s, if_neg i10, if_pos (show nn a = nn c by rw [n1])]; exact cTT_s h
      rw [if_neg n1, cp_s, if_pos rfl, if_neg (show ¬ nn a = nn c by rw [nn_eq (by omega) (by omega)]; exact n1)]
      by_cases n2 : a = d
      · rw [if_pos n2, cp_s, if_neg i10, if_pos (show nn a = nn d by rw [n2])]; exact cTT_s h
      rw [if_neg n2, cp_s, if_pos rfl, if_neg (show ¬ nn a = nn d by rw [nn_eq (by omega) (by omega)]; exact n2)]
      by_cases n3 : b = c
      · rw [if_pos n3, cp_s, if_neg i10, if_pos (show nn b = nn c by rw [n3])]; exact cTT_s h
      rw [if_neg n3, cp_s, if_pos rfl, if_neg (show ¬ nn b = nn c by rw [nn_eq (by omega) (by omega)]; exact n3)]
      by_cases n4 : b = d
      · rw [if_pos n4, cp_s, if_neg i10, if_pos (show nn b = nn d by rw [n4])]; exact cTT_s h
      rw [if_neg n4, cp_s, if_pos rfl, if_neg (show ¬ nn b = nn d by rw [nn_eq (by omega) (by omega)]; exact n4)]
      rcases chkR x5 0 2 S T with ⟨hz, i3, i4⟩ | ⟨i3, i4⟩
      · rw [i3, i4, cp_s, cp_s, if_pos rfl, if_neg i10]
        rcases chkM pS pT a b with ⟨c3, g3, g4⟩ | ⟨_, g3, g4⟩
        · rw [g3, g4, cp_s, cp_s, if_pos rfl, if_neg i10]
          rcases chkM pS pT c d with ⟨c4, j3, j4⟩ | ⟨_, j3, j4⟩
          · rw [j3, j4, cp_s, cp_s, if_pos rfl, if_neg i10]
            have hg := wD_gv hA.2.2.1 hO h1 h2 hab c3
            have hg' := wD_gv hA.2.2.1 hO k1 k2 hcd c4
            have hgg : wD (qG A) (gv (qG A) (gv (qG A) (qD A) a b) c d) := by
              refine wD_gv hg hO k1 k2 hcd ?_
              rw [cnt_gv (by omega) (by omega) hab (by omega), cnt_gv (by omega) (by omega) hab (by omega), if_neg (by omega), if_neg (by omega), if_neg (by omega), if_neg (by omega)]
              exact c4
            refine gt_cs (x_before hA hS) (fun v S1 hS1 => ?_)
            obtain ⟨e1, f1, b1⟩ := hS1
            simp only at e1 f1 b1
            rw [e1]
            have pS1 := pX_J pS (by omega) f1
            have right : ∀ S', fP S S' → gt (gx_cs (n_layBefore T) fun v13 S12 => if v13 = 0 then n_twice_136 S12 else if x5 = 1 then gx_cs (n_layBehind (nn c) (nn d) (-1) (-1) 0 (-1) S12) fun v17 S16 => if v17 = 0 then n_twice_136 S16 else n_twice_132 S16 else if x5 = 0 then n_twice_122 (nn d) (nn a) (nn b) (-1) S12 else n_twice_122 (nn d) (nn a) (nn b) (nn c) S12) fun r' => RR S' r'.2 := fun S' fp => by
              refine gt_cs (u_layBefore pT hA.2.2.1) (fun v' T1 hT1 => ?_)
              obtain ⟨e2, g1, p1, t21⟩ := hT1
              simp only at e2 g1 p1 t21
              have low : ∀ T', fM T T' → pU (qG A) (qD A) (-1) T' → gt (n_twice_136 T') fun r' => RR S' r'.2 := fun T' fm p => by
                unfold n_twice_136 n_twice_137
                rw [if_pos rfl]
                exact gt_some (RR_M hA hS hT hK fp fm p.2.2.2.1)
              have high : ∀ T' E, fM T1 T' → pU (qG A) (qD A) (-1) T' → (∀ s, s < nS (qG A) → T' 22 s = spa (qG A) E s) → (∀ s, T' 21 s = T1 21 s) → gt (n_twice_132 T') fun r' => RR S' r'.2 := fun T' E fm p t22 t21' => by
                unfold n_twice_132 n_twice_137
                rw [if_neg i10, u_harmNow p (B := (ste (qG A) (qD A)).2) (E := E) (fun s hs => by rw [t21']; exact t21 s hs) t22, cp_s]
                exact gt_some (RR_M hA hS hT hK fp (fM_t g1 fm) p.2.2.2.1)
              have two : ∀ v T' (E : gx_S), fM T1 T' → pU (qG A) (qD A) (-1) T' → (∀ s, s < nS (qG A) → T' 22 s = spa (qG A) E s) → (∀ s, T' 21 s = T1 21 s) → gt (if v = (0 : Int32) then n_twice_136 T' else n_twice_132 T') fun r' => RR S' r'.2 := fun v T' E fm p t22 t21' => by
                by_cases z : v = 0
                · rw [if_pos z]; exact low T' (fM_t g1 fm) p
                · rw [if_neg z]; exact high T' E fm p t22 t21'
              by_cases z0 : v' = 0
              · rw [if_pos z0]; exact low T1 g1 p1
              rw [if_neg z0]
              by_cases z1 : x5 = 1
              · rw [if_pos z1]
                refine gt_cs (u_beh p1 hA.2.2.1 hg') (fun v2 T2 hT2 => ?_)
                obtain ⟨_, g4, p4, _, t22, t21'⟩ := hT2
                exact two _ _ _ g4 p4 t22 t21'
              rw [if_neg z1]
              by_cases z2 : x5 = 0
              · rw [if_pos z2]
                unfold n_twice_122
                refine gt_cs (u_beh p1 hA.2.2.1 hg) (fun v2 T2 hT2 => ?_)
                obtain ⟨_, g4, p4, _, t22, t21'⟩ := hT2
                exact two _ _ _ g4 p4 t22 t21'
              · rw [if_neg z2]
                unfold n_twice_122
                refine gt_cs (u_layBehind2 p1 hA.2.2.1 (by omega) hg hgg) (fun v2 T2 hT2 => ?_)
                obtain ⟨_, g4, p4, _, t22, t21'⟩ := hT2
                exact two _ _ _ g4 p4 t22 t21'
            by_cases q : (ste (qG A) (qD A)).1 = -1
            · rw [if_pos q, if_pos rfl]
              exact gt_some (right _ (fJ_P f1))
            · rw [if_neg q, if_neg i10]
              have b1' := b1 q
              refine gt_cs (x_harmOf pS1 hA.2.2.1 (by omega) (by omega) (by omega) hg b1') (fun v2 S2 hS2 => ?_)
              obtain ⟨_, f2⟩ := hS2
              simp only at f2
              have pS2 := pX_K pS1 (by omega) f2
              have b2 := sB_K b1' f2
              refine gt_cs (x_harmOf pS2 hA.2.2.1 (by omega) (by omega) (by omega) hg' b2) (fun v3 S3 hS3 => ?_)
              obtain ⟨_, f3⟩ := hS3
              simp only at f3
              have pS3 := pX_K pS2 (by omega) f3
              have b3 := sB_K b2 f3
              refine gt_cp (x_become (r := 1) (r1 := 0) (by omega) hA.2.2.1 pS3.2.2.2) (fun S4 hS4 => ?_)
              obtain ⟨f4, d4⟩ := hS4
              have pS4 : pX 1 (qG A) (qD A) S4 := ⟨hA.1, wD_0 hA.2.2.1, vG_f pS3.2.2.1 hN (fun q j hq => f4 q j (by omega)), d4⟩
              refine gt_cp (x_give pS4 (by omega) a b) (fun S5 hS5 => ?_)
              obtain ⟨f5, d5⟩ := hS5
              have pS5 : pX 1 (qG A) (gv (qG A) (qD A) a b) S5 := ⟨hA.1, wD_0 hg, vG_f pS4.2.2.1 hN (fun q j hq => f5 q j (by omega)), d5⟩
              have b5 : sB (qG A) (ste (qG A) (qD A)).2 S5 := fun s hs => by rw [f5 _ _ (by omega), f4 _ _ (by omega)]; exact b3 s hs
              refine gt_cs (x_harmOf pS5 hg (by omega) (by omega) (by omega) hgg b5) (fun v6 S6 hS6 => ?_)
              obtain ⟨_, f6⟩ := hS6
              simp only at f6
              have fp : fP S S6 := fP_t (fJ_P f1) (fP_t (fK_P f2) (fP_t (fK_P f3) (fP_t (fun q j hq => f4 q j (by omega)) (fP_t (fun q j hq => f5 q j (by omega)) (fK_P f6)))))
              have fin := right S6 fp
              exact gt_ite (fun _ => gt_some fin) (fun _ => gt_ite (fun _ => gt_some fin) (fun _ => gt_ite (fun _ => gt_some fin) (fun _ => gt_ite (fun _ => gt_some fin) (fun _ => gt_ite (fun _ => gt_some fin) (fun _ => gt_some fin)))))
          · rw [j3, j4, cp_s, cp_s, if_neg i10, if_pos rfl]; exact cTT_s h
        · rw [g3, g4, cp_s, cp_s, if_neg i10, if_pos rfl]; exact cTT_s h
      · rw [i3, i4, cp_s, cp_s, if_neg i10, if_pos rfl]; exact cTT_s h
    · rw [k3, k4, cp_s, cp_s, if_neg i10, if_pos rfl]; exact cTT_s h
  · rw [h3, h4, cp_s, cp_s, if_neg i10, if_pos rfl]; exact cTT_s h

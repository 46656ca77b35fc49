/-! b37: harm is not less than nothing; whether a test bars a joining -/
theorem spa_b {G D : gx_S} (hG : wG G) (hw : wD G D) (s : Nat) : 0 ≤ (spa G D s).toInt ∧ (spa G D s).toInt ≤ 39 := by
  have hP := (wG_P hG).2
  unfold spa
  rcases chN_isC (isv G D s) (opx G D (-1)) (G 9 s) (nP G) with ⟨e, _, _⟩ | ⟨i, hi, e, _, _, hl, _⟩
  · rw [show cho G D s (-1) = -1 from e, if_pos rfl]; decide
  · rw [show cho G D s (-1) = nn i from e, if_neg (nn_m1 (by omega)), nn_c (by omega)]
    obtain ⟨p1, p2⟩ := bw_i (hw.1 i (by omega)).1
    obtain ⟨q1, q2⟩ := bw_i (bes_b hG s i)
    obtain ⟨r1, r2⟩ := bw_i (hG.2.2.2 s).2.2.2.1
    have c0 : (0 : Int32).toInt = 0 := by decide
    have c9 : (9 : Int32).toInt = 9 := by decide
    have c9' : (-9 : Int32).toInt = -9 := by decide
    have c45 : (45 : Int32).toInt = 45 := by decide
    have c30 : (30 : Int32).toInt = 30 := by decide
    have c1 : (1 : Int32).toInt = 1 := by decide
    rw [c0] at p1 r1
    rw [c9] at p2
    rw [c9'] at q1
    rw [c45] at q2
    rw [c30] at r2
    have e1 : (isv G D s i).toInt = (D 1 i).toInt + (bes G s i).toInt := ti_add (by omega) (by omega)
    have e2 : (G 9 s + 1).toInt = (G 9 s).toInt + 1 := by rw [ti_add (by rw [c1]; omega) (by rw [c1]; omega), c1]
    rw [Int32.lt_iff_toInt_lt, e2] at hl
    rw [ti_sub (by omega) (by omega)]
    omega
theorem sm_b19 {f : Nat → Int32} : ∀ {n : Nat}, n ≤ 8 → (∀ j, j < n → 0 ≤ (f j).toInt ∧ (f j).toInt ≤ 1950) → 0 ≤ (sm f n).toInt ∧ (sm f n).toInt ≤ 1950 * n
  | 0, _, _ => by show 0 ≤ (0 : Int32).toInt ∧ (0 : Int32).toInt ≤ 1950 * ((0 : Nat) : Int); decide
  | n + 1, h, hf => by
    have ih := sm_b19 (n := n) (by omega) (fun j hj => hf j (by omega))
    have := hf n (by omega)
    show 0 ≤ (sm f n + f n).toInt ∧ (sm f n + f n).toInt ≤ 1950 * ((n + 1 : Nat) : Int)
    rw [ti_add (by omega) (by omega)]
    omega
theorem i0_n {x : Int32} {m : Nat} (h0 : 0 ≤ x.toInt) (h1 : x.toInt ≤ m) (hm : m < 1000) : ∃ k, k ≤ m ∧ x = nn k := by
  refine ⟨x.toInt.toNat, by omega, ?_⟩
  apply Int32.toInt_inj.mp
  rw [nn_i (by omega)]
  omega
theorem hrm_0 {G B E : gx_S} (hG : wG G) (hB : wD G B) (hE : wD G E) : 0 ≤ (hrm G B E).toInt := by
  unfold hrm
  refine (sm_b19 (wG_S hG).2 (fun s _ => ?_)).1
  obtain ⟨k, hk, e⟩ := i0_n (m := 39) (x := if 0 < dr G B E s then dr G B E s else 0) (by
    split
    · next h => rw [Int32.lt_iff_toInt_lt] at h; have c0 : (0 : Int32).toInt = 0 := by decide
                omega
    · decide) (by
    have h1 := spa_b hG hB s
    have h2 := spa_b hG hE s
    split
    · unfold dr
      rw [ti_sub (by omega) (by omega)]
      omega
    · decide) (by decide)
  have hm := many_b hG s
  obtain ⟨m, hm', e'⟩ := i0_n (m := 50) hm.1 hm.2 (by decide)
  have h3 := Nat.mul_le_mul hk hm'
  rw [e, e', nn_mul, nn_i (by omega)]
  omega
theorem hrm_p {G B E : gx_S} (hG : wG G) (hB : wD G B) (hE : wD G E) : ¬ hrm G B E = -1 ∧ (hrm G B E ≤ 0 ↔ hrm G B E = 0) := by
  have h := hrm_0 hG hB hE
  have c0 : (0 : Int32).toInt = 0 := by decide
  have c1 : (-1 : Int32).toInt = -1 := by decide
  refine ⟨fun e => ?_, fun e => ?_, fun e => ?_⟩
  · rw [e, c1] at h; omega
  · rw [Int32.le_iff_toInt_le] at e
    apply Int32.toInt_inj.mp
    omega
  · rw [e]; exact Int32.le_refl _
/-- the reference's scratch, its standing, and where tests are weighed -/
def fO (S T : gx_S) : Prop := ∀ q j, q ≠ 3 → q ≠ 4 → q ≠ 7 → (q < 15 ∨ 25 < q) → (q ≠ 0 ∨ j < 24) → T q j = S q j
theorem fO_r (S : gx_S) : fO S S := fun _ _ _ _ _ _ _ => rfl
theorem fO_t {S T U : gx_S} (h : fO S T) (h' : fO T U) : fO S U := fun q j a1 a2 a3 a4 a5 => (h' q j a1 a2 a3 a4 a5).trans (h q j a1 a2 a3 a4 a5)
theorem fM_O {S T : gx_S} (h : fM S T) : fO S T := fun q j a1 a2 a3 a4 a5 => h q j a1 a2 a3 a4 (by omega)
theorem fk_O {S T : gx_S} (h : fk S T) : fO S T := fun q j a1 a2 a3 a4 a5 => h q j (by omega) (by omega) (by omega) (by omega) (by omega)
theorem RT_O {A : rA} {T T' : gx_S} (h : RT A T) (f : fO T T') (hd : uD (qD A) T') : RT A T' := by
  obtain ⟨⟨⟨a1, a2, a3⟩, b, c, d⟩, h2, h3, h4, h5, h6, h7⟩ := h
  have g : ∀ q j, q < 15 → q ≠ 3 → q ≠ 4 → q ≠ 7 → (q ≠ 0 ∨ j < 24) → T' q j = T q j := fun q j x1 x2 x3 x4 x5 => f q j x2 x3 x4 (Or.inl x1) x5
  refine ⟨⟨⟨?_, ?_, ?_⟩, fun o ho => ?_, fun k hk => ?_, fun s i hs hi => ?_⟩, hd, ?_, ⟨h4.1, ?_, fun j hj => ?_⟩, ?_, ?_, fun t ht => ⟨(h7 t ht).1, ?_, fun j hj => ?_⟩⟩
  · rw [g _ _ (by omega) (by omega) (by omega) (by omega) (by omega)]; exact a1
  · rw [g _ _ (by omega) (by omega) (by omega) (by omega) (by omega)]; exact a2
  · rw [g _ _ (by omega) (by omega) (by omega) (by omega) (by omega)]; exact a3
  · rw [g _ _ (by omega) (by omega) (by omega) (by omega) (by omega), g _ _ (by omega) (by omega) (by omega) (by omega) (by omega)]; exact b o ho
  · rw [g _ _ (by omega) (by omega) (by omega) (by omega) (by omega), g _ _ (by omega) (by omega) (by omega) (by omega) (by omega)]; exact c k hk
  · rw [g _ _ (by omega) (by omega) (by omega) (by omega) (by omega)]; exact d s i hs hi
  · rw [g _ _ (by omega) (by omega) (by omega) (by omega) (by omega)]; exact h3
  · rw [g _ _ (by omega) (by omega) (by omega) (by omega) (by omega)]; exact h4.2.1
  · rw [g _ _ (by omega) (by omega) (by omega) (by omega) (by omega)]; exact h4.2.2 j hj
  · rw [g _ _ (by omega) (by omega) (by omega) (by omega) (by omega)]; exact h5
  · rw [g _ _ (by omega) (by omega) (by omega) (by omega) (by omega)]; exact h6
  · rw [g _ _ (by omega) (by omega) (by omega) (by omega) (by omega)]; exact (h7 t ht).2.1
  · rw [g _ _ (by omega) (by omega) (by omega) (by omega) (by omega)]; exact (h7 t ht).2.2 j hj
theorem RR_O {A : rA} {S T S' T' : gx_S} (hA : RA A) (hS : RS A S) (hT : RT A T) (hK : RK (qG A) S T) (f : fP S S') (g : fO T T') (hu : uD (qD A) T') : RR S' T' := ⟨A, hA, RS_P hA.1 hA.2.2.2.2.1 hS f, RT_O hT g hu, RK_f hK (fun q j h => f q j (by omega)) (fun q j h => g q j (by omega) (by omega) (by omega) (by omega) (by omega))⟩
/-- whether test t bars a and b -/
noncomputable def barV (A : rA) (t a b : Nat) : Bool := eTh (evF (val (qG A) (qD A) a b) (qtn A t) (qtL A t) (qtn A t))
def fW (S T : gx_S) : Prop := ∀ q j, (q < 77 ∨ 81 < q) → T q j = S q j
theorem fW_P {S T : gx_S} (f : fW S T) : fP S T := fun q j a => f q j (by omega)
theorem x_isBarred {A : rA} {S : gx_S} (hA : RA A) (hS : RS A S) {t a b : Nat} (ht : t < qc A) (ha : a < nO (qG A)) (hb : b < nO (qG A)) : gt (m_ShopsAsOne_isBarred (nn t) (nn a) (nn b) S) fun r => r.1 = ib (barV A t a b) ∧ fW S r.2 := by
  have hc := hA.2.2.2.2.1
  unfold m_ShopsAsOne_isBarred
  refine gt_cp (x_weigh (pX_R hA hS) hA.2.2.1 ha hb) (fun S1 hS1 => ?_)
  obtain ⟨f1, v1⟩ := hS1
  rw [ck_n (by omega) (by omega), nn_c (by omega)]
  have hS1 := RS_P hA.1 hc hS (fun q j a => f1 q j (by omega) (by omega))
  refine gt_cs (x_holds (hS1.2.2.2.2.2 t ht) (by omega) v1 (hA.2.2.2.2.2.2 t ht)) (fun v S2 hS2 => ?_)
  obtain ⟨f2, e⟩ := hS2
  simp only at f2 e
  refine gt_bz (by rw [e]; cases eTh (evF (val (qG A) (qD A) a b) (qtn A t) (qtL A t) (qtn A t)); exact Or.inl rfl; exact Or.inr rfl) (gt_some ⟨e, fun q j hq => ?_⟩)
  exact (f2 q j (by omega) (by omega) (by omega) (by omega)).trans (f1 q j (by omega) (by omega))
theorem u_bars {A : rA} {T : gx_S} (hA : RA A) (hT : RT A T) {t a b : Nat} (ht : t < qc A) (ha : a < nO (qG A)) (hb : b < nO (qG A)) (hab : a ≠ b) : gt (n_barsNow (nn t) (nn a) (nn b) T) fun r => fk T r.2 ∧ r.1 = ib (barV A t a b) :=
  u_barsNow (pU_R hA hT) hA.2.2.1 ha hb hab (hT.2.2.2.2.2.2 t ht) (by have := hA.2.2.2.2.1; omega) (hA.2.2.2.2.2.2 t ht)
theorem uD_k {D S T : gx_S} (h : uD D S) (f : fk S T) : uD D T := fun j hj => by
  rw [f _ _ (by omega) (by omega) (by omega) (by omega) (by omega), f _ _ (by omega) (by omega) (by omega) (by omega) (by omega), f _ _ (by omega) (by omega) (by omega) (by omega) (by omega)]
  exact h j hj
theorem st_bars {S T : gx_S} (h : RR S T) (x y z : Int32) : cSS (m_ShopsAsOne_bars x y z S) (n_bars x y z T) := by
  obtain ⟨A, hA, hS, hT, hK⟩ := id h
  have hO := (wG_O hA.1).2
  have hc := hA.2.2.2.2.1
  unfold m_ShopsAsOne_bars n_bars n_bars_17
  rcases chkT (by omega) hS.2.2.2.1 hT.2.2.2.2.1 x with ⟨t, ht, rfl, h3, h4⟩ | ⟨h3, h4⟩
  · rw [h3, h4, cp_s, cp_s, if_pos rfl, if_neg i10]
    rcases chkTwo (by omega) (RS_c hA hS).1 (RT_c hA hT).1 y z with ⟨a, b, h1, h2, hab, rfl, rfl, h3, h4⟩ | ⟨h3, h4⟩
    · rw [h3, h4, cp_s, cp_s, if_pos rfl, if_neg i10]
      refine gt_cs (x_isBarred hA hS ht h1 h2) (fun v S1 hS1 => ?_)
      obtain ⟨e1, f1⟩ := hS1
      simp only at e1 f1
      have right : ∀ w : Int32, w = v → gt (gx_cs (n_barsNow (nn t) (nn a) (nn b) T) fun v7 S6 => if v7 = 0 then some (0, S6) else some (1, S6)) fun r' => (if v = 0 then (0 : Int32) else 1) = r'.1 ∧ RR S1 r'.2 := fun w hw => by
        refine gt_cs (u_bars hA hT ht h1 h2 hab) (fun v' T1 hT1 => ?_)
        obtain ⟨g1, e2⟩ := hT1
        simp only at g1 e2
        have fin := RR_O hA hS hT hK (fW_P f1) (fk_O g1) (uD_k hT.2.1 g1)
        have : v' = v := by rw [e1, e2]
        rw [this]
        by_cases z : v = 0
        · rw [if_pos z, if_pos z]; exact gt_some ⟨rfl, fin⟩
        · rw [if_neg z, if_neg z]; exact gt_some ⟨rfl, fin⟩
      by_cases z : v = 0
      · rw [if_pos z]
        refine gt_some (gt_mono (right v rfl) (fun r hr => ?_))
        rw [if_pos z] at hr
        exact hr
      · rw [if_neg z]
        refine gt_some (gt_mono (right v rfl) (fun r hr => ?_))
        rw [if_neg z] at hr
        exact hr
    · rw [h3, h4, cp_s, cp_s, if_neg i10, if_pos rfl]; exact cSS_s h
  · rw [h3, h4, cp_s, cp_s, if_neg i10, if_pos rfl]; exact cSS_s h

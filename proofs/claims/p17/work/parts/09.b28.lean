/-! b28: both sides are pictures of the same -/
def zG (G : gx_S) : Prop := ∀ j, nO G ≤ j → G 2 j = 0
def zD (G D : gx_S) : Prop := ∀ j, j < 6 → nP G ≤ j → D 1 j = 0 ∧ D 2 j = 0
abbrev rA : Type := gx_S × gx_S × Nat × (Nat → Nat) × Nat × (Nat → Nat) × (Nat → Nat → Nat) × Nat
/-- street, standing, the page's length and letters, tests: how many, their lengths and letters, how often wrong was done -/
def qG (A : rA) : gx_S := A.1
def qD (A : rA) : gx_S := A.2.1
def qn (A : rA) : Nat := A.2.2.1
def qL (A : rA) : Nat → Nat := A.2.2.2.1
def qc (A : rA) : Nat := A.2.2.2.2.1
def qtn (A : rA) : Nat → Nat := A.2.2.2.2.2.1
def qtL (A : rA) : Nat → Nat → Nat := A.2.2.2.2.2.2.1
def qw (A : rA) : Nat := A.2.2.2.2.2.2.2
def RA (A : rA) : Prop := wG (qG A) ∧ zG (qG A) ∧ wD (qG A) (qD A) ∧ zD (qG A) (qD A) ∧ qc A ≤ 4 ∧ qw A ≤ 6 ∧ ∀ t, t < qc A → isT (qtn A t) (qtL A t) = true
def RS (A : rA) (S : gx_S) : Prop := vG (qG A) S ∧ vD 0 (qD A) S ∧ vT 0 (qn A) (qL A) S ∧ S 0 10 = nn (qc A) ∧ S 0 11 = nn (qw A) ∧ ∀ t, t < qc A → vT (1 + t) (qtn A t) (qtL A t) S
def RT (A : rA) (T : gx_S) : Prop := uG (qG A) T ∧ uD (qD A) T ∧ T 0 23 = -1 ∧ uT (qn A) (qL A) T ∧ T 0 11 = nn (qc A) ∧ T 0 16 = nn (qw A) ∧ ∀ t, t < qc A → uQ t (qtn A t) (qtL A t) T
/-- what is kept -/
def RK (G S T : gx_S) : Prop := (S 0 12 = 0 ∧ T 0 17 = 0) ∨ (S 0 12 = 1 ∧ T 0 17 = 1 ∧ ∃ (K : gx_S) (ko ks : Nat), S 0 13 = nn ko ∧ T 0 18 = nn ko ∧ S 0 14 = nn ks ∧ T 0 19 = nn ks ∧ ko ≤ nO G ∧ ks ≤ nP G ∧ (∀ j, j < 6 → S 30 j = K 1 j ∧ S 31 j = K 2 j ∧ T 12 j = K 1 j ∧ T 13 j = K 2 j ∧ T 14 j = K 3 j) ∧ (∀ j, j < 6 → (j < ko ∨ nO G ≤ j) → S 32 j = K 3 j) ∧ (∀ j, j < 6 → ko ≤ j → K 3 j = 0) ∧ (∀ j, j < 6 → K 3 j = 0 ∨ K 3 j = 1 ∧ G 2 j = 4) ∧ (ks = nP G → wD G K ∧ zD G K))
def RR (S T : gx_S) : Prop := ∃ A, RA A ∧ RS A S ∧ RT A T ∧ RK (qG A) S T
/-- the class's scratch alone has changed; the reference's -/
def fP (S T : gx_S) : Prop := ∀ q j, (q < 25 ∨ (28 < q ∧ q < 33) ∨ (65 < q ∧ q < 76)) → T q j = S q j
def fQ (S T : gx_S) : Prop := ∀ q j, q < 15 → (q ≠ 0 ∨ j < 24) → T q j = S q j
theorem fP_r (S : gx_S) : fP S S := fun _ _ _ => rfl
theorem fQ_r (S : gx_S) : fQ S S := fun _ _ _ _ => rfl
theorem fP_t {S T U : gx_S} (h : fP S T) (h' : fP T U) : fP S U := fun q j a => (h' q j a).trans (h q j a)
theorem fQ_t {S T U : gx_S} (h : fQ S T) (h' : fQ T U) : fQ S U := fun q j a b => (h' q j a b).trans (h q j a b)
theorem fX_P {S T : gx_S} (h : fX S T) : fP S T := fun q j a => h q j (by omega)
theorem f15_Q {S T : gx_S} (h : f15 S T) : fQ S T := fun q j a _ => h q j (by omega)
theorem RS_P {A : rA} {S S' : gx_S} (hG : wG (qG A)) (hc : qc A ≤ 4) (h : RS A S) (f : fP S S') : RS A S' := by
  obtain ⟨h1, h2, h3, h4, h5, h6⟩ := h
  refine ⟨vG_f h1 (wG_S hG).2 (fun q j hq => f q j (by omega)), vD_f h2 (fun q j a b => f q j (by omega)), ⟨h3.1, ?_, fun j hj => ?_⟩, ?_, ?_, fun t ht => ⟨(h6 t ht).1, ?_, fun j hj => ?_⟩⟩
  · rw [f _ _ (by omega)]; exact h3.2.1
  · rw [f _ _ (by omega)]; exact h3.2.2 j hj
  · rw [f _ _ (by omega)]; exact h4
  · rw [f _ _ (by omega)]; exact h5
  · rw [f _ _ (by omega)]; exact (h6 t ht).2.1
  · rw [f _ _ (by omega)]; exact (h6 t ht).2.2 j hj
theorem RT_Q {A : rA} {T T' : gx_S} (h : RT A T) (f : fQ T T') : RT A T' := by
  obtain ⟨⟨⟨a1, a2, a3⟩, b, c, d⟩, h2, h3, h4, h5, h6, h7⟩ := h
  refine ⟨⟨⟨?_, ?_, ?_⟩, fun o ho => ?_, fun k hk => ?_, fun s i hs hi => ?_⟩, fun j hj => ?_, ?_, ⟨h4.1, ?_, fun j hj => ?_⟩, ?_, ?_, fun t ht => ⟨(h7 t ht).1, ?_, fun j hj => ?_⟩⟩
  · rw [f _ _ (by omega) (by omega)]; exact a1
  · rw [f _ _ (by omega) (by omega)]; exact a2
  · rw [f _ _ (by omega) (by omega)]; exact a3
  · rw [f _ _ (by omega) (by omega), f _ _ (by omega) (by omega)]; exact b o ho
  · rw [f _ _ (by omega) (by omega), f _ _ (by omega) (by omega)]; exact c k hk
  · rw [f _ _ (by omega) (by omega)]; exact d s i hs hi
  · rw [f _ _ (by omega) (by omega), f _ _ (by omega) (by omega), f _ _ (by omega) (by omega)]; exact h2 j hj
  · rw [f _ _ (by omega) (by omega)]; exact h3
  · rw [f _ _ (by omega) (by omega)]; exact h4.2.1
  · rw [f _ _ (by omega) (by omega)]; exact h4.2.2 j hj
  · rw [f _ _ (by omega) (by omega)]; exact h5
  · rw [f _ _ (by omega) (by omega)]; exact h6
  · rw [f _ _ (by omega) (by omega)]; exact (h7 t ht).2.1
  · rw [f _ _ (by omega) (by omega)]; exact (h7 t ht).2.2 j hj
theorem RK_f {G S T S' T' : gx_S} (h : RK G S T) (f : ∀ q j, (q = 0 ∧ 12 ≤ j ∧ j ≤ 14) ∨ (29 < q ∧ q < 33) → S' q j = S q j) (g : ∀ q j, (q = 0 ∧ 17 ≤ j ∧ j ≤ 19) ∨ (11 < q ∧ q < 15) → T' q j = T q j) : RK G S' T' := by
  unfold RK
  rw [f 0 12 (by omega), f 0 13 (by omega), f 0 14 (by omega), g 0 17 (by omega), g 0 18 (by omega), g 0 19 (by omega)]
  rcases h with h | ⟨h1, h2, K, ko, ks, h3, h4, h5, h6, h7, h8, h9, h10, h11⟩
  · exact Or.inl h
  · refine Or.inr ⟨h1, h2, K, ko, ks, h3, h4, h5, h6, h7, h8, fun j hj => ?_, fun j hj hh => ?_, h11⟩
    · rw [f 30 j (by omega), f 31 j (by omega), g 12 j (by omega), g 13 j (by omega), g 14 j (by omega)]; exact h9 j hj
    · rw [f 32 j (by omega)]; exact h10 j hj hh
theorem RR_f {A : rA} {S T S' T' : gx_S} (hA : RA A) (hS : RS A S) (hT : RT A T) (hK : RK (qG A) S T) (f : fP S S') (g : fQ T T') : RR S' T' := ⟨A, hA, RS_P hA.1 hA.2.2.2.2.1 hS f, RT_Q hT g, RK_f hK (fun q j h => f q j (by omega)) (fun q j h => g q j (by omega) (by omega))⟩
theorem pX_R {A : rA} {S : gx_S} (hA : RA A) (hS : RS A S) : pX 0 (qG A) (qD A) S := ⟨hA.1, wD_0 hA.2.2.1, hS.1, hS.2.1⟩
theorem pU_R {A : rA} {T : gx_S} (hA : RA A) (hT : RT A T) : pU (qG A) (qD A) (-1) T := ⟨hA.1, wD_0 hA.2.2.1, hT.1, hT.2.1, hT.2.2.1⟩
/-- fM with the standing told is fQ where the standing is the same -/
theorem fM_Q {D S T : gx_S} (h : fM S T) (hS : uD D S) (hT : uD D T) (h6 : ∀ q j, (q = 3 ∨ q = 4 ∨ q = 7) → 6 ≤ j → T q j = S q j) : fQ S T := fun q j a b => by
  by_cases z : q = 3 ∨ q = 4 ∨ q = 7
  · rcases Nat.lt_or_ge j 6 with y | y
    · obtain ⟨a1, a2, a3⟩ := hS j y
      obtain ⟨b1, b2, b3⟩ := hT j y
      rcases z with rfl | rfl | rfl
      · rw [a3, b3]
      · rw [a2, b2]
      · rw [a1, b1]
    · exact h6 q j z y
  · exact h q j (by omega) (by omega) (by omega) (by omega) (by omega)
/-- the reference's standing may have changed to D' -/
theorem RT_M {A : rA} {T T' : gx_S} {D' : gx_S} (h : RT A T) (f : fM T T') (hd : uD D' T') : RT (qG A, D', A.2.2) T' := by
  obtain ⟨⟨⟨a1, a2, a3⟩, b, c, d⟩, h2, h3, h4, h5, h6, h7⟩ := h
  refine ⟨⟨⟨?_, ?_, ?_⟩, fun o ho => ?_, fun k hk => ?_, fun s i hs hi => ?_⟩, hd, ?_, ⟨h4.1, ?_, fun j hj => ?_⟩, ?_, ?_, fun t ht => ⟨(h7 t ht).1, ?_, fun j hj => ?_⟩⟩
  · rw [f _ _ (by omega) (by omega) (by omega) (by omega) (by omega)]; exact a1
  · rw [f _ _ (by omega) (by omega) (by omega) (by omega) (by omega)]; exact a2
  · rw [f _ _ (by omega) (by omega) (by omega) (by omega) (by omega)]; exact a3
  · rw [f _ _ (by omega) (by omega) (by omega) (by omega) (by omega), f _ _ (by omega) (by omega) (by omega) (by omega) (by omega)]; exact b o ho
  · rw [f _ _ (by omega) (by omega) (by omega) (by omega) (by omega), f _ _ (by omega) (by omega) (by omega) (by omega) (by omega)]; exact c k hk
  · rw [f _ _ (by omega) (by omega) (by omega) (by omega) (by omega)]; exact d s i hs hi
  · rw [f _ _ (by omega) (by omega) (by omega) (by omega) (by omega)]; exact h3
  · rw [f _ _ (by omega) (by omega) (by omega) (by omega) (by omega)]; exact h4.2.1
  · rw [f _ _ (by omega) (by omega) (by omega) (by omega) (by omega)]; exact h4.2.2 j hj
  · rw [f _ _ (by omega) (by omega) (by omega) (by omega) (by omega)]; exact h5
  · rw [f _ _ (by omega) (by omega) (by omega) (by omega) (by omega)]; exact h6
  · rw [f _ _ (by omega) (by omega) (by omega) (by omega) (by omega)]; exact (h7 t ht).2.1
  · rw [f _ _ (by omega) (by omega) (by omega) (by omega) (by omega)]; exact (h7 t ht).2.2 j hj
/-- the class's standing may have changed to D' -/
theorem RS_D {A : rA} {S S' : gx_S} {D' : gx_S} (hG : wG (qG A)) (hc : qc A ≤ 4) (h : RS A S) (f : ∀ q j, (q < 22 ∨ (28 < q ∧ q < 33) ∨ (65 < q ∧ q < 76)) → S' q j = S q j) (hd : vD 0 D' S') : RS (qG A, D', A.2.2) S' := by
  obtain ⟨h1, h2, h3, h4, h5, h6⟩ := h
  refine ⟨vG_f h1 (wG_S hG).2 (fun q j hq => f q j (by omega)), hd, ⟨h3.1, ?_, fun j hj => ?_⟩, ?_, ?_, fun t ht => ⟨(h6 t ht).1, ?_, fun j hj => ?_⟩⟩
  · rw [f _ _ (by omega)]; exact h3.2.1
  · rw [f _ _ (by omega)]; exact h3.2.2 j hj
  · rw [f _ _ (by omega)]; exact h4
  · rw [f _ _ (by omega)]; exact h5
  · have : qc (qG A, D', A.2.2) = qc A := rfl
    rw [this] at ht
    rw [f _ _ (by omega)]; exact (h6 t ht).2.1
  · have : qc (qG A, D', A.2.2) = qc A := rfl
    rw [this] at ht
    rw [f _ _ (by omega)]; exact (h6 t ht).2.2 j hj
/-- both standings are D' now -/
theorem RR_D {A : rA} {S T S' T' D' : gx_S} (hA : RA A) (hS : RS A S) (hT : RT A T) (hK : RK (qG A) S T) (hw : wD (qG A) D') (hz : zD (qG A) D') (f : ∀ q j, (q < 22 ∨ (28 < q ∧ q < 33) ∨ (65 < q ∧ q < 76)) → S' q j = S q j) (hd : vD 0 D' S') (g : fM T T') (hu : uD D' T') : RR S' T' :=
  ⟨(qG A, D', A.2.2), ⟨hA.1, hA.2.1, hw, hz, hA.2.2.2.2⟩, RS_D hA.1 hA.2.2.2.2.1 hS f hd, RT_M hT g hu, RK_f hK (fun q j h => f q j (by omega)) (fun q j h => g q j (by omega) (by omega) (by omega) (by omega) (by omega))⟩
/-- the class's scratch, the reference's with its standing as it was -/
theorem RR_M {A : rA} {S T S' T' : gx_S} (hA : RA A) (hS : RS A S) (hT : RT A T) (hK : RK (qG A) S T) (f : fP S S') (g : fM T T') (hu : uD (qD A) T') : RR S' T' :=
  RR_D hA hS hT hK hA.2.2.1 hA.2.2.2.1 (fun q j h => f q j (by omega)) (vD_f hS.2.1 (fun q j a b => f q j (by omega))) g hu
/-! what calls are refused by -/
theorem chk {n : Nat} (hn : n < 1000) (x : Int32) (S T : gx_S) : (∃ o, o < n ∧ x = nn o ∧ m_ShopsAsOne_isNot x 0 (nn n - 1) S = some 0 ∧ n_within x 0 (nn n - 1) T = some 1) ∨ (m_ShopsAsOne_isNot x 0 (nn n - 1) S = some 1 ∧ n_within x 0 (nn n - 1) T = some 0) := by
  rw [u_within]
  unfold m_ShopsAsOne_isNot m_ShopsAsOne_isNot_10
  by_cases h0 : x < 0
  · rw [if_pos h0, if_pos h0]; exact Or.inr ⟨rfl, rfl⟩
  · rw [if_neg h0, if_neg h0]
    have e := nn_of (x := x) (by lia)
    have hb := Int32.toNatClampNeg_lt x
    generalize x.toNatClampNeg = o at e hb
    subst e
    rcases Nat.eq_zero_or_pos n with z | z
    · subst z
      have h1 : ¬ nn o ≤ nn 0 - 1 := by
        rw [Int32.le_iff_toInt_le, nn_i (by omega), show (nn 0 - 1).toInt = -1 from by decide]
        omega
      rw [if_neg h1, if_pos (by lia)]; exact Or.inr ⟨rfl, rfl⟩
    · rw [nn_p z]
      by_cases h1 : o ≤ n - 1
      · have h1' : nn o ≤ nn (n - 1) := by rw [nn_le (by omega) (by omega)]; exact h1
        rw [if_pos h1', if_neg (by lia)]
        exact Or.inl ⟨o, by omega, rfl, rfl, rfl⟩
      · have h1' : ¬ nn o ≤ nn (n - 1) := by rw [nn_le (by omega) (by omega)]; exact h1
        rw [if_neg h1', if_pos (by lia)]; exact Or.inr ⟨rfl, rfl⟩
theorem i10 : ¬ (1 : Int32) = 0 := by decide
theorem chkR (x a b : Int32) (S T : gx_S) : (bw x a b ∧ m_ShopsAsOne_isNot x a b S = some 0 ∧ n_within x a b T = some 1) ∨ (m_ShopsAsOne_isNot x a b S = some 1 ∧ n_within x a b T = some 0) := by
  rw [u_within]
  unfold m_ShopsAsOne_isNot m_ShopsAsOne_isNot_10
  by_cases h0 : x < a
  · rw [if_pos h0, if_pos h0]; exact Or.inr ⟨rfl, rfl⟩
  · rw [if_neg h0, if_neg h0]
    by_cases h1 : x ≤ b
    · rw [if_pos h1, if_neg (by lia)]
      exact Or.inl ⟨⟨by lia, h1⟩, rfl, rfl⟩
    · rw [if_neg h1, if_pos (by lia)]; exact Or.inr ⟨rfl, rfl⟩
theorem chkO {n : Nat} (hn : n < 1000) {S T : gx_S} (hS : S 1 0 = nn n) (hT : T 0 0 = nn n) (x : Int32) : (∃ o, o < n ∧ x = nn o ∧ m_ShopsAsOne_isNoOwner x S = some 0 ∧ n_isOwner x T = some 1) ∨ (m_ShopsAsOne_isNoOwner x S = some 1 ∧ n_isOwner x T = some 0) := by
  unfold m_ShopsAsOne_isNoOwner n_isOwner
  rw [hS, hT]
  rcases chk hn x S T with ⟨o, h1, h2, h3, h4⟩ | ⟨h3, h4⟩
  · rw [h3, h4]; exact Or.inl ⟨o, h1, h2, bz_0, bz_1⟩
  · rw [h3, h4]; exact Or.inr ⟨bz_1, bz_0⟩
theorem chkP {n : Nat} (hn : n < 1000) {S T : gx_S} (hS : S 1 1 = nn n) (hT : T 0 4 = nn n) (x : Int32) : (∃ o, o < n ∧ x = nn o ∧ m_ShopsAsOne_isNoShop x S = some 0 ∧ n_isShop x T = some 1) ∨ (m_ShopsAsOne_isNoShop x S = some 1 ∧ n_isShop x T = some 0) := by
  unfold m_ShopsAsOne_isNoShop n_isShop
  rw [hS, hT]
  rcases chk hn x S T with ⟨o, h1, h2, h3, h4⟩ | ⟨h3, h4⟩
  · rw [h3, h4]; exact Or.inl ⟨o, h1, h2, bz_0, bz_1⟩
  · rw [h3, h4]; exact Or.inr ⟨bz_1, bz_0⟩
theorem chkS {n : Nat} (hn : n < 1000) {S T : gx_S} (hS : S 1 2 = nn n) (hT : T 0 9 = nn n) (x : Int32) : (∃ o, o < n ∧ x = nn o ∧ m_ShopsAsOne_isNoSort x S = some 0 ∧ n_isSort x T = some 1) ∨ (m_ShopsAsOne_isNoSort x S = some 1 ∧ n_isSort x T = some 0) := by
  unfold m_ShopsAsOne_isNoSort n_isSort
  rw [hS, hT]
  rcases chk hn x S T with ⟨o, h1, h2, h3, h4⟩ | ⟨h3, h4⟩
  · rw [h3, h4]; exact Or.inl ⟨o, h1, h2, bz_0, bz_1⟩
  · rw [h3, h4]; exact Or.inr ⟨bz_1, bz_0⟩
theorem chkT {n : Nat} (hn : n < 1000) {S T : gx_S} (hS : S 0 10 = nn n) (hT : T 0 11 = nn n) (x : Int32) : (∃ o, o < n ∧ x = nn o ∧ m_ShopsAsOne_isNoTest x S = some 0 ∧ n_isTest x T = some 1) ∨ (m_ShopsAsOne_isNoTest x S = some 1 ∧ n_isTest x T = some 0) := by
  unfold m_ShopsAsOne_isNoTest n_isTest
  rw [hS, hT]
  rcases chk hn x S T with ⟨o, h1, h2, h3, h4⟩ | ⟨h3, h4⟩
  · rw [h3, h4]; exact Or.inl ⟨o, h1, h2, bz_0, bz_1⟩
  · rw [h3, h4]; exact Or.inr ⟨bz_1, bz_0⟩
theorem chkTwo {n : Nat} (hn : n < 1000) {S T : gx_S} (hS : S 1 0 = nn n) (hT : T 0 0 = nn n) (x y : Int32) : (∃ a b, a < n ∧ b < n ∧ a ≠ b ∧ x = nn a ∧ y = nn b ∧ m_ShopsAsOne_areNotTwo x y S = some 0 ∧ n_areTwo x y T = some 1) ∨ (m_ShopsAsOne_areNotTwo x y S = some 1 ∧ n_areTwo x y T = some 0) := by
  have e1 : ∀ v, m_ShopsAsOne_isNoOwner x S = some v → m_ShopsAsOne_areNotTwo x y S = if v = 0 then gx_cp (m_ShopsAsOne_isNoOwner y S) fun v4 => if v4 = 0 then if x = y then some 1 else some 0 else some 1 else some 1 := fun v h => by
    unfold m_ShopsAsOne_areNotTwo m_ShopsAsOne_areNotTwo_21
    rw [h, cp_s]
  have e2 : ∀ v, n_isOwner x T = some v → n_areTwo x y T = if v = 0 then some 0 else gx_cp (n_isOwner y T) fun v4 => if v4 = 0 then some 0 else if x = y then some 0 else some 1 := fun v h => by
    unfold n_areTwo n_areTwo_25
    rw [h, cp_s]
  rcases chkO hn hS hT x with ⟨a, h1, rfl, h3, h4⟩ | ⟨h3, h4⟩
  · rw [e1 0 h3, e2 1 h4, if_pos rfl, if_neg i10]
    rcases chkO hn hS hT y with ⟨b, g1, rfl, g3, g4⟩ | ⟨g3, g4⟩
    · rw [g3, g4, cp_s, cp_s, if_pos rfl, if_neg i10]
      by_cases z : a = b
      · have z' : nn a = nn b := by rw [z]
        rw [if_pos z', if_pos z']; exact Or.inr ⟨rfl, rfl⟩
      · have z' : ¬ nn a = nn b := by rw [nn_eq (by omega) (by omega)]; exact z
        rw [if_neg z', if_neg z']; exact Or.inl ⟨a, b, h1, g1, z, rfl, rfl, rfl, rfl⟩
    · rw [g3, g4, cp_s, cp_s, if_neg i10, if_pos rfl]; exact Or.inr ⟨rfl, rfl⟩
  · rw [e1 1 h3, e2 0 h4, if_neg i10, if_pos rfl]; exact Or.inr ⟨rfl, rfl⟩
theorem cnt6 {G D : gx_S} (hG : wG G) (o : Nat) : cnt G D o ≤ 6 := Nat.le_trans (cn_le _ _) (wG_P hG).2
theorem chkM {G D S T : gx_S} (p : pX 0 G D S) (q : pU G D (-1) T) (a b : Nat) : (cnt G D a + cnt G D b ≤ 3 ∧ m_ShopsAsOne_areTooMany (nn a) (nn b) S = some 0 ∧ n_fits (nn a) (nn b) T = some 1) ∨ (¬ cnt G D a + cnt G D b ≤ 3 ∧ m_ShopsAsOne_areTooMany (nn a) (nn b) S = some 1 ∧ n_fits (nn a) (nn b) T = some 0) := by
  have h1 := cnt6 (D := D) p.1 a
  have h2 := cnt6 (D := D) p.1 b
  unfold m_ShopsAsOne_areTooMany n_fits
  rw [x_shopsOf p, x_shopsOf p, u_shopsOf q, u_shopsOf q, cp_s, cp_s, cp_s, cp_s, nn_add, show (3 : Int32) = nn 3 from rfl]
  simp (disch := omega) only [nn_le, nn_lt]
  by_cases z : cnt G D a + cnt G D b ≤ 3
  · rw [if_pos z, if_neg (by omega)]; exact Or.inl ⟨z, rfl, rfl⟩
  · rw [if_neg z, if_pos (by omega)]; exact Or.inr ⟨z, rfl, rfl⟩
theorem RS_c {A : rA} {S : gx_S} (hA : RA A) (h : RS A S) : S 1 0 = nn (nO (qG A)) ∧ S 1 1 = nn (nP (qG A)) ∧ S 1 2 = nn (nS (qG A)) := by
  refine ⟨?_, ?_, ?_⟩
  · rw [h.1.1 _ _ (by omega) (by omega)]; exact (wG_O hA.1).1
  · rw [h.1.1 _ _ (by omega) (by omega)]; exact (wG_P hA.1).1
  · rw [h.1.1 _ _ (by omega) (by omega)]; exact (wG_S hA.1).1
theorem RT_c {A : rA} {T : gx_S} (hA : RA A) (h : RT A T) : T 0 0 = nn (nO (qG A)) ∧ T 0 4 = nn (nP (qG A)) ∧ T 0 9 = nn (nS (qG A)) := by
  refine ⟨?_, ?_, ?_⟩
  · rw [h.1.1.1]; exact (wG_O hA.1).1
  · rw [h.1.1.2.1]; exact (wG_P hA.1).1
  · rw [h.1.1.2.2]; exact (wG_S hA.1).1
/-! a call on both sides: the answers alike, the pictures stay -/
def cSS (o o' : Option (Int32 × gx_S)) : Prop := gt o fun r => gt o' fun r' => r.1 = r'.1 ∧ RR r.2 r'.2
def cPS (S : gx_S) (o : Option Int32) (o' : Option (Int32 × gx_S)) : Prop := gt o fun v => gt o' fun r' => v = r'.1 ∧ RR S r'.2
def cPP (o o' : Option Int32) : Prop := gt o fun v => gt o' fun v' => v = v'
theorem cSS_s {v : Int32} {S T : gx_S} (h : RR S T) : cSS (some (v, S)) (some (v, T)) := gt_some (gt_some ⟨rfl, h⟩)
theorem cPS_s {v : Int32} {S T : gx_S} (h : RR S T) : cPS S (some v) (some (v, T)) := gt_some (gt_some ⟨rfl, h⟩)
theorem cPP_s {v : Int32} : cPP (some v) (some v) := gt_some (gt_some rfl)

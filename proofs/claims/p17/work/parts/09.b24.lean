/-! b24: what a test may have next -/
def dg (c : Nat) : Bool := decide (48 ≤ c) && decide (c ≤ 57)
def nam (c : Nat) : Prop := c = 115 ∨ c = 111 ∨ c = 114 ∨ c = 100
def sgn (c : Nat) : Prop := c = 60 ∨ c = 61 ∨ c = 62
/-- state q, o brackets open, letter c: what comes -/
noncomputable def tr (q o c : Nat) : Option (Nat × Nat) :=
  haveI := Classical.propDecidable
  if q = 0 then (if c = 33 then some (0, o) else if c = 40 then some (0, o + 1) else if nam c then some (1, o) else none)
  else if q = 1 then (if sgn c then some (2, o) else none)
  else if q < 6 ∧ dg c = true then some (q + 1, o)
  else if 2 < q ∧ (c = 38 ∨ c = 124) then some (0, o)
  else if 2 < q ∧ c = 41 ∧ 0 < o then some (7, o - 1)
  else none
theorem tr_b {q o c : Nat} {s : Nat × Nat} (hq : q ≤ 7) (h : tr q o c = some s) : s.1 ≤ 7 ∧ s.2 ≤ o + 1 := by
  unfold tr at h
  repeat' split at h
  all_goals first
    | (cases h; done)
    | (cases h; exact ⟨by simp only; omega, by simp only; omega⟩)
theorem x_isDigit {c : Nat} (hc : c < 1000) (S : gx_S) : m_Text_isDigit (nn c) S = some (ib (dg c)) := by
  unfold m_Text_isDigit m_Text_isDigit_16 dg
  rw [show (48 : Int32) = nn 48 from rfl, show (57 : Int32) = nn 57 from rfl]
  simp (disch := omega) only [nn_lt]
  by_cases a : c < 48
  · rw [if_pos a]
    have : decide (48 ≤ c) = false := by simp; omega
    rw [this]; rfl
  · rw [if_neg a]
    have h1 : decide (48 ≤ c) = true := by simp; omega
    by_cases b : 57 < c
    · rw [if_pos b]
      have : decide (c ≤ 57) = false := by simp; omega
      rw [this, h1]; rfl
    · rw [if_neg b]
      have : decide (c ≤ 57) = true := by simp; omega
      rw [this, h1]; rfl
theorem u_within (x a b : Int32) (S : gx_S) : n_within x a b S = some (if x < a then 0 else if b < x then 0 else 1) := by
  unfold n_within n_within_14
  split
  · rfl
  · split <;> rfl
theorem u_isDigit {c : Nat} (hc : c < 1000) (S : gx_S) : n_isDigit (nn c) S = some (ib (dg c)) := by
  have h := x_isDigit hc S
  unfold m_Text_isDigit m_Text_isDigit_16 at h
  unfold n_isDigit
  rw [u_within, cp_s]
  have e : (if nn c < 48 then 0 else if 57 < nn c then 0 else 1) = ib (dg c) := by
    by_cases a : nn c < 48
    · rw [if_pos a] at h ⊢; exact Option.some.inj h
    · rw [if_neg a] at h ⊢
      by_cases b : 57 < nn c
      · rw [if_pos b] at h ⊢; exact Option.some.inj h
      · rw [if_neg b] at h ⊢; exact Option.some.inj h
  rw [e]
  cases dg c with
  | false => exact bz_0
  | true => exact bz_1
def wn (q : Nat) : Nat := if q = 0 then 0 else if q = 1 then 1 else if q = 2 then 2 else if q < 7 then 3 else 4
/-- the class's grammar stands at state q with o open -/
def eG (q o : Nat) (S : gx_S) : Prop := S 76 0 = nn (wn q) ∧ S 76 1 = nn o ∧ (2 ≤ q → q ≤ 6 → S 76 2 = nn (q - 2))
def f76 (S T : gx_S) : Prop := ∀ q j, q ≠ 76 → T q j = S q j
theorem nn_ix {c k : Nat} (hc : c < 1000) (hk : k < 1000) : (nn c = nn k) = (c = k) := by rw [nn_eq (by omega) (by omega)]
/-- a step's outcome -/
def tkn (q o c : Nat) (S : gx_S) (t : Int32 × gx_S) : Prop := f76 S t.2 ∧ (match tr q o c with
  | some s => t.1 = 1 ∧ eG s.1 s.2 t.2
  | none => t.1 = 0)
theorem tkn_y {q o c q' o' : Nat} {S T : gx_S} {x : Int32} (ht : tr q o c = some (q', o')) (hf : f76 S T) (h0 : T 76 0 = nn (wn q')) (h1 : T 76 1 = nn o') (h2 : 2 ≤ q' → q' ≤ 6 → T 76 2 = nn (q' - 2)) (hx : x = 1) : tkn q o c S (x, T) := by
  refine ⟨hf, ?_⟩
  rw [ht]
  exact ⟨hx, h0, h1, h2⟩
theorem tkn_n {q o c : Nat} {S T : gx_S} {x : Int32} (ht : tr q o c = none) (hf : f76 S T) (hx : x = 0) : tkn q o c S (x, T) := by
  refine ⟨hf, ?_⟩
  rw [ht]
  exact hx
theorem f76_st {S T : gx_S} (h : f76 S T) (j : Nat) (x : Int32) : f76 S (gx_st T 76 j x) := fun q i hq => by rw [gx_st_q _ _ _ _ hq]; exact h q i hq
theorem x_takesFactor {o c : Nat} {S : gx_S} (ho : o < 100) (hc : c < 1000) (e : eG 0 o S) : gt (m_Grammar_takesFactor (nn c) S) (tkn 0 o c S) := by
  obtain ⟨e0, e1, _⟩ := e
  unfold m_Grammar_takesFactor m_Grammar_takesFactor_55
  have f0 : f76 S S := fun _ _ _ => rfl
  simp only [show (40 : Int32) = nn 40 from rfl, show (33 : Int32) = nn 33 from rfl, show (115 : Int32) = nn 115 from rfl, show (111 : Int32) = nn 111 from rfl, show (114 : Int32) = nn 114 from rfl, show (100 : Int32) = nn 100 from rfl, let_s, e1, nn_s]
  simp (disch := omega) only [nn_eq]
  by_cases c40 : c = 40
  · subst c40
    rw [if_pos rfl]
    have ht : tr 0 o 40 = some (0, o + 1) := by unfold tr; rw [if_pos rfl, if_neg (by decide), if_pos rfl]
    exact gt_some (tkn_y ht (f76_st f0 _ _) (by rw [gx_st_j _ _ _ (by omega)]; exact e0) (gx_st_eq _ _ _ _) (fun h => absurd h (by decide)) rfl)
  · rw [if_neg c40]
    by_cases c33 : c = 33
    · subst c33
      rw [if_pos rfl]
      have ht : tr 0 o 33 = some (0, o) := by unfold tr; rw [if_pos rfl, if_pos rfl]
      exact gt_some (tkn_y ht f0 e0 e1 (fun h => absurd h (by decide)) rfl)
    · rw [if_neg c33]
      have yes : nam c → tkn 0 o c S (1, gx_st S 76 0 1) := fun hn => by
        have ht : tr 0 o c = some (1, o) := by unfold tr; rw [if_pos rfl, if_neg c33, if_neg c40, if_pos hn]
        exact tkn_y ht (f76_st f0 _ _) (gx_st_eq _ _ _ _) (by rw [gx_st_j _ _ _ (by omega)]; exact e1) (fun h => absurd h (by decide)) rfl
      refine gt_ite (fun h => gt_some (yes (Or.inl h))) (fun h1 => gt_ite (fun h => gt_some (yes (Or.inr (Or.inl h)))) (fun h2 => gt_ite (fun h => gt_some (yes (Or.inr (Or.inr (Or.inl h))))) (fun h3 => gt_ite (fun h => gt_some (yes (Or.inr (Or.inr (Or.inr h))))) (fun h4 => gt_some (tkn_n ?_ (f76_st f0 _ _) rfl)))))
      unfold tr
      rw [if_pos rfl, if_neg c33, if_neg c40, if_neg]
      rintro (h | h | h | h)
      · exact h1 h
      · exact h2 h
      · exact h3 h
      · exact h4 h
theorem x_takesDigit {q o c : Nat} {S : gx_S} (ho : o < 100) (hc : c < 1000) (hq : 2 ≤ q) (hq6 : q ≤ 6) (e : eG q o S) : gt (m_Grammar_takesDigit (nn c) S) (fun t => (q < 6 ∧ dg c = true ∧ t.1 = 1 ∧ f76 S t.2 ∧ eG (q + 1) o t.2) ∨ (¬ (q < 6 ∧ dg c = true) ∧ t.1 = 0 ∧ t.2 = S)) := by
  obtain ⟨e0, e1, e2⟩ := e
  have e2 := e2 hq hq6
  unfold m_Grammar_takesDigit
  rw [x_isDigit hc, cp_s]
  simp only [ib_0]
  have f0 : f76 S S := fun _ _ _ => rfl
  cases hd : dg c with
  | false => rw [if_pos rfl]; exact gt_some (Or.inr ⟨fun z => absurd z.2 (by decide), rfl, rfl⟩)
  | true =>
    rw [if_neg (by decide), e2, show (4 : Int32) = nn 4 from rfl]
    simp (disch := omega) only [nn_lt]
    by_cases h6 : q - 2 < 4
    · rw [if_pos h6]
      simp only [let_s]
      rw [gx_st_j _ _ _ (by omega), e2, nn_s]
      refine gt_some (Or.inl ⟨by omega, trivial, rfl, f76_st (f76_st f0 _ _) _ _, ?_, ?_, fun h1 h2 => ?_⟩)
      · simp only
        rw [gx_st_j _ _ _ (by omega), gx_st_eq]
        unfold wn
        rw [if_neg (by omega), if_neg (by omega), if_neg (by omega), if_pos (by omega)]
        rfl
      · simp only
        rw [gx_st_j _ _ _ (by omega), gx_st_j _ _ _ (by omega)]; exact e1
      · simp only
        rw [gx_st_eq, show q + 1 - 2 = q - 2 + 1 by omega]
    · rw [if_neg h6]
      exact gt_some (Or.inr ⟨fun z => by omega, rfl, rfl⟩)
theorem x_takesBehind {q o c : Nat} {S : gx_S} (ho : o < 100) (hc : c < 1000) (hq : 2 < q) (hd : ¬ (q < 6 ∧ dg c = true)) (e1 : S 76 1 = nn o) : gt (m_Grammar_takesBehind (nn c) S) (tkn q o c S) := by
  have f0 : f76 S S := fun _ _ _ => rfl
  have t0 : tr q o c = haveI := Classical.propDecidable; if 2 < q ∧ (c = 38 ∨ c = 124) then some (0, o) else if 2 < q ∧ c = 41 ∧ 0 < o then some (7, o - 1) else none := by
    unfold tr
    rw [if_neg (by omega), if_neg (by omega), if_neg hd]
  have no : c ≠ 41 ∨ o = 0 → gt (m_Grammar_takesBehind_30 (nn c) S) (tkn q o c S) := fun hno => by
    unfold m_Grammar_takesBehind_30 m_Grammar_takesBehind_47
    simp only [let_s, show (124 : Int32) = nn 124 from rfl, show (38 : Int32) = nn 38 from rfl]
    simp (disch := omega) only [nn_eq]
    have yes : (c = 38 ∨ c = 124) → tkn q o c S (1, gx_st S 76 0 0) := fun hy => by
      exact tkn_y (q' := 0) (o' := o) (by rw [t0, if_pos ⟨hq, hy⟩]) (f76_st f0 _ _) (gx_st_eq _ _ _ _) (by rw [gx_st_j _ _ _ (by omega)]; exact e1) (fun h => absurd h (by decide)) rfl
    refine gt_ite (fun h => gt_some (yes (Or.inr h))) (fun h1 => gt_ite (fun h => gt_some (yes (Or.inl h))) (fun h2 => gt_some (tkn_n ?_ (f76_st f0 _ _) rfl)))
    rw [t0, if_neg (by omega), if_neg (by omega)]
  unfold m_Grammar_takesBehind
  rw [e1]
  simp only [show (41 : Int32) = nn 41 from rfl, nn_0]
  simp (disch := omega) only [nn_eq, nn_le]
  by_cases c41 : c = 41
  · rw [if_pos c41]
    by_cases ho0 : o ≤ 0
    · rw [if_pos ho0]
      exact no (Or.inr (by omega))
    · rw [if_neg ho0]
      simp only [let_s]
      rw [nn_p (by omega)]
      exact gt_some (tkn_y (q' := 7) (o' := o - 1) (by rw [t0, if_neg (by omega), if_pos ⟨hq, c41, by omega⟩]) (f76_st (f76_st f0 _ _) _ _) (gx_st_eq _ _ _ _) (by rw [gx_st_j _ _ _ (by omega), gx_st_eq]) (fun _ h => absurd h (by decide)) rfl)
  · rw [if_neg c41]
    exact no (Or.inl c41)
theorem gt_bz {R : Type} {y : Int32} {k : Option R} {P : R → Prop} (h0 : y = 0 ∨ y = 1) (h : gt k P) : gt (gx_bz y k) P := by
  unfold gx_bz
  rw [if_pos h0]; exact h
theorem tkn_01 {q o c : Nat} {S : gx_S} {t : Int32 × gx_S} (h : tkn q o c S t) : t.1 = 0 ∨ t.1 = 1 := by
  obtain ⟨_, h⟩ := h
  split at h
  · exact Or.inr h.1
  · exact Or.inl h
theorem x_takes {q o c : Nat} {S : gx_S} (hq : q ≤ 7) (ho : o < 100) (hc : c < 1000) (e : eG q o S) : gt (m_Grammar_takes (nn c) S) (tkn q o c S) := by
  have f0 : f76 S S := fun _ _ _ => rfl
  unfold m_Grammar_takes m_Grammar_takes_70 m_Grammar_takes_98
  rw [e.1]
  simp only [nn_0, show (1 : Int32) = nn 1 from rfl, show (2 : Int32) = nn 2 from rfl, show (3 : Int32) = nn 3 from rfl]
  have hw : wn q < 5 := by unfold wn; repeat' split
                           all_goals omega
  simp (disch := omega) only [nn_eq]
  by_cases q0 : q = 0
  · subst q0
    rw [if_pos (show wn 0 = 0 from rfl)]
    refine gt_cs (x_takesFactor ho hc e) (fun a T h => ?_)
    exact gt_bz (tkn_01 h) (gt_some h)
  · by_cases q1 : q = 1
    · subst q1
      rw [if_neg (by decide), if_pos (by decide)]
      obtain ⟨e0, e1, _⟩ := e
      simp only [let_s, show (60 : Int32) = nn 60 from rfl, show (61 : Int32) = nn 61 from rfl, show (62 : Int32) = nn 62 from rfl]
      simp (disch := omega) only [nn_eq]
      have t0 : tr 1 o c = haveI := Classical.propDecidable; if sgn c then some (2, o) else none := by
        unfold tr
        rw [if_neg (by decide), if_pos rfl]
      have yes : sgn c → tkn 1 o c S (nn 1, gx_st (gx_st S 76 0 (nn 2)) 76 2 (nn 0)) := fun hy => by
        exact tkn_y (q' := 2) (o' := o) (by rw [t0, if_pos hy]) (f76_st (f76_st f0 _ _) _ _) (by rw [gx_st_j _ _ _ (by omega), gx_st_eq]; rfl) (by rw [gx_st_j _ _ _ (by omega), gx_st_j _ _ _ (by omega)]; exact e1) (fun _ _ => gx_st_eq _ _ _ _) rfl
      refine gt_ite (fun h => gt_some (yes (Or.inl h))) (fun h1 => gt_ite (fun h => gt_some (yes (Or.inr (Or.inl h)))) (fun h2 => gt_ite (fun h => gt_some (yes (Or.inr (Or.inr h)))) (fun h3 => gt_some (tkn_n ?_ (f76_st (f76_st f0 _ _) _ _) rfl))))
      have hn : ¬ sgn c := by
        rintro (h | h | h)
        · exact h1 h
        · exact h2 h
        · exact h3 h
      rw [t0, if_neg hn]
    · by_cases q2 : q = 2
      · subst q2
        rw [if_neg (by decide), if_neg (by decide), if_pos (by decide)]
        refine gt_cs (x_takesDigit ho hc (by decide) (by decide) e) (fun a T h => ?_)
        simp only at h
        rcases h with ⟨h1, h2, h3, h4, h5⟩ | ⟨h1, h2, h3⟩
        · have ht : tr 2 o c = some (3, o) := by
            unfold tr
            rw [if_neg (by decide), if_neg (by decide), if_pos ⟨h1, h2⟩]
          exact gt_bz (Or.inr h3) (gt_some (tkn_y ht h4 h5.1 h5.2.1 h5.2.2 h3))
        · have ht : tr 2 o c = none := by
            unfold tr
            rw [if_neg (by decide), if_neg (by decide), if_neg h1, if_neg (by omega), if_neg (by omega)]
          exact gt_bz (Or.inl h2) (gt_some (tkn_n ht (by rw [h3]; exact f0) h2))
      · by_cases q7 : q = 7
        · subst q7
          rw [if_neg (by decide), if_neg (by decide), if_neg (by decide), if_neg (by decide)]
          refine gt_cs (x_takesBehind (q := 7) ho hc (by decide) (by omega) e.2.1) (fun a T h => ?_)
          exact gt_bz (tkn_01 h) (gt_some h)
        · have w3 : wn q = 3 := by
            unfold wn
            rw [if_neg q0, if_neg q1, if_neg q2, if_pos (by omega)]
          rw [w3, if_neg (by decide), if_neg (by decide), if_neg (by decide), if_pos rfl]
          refine gt_cs (x_takesDigit ho hc (by omega) (by omega) e) (fun a T h => ?_)
          simp only at h
          rcases h with ⟨h1, h2, h3, h4, h5⟩ | ⟨h1, h2, h3⟩
          · have ht : tr q o c = some (q + 1, o) := by
              unfold tr
              rw [if_neg q0, if_neg q1, if_pos ⟨h1, h2⟩]
            rw [h3, if_neg (by decide)]
            exact gt_some (tkn_y ht h4 h5.1 h5.2.1 h5.2.2 rfl)
          · subst h3
            rw [h2, if_pos (show (0 : Int32) = nn 0 from rfl)]
            refine gt_cs (x_takesBehind (q := q) ho hc (by omega) h1 e.2.1) (fun b U h => ?_)
            obtain ⟨g1, g2⟩ := h
            simp only at g1 g2
            refine gt_ite (fun z => gt_some ⟨g1, ?_⟩) (fun z => gt_some ⟨g1, ?_⟩)
            · cases ht : tr q o c with
              | none => rfl
              | some s =>
                rw [ht] at g2
                simp only at g2
                rw [g2.1] at z
                exact absurd z (by decide)
            · cases ht : tr q o c with
              | none =>
                rw [ht] at g2
                exact absurd g2 z
              | some s =>
                rw [ht] at g2
                exact ⟨rfl, g2.2⟩

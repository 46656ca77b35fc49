/-! b40: the digest -/
def mx (h v : Int64) : Int64 := (31 : Int64) * h + v
def fo (f : Nat → Int64 → Int64) : Nat → Int64 → Int64
  | 0, h => h
  | n + 1, h => f n (fo f n h)
theorem fo_s (f : Nat → Int64 → Int64) (n : Nat) (h : Int64) : fo f (n + 1) h = f n (fo f n h) := rfl
theorem fo_z (f : Nat → Int64 → Int64) (h : Int64) : fo f 0 h = h := rfl
theorem mix_e (h v : Int64) (S : gx_S) : m_ShopsAsOne_mix h v S = some (mx h v) := rfl
theorem lp_fo {R : Type} {body : Int64 × Int32 → (Int64 × Int32 → Option R) → Option R} {o : Option R} (n : Nat) (f : Nat → Int64 → Int64) (h : Int64) (hb : ∀ j k, j < n → body (fo f j h, nn j) k = k (fo f (j + 1) h, nn (j + 1))) (he : ∀ k, body (fo f n h, nn n) k = o) (hn : n < 1000) : gx_loop body 5000 (h, 0) = o := by
  have := lp_for (body := body) n (fun j => (fo f j h, nn j)) hb he 0 5000 (by omega) (by omega)
  exact this
theorem fo_id {f : Nat → Int64 → Int64} : ∀ {n : Nat} {h : Int64}, (∀ j h, j < n → f j h = h) → fo f n h = h
  | 0, _, _ => rfl
  | n + 1, h, hf => by
    show f n (fo f n h) = h
    rw [hf n _ (by omega)]
    exact fo_id (fun j h hj => hf j h (by omega))
def abv (G D : gx_S) (k : Nat) (y : Int32) : Int32 := if y = 0 then D 2 k else if y = 1 then G 4 k else if y = 2 then G 5 k else if y = 3 then D 1 k else if y = 4 then ib (opn G D k) else sl G D k
def E1 (A : rA) (j : Nat) (h : Int64) : Int64 := mx (mx (mx h (qG A 2 j).toInt64) (qG A 3 j).toInt64) (pro (qG A) (qD A) j).toInt64
def e2 (A : rA) (k i : Nat) (h : Int64) : Int64 := mx h (abv (qG A) (qD A) k (nn i)).toInt64
def E2 (A : rA) (k : Nat) (h : Int64) : Int64 := fo (e2 A k) 6 h
def e3 (A : rA) (s i : Nat) (h : Int64) : Int64 := mx h (qG A (6 + i) s).toInt64
def E3 (A : rA) (s : Nat) (h : Int64) : Int64 := mx (mx (fo (e3 A s) 6 h) (cho (qG A) (qD A) s (-1)).toInt64) (spa (qG A) (qD A) s).toInt64
noncomputable def e4 (A : rA) (t a b : Nat) (h : Int64) : Int64 := if a < b then mx h (if barV A t a b = true then 1 else 0) else h
noncomputable def d4 (A : rA) (t a : Nat) (h : Int64) : Int64 := fo (e4 A t a) (nO (qG A)) h
noncomputable def E4 (A : rA) (t : Nat) (h : Int64) : Int64 := fo (d4 A t) (nO (qG A)) h
def E5 (A : rA) (j : Nat) (h : Int64) : Int64 := mx h (nn (qL A j)).toInt64
def E6 (A : rA) (i : Nat) (h : Int64) : Int64 := mx h (hmV A (nn i)).toInt64
theorem E1_e (A : rA) (j : Nat) (h : Int64) : mx (mx (mx h (qG A 2 j).toInt64) (qG A 3 j).toInt64) (pro (qG A) (qD A) j).toInt64 = E1 A j h := rfl
theorem e2_e (A : rA) (k i : Nat) (h : Int64) : mx h (abv (qG A) (qD A) k (nn i)).toInt64 = e2 A k i h := rfl
theorem E2_e (A : rA) (k : Nat) (h : Int64) : fo (e2 A k) 6 h = E2 A k h := rfl
theorem e3_e (A : rA) (s i : Nat) (h : Int64) : mx h (qG A (6 + i) s).toInt64 = e3 A s i h := rfl
theorem E3_e (A : rA) (s : Nat) (h : Int64) : mx (mx (fo (e3 A s) 6 h) (cho (qG A) (qD A) s (-1)).toInt64) (spa (qG A) (qD A) s).toInt64 = E3 A s h := rfl
theorem E3_6 (A : rA) (s : Nat) (h : Int64) : mx (mx (mx (mx (mx (mx h (qG A 6 s).toInt64) (qG A 7 s).toInt64) (qG A 8 s).toInt64) (qG A 9 s).toInt64) (qG A 10 s).toInt64) (qG A 11 s).toInt64 = fo (e3 A s) 6 h := by
  rw [fo_s, fo_s, fo_s, fo_s, fo_s, fo_s, fo_z]
  rfl
theorem d4_e (A : rA) (t a : Nat) (h : Int64) : fo (e4 A t a) (nO (qG A)) h = d4 A t a h := rfl
theorem E4_e (A : rA) (t : Nat) (h : Int64) : fo (d4 A t) (nO (qG A)) h = E4 A t h := rfl
theorem E5_e (A : rA) (j : Nat) (h : Int64) : mx h (nn (qL A j)).toInt64 = E5 A j h := rfl
theorem E6_e (A : rA) (i : Nat) (h : Int64) : mx h (hmV A (nn i)).toInt64 = E6 A i h := rfl
theorem abv_e (G D : gx_S) (k : Nat) (y : Int32) : (if y = 0 then D 2 k else if y = 1 then G 4 k else if y = 2 then G 5 k else if y = 3 then D 1 k else if y = 4 then ib (opn G D k) else sl G D k) = abv G D k y := rfl
theorem e4_0 (A : rA) (t a : Nat) (h : Int64) : fo (e4 A t a) (a + 1) h = h := fo_id (fun j h hj => by unfold e4; rw [if_neg (by omega)])
theorem no_shop {n : Nat} (hn : n < 1000) {S : gx_S} (hS : S 1 1 = nn n) {k : Nat} (hk : k < n) : m_ShopsAsOne_isNoShop (nn k) S = some 0 := by
  unfold m_ShopsAsOne_isNoShop
  rw [hS]
  rcases chk hn (nn k) S S with ⟨_, _, _, m3, _⟩ | ⟨m3, m4⟩
  · rw [m3]; exact bz_0
  · exfalso
    rw [u_within, if_neg (by rw [nn_0, nn_lt (by omega) (by omega)]; omega), nn_p (by omega), if_neg (by rw [nn_lt (by omega) (by omega)]; omega)] at m4
    exact absurd (Option.some.inj m4) (by decide)
theorem x_mixStreet {A : rA} {S : gx_S} (hA : RA A) (hS : RS A S) (h : Int64) : m_ShopsAsOne_mixStreet h S = some (fo (E2 A) (nP (qG A)) (fo (E1 A) (nO (qG A)) h)) := by
  have hO := (wG_O hA.1).2
  have hP := (wG_P hA.1).2
  have c := RS_c hA hS
  have p := pX_R hA hS
  unfold m_ShopsAsOne_mixStreet
  refine lp_fo (nO (qG A)) (E1 A) h (fun j k hj => ?_) (fun k => ?_) (by omega)
  · simp only [m_ShopsAsOne_mixStreet_5]
    have v := p.2.2.1.1
    rw [c.1, if_neg (show ¬ nn (nO (qG A)) ≤ nn j by rw [nn_le (by omega) (by omega)]; omega), ck_n (by omega) (by omega), nn_c (by omega), v _ _ (by omega) (by omega), v _ _ (by omega) (by omega), x_profitOf p (by omega), nn_s, mix_e, cp_s, mix_e, cp_s, cp_s, mix_e, cp_s, E1_e, fo_s]
  · simp only [m_ShopsAsOne_mixStreet_5]
    rw [c.1, if_pos (Int32.le_refl _)]
    clear k
    refine lp_fo (nP (qG A)) (E2 A) (fo (E1 A) (nO (qG A)) h) (fun k kk hk => ?_) (fun k => ?_) (by omega)
    · simp only [m_ShopsAsOne_mixStreet_73]
      rw [c.2.1, if_neg (show ¬ nn (nP (qG A)) ≤ nn k by rw [nn_le (by omega) (by omega)]; omega)]
      refine lp_fo 6 (e2 A k) (fo (E2 A) k (fo (E1 A) (nO (qG A)) h)) (fun i ki hi => ?_) (fun ki => ?_) (by omega)
      · simp only [m_ShopsAsOne_mixStreet_88]
        have hy : (0 : Int32) ≤ nn i ∧ nn i ≤ 5 := nn_b (k := i) (b := 5) (by omega) (by decide)
        rw [if_neg (show ¬ (5 : Int32) < nn i by rw [show (5 : Int32) = nn 5 from rfl, nn_lt (by omega) (by omega)]; omega), x_about p hk (nn i) (no_shop (by omega) c.2.1 hk), if_pos hy, nn_s, abv_e, cp_s, mix_e, cp_s, e2_e, fo_s]
      · simp only [m_ShopsAsOne_mixStreet_88]
        rw [if_pos (show (5 : Int32) < nn 6 by decide), nn_s, E2_e, fo_s]
    · simp only [m_ShopsAsOne_mixStreet_73]
      rw [c.2.1, if_pos (Int32.le_refl _)]
theorem x_mixSorts {A : rA} {S : gx_S} (hA : RA A) (hS : RS A S) (h : Int64) : m_ShopsAsOne_mixSorts h S = some (fo (E3 A) (nS (qG A)) h) := by
  have hN := (wG_S hA.1).2
  have c := RS_c hA hS
  have p := pX_R hA hS
  have v := p.2.2.1.1
  unfold m_ShopsAsOne_mixSorts
  refine lp_fo (nS (qG A)) (E3 A) h (fun s k hs => ?_) (fun k => ?_) (by omega)
  · simp only [m_ShopsAsOne_mixSorts_5]
    rw [c.2.2, if_neg (show ¬ nn (nS (qG A)) ≤ nn s by rw [nn_le (by omega) (by omega)]; omega), ck_n (by omega) (by omega), nn_c (by omega), v _ _ (by omega) (by omega), v _ _ (by omega) (by omega), v _ _ (by omega) (by omega), v _ _ (by omega) (by omega), v _ _ (by omega) (by omega), v _ _ (by omega) (by omega), x_choice p hs, x_spareOf p hs, nn_s]
    simp only [mix_e, cp_s]
    rw [E3_6, E3_e, fo_s]
  · simp only [m_ShopsAsOne_mixSorts_5]
    rw [c.2.2, if_pos (Int32.le_refl _)]
theorem x_mixTests {A : rA} {S : gx_S} (hA : RA A) (hS : RS A S) (h : Int64) : gt (m_ShopsAsOne_mixTests h S) fun r => r.1 = fo (E4 A) (qc A) h ∧ fW S r.2 := by
  have hO := (wG_O hA.1).2
  have hc := hA.2.2.2.2.1
  have fW_t : ∀ {X Y Z : gx_S}, fW X Y → fW Y Z → fW X Z := fun f g q j a => (g q j a).trans (f q j a)
  unfold m_ShopsAsOne_mixTests
  refine gt_for (qc A) (fun t τ => τ.1 = fo (E4 A) t h ∧ τ.2.1 = nn t ∧ fW S τ.2.2) ?_ ?_ 0 5000 _ (by omega) ⟨rfl, rfl, fun _ _ _ => rfl⟩ (by omega)
  · rintro t ⟨_, _, U⟩ k5 ht ⟨rfl, rfl, f⟩ hk5
    simp only at f
    simp only [m_ShopsAsOne_mixTests_5]
    have e : U 0 10 = nn (qc A) := by rw [f _ _ (by omega)]; exact hS.2.2.2.1
    rw [e, if_neg (show ¬ nn (qc A) ≤ nn t by rw [nn_le (by omega) (by omega)]; omega)]
    refine gt_for (nO (qG A)) (fun a τ => τ.1 = fo (d4 A t) a (fo (E4 A) t h) ∧ τ.2.1 = nn a ∧ fW S τ.2.2) ?_ ?_ 0 5000 _ (by omega) ⟨rfl, rfl, f⟩ (by omega)
    · rintro a ⟨_, _, V⟩ k17 ha ⟨rfl, rfl, f1⟩ hk17
      simp only at f1
      simp only [m_ShopsAsOne_mixTests_17]
      have e1 : V 1 0 = nn (nO (qG A)) := by rw [f1 _ _ (by omega)]; exact (RS_c hA hS).1
      rw [e1, if_neg (show ¬ nn (nO (qG A)) ≤ nn a by rw [nn_le (by omega) (by omega)]; omega), nn_s]
      refine gt_for (nO (qG A)) (fun b τ => a < b ∧ τ.1 = fo (e4 A t a) b (fo (d4 A t) a (fo (E4 A) t h)) ∧ τ.2.1 = nn b ∧ fW S τ.2.2) ?_ ?_ (a + 1) 5000 _ (by omega) ⟨by omega, (e4_0 A t a (fo (d4 A t) a (fo (E4 A) t h))).symm, rfl, f1⟩ (by omega)
      · rintro b ⟨_, _, W⟩ k35 hb ⟨hab, rfl, rfl, f2⟩ hk35
        simp only at f2
        simp only [m_ShopsAsOne_mixTests_35]
        have hW := RS_P hA.1 hc hS (fW_P f2)
        rw [(RS_c hA hW).1, if_neg (show ¬ nn (nO (qG A)) ≤ nn b by rw [nn_le (by omega) (by omega)]; omega)]
        refine gt_cs (x_isBarred hA hW ht ha hb) (fun v X hX => ?_)
        obtain ⟨e2', f3⟩ := hX
        simp only at e2' f3
        have nx : ∀ z : Int64, z = (if barV A t a b = true then 1 else 0) → gt (m_ShopsAsOne_mixTests_66 k5 k17 k35 (nn t) (nn a) (nn b) (fo (e4 A t a) b (fo (d4 A t) a (fo (E4 A) t h))) z X) (fun r => r.1 = fo (E4 A) (qc A) h ∧ fW S r.2) := fun z hz => by
          unfold m_ShopsAsOne_mixTests_66
          rw [show m_ShopsAsOne_mix (fo (e4 A t a) b (fo (d4 A t) a (fo (E4 A) t h))) z X = some (mx (fo (e4 A t a) b (fo (d4 A t) a (fo (E4 A) t h))) z) from rfl, cp_s, nn_s]
          refine hk35 (_, _, _) ⟨by omega, ?_, rfl, fW_t f2 f3⟩
          simp only
          rw [fo_s]
          unfold e4
          rw [if_pos hab, hz]
        rw [e2']
        cases hb2 : barV A t a b with
        | false =>
          rw [if_pos (show ib false = 0 from rfl)]
          exact nx 0 (by rw [hb2]; rfl)
        | true =>
          rw [if_neg (show ¬ ib true = 0 from i10)]
          exact nx 1 (by rw [hb2]; rfl)
      · rintro ⟨_, _, W⟩ k35 ⟨_, rfl, rfl, f2⟩
        simp only at f2
        simp only [m_ShopsAsOne_mixTests_35]
        have e2' : W 1 0 = nn (nO (qG A)) := by rw [f2 _ _ (by omega)]; exact (RS_c hA hS).1
        rw [e2', if_pos (Int32.le_refl _), nn_s]
        rw [d4_e]
        exact hk17 (_, _, _) ⟨(fo_s (d4 A t) a (fo (E4 A) t h)).symm, rfl, f2⟩
    · rintro ⟨_, _, V⟩ k17 ⟨rfl, rfl, f1⟩
      simp only at f1
      simp only [m_ShopsAsOne_mixTests_17]
      have e1 : V 1 0 = nn (nO (qG A)) := by rw [f1 _ _ (by omega)]; exact (RS_c hA hS).1
      rw [e1, if_pos (Int32.le_refl _), nn_s]
      rw [E4_e]
      exact hk5 (_, _, _) ⟨(fo_s (E4 A) t h).symm, rfl, f1⟩
  · rintro ⟨_, _, U⟩ k5 ⟨rfl, rfl, f⟩
    simp only at f
    simp only [m_ShopsAsOne_mixTests_5]
    have e : U 0 10 = nn (qc A) := by rw [f _ _ (by omega)]; exact hS.2.2.2.1
    rw [e, if_pos (Int32.le_refl _)]
    exact gt_some ⟨rfl, f⟩
/-- the whole digest -/
noncomputable def dgV (A : rA) : Int64 := fo (E6 A) 7 (fo (E5 A) (qn A) (fo (E4 A) (qc A) (fo (E3 A) (nS (qG A)) (fo (E2 A) (nP (qG A)) (fo (E1 A) (nO (qG A)) 373)))))
theorem x_digest {A : rA} {S : gx_S} (hA : RA A) (hS : RS A S) : gt (m_ShopsAsOne_digest S) fun r => r.1 = dgV A ∧ fW S r.2 := by
  have hc := hA.2.2.2.2.1
  unfold m_ShopsAsOne_digest
  rw [x_mixStreet hA hS, cp_s, x_mixSorts hA hS, cp_s]
  refine gt_cs (x_mixTests hA hS _) (fun h S1 hS1 => ?_)
  obtain ⟨e, f⟩ := hS1
  simp only at e f
  have hS1 := RS_P hA.1 hc hS (fW_P f)
  have e1 : S1 66 1 = nn (qn A) := hS1.2.2.1.2.1
  have hn := hS1.2.2.1.1
  rw [show gx_loop (m_ShopsAsOne_digest_22 S1) 5000 (h, 0) = some (dgV A, S1) from ?_]
  · exact gt_some ⟨rfl, f⟩
  · refine lp_fo (qn A) (E5 A) h (fun j k hj => ?_) (fun k => ?_) (by omega)
    · simp only [m_ShopsAsOne_digest_22]
      have e2' : S1 67 j = nn (qL A j) := (hS1.2.2.1.2.2 j hj).1
      rw [e1, if_neg (show ¬ nn (qn A) ≤ nn j by rw [nn_le (by omega) (by omega)]; omega), ck_n (by omega) (by omega), nn_c (by omega), e2', nn_s, mix_e, cp_s, E5_e, fo_s]
    · simp only [m_ShopsAsOne_digest_22]
      rw [e1, if_pos (Int32.le_refl _)]
      clear k
      refine lp_fo 7 (E6 A) (fo (E5 A) (qn A) h) (fun i k hi => ?_) (fun k => ?_) (by omega)
      · simp only [m_ShopsAsOne_digest_56]
        rw [if_neg (show ¬ (6 : Int32) < nn i by rw [show (6 : Int32) = nn 6 from rfl, nn_lt (by omega) (by omega)]; omega), x_count hA hS1, nn_s, cp_s, mix_e, cp_s, E6_e, fo_s]
      · simp only [m_ShopsAsOne_digest_56]
        rw [if_pos (show (6 : Int32) < nn 7 by decide), e]
        unfold dgV
        rfl

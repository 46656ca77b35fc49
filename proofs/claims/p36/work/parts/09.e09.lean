/-! e09: the law's telling, whole; the law -/
theorem gnz {R : Type} {n : Nat} {y : Option R} (h1 : 1 ≤ n) (h2 : n < 1000) : gx_nz (nn n) y = y := by
  unfold gx_nz
  rw [if_neg (by rw [nn_0, nn_eq (by omega) (by omega)]; omega)]
abbrev tQ (z : gx_S × gx_S) : Prop := ∃ G D, KX G D z.1 ∧ LX G D z.2 ∧ 1 ≤ nO G
theorem p_345 {m p ns : Nat} {S R : gx_S} (h : TR m p 0 S R) (hm1 : 1 ≤ m) (hm : m ≤ 6) (hp : p ≤ 6) (hn : ns ≤ 8) (r0 : R 0 0 = nn m) (r1 : R 0 1 = nn p) (r2 : R 0 2 = nn ns) {xs : Nat → Int32} {L : Nat} (hL : L ≤ 260) : gt (gx_loop (r_tell_345 xs L) 5000 (0, S, R)) tQ := by
  refine gt_for ns (fun s t => t.1 = nn s ∧ TR m p s t.2.1 t.2.2 ∧ t.2.2 0 = R 0) ?_ ?_ 0 5000 _ (by omega) ⟨rfl, h, rfl⟩ (by omega)
  · rintro s ⟨_, U, V⟩ kk hs ⟨rfl, hU, hV⟩ hk
    simp only at hU hV
    obtain ⟨a, ha, ec⟩ := l_cell xs L (11 + s) hL (by omega)
    have v1 : V 0 1 = nn p := by rw [hV]; exact r1
    have v2 : V 0 2 = nn ns := by rw [hV]; exact r2
    have q10 : nn a - nn a / 10 * 10 = nn (a % 10) := nn_rem (d := 10) ha (by omega) (by omega)
    have q16 : nn a / 16 - nn a / 16 / 50 * 50 = nn (a / 16 % 50) := nn_q (d := 16) (e := 50) ha (by omega) (by omega) (by omega) (by omega)
    have q1024 : nn a / 1024 - nn a / 1024 / 4 * 4 = nn (a / 1024 % 4) := nn_q (d := 1024) (e := 4) ha (by omega) (by omega) (by omega) (by omega)
    have q4096 : nn a / 4096 - nn a / 4096 / 25 * 25 = nn (a / 4096 % 25) := nn_q (d := 4096) (e := 25) ha (by omega) (by omega) (by omega) (by omega)
    have q2m : nn a / 2097152 - nn a / 2097152 / 10 * 10 = nn (a / 2097152 % 10) := nn_q (d := 2097152) (e := 10) ha (by omega) (by omega) (by omega) (by omega)
    simp only [r_tell_345, r_tell_446, jk_1, jk_2, jl_1, jl_2]
    rw [v2, if_neg (by rw [nn_le (by omega) (by omega)]; omega), ja_11, ec, cp_s]
    simp (disch := omega) only [q10, q16, q1024, q4096, ja_1, jm_6, jb_1, jb_2, jb_3, jb_4, jb_5, ck_n, nn_c, let_s]
    obtain ⟨T14, h14⟩ : ∃ T14, T14 = gx_st (gx_st (gx_st (gx_st V 1 (6 * s) (nn (a % 10))) 1 (6 * s + 1) (nn (1 + a / 16 % 50))) 1 (6 * s + 2) (nn (a / 1024 % 4))) 1 (6 * s + 3) (nn (a / 4096 % 25)) := ⟨_, rfl⟩
    rw [← h14]
    have t1 : T14 0 1 = nn p := by
      rw [h14]
      simp (disch := omega) only [gx_st_q]; exact v1
    have key : ∀ li, (li = -1 ∨ ∃ k, k < p ∧ li = nn k) → gt (r_tell_459 xs L kk (nn s) (nn a) (nn (6 * s)) (nn (6 * s + 4)) li U T14) tQ := fun li hl => by
      unfold r_tell_459
      simp (disch := omega) only [q2m, jb_1, jb_2, jb_3, jb_4, jb_5, ck_n, nn_c, let_s]
      obtain ⟨R', hR'⟩ : ∃ R', R' = gx_st (gx_st T14 1 (6 * s + 4) li) 1 (6 * s + 5) (nn (a / 2097152 % 10)) := ⟨_, rfl⟩
      rw [← hR']
      have g0 : R' 1 (6 * s) = nn (a % 10) := by rw [hR', h14]; simp (disch := omega) only [gx_st_j, gx_st_eq]
      have g1 : R' 1 (6 * s + 1) = nn (1 + a / 16 % 50) := by rw [hR', h14]; simp (disch := omega) only [gx_st_j, gx_st_eq]
      have g2 : R' 1 (6 * s + 2) = nn (a / 1024 % 4) := by rw [hR', h14]; simp (disch := omega) only [gx_st_j, gx_st_eq]
      have g3 : R' 1 (6 * s + 3) = nn (a / 4096 % 25) := by rw [hR', h14]; simp (disch := omega) only [gx_st_j, gx_st_eq]
      have g4 : R' 1 (6 * s + 4) = li := by rw [hR']; simp (disch := omega) only [gx_st_j, gx_st_eq]
      have g5 : R' 1 (6 * s + 5) = nn (a / 2097152 % 10) := by rw [hR', gx_st_eq]
      rw [g0, g1, g2, g3, g4, g5]
      have f0 : R' 0 = V 0 := by
        funext i
        rw [hR', h14]
        simp (disch := omega) only [gx_st_q]
      have b50 := Nat.mod_lt (a / 16) (y := 50) (by omega)
      have b10 := Nat.mod_lt a (y := 10) (by omega)
      have b4 := Nat.mod_lt (a / 1024) (y := 4) (by omega)
      have b25 := Nat.mod_lt (a / 4096) (y := 25) (by omega)
      have b9 := Nat.mod_lt (a / 2097152) (y := 10) (by omega)
      refine gt_cs (t_sort hU hp (by omega) (nn_b (b := 9) (by omega) (by omega)) ⟨?_, ?_⟩ (nn_b (b := 5) (by omega) (by omega)) (nn_b (b := 30) (by omega) (by omega)) (nn_b (b := 9) (by omega) (by omega)) hl) (fun v S' h' => ?_)
      · rw [show (1 : Int32) = nn 1 from rfl, nn_le (by omega) (by omega)]; omega
      · rw [show (50 : Int32) = nn 50 from rfl, nn_le (by omega) (by omega)]; omega
      · obtain ⟨e1, e2⟩ := h'
        simp only at e1 e2
        rw [if_pos e1]
        refine hk _ ⟨rfl, e2 R' f0 (fun i hi => ?_) g0 g1 g2 g3 g4 g5, by simp only; rw [f0]; exact hV⟩
        rw [hR', h14]
        simp (disch := omega) only [gx_st_j]
    rw [t1]
    by_cases c0 : nn p = 0
    · rw [if_pos c0]; exact key _ (Or.inl rfl)
    · rw [if_neg c0]
      have hp1 : 1 ≤ p := by
        rw [nn_0, nn_eq (by omega) (by omega)] at c0
        omega
      by_cases c1 : nn a / 131072 - nn a / 131072 / 2 * 2 = 0
      · rw [if_pos c1]; exact key _ (Or.inl rfl)
      · rw [if_neg c1, gnz hp1 (by omega)]
        have e : nn a / 262144 - nn a / 262144 / nn p * nn p = nn (a / 262144 % p) := nn_q (d := 262144) ha (by omega) (by omega) (by omega) (by omega)
        rw [e]
        exact key _ (Or.inr ⟨_, Nat.mod_lt _ (by omega), rfl⟩)
  · rintro ⟨_, U, V⟩ kk ⟨rfl, hU, hV⟩
    simp only at hU hV
    simp only [r_tell_345, jk_2, jl_2]
    have v2 : V 0 2 = nn ns := by rw [hV]; exact r2
    simp only [v2]
    rw [if_pos (Int32.le_refl _)]
    obtain ⟨G, D, a1, a2, a3⟩ := TR_X hU hm hp hn (by rw [hV]; exact r0) (by rw [hV]; exact r1) (by rw [hV]; exact r2)
    exact gt_some ⟨G, D, a1, a2, by omega⟩
theorem p_147 {m ns w : Nat} {S R : gx_S} (h : TR m 0 0 S R) (hm1 : 1 ≤ m) (hm : m ≤ 6) (hw : w ≤ 5) (hn : ns ≤ 8) (r0 : R 0 0 = nn m) (r1 : R 0 1 = nn 0) (r2 : R 0 2 = nn ns) {xs : Nat → Int32} {L : Nat} (hL : L ≤ 260) : gt (gx_loop (r_tell_147 xs L (nn w)) 5000 (0, S, R)) tQ := by
  refine gt_for w (fun i t => t.1 = nn i ∧ ∃ p, p ≤ i ∧ TR m p 0 t.2.1 t.2.2 ∧ t.2.2 0 0 = nn m ∧ t.2.2 0 1 = nn p ∧ t.2.2 0 2 = nn ns) ?_ ?_ 0 5000 _ (by omega) ⟨rfl, 0, Nat.le_refl _, h, r0, r1, r2⟩ (by omega)
  · rintro i ⟨_, U, V⟩ kk hi ⟨rfl, p, hpi, hU, v0, v1, v2⟩ hk
    simp only at hU v0 v1 v2
    obtain ⟨a, ha, ec⟩ := l_cell xs L (5 + i) hL (by omega)
    simp only [r_tell_147, jk_0, jl_0]
    rw [if_neg (by rw [nn_le (by omega) (by omega)]; omega), ja_5, ec, cp_s, v0, gnz hm1 (by omega), nn_rem ha (by omega) (by omega)]
    obtain ⟨o, ho⟩ : ∃ o, o = a % m := ⟨_, rfl⟩
    have hom : o < m := by rw [ho]; exact Nat.mod_lt _ (by omega)
    rw [← ho]
    have q8 : nn a / 8 - nn a / 8 / 10 * 10 = nn (a / 8 % 10) := nn_q (d := 8) (e := 10) ha (by omega) (by omega) (by omega) (by omega)
    have q128 : nn a / 128 - nn a / 128 / 5 * 5 = nn (a / 128 % 5) := nn_q (d := 128) (e := 5) ha (by omega) (by omega) (by omega) (by omega)
    have q1024 : nn a / 1024 - nn a / 1024 / 10 * 10 = nn (a / 1024 % 10) := nn_q (d := 1024) (e := 10) ha (by omega) (by omega) (by omega) (by omega)
    refine gt_for p (fun j t => t.1 = nn (ct V o j) ∧ t.2 = (nn j, U, V)) ?_ ?_ 0 5000 _ (by omega) ⟨rfl, rfl⟩ (by omega)
    · rintro j ⟨x, _, _, _⟩ k2 hj ⟨ex, e⟩ hk2
      simp only at ex e
      cases e
      simp only [r_tell_178, r_tell_205, jk_1, jl_1]
      simp (disch := omega) only [v1, nn_le, ja_33, ck_n, nn_c]
      rw [if_neg (by omega)]
      have es : ct V o (j + 1) = ct V o j + (if decide (V 0 (33 + j) = nn o) = true then 1 else 0) := rfl
      by_cases z : V 0 (33 + j) = nn o
      · rw [if_pos z]
        rw [decide_eq_true z, if_pos rfl] at es
        exact hk2 _ ⟨by simp only; rw [ex, es, jb_1], by simp only; rw [jb_1]⟩
      · rw [if_neg z]
        have es' : ct V o (j + 1) = ct V o j := by
          rw [es, decide_eq_false z]
          rfl
        exact hk2 _ ⟨by simp only; rw [ex, es', Int32.add_zero], by simp only; rw [jb_1]⟩
    · rintro ⟨x, _, _, _⟩ k2 ⟨ex, e⟩
      simp only at ex e
      cases e
      subst ex
      have b8 := Nat.mod_lt (a / 8) (y := 10) (by omega)
      have b128 := Nat.mod_lt (a / 128) (y := 5) (by omega)
      have b1024 := Nat.mod_lt (a / 1024) (y := 10) (by omega)
      obtain ⟨hc3, hsh⟩ := t_shop hU hm hom (by omega) (pl := nn (a / 8 % 10)) (co := nn (a / 128 % 5)) (pr := nn (a / 1024 % 10)) (nn_b (b := 9) (by omega) (by omega)) (nn_b (b := 9) (by omega) (by omega)) (nn_b (b := 9) (by omega) (by omega))
      simp only [r_tell_178, jk_1, jl_1]
      simp (disch := omega) only [v1, nn_le, ja_15, ja_21, ja_27, ja_33, ck_n, nn_c, let_s, q8, q128, q1024]
      rw [if_pos (by omega)]
      obtain ⟨T12, h12⟩ : ∃ T12, T12 = gx_st (gx_st (gx_st (gx_st V 0 (15 + p) (nn (a / 8 % 10))) 0 (21 + p) (nn (a / 128 % 5))) 0 (27 + p) (nn (a / 1024 % 10))) 0 (33 + p) (nn o) := ⟨_, rfl⟩
      rw [← h12]
      have g15 : T12 0 (15 + p) = nn (a / 8 % 10) := by rw [h12]; simp (disch := omega) only [gx_st_j, gx_st_eq]
      have g21 : T12 0 (21 + p) = nn (a / 128 % 5) := by rw [h12]; simp (disch := omega) only [gx_st_j, gx_st_eq]
      have g27 : T12 0 (27 + p) = nn (a / 1024 % 10) := by rw [h12]; simp (disch := omega) only [gx_st_j, gx_st_eq]
      have g33 : T12 0 (33 + p) = nn o := by rw [h12, gx_st_eq]
      have g1 : T12 0 1 = nn p := by rw [h12]; simp (disch := omega) only [gx_st_j]; exact v1
      have g0 : T12 0 0 = nn m := by rw [h12]; simp (disch := omega) only [gx_st_j]; exact v0
      have g2 : T12 0 2 = nn ns := by rw [h12]; simp (disch := omega) only [gx_st_j]; exact v2
      have gf : ∀ i, i ≠ 1 → i ≠ 15 + p → i ≠ 21 + p → i ≠ 27 + p → i ≠ 33 + p → T12 0 i = V 0 i := fun i _ b c d e => by
        rw [h12, gx_st_j _ _ _ e, gx_st_j _ _ _ d, gx_st_j _ _ _ c, gx_st_j _ _ _ b]
      rw [g15, g21, g27]
      refine gt_cs hsh (fun v S16 h16 => ?_)
      obtain ⟨e1, e2⟩ := h16
      simp only at e1 e2
      simp only [r_tell_314, r_tell_334, jk_1, jl_1]
      rw [show (3 : Int32) = nn 3 from rfl]
      simp (disch := omega) only [nn_eq, let_s, g1]
      -- the row with the new count
      have fin : ∀ p' x, p' = (if ct V o p = 3 then p else p + 1) → x = nn p' → gt (kk (nn i + 1, S16, gx_st T12 0 1 x)) tQ := fun p' x hp' hx => by
        have q0 : gx_st T12 0 1 x 0 0 = nn m := by rw [gx_st_j _ _ _ (by omega)]; exact g0
        have q2 : gx_st T12 0 1 x 0 2 = nn ns := by rw [gx_st_j _ _ _ (by omega)]; exact g2
        refine hk _ ⟨by simp only; rw [jb_1], p', ?_, ?_, q0, by simp only; rw [gx_st_eq]; exact hx, q2⟩
        · rw [hp']; split <;> omega
        · rw [hp']
          refine e2 (gx_st T12 0 1 x) (fun i a1 a2 a3 a4 a5 => ?_) ?_ ?_ ?_ ?_
          · rw [gx_st_j _ _ _ a1]; exact gf i a1 a2 a3 a4 a5
          · rw [gx_st_j _ _ _ (by omega)]; exact g15
          · rw [gx_st_j _ _ _ (by omega)]; exact g21
          · rw [gx_st_j _ _ _ (by omega)]; exact g27
          · rw [gx_st_j _ _ _ (by omega)]; exact g33
      by_cases z : ct V o p = 3
      · rw [if_pos z] at e1
        rw [if_pos z, if_pos e1, if_pos z]
        exact fin p _ (by rw [if_pos z]) (Int32.add_zero _)
      · rw [if_neg z] at e1
        rw [if_neg z, if_pos e1, if_neg z]
        exact fin (p + 1) _ (by rw [if_neg z]) (jb_1 p)
  · rintro ⟨_, U, V⟩ kk ⟨rfl, p, hpi, hU, v0, v1, v2⟩
    simp only at hU v0 v1 v2
    simp only [r_tell_147]
    rw [if_pos (Int32.le_refl _)]
    exact p_345 hU hm1 hm (by omega) hn v0 v1 v2 hL
theorem p_33 {m ns a0 : Nat} {R : gx_S} (ha0 : a0 < 2147483648) (hm1 : 1 ≤ m) (hm : m ≤ 4) (hn : ns ≤ 8) (r0 : R 0 0 = nn m) (r1 : R 0 1 = nn 0) (r2 : R 0 2 = nn ns) (rz : ∀ i, 2 < i → R 0 i = 0) (rs : R 1 = fun _ => 0) {xs : Nat → Int32} {L : Nat} (hL : L ≤ 260) : gt (gx_loop (r_tell_33 xs L (nn a0)) 5000 (0, fun _ _ => 0, R)) tQ := by
  have h0 : TR 0 0 0 (fun _ _ => 0) R := by
    obtain ⟨Z, hR, hz, _, _, _⟩ := TR_0
    exact ⟨Z, hR, hz, fun u hu => absurd hu (by omega), fun k hk => absurd hk (by omega), fun u i hu _ => absurd hu (by omega)⟩
  refine gt_for m (fun u t => t.1 = nn u ∧ TR u 0 0 t.2.1 t.2.2 ∧ t.2.2 0 0 = nn m ∧ t.2.2 0 1 = nn 0 ∧ t.2.2 0 2 = nn ns ∧ ∀ i, i < 6 → t.2.2 0 (39 + i) = 0) ?_ ?_ 0 5000 _ (by omega) ⟨rfl, h0, r0, r1, r2, fun i hi => rz _ (by omega)⟩ (by omega)
  · rintro u ⟨_, U, V⟩ kk hu ⟨rfl, hU, v0, v1, v2, v39⟩ hk
    simp only at hU v0 v1 v2 v39
    obtain ⟨a, ha, ec⟩ := l_cell xs L (1 + u) hL (by omega)
    simp only [r_tell_33, jk_0, jl_0]
    simp only [v0]
    rw [if_neg (by rw [nn_le (by omega) (by omega)]; omega), ja_1, ec, cp_s]
    have q2 : nn a / 2 - nn a / 2 / 5 * 5 = nn (a / 2 % 5) := nn_q (d := 2) (e := 5) ha (by omega) (by omega) (by omega) (by omega)
    rw [q2]
    have key : ∀ kd : Int32, bw kd 0 4 → gt (r_tell_73 xs L kk (nn a0) (nn u) (nn a) ((3 : Int32) + nn u) kd U V) tQ := fun kd hkd => by
      have go : ∀ d : Nat, 1 ≤ d → d ≤ 60 → gt (r_tell_102 xs L kk (nn a0) (nn u) ((9 : Int32) + nn u) (nn a / 16) (nn d) U (gx_st V 0 (3 + u) kd)) tQ := fun d hd1 hd2 => by
        unfold r_tell_102
        have q16 : nn a / 16 - nn a / 16 / nn d * nn d = nn (a / 16 % d) := nn_q (d := 16) (e := d) ha (by omega) (by omega) (by omega) (by omega)
        rw [gnz hd1 (by omega), q16]
        have bd := Nat.mod_lt (a / 16) (y := d) (by omega)
        simp (disch := omega) only [ja_3, ja_9, ck_n, nn_c, let_s]
        obtain ⟨R', hR'⟩ : ∃ R', R' = gx_st (gx_st V 0 (3 + u) kd) 0 (9 + u) (nn (a / 16 % d)) := ⟨_, rfl⟩
        rw [← hR']
        have g3 : R' 0 (3 + u) = kd := by rw [hR']; simp (disch := omega) only [gx_st_j, gx_st_eq]
        have g9 : R' 0 (9 + u) = nn (a / 16 % d) := by rw [hR', gx_st_eq]
        have gf : ∀ i, i ≠ 3 + u → i ≠ 9 + u → R' 0 i = V 0 i := fun i b c => by rw [hR', gx_st_j _ _ _ c, gx_st_j _ _ _ b]
        rw [g3, g9]
        refine gt_cs (t_owner hU (by omega) hkd (nn_b (b := 99) (by omega) (by omega))) (fun v S9 h9 => ?_)
        obtain ⟨e1, e2⟩ := h9
        simp only at e1 e2
        rw [if_pos e1]
        refine hk _ ⟨by simp only; rw [jb_1], e2 R' gf g3 g9 (v39 u (by omega)), ?_, ?_, ?_, fun i hi => ?_⟩
        · simp only; rw [gf _ (by omega) (by omega)]; exact v0
        · simp only; rw [gf _ (by omega) (by omega)]; exact v1
        · simp only; rw [gf _ (by omega) (by omega)]; exact v2
        · simp only; rw [gf _ (by omega) (by omega)]; exact v39 i hi
      unfold r_tell_73
      simp (disch := omega) only [ja_3, ck_n, nn_c, let_s, gx_st_eq]
      by_cases z : kd = 3
      · rw [if_pos z]; exact go 6 (by omega) (by omega)
      · rw [if_neg z]; exact go 60 (by omega) (by omega)
    have b5 := Nat.mod_lt (a / 2) (y := 5) (by omega)
    by_cases z : nn a - nn a / 2 * 2 = 0
    · rw [if_pos z]; exact key 0 ⟨by decide, by decide⟩
    · rw [if_neg z]; exact key _ (nn_b (b := 4) (by omega) (by omega))
  · rintro ⟨_, U, V⟩ kk ⟨rfl, hU, v0, v1, v2, v39⟩
    simp only at hU v0 v1 v2 v39
    simp only [r_tell_33, jk_0, jl_0]
    have b6 := Nat.mod_lt (a0 / 32) (y := 6) (by omega)
    have e : nn a0 / 32 - nn a0 / 32 / 6 * 6 = nn (a0 / 32 % 6) := nn_q (d := 32) (e := 6) ha0 (by omega) (by omega) (by omega) (by omega)
    simp only [v0]
    rw [if_pos (Int32.le_refl _), e]
    exact p_147 hU hm1 (by omega) (by omega) hn v0 v1 v2 hL
theorem p_tell {xs : Nat → Int32} {L : Nat} (hL : L ≤ 260) : gt (r_tell xs L (fun _ _ => 0) (fun _ _ => 0)) tQ := by
  obtain ⟨a, ha, ec⟩ := l_cell xs L 0 hL (by omega)
  have ec : r_cell xs L 0 = some (nn a) := ec
  unfold r_tell
  rw [ec, cp_s]
  have q4 : nn a - nn a / 4 * 4 = nn (a % 4) := nn_rem (d := 4) ha (by omega) (by omega)
  have q7 : nn a / 4 - nn a / 4 / 7 * 7 = nn (a / 4 % 7) := nn_q (d := 4) (e := 7) ha (by omega) (by omega) (by omega) (by omega)
  have b4 := Nat.mod_lt a (y := 4) (by omega)
  have b7 := Nat.mod_lt (a / 4) (y := 7) (by omega)
  simp only [jk_0, jk_1, jk_2, jl_0, jl_1, jl_2, let_s, q4, q7, ja_1]
  refine p_33 (m := 1 + a % 4) (ns := a / 4 % 7) ha (by omega) (by omega) (by omega) ?_ ?_ ?_ (fun i hi => ?_) ?_ hL
  · simp (disch := omega) only [gx_st_j, gx_st_eq]
  · rw [gx_st_j _ _ _ (by omega), gx_st_eq]; rfl
  · rw [gx_st_eq]
  · simp (disch := omega) only [gx_st_j]
  · funext i
    simp (disch := omega) only [gx_st_q]
theorem law_pure (L : Nat) (xs : Nat → Int32) (hL : L ≤ 260) : ml xs L (fun _ _ => 0) (fun _ _ => 0) = some () := by
  have main : gt (ml xs L (fun _ _ => 0) (fun _ _ => 0)) (fun _ => True) := by
    unfold ml
    refine gt_cp (p_tell hL) (fun z hz => ?_)
    obtain ⟨G, D, h1, h2, h3⟩ := hz
    rw [if_neg i10]
    exact g_33 h1 h2 h3 hL
  obtain ⟨r, e, _⟩ := main
  rw [e]

/-! b42: the start; a call's turn -/
theorem RR_0 {T0 : gx_S} (h23 : T0 0 23 = -1) (h0 : ∀ q j, (q ≠ 0 ∨ j ≠ 23) → T0 q j = 0) : RR (fun _ _ => 0) T0 := by
  have e0 : nn 0 = 0 := rfl
  have z0 : nO (fun _ _ => 0) = 0 := by decide
  have z1 : nP (fun _ _ => 0) = 0 := by decide
  have z2 : nS (fun _ _ => 0) = 0 := by decide
  refine ⟨(fun _ _ => 0, fun _ _ => 0, 0, fun _ => 0, 0, fun _ => 0, fun _ _ => 0, 0), ⟨?_, fun _ _ => rfl, ?_, fun _ _ _ => ⟨rfl, rfl⟩, by decide, by decide, fun t ht => absurd ht (by show ¬ t < 0; omega)⟩, ?_, ?_, Or.inl ⟨rfl, h0 _ _ (by omega)⟩⟩
  · have b (m : Int32) (h : 0 ≤ m) : bw 0 0 m := ⟨Int32.le_refl _, h⟩
    exact ⟨⟨b 6 (by decide), b 6 (by decide), b 8 (by decide)⟩, fun j => ⟨b 4 (by decide), b 99 (by decide)⟩, fun j => ⟨b 9 (by decide), b 9 (by decide)⟩, fun j => ⟨b 9 (by decide), b 50 (by decide), b 5 (by decide), b 30 (by decide), ⟨by show (-1 : Int32) ≤ 0; decide, by show (0 : Int32) ≤ 5; decide⟩, b 9 (by decide)⟩⟩
  · refine ⟨fun j _ => ⟨?_, ?_, Or.inl rfl⟩, fun k hk => ?_, fun o _ => ?_⟩
    · exact ⟨Int32.le_refl _, by show (0 : Int32) ≤ 9; decide⟩
    · exact ⟨Int32.le_refl _, by show (0 : Int32) ≤ 5; decide⟩
    · exact absurd hk (by rw [show nP (qG ((fun _ _ => 0, fun _ _ => 0, 0, fun _ => 0, 0, fun _ => 0, fun _ _ => 0, 0) : rA)) = 0 from z1]; omega)
    · have : cnt (qG ((fun _ _ => 0, fun _ _ => 0, 0, fun _ => 0, 0, fun _ => 0, fun _ _ => 0, 0) : rA)) (qD ((fun _ _ => 0, fun _ _ => 0, 0, fun _ => 0, 0, fun _ => 0, fun _ _ => 0, 0) : rA)) o ≤ nP (fun _ _ => 0) := cn_le _ _
      omega
  · refine ⟨⟨fun _ _ _ _ => rfl, fun s k hs _ => ?_⟩, fun _ _ _ _ _ => rfl, ⟨by show 0 ≤ 50; omega, rfl, fun j hj => absurd hj (by show ¬ j < 0; omega)⟩, rfl, rfl, fun t ht => absurd ht (by show ¬ t < 0; omega)⟩
    exact absurd hs (by rw [show nS (qG ((fun _ _ => 0, fun _ _ => 0, 0, fun _ => 0, 0, fun _ => 0, fun _ _ => 0, 0) : rA)) = 0 from z2]; omega)
  · refine ⟨⟨⟨?_, ?_, ?_⟩, fun o _ => ⟨?_, ?_⟩, fun k _ => ⟨?_, ?_⟩, fun s i _ _ => ?_⟩, fun j _ => ⟨?_, ?_, ?_⟩, h23, ⟨by show 0 ≤ 50; omega, ?_, fun j hj => absurd hj (by show ¬ j < 0; omega)⟩, ?_, ?_, fun t ht => absurd ht (by show ¬ t < 0; omega)⟩ <;> exact h0 _ _ (by omega)
theorem l_ss {R : Type} {o o' : Option (Int32 × gx_S)} {K : gx_S → gx_S → Option R} {P : R → Prop} (h : cSS o o') (hk : ∀ S T, RR S T → gt (K S T) P) : gt (gx_cs o fun _ S => gx_cs o' fun _ T => K S T) P :=
  gt_cs h (fun _ _ h' => gt_cs h' (fun _ _ h2 => hk _ _ h2.2))
theorem l_sse {R : Type} {o o' : Option (Int32 × gx_S)} {K : gx_S → gx_S → Option R} {E : Int32 → Int32 → gx_S → gx_S → Option R} {P : R → Prop} (h : cSS o o') (hk : ∀ S T, RR S T → gt (K S T) P) : gt (gx_cs o fun v S => gx_cs o' fun v' T => if v = v' then K S T else E v v' S T) P :=
  gt_cs h (fun _ _ h' => gt_cs h' (fun _ _ h2 => gt_ite (fun _ => hk _ _ h2.2) (fun z => absurd h2.1 z)))
theorem l_ps {R : Type} {S : gx_S} {o : Option Int32} {o' : Option (Int32 × gx_S)} {K : gx_S → Option R} {P : R → Prop} (h : cPS S o o') (hk : ∀ T, RR S T → gt (K T) P) : gt (gx_cp o fun _ => gx_cs o' fun _ T => K T) P :=
  gt_cp h (fun _ h' => gt_cs h' (fun _ _ h2 => hk _ h2.2))
theorem l_pse {R : Type} {S : gx_S} {o : Option Int32} {o' : Option (Int32 × gx_S)} {K : gx_S → Option R} {E : Int32 → Int32 → gx_S → Option R} {P : R → Prop} (h : cPS S o o') (hk : ∀ T, RR S T → gt (K T) P) : gt (gx_cp o fun v => gx_cs o' fun v' T => if v = v' then K T else E v v' T) P :=
  gt_cp h (fun _ h' => gt_cs h' (fun _ _ h2 => gt_ite (fun _ => hk _ h2.2) (fun z => absurd h2.1 z)))
theorem l_pp {R : Type} {o o' : Option Int32} {K : Option R} {P : R → Prop} (h : cPP o o') (hk : gt K P) : gt (gx_cp o fun _ => gx_cp o' fun _ => K) P :=
  gt_cp h (fun _ h' => gt_cp h' (fun _ _ => hk))
theorem l_ppe {R : Type} {o o' : Option Int32} {K : Option R} {E : Int32 → Int32 → Option R} {P : R → Prop} (h : cPP o o') (hk : gt K P) : gt (gx_cp o fun v => gx_cp o' fun v' => if v = v' then K else E v v') P :=
  gt_cp h (fun _ h' => gt_cp h' (fun _ h2 => gt_ite (fun _ => hk) (fun z => absurd h2 z)))
theorem l_tt {R : Type} {o o' : Option (Int32 × gx_S)} {K : gx_S → gx_S → Option R} {P : R → Prop} (h : cTT o o') (hk : ∀ S T, RR S T → gt (K S T) P) : gt (gx_cs o fun _ S => gx_cs o' fun _ T => K S T) P :=
  gt_cs h (fun _ _ h' => gt_cs h' (fun _ _ h2 => hk _ _ h2))
theorem l_ll {R : Type} {o o' : Option (Int64 × gx_S)} {K : gx_S → gx_S → Option R} {P : R → Prop} (h : cLL o o') (hk : ∀ S T, RR S T → gt (K S T) P) : gt (gx_cs o fun _ S => gx_cs o' fun _ T => K S T) P :=
  gt_cs h (fun _ _ h' => gt_cs h' (fun _ _ h2 => hk _ _ h2.2))
theorem l_lle {R : Type} {o o' : Option (Int64 × gx_S)} {K : gx_S → gx_S → Option R} {E : Int64 → Int64 → gx_S → gx_S → Option R} {P : R → Prop} (h : cLL o o') (hk : ∀ S T, RR S T → gt (K S T) P) : gt (gx_cs o fun v S => gx_cs o' fun v' T => if v = v' then K S T else E v v' S T) P :=
  gt_cs h (fun _ _ h' => gt_cs h' (fun _ _ h2 => gt_ite (fun _ => hk _ _ h2.2) (fun z => absurd h2.1 z)))
/-- a turn's place -/
theorem law_end {L i : Nat} (hL : L ≤ 3584) (hi : 7 * i ≤ L) : (nn L - 7 < nn (7 * i)) = (L < 7 * i + 7) := by
  have e : (nn L - 7).toInt = (L : Int) - 7 := by
    have c7 : (7 : Int32).toInt = 7 := by decide
    rw [ti_sub (by rw [nn_i (by omega), c7]; omega) (by rw [nn_i (by omega), c7]; omega), nn_i (by omega), c7]
  rw [Int32.lt_iff_toInt_lt, e, nn_i (by omega)]
  apply propext
  omega
theorem law_ck {L i d : Nat} {R : Type} (hL : L ≤ 3584) (hi : 7 * i + 7 ≤ L) (hd : d < 7) {x : Int32} (hx : x = nn (7 * i + d)) (y : Option R) : gx_ck L x y = y := by
  rw [hx]
  exact ck_n (by omega) (by omega)

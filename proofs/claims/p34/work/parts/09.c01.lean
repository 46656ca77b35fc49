/-! law_pure -/
theorem l_llc {R : Type} {o o' : Option (Int64 × gx_S)} {K : gx_S → gx_S → Option R} {E : Int64 → Int64 → gx_S → gx_S → Option R} {P : R → Prop} (h : cLL o o') (hk : ∀ S T, RR S T → gt (K S T) P) : gt (gx_cs o fun v S => gx_cs o' fun v' T => if lg_cmp v v' = 0 then K S T else E v v' S T) P :=
  gt_cs h (fun _ _ h' => gt_cs h' (fun _ _ h2 => gt_ite (fun _ => hk _ _ h2.2) (fun z => absurd ((lg_cmp_eq _ _).2 h2.1) z)))
set_option maxRecDepth 40000 in
set_option maxHeartbeats 4000000 in
theorem law_step {xs : Nat → Int32} {L i : Nat} {S T : gx_S} {k : Int32 × gx_S × gx_S → Option Unit} {P : Unit → Prop} (hL : L ≤ 3584) (hi : 7 * i + 7 ≤ L) (hR : RR S T) (hk : ∀ S T, RR S T → gt (k (nn (7 * (i + 1)), S, T)) P) : gt (ml_18 xs L (nn (7 * i), S, T) k) P := by
  simp only [ml_18]
  rw [if_neg (show ¬ Int32.ofNat L - 7 < nn (7 * i) by rw [show Int32.ofNat L = nn L from rfl, law_end hL (by omega)]; omega)]
  have hK : ∀ S T, RR S T → gt (k (nn (7 * i) + 7, S, T)) P := fun S T h => by
    rw [show nn (7 * i) + 7 = nn (7 * (i + 1)) from by rw [show (7 : Int32) = nn 7 from rfl, nn_add, show 7 * i + 7 = 7 * (i + 1) by omega]]
    exact hk S T h
  have c0 : ∀ y : Option Unit, gx_ck L (nn (7 * i)) y = y := fun y => law_ck (i := i) (d := 0) hL hi (by omega) (rfl) y
  have c1 : ∀ y : Option Unit, gx_ck L (nn (7 * i) + 1) y = y := fun y => law_ck (i := i) (d := 1) hL hi (by omega) (by rw [show (1 : Int32) = nn 1 from rfl, nn_add]) y
  have c2 : ∀ y : Option Unit, gx_ck L (nn (7 * i) + 2) y = y := fun y => law_ck (i := i) (d := 2) hL hi (by omega) (by rw [show (2 : Int32) = nn 2 from rfl, nn_add]) y
  have c3 : ∀ y : Option Unit, gx_ck L (nn (7 * i) + 3) y = y := fun y => law_ck (i := i) (d := 3) hL hi (by omega) (by rw [show (3 : Int32) = nn 3 from rfl, nn_add]) y
  have c4 : ∀ y : Option Unit, gx_ck L (nn (7 * i) + 4) y = y := fun y => law_ck (i := i) (d := 4) hL hi (by omega) (by rw [show (4 : Int32) = nn 4 from rfl, nn_add]) y
  have c5 : ∀ y : Option Unit, gx_ck L (nn (7 * i) + 5) y = y := fun y => law_ck (i := i) (d := 5) hL hi (by omega) (by rw [show (5 : Int32) = nn 5 from rfl, nn_add]) y
  have c6 : ∀ y : Option Unit, gx_ck L (nn (7 * i) + 6) y = y := fun y => law_ck (i := i) (d := 6) hL hi (by omega) (by rw [show (6 : Int32) = nn 6 from rfl, nn_add]) y
  rw [c0]
  refine gt_ite (fun _ => ?_) (fun _ => ?_)
  · -- owner
    simp only [c1, c2]
    first | exact l_ss (st_owner hR _ _) hK | exact l_sse (st_owner hR _ _) hK
  refine gt_ite (fun _ => ?_) (fun _ => ?_)
  · -- as
    simp only [c1, c2]
    first | exact l_pp (st_as hR _ _) (hK _ _ hR) | exact l_ppe (st_as hR _ _) (hK _ _ hR)
  refine gt_ite (fun _ => ?_) (fun _ => ?_)
  · -- shop
    simp only [c1, c2, c3, c4]
    first | exact l_ss (st_shop hR _ _ _ _) hK | exact l_sse (st_shop hR _ _ _ _) hK
  refine gt_ite (fun _ => ?_) (fun _ => ?_)
  · -- about
    simp only [c1, c2]
    first | exact l_ps (st_about hR _ _) (fun T h => hK _ T h) | exact l_pse (st_about hR _ _) (fun T h => hK _ T h)
  refine gt_ite (fun _ => ?_) (fun _ => ?_)
  · -- price
    simp only [c1, c2]
    first | exact l_ss (st_price hR _ _) hK | exact l_sse (st_price hR _ _) hK
  refine gt_ite (fun _ => ?_) (fun _ => ?_)
  · -- sort
    simp only [c1, c2, c3, c4, c5, c6]
    first | exact l_ss (st_sort hR _ _ _ _ _ _) hK | exact l_sse (st_sort hR _ _ _ _ _ _) hK
  refine gt_ite (fun _ => ?_) (fun _ => ?_)
  · -- is
    simp only [c1, c2]
    first | exact l_pp (st_is hR _ _) (hK _ _ hR) | exact l_ppe (st_is hR _ _) (hK _ _ hR)
  refine gt_ite (fun _ => ?_) (fun _ => ?_)
  · -- goes
    simp only [c1]
    first | exact l_pp (st_goes hR _) (hK _ _ hR) | exact l_ppe (st_goes hR _) (hK _ _ hR)
  refine gt_ite (fun _ => ?_) (fun _ => ?_)
  · -- spare
    simp only [c1]
    first | exact l_pp (st_spare hR _) (hK _ _ hR) | exact l_ppe (st_spare hR _) (hK _ _ hR)
  refine gt_ite (fun _ => ?_) (fun _ => ?_)
  · -- profit
    simp only [c1]
    first | exact l_ps (st_profit hR _) (fun T h => hK _ T h) | exact l_pse (st_profit hR _) (fun T h => hK _ T h)
  refine gt_ite (fun _ => ?_) (fun _ => ?_)
  · -- best
    simp only [c1, c2]
    first | exact l_ss (st_best hR _ _) hK | exact l_sse (st_best hR _ _) hK
  refine gt_ite (fun _ => ?_) (fun _ => ?_)
  · -- turn
    simp only [c1]
    first | exact l_ss (st_turn hR _) hK | exact l_sse (st_turn hR _) hK
  refine gt_ite (fun _ => ?_) (fun _ => ?_)
  · -- rest
    first | exact l_ss (st_rest hR) hK | exact l_sse (st_rest hR) hK
  refine gt_ite (fun _ => ?_) (fun _ => ?_)
  · -- otherwise
    first | exact l_ss (st_otherwise hR) hK | exact l_sse (st_otherwise hR) hK
  refine gt_ite (fun _ => ?_) (fun _ => ?_)
  · -- gain
    simp only [c1]
    first | exact l_ss (st_gain hR _) hK | exact l_sse (st_gain hR _) hK
  refine gt_ite (fun _ => ?_) (fun _ => ?_)
  · -- market
    simp only [c1, c2, c3, ml_1238, ml_699, ml_671]
    refine gt_ite (fun z => ?_) (fun z => ?_)
    · simp only [if_pos z]
      first | exact l_ss (st_market hR _ _ _) hK | exact l_sse (st_market hR _ _ _) hK
    · simp only [if_neg z]
      first | exact l_ss (st_market hR _ _ _) hK | exact l_sse (st_market hR _ _ _) hK
  refine gt_ite (fun _ => ?_) (fun _ => ?_)
  · -- instead
    simp only [c1, c2]
    first | exact l_ps (st_instead hR _ _) (fun T h => hK _ T h) | exact l_pse (st_instead hR _ _) (fun T h => hK _ T h)
  refine gt_ite (fun _ => ?_) (fun _ => ?_)
  · -- from
    simp only [c1, c2]
    first | exact l_ps (st_from hR _ _) (fun T h => hK _ T h) | exact l_pse (st_from hR _ _) (fun T h => hK _ T h)
  refine gt_ite (fun _ => ?_) (fun _ => ?_)
  · -- merge
    simp only [c1, c2]
    first | exact l_ss (st_merge hR _ _) hK | exact l_sse (st_merge hR _ _) hK
  refine gt_ite (fun _ => ?_) (fun _ => ?_)
  · -- dearer
    simp only [c1, c2, c3]
    first | exact l_ss (st_dearer hR _ _ _) hK | exact l_sse (st_dearer hR _ _ _) hK
  refine gt_ite (fun _ => ?_) (fun _ => ?_)
  · -- harm
    simp only [c1, c2, c3]
    first | exact l_ss (st_harm hR _ _ _) hK | exact l_sse (st_harm hR _ _ _) hK
  refine gt_ite (fun _ => ?_) (fun _ => ?_)
  · -- soldOff
    simp only [c1, c2, c3, c4]
    first | exact l_ss (st_soldOff hR _ _ _ _) hK | exact l_sse (st_soldOff hR _ _ _ _) hK
  refine gt_ite (fun _ => ?_) (fun _ => ?_)
  · -- twice
    simp only [c1, c2, c3, c4, c5]
    exact l_tt (st_twice hR _ _ _ _ _) hK
  refine gt_ite (fun _ => ?_) (fun _ => ?_)
  · -- letters
    simp only [c1, c2]
    first | exact l_ss (st_letters hR _) hK | exact l_sse (st_letters hR _) hK
  refine gt_ite (fun _ => ?_) (fun _ => ?_)
  · -- blank
    first | exact l_ss (st_blank hR) hK | exact l_sse (st_blank hR) hK
  refine gt_ite (fun _ => ?_) (fun _ => ?_)
  · -- fault
    first | exact l_ss (st_fault hR) hK | exact l_sse (st_fault hR) hK
  refine gt_ite (fun _ => ?_) (fun _ => ?_)
  · -- test
    first | exact l_ss (st_test hR) hK | exact l_sse (st_test hR) hK
  refine gt_ite (fun _ => ?_) (fun _ => ?_)
  · -- bars
    simp only [c1, c2, c3]
    first | exact l_ss (st_bars hR _ _ _) hK | exact l_sse (st_bars hR _ _ _) hK
  refine gt_ite (fun _ => ?_) (fun _ => ?_)
  · -- wrong
    simp only [c1, c2]
    first | exact l_ss (st_wrong hR _ _) hK | exact l_sse (st_wrong hR _ _) hK
  refine gt_ite (fun _ => ?_) (fun _ => ?_)
  · -- image
    first | exact l_ss (st_image hR) hK | exact l_sse (st_image hR) hK
  refine gt_ite (fun _ => ?_) (fun _ => ?_)
  · -- restore
    first | exact l_ss (st_restore hR) hK | exact l_sse (st_restore hR) hK
  refine gt_ite (fun _ => ?_) (fun _ => ?_)
  · -- count
    simp only [c1]
    first | exact l_ps (st_count hR _) (fun T h => hK _ T h) | exact l_pse (st_count hR _) (fun T h => hK _ T h)
  refine gt_ite (fun _ => ?_) (fun _ => ?_)
  · -- digest
    first | exact l_ll (st_digest hR) hK | exact l_lle (st_digest hR) hK | exact l_llc (st_digest hR) hK
  exact hK _ _ hR
theorem law_pure (L : Nat) (xs : Nat → Int32) (hL : L ≤ 3584) : ml xs L = some () := by
  have main : gt (ml xs L) (fun _ => True) := by
    unfold ml
    refine gt_loop (fun t => ∃ i, 7 * i ≤ L ∧ t.1 = nn (7 * i) ∧ RR t.2.1 t.2.2) (fun t => 4000 - t.1.toNatClampNeg) ?_ 5000 _ ⟨0, by omega, rfl, RR_0 rfl (fun q j h => ?_)⟩ ?_
    · rintro ⟨_, S, T⟩ k ⟨i, hi, rfl, hR⟩ hk
      simp only at hR
      by_cases z : L < 7 * i + 7
      · simp only [ml_18]
        rw [if_pos (show Int32.ofNat L - 7 < nn (7 * i) by rw [show Int32.ofNat L = nn L from rfl, law_end hL hi]; exact z)]
        exact gt_some trivial
      · refine law_step hL (by omega) hR (fun S T h => hk (_, S, T) ⟨i + 1, by omega, rfl, h⟩ ?_)
        simp only
        rw [nn_c (by omega), nn_c (by omega)]
        omega
    · show (if q = 0 then (if j = 23 then (-1 : Int32) else 0) else 0) = 0
      by_cases z : q = 0
      · rw [if_pos z, if_neg (by omega)]
      · rw [if_neg z]
    · show 4000 - (0 : Int32).toNatClampNeg < 5000
      omega
  obtain ⟨r, e, _⟩ := main
  rw [e]

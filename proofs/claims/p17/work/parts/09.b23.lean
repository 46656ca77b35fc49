/-! b23: texts; letters -/
/-! letters: both loops in step -/
def lw_c (w : Int64) (x : Int32) : Int32 := ((w >>> (((8 : Int32) * x).toInt64 &&& 63)) &&& (255 : Int64)).toInt32
theorem lw_bits (v : BitVec 64) (k : Nat) (hk : k ≤ 56) : (v >>> k) &&& 255#64 = (v.sshiftRight k) &&& 255#64 := by
  apply BitVec.eq_of_getLsbD_eq
  intro i hi
  simp only [BitVec.getLsbD_and, BitVec.getLsbD_ushiftRight, BitVec.getLsbD_sshiftRight]
  by_cases h : i < 8
  · have h2 : k + i < 64 := by omega
    have h3 : ¬ 64 ≤ i := by omega
    simp [h2, h3]
  · have h2 : (255#64).getLsbD i = false := by
      rw [BitVec.getLsbD_ofNat]
      have : Nat.testBit 255 i = false := by
        rw [show (255 : Nat) = 2 ^ 8 - 1 from rfl, Nat.testBit_two_pow_sub_one]
        simpa using h
      simp [this]
    rw [h2, Bool.and_false, Bool.and_false]
theorem lw_code (w : Int64) (S : gx_S) : ∀ i, i < 8 → m_ShopsAsOne_codeAt w (nn i) S = some (lw_c w (nn i)) := by
  have key : ∀ (a : UInt64) (b : Int64) (k : Nat), k ≤ 56 → a.toNat % 64 = k → (b.toBitVec.smod 64).toNat = k → (w.toUInt64 >>> a).toInt64 &&& (255 : Int64) = (w >>> b) &&& (255 : Int64) := by
    intro a b k hk ha hb
    apply Int64.toBitVec_inj.mp
    have h := lw_bits w.toBitVec k hk
    rw [Int64.toBitVec_and, Int64.toBitVec_and, Int64.toBitVec_shiftRight]
    have e1 : (w.toUInt64 >>> a).toInt64.toBitVec = w.toBitVec >>> k := by
      show (w.toUInt64 >>> a).toBitVec = _
      rw [UInt64.toBitVec_shiftRight]
      show w.toBitVec >>> (a.toBitVec % 64#64) = _
      rw [BitVec.ushiftRight_eq']
      congr 1
    have e2 : w.toBitVec.sshiftRight' (b.toBitVec.smod 64) = w.toBitVec.sshiftRight k := by
      unfold BitVec.sshiftRight'
      rw [hb]
    rw [e1]
    exact h.trans (by rw [e2]; rfl)
  intro i hi
  unfold m_ShopsAsOne_codeAt lw_c
  refine congrArg some (congrArg Int64.toInt32 ?_)
  match i, hi with
  | 0, _ => exact key _ _ 0 (by decide) (by decide) (by decide)
  | 1, _ => exact key _ _ 8 (by decide) (by decide) (by decide)
  | 2, _ => exact key _ _ 16 (by decide) (by decide) (by decide)
  | 3, _ => exact key _ _ 24 (by decide) (by decide) (by decide)
  | 4, _ => exact key _ _ 32 (by decide) (by decide) (by decide)
  | 5, _ => exact key _ _ 40 (by decide) (by decide) (by decide)
  | 6, _ => exact key _ _ 48 (by decide) (by decide) (by decide)
  | 7, _ => exact key _ _ 56 (by decide) (by decide) (by decide)
  | i + 8, h => exact absurd h (by omega)
/-- how many letters w tells; none: it is refused -/
def lt_go (w : Int64) : Nat → Nat → Int32 → Int32 → Option Int32
  | 0, _, f, _ => some f
  | d + 1, i, f, o => if 126 < lw_c w (nn i) then none else if o = 0 ∨ lw_c w (nn i) = 0 then lt_go w d (i + 1) (f + if lw_c w (nn i) = 0 then 0 else 1) (if lw_c w (nn i) = 0 then 1 else 0) else none
theorem lt_m1 (w : Int64) (S : gx_S) (f o : Int32) (i : Nat) (hi : i < 8) (k : Int32 × Int32 × Int32 → Option (Int32 × gx_S)) : m_ShopsAsOne_letters_8 w S (f, o, nn i) k = if 126 < lw_c w (nn i) then some (-102, S) else if o = 0 ∨ lw_c w (nn i) = 0 then k (f + (if lw_c w (nn i) = 0 then 0 else 1), (if lw_c w (nn i) = 0 then 1 else 0), nn (i + 1)) else some (-102, S) := by
  have h8 : ¬ (8 : Int32) ≤ nn i := by rw [show (8 : Int32) = nn 8 from rfl, nn_le (by omega) (by omega)]; omega
  simp only [m_ShopsAsOne_letters_8, if_neg h8, lw_code w S i hi, gx_cp, m_ShopsAsOne_letters_43, m_ShopsAsOne_letters_53, m_ShopsAsOne_letters_66, nn_s]
  by_cases h1 : 126 < lw_c w (nn i)
  · simp [h1]
  · by_cases h2 : o = 0 <;> by_cases h3 : lw_c w (nn i) = 0 <;> simp [h1, h2, h3]
theorem lt_n1 (w : Int64) (S : gx_S) (f o : Int32) (i : Nat) (hi : i < 8) (k : Int32 × Int32 × Int32 → Option (Int32 × gx_S)) : n_letters_8 w S (f, o, nn i) k = if 126 < lw_c w (nn i) then some (-102, S) else if o = 0 ∨ lw_c w (nn i) = 0 then k (f + (if lw_c w (nn i) = 0 then 0 else 1), (if lw_c w (nn i) = 0 then 1 else 0), nn (i + 1)) else some (-102, S) := by
  have h8 : ¬ (8 : Int32) ≤ nn i := by rw [show (8 : Int32) = nn 8 from rfl, nn_le (by omega) (by omega)]; omega
  have e : (((w >>> (((8 : Int32) * nn i).toInt64 &&& 63)) &&& (255 : Int64)).toInt32) = lw_c w (nn i) := rfl
  simp only [n_letters_8, if_neg h8, e, n_letters_49, n_letters_59, n_letters_64, n_letters_77, nn_s]
  by_cases h1 : 126 < lw_c w (nn i)
  · simp [h1]
  · by_cases h2 : o = 0 <;> by_cases h3 : lw_c w (nn i) = 0 <;> simp [h1, h2, h3]
theorem lt_mr (w : Int64) (S : gx_S) : ∀ (d i : Nat) (f o : Int32) (n : Nat), i + d = 8 → d < n → gx_loop (m_ShopsAsOne_letters_8 w S) n (f, o, nn i) = match lt_go w d i f o with
    | none => some (-102, S)
    | some g => if ((S 66 1) + g) ≤ 50 then gx_loop (m_ShopsAsOne_letters_94 w g) 5000 (0, S) else some ((-104), S)
  | 0, i, f, o, n, h, hn => by
    obtain ⟨n, rfl⟩ : ∃ z, n = z + 1 := ⟨n - 1, by omega⟩
    rw [gx_loop_s, show i = 8 by omega]
    simp only [m_ShopsAsOne_letters_8, lt_go]
    rw [if_pos (by decide)]
  | d + 1, i, f, o, n, h, hn => by
    obtain ⟨n, rfl⟩ : ∃ z, n = z + 1 := ⟨n - 1, by omega⟩
    rw [gx_loop_s, lt_m1 w S f o i (by omega)]
    unfold lt_go
    split
    · rfl
    · split
      · exact lt_mr w S d (i + 1) _ _ n (by omega) (by omega)
      · rfl
theorem lt_nr (w : Int64) (S : gx_S) : ∀ (d i : Nat) (f o : Int32) (n : Nat), i + d = 8 → d < n → gx_loop (n_letters_8 w S) n (f, o, nn i) = match lt_go w d i f o with
    | none => some (-102, S)
    | some g => if ((S 0 14) + g) ≤ 50 then gx_loop (n_letters_102 w g) 5000 (0, S) else some ((-104), S)
  | 0, i, f, o, n, h, hn => by
    obtain ⟨n, rfl⟩ : ∃ z, n = z + 1 := ⟨n - 1, by omega⟩
    rw [gx_loop_s, show i = 8 by omega]
    simp only [n_letters_8, lt_go]
    rw [if_pos (by decide)]
  | d + 1, i, f, o, n, h, hn => by
    obtain ⟨n, rfl⟩ : ∃ z, n = z + 1 := ⟨n - 1, by omega⟩
    rw [gx_loop_s, lt_n1 w S f o i (by omega)]
    unfold lt_go
    split
    · rfl
    · split
      · exact lt_nr w S d (i + 1) _ _ n (by omega) (by omega)
      · rfl
theorem lt_few (w : Int64) : ∀ (d i a : Nat) (o g : Int32), lt_go w d i (nn a) o = some g → ∃ m, m ≤ a + d ∧ g = nn m
  | 0, i, a, o, g, h => ⟨a, by omega, (Option.some.inj h).symm⟩
  | d + 1, i, a, o, g, h => by
    unfold lt_go at h
    split at h
    · cases h
    · split at h
      · by_cases h3 : lw_c w (nn i) = 0
        · rw [if_pos h3] at h
          have h := (show lt_go w d (i + 1) (nn a + 0) _ = some g from h)
          rw [show nn a + 0 = nn a by simp] at h
          obtain ⟨m, h1, h2⟩ := lt_few w d (i + 1) a _ g h
          exact ⟨m, by omega, h2⟩
        · rw [if_neg h3] at h
          have h := (show lt_go w d (i + 1) (nn a + 1) _ = some g from h)
          rw [nn_s] at h
          obtain ⟨m, h1, h2⟩ := lt_few w d (i + 1) (a + 1) _ g h
          exact ⟨m, by omega, h2⟩
      · cases h
theorem lw_n (w : Int64) (x : Int32) : ∃ c, c < 256 ∧ lw_c w x = nn c := by
  unfold lw_c
  generalize w >>> (((8 : Int32) * x).toInt64 &&& 63) = y
  refine ⟨y.toBitVec.toNat % 256, Nat.mod_lt _ (by decide), ?_⟩
  apply Int32.toBitVec_inj.mp
  apply BitVec.eq_of_toNat_eq
  show ((y.toBitVec &&& 255#64).signExtend 32).toNat = (BitVec.ofNat 32 (y.toBitVec.toNat % 256)).toNat
  rw [BitVec.signExtend_eq_setWidth_of_le _ (by decide), BitVec.toNat_setWidth, BitVec.toNat_ofNat, BitVec.toNat_and]
  congr 1
  exact Nat.and_two_pow_sub_one_eq_mod _ 8
theorem i8_n : ∀ c, c < 128 → (Int8.ofNat c).toInt32 = nn c := by decide +kernel
theorem lw_b {y : Int64} {c : Nat} (hc : c < 128) (h : (y &&& (255 : Int64)).toInt32 = nn c) : (y.toInt32).toInt8.toInt32 = nn c := by
  have e : y.toBitVec.toNat % 256 = c := by
    have h2 := congrArg (fun z : Int32 => z.toBitVec.toNat) h
    have h3 : ((y.toBitVec &&& 255#64).signExtend 32).toNat = (BitVec.ofNat 32 c).toNat := h2
    rw [BitVec.signExtend_eq_setWidth_of_le _ (by decide), BitVec.toNat_setWidth, BitVec.toNat_ofNat, BitVec.toNat_and] at h3
    have h4 : y.toBitVec.toNat &&& (255#64).toNat = y.toBitVec.toNat % 256 := Nat.and_two_pow_sub_one_eq_mod _ 8
    rw [h4] at h3
    have := Nat.mod_lt y.toBitVec.toNat (y := 256) (by decide)
    omega
  have e2 : y.toInt32.toInt8 = Int8.ofNat c := by
    apply Int8.toBitVec_inj.mp
    apply BitVec.eq_of_toNat_eq
    show ((y.toBitVec.signExtend 32).signExtend 8).toNat = (BitVec.ofNat 8 c).toNat
    rw [BitVec.signExtend_eq_setWidth_of_le _ (by decide), BitVec.toNat_setWidth, BitVec.signExtend_eq_setWidth_of_le _ (by decide), BitVec.toNat_setWidth, BitVec.toNat_ofNat]
    omega
  rw [e2, i8_n c hc]
theorem lt_ok (w : Int64) : ∀ (d i : Nat) (f o g : Int32), lt_go w d i f o = some g → ∀ j, i ≤ j → j < i + d → ¬ 126 < lw_c w (nn j)
  | 0, i, f, o, g, h, j, h1, h2 => absurd h1 (by omega)
  | d + 1, i, f, o, g, h, j, h1, h2 => by
    unfold lt_go at h
    split at h
    · cases h
    · rename_i hq
      split at h
      · rcases Nat.lt_or_ge i j with q | q
        · exact lt_ok w d (i + 1) _ _ g h j (by omega) (by omega)
        · have : j = i := by omega
          subst this
          exact hq
      · cases h
theorem nar_c : ∀ c, c < 256 → vp_nar .char (nn c) = nn c ∧ vp_nar .char (((nn c).toUInt32 % 65536).toInt32) = nn c := by decide +kernel
theorem nar_y : ∀ c, c < 128 → vp_nar .byte (nn c) = nn c := by decide +kernel
theorem bc_n : ∀ c, c < 256 → (nn c).toUInt32.toUInt16.toUInt32.toInt32 = nn c := by decide +kernel
/-- the class's text r: n letters, L -/
def vT (r n : Nat) (L : Nat → Nat) (S : gx_S) : Prop := n ≤ 50 ∧ S (66 + 2 * r) 1 = nn n ∧ ∀ j, j < n → S (66 + 2 * r + 1) j = nn (L j) ∧ L j ≤ 126
/-- the reference's page -/
def uT (n : Nat) (L : Nat → Nat) (T : gx_S) : Prop := n ≤ 50 ∧ T 0 14 = nn n ∧ ∀ j, j < n → T 11 j = nn (L j) ∧ L j ≤ 126
theorem x_at {r n : Nat} {L : Nat → Nat} {S : gx_S} (h : vT r n L S) {j : Nat} (hj : j < 1000) : m_Text_at r (nn j) S = some (if j < n then nn (L j) else 0) := by
  obtain ⟨h1, h2, h3⟩ := h
  unfold m_Text_at m_Text_at_21
  rw [if_neg (by rw [nn_0, nn_lt (by omega) (by omega)]; omega), h2]
  simp (disch := omega) only [nn_le]
  by_cases q : n ≤ j
  · rw [if_pos q, if_neg (by omega)]
  · obtain ⟨e, b⟩ := h3 j (by omega)
    rw [if_neg q, if_pos (by omega)]
    simp (disch := omega) only [ck_n, nn_c, e]
    unfold gx_bc
    rw [if_pos (bc_n _ (by omega))]
theorem x_append {r n c : Nat} {L : Nat → Nat} {S : gx_S} (h : vT r n L S) (hn : n < 50) (hc : c ≤ 126) : gt (m_Text_append r (((nn c).toUInt32 % 65536).toInt32) S) fun T => (∀ q j, (q ≠ 66 + 2 * r ∨ j ≠ 1) → q ≠ 66 + 2 * r + 1 → T q j = S q j) ∧ vT r (n + 1) (fun j => if j = n then c else L j) T := by
  obtain ⟨h1, h2, h3⟩ := h
  unfold m_Text_append
  rw [h2, if_neg (by rw [show (50 : Int32) = nn 50 from rfl, nn_le (by omega) (by omega)]; omega)]
  simp (disch := omega) only [ck_n, nn_c, let_s, gx_st_q, h2, nn_s]
  rw [(nar_c c (by omega)).2]
  refine gt_some ⟨fun q j hq1 hq2 => ?_, by omega, gx_st_eq _ _ _ _, fun j hj => ?_⟩
  · by_cases z : q = 66 + 2 * r
    · subst z
      rw [gx_st_j _ _ _ (by omega), gx_st_q _ _ _ _ (by omega)]
    · rw [gx_st_q _ _ _ _ z, gx_st_q _ _ _ _ hq2]
  · rw [gx_st_q _ _ _ _ (by omega)]
    show _ = nn (if j = n then c else L j) ∧ (if j = n then c else L j) ≤ 126
    by_cases z : j = n
    · rw [if_pos z, z, gx_st_eq]
      exact ⟨rfl, hc⟩
    · rw [gx_st_j _ _ _ z, if_neg z]
      exact h3 j (by omega)
/-- the page behind the letters of w -/
def pgL (w : Int64) (n : Nat) (L : Nat → Nat) : Nat → Nat := fun j => if j < n then L j else (lw_c w (nn (j - n))).toNatClampNeg
theorem lw_k {w : Int64} {i : Nat} (h : ¬ 126 < lw_c w (nn i)) : lw_c w (nn i) = nn (lw_c w (nn i)).toNatClampNeg ∧ (lw_c w (nn i)).toNatClampNeg ≤ 126 := by
  obtain ⟨c, hc, e⟩ := lw_n w (nn i)
  rw [e] at h ⊢
  rw [nn_c (by omega)]
  rw [show (126 : Int32) = nn 126 from rfl, nn_lt (by omega) (by omega)] at h
  exact ⟨rfl, by omega⟩
theorem x_letters {n : Nat} {L : Nat → Nat} {S : gx_S} (h : vT 0 n L S) (w : Int64) : gt (m_ShopsAsOne_letters w S) fun t => match lt_go w 8 0 0 0 with
    | none => t.1 = -102 ∧ t.2 = S
    | some g => ∃ m, g = nn m ∧ m ≤ 8 ∧ ((50 < n + m ∧ t.1 = -104 ∧ t.2 = S) ∨ (n + m ≤ 50 ∧ t.1 = nn (n + m) ∧ (∀ q j, q ≠ 66 → q ≠ 67 → t.2 q j = S q j) ∧ vT 0 (n + m) (pgL w n L) t.2)) := by
  have h2 : S 66 1 = nn n := h.2.1
  have hn := h.1
  unfold m_ShopsAsOne_letters
  rw [show gx_loop (m_ShopsAsOne_letters_8 w S) 5000 (0, 0, 0) = _ from lt_mr w S 8 0 0 0 5000 (by decide) (by decide)]
  cases hg : lt_go w 8 0 0 0 with
  | none => exact gt_some ⟨rfl, rfl⟩
  | some g =>
    obtain ⟨m, hm, rfl⟩ := lt_few w 8 0 0 0 g hg
    have hok := lt_ok w 8 0 0 0 (nn m) hg
    simp only
    rw [h2, nn_add, show (50 : Int32) = nn 50 from rfl]
    simp (disch := omega) only [nn_le]
    by_cases q : n + m ≤ 50
    · rw [if_pos q]
      refine gt_mono (P := fun t => t.1 = nn (n + m) ∧ (∀ q j, q ≠ 66 → q ≠ 67 → t.2 q j = S q j) ∧ vT 0 (n + m) (pgL w n L) t.2) ?_ (fun t ht => ⟨m, rfl, by omega, Or.inr ⟨q, ht⟩⟩)
      refine gt_for m (fun i t => t.1 = nn i ∧ (∀ q j, q ≠ 66 → q ≠ 67 → t.2 q j = S q j) ∧ vT 0 (n + i) (pgL w n L) t.2) ?_ ?_ 0 5000 _ (by omega) ?_ (by omega)
      · rintro i ⟨_, T⟩ k hi ⟨rfl, f, g⟩ hk
        simp only at f g
        simp only [m_ShopsAsOne_letters_94]
        simp (disch := omega) only [nn_le, lw_code w T i (by omega), cp_s, nn_s]
        rw [if_neg (by omega)]
        obtain ⟨e, b⟩ := lw_k (hok i (by omega) (by omega))
        rw [e]
        refine gt_cp (x_append g (by omega) b) (fun U hU => ?_)
        obtain ⟨u1, u2, u3, u4⟩ := hU
        refine hk _ ⟨rfl, fun q j h1 h2 => ?_, u2, u3, fun j hj => ?_⟩
        · simp only
          rw [u1 q j (by omega) (by omega)]; exact f q j h1 h2
        · have := u4 j hj
          simp only at this
          by_cases z : j = n + i
          · rw [if_pos z] at this
            subst z
            have e3 : pgL w n L (n + i) = (lw_c w (nn i)).toNatClampNeg := by
              unfold pgL
              rw [if_neg (by omega), show n + i - n = i by omega]
            rw [e3]; exact this
          · rw [if_neg z] at this
            exact this
      · rintro ⟨_, T⟩ k ⟨rfl, f, g⟩
        simp only at f g
        simp only [m_ShopsAsOne_letters_94]
        rw [if_pos (Int32.le_refl _)]
        exact gt_some ⟨g.2.1, f, g⟩
      · refine ⟨rfl, fun _ _ _ _ => rfl, h.1, h.2.1, fun j hj => ?_⟩
        have := h.2.2 j (by omega)
        have e3 : pgL w n L j = L j := by
          unfold pgL
          rw [if_pos (by omega)]
        rw [e3]; exact this
    · rw [if_neg q]
      exact gt_some ⟨m, rfl, by omega, Or.inl ⟨by omega, rfl, rfl⟩⟩
theorem u_letters {n : Nat} {L : Nat → Nat} {S : gx_S} (h : uT n L S) (w : Int64) : gt (n_letters w S) fun t => match lt_go w 8 0 0 0 with
    | none => t.1 = -102 ∧ t.2 = S
    | some g => ∃ m, g = nn m ∧ m ≤ 8 ∧ ((50 < n + m ∧ t.1 = -104 ∧ t.2 = S) ∨ (n + m ≤ 50 ∧ t.1 = nn (n + m) ∧ (∀ q j, (q ≠ 0 ∨ j ≠ 14) → q ≠ 11 → t.2 q j = S q j) ∧ uT (n + m) (pgL w n L) t.2)) := by
  have h2 : S 0 14 = nn n := h.2.1
  have hn := h.1
  unfold n_letters
  rw [show gx_loop (n_letters_8 w S) 5000 (0, 0, 0) = _ from lt_nr w S 8 0 0 0 5000 (by decide) (by decide)]
  cases hg : lt_go w 8 0 0 0 with
  | none => exact gt_some ⟨rfl, rfl⟩
  | some g =>
    obtain ⟨m, hm, rfl⟩ := lt_few w 8 0 0 0 g hg
    have hok := lt_ok w 8 0 0 0 (nn m) hg
    simp only
    rw [h2, nn_add, show (50 : Int32) = nn 50 from rfl]
    simp (disch := omega) only [nn_le]
    by_cases q : n + m ≤ 50
    · rw [if_pos q]
      refine gt_mono (P := fun t => t.1 = nn (n + m) ∧ (∀ q j, (q ≠ 0 ∨ j ≠ 14) → q ≠ 11 → t.2 q j = S q j) ∧ uT (n + m) (pgL w n L) t.2) ?_ (fun t ht => ⟨m, rfl, by omega, Or.inr ⟨q, ht⟩⟩)
      refine gt_for m (fun i t => t.1 = nn i ∧ (∀ q j, q ≠ 11 → t.2 q j = S q j) ∧ ∀ j, j < n + i → t.2 11 j = nn (pgL w n L j) ∧ pgL w n L j ≤ 126) ?_ ?_ 0 5000 _ (by omega) ?_ (by omega)
      · rintro i ⟨_, T⟩ k hi ⟨rfl, f, g⟩ hk
        simp only at f g
        simp only [n_letters_102]
        have e14 : T 0 14 = nn n := by rw [f _ _ (by omega)]; exact h2
        simp (disch := omega) only [nn_le, e14, nn_add, ck_n, nn_c, let_s, nn_s]
        rw [if_neg (by omega)]
        obtain ⟨e, b⟩ := lw_k (hok i (by omega) (by omega))
        have e3 : pgL w n L (n + i) = (lw_c w (nn i)).toNatClampNeg := by
          unfold pgL
          rw [if_neg (by omega), show n + i - n = i by omega]
        rw [lw_b (c := (lw_c w (nn i)).toNatClampNeg) (by omega) e, nar_y _ (by omega)]
        refine hk _ ⟨rfl, fun q j hq => ?_, fun j hj => ?_⟩
        · simp only
          rw [gx_st_q _ _ _ _ hq]; exact f q j hq
        · simp only
          by_cases z : j = n + i
          · subst z
            rw [gx_st_eq, e3]
            exact ⟨rfl, b⟩
          · rw [gx_st_j _ _ _ z]
            exact g j (by omega)
      · rintro ⟨_, T⟩ k ⟨rfl, f, g⟩
        simp only at f g
        simp only [n_letters_102]
        have e14 : T 0 14 = nn n := by rw [f _ _ (by omega)]; exact h2
        rw [if_pos (Int32.le_refl _), e14, nn_add]
        refine gt_let (gt_some ⟨gx_st_eq T 0 14 (nn (n + m)), fun q j h1 h2 => ?_, by omega, gx_st_eq T 0 14 (nn (n + m)), fun j hj => ?_⟩)
        · simp only
          by_cases z : q = 0
          · subst z
            rw [gx_st_j _ _ _ (by omega)]; exact f _ _ h2
          · rw [gx_st_q _ _ _ _ z]; exact f q j h2
        · simp only
          rw [gx_st_q _ _ _ _ (by omega)]
          exact g j hj
      · refine ⟨rfl, fun _ _ _ => rfl, fun j hj => ?_⟩
        have := h.2.2 j (by omega)
        have e3 : pgL w n L j = L j := by
          unfold pgL
          rw [if_pos (by omega)]
        rw [e3]; exact this
    · rw [if_neg q]
      exact gt_some ⟨m, rfl, by omega, Or.inl ⟨by omega, rfl, rfl⟩⟩

/-! b12: joining -/
def ss (G D : gx_S) (m c : Nat) : gx_S := fun i j => if i = 2 ∧ j < nP G ∧ m.testBit j = true then nn c else D i j
def fK (S T : gx_S) : Prop := ∀ q j, (q < 37 ∨ 62 < q) → T q j = S q j
def fJ (S T : gx_S) : Prop := ∀ q j, (q < 33 ∨ 64 < q) → T q j = S q j
theorem fK_t {S T U : gx_S} (h : fK S T) (h' : fK T U) : fK S U := fun q j hq => (h' q j hq).trans (h q j hq)
theorem fJ_t {S T U : gx_S} (h : fJ S T) (h' : fJ T U) : fJ S U := fun q j hq => (h' q j hq).trans (h q j hq)
theorem fK_J {S T : gx_S} (h : fK S T) : fJ S T := fun q j hq => h q j (by omega)
theorem pX_J {r : Nat} {G D S T : gx_S} (h : pX r G D S) (hr : r < 3) (f : fJ S T) : pX r G D T := ⟨h.1, h.2.1, vG_f h.2.2.1 (wG_S h.1).2 (fun q j hq => f q j (by omega)), vD_f h.2.2.2 (fun q j h1 h2 => f q j (by omega))⟩
theorem pX_K {r : Nat} {G D S T : gx_S} (h : pX r G D S) (hr : r < 4) (f : fK S T) : pX r G D T := ⟨h.1, h.2.1, vG_f h.2.2.1 (wG_S h.1).2 (fun q j hq => f q j (by omega)), vD_f h.2.2.2 (fun q j h1 h2 => f q j (by omega))⟩
def sB (G B S : gx_S) : Prop := ∀ s, s < nS G → S 64 s = spa G B s
theorem x_restsBefore {r : Nat} {G D S : gx_S} (h : pX r G D S) (hw : wD G D) (hr : r < 3) : gt (m_Joining_restsBefore r S) fun t => t.1 = (if (ste G D).1 = -1 then 0 else 1) ∧ fJ S t.2 ∧ (¬ (ste G D).1 = -1 → sB G (ste G D).2 t.2) := by
  have hG := h.1
  obtain ⟨eS, hS⟩ := wG_S hG
  unfold m_Joining_restsBefore
  refine gt_cp (x_become (r := 3) (by omega) hw h.2.2.2) (fun S2 hS2 => ?_)
  obtain ⟨f2, d2⟩ := hS2
  have p2 : pX 3 G D S2 := ⟨hG, wD_0 hw, vG_f h.2.2.1 hS (fun q j hq => f2 q j (by omega)), d2⟩
  refine gt_cs (x_settle p2 hw (by omega)) (fun v S4 hS4 => ?_)
  obtain ⟨e4, f4, d4⟩ := hS4
  simp only at e4 f4 d4
  have fj : fJ S S4 := fun q j hq => (f4 q j (by omega) (by omega)).trans (f2 q j (by omega))
  have p4 : pX 3 G (ste G D).2 S4 := ⟨hG, wD_0 (wD_ste hG hw), vG_f h.2.2.1 hS (fun q j hq => fj q j (by omega)), d4⟩
  rw [e4]
  by_cases q : (ste G D).1 = -1
  · rw [if_pos q]
    exact gt_some ⟨by rw [if_pos q], fj, fun z => absurd q z⟩
  · rw [if_neg q]
    refine gt_for (nS G) (fun s t => t.1 = nn s ∧ (∀ q j, q ≠ 64 → t.2 q j = S4 q j) ∧ ∀ i, i < s → t.2 64 i = spa G (ste G D).2 i) ?_ ?_ 0 5000 _ (by omega) ?_ (by omega)
    · rintro s ⟨x, T⟩ k hs ⟨rfl, f, g⟩ hk
      simp only at f g
      have pT : pX 3 G (ste G D).2 T := ⟨hG, p4.2.1, vG_f p4.2.2.1 hS (fun q j hq => f q j (by omega)), vD_f p4.2.2.2 (fun q j h1 h2 => f q j (by omega))⟩
      have e1 : T 1 2 = nn (nS G) := by rw [pT.2.2.1.1 _ _ (by omega) (by omega), eS]
      simp only [m_Joining_restsBefore_27]
      simp (disch := omega) only [e1, nn_le, nn_c, ck_n, nn_s, let_s, x_spareOf pT hs, cp_s]
      rw [if_neg (by omega)]
      refine hk _ ⟨rfl, fun q j hq => ?_, fun i hi => ?_⟩
      · simp only
        rw [gx_st_q _ _ _ _ hq]; exact f q j hq
      · rcases Nat.lt_or_ge i s with y | y
        · simp only
          rw [gx_st_j _ _ _ (by omega)]; exact g i y
        · have : i = s := by omega
          subst this
          simp only [gx_st_eq]
    · rintro ⟨x, T⟩ k ⟨rfl, f, g⟩
      simp only at f g
      have e1 : T 1 2 = nn (nS G) := by rw [f _ _ (by omega), p4.2.2.1.1 _ _ (by omega) (by omega), eS]
      simp only [m_Joining_restsBefore_27]
      simp (disch := omega) only [e1, nn_le]
      rw [if_pos (by omega)]
      exact gt_some ⟨by rw [if_neg q], fun q j hq => (f q j (by omega)).trans (fj q j hq), fun _ => g⟩
    · exact ⟨rfl, fun _ _ _ => rfl, fun i hi => absurd hi (by omega)⟩
/-- standing 4 is that of r with b's shops a's -/
theorem x_behind {r : Nat} {G D S : gx_S} (h : pX r G D S) (hw : wD G D) (hr : r < 4) {a b : Nat} (ha : a < 6) (hb : b < 6) : gt (gx_cp (m_Standing_become 4 r S) fun S2 => m_Standing_give 4 (nn b) (nn a) S2) fun T => (∀ q j, (q < 37 ∨ 40 < q) → T q j = S q j) ∧ vD 4 (gv G D a b) T := by
  have hG := h.1
  have hS := (wG_S hG).2
  refine gt_cp (x_become (r := 4) (by omega) hw h.2.2.2) (fun S2 hS2 => ?_)
  obtain ⟨f2, d2⟩ := hS2
  have p2 : pX 4 G D S2 := ⟨hG, wD_0 hw, vG_f h.2.2.1 hS (fun q j hq => f2 q j (by omega)), d2⟩
  refine gt_mono (x_give p2 (by omega) a b) (fun T hT => ?_)
  exact ⟨fun q j hq => (hT.1 q j (by omega)).trans (f2 q j (by omega)), hT.2⟩
theorem cp_cp {A B R : Type} {o : Option A} {f : A → Option B} {k : B → Option R} : (gx_cp o fun a => gx_cp (f a) k) = gx_cp (gx_cp o f) k := by
  cases o <;> rfl
theorem cp_cs {A B R : Type} {o : Option A} {f : A → Option (B × gx_S)} {k : B → gx_S → Option R} : (gx_cp o fun a => gx_cs (f a) k) = gx_cs (gx_cp o f) k := by
  cases o <;> rfl
theorem x_settle4 {r : Nat} {G D S E T : gx_S} (h : pX r G D S) (hE : wD G E) (f : ∀ q j, (q < 37 ∨ 40 < q) → T q j = S q j) (d : vD 4 E T) : gt (m_Bests_settle 4 T) fun t => t.1 = (ste G E).1 ∧ fK S t.2 ∧ pX 4 G (ste G E).2 t.2 := by
  have hG := h.1
  have hS := (wG_S hG).2
  have p : pX 4 G E T := ⟨hG, wD_0 hE, vG_f h.2.2.1 hS (fun q j hq => f q j (by omega)), d⟩
  refine gt_mono (x_settle p hE (by omega)) (fun t ht => ?_)
  obtain ⟨e4, f4, d4⟩ := ht
  have fk : fK S t.2 := fun q j hq => (f4 q j (by omega) (by omega)).trans (f q j (by omega))
  exact ⟨e4, fk, hG, wD_0 (wD_ste hG hE), vG_f h.2.2.1 hS (fun q j hq => fk q j (by omega)), d4⟩
theorem x_roundsBehind {r : Nat} {G D S : gx_S} (h : pX r G D S) (hw : wD G D) (hr : r < 4) {a b : Nat} (ha : a < 6) (hb : b < 6) (hm : wD G (gv G D a b)) : gt (m_Joining_roundsBehind r (nn a) (nn b) S) fun t => t.1 = (ste G (gv G D a b)).1 ∧ fK S t.2 ∧ pX 4 G (ste G (gv G D a b)).2 t.2 := by
  unfold m_Joining_roundsBehind
  rw [cp_cp]
  refine gt_cp (x_behind h hw hr ha hb) (fun T hT => ?_)
  exact gt_cs (x_settle4 h hm hT.1 hT.2) (fun v U hU => gt_some hU)
def dr (G B E : gx_S) (s : Nat) : Int32 := spa G B s - spa G E s
def hrm (G B E : gx_S) : Int32 := sm (fun s => (if 0 < dr G B E s then dr G B E s else 0) * G 7 s) (nS G)
def sto (p : Nat → Bool) : Nat → Int32
  | 0 => 0
  | j + 1 => if p j then sto p j ||| ((1 : Int32) <<< (nn j &&& 31)) else sto p j
def hsm (G B E : gx_S) : Int32 := sto (fun s => decide (0 < dr G B E s)) (nS G)
theorem x_dearerFor {G B E S : gx_S} (h : pX 4 G E S) (hB : sB G B S) {s : Nat} (hs : s < nS G) : m_Joining_dearerFor (nn s) S = some (dr G B E s) := by
  have hS := (wG_S h.1).2
  unfold m_Joining_dearerFor
  simp (disch := omega) only [ck_n, x_spareOf h hs, cp_s, nn_c, hB s hs]
  rfl
theorem x_harmInAll {G B E S : gx_S} (h : pX 4 G E S) (hB : sB G B S) : m_Joining_harmInAll S = some (hrm G B E) := by
  have v := h.2.2.1.1
  obtain ⟨eS, hS⟩ := wG_S h.1
  unfold m_Joining_harmInAll
  refine lp_for (nS G) (fun j => (sm (fun s => (if 0 < dr G B E s then dr G B E s else 0) * G 7 s) j, nn j)) (fun j k hj => ?_) (fun k => ?_) 0 5000 (by omega) (by omega)
  · simp only [m_Joining_harmInAll_4]
    simp (disch := omega) only [v, eS, nn_le, x_dearerFor h hB hj, cp_s, nn_s, nn_c, ck_n]
    rw [if_neg (by omega)]
    rfl
  · simp only [m_Joining_harmInAll_4]
    simp (disch := omega) only [v, eS, nn_le]
    rw [if_pos (by omega)]
    rfl
theorem x_sortsHarmed {G B E S : gx_S} (h : pX 4 G E S) (hB : sB G B S) : m_Joining_sortsHarmed S = some (hsm G B E) := by
  have v := h.2.2.1.1
  obtain ⟨eS, hS⟩ := wG_S h.1
  unfold m_Joining_sortsHarmed
  refine lp_for (nS G) (fun j => (sto (fun s => decide (0 < dr G B E s)) j, nn j)) (fun j k hj => ?_) (fun k => ?_) 0 5000 (by omega) (by omega)
  · simp only [m_Joining_sortsHarmed_4, m_Joining_sortsHarmed_29]
    simp (disch := omega) only [v, eS, nn_le, x_dearerFor h hB hj, cp_s, nn_s, nn_c, ck_n]
    rw [if_neg (by omega)]
    rw [show sto (fun s => decide (0 < dr G B E s)) (j + 1) = if decide (0 < dr G B E j) = true then sto (fun s => decide (0 < dr G B E s)) j ||| ((1 : Int32) <<< (nn j &&& 31)) else sto (fun s => decide (0 < dr G B E s)) j from rfl]
    by_cases q : dr G B E j ≤ 0
    · rw [if_pos q, if_neg (by simp only [decide_eq_true_eq]; lia)]
    · rw [if_neg q, if_pos (by simp only [decide_eq_true_eq]; lia)]
  · simp only [m_Joining_sortsHarmed_4]
    simp (disch := omega) only [v, eS, nn_le]
    rw [if_pos (by omega)]
    rfl
theorem sB_K {G B S T : gx_S} (h : sB G B S) (f : fK S T) : sB G B T := fun s hs => (f 64 s (by omega)).trans (h s hs)
def hmo (G B E : gx_S) : Int32 := if (ste G E).1 = -1 then -1 else hrm G B (ste G E).2
theorem x_harmOf {r : Nat} {G D B S : gx_S} (h : pX r G D S) (hw : wD G D) (hr : r < 4) {a b : Nat} (ha : a < 6) (hb : b < 6) (hm : wD G (gv G D a b)) (hB : sB G B S) : gt (m_Joining_harmOf r (nn a) (nn b) S) fun t => t.1 = hmo G B (gv G D a b) ∧ fK S t.2 := by
  unfold m_Joining_harmOf
  rw [cp_cp]
  refine gt_cp (x_behind h hw hr ha hb) (fun T hT => ?_)
  refine gt_cs (x_settle4 h hm hT.1 hT.2) (fun v U hU => ?_)
  obtain ⟨e, f, p⟩ := hU
  simp only at e f p
  rw [e]
  unfold hmo
  by_cases q : (ste G (gv G D a b)).1 = -1
  · rw [if_pos q, if_pos q]
    exact gt_some ⟨rfl, f⟩
  · rw [if_neg q, if_neg q, x_harmInAll p (sB_K hB f), cp_s]
    exact gt_some ⟨rfl, f⟩
def mxd (f : Nat → Int32) : Nat → Int32
  | 0 => 0
  | j + 1 => if mxd f j < f j then f j else mxd f j
def dws (G B E : gx_S) : Int32 := if (ste G E).1 = -1 then 1000000 else mxd (dr G B (ste G E).2) (nS G)
theorem x_dws {r : Nat} {G D B S : gx_S} (h : pX r G D S) (hw : wD G D) (hr : r < 4) {a b c m : Nat} (ha : a < 6) (hb : b < 6) (hm : wD G (ss G (gv G D a b) m c)) (h64 : m < 64) (hB : sB G B S) : gt (m_Joining_dearestWhenSold r (nn a) (nn b) (nn c) (nn m) S) fun t => t.1 = dws G B (ss G (gv G D a b) m c) ∧ fK S t.2 := by
  have hG := h.1
  obtain ⟨eS, hS⟩ := wG_S hG
  obtain ⟨eP, hP⟩ := wG_P hG
  unfold m_Joining_dearestWhenSold
  rw [cp_cp]
  refine gt_cp (x_behind h hw hr ha hb) (fun T0 hT0 => ?_)
  obtain ⟨f0, d0⟩ := hT0
  refine gt_for (nP G) (fun j t => t.1 = nn j ∧ (∀ q i, q ≠ 39 → t.2 q i = T0 q i) ∧ ∀ i, i < 6 → t.2 39 i = if i < j then ss G (gv G D a b) m c 2 i else gv G D a b 2 i) ?_ ?_ 0 5000 _ (by omega) ?_ (by omega)
  · rintro j ⟨x, T⟩ k hj ⟨rfl, f, g⟩ hk
    simp only at f g
    simp only [m_Joining_dearestWhenSold_20, m_Joining_dearestWhenSold_55]
    have e1 : T 1 1 = nn (nP G) := by rw [f _ _ (by omega), f0 _ _ (by omega), h.2.2.1.1 _ _ (by omega) (by omega), eP]
    have hb := fb_bi m h64 j (by omega)
    unfold bi at hb
    simp (disch := omega) only [e1, nn_le, nn_c, ck_n, let_s, nn_s, hb]
    rw [if_neg (by omega)]
    by_cases q : m.testBit j = true
    · simp only [q, ↓reduceIte]
      refine hk _ ⟨rfl, fun q i hq => ?_, fun i hi => ?_⟩
      · simp only
        rw [gx_st_q _ _ _ _ hq]; exact f q i hq
      · simp only
        by_cases z : i = j
        · subst z
          rw [gx_st_eq, if_pos (by omega)]
          unfold ss
          rw [if_pos ⟨rfl, hj, q⟩]
        · rw [gx_st_j _ _ _ z, g i hi]
          by_cases y : i < j
          · rw [if_pos y, if_pos (by omega)]
          · rw [if_neg y, if_neg (by omega)]
    · simp only [q]
      rw [if_neg (by decide)]
      refine hk _ ⟨rfl, f, fun i hi => ?_⟩
      simp only
      rw [g i hi]
      by_cases z : i = j
      · subst z
        rw [if_neg (by omega), if_pos (by omega)]
        unfold ss
        rw [if_neg (fun z => q z.2.2)]
      · by_cases y : i < j
        · rw [if_pos y, if_pos (by omega)]
        · rw [if_neg y, if_neg (by omega)]
  · rintro ⟨x, T⟩ k ⟨rfl, f, g⟩
    simp only at f g
    simp only [m_Joining_dearestWhenSold_20]
    have e1 : T 1 1 = nn (nP G) := by rw [f _ _ (by omega), f0 _ _ (by omega), h.2.2.1.1 _ _ (by omega) (by omega), eP]
    simp (disch := omega) only [e1, nn_le]
    rw [if_pos (by omega)]
    have dT : vD 4 (ss G (gv G D a b) m c) T := by
      intro i j h1 h2 h3
      match i, h1, h2 with
      | 1, _, _ =>
        have : ss G (gv G D a b) m c 1 j = gv G D a b 1 j := by simp [ss]
        rw [f _ _ (by omega), this]; exact d0 1 j (by omega) (by omega) h3
      | 2, _, _ =>
        show T 39 j = _
        rw [g j h3]
        by_cases y : j < nP G
        · rw [if_pos y]
        · rw [if_neg y]
          unfold ss
          rw [if_neg (fun z => y z.2.1)]
      | 3, _, _ =>
        have : ss G (gv G D a b) m c 3 j = gv G D a b 3 j := by simp [ss]
        rw [f _ _ (by omega), this]; exact d0 3 j (by omega) (by omega) h3
    refine gt_cs (x_settle4 h hm (fun q j hq => (f q j (by omega)).trans (f0 q j hq)) dT) (fun v U hU => ?_)
    obtain ⟨e, f, p⟩ := hU
    simp only at e f p
    rw [e]
    unfold dws
    by_cases q : (ste G (ss G (gv G D a b) m c)).1 = -1
    · rw [if_pos q, if_pos q]
      exact gt_some ⟨rfl, f⟩
    · rw [if_neg q, if_neg q]
      have hB' := sB_K hB f
      have el : gx_loop (m_Joining_dearestWhenSold_85 r U) 5000 (0, 0) = some (mxd (dr G B (ste G (ss G (gv G D a b) m c)).2) (nS G), U) := by
        refine lp_for (nS G) (fun j => (mxd (dr G B (ste G (ss G (gv G D a b) m c)).2) j, nn j)) (fun j k hj => ?_) (fun k => ?_) 0 5000 (by omega) (by omega)
        · simp only [m_Joining_dearestWhenSold_85]
          simp (disch := omega) only [p.2.2.1.1, eS, nn_le, x_dearerFor p hB' hj, cp_s, nn_s]
          rw [if_neg (by omega)]
          rfl
        · simp only [m_Joining_dearestWhenSold_85]
          simp (disch := omega) only [p.2.2.1.1, eS, nn_le]
          rw [if_pos (by omega)]
      rw [el]
      exact gt_some ⟨rfl, f⟩
  · exact ⟨rfl, fun _ _ _ => rfl, fun i hi => by rw [if_neg (by omega)]; exact d0 2 i (by omega) (by omega) hi⟩

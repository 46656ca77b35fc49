def n_rest (S : gx_S) : Option (Int32 × gx_S) := gx_cp (n_hold S) fun S2 => gx_cs (n_goOn S2) fun v5 S4 => if v5 = (-1) then gx_cp (n_back S4) fun S7 => some ((-103), S7) else some (v5, S4)
set_option maxRecDepth 20000 in
set_option maxHeartbeats 1000000 in
theorem cn_rest (l : Launch) (D : va_G) {cl : List vw_C} {tys : List (ClassId × FieldType)} {ι : Nat → ClassId} (hx : gx_std vwCl (gty ι) cl tys) (a : Nat → Nat) (S : gx_S) {out : Int32 × gx_S} (h : n_rest  S = some out) : gx_mI l D cl tys yX8_rest (.code yX8_rest cX8_rest 2 ((Option.some Jvm.ClassFile.FieldType.int)) :: gx_U) (gx_rm 8) [.ref (a 0)] (wM a ι S) (wM a ι) out := by
  unfold n_rest at h
  refine gx_startI (V := [.ref (a 0), .null]) 1 (by decide +kernel) (Nat.le_of_ble_eq_true rfl) rfl (fun Γ hl hD hcl hty hnL C F => ?_)
  subst hl; subst hD; subst hcl; subst hty
  refine gx_aload_0 C dX8_rest_0 rfl ?_
  obtain ⟨S2, e1, h⟩ := gi_cp h
  refine gc_VV C (cn_hold (gx_l Γ) (gx_D Γ) hx a _ e1) (gx_cw C gx_uu lk_X8_166 (by decide) (by decide)) (cls_X8 hx).1 (gs_recv (q := 0) lt_M_Model (oc_M_Model a ι _)) rfl rfl (Nat.le_of_ble_eq_true rfl) ⟨Nat.zero_le _, Nat.zero_le _⟩ dX8_rest_1 ?_
  refine gx_aload_0 C dX8_rest_4 rfl ?_
  obtain ⟨v5, S4, e3, h⟩ := gi_cs h
  refine gc_IV C (cn_goOn (gx_l Γ) (gx_D Γ) hx a _ e3) (gx_cw C gx_uu lk_X8_169 (by decide) (by decide)) (cls_X8 hx).1 (gs_recv (q := 0) lt_M_Model (oc_M_Model a ι _)) rfl rfl (Nat.le_of_ble_eq_true rfl) ⟨Nat.zero_le _, Nat.zero_le _⟩ dX8_rest_5 ?_
  refine gx_istore_1 C dX8_rest_8 (by rw [hnL]; decide) trivial ?_
  refine gx_iload_1 C dX8_rest_9 rfl ?_
  refine gx_iconstm1 C dX8_rest_10 ?_
  refine gx_icmp_ne (tgt := 21) C dX8_rest_11 (by decide) (fun hc8 => ?_) (fun hc8 => ?_)
  · have h := gi_f hc8 h
    refine gx_iload_1 C dX8_rest_21 rfl ?_
    exact gx_iret C F rfl dX8_rest_22 (Option.some.inj h)
  · have h := gi_t hc8 h
    refine gx_aload_0 C dX8_rest_14 rfl ?_
    obtain ⟨S7, e6, h⟩ := gi_cp h
    refine gc_VV C (cn_back (gx_l Γ) (gx_D Γ) hx a _ e6) (gx_cw C gx_uu lk_X8_172 (by decide) (by decide)) (cls_X8 hx).1 (gs_recv (q := 0) lt_M_Model (oc_M_Model a ι _)) rfl rfl (Nat.le_of_ble_eq_true rfl) ⟨Nat.zero_le _, Nat.zero_le _⟩ dX8_rest_15 ?_
    refine gx_bipush (v := (-103)) C dX8_rest_18 (by decide) ?_
    exact gx_iret C F rfl dX8_rest_20 (Option.some.inj h)
def n_gainOf (x1 : Int32) (S : gx_S) : Option (Int32 × gx_S) := gx_cs (n_profitOf x1 S) fun v3 S2 => gx_cp (n_layBest x1 S2) fun S5 => some ((S5 0 27) - v3, S5)
set_option maxRecDepth 20000 in
set_option maxHeartbeats 1000000 in
theorem cn_gainOf (l : Launch) (D : va_G) {cl : List vw_C} {tys : List (ClassId × FieldType)} {ι : Nat → ClassId} (hx : gx_std vwCl (gty ι) cl tys) (a : Nat → Nat) (x1 : Int32) (S : gx_S) {out : Int32 × gx_S} (h : n_gainOf x1 S = some out) : gx_mI l D cl tys yX8_gainOf (.code yX8_gainOf cX8_gainOf 3 ((Option.some Jvm.ClassFile.FieldType.int)) :: gx_U) (gx_rm 6) [.ref (a 0), .int x1] (wM a ι S) (wM a ι) out := by
  unfold n_gainOf at h
  refine gx_startI (V := [.ref (a 0), .int x1, .null]) 1 (by decide +kernel) (Nat.le_of_ble_eq_true rfl) rfl (fun Γ hl hD hcl hty hnL C F => ?_)
  subst hl; subst hD; subst hcl; subst hty
  refine gx_aload_0 C dX8_gainOf_0 rfl ?_
  refine gx_iload_1 C dX8_gainOf_1 rfl ?_
  obtain ⟨v3, S2, e1, h⟩ := gi_cs h
  refine gc_IV C (cn_profitOf (gx_l Γ) (gx_D Γ) hx a _ _ e1) (gx_cw C gx_uu lk_X8_144 (by decide) (by decide)) (cls_X8 hx).1 (gs_recv (q := 0) lt_M_Model (oc_M_Model a ι _)) rfl rfl (Nat.le_of_ble_eq_true rfl) ⟨Nat.zero_le _, Nat.zero_le _⟩ dX8_gainOf_2 ?_
  refine gx_istore_2 C dX8_gainOf_5 (by rw [hnL]; decide) trivial ?_
  refine gx_aload_0 C dX8_gainOf_6 rfl ?_
  refine gx_iload_1 C dX8_gainOf_7 rfl ?_
  obtain ⟨S5, e4, h⟩ := gi_cp h
  refine gc_VV C (cn_layBest (gx_l Γ) (gx_D Γ) hx a _ _ e4) (gx_cw C gx_uu lk_X8_159 (by decide) (by decide)) (cls_X8 hx).1 (gs_recv (q := 0) lt_M_Model (oc_M_Model a ι _)) rfl rfl (Nat.le_of_ble_eq_true rfl) ⟨Nat.zero_le _, Nat.zero_le _⟩ dX8_gainOf_8 ?_
  refine gx_aload_0 C dX8_gainOf_11 rfl ?_
  refine gs_getf (q := 0) C fl_X8_152 (cls_X8 hx) lt_M_Model (oc_M_Model a ι _) rfl dX8_gainOf_12 ?_
  refine gx_iload_2 C dX8_gainOf_15 rfl ?_
  refine gx_isub C dX8_gainOf_16 ?_
  exact gx_iret C F rfl dX8_gainOf_17 (Option.some.inj h)
def n_otherwise_2 (t : Int32 × gx_S) (k2 : Int32 × gx_S → Option (Int32 × gx_S)) : Option (Int32 × gx_S) := match t with
  | (x1, S) => if (S 0 0) ≤ x1 then some ((-1), S) else gx_cs (n_gainOf x1 S) fun v3 S2 => if v3 ≤ 0 then k2 ((x1 + 1), S2) else some (x1, S2)
set_option maxRecDepth 20000 in
set_option maxHeartbeats 1000000 in
theorem bn_otherwise_2 {Γ : gx_T} {ι : Nat → ClassId} {a : Nat → Nat} {out : Int32 × gx_S} (hx : gx_std vwCl (gty ι) (gx_cl Γ) (gx_ty Γ)) (C : gx_ok Γ cX8_otherwise RX8 gx_U 7) (F : gx_finI Γ ((Option.some Jvm.ClassFile.FieldType.int)) (wM a ι) out ∧ gx_nL Γ = 2) {k2 : Int32 × gx_S → Option (Int32 × gx_S)} {x1 : Int32} {S : gx_S} (hk2 : ∀ (x17 : Int32) (S7 : gx_S), k2 (x17, S7) = some out → gx_G Γ 0 0 2 [.ref (a 0), .int x17] [] (wM a ι S7)) (h : n_otherwise_2 (x1, S) k2 = some out) : gx_G Γ 0 0 2 [.ref (a 0), .int x1] [] (wM a ι S) := by
  obtain ⟨F, hnL⟩ := F
  unfold n_otherwise_2 at h
  dsimp only at h
  refine gx_iload_1 C dX8_otherwise_2 rfl ?_
  refine gx_aload_0 C dX8_otherwise_3 rfl ?_
  refine gs_getf (q := 0) C fl_X8_91 (cls_X8 hx) lt_M_Model (oc_M_Model a ι _) rfl dX8_otherwise_4 ?_
  refine gx_icmp_ge (tgt := 26) C dX8_otherwise_7 (by decide) (fun hc5 => ?_) (fun hc5 => ?_)
  · have h := gi_t hc5 h
    refine gx_iconstm1 C dX8_otherwise_26 ?_
    exact gx_iret C F rfl dX8_otherwise_27 (Option.some.inj h)
  · have h := gi_f hc5 h
    refine gx_aload_0 C dX8_otherwise_10 rfl ?_
    refine gx_iload_1 C dX8_otherwise_11 rfl ?_
    obtain ⟨v3, S2, e1, h⟩ := gi_cs h
    refine gc_IV C (cn_gainOf (gx_l Γ) (gx_D Γ) hx a _ _ e1) (gx_cw C gx_uu lk_X8_175 (by decide) (by decide)) (cls_X8 hx).1 (gs_recv (q := 0) lt_M_Model (oc_M_Model a ι _)) rfl rfl (Nat.le_of_ble_eq_true rfl) ⟨Nat.zero_le _, Nat.zero_le _⟩ dX8_otherwise_12 ?_
    refine gx_if_le (tgt := 20) C dX8_otherwise_15 (by decide) (fun hc4 => ?_) (fun hc4 => ?_)
    · have h := gi_t hc4 h
      refine gx_iinc1 C dX8_otherwise_20 rfl (by rw [hnL]; decide) trivial ?_
      refine gx_goto (tgt := 2) C dX8_otherwise_23 (by decide) ?_
      exact gx_weak (gx_le_k rfl (gx_le_k rfl gx_le_0)) (hk2 _ _ h)
    · have h := gi_f hc4 h
      refine gx_iload_1 C dX8_otherwise_18 rfl ?_
      exact gx_iret C F rfl dX8_otherwise_19 (Option.some.inj h)
def n_otherwise (S : gx_S) : Option (Int32 × gx_S) := gx_loop (n_otherwise_2) 5000 (0, S)
set_option maxRecDepth 20000 in
set_option maxHeartbeats 1000000 in
theorem cn_otherwise (l : Launch) (D : va_G) {cl : List vw_C} {tys : List (ClassId × FieldType)} {ι : Nat → ClassId} (hx : gx_std vwCl (gty ι) cl tys) (a : Nat → Nat) (S : gx_S) {out : Int32 × gx_S} (h : n_otherwise  S = some out) : gx_mI l D cl tys yX8_otherwise (.code yX8_otherwise cX8_otherwise 2 ((Option.some Jvm.ClassFile.FieldType.int)) :: gx_U) (gx_rm 7) [.ref (a 0)] (wM a ι S) (wM a ι) out := by
  unfold n_otherwise at h
  refine gx_startI (V := [.ref (a 0), .null]) 1 (by decide +kernel) (Nat.le_of_ble_eq_true rfl) rfl (fun Γ hl hD hcl hty hnL C F => ?_)
  subst hl; subst hD; subst hcl; subst hty
  refine gx_iconst0 C dX8_otherwise_0 ?_
  refine gx_istore_1 C dX8_otherwise_1 (by rw [hnL]; decide) trivial ?_
  refine gx_weak (gx_le_k rfl (gx_le_k rfl gx_le_0)) (gi_loop (P := fun t => gx_G Γ 0 0 2 [.ref (a 0), .int t.1] [] (wM a ι t.2)) (fun kk t hk h => ?_) 5000 _ h)
  obtain ⟨x19, S'9⟩ := t
  exact bn_otherwise_2 hx C ⟨F, hnL⟩ (k2 := kk) (fun x18 S'8 h => hk (x18, S'8) h) h
def n_gain (x1 : Int32) (S : gx_S) : Option (Int32 × gx_S) := gx_cp (n_isOwner x1 S) fun v2 => if v2 = 0 then some ((-1000001), S) else gx_cs (n_gainOf x1 S) fun v5 S4 => some (v5, S4)
set_option maxRecDepth 20000 in
set_option maxHeartbeats 1000000 in
theorem cn_gain (l : Launch) (D : va_G) {cl : List vw_C} {tys : List (ClassId × FieldType)} {ι : Nat → ClassId} (hx : gx_std vwCl (gty ι) cl tys) (a : Nat → Nat) (x1 : Int32) (S : gx_S) {out : Int32 × gx_S} (h : n_gain x1 S = some out) : gx_mI l D cl tys yX8_gain (.code yX8_gain cX8_gain 2 ((Option.some Jvm.ClassFile.FieldType.int)) :: gx_U) (gx_rm 7) [.ref (a 0), .int x1] (wM a ι S) (wM a ι) out := by
  unfold n_gain at h
  refine gx_startI (V := [.ref (a 0), .int x1]) 0 (by decide +kernel) (Nat.le_of_ble_eq_true rfl) rfl (fun Γ hl hD hcl hty hnL C F => ?_)
  subst hl; subst hD; subst hcl; subst hty
  refine gx_aload_0 C dX8_gain_0 rfl ?_
  refine gx_iload_1 C dX8_gain_1 rfl ?_
  obtain ⟨v2, e1, h⟩ := gi_cp h
  refine gc_IV C (cn_isOwner (gx_l Γ) (gx_D Γ) hx a _ _ e1) (gx_cw C gx_uu lk_X8_104 (by decide) (by decide)) (cls_X8 hx).1 (gs_recv (q := 0) lt_M_Model (oc_M_Model a ι _)) rfl rfl (Nat.le_of_ble_eq_true rfl) ⟨Nat.zero_le _, Nat.zero_le _⟩ dX8_gain_2 ?_
  refine gx_if_eq (tgt := 16) C dX8_gain_5 (by decide) (fun hc6 => ?_) (fun hc6 => ?_)
  · have h := gi_t hc6 h
    refine gx_ldc (v := (-1000001)) C dX8_gain_16 kX8_147 ?_
    exact gx_iret C F rfl dX8_gain_18 (Option.some.inj h)
  · have h := gi_f hc6 h
    refine gx_aload_0 C dX8_gain_8 rfl ?_
    refine gx_iload_1 C dX8_gain_9 rfl ?_
    obtain ⟨v5, S4, e3, h⟩ := gi_cs h
    refine gc_IV C (cn_gainOf (gx_l Γ) (gx_D Γ) hx a _ _ e3) (gx_cw C gx_uu lk_X8_175 (by decide) (by decide)) (cls_X8 hx).1 (gs_recv (q := 0) lt_M_Model (oc_M_Model a ι _)) rfl rfl (Nat.le_of_ble_eq_true rfl) ⟨Nat.zero_le _, Nat.zero_le _⟩ dX8_gain_10 ?_
    refine gx_goto (tgt := 18) C dX8_gain_13 (by decide) ?_
    exact gx_iret C F rfl dX8_gain_18 (Option.some.inj h)
def n_profitOfSet_51 (k9 : Int32 × Int32 → Option (Int32 × gx_S)) (x1 : Int32) (x3 : Int32) (s0 : Int32) (s1 : Int32) (S : gx_S) : Option (Int32 × gx_S) := k9 ((s0 + s1), (x3 + 1))
set_option maxRecDepth 20000 in
set_option maxHeartbeats 1000000 in
theorem bn_profitOfSet_51 {Γ : gx_T} {ι : Nat → ClassId} {a : Nat → Nat} {out : Int32 × gx_S} (hx : gx_std vwCl (gty ι) (gx_cl Γ) (gx_ty Γ)) (C : gx_ok Γ cX8_profitOfSet RX8 gx_U 4) (F : gx_finI Γ ((Option.some Jvm.ClassFile.FieldType.int)) (wM a ι) out ∧ gx_nL Γ = 4) {k9 : Int32 × Int32 → Option (Int32 × gx_S)} {x1 : Int32} {x3 : Int32} {s0 : Int32} {s1 : Int32} {S : gx_S} (hk9 : ∀ (x27 : Int32) (x37 : Int32), k9 (x27, x37) = some out → gx_G Γ 0 0 9 [.ref (a 0), .int x1, .int x27, .int x37] [] (wM a ι S)) (h : n_profitOfSet_51 k9 x1 x3 s0 s1 S = some out) : gx_G Γ 0 0 51 [.ref (a 0), .int x1, .null, .int x3] [.int s1, .int s0] (wM a ι S) := by
  obtain ⟨F, hnL⟩ := F
  unfold n_profitOfSet_51 at h
  refine gx_iadd C dX8_profitOfSet_51 ?_
  refine gx_istore_2 C dX8_profitOfSet_52 (by rw [hnL]; decide) trivial ?_
  refine gx_iinc1 C dX8_profitOfSet_53 rfl (by rw [hnL]; decide) trivial ?_
  refine gx_goto (tgt := 9) C dX8_profitOfSet_56 (by decide) ?_
  exact gx_weak (gx_le_k rfl (gx_le_k rfl (gx_le_k rfl (gx_le_k rfl gx_le_0)))) (hk9 _ _ h)
def n_profitOfSet_9 (x1 : Int32) (S : gx_S) (t : Int32 × Int32) (k9 : Int32 × Int32 → Option (Int32 × gx_S)) : Option (Int32 × gx_S) := match t with
  | (x2, x3) => if (S 0 4) ≤ x3 then some (x2, S) else if ((x1 >>> (x3 &&& 31)) &&& (1 : Int32)) = 1 then gx_ck 6 x3 (n_profitOfSet_51 k9 x1 x3 x2 ((S 15 x3.toNatClampNeg) * ((S 7 x3.toNatClampNeg) - (S 6 x3.toNatClampNeg))) S) else n_profitOfSet_51 k9 x1 x3 x2 0 S
set_option maxRecDepth 20000 in
set_option maxHeartbeats 1000000 in
theorem bn_profitOfSet_9 {Γ : gx_T} {ι : Nat → ClassId} {a : Nat → Nat} {out : Int32 × gx_S} (hx : gx_std vwCl (gty ι) (gx_cl Γ) (gx_ty Γ)) (C : gx_ok Γ cX8_profitOfSet RX8 gx_U 4) (F : gx_finI Γ ((Option.some Jvm.ClassFile.FieldType.int)) (wM a ι) out ∧ gx_nL Γ = 4) {k9 : Int32 × Int32 → Option (Int32 × gx_S)} {x1 : Int32} {x2 : Int32} {x3 : Int32} {S : gx_S} (hk9 : ∀ (x27 : Int32) (x37 : Int32), k9 (x27, x37) = some out → gx_G Γ 0 0 9 [.ref (a 0), .int x1, .int x27, .int x37] [] (wM a ι S)) (h : n_profitOfSet_9 x1 S (x2, x3) k9 = some out) : gx_G Γ 0 0 9 [.ref (a 0), .int x1, .int x2, .int x3] [] (wM a ι S) := by
  obtain ⟨F, hnL⟩ := F
  unfold n_profitOfSet_9 at h
  dsimp only at h
  refine gx_iload_3 C dX8_profitOfSet_9 rfl ?_
  refine gx_aload_0 C dX8_profitOfSet_10 rfl ?_
  refine gs_getf (q := 0) C fl_X8_98 (cls_X8 hx) lt_M_Model (oc_M_Model a ι _) rfl dX8_profitOfSet_11 ?_
  refine gx_icmp_ge (tgt := 59) C dX8_profitOfSet_14 (by decide) (fun hc3 => ?_) (fun hc3 => ?_)
  · have h := gi_t hc3 h
    refine gx_iload_2 C dX8_profitOfSet_59 rfl ?_
    exact gx_iret C F rfl dX8_profitOfSet_60 (Option.some.inj h)
  · have h := gi_f hc3 h
    refine gx_iload_2 C dX8_profitOfSet_17 rfl ?_
    refine gx_iload_1 C dX8_profitOfSet_18 rfl ?_
    refine gx_iload_3 C dX8_profitOfSet_19 rfl ?_
    refine gx_ishr C dX8_profitOfSet_20 ?_
    refine gx_iconst1 C dX8_profitOfSet_21 ?_
    refine gx_iand C dX8_profitOfSet_22 ?_
    refine gx_iconst1 C dX8_profitOfSet_23 ?_
    refine gx_icmp_ne (tgt := 50) C dX8_profitOfSet_24 (by decide) (fun hc2 => ?_) (fun hc2 => ?_)
    · have h := gi_f hc2 h
      refine gx_iconst0 C dX8_profitOfSet_50 ?_
      exact gx_weak (gx_le_k rfl (gx_le_k rfl (gx_le_n (gx_le_k rfl gx_le_0)))) (bn_profitOfSet_51 hx C ⟨F, hnL⟩ hk9 h)
    · have h := gi_t hc2 h
      refine gx_aload_0 C dX8_profitOfSet_27 rfl ?_
      refine gs_getf (q := 0) C fl_X8_58 (cls_X8 hx) lt_M_Model (oc_M_Model a ι _) rfl dX8_profitOfSet_28 ?_
      refine gx_iload_3 C dX8_profitOfSet_31 rfl ?_
      obtain ⟨hi1, h⟩ := gi_ck h
      refine gs_iald (q := 15) C (ac_M_M_soldNow hx a) lt_M_M_soldNow hi1 dX8_profitOfSet_32 ?_
      refine gx_aload_0 C dX8_profitOfSet_33 rfl ?_
      refine gs_getf (q := 0) C fl_X8_29 (cls_X8 hx) lt_M_Model (oc_M_Model a ι _) rfl dX8_profitOfSet_34 ?_
      refine gx_iload_3 C dX8_profitOfSet_37 rfl ?_
      refine gs_iald (q := 7) C (ac_M_M_priceOf hx a) lt_M_M_priceOf hi1 dX8_profitOfSet_38 ?_
      refine gx_aload_0 C dX8_profitOfSet_39 rfl ?_
      refine gs_getf (q := 0) C fl_X8_26 (cls_X8 hx) lt_M_Model (oc_M_Model a ι _) rfl dX8_profitOfSet_40 ?_
      refine gx_iload_3 C dX8_profitOfSet_43 rfl ?_
      refine gs_iald (q := 6) C (ac_M_M_costOf hx a) lt_M_M_costOf hi1 dX8_profitOfSet_44 ?_
      refine gx_isub C dX8_profitOfSet_45 ?_
      refine gx_imul C dX8_profitOfSet_46 ?_
      refine gx_goto (tgt := 51) C dX8_profitOfSet_47 (by decide) ?_
      exact gx_weak (gx_le_k rfl (gx_le_k rfl (gx_le_n (gx_le_k rfl gx_le_0)))) (bn_profitOfSet_51 hx C ⟨F, hnL⟩ hk9 h)
def n_profitOfSet (x1 : Int32) (S : gx_S) : Option (Int32 × gx_S) := gx_cs (n_laySold S) fun v3 S2 => gx_loop (n_profitOfSet_9 x1 S2) 5000 (0, 0)
set_option maxRecDepth 20000 in
set_option maxHeartbeats 1000000 in
theorem cn_profitOfSet (l : Launch) (D : va_G) {cl : List vw_C} {tys : List (ClassId × FieldType)} {ι : Nat → ClassId} (hx : gx_std vwCl (gty ι) cl tys) (a : Nat → Nat) (x1 : Int32) (S : gx_S) {out : Int32 × gx_S} (h : n_profitOfSet x1 S = some out) : gx_mI l D cl tys yX8_profitOfSet (.code yX8_profitOfSet cX8_profitOfSet 4 ((Option.some Jvm.ClassFile.FieldType.int)) :: gx_U) (gx_rm 4) [.ref (a 0), .int x1] (wM a ι S) (wM a ι) out := by
  unfold n_profitOfSet at h
  refine gx_startI (V := [.ref (a 0), .int x1, .null, .null]) 2 (by decide +kernel) (Nat.le_of_ble_eq_true rfl) rfl (fun Γ hl hD hcl hty hnL C F => ?_)
  subst hl; subst hD; subst hcl; subst hty
  refine gx_aload_0 C dX8_profitOfSet_0 rfl ?_
  obtain ⟨v3, S2, e1, h⟩ := gi_cs h
  refine gc_IV C (cn_laySold (gx_l Γ) (gx_D Γ) hx a _ e1) (gx_cw C gx_uu lk_X8_128 (by decide) (by decide)) (cls_X8 hx).1 (gs_recv (q := 0) lt_M_Model (oc_M_Model a ι _)) rfl rfl (Nat.le_of_ble_eq_true rfl) ⟨Nat.zero_le _, Nat.zero_le _⟩ dX8_profitOfSet_1 ?_
  refine gx_pop C dX8_profitOfSet_4 rfl ?_
  refine gx_iconst0 C dX8_profitOfSet_5 ?_
  refine gx_istore_2 C dX8_profitOfSet_6 (by rw [hnL]; decide) trivial ?_
  refine gx_iconst0 C dX8_profitOfSet_7 ?_
  refine gx_istore_3 C dX8_profitOfSet_8 (by rw [hnL]; decide) trivial ?_
  refine gx_weak (gx_le_k rfl (gx_le_k rfl (gx_le_k rfl (gx_le_k rfl gx_le_0)))) (gi_loop (P := fun t => gx_G Γ 0 0 9 [.ref (a 0), .int x1, .int t.1, .int t.2] [] (wM a ι S2)) (fun kk t hk h => ?_) 5000 _ h)
  obtain ⟨x29, x39⟩ := t
  exact bn_profitOfSet_9 hx C ⟨F, hnL⟩ (k9 := kk) (fun x28 x38 h => hk (x28, x38) h) h
def n_pays_82 (k9 : Int32 × gx_S → Option (Int32 × gx_S)) (x1 : Int32) (x2 : Int32) (x3 : Int32) (x4 : Int32) (s1 : Int32) (s2 : Int32) (S : gx_S) : Option (Int32 × gx_S) := gx_ck 6 s1 (gx_let (gx_st S 7 s1.toNatClampNeg s2) fun S2 => k9 ((x4 + 1), S2))
set_option maxRecDepth 20000 in
set_option maxHeartbeats 1000000 in
theorem bn_pays_82 {Γ : gx_T} {ι : Nat → ClassId} {a : Nat → Nat} {out : Int32 × gx_S} (hx : gx_std vwCl (gty ι) (gx_cl Γ) (gx_ty Γ)) (C : gx_ok Γ cX8_pays RX8 gx_U 5) (F : gx_finI Γ ((Option.some Jvm.ClassFile.FieldType.boolean)) (wM a ι) out ∧ gx_nL Γ = 6) {k9 : Int32 × gx_S → Option (Int32 × gx_S)} {x1 : Int32} {x2 : Int32} {x3 : Int32} {x4 : Int32} {s1 : Int32} {s2 : Int32} {S : gx_S} (hk9 : ∀ (x47 : Int32) (S7 : gx_S), k9 (x47, S7) = some out → gx_G Γ 0 0 9 [.ref (a 0), .int x1, .int x2, .int x3, .int x47, .null] [] (wM a ι S7)) (h : n_pays_82 k9 x1 x2 x3 x4 s1 s2 S = some out) : gx_G Γ 0 0 82 [.ref (a 0), .int x1, .int x2, .int x3, .int x4, .null] [.int s2, .int s1, .ref (a 7)] (wM a ι S) := by
  obtain ⟨F, hnL⟩ := F
  unfold n_pays_82 at h
  obtain ⟨hi1, h⟩ := gi_ck h
  obtain ⟨S2, e3, h⟩ := gi_let h
  refine gs_iast (q := 7) C (ac_M_M_priceOf hx a) lt_M_M_priceOf hi1 e3 dX8_pays_82 ?_
  refine gx_iinc1 C dX8_pays_83 rfl (by rw [hnL]; decide) trivial ?_
  refine gx_goto (tgt := 9) C dX8_pays_86 (by decide) ?_
  exact gx_weak (gx_le_k rfl (gx_le_k rfl (gx_le_k rfl (gx_le_k rfl (gx_le_k rfl (gx_le_n gx_le_0)))))) (hk9 _ _ h)
def n_pays_99 (x3 : Int32) (x4 : Int32) (t : Int32 × gx_S) (k99 : Int32 × gx_S → Option (Int32 × gx_S)) : Option (Int32 × gx_S) := match t with
  | (x5, S) => if (S 0 4) ≤ x5 then if x4 < x3 then some (0, S) else some (1, S) else gx_ck 6 x5 (gx_let (gx_st S 7 x5.toNatClampNeg (S 17 x5.toNatClampNeg)) fun S3 => k99 ((x5 + 1), S3))
set_option maxRecDepth 20000 in
set_option maxHeartbeats 1000000 in
theorem bn_pays_99 {Γ : gx_T} {ι : Nat → ClassId} {a : Nat → Nat} {out : Int32 × gx_S} (hx : gx_std vwCl (gty ι) (gx_cl Γ) (gx_ty Γ)) (C : gx_ok Γ cX8_pays RX8 gx_U 5) (F : gx_finI Γ ((Option.some Jvm.ClassFile.FieldType.boolean)) (wM a ι) out ∧ gx_nL Γ = 6) {k99 : Int32 × gx_S → Option (Int32 × gx_S)} {x3 : Int32} {x4 : Int32} {x5 : Int32} {S : gx_S} (hk99 : ∀ (x57 : Int32) (S7 : gx_S), k99 (x57, S7) = some out → gx_G Γ 0 0 99 [.ref (a 0), .null, .null, .int x3, .int x4, .int x57] [] (wM a ι S7)) (h : n_pays_99 x3 x4 (x5, S) k99 = some out) : gx_G Γ 0 0 99 [.ref (a 0), .null, .null, .int x3, .int x4, .int x5] [] (wM a ι S) := by
  obtain ⟨F, hnL⟩ := F
  unfold n_pays_99 at h
  dsimp only at h
  refine gx_iload C dX8_pays_99 rfl ?_
  refine gx_aload_0 C dX8_pays_101 rfl ?_
  refine gs_getf (q := 0) C fl_X8_98 (cls_X8 hx) lt_M_Model (oc_M_Model a ι _) rfl dX8_pays_102 ?_
  refine gx_icmp_ge (tgt := 128) C dX8_pays_105 (by decide) (fun hc5 => ?_) (fun hc5 => ?_)
  · have h := gi_t hc5 h
    refine gx_iload C dX8_pays_128 rfl ?_
    refine gx_iload_3 C dX8_pays_130 rfl ?_
    refine gx_icmp_lt (tgt := 138) C dX8_pays_131 (by decide) (fun hc1 => ?_) (fun hc1 => ?_)
    · have h := gi_t hc1 h
      refine gx_iconst0 C dX8_pays_138 ?_
      exact gx_iret C F (by decide) dX8_pays_139 (Option.some.inj h)
    · have h := gi_f hc1 h
      refine gx_iconst1 C dX8_pays_134 ?_
      refine gx_goto (tgt := 139) C dX8_pays_135 (by decide) ?_
      exact gx_iret C F (by decide) dX8_pays_139 (Option.some.inj h)
  · have h := gi_f hc5 h
    refine gx_aload_0 C dX8_pays_108 rfl ?_
    refine gs_getf (q := 0) C fl_X8_29 (cls_X8 hx) lt_M_Model (oc_M_Model a ι _) rfl dX8_pays_109 ?_
    refine gx_iload C dX8_pays_112 rfl ?_
    refine gx_aload_0 C dX8_pays_114 rfl ?_
    refine gs_getf (q := 0) C fl_X8_64 (cls_X8 hx) lt_M_Model (oc_M_Model a ι _) rfl dX8_pays_115 ?_
    refine gx_iload C dX8_pays_118 rfl ?_
    obtain ⟨hi2, h⟩ := gi_ck h
    refine gs_iald (q := 17) C (ac_M_M_tried hx a) lt_M_M_tried hi2 dX8_pays_120 ?_
    obtain ⟨S3, e4, h⟩ := gi_let h
    refine gs_iast (q := 7) C (ac_M_M_priceOf hx a) lt_M_M_priceOf hi2 e4 dX8_pays_121 ?_
    refine gx_iinc1 C dX8_pays_122 rfl (by rw [hnL]; decide) trivial ?_
    refine gx_goto (tgt := 99) C dX8_pays_125 (by decide) ?_
    exact gx_weak (gx_le_k rfl (gx_le_n (gx_le_n (gx_le_k rfl (gx_le_k rfl (gx_le_k rfl gx_le_0)))))) (hk99 _ _ h)
def n_pays_9 (x1 : Int32) (x2 : Int32) (x3 : Int32) (t : Int32 × gx_S) (k9 : Int32 × gx_S → Option (Int32 × gx_S)) : Option (Int32 × gx_S) := match t with
  | (x4, S) => if (S 0 4) ≤ x4 then gx_cs (n_profitOfSet x1 S) fun v3 S2 => gx_loop (n_pays_99 x3 v3) 5000 (0, S2) else gx_ck 6 x4 (gx_let (gx_st S 17 x4.toNatClampNeg (S 7 x4.toNatClampNeg)) fun S5 => if ((x1 >>> (x4 &&& 31)) &&& (1 : Int32)) = 0 then n_pays_82 k9 x1 x2 x3 x4 x4 (S5 7 x4.toNatClampNeg) S5 else if ((S5 7 x4.toNatClampNeg) + x2) ≤ 9 then n_pays_82 k9 x1 x2 x3 x4 x4 ((S5 7 x4.toNatClampNeg) + x2) S5 else n_pays_82 k9 x1 x2 x3 x4 x4 9 S5)
set_option maxRecDepth 20000 in
set_option maxHeartbeats 1000000 in
theorem bn_pays_9 {Γ : gx_T} {ι : Nat → ClassId} {a : Nat → Nat} {out : Int32 × gx_S} (hx : gx_std vwCl (gty ι) (gx_cl Γ) (gx_ty Γ)) (C : gx_ok Γ cX8_pays RX8 gx_U 5) (F : gx_finI Γ ((Option.some Jvm.ClassFile.FieldType.boolean)) (wM a ι) out ∧ gx_nL Γ = 6) {k9 : Int32 × gx_S → Option (Int32 × gx_S)} {x1 : Int32} {x2 : Int32} {x3 : Int32} {x4 : Int32} {S : gx_S} (hk9 : ∀ (x47 : Int32) (S7 : gx_S), k9 (x47, S7) = some out → gx_G Γ 0 0 9 [.ref (a 0), .int x1, .int x2, .int x3, .int x47, .null] [] (wM a ι S7)) (h : n_pays_9 x1 x2 x3 (x4, S) k9 = some out) : gx_G Γ 0 0 9 [.ref (a 0), .int x1, .int x2, .int x3, .int x4, .null] [] (wM a ι S) := by
  obtain ⟨F, hnL⟩ := F
  unfold n_pays_9 at h
  dsimp only at h
  refine gx_iload C dX8_pays_9 rfl ?_
  refine gx_aload_0 C dX8_pays_11 rfl ?_
  refine gs_getf (q := 0) C fl_X8_98 (cls_X8 hx) lt_M_Model (oc_M_Model a ι _) rfl dX8_pays_12 ?_
  refine gx_icmp_ge (tgt := 89) C dX8_pays_15 (by decide) (fun hc9 => ?_) (fun hc9 => ?_)
  · have h := gi_t hc9 h
    refine gx_aload_0 C dX8_pays_89 rfl ?_
    refine gx_iload_1 C dX8_pays_90 rfl ?_
    obtain ⟨v3, S2, e1, h⟩ := gi_cs h
    refine gc_IV C (cn_profitOfSet (gx_l Γ) (gx_D Γ) hx a _ _ e1) (gx_cw C gx_uu lk_X8_178 (by decide) (by decide)) (cls_X8 hx).1 (gs_recv (q := 0) lt_M_Model (oc_M_Model a ι _)) rfl rfl (Nat.le_of_ble_eq_true rfl) ⟨Nat.zero_le _, Nat.zero_le _⟩ dX8_pays_91 ?_
    refine gx_istore C dX8_pays_94 (by rw [hnL]; decide) trivial ?_
    refine gx_iconst0 C dX8_pays_96 ?_
    refine gx_istore C dX8_pays_97 (by rw [hnL]; decide) trivial ?_
    refine gx_weak (gx_le_k rfl (gx_le_n (gx_le_n (gx_le_k rfl (gx_le_k rfl (gx_le_k rfl gx_le_0)))))) (gi_loop (P := fun t => gx_G Γ 0 0 99 [.ref (a 0), .null, .null, .int x3, .int v3, .int t.1] [] (wM a ι t.2)) (fun kk t hk h => ?_) 5000 _ h)
    obtain ⟨x59, S'9⟩ := t
    exact bn_pays_99 hx C ⟨F, hnL⟩ (k99 := kk) (fun x58 S'8 h => hk (x58, S'8) h) h
  · have h := gi_f hc9 h
    refine gx_aload_0 C dX8_pays_18 rfl ?_
    refine gs_getf (q := 0) C fl_X8_64 (cls_X8 hx) lt_M_Model (oc_M_Model a ι _) rfl dX8_pays_19 ?_
    refine gx_iload C dX8_pays_22 rfl ?_
    refine gx_aload_0 C dX8_pays_24 rfl ?_
    refine gs_getf (q := 0) C fl_X8_29 (cls_X8 hx) lt_M_Model (oc_M_Model a ι _) rfl dX8_pays_25 ?_
    refine gx_iload C dX8_pays_28 rfl ?_
    obtain ⟨hi4, h⟩ := gi_ck h
    refine gs_iald (q := 7) C (ac_M_M_priceOf hx a) lt_M_M_priceOf hi4 dX8_pays_30 ?_
    obtain ⟨S5, e6, h⟩ := gi_let h
    refine gs_iast (q := 17) C (ac_M_M_tried hx a) lt_M_M_tried hi4 e6 dX8_pays_31 ?_
    refine gx_aload_0 C dX8_pays_32 rfl ?_
    refine gs_getf (q := 0) C fl_X8_29 (cls_X8 hx) lt_M_Model (oc_M_Model a ι _) rfl dX8_pays_33 ?_
    refine gx_iload C dX8_pays_36 rfl ?_
    refine gs_iald (q := 7) C (ac_M_M_priceOf hx a) lt_M_M_priceOf hi4 dX8_pays_38 ?_
    refine gx_iload_2 C dX8_pays_39 rfl ?_
    refine gx_iadd C dX8_pays_40 ?_
    refine gx_istore C dX8_pays_41 (by rw [hnL]; decide) trivial ?_
    refine gx_aload_0 C dX8_pays_43 rfl ?_
    refine gs_getf (q := 0) C fl_X8_29 (cls_X8 hx) lt_M_Model (oc_M_Model a ι _) rfl dX8_pays_44 ?_
    refine gx_iload C dX8_pays_47 rfl ?_
    refine gx_iload_1 C dX8_pays_49 rfl ?_
    refine gx_iload C dX8_pays_50 rfl ?_
    refine gx_ishr C dX8_pays_52 ?_
    refine gx_iconst1 C dX8_pays_53 ?_
    refine gx_iand C dX8_pays_54 ?_
    refine gx_if_ne (tgt := 68) C dX8_pays_55 (by decide) (fun hc8 => ?_) (fun hc8 => ?_)
    · have h := gi_f hc8 h
      refine gx_iload C dX8_pays_68 rfl ?_
      refine gx_bipush (v := 9) C dX8_pays_70 (by decide) ?_
      refine gx_icmp_le (tgt := 80) C dX8_pays_72 (by decide) (fun hc7 => ?_) (fun hc7 => ?_)
      · have h := gi_t hc7 h
        refine gx_iload C dX8_pays_80 rfl ?_
        exact gx_weak (gx_le_k rfl (gx_le_k rfl (gx_le_k rfl (gx_le_k rfl (gx_le_k rfl (gx_le_n gx_le_0)))))) (bn_pays_82 hx C ⟨F, hnL⟩ hk9 h)
      · have h := gi_f hc7 h
        refine gx_bipush (v := 9) C dX8_pays_75 (by decide) ?_
        refine gx_goto (tgt := 82) C dX8_pays_77 (by decide) ?_
        exact gx_weak (gx_le_k rfl (gx_le_k rfl (gx_le_k rfl (gx_le_k rfl (gx_le_k rfl (gx_le_n gx_le_0)))))) (bn_pays_82 hx C ⟨F, hnL⟩ hk9 h)
    · have h := gi_t hc8 h
      refine gx_aload_0 C dX8_pays_58 rfl ?_
      refine gs_getf (q := 0) C fl_X8_29 (cls_X8 hx) lt_M_Model (oc_M_Model a ι _) rfl dX8_pays_59 ?_
      refine gx_iload C dX8_pays_62 rfl ?_
      refine gs_iald (q := 7) C (ac_M_M_priceOf hx a) lt_M_M_priceOf hi4 dX8_pays_64 ?_
      refine gx_goto (tgt := 82) C dX8_pays_65 (by decide) ?_
      exact gx_weak (gx_le_k rfl (gx_le_k rfl (gx_le_k rfl (gx_le_k rfl (gx_le_k rfl (gx_le_n gx_le_0)))))) (bn_pays_82 hx C ⟨F, hnL⟩ hk9 h)
def n_pays (x1 : Int32) (x2 : Int32) (S : gx_S) : Option (Int32 × gx_S) := gx_cs (n_profitOfSet x1 S) fun v3 S2 => gx_loop (n_pays_9 x1 x2 v3) 5000 (0, S2)
set_option maxRecDepth 20000 in
set_option maxHeartbeats 1000000 in
theorem cn_pays (l : Launch) (D : va_G) {cl : List vw_C} {tys : List (ClassId × FieldType)} {ι : Nat → ClassId} (hx : gx_std vwCl (gty ι) cl tys) (a : Nat → Nat) (x1 : Int32) (x2 : Int32) (S : gx_S) {out : Int32 × gx_S} (h : n_pays x1 x2 S = some out) : gx_mI l D cl tys yX8_pays (.code yX8_pays cX8_pays 6 ((Option.some Jvm.ClassFile.FieldType.boolean)) :: gx_U) (gx_rm 5) [.ref (a 0), .int x1, .int x2] (wM a ι S) (wM a ι) out := by
  unfold n_pays at h
  refine gx_startI (V := [.ref (a 0), .int x1, .int x2, .null, .null, .null]) 3 (by decide +kernel) (Nat.le_of_ble_eq_true rfl) rfl (fun Γ hl hD hcl hty hnL C F => ?_)
  subst hl; subst hD; subst hcl; subst hty
  refine gx_aload_0 C dX8_pays_0 rfl ?_
  refine gx_iload_1 C dX8_pays_1 rfl ?_
  obtain ⟨v3, S2, e1, h⟩ := gi_cs h
  refine gc_IV C (cn_profitOfSet (gx_l Γ) (gx_D Γ) hx a _ _ e1) (gx_cw C gx_uu lk_X8_178 (by decide) (by decide)) (cls_X8 hx).1 (gs_recv (q := 0) lt_M_Model (oc_M_Model a ι _)) rfl rfl (Nat.le_of_ble_eq_true rfl) ⟨Nat.zero_le _, Nat.zero_le _⟩ dX8_pays_2 ?_
  refine gx_istore_3 C dX8_pays_5 (by rw [hnL]; decide) trivial ?_
  refine gx_iconst0 C dX8_pays_6 ?_
  refine gx_istore C dX8_pays_7 (by rw [hnL]; decide) trivial ?_
  refine gx_weak (gx_le_k rfl (gx_le_k rfl (gx_le_k rfl (gx_le_k rfl (gx_le_k rfl (gx_le_n gx_le_0)))))) (gi_loop (P := fun t => gx_G Γ 0 0 9 [.ref (a 0), .int x1, .int x2, .int v3, .int t.1, .null] [] (wM a ι t.2)) (fun kk t hk h => ?_) 5000 _ h)
  obtain ⟨x49, S'9⟩ := t
  exact bn_pays_9 hx C ⟨F, hnL⟩ (k9 := kk) (fun x48 S'8 h => hk (x48, S'8) h) h
def n_openSet_28 (k4 : Int32 × Int32 → Option (Int32)) (x2 : Int32) (s0 : Int32) (s1 : Int32) (S : gx_S) : Option (Int32) := k4 ((s0 ||| s1), (x2 + 1))
set_option maxRecDepth 20000 in
set_option maxHeartbeats 1000000 in
theorem bn_openSet_28 {Γ : gx_T} {ι : Nat → ClassId} {a : Nat → Nat} {out : Int32} {S : gx_S} (hx : gx_std vwCl (gty ι) (gx_cl Γ) (gx_ty Γ)) (C : gx_ok Γ cX8_openSet RX8 gx_U 1) (F : gx_finI Γ ((Option.some Jvm.ClassFile.FieldType.int)) (wM a ι) (out, S) ∧ gx_nL Γ = 3) {k4 : Int32 × Int32 → Option (Int32)} {x2 : Int32} {s0 : Int32} {s1 : Int32} (hk4 : ∀ (x17 : Int32) (x27 : Int32), k4 (x17, x27) = some out → gx_G Γ 0 0 4 [.ref (a 0), .int x17, .int x27] [] (wM a ι S)) (h : n_openSet_28 k4 x2 s0 s1 S = some out) : gx_G Γ 0 0 28 [.ref (a 0), .null, .int x2] [.int s1, .int s0] (wM a ι S) := by
  obtain ⟨F, hnL⟩ := F
  unfold n_openSet_28 at h
  refine gx_ior C dX8_openSet_28 ?_
  refine gx_istore_1 C dX8_openSet_29 (by rw [hnL]; decide) trivial ?_
  refine gx_iinc1 C dX8_openSet_30 rfl (by rw [hnL]; decide) trivial ?_
  refine gx_goto (tgt := 4) C dX8_openSet_33 (by decide) ?_
  exact gx_weak (gx_le_k rfl (gx_le_k rfl (gx_le_k rfl gx_le_0))) (hk4 _ _ h)
def n_openSet_4 (S : gx_S) (t : Int32 × Int32) (k4 : Int32 × Int32 → Option (Int32)) : Option (Int32) := match t with
  | (x1, x2) => if (S 0 4) ≤ x2 then some x1 else gx_cp (n_isOpen x2 S) fun v2 => if v2 = 0 then n_openSet_28 k4 x2 x1 0 S else n_openSet_28 k4 x2 x1 ((1 : Int32) <<< (x2 &&& 31)) S
set_option maxRecDepth 20000 in
set_option maxHeartbeats 1000000 in
theorem bn_openSet_4 {Γ : gx_T} {ι : Nat → ClassId} {a : Nat → Nat} {out : Int32} {S : gx_S} (hx : gx_std vwCl (gty ι) (gx_cl Γ) (gx_ty Γ)) (C : gx_ok Γ cX8_openSet RX8 gx_U 1) (F : gx_finI Γ ((Option.some Jvm.ClassFile.FieldType.int)) (wM a ι) (out, S) ∧ gx_nL Γ = 3) {k4 : Int32 × Int32 → Option (Int32)} {x1 : Int32} {x2 : Int32} (hk4 : ∀ (x17 : Int32) (x27 : Int32), k4 (x17, x27) = some out → gx_G Γ 0 0 4 [.ref (a 0), .int x17, .int x27] [] (wM a ι S)) (h : n_openSet_4 S (x1, x2) k4 = some out) : gx_G Γ 0 0 4 [.ref (a 0), .int x1, .int x2] [] (wM a ι S) := by
  obtain ⟨F, hnL⟩ := F
  unfold n_openSet_4 at h
  dsimp only at h
  refine gx_iload_2 C dX8_openSet_4 rfl ?_
  refine gx_aload_0 C dX8_openSet_5 rfl ?_
  refine gs_getf (q := 0) C fl_X8_98 (cls_X8 hx) lt_M_Model (oc_M_Model a ι _) rfl dX8_openSet_6 ?_
  refine gx_icmp_ge (tgt := 36) C dX8_openSet_9 (by decide) (fun hc4 => ?_) (fun hc4 => ?_)
  · have h := gi_t hc4 h
    refine gx_iload_1 C dX8_openSet_36 rfl ?_
    exact gx_iret C F rfl dX8_openSet_37 (congrArg (fun z => (z, S)) (Option.some.inj h))
  · have h := gi_f hc4 h
    refine gx_iload_1 C dX8_openSet_12 rfl ?_
    refine gx_aload_0 C dX8_openSet_13 rfl ?_
    refine gx_iload_2 C dX8_openSet_14 rfl ?_
    obtain ⟨v2, e1, h⟩ := gi_cp h
    refine gc_IV C (cn_isOpen (gx_l Γ) (gx_D Γ) hx a _ _ e1) (gx_cw C gx_uu lk_X8_119 (by decide) (by decide)) (cls_X8 hx).1 (gs_recv (q := 0) lt_M_Model (oc_M_Model a ι _)) rfl rfl (Nat.le_of_ble_eq_true rfl) ⟨Nat.zero_le _, Nat.zero_le _⟩ dX8_openSet_15 ?_
    refine gx_if_eq (tgt := 27) C dX8_openSet_18 (by decide) (fun hc3 => ?_) (fun hc3 => ?_)
    · have h := gi_t hc3 h
      refine gx_iconst0 C dX8_openSet_27 ?_
      exact gx_weak (gx_le_k rfl (gx_le_n (gx_le_k rfl gx_le_0))) (bn_openSet_28 hx C ⟨F, hnL⟩ hk4 h)
    · have h := gi_f hc3 h
      refine gx_iconst1 C dX8_openSet_21 ?_
      refine gx_iload_2 C dX8_openSet_22 rfl ?_
      refine gx_ishl C dX8_openSet_23 ?_
      refine gx_goto (tgt := 28) C dX8_openSet_24 (by decide) ?_
      exact gx_weak (gx_le_k rfl (gx_le_n (gx_le_k rfl gx_le_0))) (bn_openSet_28 hx C ⟨F, hnL⟩ hk4 h)
def n_openSet (S : gx_S) : Option (Int32) := gx_loop (n_openSet_4 S) 5000 (0, 0)
set_option maxRecDepth 20000 in
set_option maxHeartbeats 1000000 in
theorem cn_openSet (l : Launch) (D : va_G) {cl : List vw_C} {tys : List (ClassId × FieldType)} {ι : Nat → ClassId} (hx : gx_std vwCl (gty ι) cl tys) (a : Nat → Nat) (S : gx_S) {out : Int32} (h : n_openSet  S = some out) : gx_mI l D cl tys yX8_openSet (.code yX8_openSet cX8_openSet 3 ((Option.some Jvm.ClassFile.FieldType.int)) :: gx_U) (gx_rm 1) [.ref (a 0)] (wM a ι S) (wM a ι) (out, S) := by
  unfold n_openSet at h
  refine gx_startI (V := [.ref (a 0), .null, .null]) 2 (by decide +kernel) (Nat.le_of_ble_eq_true rfl) rfl (fun Γ hl hD hcl hty hnL C F => ?_)
  subst hl; subst hD; subst hcl; subst hty
  refine gx_iconst0 C dX8_openSet_0 ?_
  refine gx_istore_1 C dX8_openSet_1 (by rw [hnL]; decide) trivial ?_
  refine gx_iconst0 C dX8_openSet_2 ?_
  refine gx_istore_2 C dX8_openSet_3 (by rw [hnL]; decide) trivial ?_
  refine gx_weak (gx_le_k rfl (gx_le_k rfl (gx_le_k rfl gx_le_0))) (gi_loop (P := fun t => gx_G Γ 0 0 4 [.ref (a 0), .int t.1, .int t.2] [] (wM a ι S)) (fun kk t hk h => ?_) 5000 _ h)
  obtain ⟨x19, x29⟩ := t
  exact bn_openSet_4 hx C ⟨F, hnL⟩ (k4 := kk) (fun x18 x28 h => hk (x18, x28) h) h
def n_ones_4 (S : gx_S) (t : Int32 × Int32) (k4 : Int32 × Int32 → Option (Int32)) : Option (Int32) := match t with
  | (x1, x2) => if x2 = 0 then some x1 else k4 ((x1 + 1), (x2 &&& (x2 - (1 : Int32))))
set_option maxRecDepth 20000 in
set_option maxHeartbeats 1000000 in
theorem bn_ones_4 {Γ : gx_T} {ι : Nat → ClassId} {a : Nat → Nat} {out : Int32} {S : gx_S} (hx : gx_std vwCl (gty ι) (gx_cl Γ) (gx_ty Γ)) (C : gx_ok Γ cX8_ones RX8 gx_U 0) (F : gx_finI Γ ((Option.some Jvm.ClassFile.FieldType.int)) (wM a ι) (out, S) ∧ gx_nL Γ = 3) {k4 : Int32 × Int32 → Option (Int32)} {x1 : Int32} {x2 : Int32} (hk4 : ∀ (x17 : Int32) (x27 : Int32), k4 (x17, x27) = some out → gx_G Γ 0 0 4 [.null, .int x17, .int x27] [] (wM a ι S)) (h : n_ones_4 S (x1, x2) k4 = some out) : gx_G Γ 0 0 4 [.null, .int x1, .int x2] [] (wM a ι S) := by
  obtain ⟨F, hnL⟩ := F
  unfold n_ones_4 at h
  dsimp only at h
  refine gx_iload_2 C dX8_ones_4 rfl ?_
  refine gx_if_eq (tgt := 20) C dX8_ones_5 (by decide) (fun hc1 => ?_) (fun hc1 => ?_)
  · have h := gi_t hc1 h
    refine gx_iload_1 C dX8_ones_20 rfl ?_
    exact gx_iret C F rfl dX8_ones_21 (congrArg (fun z => (z, S)) (Option.some.inj h))
  · have h := gi_f hc1 h
    refine gx_iinc1 C dX8_ones_8 rfl (by rw [hnL]; decide) trivial ?_
    refine gx_iload_2 C dX8_ones_11 rfl ?_
    refine gx_iload_2 C dX8_ones_12 rfl ?_
    refine gx_iconst1 C dX8_ones_13 ?_
    refine gx_isub C dX8_ones_14 ?_
    refine gx_iand C dX8_ones_15 ?_
    refine gx_istore_2 C dX8_ones_16 (by rw [hnL]; decide) trivial ?_
    refine gx_goto (tgt := 4) C dX8_ones_17 (by decide) ?_
    exact gx_weak (gx_le_n (gx_le_k rfl (gx_le_k rfl gx_le_0))) (hk4 _ _ h)
def n_ones (x0 : Int32) (S : gx_S) : Option (Int32) := gx_loop (n_ones_4 S) 5000 (0, x0)
set_option maxRecDepth 20000 in
set_option maxHeartbeats 1000000 in
theorem cn_ones (l : Launch) (D : va_G) {cl : List vw_C} {tys : List (ClassId × FieldType)} {ι : Nat → ClassId} (hx : gx_std vwCl (gty ι) cl tys) (a : Nat → Nat) (x0 : Int32) (S : gx_S) {out : Int32} (h : n_ones x0 S = some out) : gx_mI l D cl tys yX8_ones (.code yX8_ones cX8_ones 3 ((Option.some Jvm.ClassFile.FieldType.int)) :: gx_U) (gx_rm 0) [.int x0] (wM a ι S) (wM a ι) (out, S) := by
  unfold n_ones at h
  refine gx_startI (V := [.int x0, .null, .null]) 2 (by decide +kernel) (Nat.le_of_ble_eq_true rfl) rfl (fun Γ hl hD hcl hty hnL C F => ?_)
  subst hl; subst hD; subst hcl; subst hty
  refine gx_iconst0 C dX8_ones_0 ?_
  refine gx_istore_1 C dX8_ones_1 (by rw [hnL]; decide) trivial ?_
  refine gx_iload_0 C dX8_ones_2 rfl ?_
  refine gx_istore_2 C dX8_ones_3 (by rw [hnL]; decide) trivial ?_
  refine gx_weak (gx_le_n (gx_le_k rfl (gx_le_k rfl gx_le_0))) (gi_loop (P := fun t => gx_G Γ 0 0 4 [.null, .int t.1, .int t.2] [] (wM a ι S)) (fun kk t hk h => ?_) 5000 _ h)
  obtain ⟨x19, x29⟩ := t
  exact bn_ones_4 hx C ⟨F, hnL⟩ (k4 := kk) (fun x18 x28 h => hk (x18, x28) h) h
def n_nearestMarket_121 (k10 : Int32 × gx_S → Option (Int32 × gx_S)) (k30 : Int32 × Int32 → Option (Int32 × gx_S)) (x1 : Int32) (x2 : Int32) (x3 : Int32) (x4 : Int32) (x6 : Int32) (s0 : Int32) (S : gx_S) : Option (Int32 × gx_S) := k30 (s0, (x6 + 1))
set_option maxRecDepth 20000 in
set_option maxHeartbeats 1000000 in
theorem bn_nearestMarket_121 {Γ : gx_T} {ι : Nat → ClassId} {a : Nat → Nat} {out : Int32 × gx_S} (hx : gx_std vwCl (gty ι) (gx_cl Γ) (gx_ty Γ)) (C : gx_ok Γ cX8_nearestMarket RX8 gx_U 6) (F : gx_finI Γ ((Option.some Jvm.ClassFile.FieldType.int)) (wM a ι) out ∧ gx_nL Γ = 8) {k10 : Int32 × gx_S → Option (Int32 × gx_S)} {k30 : Int32 × Int32 → Option (Int32 × gx_S)} {x1 : Int32} {x2 : Int32} {x4 : Int32} {x3 : Int32} {x6 : Int32} {s0 : Int32} {S : gx_S} (hk10 : ∀ (x37 : Int32) (S7 : gx_S), k10 (x37, S7) = some out → gx_G Γ 0 0 10 [.ref (a 0), .int x1, .int x2, .int x37, .int x4, .null, .null, .null] [] (wM a ι S7)) (hk30 : ∀ (x57 : Int32) (x67 : Int32), k30 (x57, x67) = some out → gx_G Γ 0 0 30 [.ref (a 0), .int x1, .int x2, .int x3, .int x4, .int x57, .int x67, .null] [] (wM a ι S)) (h : n_nearestMarket_121 k10 k30 x1 x2 x3 x4 x6 s0 S = some out) : gx_G Γ 0 0 121 [.ref (a 0), .int x1, .int x2, .int x3, .int x4, .null, .int x6, .null] [.int s0] (wM a ι S) := by
  obtain ⟨F, hnL⟩ := F
  unfold n_nearestMarket_121 at h
  refine gx_istore C dX8_nearestMarket_121 (by rw [hnL]; decide) trivial ?_
  refine gx_iinc1 C dX8_nearestMarket_123 rfl (by rw [hnL]; decide) trivial ?_
  refine gx_goto (tgt := 30) C dX8_nearestMarket_126 (by decide) ?_
  exact gx_weak (gx_le_k rfl (gx_le_k rfl (gx_le_k rfl (gx_le_k rfl (gx_le_k rfl (gx_le_k rfl (gx_le_k rfl (gx_le_n gx_le_0)))))))) (hk30 _ _ h)
def n_nearestMarket_114 (k10 : Int32 × gx_S → Option (Int32 × gx_S)) (k30 : Int32 × Int32 → Option (Int32 × gx_S)) (x1 : Int32) (x2 : Int32) (x3 : Int32) (x4 : Int32) (x6 : Int32) (S : gx_S) : Option (Int32 × gx_S) := n_nearestMarket_121 k10 k30 x1 x2 x3 x4 x6 x6 S
set_option maxRecDepth 20000 in
set_option maxHeartbeats 1000000 in
theorem bn_nearestMarket_114 {Γ : gx_T} {ι : Nat → ClassId} {a : Nat → Nat} {out : Int32 × gx_S} (hx : gx_std vwCl (gty ι) (gx_cl Γ) (gx_ty Γ)) (C : gx_ok Γ cX8_nearestMarket RX8 gx_U 6) (F : gx_finI Γ ((Option.some Jvm.ClassFile.FieldType.int)) (wM a ι) out ∧ gx_nL Γ = 8) {k10 : Int32 × gx_S → Option (Int32 × gx_S)} {k30 : Int32 × Int32 → Option (Int32 × gx_S)} {x1 : Int32} {x2 : Int32} {x4 : Int32} {x3 : Int32} {x6 : Int32} {S : gx_S} (hk10 : ∀ (x37 : Int32) (S7 : gx_S), k10 (x37, S7) = some out → gx_G Γ 0 0 10 [.ref (a 0), .int x1, .int x2, .int x37, .int x4, .null, .null, .null] [] (wM a ι S7)) (hk30 : ∀ (x57 : Int32) (x67 : Int32), k30 (x57, x67) = some out → gx_G Γ 0 0 30 [.ref (a 0), .int x1, .int x2, .int x3, .int x4, .int x57, .int x67, .null] [] (wM a ι S)) (h : n_nearestMarket_114 k10 k30 x1 x2 x3 x4 x6 S = some out) : gx_G Γ 0 0 114 [.ref (a 0), .int x1, .int x2, .int x3, .int x4, .null, .int x6, .null] [] (wM a ι S) := by
  obtain ⟨F, hnL⟩ := F
  unfold n_nearestMarket_114 at h
  refine gx_iload C dX8_nearestMarket_114 rfl ?_
  refine gx_goto (tgt := 121) C dX8_nearestMarket_116 (by decide) ?_
  exact gx_weak (gx_le_k rfl (gx_le_k rfl (gx_le_k rfl (gx_le_k rfl (gx_le_k rfl (gx_le_n (gx_le_k rfl (gx_le_n gx_le_0)))))))) (bn_nearestMarket_121 hx C ⟨F, hnL⟩ hk10 hk30 h)
def n_nearestMarket_119 (k10 : Int32 × gx_S → Option (Int32 × gx_S)) (k30 : Int32 × Int32 → Option (Int32 × gx_S)) (x1 : Int32) (x2 : Int32) (x3 : Int32) (x4 : Int32) (x5 : Int32) (x6 : Int32) (S : gx_S) : Option (Int32 × gx_S) := n_nearestMarket_121 k10 k30 x1 x2 x3 x4 x6 x5 S
set_option maxRecDepth 20000 in
set_option maxHeartbeats 1000000 in
theorem bn_nearestMarket_119 {Γ : gx_T} {ι : Nat → ClassId} {a : Nat → Nat} {out : Int32 × gx_S} (hx : gx_std vwCl (gty ι) (gx_cl Γ) (gx_ty Γ)) (C : gx_ok Γ cX8_nearestMarket RX8 gx_U 6) (F : gx_finI Γ ((Option.some Jvm.ClassFile.FieldType.int)) (wM a ι) out ∧ gx_nL Γ = 8) {k10 : Int32 × gx_S → Option (Int32 × gx_S)} {k30 : Int32 × Int32 → Option (Int32 × gx_S)} {x1 : Int32} {x2 : Int32} {x4 : Int32} {x3 : Int32} {x5 : Int32} {x6 : Int32} {S : gx_S} (hk10 : ∀ (x37 : Int32) (S7 : gx_S), k10 (x37, S7) = some out → gx_G Γ 0 0 10 [.ref (a 0), .int x1, .int x2, .int x37, .int x4, .null, .null, .null] [] (wM a ι S7)) (hk30 : ∀ (x57 : Int32) (x67 : Int32), k30 (x57, x67) = some out → gx_G Γ 0 0 30 [.ref (a 0), .int x1, .int x2, .int x3, .int x4, .int x57, .int x67, .null] [] (wM a ι S)) (h : n_nearestMarket_119 k10 k30 x1 x2 x3 x4 x5 x6 S = some out) : gx_G Γ 0 0 119 [.ref (a 0), .int x1, .int x2, .int x3, .int x4, .int x5, .int x6, .null] [] (wM a ι S) := by
  obtain ⟨F, hnL⟩ := F
  unfold n_nearestMarket_119 at h
  refine gx_iload C dX8_nearestMarket_119 rfl ?_
  exact gx_weak (gx_le_k rfl (gx_le_k rfl (gx_le_k rfl (gx_le_k rfl (gx_le_k rfl (gx_le_n (gx_le_k rfl (gx_le_n gx_le_0)))))))) (bn_nearestMarket_121 hx C ⟨F, hnL⟩ hk10 hk30 h)
def n_nearestMarket_64 (k10 : Int32 × gx_S → Option (Int32 × gx_S)) (k30 : Int32 × Int32 → Option (Int32 × gx_S)) (x1 : Int32) (x2 : Int32) (x3 : Int32) (x4 : Int32) (x5 : Int32) (x6 : Int32) (s0 : Int32) (S : gx_S) : Option (Int32 × gx_S) := if s0 = 0 then n_nearestMarket_119 k10 k30 x1 x2 x3 x4 x5 x6 S else if x5 = (-1) then n_nearestMarket_114 k10 k30 x1 x2 x3 x4 x6 S else gx_ck 6 x6 (gx_ck 6 x1 (gx_cp (n_size ((S 5 x6.toNatClampNeg) - (S 5 x1.toNatClampNeg)) S) fun v4 => gx_ck 6 x5 (gx_cp (n_size ((S 5 x5.toNatClampNeg) - (S 5 x1.toNatClampNeg)) S) fun v7 => if v7 ≤ v4 then n_nearestMarket_119 k10 k30 x1 x2 x3 x4 x5 x6 S else n_nearestMarket_114 k10 k30 x1 x2 x3 x4 x6 S)))
set_option maxRecDepth 20000 in
set_option maxHeartbeats 1000000 in
theorem bn_nearestMarket_64 {Γ : gx_T} {ι : Nat → ClassId} {a : Nat → Nat} {out : Int32 × gx_S} (hx : gx_std vwCl (gty ι) (gx_cl Γ) (gx_ty Γ)) (C : gx_ok Γ cX8_nearestMarket RX8 gx_U 6) (F : gx_finI Γ ((Option.some Jvm.ClassFile.FieldType.int)) (wM a ι) out ∧ gx_nL Γ = 8) {k10 : Int32 × gx_S → Option (Int32 × gx_S)} {k30 : Int32 × Int32 → Option (Int32 × gx_S)} {x1 : Int32} {x2 : Int32} {x4 : Int32} {x3 : Int32} {x5 : Int32} {x6 : Int32} {s0 : Int32} {S : gx_S} (hk10 : ∀ (x37 : Int32) (S7 : gx_S), k10 (x37, S7) = some out → gx_G Γ 0 0 10 [.ref (a 0), .int x1, .int x2, .int x37, .int x4, .null, .null, .null] [] (wM a ι S7)) (hk30 : ∀ (x57 : Int32) (x67 : Int32), k30 (x57, x67) = some out → gx_G Γ 0 0 30 [.ref (a 0), .int x1, .int x2, .int x3, .int x4, .int x57, .int x67, .null] [] (wM a ι S)) (h : n_nearestMarket_64 k10 k30 x1 x2 x3 x4 x5 x6 s0 S = some out) : gx_G Γ 0 0 64 [.ref (a 0), .int x1, .int x2, .int x3, .int x4, .int x5, .int x6, .null] [.int s0] (wM a ι S) := by
  obtain ⟨F, hnL⟩ := F
  unfold n_nearestMarket_64 at h
  refine gx_istore C dX8_nearestMarket_64 (by rw [hnL]; decide) trivial ?_
  refine gx_iload C dX8_nearestMarket_66 rfl ?_
  refine gx_if_eq (tgt := 119) C dX8_nearestMarket_68 (by decide) (fun hc10 => ?_) (fun hc10 => ?_)
  · have h := gi_t hc10 h
    exact gx_weak (gx_le_k rfl (gx_le_k rfl (gx_le_k rfl (gx_le_k rfl (gx_le_k rfl (gx_le_k rfl (gx_le_k rfl (gx_le_n gx_le_0)))))))) (bn_nearestMarket_119 hx C ⟨F, hnL⟩ hk10 hk30 h)
  · have h := gi_f hc10 h
    refine gx_iload C dX8_nearestMarket_71 rfl ?_
    refine gx_iconstm1 C dX8_nearestMarket_73 ?_
    refine gx_icmp_eq (tgt := 114) C dX8_nearestMarket_74 (by decide) (fun hc9 => ?_) (fun hc9 => ?_)
    · have h := gi_t hc9 h
      exact gx_weak (gx_le_k rfl (gx_le_k rfl (gx_le_k rfl (gx_le_k rfl (gx_le_k rfl (gx_le_n (gx_le_k rfl (gx_le_n gx_le_0)))))))) (bn_nearestMarket_114 hx C ⟨F, hnL⟩ hk10 hk30 h)
    · have h := gi_f hc9 h
      refine gx_aload_0 C dX8_nearestMarket_77 rfl ?_
      refine gs_getf (q := 0) C fl_X8_23 (cls_X8 hx) lt_M_Model (oc_M_Model a ι _) rfl dX8_nearestMarket_78 ?_
      refine gx_iload C dX8_nearestMarket_81 rfl ?_
      obtain ⟨hi1, h⟩ := gi_ck h
      refine gs_iald (q := 5) C (ac_M_M_placeOf hx a) lt_M_M_placeOf hi1 dX8_nearestMarket_83 ?_
      refine gx_aload_0 C dX8_nearestMarket_84 rfl ?_
      refine gs_getf (q := 0) C fl_X8_23 (cls_X8 hx) lt_M_Model (oc_M_Model a ι _) rfl dX8_nearestMarket_85 ?_
      refine gx_iload_1 C dX8_nearestMarket_88 rfl ?_
      obtain ⟨hi2, h⟩ := gi_ck h
      refine gs_iald (q := 5) C (ac_M_M_placeOf hx a) lt_M_M_placeOf hi2 dX8_nearestMarket_89 ?_
      refine gx_isub C dX8_nearestMarket_90 ?_
      obtain ⟨v4, e3, h⟩ := gi_cp h
      refine gc_IS C (cn_size (gx_l Γ) (gx_D Γ) hx a _ _ e3) (gx_cwS C gx_uu lk_X8_116 (by decide) (by decide)) rfl rfl (Nat.le_of_ble_eq_true rfl) ⟨Nat.zero_le _, Nat.zero_le _⟩ dX8_nearestMarket_91 ?_
      refine gx_aload_0 C dX8_nearestMarket_94 rfl ?_
      refine gs_getf (q := 0) C fl_X8_23 (cls_X8 hx) lt_M_Model (oc_M_Model a ι _) rfl dX8_nearestMarket_95 ?_
      refine gx_iload C dX8_nearestMarket_98 rfl ?_
      obtain ⟨hi5, h⟩ := gi_ck h
      refine gs_iald (q := 5) C (ac_M_M_placeOf hx a) lt_M_M_placeOf hi5 dX8_nearestMarket_100 ?_
      refine gx_aload_0 C dX8_nearestMarket_101 rfl ?_
      refine gs_getf (q := 0) C fl_X8_23 (cls_X8 hx) lt_M_Model (oc_M_Model a ι _) rfl dX8_nearestMarket_102 ?_
      refine gx_iload_1 C dX8_nearestMarket_105 rfl ?_
      refine gs_iald (q := 5) C (ac_M_M_placeOf hx a) lt_M_M_placeOf hi2 dX8_nearestMarket_106 ?_
      refine gx_isub C dX8_nearestMarket_107 ?_
      obtain ⟨v7, e6, h⟩ := gi_cp h
      refine gc_IS C (cn_size (gx_l Γ) (gx_D Γ) hx a _ _ e6) (gx_cwS C gx_uu lk_X8_116 (by decide) (by decide)) rfl rfl (Nat.le_of_ble_eq_true rfl) ⟨Nat.zero_le _, Nat.zero_le _⟩ dX8_nearestMarket_108 ?_
      refine gx_icmp_ge (tgt := 119) C dX8_nearestMarket_111 (by decide) (fun hc8 => ?_) (fun hc8 => ?_)
      · have h := gi_t hc8 h
        exact gx_weak (gx_le_k rfl (gx_le_k rfl (gx_le_k rfl (gx_le_k rfl (gx_le_k rfl (gx_le_k rfl (gx_le_k rfl (gx_le_n gx_le_0)))))))) (bn_nearestMarket_119 hx C ⟨F, hnL⟩ hk10 hk30 h)
      · have h := gi_f hc8 h
        exact gx_weak (gx_le_k rfl (gx_le_k rfl (gx_le_k rfl (gx_le_k rfl (gx_le_k rfl (gx_le_n (gx_le_k rfl (gx_le_n gx_le_0)))))))) (bn_nearestMarket_114 hx C ⟨F, hnL⟩ hk10 hk30 h)
def n_nearestMarket_63 (k10 : Int32 × gx_S → Option (Int32 × gx_S)) (k30 : Int32 × Int32 → Option (Int32 × gx_S)) (x1 : Int32) (x2 : Int32) (x3 : Int32) (x4 : Int32) (x5 : Int32) (x6 : Int32) (S : gx_S) : Option (Int32 × gx_S) := n_nearestMarket_64 k10 k30 x1 x2 x3 x4 x5 x6 0 S
set_option maxRecDepth 20000 in
set_option maxHeartbeats 1000000 in
theorem bn_nearestMarket_63 {Γ : gx_T} {ι : Nat → ClassId} {a : Nat → Nat} {out : Int32 × gx_S} (hx : gx_std vwCl (gty ι) (gx_cl Γ) (gx_ty Γ)) (C : gx_ok Γ cX8_nearestMarket RX8 gx_U 6) (F : gx_finI Γ ((Option.some Jvm.ClassFile.FieldType.int)) (wM a ι) out ∧ gx_nL Γ = 8) {k10 : Int32 × gx_S → Option (Int32 × gx_S)} {k30 : Int32 × Int32 → Option (Int32 × gx_S)} {x1 : Int32} {x2 : Int32} {x4 : Int32} {x3 : Int32} {x5 : Int32} {x6 : Int32} {S : gx_S} (hk10 : ∀ (x37 : Int32) (S7 : gx_S), k10 (x37, S7) = some out → gx_G Γ 0 0 10 [.ref (a 0), .int x1, .int x2, .int x37, .int x4, .null, .null, .null] [] (wM a ι S7)) (hk30 : ∀ (x57 : Int32) (x67 : Int32), k30 (x57, x67) = some out → gx_G Γ 0 0 30 [.ref (a 0), .int x1, .int x2, .int x3, .int x4, .int x57, .int x67, .null] [] (wM a ι S)) (h : n_nearestMarket_63 k10 k30 x1 x2 x3 x4 x5 x6 S = some out) : gx_G Γ 0 0 63 [.ref (a 0), .int x1, .int x2, .int x3, .int x4, .int x5, .int x6, .null] [] (wM a ι S) := by
  obtain ⟨F, hnL⟩ := F
  unfold n_nearestMarket_63 at h
  refine gx_iconst0 C dX8_nearestMarket_63 ?_
  exact gx_weak (gx_le_k rfl (gx_le_k rfl (gx_le_k rfl (gx_le_k rfl (gx_le_k rfl (gx_le_k rfl (gx_le_k rfl (gx_le_n gx_le_0)))))))) (bn_nearestMarket_64 hx C ⟨F, hnL⟩ hk10 hk30 h)
def n_nearestMarket_145 (k10 : Int32 × gx_S → Option (Int32 × gx_S)) (x1 : Int32) (x2 : Int32) (x4 : Int32) (s0 : Int32) (S : gx_S) : Option (Int32 × gx_S) := k10 (s0, S)
set_option maxRecDepth 20000 in
set_option maxHeartbeats 1000000 in
theorem bn_nearestMarket_145 {Γ : gx_T} {ι : Nat → ClassId} {a : Nat → Nat} {out : Int32 × gx_S} (hx : gx_std vwCl (gty ι) (gx_cl Γ) (gx_ty Γ)) (C : gx_ok Γ cX8_nearestMarket RX8 gx_U 6) (F : gx_finI Γ ((Option.some Jvm.ClassFile.FieldType.int)) (wM a ι) out ∧ gx_nL Γ = 8) {k10 : Int32 × gx_S → Option (Int32 × gx_S)} {x1 : Int32} {x2 : Int32} {x4 : Int32} {s0 : Int32} {S : gx_S} (hk10 : ∀ (x37 : Int32) (S7 : gx_S), k10 (x37, S7) = some out → gx_G Γ 0 0 10 [.ref (a 0), .int x1, .int x2, .int x37, .int x4, .null, .null, .null] [] (wM a ι S7)) (h : n_nearestMarket_145 k10 x1 x2 x4 s0 S = some out) : gx_G Γ 0 0 145 [.ref (a 0), .int x1, .int x2, .null, .int x4, .null, .null, .null] [.int s0] (wM a ι S) := by
  obtain ⟨F, hnL⟩ := F
  unfold n_nearestMarket_145 at h
  refine gx_istore_3 C dX8_nearestMarket_145 (by rw [hnL]; decide) trivial ?_
  refine gx_goto (tgt := 10) C dX8_nearestMarket_146 (by decide) ?_
  exact gx_weak (gx_le_k rfl (gx_le_k rfl (gx_le_k rfl (gx_le_k rfl (gx_le_k rfl (gx_le_n (gx_le_n (gx_le_n gx_le_0)))))))) (hk10 _ _ h)
def n_nearestMarket_30 (k10 : Int32 × gx_S → Option (Int32 × gx_S)) (x1 : Int32) (x2 : Int32) (x3 : Int32) (x4 : Int32) (S : gx_S) (t : Int32 × Int32) (k30 : Int32 × Int32 → Option (Int32 × gx_S)) : Option (Int32 × gx_S) := match t with
  | (x5, x6) => if (S 0 4) ≤ x6 then if x5 = (-1) then n_nearestMarket_145 k10 x1 x2 x4 (-1) S else n_nearestMarket_145 k10 x1 x2 x4 (x3 ||| ((1 : Int32) <<< (x5 &&& 31))) S else if ((x4 >>> (x6 &&& 31)) &&& (1 : Int32)) = 1 then if ((x3 >>> (x6 &&& 31)) &&& (1 : Int32)) = 0 then n_nearestMarket_64 k10 k30 x1 x2 x3 x4 x5 x6 1 S else n_nearestMarket_63 k10 k30 x1 x2 x3 x4 x5 x6 S else n_nearestMarket_63 k10 k30 x1 x2 x3 x4 x5 x6 S
set_option maxRecDepth 20000 in
set_option maxHeartbeats 1000000 in
theorem bn_nearestMarket_30 {Γ : gx_T} {ι : Nat → ClassId} {a : Nat → Nat} {out : Int32 × gx_S} (hx : gx_std vwCl (gty ι) (gx_cl Γ) (gx_ty Γ)) (C : gx_ok Γ cX8_nearestMarket RX8 gx_U 6) (F : gx_finI Γ ((Option.some Jvm.ClassFile.FieldType.int)) (wM a ι) out ∧ gx_nL Γ = 8) {k10 : Int32 × gx_S → Option (Int32 × gx_S)} {k30 : Int32 × Int32 → Option (Int32 × gx_S)} {x1 : Int32} {x2 : Int32} {x4 : Int32} {x3 : Int32} {x5 : Int32} {x6 : Int32} {S : gx_S} (hk10 : ∀ (x37 : Int32) (S7 : gx_S), k10 (x37, S7) = some out → gx_G Γ 0 0 10 [.ref (a 0), .int x1, .int x2, .int x37, .int x4, .null, .null, .null] [] (wM a ι S7)) (hk30 : ∀ (x57 : Int32) (x67 : Int32), k30 (x57, x67) = some out → gx_G Γ 0 0 30 [.ref (a 0), .int x1, .int x2, .int x3, .int x4, .int x57, .int x67, .null] [] (wM a ι S)) (h : n_nearestMarket_30 k10 x1 x2 x3 x4 S (x5, x6) k30 = some out) : gx_G Γ 0 0 30 [.ref (a 0), .int x1, .int x2, .int x3, .int x4, .int x5, .int x6, .null] [] (wM a ι S) := by
  obtain ⟨F, hnL⟩ := F
  unfold n_nearestMarket_30 at h
  dsimp only at h
  refine gx_iload C dX8_nearestMarket_30 rfl ?_
  refine gx_aload_0 C dX8_nearestMarket_32 rfl ?_
  refine gs_getf (q := 0) C fl_X8_98 (cls_X8 hx) lt_M_Model (oc_M_Model a ι _) rfl dX8_nearestMarket_33 ?_
  refine gx_icmp_ge (tgt := 129) C dX8_nearestMarket_36 (by decide) (fun hc4 => ?_) (fun hc4 => ?_)
  · have h := gi_t hc4 h
    refine gx_iload C dX8_nearestMarket_129 rfl ?_
    refine gx_iconstm1 C dX8_nearestMarket_131 ?_
    refine gx_icmp_ne (tgt := 139) C dX8_nearestMarket_132 (by decide) (fun hc1 => ?_) (fun hc1 => ?_)
    · have h := gi_f hc1 h
      refine gx_iload_3 C dX8_nearestMarket_139 rfl ?_
      refine gx_iconst1 C dX8_nearestMarket_140 ?_
      refine gx_iload C dX8_nearestMarket_141 rfl ?_
      refine gx_ishl C dX8_nearestMarket_143 ?_
      refine gx_ior C dX8_nearestMarket_144 ?_
      exact gx_weak (gx_le_k rfl (gx_le_k rfl (gx_le_k rfl (gx_le_n (gx_le_k rfl (gx_le_n (gx_le_n (gx_le_n gx_le_0)))))))) (bn_nearestMarket_145 hx C ⟨F, hnL⟩ hk10 h)
    · have h := gi_t hc1 h
      refine gx_iconstm1 C dX8_nearestMarket_135 ?_
      refine gx_goto (tgt := 145) C dX8_nearestMarket_136 (by decide) ?_
      exact gx_weak (gx_le_k rfl (gx_le_k rfl (gx_le_k rfl (gx_le_n (gx_le_k rfl (gx_le_n (gx_le_n (gx_le_n gx_le_0)))))))) (bn_nearestMarket_145 hx C ⟨F, hnL⟩ hk10 h)
  · have h := gi_f hc4 h
    refine gx_iload C dX8_nearestMarket_39 rfl ?_
    refine gx_iload C dX8_nearestMarket_41 rfl ?_
    refine gx_ishr C dX8_nearestMarket_43 ?_
    refine gx_iconst1 C dX8_nearestMarket_44 ?_
    refine gx_iand C dX8_nearestMarket_45 ?_
    refine gx_iconst1 C dX8_nearestMarket_46 ?_
    refine gx_icmp_ne (tgt := 63) C dX8_nearestMarket_47 (by decide) (fun hc3 => ?_) (fun hc3 => ?_)
    · have h := gi_f hc3 h
      exact gx_weak (gx_le_k rfl (gx_le_k rfl (gx_le_k rfl (gx_le_k rfl (gx_le_k rfl (gx_le_k rfl (gx_le_k rfl (gx_le_n gx_le_0)))))))) (bn_nearestMarket_63 hx C ⟨F, hnL⟩ hk10 hk30 h)
    · have h := gi_t hc3 h
      refine gx_iload_3 C dX8_nearestMarket_50 rfl ?_
      refine gx_iload C dX8_nearestMarket_51 rfl ?_
      refine gx_ishr C dX8_nearestMarket_53 ?_
      refine gx_iconst1 C dX8_nearestMarket_54 ?_
      refine gx_iand C dX8_nearestMarket_55 ?_
      refine gx_if_ne (tgt := 63) C dX8_nearestMarket_56 (by decide) (fun hc2 => ?_) (fun hc2 => ?_)
      · have h := gi_f hc2 h
        exact gx_weak (gx_le_k rfl (gx_le_k rfl (gx_le_k rfl (gx_le_k rfl (gx_le_k rfl (gx_le_k rfl (gx_le_k rfl (gx_le_n gx_le_0)))))))) (bn_nearestMarket_63 hx C ⟨F, hnL⟩ hk10 hk30 h)
      · have h := gi_t hc2 h
        refine gx_iconst1 C dX8_nearestMarket_59 ?_
        refine gx_goto (tgt := 64) C dX8_nearestMarket_60 (by decide) ?_
        exact gx_weak (gx_le_k rfl (gx_le_k rfl (gx_le_k rfl (gx_le_k rfl (gx_le_k rfl (gx_le_k rfl (gx_le_k rfl (gx_le_n gx_le_0)))))))) (bn_nearestMarket_64 hx C ⟨F, hnL⟩ hk10 hk30 h)
def n_nearestMarket_10 (x1 : Int32) (x2 : Int32) (x4 : Int32) (t : Int32 × gx_S) (k10 : Int32 × gx_S → Option (Int32 × gx_S)) : Option (Int32 × gx_S) := match t with
  | (x3, S) => if x3 = (-1) then some (x3, S) else gx_cs (n_pays x3 x2 S) fun v3 S2 => if v3 = 0 then gx_loop (n_nearestMarket_30 k10 x1 x2 x3 x4 S2) 5000 ((-1), 0) else some (x3, S2)
set_option maxRecDepth 20000 in
set_option maxHeartbeats 1000000 in
theorem bn_nearestMarket_10 {Γ : gx_T} {ι : Nat → ClassId} {a : Nat → Nat} {out : Int32 × gx_S} (hx : gx_std vwCl (gty ι) (gx_cl Γ) (gx_ty Γ)) (C : gx_ok Γ cX8_nearestMarket RX8 gx_U 6) (F : gx_finI Γ ((Option.some Jvm.ClassFile.FieldType.int)) (wM a ι) out ∧ gx_nL Γ = 8) {k10 : Int32 × gx_S → Option (Int32 × gx_S)} {x1 : Int32} {x2 : Int32} {x4 : Int32} {x3 : Int32} {S : gx_S} (hk10 : ∀ (x37 : Int32) (S7 : gx_S), k10 (x37, S7) = some out → gx_G Γ 0 0 10 [.ref (a 0), .int x1, .int x2, .int x37, .int x4, .null, .null, .null] [] (wM a ι S7)) (h : n_nearestMarket_10 x1 x2 x4 (x3, S) k10 = some out) : gx_G Γ 0 0 10 [.ref (a 0), .int x1, .int x2, .int x3, .int x4, .null, .null, .null] [] (wM a ι S) := by
  obtain ⟨F, hnL⟩ := F
  unfold n_nearestMarket_10 at h
  dsimp only at h
  refine gx_iload_3 C dX8_nearestMarket_10 rfl ?_
  refine gx_iconstm1 C dX8_nearestMarket_11 ?_
  refine gx_icmp_eq (tgt := 149) C dX8_nearestMarket_12 (by decide) (fun hc5 => ?_) (fun hc5 => ?_)
  · have h := gi_t hc5 h
    refine gx_iload_3 C dX8_nearestMarket_149 rfl ?_
    exact gx_iret C F rfl dX8_nearestMarket_150 (Option.some.inj h)
  · have h := gi_f hc5 h
    refine gx_aload_0 C dX8_nearestMarket_15 rfl ?_
    refine gx_iload_3 C dX8_nearestMarket_16 rfl ?_
    refine gx_iload_2 C dX8_nearestMarket_17 rfl ?_
    obtain ⟨v3, S2, e1, h⟩ := gi_cs h
    refine gc_IV C (cn_pays (gx_l Γ) (gx_D Γ) hx a _ _ _ e1) (gx_cw C gx_uu lk_X8_184 (by decide) (by decide)) (cls_X8 hx).1 (gs_recv (q := 0) lt_M_Model (oc_M_Model a ι _)) rfl rfl (Nat.le_of_ble_eq_true rfl) ⟨Nat.zero_le _, Nat.zero_le _⟩ dX8_nearestMarket_18 ?_
    refine gx_if_ne (tgt := 149) C dX8_nearestMarket_21 (by decide) (fun hc4 => ?_) (fun hc4 => ?_)
    · have h := gi_f hc4 h
      refine gx_iload_3 C dX8_nearestMarket_149 rfl ?_
      exact gx_iret C F rfl dX8_nearestMarket_150 (Option.some.inj h)
    · have h := gi_t hc4 h
      refine gx_iconstm1 C dX8_nearestMarket_24 ?_
      refine gx_istore C dX8_nearestMarket_25 (by rw [hnL]; decide) trivial ?_
      refine gx_iconst0 C dX8_nearestMarket_27 ?_
      refine gx_istore C dX8_nearestMarket_28 (by rw [hnL]; decide) trivial ?_
      refine gx_weak (gx_le_k rfl (gx_le_k rfl (gx_le_k rfl (gx_le_k rfl (gx_le_k rfl (gx_le_k rfl (gx_le_k rfl (gx_le_n gx_le_0)))))))) (gi_loop (P := fun t => gx_G Γ 0 0 30 [.ref (a 0), .int x1, .int x2, .int x3, .int x4, .int t.1, .int t.2, .null] [] (wM a ι S2)) (fun kk t hk h => ?_) 5000 _ h)
      obtain ⟨x59, x69⟩ := t
      exact bn_nearestMarket_30 hx C ⟨F, hnL⟩ hk10 (k30 := kk) (fun x58 x68 h => hk (x58, x68) h) h
def n_nearestMarket (x1 : Int32) (x2 : Int32) (S : gx_S) : Option (Int32 × gx_S) := gx_cp (n_openSet S) fun v2 => gx_loop (n_nearestMarket_10 x1 x2 v2) 5000 (((1 : Int32) <<< (x1 &&& 31)), S)
set_option maxRecDepth 20000 in
set_option maxHeartbeats 1000000 in
theorem cn_nearestMarket (l : Launch) (D : va_G) {cl : List vw_C} {tys : List (ClassId × FieldType)} {ι : Nat → ClassId} (hx : gx_std vwCl (gty ι) cl tys) (a : Nat → Nat) (x1 : Int32) (x2 : Int32) (S : gx_S) {out : Int32 × gx_S} (h : n_nearestMarket x1 x2 S = some out) : gx_mI l D cl tys yX8_nearestMarket (.code yX8_nearestMarket cX8_nearestMarket 8 ((Option.some Jvm.ClassFile.FieldType.int)) :: gx_U) (gx_rm 6) [.ref (a 0), .int x1, .int x2] (wM a ι S) (wM a ι) out := by
  unfold n_nearestMarket at h
  refine gx_startI (V := [.ref (a 0), .int x1, .int x2, .null, .null, .null, .null, .null]) 5 (by decide +kernel) (Nat.le_of_ble_eq_true rfl) rfl (fun Γ hl hD hcl hty hnL C F => ?_)
  subst hl; subst hD; subst hcl; subst hty
  refine gx_iconst1 C dX8_nearestMarket_0 ?_
  refine gx_iload_1 C dX8_nearestMarket_1 rfl ?_
  refine gx_ishl C dX8_nearestMarket_2 ?_
  refine gx_istore_3 C dX8_nearestMarket_3 (by rw [hnL]; decide) trivial ?_
  refine gx_aload_0 C dX8_nearestMarket_4 rfl ?_
  obtain ⟨v2, e1, h⟩ := gi_cp h
  refine gc_IV C (cn_openSet (gx_l Γ) (gx_D Γ) hx a _ e1) (gx_cw C gx_uu lk_X8_181 (by decide) (by decide)) (cls_X8 hx).1 (gs_recv (q := 0) lt_M_Model (oc_M_Model a ι _)) rfl rfl (Nat.le_of_ble_eq_true rfl) ⟨Nat.zero_le _, Nat.zero_le _⟩ dX8_nearestMarket_5 ?_
  refine gx_istore C dX8_nearestMarket_8 (by rw [hnL]; decide) trivial ?_
  refine gx_weak (gx_le_k rfl (gx_le_k rfl (gx_le_k rfl (gx_le_k rfl (gx_le_k rfl (gx_le_n (gx_le_n (gx_le_n gx_le_0)))))))) (gi_loop (P := fun t => gx_G Γ 0 0 10 [.ref (a 0), .int x1, .int x2, .int t.1, .int v2, .null, .null, .null] [] (wM a ι t.2)) (fun kk t hk h => ?_) 5000 _ h)
  obtain ⟨x39, S'9⟩ := t
  exact bn_nearestMarket_10 hx C ⟨F, hnL⟩ (k10 := kk) (fun x38 S'8 h => hk (x38, S'8) h) h
def n_leastMarket_89 (k11 : Int32 × Int32 × gx_S → Option (Int32 × gx_S)) (x1 : Int32) (x2 : Int32) (x3 : Int32) (x5 : Int32) (s0 : Int32) (S : gx_S) : Option (Int32 × gx_S) := k11 (s0, (x5 + 1), S)
set_option maxRecDepth 20000 in
set_option maxHeartbeats 1000000 in
theorem bn_leastMarket_89 {Γ : gx_T} {ι : Nat → ClassId} {a : Nat → Nat} {out : Int32 × gx_S} (hx : gx_std vwCl (gty ι) (gx_cl Γ) (gx_ty Γ)) (C : gx_ok Γ cX8_leastMarket RX8 gx_U 6) (F : gx_finI Γ ((Option.some Jvm.ClassFile.FieldType.int)) (wM a ι) out ∧ gx_nL Γ = 7) {k11 : Int32 × Int32 × gx_S → Option (Int32 × gx_S)} {x1 : Int32} {x2 : Int32} {x3 : Int32} {x5 : Int32} {s0 : Int32} {S : gx_S} (hk11 : ∀ (x47 : Int32) (x57 : Int32) (S7 : gx_S), k11 (x47, x57, S7) = some out → gx_G Γ 0 0 11 [.ref (a 0), .int x1, .int x2, .int x3, .int x47, .int x57, .null] [] (wM a ι S7)) (h : n_leastMarket_89 k11 x1 x2 x3 x5 s0 S = some out) : gx_G Γ 0 0 89 [.ref (a 0), .int x1, .int x2, .int x3, .null, .int x5, .null] [.int s0] (wM a ι S) := by
  obtain ⟨F, hnL⟩ := F
  unfold n_leastMarket_89 at h
  refine gx_istore C dX8_leastMarket_89 (by rw [hnL]; decide) trivial ?_
  refine gx_iinc1 C dX8_leastMarket_91 rfl (by rw [hnL]; decide) trivial ?_
  refine gx_goto (tgt := 11) C dX8_leastMarket_94 (by decide) ?_
  exact gx_weak (gx_le_k rfl (gx_le_k rfl (gx_le_k rfl (gx_le_k rfl (gx_le_k rfl (gx_le_k rfl (gx_le_n gx_le_0))))))) (hk11 _ _ _ h)
def n_leastMarket_87 (k11 : Int32 × Int32 × gx_S → Option (Int32 × gx_S)) (x1 : Int32) (x2 : Int32) (x3 : Int32) (x4 : Int32) (x5 : Int32) (S : gx_S) : Option (Int32 × gx_S) := n_leastMarket_89 k11 x1 x2 x3 x5 x4 S
set_option maxRecDepth 20000 in
set_option maxHeartbeats 1000000 in
theorem bn_leastMarket_87 {Γ : gx_T} {ι : Nat → ClassId} {a : Nat → Nat} {out : Int32 × gx_S} (hx : gx_std vwCl (gty ι) (gx_cl Γ) (gx_ty Γ)) (C : gx_ok Γ cX8_leastMarket RX8 gx_U 6) (F : gx_finI Γ ((Option.some Jvm.ClassFile.FieldType.int)) (wM a ι) out ∧ gx_nL Γ = 7) {k11 : Int32 × Int32 × gx_S → Option (Int32 × gx_S)} {x1 : Int32} {x2 : Int32} {x3 : Int32} {x4 : Int32} {x5 : Int32} {S : gx_S} (hk11 : ∀ (x47 : Int32) (x57 : Int32) (S7 : gx_S), k11 (x47, x57, S7) = some out → gx_G Γ 0 0 11 [.ref (a 0), .int x1, .int x2, .int x3, .int x47, .int x57, .null] [] (wM a ι S7)) (h : n_leastMarket_87 k11 x1 x2 x3 x4 x5 S = some out) : gx_G Γ 0 0 87 [.ref (a 0), .int x1, .int x2, .int x3, .int x4, .int x5, .null] [] (wM a ι S) := by
  obtain ⟨F, hnL⟩ := F
  unfold n_leastMarket_87 at h
  refine gx_iload C dX8_leastMarket_87 rfl ?_
  exact gx_weak (gx_le_k rfl (gx_le_k rfl (gx_le_k rfl (gx_le_k rfl (gx_le_n (gx_le_k rfl (gx_le_n gx_le_0))))))) (bn_leastMarket_89 hx C ⟨F, hnL⟩ hk11 h)
def n_leastMarket_65 (k11 : Int32 × Int32 × gx_S → Option (Int32 × gx_S)) (x1 : Int32) (x2 : Int32) (x3 : Int32) (x4 : Int32) (x5 : Int32) (s0 : Int32) (S : gx_S) : Option (Int32 × gx_S) := if s0 = 0 then n_leastMarket_87 k11 x1 x2 x3 x4 x5 S else gx_cs (n_pays x5 x2 S) fun v3 S2 => if v3 = 0 then n_leastMarket_87 k11 x1 x2 x3 x4 x5 S2 else n_leastMarket_89 k11 x1 x2 x3 x5 x5 S2
set_option maxRecDepth 20000 in
set_option maxHeartbeats 1000000 in
theorem bn_leastMarket_65 {Γ : gx_T} {ι : Nat → ClassId} {a : Nat → Nat} {out : Int32 × gx_S} (hx : gx_std vwCl (gty ι) (gx_cl Γ) (gx_ty Γ)) (C : gx_ok Γ cX8_leastMarket RX8 gx_U 6) (F : gx_finI Γ ((Option.some Jvm.ClassFile.FieldType.int)) (wM a ι) out ∧ gx_nL Γ = 7) {k11 : Int32 × Int32 × gx_S → Option (Int32 × gx_S)} {x1 : Int32} {x2 : Int32} {x3 : Int32} {x4 : Int32} {x5 : Int32} {s0 : Int32} {S : gx_S} (hk11 : ∀ (x47 : Int32) (x57 : Int32) (S7 : gx_S), k11 (x47, x57, S7) = some out → gx_G Γ 0 0 11 [.ref (a 0), .int x1, .int x2, .int x3, .int x47, .int x57, .null] [] (wM a ι S7)) (h : n_leastMarket_65 k11 x1 x2 x3 x4 x5 s0 S = some out) : gx_G Γ 0 0 65 [.ref (a 0), .int x1, .int x2, .int x3, .int x4, .int x5, .null] [.int s0] (wM a ι S) := by
  obtain ⟨F, hnL⟩ := F
  unfold n_leastMarket_65 at h
  refine gx_istore C dX8_leastMarket_65 (by rw [hnL]; decide) trivial ?_
  refine gx_iload C dX8_leastMarket_67 rfl ?_
  refine gx_if_eq (tgt := 87) C dX8_leastMarket_69 (by decide) (fun hc5 => ?_) (fun hc5 => ?_)
  · have h := gi_t hc5 h
    exact gx_weak (gx_le_k rfl (gx_le_k rfl (gx_le_k rfl (gx_le_k rfl (gx_le_k rfl (gx_le_k rfl (gx_le_n gx_le_0))))))) (bn_leastMarket_87 hx C ⟨F, hnL⟩ hk11 h)
  · have h := gi_f hc5 h
    refine gx_aload_0 C dX8_leastMarket_72 rfl ?_
    refine gx_iload C dX8_leastMarket_73 rfl ?_
    refine gx_iload_2 C dX8_leastMarket_75 rfl ?_
    obtain ⟨v3, S2, e1, h⟩ := gi_cs h
    refine gc_IV C (cn_pays (gx_l Γ) (gx_D Γ) hx a _ _ _ e1) (gx_cw C gx_uu lk_X8_184 (by decide) (by decide)) (cls_X8 hx).1 (gs_recv (q := 0) lt_M_Model (oc_M_Model a ι _)) rfl rfl (Nat.le_of_ble_eq_true rfl) ⟨Nat.zero_le _, Nat.zero_le _⟩ dX8_leastMarket_76 ?_
    refine gx_if_eq (tgt := 87) C dX8_leastMarket_79 (by decide) (fun hc4 => ?_) (fun hc4 => ?_)
    · have h := gi_t hc4 h
      exact gx_weak (gx_le_k rfl (gx_le_k rfl (gx_le_k rfl (gx_le_k rfl (gx_le_k rfl (gx_le_k rfl (gx_le_n gx_le_0))))))) (bn_leastMarket_87 hx C ⟨F, hnL⟩ hk11 h)
    · have h := gi_f hc4 h
      refine gx_iload C dX8_leastMarket_82 rfl ?_
      refine gx_goto (tgt := 89) C dX8_leastMarket_84 (by decide) ?_
      exact gx_weak (gx_le_k rfl (gx_le_k rfl (gx_le_k rfl (gx_le_k rfl (gx_le_n (gx_le_k rfl (gx_le_n gx_le_0))))))) (bn_leastMarket_89 hx C ⟨F, hnL⟩ hk11 h)
def n_leastMarket_60 (k11 : Int32 × Int32 × gx_S → Option (Int32 × gx_S)) (x1 : Int32) (x2 : Int32) (x3 : Int32) (x4 : Int32) (x5 : Int32) (S : gx_S) : Option (Int32 × gx_S) := n_leastMarket_65 k11 x1 x2 x3 x4 x5 1 S
set_option maxRecDepth 20000 in
set_option maxHeartbeats 1000000 in
theorem bn_leastMarket_60 {Γ : gx_T} {ι : Nat → ClassId} {a : Nat → Nat} {out : Int32 × gx_S} (hx : gx_std vwCl (gty ι) (gx_cl Γ) (gx_ty Γ)) (C : gx_ok Γ cX8_leastMarket RX8 gx_U 6) (F : gx_finI Γ ((Option.some Jvm.ClassFile.FieldType.int)) (wM a ι) out ∧ gx_nL Γ = 7) {k11 : Int32 × Int32 × gx_S → Option (Int32 × gx_S)} {x1 : Int32} {x2 : Int32} {x3 : Int32} {x4 : Int32} {x5 : Int32} {S : gx_S} (hk11 : ∀ (x47 : Int32) (x57 : Int32) (S7 : gx_S), k11 (x47, x57, S7) = some out → gx_G Γ 0 0 11 [.ref (a 0), .int x1, .int x2, .int x3, .int x47, .int x57, .null] [] (wM a ι S7)) (h : n_leastMarket_60 k11 x1 x2 x3 x4 x5 S = some out) : gx_G Γ 0 0 60 [.ref (a 0), .int x1, .int x2, .int x3, .int x4, .int x5, .null] [] (wM a ι S) := by
  obtain ⟨F, hnL⟩ := F
  unfold n_leastMarket_60 at h
  refine gx_iconst1 C dX8_leastMarket_60 ?_
  refine gx_goto (tgt := 65) C dX8_leastMarket_61 (by decide) ?_
  exact gx_weak (gx_le_k rfl (gx_le_k rfl (gx_le_k rfl (gx_le_k rfl (gx_le_k rfl (gx_le_k rfl (gx_le_n gx_le_0))))))) (bn_leastMarket_65 hx C ⟨F, hnL⟩ hk11 h)
def n_leastMarket_64 (k11 : Int32 × Int32 × gx_S → Option (Int32 × gx_S)) (x1 : Int32) (x2 : Int32) (x3 : Int32) (x4 : Int32) (x5 : Int32) (S : gx_S) : Option (Int32 × gx_S) := n_leastMarket_65 k11 x1 x2 x3 x4 x5 0 S
set_option maxRecDepth 20000 in
set_option maxHeartbeats 1000000 in
theorem bn_leastMarket_64 {Γ : gx_T} {ι : Nat → ClassId} {a : Nat → Nat} {out : Int32 × gx_S} (hx : gx_std vwCl (gty ι) (gx_cl Γ) (gx_ty Γ)) (C : gx_ok Γ cX8_leastMarket RX8 gx_U 6) (F : gx_finI Γ ((Option.some Jvm.ClassFile.FieldType.int)) (wM a ι) out ∧ gx_nL Γ = 7) {k11 : Int32 × Int32 × gx_S → Option (Int32 × gx_S)} {x1 : Int32} {x2 : Int32} {x3 : Int32} {x4 : Int32} {x5 : Int32} {S : gx_S} (hk11 : ∀ (x47 : Int32) (x57 : Int32) (S7 : gx_S), k11 (x47, x57, S7) = some out → gx_G Γ 0 0 11 [.ref (a 0), .int x1, .int x2, .int x3, .int x47, .int x57, .null] [] (wM a ι S7)) (h : n_leastMarket_64 k11 x1 x2 x3 x4 x5 S = some out) : gx_G Γ 0 0 64 [.ref (a 0), .int x1, .int x2, .int x3, .int x4, .int x5, .null] [] (wM a ι S) := by
  obtain ⟨F, hnL⟩ := F
  unfold n_leastMarket_64 at h
  refine gx_iconst0 C dX8_leastMarket_64 ?_
  exact gx_weak (gx_le_k rfl (gx_le_k rfl (gx_le_k rfl (gx_le_k rfl (gx_le_k rfl (gx_le_k rfl (gx_le_n gx_le_0))))))) (bn_leastMarket_65 hx C ⟨F, hnL⟩ hk11 h)
def n_leastMarket_11 (x1 : Int32) (x2 : Int32) (x3 : Int32) (t : Int32 × Int32 × gx_S) (k11 : Int32 × Int32 × gx_S → Option (Int32 × gx_S)) : Option (Int32 × gx_S) := match t with
  | (x4, x5, S) => if ((1 : Int32) <<< ((S 0 4) &&& 31)) ≤ x5 then some (x4, S) else if (x5 &&& (x3 ^^^ ((-1) : Int32))) = 0 then if ((x5 >>> (x1 &&& 31)) &&& (1 : Int32)) = 1 then if x4 = (-1) then n_leastMarket_60 k11 x1 x2 x3 x4 x5 S else gx_cp (n_ones x5 S) fun v2 => gx_cp (n_ones x4 S) fun v4 => if v4 ≤ v2 then n_leastMarket_64 k11 x1 x2 x3 x4 x5 S else n_leastMarket_60 k11 x1 x2 x3 x4 x5 S else n_leastMarket_64 k11 x1 x2 x3 x4 x5 S else n_leastMarket_64 k11 x1 x2 x3 x4 x5 S
set_option maxRecDepth 20000 in
set_option maxHeartbeats 1000000 in
theorem bn_leastMarket_11 {Γ : gx_T} {ι : Nat → ClassId} {a : Nat → Nat} {out : Int32 × gx_S} (hx : gx_std vwCl (gty ι) (gx_cl Γ) (gx_ty Γ)) (C : gx_ok Γ cX8_leastMarket RX8 gx_U 6) (F : gx_finI Γ ((Option.some Jvm.ClassFile.FieldType.int)) (wM a ι) out ∧ gx_nL Γ = 7) {k11 : Int32 × Int32 × gx_S → Option (Int32 × gx_S)} {x1 : Int32} {x2 : Int32} {x3 : Int32} {x4 : Int32} {x5 : Int32} {S : gx_S} (hk11 : ∀ (x47 : Int32) (x57 : Int32) (S7 : gx_S), k11 (x47, x57, S7) = some out → gx_G Γ 0 0 11 [.ref (a 0), .int x1, .int x2, .int x3, .int x47, .int x57, .null] [] (wM a ι S7)) (h : n_leastMarket_11 x1 x2 x3 (x4, x5, S) k11 = some out) : gx_G Γ 0 0 11 [.ref (a 0), .int x1, .int x2, .int x3, .int x4, .int x5, .null] [] (wM a ι S) := by
  obtain ⟨F, hnL⟩ := F
  unfold n_leastMarket_11 at h
  dsimp only at h
  refine gx_iload C dX8_leastMarket_11 rfl ?_
  refine gx_iconst1 C dX8_leastMarket_13 ?_
  refine gx_aload_0 C dX8_leastMarket_14 rfl ?_
  refine gs_getf (q := 0) C fl_X8_98 (cls_X8 hx) lt_M_Model (oc_M_Model a ι _) rfl dX8_leastMarket_15 ?_
  refine gx_ishl C dX8_leastMarket_18 ?_
  refine gx_icmp_ge (tgt := 97) C dX8_leastMarket_19 (by decide) (fun hc9 => ?_) (fun hc9 => ?_)
  · have h := gi_t hc9 h
    refine gx_iload C dX8_leastMarket_97 rfl ?_
    exact gx_iret C F rfl dX8_leastMarket_99 (Option.some.inj h)
  · have h := gi_f hc9 h
    refine gx_iload C dX8_leastMarket_22 rfl ?_
    refine gx_iload_3 C dX8_leastMarket_24 rfl ?_
    refine gx_iconstm1 C dX8_leastMarket_25 ?_
    refine gx_ixor C dX8_leastMarket_26 ?_
    refine gx_iand C dX8_leastMarket_27 ?_
    refine gx_if_ne (tgt := 64) C dX8_leastMarket_28 (by decide) (fun hc8 => ?_) (fun hc8 => ?_)
    · have h := gi_f hc8 h
      exact gx_weak (gx_le_k rfl (gx_le_k rfl (gx_le_k rfl (gx_le_k rfl (gx_le_k rfl (gx_le_k rfl (gx_le_n gx_le_0))))))) (bn_leastMarket_64 hx C ⟨F, hnL⟩ hk11 h)
    · have h := gi_t hc8 h
      refine gx_iload C dX8_leastMarket_31 rfl ?_
      refine gx_iload_1 C dX8_leastMarket_33 rfl ?_
      refine gx_ishr C dX8_leastMarket_34 ?_
      refine gx_iconst1 C dX8_leastMarket_35 ?_
      refine gx_iand C dX8_leastMarket_36 ?_
      refine gx_iconst1 C dX8_leastMarket_37 ?_
      refine gx_icmp_ne (tgt := 64) C dX8_leastMarket_38 (by decide) (fun hc7 => ?_) (fun hc7 => ?_)
      · have h := gi_f hc7 h
        exact gx_weak (gx_le_k rfl (gx_le_k rfl (gx_le_k rfl (gx_le_k rfl (gx_le_k rfl (gx_le_k rfl (gx_le_n gx_le_0))))))) (bn_leastMarket_64 hx C ⟨F, hnL⟩ hk11 h)
      · have h := gi_t hc7 h
        refine gx_iload C dX8_leastMarket_41 rfl ?_
        refine gx_iconstm1 C dX8_leastMarket_43 ?_
        refine gx_icmp_eq (tgt := 60) C dX8_leastMarket_44 (by decide) (fun hc6 => ?_) (fun hc6 => ?_)
        · have h := gi_t hc6 h
          exact gx_weak (gx_le_k rfl (gx_le_k rfl (gx_le_k rfl (gx_le_k rfl (gx_le_k rfl (gx_le_k rfl (gx_le_n gx_le_0))))))) (bn_leastMarket_60 hx C ⟨F, hnL⟩ hk11 h)
        · have h := gi_f hc6 h
          refine gx_iload C dX8_leastMarket_47 rfl ?_
          obtain ⟨v2, e1, h⟩ := gi_cp h
          refine gc_IS C (cn_ones (gx_l Γ) (gx_D Γ) hx a _ _ e1) (gx_cwS C gx_uu lk_X8_188 (by decide) (by decide)) rfl rfl (Nat.le_of_ble_eq_true rfl) ⟨Nat.zero_le _, Nat.zero_le _⟩ dX8_leastMarket_49 ?_
          refine gx_iload C dX8_leastMarket_52 rfl ?_
          obtain ⟨v4, e3, h⟩ := gi_cp h
          refine gc_IS C (cn_ones (gx_l Γ) (gx_D Γ) hx a _ _ e3) (gx_cwS C gx_uu lk_X8_188 (by decide) (by decide)) rfl rfl (Nat.le_of_ble_eq_true rfl) ⟨Nat.zero_le _, Nat.zero_le _⟩ dX8_leastMarket_54 ?_
          refine gx_icmp_ge (tgt := 64) C dX8_leastMarket_57 (by decide) (fun hc5 => ?_) (fun hc5 => ?_)
          · have h := gi_t hc5 h
            exact gx_weak (gx_le_k rfl (gx_le_k rfl (gx_le_k rfl (gx_le_k rfl (gx_le_k rfl (gx_le_k rfl (gx_le_n gx_le_0))))))) (bn_leastMarket_64 hx C ⟨F, hnL⟩ hk11 h)
          · have h := gi_f hc5 h
            exact gx_weak (gx_le_k rfl (gx_le_k rfl (gx_le_k rfl (gx_le_k rfl (gx_le_k rfl (gx_le_k rfl (gx_le_n gx_le_0))))))) (bn_leastMarket_60 hx C ⟨F, hnL⟩ hk11 h)
def n_leastMarket (x1 : Int32) (x2 : Int32) (S : gx_S) : Option (Int32 × gx_S) := gx_cp (n_openSet S) fun v2 => gx_loop (n_leastMarket_11 x1 x2 v2) 5000 ((-1), 1, S)
set_option maxRecDepth 20000 in
set_option maxHeartbeats 1000000 in
theorem cn_leastMarket (l : Launch) (D : va_G) {cl : List vw_C} {tys : List (ClassId × FieldType)} {ι : Nat → ClassId} (hx : gx_std vwCl (gty ι) cl tys) (a : Nat → Nat) (x1 : Int32) (x2 : Int32) (S : gx_S) {out : Int32 × gx_S} (h : n_leastMarket x1 x2 S = some out) : gx_mI l D cl tys yX8_leastMarket (.code yX8_leastMarket cX8_leastMarket 7 ((Option.some Jvm.ClassFile.FieldType.int)) :: gx_U) (gx_rm 6) [.ref (a 0), .int x1, .int x2] (wM a ι S) (wM a ι) out := by
  unfold n_leastMarket at h
  refine gx_startI (V := [.ref (a 0), .int x1, .int x2, .null, .null, .null, .null]) 4 (by decide +kernel) (Nat.le_of_ble_eq_true rfl) rfl (fun Γ hl hD hcl hty hnL C F => ?_)
  subst hl; subst hD; subst hcl; subst hty
  refine gx_aload_0 C dX8_leastMarket_0 rfl ?_
  obtain ⟨v2, e1, h⟩ := gi_cp h
  refine gc_IV C (cn_openSet (gx_l Γ) (gx_D Γ) hx a _ e1) (gx_cw C gx_uu lk_X8_181 (by decide) (by decide)) (cls_X8 hx).1 (gs_recv (q := 0) lt_M_Model (oc_M_Model a ι _)) rfl rfl (Nat.le_of_ble_eq_true rfl) ⟨Nat.zero_le _, Nat.zero_le _⟩ dX8_leastMarket_1 ?_
  refine gx_istore_3 C dX8_leastMarket_4 (by rw [hnL]; decide) trivial ?_
  refine gx_iconstm1 C dX8_leastMarket_5 ?_
  refine gx_istore C dX8_leastMarket_6 (by rw [hnL]; decide) trivial ?_
  refine gx_iconst1 C dX8_leastMarket_8 ?_
  refine gx_istore C dX8_leastMarket_9 (by rw [hnL]; decide) trivial ?_
  refine gx_weak (gx_le_k rfl (gx_le_k rfl (gx_le_k rfl (gx_le_k rfl (gx_le_k rfl (gx_le_k rfl (gx_le_n gx_le_0))))))) (gi_loop (P := fun t => gx_G Γ 0 0 11 [.ref (a 0), .int x1, .int x2, .int v2, .int t.1, .int t.2.1, .null] [] (wM a ι t.2.2)) (fun kk t hk h => ?_) 5000 _ h)
  obtain ⟨x49, x59, S'9⟩ := t
  exact bn_leastMarket_11 hx C ⟨F, hnL⟩ (k11 := kk) (fun x48 x58 S'8 h => hk (x48, x58, S'8) h) h
def n_market (x1 : Int32) (x2 : Int32) (x3 : Int32) (S : gx_S) : Option (Int32 × gx_S) := gx_cp (n_isShop x1 S) fun v2 => if v2 = 0 then some ((-101), S) else gx_cp (n_within x2 1 5 S) fun v4 => if v4 = 0 then some ((-102), S) else gx_cp (n_isOpen x1 S) fun v6 => if v6 = 0 then some ((-103), S) else if x3 = 0 then gx_cs (n_nearestMarket x1 x2 S) fun v9 S8 => some (v9, S8) else gx_cs (n_leastMarket x1 x2 S) fun v12 S11 => some (v12, S11)
set_option maxRecDepth 20000 in
set_option maxHeartbeats 1000000 in
theorem cn_market (l : Launch) (D : va_G) {cl : List vw_C} {tys : List (ClassId × FieldType)} {ι : Nat → ClassId} (hx : gx_std vwCl (gty ι) cl tys) (a : Nat → Nat) (x1 : Int32) (x2 : Int32) (x3 : Int32) (S : gx_S) {out : Int32 × gx_S} (h : n_market x1 x2 x3 S = some out) : gx_mI l D cl tys yX8_market (.code yX8_market cX8_market 4 ((Option.some Jvm.ClassFile.FieldType.int)) :: gx_U) (gx_rm 7) [.ref (a 0), .int x1, .int x2, .int x3] (wM a ι S) (wM a ι) out := by
  unfold n_market at h
  refine gx_startI (V := [.ref (a 0), .int x1, .int x2, .int x3]) 0 (by decide +kernel) (Nat.le_of_ble_eq_true rfl) rfl (fun Γ hl hD hcl hty hnL C F => ?_)
  subst hl; subst hD; subst hcl; subst hty
  refine gx_aload_0 C dX8_market_0 rfl ?_
  refine gx_iload_1 C dX8_market_1 rfl ?_
  obtain ⟨v2, e1, h⟩ := gi_cp h
  refine gc_IV C (cn_isShop (gx_l Γ) (gx_D Γ) hx a _ _ e1) (gx_cw C gx_uu lk_X8_132 (by decide) (by decide)) (cls_X8 hx).1 (gs_recv (q := 0) lt_M_Model (oc_M_Model a ι _)) rfl rfl (Nat.le_of_ble_eq_true rfl) ⟨Nat.zero_le _, Nat.zero_le _⟩ dX8_market_2 ?_
  refine gx_if_ne (tgt := 11) C dX8_market_5 (by decide) (fun hc16 => ?_) (fun hc16 => ?_)
  · have h := gi_f hc16 h
    refine gx_iload_2 C dX8_market_11 rfl ?_
    refine gx_iconst1 C dX8_market_12 ?_
    refine gx_iconst5 C dX8_market_13 ?_
    obtain ⟨v4, e3, h⟩ := gi_cp h
    refine gc_IS C (cn_within (gx_l Γ) (gx_D Γ) hx a _ _ _ _ e3) (gx_cwS C gx_uu lk_X8_94 (by decide) (by decide)) rfl rfl (Nat.le_of_ble_eq_true rfl) ⟨Nat.zero_le _, Nat.zero_le _⟩ dX8_market_14 ?_
    refine gx_if_ne (tgt := 23) C dX8_market_17 (by decide) (fun hc15 => ?_) (fun hc15 => ?_)
    · have h := gi_f hc15 h
      refine gx_aload_0 C dX8_market_23 rfl ?_
      refine gx_iload_1 C dX8_market_24 rfl ?_
      obtain ⟨v6, e5, h⟩ := gi_cp h
      refine gc_IV C (cn_isOpen (gx_l Γ) (gx_D Γ) hx a _ _ e5) (gx_cw C gx_uu lk_X8_119 (by decide) (by decide)) (cls_X8 hx).1 (gs_recv (q := 0) lt_M_Model (oc_M_Model a ι _)) rfl rfl (Nat.le_of_ble_eq_true rfl) ⟨Nat.zero_le _, Nat.zero_le _⟩ dX8_market_25 ?_
      refine gx_if_ne (tgt := 34) C dX8_market_28 (by decide) (fun hc14 => ?_) (fun hc14 => ?_)
      · have h := gi_f hc14 h
        refine gx_iload_3 C dX8_market_34 rfl ?_
        refine gx_if_eq (tgt := 47) C dX8_market_35 (by decide) (fun hc13 => ?_) (fun hc13 => ?_)
        · have h := gi_t hc13 h
          refine gx_aload_0 C dX8_market_47 rfl ?_
          refine gx_iload_1 C dX8_market_48 rfl ?_
          refine gx_iload_2 C dX8_market_49 rfl ?_
          obtain ⟨v9, S8, e7, h⟩ := gi_cs h
          refine gc_IV C (cn_nearestMarket (gx_l Γ) (gx_D Γ) hx a _ _ _ e7) (gx_cw C gx_uu lk_X8_194 (by decide) (by decide)) (cls_X8 hx).1 (gs_recv (q := 0) lt_M_Model (oc_M_Model a ι _)) rfl rfl (Nat.le_of_ble_eq_true rfl) ⟨Nat.zero_le _, Nat.zero_le _⟩ dX8_market_50 ?_
          exact gx_iret C F rfl dX8_market_53 (Option.some.inj h)
        · have h := gi_f hc13 h
          refine gx_aload_0 C dX8_market_38 rfl ?_
          refine gx_iload_1 C dX8_market_39 rfl ?_
          refine gx_iload_2 C dX8_market_40 rfl ?_
          obtain ⟨v12, S11, e10, h⟩ := gi_cs h
          refine gc_IV C (cn_leastMarket (gx_l Γ) (gx_D Γ) hx a _ _ _ e10) (gx_cw C gx_uu lk_X8_191 (by decide) (by decide)) (cls_X8 hx).1 (gs_recv (q := 0) lt_M_Model (oc_M_Model a ι _)) rfl rfl (Nat.le_of_ble_eq_true rfl) ⟨Nat.zero_le _, Nat.zero_le _⟩ dX8_market_41 ?_
          refine gx_goto (tgt := 53) C dX8_market_44 (by decide) ?_
          exact gx_iret C F rfl dX8_market_53 (Option.some.inj h)
      · have h := gi_t hc14 h
        refine gx_bipush (v := (-103)) C dX8_market_31 (by decide) ?_
        exact gx_iret C F rfl dX8_market_33 (Option.some.inj h)
    · have h := gi_t hc15 h
      refine gx_bipush (v := (-102)) C dX8_market_20 (by decide) ?_
      exact gx_iret C F rfl dX8_market_22 (Option.some.inj h)
  · have h := gi_t hc16 h
    refine gx_bipush (v := (-101)) C dX8_market_8 (by decide) ?_
    exact gx_iret C F rfl dX8_market_10 (Option.some.inj h)
def n_insteadOf (x1 : Int32) (x2 : Int32) (S : gx_S) : Option (Int32 × gx_S) := gx_let (gx_st S 0 23 x2) fun S1 => gx_cp (n_goesTo x1 S1) fun v4 => gx_let (gx_st S1 0 23 (-1)) fun S5 => some (v4, S5)
set_option maxRecDepth 20000 in
set_option maxHeartbeats 1000000 in
theorem cn_insteadOf (l : Launch) (D : va_G) {cl : List vw_C} {tys : List (ClassId × FieldType)} {ι : Nat → ClassId} (hx : gx_std vwCl (gty ι) cl tys) (a : Nat → Nat) (x1 : Int32) (x2 : Int32) (S : gx_S) {out : Int32 × gx_S} (h : n_insteadOf x1 x2 S = some out) : gx_mI l D cl tys yX8_insteadOf (.code yX8_insteadOf cX8_insteadOf 4 ((Option.some Jvm.ClassFile.FieldType.int)) :: gx_U) (gx_rm 3) [.ref (a 0), .int x1, .int x2] (wM a ι S) (wM a ι) out := by
  unfold n_insteadOf at h
  refine gx_startI (V := [.ref (a 0), .int x1, .int x2, .null]) 1 (by decide +kernel) (Nat.le_of_ble_eq_true rfl) rfl (fun Γ hl hD hcl hty hnL C F => ?_)
  subst hl; subst hD; subst hcl; subst hty
  refine gx_aload_0 C dX8_insteadOf_0 rfl ?_
  refine gx_iload_2 C dX8_insteadOf_1 rfl ?_
  obtain ⟨S1, e2, h⟩ := gi_let h
  refine gs_puti (q := 0) C fl_X8_54 (cls_X8 hx) lt_M_Model (oc_M_Model a ι _) (oc_M_Model a ι _) rfl rfl rfl (Nat.le_of_ble_eq_true rfl) e2 dX8_insteadOf_2 ?_
  refine gx_aload_0 C dX8_insteadOf_5 rfl ?_
  refine gx_iload_1 C dX8_insteadOf_6 rfl ?_
  obtain ⟨v4, e3, h⟩ := gi_cp h
  refine gc_IV C (cn_goesTo (gx_l Γ) (gx_D Γ) hx a _ _ e3) (gx_cw C gx_uu lk_X8_125 (by decide) (by decide)) (cls_X8 hx).1 (gs_recv (q := 0) lt_M_Model (oc_M_Model a ι _)) rfl rfl (Nat.le_of_ble_eq_true rfl) ⟨Nat.zero_le _, Nat.zero_le _⟩ dX8_insteadOf_7 ?_
  refine gx_istore_3 C dX8_insteadOf_10 (by rw [hnL]; decide) trivial ?_
  refine gx_aload_0 C dX8_insteadOf_11 rfl ?_
  refine gx_iconstm1 C dX8_insteadOf_12 ?_
  obtain ⟨S5, e6, h⟩ := gi_let h
  refine gs_puti (q := 0) C fl_X8_54 (cls_X8 hx) lt_M_Model (oc_M_Model a ι _) (oc_M_Model a ι _) rfl rfl rfl (Nat.le_of_ble_eq_true rfl) e6 dX8_insteadOf_13 ?_
  refine gx_iload_3 C dX8_insteadOf_16 rfl ?_
  exact gx_iret C F rfl dX8_insteadOf_17 (Option.some.inj h)
def n_instead_25 (S : gx_S) : Option (Int32 × gx_S) := some ((-101), S)
set_option maxRecDepth 20000 in
set_option maxHeartbeats 1000000 in
theorem bn_instead_25 {Γ : gx_T} {ι : Nat → ClassId} {a : Nat → Nat} {out : Int32 × gx_S} (hx : gx_std vwCl (gty ι) (gx_cl Γ) (gx_ty Γ)) (C : gx_ok Γ cX8_instead RX8 gx_U 4) (F : gx_finI Γ ((Option.some Jvm.ClassFile.FieldType.int)) (wM a ι) out ∧ gx_nL Γ = 3) {S : gx_S} (h : n_instead_25 S = some out) : gx_G Γ 0 0 25 [.ref (a 0), .null, .null] [] (wM a ι S) := by
  obtain ⟨F, hnL⟩ := F
  unfold n_instead_25 at h
  refine gx_bipush (v := (-101)) C dX8_instead_25 (by decide) ?_
  exact gx_iret C F rfl dX8_instead_27 (Option.some.inj h)
def n_instead (x1 : Int32) (x2 : Int32) (S : gx_S) : Option (Int32 × gx_S) := gx_cp (n_isSort x1 S) fun v2 => if v2 = 0 then n_instead_25 S else gx_cp (n_isShop x2 S) fun v4 => if v4 = 0 then n_instead_25 S else gx_cs (n_insteadOf x1 x2 S) fun v7 S6 => some (v7, S6)
set_option maxRecDepth 20000 in
set_option maxHeartbeats 1000000 in
theorem cn_instead (l : Launch) (D : va_G) {cl : List vw_C} {tys : List (ClassId × FieldType)} {ι : Nat → ClassId} (hx : gx_std vwCl (gty ι) cl tys) (a : Nat → Nat) (x1 : Int32) (x2 : Int32) (S : gx_S) {out : Int32 × gx_S} (h : n_instead x1 x2 S = some out) : gx_mI l D cl tys yX8_instead (.code yX8_instead cX8_instead 3 ((Option.some Jvm.ClassFile.FieldType.int)) :: gx_U) (gx_rm 4) [.ref (a 0), .int x1, .int x2] (wM a ι S) (wM a ι) out := by
  unfold n_instead at h
  refine gx_startI (V := [.ref (a 0), .int x1, .int x2]) 0 (by decide +kernel) (Nat.le_of_ble_eq_true rfl) rfl (fun Γ hl hD hcl hty hnL C F => ?_)
  subst hl; subst hD; subst hcl; subst hty
  refine gx_aload_0 C dX8_instead_0 rfl ?_
  refine gx_iload_1 C dX8_instead_1 rfl ?_
  obtain ⟨v2, e1, h⟩ := gi_cp h
  refine gc_IV C (cn_isSort (gx_l Γ) (gx_D Γ) hx a _ _ e1) (gx_cw C gx_uu lk_X8_138 (by decide) (by decide)) (cls_X8 hx).1 (gs_recv (q := 0) lt_M_Model (oc_M_Model a ι _)) rfl rfl (Nat.le_of_ble_eq_true rfl) ⟨Nat.zero_le _, Nat.zero_le _⟩ dX8_instead_2 ?_
  refine gx_if_eq (tgt := 25) C dX8_instead_5 (by decide) (fun hc9 => ?_) (fun hc9 => ?_)
  · have h := gi_t hc9 h
    exact gx_weak (gx_le_k rfl (gx_le_n (gx_le_n gx_le_0))) (bn_instead_25 hx C ⟨F, hnL⟩ h)
  · have h := gi_f hc9 h
    refine gx_aload_0 C dX8_instead_8 rfl ?_
    refine gx_iload_2 C dX8_instead_9 rfl ?_
    obtain ⟨v4, e3, h⟩ := gi_cp h
    refine gc_IV C (cn_isShop (gx_l Γ) (gx_D Γ) hx a _ _ e3) (gx_cw C gx_uu lk_X8_132 (by decide) (by decide)) (cls_X8 hx).1 (gs_recv (q := 0) lt_M_Model (oc_M_Model a ι _)) rfl rfl (Nat.le_of_ble_eq_true rfl) ⟨Nat.zero_le _, Nat.zero_le _⟩ dX8_instead_10 ?_
    refine gx_if_eq (tgt := 25) C dX8_instead_13 (by decide) (fun hc8 => ?_) (fun hc8 => ?_)
    · have h := gi_t hc8 h
      exact gx_weak (gx_le_k rfl (gx_le_n (gx_le_n gx_le_0))) (bn_instead_25 hx C ⟨F, hnL⟩ h)
    · have h := gi_f hc8 h
      refine gx_aload_0 C dX8_instead_16 rfl ?_
      refine gx_iload_1 C dX8_instead_17 rfl ?_
      refine gx_iload_2 C dX8_instead_18 rfl ?_
      obtain ⟨v7, S6, e5, h⟩ := gi_cs h
      refine gc_IV C (cn_insteadOf (gx_l Γ) (gx_D Γ) hx a _ _ _ e5) (gx_cw C gx_uu lk_X8_197 (by decide) (by decide)) (cls_X8 hx).1 (gs_recv (q := 0) lt_M_Model (oc_M_Model a ι _)) rfl rfl (Nat.le_of_ble_eq_true rfl) ⟨Nat.zero_le _, Nat.zero_le _⟩ dX8_instead_19 ?_
      refine gx_goto (tgt := 27) C dX8_instead_22 (by decide) ?_
      exact gx_iret C F rfl dX8_instead_27 (Option.some.inj h)
def n_from_71 (k29 : Int32 × Int32 × gx_S → Option (Int32 × gx_S)) (x1 : Int32) (x2 : Int32) (x4 : Int32) (s0 : Int32) (s1 : Int32) (S : gx_S) : Option (Int32 × gx_S) := k29 ((s0 + s1), (x4 + 1), S)
set_option maxRecDepth 20000 in
set_option maxHeartbeats 1000000 in
theorem bn_from_71 {Γ : gx_T} {ι : Nat → ClassId} {a : Nat → Nat} {out : Int32 × gx_S} (hx : gx_std vwCl (gty ι) (gx_cl Γ) (gx_ty Γ)) (C : gx_ok Γ cX8_from RX8 gx_U 4) (F : gx_finI Γ ((Option.some Jvm.ClassFile.FieldType.int)) (wM a ι) out ∧ gx_nL Γ = 5) {k29 : Int32 × Int32 × gx_S → Option (Int32 × gx_S)} {x1 : Int32} {x2 : Int32} {x4 : Int32} {s0 : Int32} {s1 : Int32} {S : gx_S} (hk29 : ∀ (x37 : Int32) (x47 : Int32) (S7 : gx_S), k29 (x37, x47, S7) = some out → gx_G Γ 0 0 29 [.ref (a 0), .int x1, .int x2, .int x37, .int x47] [] (wM a ι S7)) (h : n_from_71 k29 x1 x2 x4 s0 s1 S = some out) : gx_G Γ 0 0 71 [.ref (a 0), .int x1, .int x2, .null, .int x4] [.int s1, .int s0] (wM a ι S) := by
  obtain ⟨F, hnL⟩ := F
  unfold n_from_71 at h
  refine gx_iadd C dX8_from_71 ?_
  refine gx_istore_3 C dX8_from_72 (by rw [hnL]; decide) trivial ?_
  refine gx_iinc1 C dX8_from_73 rfl (by rw [hnL]; decide) trivial ?_
  refine gx_goto (tgt := 29) C dX8_from_76 (by decide) ?_
  exact gx_weak (gx_le_k rfl (gx_le_k rfl (gx_le_k rfl (gx_le_k rfl (gx_le_k rfl gx_le_0))))) (hk29 _ _ _ h)
def n_from_70 (k29 : Int32 × Int32 × gx_S → Option (Int32 × gx_S)) (x1 : Int32) (x2 : Int32) (x4 : Int32) (s0 : Int32) (S : gx_S) : Option (Int32 × gx_S) := n_from_71 k29 x1 x2 x4 s0 0 S
set_option maxRecDepth 20000 in
set_option maxHeartbeats 1000000 in
theorem bn_from_70 {Γ : gx_T} {ι : Nat → ClassId} {a : Nat → Nat} {out : Int32 × gx_S} (hx : gx_std vwCl (gty ι) (gx_cl Γ) (gx_ty Γ)) (C : gx_ok Γ cX8_from RX8 gx_U 4) (F : gx_finI Γ ((Option.some Jvm.ClassFile.FieldType.int)) (wM a ι) out ∧ gx_nL Γ = 5) {k29 : Int32 × Int32 × gx_S → Option (Int32 × gx_S)} {x1 : Int32} {x2 : Int32} {x4 : Int32} {s0 : Int32} {S : gx_S} (hk29 : ∀ (x37 : Int32) (x47 : Int32) (S7 : gx_S), k29 (x37, x47, S7) = some out → gx_G Γ 0 0 29 [.ref (a 0), .int x1, .int x2, .int x37, .int x47] [] (wM a ι S7)) (h : n_from_70 k29 x1 x2 x4 s0 S = some out) : gx_G Γ 0 0 70 [.ref (a 0), .int x1, .int x2, .null, .int x4] [.int s0] (wM a ι S) := by
  obtain ⟨F, hnL⟩ := F
  unfold n_from_70 at h
  refine gx_iconst0 C dX8_from_70 ?_
  exact gx_weak (gx_le_k rfl (gx_le_k rfl (gx_le_k rfl (gx_le_n (gx_le_k rfl gx_le_0))))) (bn_from_71 hx C ⟨F, hnL⟩ hk29 h)
def n_from_29 (x1 : Int32) (x2 : Int32) (t : Int32 × Int32 × gx_S) (k29 : Int32 × Int32 × gx_S → Option (Int32 × gx_S)) : Option (Int32 × gx_S) := match t with
  | (x3, x4, S) => if (S 0 9) ≤ x4 then some (x3, S) else gx_cp (n_goesTo x4 S) fun v2 => if v2 = x1 then gx_cs (n_insteadOf x4 x1 S) fun v5 S4 => if v5 = x2 then gx_cp (n_told x4 1 S4) fun v7 => n_from_71 k29 x1 x2 x4 x3 v7 S4 else n_from_70 k29 x1 x2 x4 x3 S4 else n_from_70 k29 x1 x2 x4 x3 S
set_option maxRecDepth 20000 in
set_option maxHeartbeats 1000000 in
theorem bn_from_29 {Γ : gx_T} {ι : Nat → ClassId} {a : Nat → Nat} {out : Int32 × gx_S} (hx : gx_std vwCl (gty ι) (gx_cl Γ) (gx_ty Γ)) (C : gx_ok Γ cX8_from RX8 gx_U 4) (F : gx_finI Γ ((Option.some Jvm.ClassFile.FieldType.int)) (wM a ι) out ∧ gx_nL Γ = 5) {k29 : Int32 × Int32 × gx_S → Option (Int32 × gx_S)} {x1 : Int32} {x2 : Int32} {x3 : Int32} {x4 : Int32} {S : gx_S} (hk29 : ∀ (x37 : Int32) (x47 : Int32) (S7 : gx_S), k29 (x37, x47, S7) = some out → gx_G Γ 0 0 29 [.ref (a 0), .int x1, .int x2, .int x37, .int x47] [] (wM a ι S7)) (h : n_from_29 x1 x2 (x3, x4, S) k29 = some out) : gx_G Γ 0 0 29 [.ref (a 0), .int x1, .int x2, .int x3, .int x4] [] (wM a ι S) := by
  obtain ⟨F, hnL⟩ := F
  unfold n_from_29 at h
  dsimp only at h
  refine gx_iload C dX8_from_29 rfl ?_
  refine gx_aload_0 C dX8_from_31 rfl ?_
  refine gs_getf (q := 0) C fl_X8_101 (cls_X8 hx) lt_M_Model (oc_M_Model a ι _) rfl dX8_from_32 ?_
  refine gx_icmp_ge (tgt := 79) C dX8_from_35 (by decide) (fun hc10 => ?_) (fun hc10 => ?_)
  · have h := gi_t hc10 h
    refine gx_iload_3 C dX8_from_79 rfl ?_
    exact gx_iret C F rfl dX8_from_80 (Option.some.inj h)
  · have h := gi_f hc10 h
    refine gx_iload_3 C dX8_from_38 rfl ?_
    refine gx_aload_0 C dX8_from_39 rfl ?_
    refine gx_iload C dX8_from_40 rfl ?_
    obtain ⟨v2, e1, h⟩ := gi_cp h
    refine gc_IV C (cn_goesTo (gx_l Γ) (gx_D Γ) hx a _ _ e1) (gx_cw C gx_uu lk_X8_125 (by decide) (by decide)) (cls_X8 hx).1 (gs_recv (q := 0) lt_M_Model (oc_M_Model a ι _)) rfl rfl (Nat.le_of_ble_eq_true rfl) ⟨Nat.zero_le _, Nat.zero_le _⟩ dX8_from_42 ?_
    refine gx_iload_1 C dX8_from_45 rfl ?_
    refine gx_icmp_ne (tgt := 70) C dX8_from_46 (by decide) (fun hc9 => ?_) (fun hc9 => ?_)
    · have h := gi_f hc9 h
      exact gx_weak (gx_le_k rfl (gx_le_k rfl (gx_le_k rfl (gx_le_n (gx_le_k rfl gx_le_0))))) (bn_from_70 hx C ⟨F, hnL⟩ hk29 h)
    · have h := gi_t hc9 h
      refine gx_aload_0 C dX8_from_49 rfl ?_
      refine gx_iload C dX8_from_50 rfl ?_
      refine gx_iload_1 C dX8_from_52 rfl ?_
      obtain ⟨v5, S4, e3, h⟩ := gi_cs h
      refine gc_IV C (cn_insteadOf (gx_l Γ) (gx_D Γ) hx a _ _ _ e3) (gx_cw C gx_uu lk_X8_197 (by decide) (by decide)) (cls_X8 hx).1 (gs_recv (q := 0) lt_M_Model (oc_M_Model a ι _)) rfl rfl (Nat.le_of_ble_eq_true rfl) ⟨Nat.zero_le _, Nat.zero_le _⟩ dX8_from_53 ?_
      refine gx_iload_2 C dX8_from_56 rfl ?_
      refine gx_icmp_ne (tgt := 70) C dX8_from_57 (by decide) (fun hc8 => ?_) (fun hc8 => ?_)
      · have h := gi_f hc8 h
        exact gx_weak (gx_le_k rfl (gx_le_k rfl (gx_le_k rfl (gx_le_n (gx_le_k rfl gx_le_0))))) (bn_from_70 hx C ⟨F, hnL⟩ hk29 h)
      · have h := gi_t hc8 h
        refine gx_aload_0 C dX8_from_60 rfl ?_
        refine gx_iload C dX8_from_61 rfl ?_
        refine gx_iconst1 C dX8_from_63 ?_
        obtain ⟨v7, e6, h⟩ := gi_cp h
        refine gc_IV C (cn_told (gx_l Γ) (gx_D Γ) hx a _ _ _ e6) (gx_cw C gx_uu lk_X8_112 (by decide) (by decide)) (cls_X8 hx).1 (gs_recv (q := 0) lt_M_Model (oc_M_Model a ι _)) rfl rfl (Nat.le_of_ble_eq_true rfl) ⟨Nat.zero_le _, Nat.zero_le _⟩ dX8_from_64 ?_
        refine gx_goto (tgt := 71) C dX8_from_67 (by decide) ?_
        exact gx_weak (gx_le_k rfl (gx_le_k rfl (gx_le_k rfl (gx_le_n (gx_le_k rfl gx_le_0))))) (bn_from_71 hx C ⟨F, hnL⟩ hk29 h)
def n_from (x1 : Int32) (x2 : Int32) (S : gx_S) : Option (Int32 × gx_S) := gx_cp (n_isShop x1 S) fun v2 => if v2 = 0 then some ((-101), S) else gx_cp (n_isShop x2 S) fun v4 => if v4 = 0 then some ((-101), S) else if x1 = x2 then some ((-101), S) else gx_loop (n_from_29 x1 x2) 5000 (0, 0, S)
set_option maxRecDepth 20000 in
set_option maxHeartbeats 1000000 in
theorem cn_from (l : Launch) (D : va_G) {cl : List vw_C} {tys : List (ClassId × FieldType)} {ι : Nat → ClassId} (hx : gx_std vwCl (gty ι) cl tys) (a : Nat → Nat) (x1 : Int32) (x2 : Int32) (S : gx_S) {out : Int32 × gx_S} (h : n_from x1 x2 S = some out) : gx_mI l D cl tys yX8_from (.code yX8_from cX8_from 5 ((Option.some Jvm.ClassFile.FieldType.int)) :: gx_U) (gx_rm 4) [.ref (a 0), .int x1, .int x2] (wM a ι S) (wM a ι) out := by
  unfold n_from at h
  refine gx_startI (V := [.ref (a 0), .int x1, .int x2, .null, .null]) 2 (by decide +kernel) (Nat.le_of_ble_eq_true rfl) rfl (fun Γ hl hD hcl hty hnL C F => ?_)
  subst hl; subst hD; subst hcl; subst hty
  refine gx_aload_0 C dX8_from_0 rfl ?_
  refine gx_iload_1 C dX8_from_1 rfl ?_
  obtain ⟨v2, e1, h⟩ := gi_cp h
  refine gc_IV C (cn_isShop (gx_l Γ) (gx_D Γ) hx a _ _ e1) (gx_cw C gx_uu lk_X8_132 (by decide) (by decide)) (cls_X8 hx).1 (gs_recv (q := 0) lt_M_Model (oc_M_Model a ι _)) rfl rfl (Nat.le_of_ble_eq_true rfl) ⟨Nat.zero_le _, Nat.zero_le _⟩ dX8_from_2 ?_
  refine gx_if_eq (tgt := 21) C dX8_from_5 (by decide) (fun hc7 => ?_) (fun hc7 => ?_)
  · have h := gi_t hc7 h
    refine gx_bipush (v := (-101)) C dX8_from_21 (by decide) ?_
    exact gx_iret C F rfl dX8_from_23 (Option.some.inj h)
  · have h := gi_f hc7 h
    refine gx_aload_0 C dX8_from_8 rfl ?_
    refine gx_iload_2 C dX8_from_9 rfl ?_
    obtain ⟨v4, e3, h⟩ := gi_cp h
    refine gc_IV C (cn_isShop (gx_l Γ) (gx_D Γ) hx a _ _ e3) (gx_cw C gx_uu lk_X8_132 (by decide) (by decide)) (cls_X8 hx).1 (gs_recv (q := 0) lt_M_Model (oc_M_Model a ι _)) rfl rfl (Nat.le_of_ble_eq_true rfl) ⟨Nat.zero_le _, Nat.zero_le _⟩ dX8_from_10 ?_
    refine gx_if_eq (tgt := 21) C dX8_from_13 (by decide) (fun hc6 => ?_) (fun hc6 => ?_)
    · have h := gi_t hc6 h
      refine gx_bipush (v := (-101)) C dX8_from_21 (by decide) ?_
      exact gx_iret C F rfl dX8_from_23 (Option.some.inj h)
    · have h := gi_f hc6 h
      refine gx_iload_1 C dX8_from_16 rfl ?_
      refine gx_iload_2 C dX8_from_17 rfl ?_
      refine gx_icmp_ne (tgt := 24) C dX8_from_18 (by decide) (fun hc5 => ?_) (fun hc5 => ?_)
      · have h := gi_f hc5 h
        refine gx_iconst0 C dX8_from_24 ?_
        refine gx_istore_3 C dX8_from_25 (by rw [hnL]; decide) trivial ?_
        refine gx_iconst0 C dX8_from_26 ?_
        refine gx_istore C dX8_from_27 (by rw [hnL]; decide) trivial ?_
        refine gx_weak (gx_le_k rfl (gx_le_k rfl (gx_le_k rfl (gx_le_k rfl (gx_le_k rfl gx_le_0))))) (gi_loop (P := fun t => gx_G Γ 0 0 29 [.ref (a 0), .int x1, .int x2, .int t.1, .int t.2.1] [] (wM a ι t.2.2)) (fun kk t hk h => ?_) 5000 _ h)
        obtain ⟨x39, x49, S'9⟩ := t
        exact bn_from_29 hx C ⟨F, hnL⟩ (k29 := kk) (fun x38 x48 S'8 h => hk (x38, x48, S'8) h) h
      · have h := gi_t hc5 h
        refine gx_bipush (v := (-101)) C dX8_from_21 (by decide) ?_
        exact gx_iret C F rfl dX8_from_23 (Option.some.inj h)
def n_areTwo_25 (S : gx_S) : Option (Int32) := some 0
set_option maxRecDepth 20000 in
set_option maxHeartbeats 1000000 in
theorem bn_areTwo_25 {Γ : gx_T} {ι : Nat → ClassId} {a : Nat → Nat} {out : Int32} {S : gx_S} (hx : gx_std vwCl (gty ι) (gx_cl Γ) (gx_ty Γ)) (C : gx_ok Γ cX8_areTwo RX8 gx_U 2) (F : gx_finI Γ ((Option.some Jvm.ClassFile.FieldType.boolean)) (wM a ι) (out, S) ∧ gx_nL Γ = 3) (h : n_areTwo_25 S = some out) : gx_G Γ 0 0 25 [.ref (a 0), .null, .null] [] (wM a ι S) := by
  obtain ⟨F, hnL⟩ := F
  unfold n_areTwo_25 at h
  refine gx_iconst0 C dX8_areTwo_25 ?_
  exact gx_iret C F (by decide) dX8_areTwo_26 (congrArg (fun z => (z, S)) (Option.some.inj h))
def n_areTwo (x1 : Int32) (x2 : Int32) (S : gx_S) : Option (Int32) := gx_cp (n_isOwner x1 S) fun v2 => if v2 = 0 then n_areTwo_25 S else gx_cp (n_isOwner x2 S) fun v4 => if v4 = 0 then n_areTwo_25 S else if x1 = x2 then n_areTwo_25 S else some 1
set_option maxRecDepth 20000 in
set_option maxHeartbeats 1000000 in
theorem cn_areTwo (l : Launch) (D : va_G) {cl : List vw_C} {tys : List (ClassId × FieldType)} {ι : Nat → ClassId} (hx : gx_std vwCl (gty ι) cl tys) (a : Nat → Nat) (x1 : Int32) (x2 : Int32) (S : gx_S) {out : Int32} (h : n_areTwo x1 x2 S = some out) : gx_mI l D cl tys yX8_areTwo (.code yX8_areTwo cX8_areTwo 3 ((Option.some Jvm.ClassFile.FieldType.boolean)) :: gx_U) (gx_rm 2) [.ref (a 0), .int x1, .int x2] (wM a ι S) (wM a ι) (out, S) := by
  unfold n_areTwo at h
  refine gx_startI (V := [.ref (a 0), .int x1, .int x2]) 0 (by decide +kernel) (Nat.le_of_ble_eq_true rfl) rfl (fun Γ hl hD hcl hty hnL C F => ?_)
  subst hl; subst hD; subst hcl; subst hty
  refine gx_aload_0 C dX8_areTwo_0 rfl ?_
  refine gx_iload_1 C dX8_areTwo_1 rfl ?_
  obtain ⟨v2, e1, h⟩ := gi_cp h
  refine gc_IV C (cn_isOwner (gx_l Γ) (gx_D Γ) hx a _ _ e1) (gx_cw C gx_uu lk_X8_104 (by decide) (by decide)) (cls_X8 hx).1 (gs_recv (q := 0) lt_M_Model (oc_M_Model a ι _)) rfl rfl (Nat.le_of_ble_eq_true rfl) ⟨Nat.zero_le _, Nat.zero_le _⟩ dX8_areTwo_2 ?_
  refine gx_if_eq (tgt := 25) C dX8_areTwo_5 (by decide) (fun hc7 => ?_) (fun hc7 => ?_)
  · have h := gi_t hc7 h
    exact gx_weak (gx_le_k rfl (gx_le_n (gx_le_n gx_le_0))) (bn_areTwo_25 hx C ⟨F, hnL⟩ h)
  · have h := gi_f hc7 h
    refine gx_aload_0 C dX8_areTwo_8 rfl ?_
    refine gx_iload_2 C dX8_areTwo_9 rfl ?_
    obtain ⟨v4, e3, h⟩ := gi_cp h
    refine gc_IV C (cn_isOwner (gx_l Γ) (gx_D Γ) hx a _ _ e3) (gx_cw C gx_uu lk_X8_104 (by decide) (by decide)) (cls_X8 hx).1 (gs_recv (q := 0) lt_M_Model (oc_M_Model a ι _)) rfl rfl (Nat.le_of_ble_eq_true rfl) ⟨Nat.zero_le _, Nat.zero_le _⟩ dX8_areTwo_10 ?_
    refine gx_if_eq (tgt := 25) C dX8_areTwo_13 (by decide) (fun hc6 => ?_) (fun hc6 => ?_)
    · have h := gi_t hc6 h
      exact gx_weak (gx_le_k rfl (gx_le_n (gx_le_n gx_le_0))) (bn_areTwo_25 hx C ⟨F, hnL⟩ h)
    · have h := gi_f hc6 h
      refine gx_iload_1 C dX8_areTwo_16 rfl ?_
      refine gx_iload_2 C dX8_areTwo_17 rfl ?_
      refine gx_icmp_eq (tgt := 25) C dX8_areTwo_18 (by decide) (fun hc5 => ?_) (fun hc5 => ?_)
      · have h := gi_t hc5 h
        exact gx_weak (gx_le_k rfl (gx_le_n (gx_le_n gx_le_0))) (bn_areTwo_25 hx C ⟨F, hnL⟩ h)
      · have h := gi_f hc5 h
        refine gx_iconst1 C dX8_areTwo_21 ?_
        refine gx_goto (tgt := 26) C dX8_areTwo_22 (by decide) ?_
        exact gx_iret C F (by decide) dX8_areTwo_26 (congrArg (fun z => (z, S)) (Option.some.inj h))
def n_fits (x1 : Int32) (x2 : Int32) (S : gx_S) : Option (Int32) := gx_cp (n_shopsOf x1 S) fun v2 => gx_cp (n_shopsOf x2 S) fun v4 => if 3 < (v2 + v4) then some 0 else some 1
set_option maxRecDepth 20000 in
set_option maxHeartbeats 1000000 in
theorem cn_fits (l : Launch) (D : va_G) {cl : List vw_C} {tys : List (ClassId × FieldType)} {ι : Nat → ClassId} (hx : gx_std vwCl (gty ι) cl tys) (a : Nat → Nat) (x1 : Int32) (x2 : Int32) (S : gx_S) {out : Int32} (h : n_fits x1 x2 S = some out) : gx_mI l D cl tys yX8_fits (.code yX8_fits cX8_fits 3 ((Option.some Jvm.ClassFile.FieldType.boolean)) :: gx_U) (gx_rm 1) [.ref (a 0), .int x1, .int x2] (wM a ι S) (wM a ι) (out, S) := by
  unfold n_fits at h
  refine gx_startI (V := [.ref (a 0), .int x1, .int x2]) 0 (by decide +kernel) (Nat.le_of_ble_eq_true rfl) rfl (fun Γ hl hD hcl hty hnL C F => ?_)
  subst hl; subst hD; subst hcl; subst hty
  refine gx_aload_0 C dX8_fits_0 rfl ?_
  refine gx_iload_1 C dX8_fits_1 rfl ?_
  obtain ⟨v2, e1, h⟩ := gi_cp h
  refine gc_IV C (cn_shopsOf (gx_l Γ) (gx_D Γ) hx a _ _ e1) (gx_cw C gx_uu lk_X8_108 (by decide) (by decide)) (cls_X8 hx).1 (gs_recv (q := 0) lt_M_Model (oc_M_Model a ι _)) rfl rfl (Nat.le_of_ble_eq_true rfl) ⟨Nat.zero_le _, Nat.zero_le _⟩ dX8_fits_2 ?_
  refine gx_aload_0 C dX8_fits_5 rfl ?_
  refine gx_iload_2 C dX8_fits_6 rfl ?_
  obtain ⟨v4, e3, h⟩ := gi_cp h
  refine gc_IV C (cn_shopsOf (gx_l Γ) (gx_D Γ) hx a _ _ e3) (gx_cw C gx_uu lk_X8_108 (by decide) (by decide)) (cls_X8 hx).1 (gs_recv (q := 0) lt_M_Model (oc_M_Model a ι _)) rfl rfl (Nat.le_of_ble_eq_true rfl) ⟨Nat.zero_le _, Nat.zero_le _⟩ dX8_fits_7 ?_
  refine gx_iadd C dX8_fits_10 ?_
  refine gx_iconst3 C dX8_fits_11 ?_
  refine gx_icmp_gt (tgt := 19) C dX8_fits_12 (by decide) (fun hc5 => ?_) (fun hc5 => ?_)
  · have h := gi_t hc5 h
    refine gx_iconst0 C dX8_fits_19 ?_
    exact gx_iret C F (by decide) dX8_fits_20 (congrArg (fun z => (z, S)) (Option.some.inj h))
  · have h := gi_f hc5 h
    refine gx_iconst1 C dX8_fits_15 ?_
    refine gx_goto (tgt := 20) C dX8_fits_16 (by decide) ?_
    exact gx_iret C F (by decide) dX8_fits_20 (congrArg (fun z => (z, S)) (Option.some.inj h))

theorem gx_um {w : Cond} (h : w ∈ gx_U) : w ∈ lw_tbl := (List.mem_filter.mp h).1
theorem whole_start {p : Program} {e : Env} {s : State} {m : MethodId} {below : List Frame} {meth : Method} {c : Code} (l : Launch) (hflags : l.flags = flags0) {b L : Nat} {xs : Nat → Int32} (hL : L ≤ 3584) (C0 : lw_At p s m meth c b L xs) : W p l e room_1 s m #[Value.ref b] below meth c s.heap [] 0 0 (lw_Z below #[Value.ref b] s) (entryFrame m ([Value.ref b] : List Value).toArray 4) := by
  obtain ⟨hx0, hb0, hr, hml, hown, hts, hX, hbl, hlocks, hgv⟩ := id C0
  have hU : ∀ w ∈ gx_U, w.before #[Value.ref b] s = true := fun w h => hts w (gx_um h)
  obtain ⟨c0, hc0⟩ := gx_rc (t := .int) (hts _ ((gx_t_1 (List.mem_of_getElem? (i := 108) rfl)))) (fun _ q => by cases q)
  obtain ⟨c1, hc1⟩ := gx_rc (t := .boolean) (hts _ ((gx_t_1 (List.mem_of_getElem? (i := 136) rfl)))) (fun _ q => by cases q)
  obtain ⟨c2, hc2⟩ := gx_rc (t := .char) (hts _ ((gx_t_1 (List.mem_of_getElem? (i := 227) rfl)))) (fun _ q => by cases q)
  obtain ⟨c3, hc3⟩ := gx_rc (t := .byte) (hts _ ((gx_t_4 (List.mem_of_getElem? (i := 216) rfl)))) (fun _ q => by cases q)
  obtain ⟨c4, hc4⟩ := gx_rcA (t := .int) (hts _ ((gx_t_1 (List.mem_of_getElem? (i := 27) rfl))))
  obtain ⟨c5, hc5⟩ := gx_rcO (C := "ShopsAsOne$Text") (hts _ ((gx_t_1 (List.mem_of_getElem? (i := 228) rfl))))
  obtain ⟨ι, hι⟩ : ∃ ι : Nat → ClassId, ι = fun k => ([c0, c1, c2, c3, c4, c5] : List ClassId).getD k c0 := ⟨_, rfl⟩
  obtain ⟨k0, iS0, hKn0⟩ := u_known (C := RX0) (T := TX0) (N := 13) (n := 13) hU iu_X0 (hts _ ((gx_t_1 (List.mem_of_getElem? (i := 138) rfl))))
  obtain ⟨k1, iS1, hKn1⟩ := u_known (C := RX1) (T := TX1) (N := 3) (n := 3) hU iu_X1 (hts _ ((gx_t_1 (List.mem_of_getElem? (i := 230) rfl))))
  obtain ⟨k2, iS2, hKn2⟩ := u_known (C := RX2) (T := TX2) (N := 5) (n := 5) hU iu_X2 (hts _ ((gx_t_1 (List.mem_of_getElem? (i := 187) rfl))))
  obtain ⟨k3, iS3, hKn3⟩ := u_known (C := RX3) (T := TX3) (N := 10) (n := 10) hU iu_X3 (hts _ ((gx_t_2 (List.mem_of_getElem? (i := 6) rfl))))
  obtain ⟨k4, iS4, hKn4⟩ := u_known (C := RX4) (T := TX4) (N := 4) (n := 4) hU iu_X4 (hts _ ((gx_t_1 (List.mem_of_getElem? (i := 110) rfl))))
  obtain ⟨k5, iS5, hKn5⟩ := u_known (C := RX5) (T := TX5) (N := 14) (n := 14) hU iu_X5 (hts _ ((gx_t_1 (List.mem_of_getElem? (i := 21) rfl))))
  obtain ⟨k6, iS6, hKn6⟩ := u_known (C := RX6) (T := TX6) (N := 2) (n := 2) hU iu_X6 (hts _ ((gx_t_1 (List.mem_of_getElem? (i := 211) rfl))))
  obtain ⟨k7, iS7, hKn7⟩ := u_known (C := RX7) (T := TX7) (N := 15) (n := 15) hU iu_X7 (hts _ ((gx_t_1 (List.mem_of_getElem? (i := 13) rfl))))
  obtain ⟨k8, iS8, hKn8⟩ := u_known (C := RX8) (T := TX8) (N := 42) (n := 42) hU iu_X8 (hts _ ((gx_t_4 (List.mem_of_getElem? (i := 84) rfl))))
  obtain ⟨D, hD0⟩ : ∃ D : va_G, D = (fun k => ([k0, k1, k2, k3, k4, k5, k6, k7, k8] : List ClassId).getD k k0, fun k => ([iS0, iS1, iS2, iS3, iS4, iS5, iS6, iS7, iS8] : List (Nat → Nat)).getD k iS0) := ⟨_, rfl⟩
  have hK : va_K D vwCl (gty ι) s := by
    subst hD0
    subst hι
    refine ⟨fun k q hq => ?_, fun k q hq => ?_⟩
    · match k, hq with
      | 0, hq => cases hq; exact hKn0
      | 1, hq => cases hq; exact hKn1
      | 2, hq => cases hq; exact hKn2
      | 3, hq => cases hq; exact hKn3
      | 4, hq => cases hq; exact hKn4
      | 5, hq => cases hq; exact hKn5
      | 6, hq => cases hq; exact hKn6
      | 7, hq => cases hq; exact hKn7
      | 8, hq => cases hq; exact hKn8
      | k + 9, hq => simp [vwCl] at hq
    · match k, hq with
      | 0, hq => cases hq; exact hc0
      | 1, hq => cases hq; exact hc1
      | 2, hq => cases hq; exact hc2
      | 3, hq => cases hq; exact hc3
      | 4, hq => cases hq; exact hc4
      | 5, hq => cases hq; exact hc5
      | k + 6, hq => simp [gty] at hq
  obtain ⟨Γ, hΓ⟩ : ∃ Γ : gx_T, Γ = ((p, l, e, room_1, s, m, #[Value.ref b], below, meth, c), (D, vwCl, gty ι), (fun q => s.heap.size ≤ q), s.heap, lw_Z below #[Value.ref b] s, 4) := ⟨_, rfl⟩
  have C : gx_ok Γ code RL gx_U 40 := by
    subst hΓ
    exact ⟨hx0, hb0, hml, hown, hU, hK, fun q h => h, hlocks, Nat.le_of_ble_eq_true rfl, Nat.le_of_ble_eq_true rfl⟩
  have M : gx_mkr Γ 600000 7302250 := by
    subst hΓ
    exact ⟨rfl, rfl, va_AO.of (hts _ ((gx_t_1 (List.mem_of_getElem? (i := 228) rfl)))), (hts _ ((gx_t_1 (List.mem_of_getElem? (i := 27) rfl)))), va_Nw.of (A := #[Value.ref b]) rfl (hts _ ((gx_t_1 (List.mem_of_getElem? (i := 22) rfl)))), va_Nw.of (A := #[Value.ref b]) rfl (hts _ ((gx_t_1 (List.mem_of_getElem? (i := 212) rfl)))), va_Nw.of (A := #[Value.ref b]) rfl (hts _ ((gx_t_1 (List.mem_of_getElem? (i := 231) rfl))))⟩
  have F : gl_fin Γ b ∧ gx_nL Γ = 4 := by
    subst hΓ
    exact ⟨⟨rfl, rfl, rfl, rfl, rfl, hr⟩, rfl⟩
  have X : gx_scr Γ b L xs := by
    subst hΓ
    exact ⟨hX, hbl, Nat.not_le.mpr hbl⟩
  have hx : gx_std vwCl (gty ι) (gx_cl Γ) (gx_ty Γ) := by
    subst hΓ
    exact ⟨rfl, rfl⟩
  have hnL : gx_nL Γ = 4 := F.2
  have G : gx_G Γ 0 0 0 [.ref b, .null, .null, .null] [] (([] : va_W) ++ ([] : va_W)) := by
    refine gn_newP (k := 0) (n := 0) (P := []) (rest := ([] : va_W)) C M iu_X7 (cls_X7 hx) (gx_mu (gx_t_1 (List.mem_of_getElem? (i := 12) rfl)) rfl) (gx_mu (gx_t_1 (List.mem_of_getElem? (i := 13) rfl)) rfl) vi_X7 df_X7 (by decide) (by decide) dL_law_0 (fun q1 w1 h1 => ?_)
    refine gx_dup C dL_law_3 rfl ?_
    refine gn_ctorP (P := []) (rest := ([] : va_W)) (na := 0) C M (k_ShopsAsOne (gx_l Γ) (gx_D Γ) hx q1) gx_uu (gx_mu (gx_t_1 (List.mem_of_getElem? (i := 14) rfl)) rfl) vn_X7_init vi_X7 vc_X7_init rfl ⟨by decide +kernel, by decide +kernel, by decide +kernel⟩ (by decide) (by decide) rfl rfl (Nat.le_of_ble_eq_true rfl) (by decide) (by decide) dL_law_4 h1 (k2 := 82) (n2 := 869) rfl rfl (fun za w2 hz h2 => ?_)
    clear h1
    subst hz
    refine gx_astore_1 C dL_law_7 (by rw [hnL]; decide) trivial ?_
    refine gn_newP (k := 82) (n := 869) (P := []) (rest := w2) C M iu_X8 (cls_X8 hx) (gx_mu (gx_t_4 (List.mem_of_getElem? (i := 83) rfl)) rfl) (gx_mu (gx_t_4 (List.mem_of_getElem? (i := 84) rfl)) rfl) vi_X8 df_X8 (by decide) (by decide) dL_law_8 (fun q3 w3 h3 => ?_)
    refine gx_dup C dL_law_11 rfl ?_
    refine gn_ctorP (P := []) (rest := w2) (na := 0) C M (k_ShopsAsOneModel (gx_l Γ) (gx_D Γ) hx q3) gx_uu (gx_mu (gx_t_4 (List.mem_of_getElem? (i := 85) rfl)) rfl) vn_X8_init vi_X8 vc_X8_init rfl ⟨by decide +kernel, by decide +kernel, by decide +kernel⟩ (by decide) (by decide) rfl rfl (Nat.le_of_ble_eq_true rfl) (by decide) (by decide) dL_law_12 h3 (k2 := 108) (n2 := 1478) rfl rfl (fun zb w4 hz h4 => ?_)
    clear h3
    subst hz
    refine gx_astore_2 C dL_law_15 (by rw [hnL]; decide) trivial ?_
    subst h4
    subst h2
    refine gx_perm (ws' := wX za ι (fun _ _ => 0) ++ wM zb ι nT0) (by simpa using List.perm_append_comm) ?_
    exact bl hx C F X (law_pure L xs hL)
  have hl := lv_entry ([.ref b]) (n := 4) (Nat.le_of_ble_eq_true rfl)
  rw [lg_entry_eq]
  subst hΓ
  exact G s.heap [] _ (fun k q h => by simp at h) ⟨fun i j p q h => by simp at h, fun k q h => by simp at h⟩ va_S.rf (gx_L_pad hl 3)
-- ===== YOUR PART ENDS =====
set_option maxHeartbeats 4000000 in
theorem lw_walk (l : Launch) (hflags : l.flags = flags0) (b : Addr) (xs : List Int32) : MetFree l x (headSpec (Jvm.Cond.code x code maxLocals ret :: tables_1) room_1) (lw_P b xs) (fun _ _ _ _ _ => True) lw_Q := by
  refine MetFree.of_bodyS (code := code) (maxLocals := maxLocals) (ret := ret) (by decide) ?_ ?_
  · intro args s m h hn
    obtain ⟨meth, c, h1, h2, h3, h4, h5, h6, -, -⟩ := Cond.code_spec hn (atoms_spec (ws := Jvm.Cond.code x code maxLocals ret :: tables_1) h _ List.mem_cons_self)
    exact ⟨meth, c, h1, h2, h3, h4, h5, h6⟩
  · intro p e s m args below meth c s₁ B hml0 hP _
    obtain ⟨rfl, hx, hbd, hgv⟩ := hP
    obtain ⟨scr, harrAt, hlist, hof, hsmall⟩ := hx
    obtain ⟨hcb, hkn, -, -⟩ := State.arrayAt?_spec harrAt
    have hown : s.vm.findClass R_law = some m.cls := findClass_of_methodNamed B.named
    have hts0 : ∀ c ∈ (Jvm.Cond.code x code maxLocals ret :: tables_1), c.before #[Value.ref b] s = true := atoms_spec (ws := Jvm.Cond.code x code maxLocals ret :: tables_1) B.pre
    have hts : ∀ w ∈ lw_tbl, w.before #[Value.ref b] s = true := k2_hts_sels lw_privs (fun w hw => hts0 w (List.mem_cons_of_mem _ hw)) lw_privs_ok
    have hml : c.maxLocals = 4 := B.maxLocals_eq (hts0 _ List.mem_cons_self)
    have X₀ : Stand p l e room_1 s m #[Value.ref b] below meth c s₁ [] 0 0 := Stand.of_body B
    have hh0 : s₁.heap = s.heap := by rw [B.state]; rfl
    have hsz : scr.slots.size = xs.length := by rw [← Array.length_toList, hlist, List.length_map]
    have hval : ∀ j : Nat, j < xs.length → scr.slots[j]? = some (.int (xs.getD j 0)) := fun j hj => by
      rw [← Array.getElem?_toList, hlist]
      simp [hj]
    have hbl : b < s.heap.size := (Array.getElem?_eq_some_iff.mp hcb).1
    have hX : va_X b xs.length (fun j => xs.getD j 0) s s.heap := ⟨scr, hcb, hof, hkn, hsz, hval⟩
    have K : W p l e room_1 s m #[Value.ref b] below meth c s₁.heap [] 0 0 (lw_Z below #[Value.ref b] s) (entryFrame m ([Value.ref b] : List Value).toArray 4) := by
      rw [hh0]
      exact whole_start l hflags hbd ⟨B.exec, B.bytes, B.returns, hml, hown, hts, hX, hbl, B.notSynchronized, hgv⟩
    obtain ⟨t, a1, o, b1, b2, b3⟩ := K s₁ rfl X₀
    exact ⟨t, o, a1, b1, b2, b3⟩
theorem lw_pre_spec {args : Array Value} {s : State} (h : (Jvm.Cond.and given_1 narrow_1).before args s = true) (hr : rest_1_c.before args s = true) : ∃ (b : Addr) (xs : List Int32), lw_P b xs args s := by
  have hs := flat_of_before _ h
  have hq := flat_of_before _ hr
  have hc : (Cond.count 1).before args s = true := hs _ (by decide +kernel)
  have harr : (Cond.arrayOf (.arg 0) .int).before args s = true := hs _ (by decide +kernel)
  have hle : (Cond.le (.length (.arg 0)) (.int 3584)).before args s = true := hs _ (by decide +kernel)
  have hlen : (Cond.isInt (.length (.arg 0))).before args s = true := hq _ (by decide +kernel)
  have hall : (Cond.all (.arg 0) (.isInt (.elem (.arg 0) (.index 0)))).before args s = true := hq _ (by decide +kernel)
  obtain ⟨b, xs, hb, hx⟩ := State.ints_of_pre rfl harr hlen hall
  have hsm : xs.length < 2 ^ 31 := hx.choose_spec.2.2.2
  have hev : (Term.length (.arg 0)).eval args s none [] s = some (.int xs.length.toInt32) := hx.length_eval hb
  have hv := Cond.le_ints hev (show (Term.int 3584).eval args s none [] s = some (.int 3584) from rfl)
  have hd : xs.length.toInt32 ≤ 3584 := by
    simpa [Cond.before, Cond.holds, hv] using hle
  have hN : xs.length ≤ 3584 := (Int32.ofNat_le_ofNat hsm (by decide)).mp (show Int32.ofNat xs.length ≤ Int32.ofNat 3584 from hd)
  exact ⟨b, xs, Cond.one_arg hc (show args[0]? = some (.ref b) from hb), hx, hN, h⟩
theorem lw_comes (l : Launch) (hflags : l.flags = flags0) : Comes l x (Jvm.Cond.code x code maxLocals ret :: tables_1) room_1 (fun tb e args s => Calls_1 tb e args s ∧ rest_1 tb e args s ∧ Pre_1 tb e args s)
    (fun _ _ args s o t => lw_Q args s o t) := by
  intro p e ha hc hk s m args below hf hfit hheap happ hpre
  obtain ⟨b, xs, hP⟩ := lw_pre_spec hpre.2.2 hpre.2.1
  obtain ⟨k, o, h1, h2, h3, hQ⟩ := lw_walk l hflags b xs p e ha hc hk s m args below hf ((Spec.applies_iff_loose hf).mp happ).1 hP trivial
  exact ⟨k, o, h1, h2, h3, hQ⟩
theorem lw_frame {s t : State} {o : Outcome} {args : Array Value} (h : Framed s o t [] 600000 7302250) :
    Framed s o t (fieldLocs frame_1_writes args s ++ arrayLocs frame_1_arrays args s ++ staticLocs frame_1_statics s) 600000 7302250 := h
theorem lw_limb (L : Cond) (hL : ∀ (args : Array Value) (s t : State), L.after args s (.returned (some (.int 1))) t = true) :
    ArmFor flags0 classFile x code maxLocals ret World_1 tables_1 room_1 Calls_1 rest_1 Pre_1
      (fun tb e a s o t => postC L tb e a s o t ∧ Framed s o t (fieldLocs frame_1_writes a s ++ arrayLocs frame_1_arrays a s ++ staticLocs frame_1_statics s) 600000 7302250) := by
  intro l hflags _ _ p e ha hc hk s m args below hf hfit hheap happ hpre
  obtain ⟨k, o, h1, h2, h3, rfl, hF⟩ := lw_comes l hflags p e ha hc hk s m args below hf hfit hheap happ hpre
  exact ⟨k, _, h1, h2, h3, hL args s _, lw_frame hF⟩
theorem i_vc : Claimed_1_1 ∧ Claimed_1_2 := ⟨lw_limb limb_1_1 (fun args s t => by simp [limb_1_1, Cond.after, Cond.holds, Cond.value]), lw_limb limb_1_2 (fun args s t => Cond.after_iff.mpr (by
  first | (rw [show limb_1_2 = Cond.eq .result (.int 1) from rfl, Cond.eq_ints (x := 1) (y := 1) rfl rfl]; simp; done) | (simp [limb_1_2, Cond.value, Term.eval]; done)))⟩


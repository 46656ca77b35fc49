/-! the law's own methods: rows over any list of cells, calls that make cells, the script -/
def gy_sc (Γ : gx_T) (sc : Option (Nat × Nat × (Nat → Int32))) : Prop := match sc with
  | none => True
  | some q => gx_scr Γ q.1 q.2.1 q.2.2
/-- the script beside a world: none, or a row of ints that no cell of the world is -/
def gy_X (sc : Option (Nat × Nat × (Nat → Int32))) (w0 : va_W) (U : State) : Prop := match sc with
  | none => True
  | some q => va_X q.1 q.2.1 q.2.2 U U.heap ∧ q.1 < U.heap.size ∧ ∀ (k : Nat) (z : Nat × va_E), w0[k]? = some z → z.1 ≠ q.1
abbrev gy_Pre (D : va_G) (cl : List vw_C) (tys : List (ClassId × FieldType)) (av : List Value) (w0 : va_W) (sc : Option (Nat × Nat × (Nat → Int32))) (sz : Nat) : Array Value → State → Prop := va_Pc av (fun U => U.heap.size = sz ∧ va_P D cl w0 U.heap ∧ va_K D cl tys U ∧ va_D (fun _ => True) w0 ∧ gy_X sc w0 U)
abbrev gy_B {Z : Type} (D : va_G) (cl : List vw_C) (tys : List (ClassId × FieldType)) (w0 : va_W) (W1 : Z → va_W) (sz : Nat) : Z → State → Prop := fun S' t => va_P D cl (W1 S') t.heap ∧ va_K D cl tys t ∧ va_D (va_A w0 sz) (W1 S')
/-- a contract: a world w0 and perhaps the script; at most mc cells of ms slots are made; what is left is the world of what it answers -/
def gy_m {Z : Type} (l : Launch) (D : va_G) (cl : List vw_C) (tys : List (ClassId × FieldType)) (y : MethodName) (ws : List Cond) (rm : Room) (av : List Value) (w0 : va_W) (W1 : Z → va_W) (sc : Option (Nat × Nat × (Nat → Int32))) (o : Int32 × Z) (mc ms : Nat) : Prop := ∀ sz : Nat, Met l y ws rm (gy_Pre D cl tys av w0 sc sz) (va_Qi (fun r S' => (r, S') = o) (gy_B D cl tys w0 W1 sz) (va_A w0 sz)) mc ms (va_A w0 sz)
theorem gy_X_moved {sc : Option (Nat × Nat × (Nat → Int32))} {w0 : va_W} {u U : State} (hh : U.heap = u.heap) (hvm : u.vm.Alike U.vm) (h : gy_X sc w0 u) : gy_X sc w0 U := by
  cases sc with
  | none => trivial
  | some q =>
    obtain ⟨h1, h2, h3⟩ := h
    exact ⟨by rw [hh]; exact h1.moved hvm, by rw [hh]; exact h2, h3⟩
theorem gy_blind {D : va_G} {cl : List vw_C} {tys : List (ClassId × FieldType)} {av : List Value} {w0 : va_W} {sc : Option (Nat × Nat × (Nat → Int32))} {sz : Nat} : FrameBlind (gy_Pre D cl tys av w0 sc sz) := fun a U g mk q => by
  obtain ⟨q0, q1, qP, qK, qD, qX⟩ := q
  exact ⟨q0, q1, qP, va_K.moved (u := U) (U := U.calling g mk a) (Vm.Alike.refl U.vm) qK, qD, gy_X_moved (u := U) (U := U.calling g mk a) rfl (Vm.Alike.refl U.vm) qX⟩
def gy_fin {Z : Type} (Γ : gx_T) (ret : Option FieldType) (W1 : Z → va_W) (o : Int32 × Z) (mc ms : Nat) : Prop := (gx_R Γ).cells = mc ∧ (gx_R Γ).slots = ms ∧ ∃ w0 : va_W, gx_A Γ = va_A w0 (gx_s Γ).heap.size ∧ gx_H0 Γ = (gx_s Γ).heap ∧ (gx_meth Γ).sig.returnType = ret ∧ gx_Q Γ = MQ (gx_below Γ) (va_Qi (fun r S' => (r, S') = o) (gy_B (gx_D Γ) (gx_cl Γ) (gx_ty Γ) w0 W1 (gx_s Γ).heap.size) (va_A w0 (gx_s Γ).heap.size)) (gx_args Γ) (gx_s Γ) mc ms (va_A w0 (gx_s Γ).heap.size)
theorem gy_start {Z : Type} {l : Launch} {D : va_G} {cl : List vw_C} {tys : List (ClassId × FieldType)} {y : MethodName} {b : ByteArray} {maxL : Nat} {ret : Option FieldType} {Us : List Cond} {d mc ms : Nat} {av V : List Value} {w0 : va_W} {W1 : Z → va_W} {sc : Option (Nat × Nat × (Nat → Int32))} {o : Int32 × Z} (kn : Nat) (hy : plainName y.cls = true) (hlen : (lg_sl av).length ≤ maxL) (hV : gx_V av ++ List.replicate kn .null = V) (body : ∀ Γ : gx_T, gx_l Γ = l → gx_D Γ = D → gx_cl Γ = cl → gx_ty Γ = tys → gx_nL Γ = maxL → gx_ok Γ b y.cls Us d → gy_fin Γ ret W1 o mc ms → gy_sc Γ sc → gx_G Γ 0 0 0 V [] w0) : gy_m l D cl tys y (.code y b maxL ret :: Us) (gx_rmc d mc ms) av w0 W1 sc o mc ms := by
  intro sz
  refine Met.ofW (cc := b) (maxL := maxL) (ret := ret) hy rfl ?_
  intro p e s m args below meth c s₁ B hml hv
  obtain ⟨rfl, hsz, hP, hK, hD0, hX⟩ := hv
  subst hsz
  subst hV
  have hts := atoms_spec (ws := .code y b maxL ret :: Us) B.pre
  have hl := lv_entry av (n := maxL) hlen
  rw [lg_entry_eq]
  refine body ((p, l, e, (headSpec (.code y b maxL ret :: Us) (gx_rmc d mc ms)).room, s, m, av.toArray, below, meth, c), (D, cl, tys), va_A w0 s.heap.size, s.heap, MQ below (va_Qi (fun r S' => (r, S') = o) (gy_B D cl tys w0 W1 s.heap.size) (va_A w0 s.heap.size)) av.toArray s mc ms (va_A w0 s.heap.size), maxL) rfl rfl rfl rfl rfl
    ⟨B.exec, B.bytes, hml, findClass_of_methodNamed B.named, fun w hw => hts w (List.mem_cons_of_mem _ hw), hK, fun q h => Or.inr h, B.notSynchronized, Nat.le_refl _, Nat.le_refl _⟩ ⟨rfl, rfl, w0, rfl, rfl, B.returns, rfl⟩ ?_ s.heap [] _ hP hD0.self va_S.rf (gx_L_pad hl kn)
  cases sc with
  | none => trivial
  | some q =>
    obtain ⟨h1, h2, h3⟩ := hX
    refine ⟨h1, h2, ?_⟩
    rintro (⟨k, e, h⟩ | h)
    · exact h3 k _ h rfl
    · exact absurd h2 (Nat.not_lt.mpr h)
theorem gy_iret {Z : Type} {Γ : gx_T} {cc : ByteArray} {own : String} {Ts : List Cond} {d k n pc mc ms : Nat} {V : List Value} {W1 : Z → va_W} {o : Int32 × Z} {v : Int32} {ty : FieldType} (z : Z) (C : gx_ok Γ cc own Ts d) (F : gy_fin Γ (some ty) W1 o mc ms) (hn : narrow ty (.int v) = .int v) (hk : k ≤ mc) (hs : n ≤ ms) (hd : decode cc pc = .ok (.ireturn, 1)) (e : (v, z) = o) : gx_G Γ k n pc V [.int v] (W1 z) := by
  obtain ⟨-, -, w0, hA, hH, hr, hQ⟩ := F
  intro H locs ls hP hD hS hl
  rw [hA] at hD hS
  rw [hH] at hS
  unfold gx_W
  rw [hQ]
  refine W.widen hk hs ?_
  exact W.zret C.1 C.2.1 hr hn (fun t ht hW => ⟨⟨v, z, rfl, e, by rw [ht]; exact hP, va_K.moved hW.alike C.2.2.2.2.2.1, hD⟩, hS.F ht⟩) hS.2.2 hd C.2.2.2.2.2.2.2.1
theorem gy_drop {Γ : gx_T} {k n pc : Nat} {V st : List Value} {ws w2 : va_W} (kk : gx_G Γ k n pc V st ws) : gx_G Γ k n pc V st (ws ++ w2) := fun H locs ls hP hD hS hl => by
  obtain ⟨a, b⟩ := gx_left hP hD
  exact kk H locs ls a b hS hl
section GY
variable {Γ : gx_T} {cc : ByteArray} {own : String} {Ts : List Cond} {d k n pc : Nat} {V st rest st0 : List Value} {ws w w2 ws1 : va_W} {y : MethodName} {As : List Value} {ix maxL na d' : Nat} {bytes : ByteArray} {ret : Option FieldType} {Us : List Cond}
theorem gy_iald (C : gx_ok Γ cc own Ts d) {b N t0 : Nat} {c0 : ClassId} {f : Nat → Int32} {i : Int32} (hm : (b, .inl (c0, N, .inl f)) ∈ ws) (ht : (gx_ty Γ)[t0]? = some (c0, .int)) (hin : vp_in i N) (hd : decode cc pc = .ok (.iaload, 1)) (kk : gx_G Γ k n (pc + 1) V (.int (f i.toNatClampNeg) :: st) ws) : gx_G Γ k n pc V (.int i :: .ref b :: st) ws := fun H locs ls hP hD hS hl => by
  obtain ⟨q0, hq⟩ := List.getElem?_of_mem hm
  exact va_iald C.1 C.2.1 C.2.2.2.2.2.1 hP q0 t0 hq ht hin hd (kk H locs ls hP hD hS hl)
theorem gy_iast (C : gx_ok Γ cc own Ts d) {b N t0 : Nat} {c0 : ClassId} {f : Nat → Int32} {i x : Int32} (hp : ws.Perm ((b, .inl (c0, N, .inl f)) :: w)) (ht : (gx_ty Γ)[t0]? = some (c0, .int)) (hin : vp_in i N) (hd : decode cc pc = .ok (.iastore, 1)) (hp1 : ((b, .inl (c0, N, .inl (upd f i.toNatClampNeg x))) :: w).Perm ws1) (kk : gx_G Γ k n (pc + 1) V st ws1) : gx_G Γ k n pc V (.int x :: .int i :: .ref b :: st) ws :=
  gx_perm hp (fun H locs ls hP hD hS hl => va_iast C.1 C.2.1 C.2.2.2.2.2.1 hP hD hS 0 t0 (by rfl) ht hin hd (fun H1 locs1 hP hD hS => (gx_perm hp1 kk) H1 locs1 ls hP hD hS hl))
theorem gy_newa (C : gx_ok Γ cc own Ts d) {N t0 : Nat} {c0 : ClassId} {z : Int32} (harr : Cond.arrayClass .int ∈ Ts) (ht : (gx_ty Γ)[t0]? = some (c0, .int)) (hz : ¬ z < 0) (hN : z.toNatClampNeg = N) (hbytes : N * componentBytes .int ≤ 536870912) (hc : k + 1 ≤ (gx_R Γ).cells) (hs : n + N ≤ (gx_R Γ).slots) (hd : decode cc pc = .ok (.newarray .int, 2)) (kk : ∀ q : Nat, gx_G Γ (k + 1) (n + N) (pc + 2) V (.ref q :: st) (ws ++ [(q, .inl (c0, N, .inl fun _ => 0))])) : gx_G Γ k n pc V (.int z :: st) ws := fun H locs ls hP hD hS hl =>
  va_newa (atype := .int) (ty := .int) C.1 C.2.1 (C.2.2.2.2.1 _ harr) rfl C.2.2.2.2.2.1 hP hD hS C.2.2.2.2.2.2.1 (fun cA => rfl) hz hN hbytes hc hs hd (fun q cA H1 hK hP hD hS => by
    have e := gx_K_one hK ht
    subst e
    exact kk q H1 locs ls hP hD hS hl)
theorem gy_cwS {mc ms : Nat} (C0 : gx_ok Γ cc own Ts d) (hs : gx_sub Us Ts) (lk : gx_lkS Ts own ix y bytes maxL ret na) (hd : d' < d) (hm : maxL ≤ 21) : CallB (gx_R Γ) (gx_s Γ) (gx_args Γ) own ix y bytes maxL ret (.code y bytes maxL ret :: Us) (gx_rmc d' mc ms) mc ms na ∧ (Cond.static y).before (gx_args Γ) (gx_s Γ) = true := by
  obtain ⟨h1, h2, h4, h5, h7, h8, h9⟩ := lk
  have ht := C0.2.2.2.2.1
  refine ⟨callB_of na ht (gx_good hs h5 rfl) rfl rfl rfl (ht _ h4) (ht _ h1) ⟨h7, h8, h9⟩ ⟨?_, ?_⟩, ht _ h2⟩
  · have := C0.2.2.2.2.2.2.2.2.1
    simp only [gx_rmc]; omega
  · have := C0.2.2.2.2.2.2.2.2.2
    simp only [gx_rmc]; omega
theorem gy_sc_X {sc : Option (Nat × Nat × (Nat → Int32))} {H : Heap} {locs : List Loc} {U : State} (h : gy_sc Γ sc) (hS : va_S (gx_A Γ) (gx_H0 Γ) H locs) (hD : va_D (gx_A Γ) w) (hU : U.heap = H) (hW : (gx_s Γ).vm.Alike U.vm) : gy_X sc w U := by
  cases sc with
  | none => trivial
  | some q =>
    obtain ⟨h1, h2, h3⟩ := h
    refine ⟨?_, ?_, fun k z hz e => h3 (e ▸ hD.2 k z hz)⟩
    · rw [hU]
      exact (h1.kept (hS.2.1 _ h2 h3)).moved hW
    · rw [hU]
      exact Nat.lt_of_lt_of_le h2 hS.1
/-- a call of a static method that may make cells -/
theorem gy_callS {Z : Type} {W1 : Z → va_W} {sc : Option (Nat × Nat × (Nat → Int32))} {mc ms : Nat} {r1 : Int32} {S1 : Z} (C0 : gx_ok Γ cc own Ts d) (hM : gy_m (gx_l Γ) (gx_D Γ) (gx_cl Γ) (gx_ty Γ) y (.code y bytes maxL ret :: Us) (gx_rmc d' mc ms) As w W1 sc (r1, S1) mc ms) (hsc : gy_sc Γ sc) (hs : gx_sub Us Ts) (lk : gx_lkS Ts own ix y bytes maxL ret na) (hdd : d' < d) (hm : maxL ≤ 21) (hn : As.length = na) (hst : st0 = As.reverse ++ rest) (hW : (rest.map fun v => v.category).sum ≤ 8) (hb : k + mc ≤ (gx_R Γ).cells ∧ n + ms ≤ (gx_R Γ).slots) (hd : decode cc pc = .ok (.invokestatic ix, 3)) (hp : ws.Perm (w ++ w2)) (hp1 : (W1 S1 ++ w2).Perm ws1) (kk : gx_G Γ (k + mc) (n + ms) (pc + 3) V (.int r1 :: rest) ws1) : gx_G Γ k n pc V st0 ws := by
  refine gx_perm hp ?_
  have kk := gx_perm hp1 kk
  clear hp1 hp
  intro H locs ls hP hD hS hl
  obtain ⟨hPa, hDa⟩ := gx_left hP hD
  have hF := gx_own hDa hS C0.2.2.2.2.2.2.1
  refine va_calli (va_runS (As := As) (rest := rest) ⟨C0.1, C0.2.1, C0.2.2.1, C0.2.2.2.1, C0.2.2.2.2.1⟩ (hM H.size) (gy_cwS C0 hs lk hdd hm) ⟨gy_blind, fun U hU hW => ⟨rfl, by rw [hU], by rw [hU]; exact hPa, va_K.moved hW.alike C0.2.2.2.2.2.1, hDa.weaken (fun _ _ _ _ => trivial), gy_sc_X hsc hS hDa hU hW.alike⟩⟩ rfl hn (gx_L_size hl) hst (lv_room hW) hd ⟨hb.1, hb.2⟩) hS (fun q _ z => hF q z) hF (fun r u t H1 locs1 ht hvm hw hB hz1 hk1 hS1 => ?_)
  obtain ⟨hP1, hK1, hD1⟩ := hB
  rw [ht] at hP1
  cases hw
  obtain ⟨hP2, hD2⟩ := gx_fr hP hD hk1 hF hP1 hD1
  exact kk H1 locs1 ls hP2 hD2 hS1 hl
theorem gy_IS {W1 : gx_S → va_W} {rm : Room} {wss : List Cond} {r1 : Int32} {S1 : gx_S} (C0 : gx_ok Γ cc own Ts d) (hM : gx_mI (gx_l Γ) (gx_D Γ) (gx_cl Γ) (gx_ty Γ) y wss rm As w W1 (r1, S1)) (cw : CallB (gx_R Γ) (gx_s Γ) (gx_args Γ) own ix y bytes maxL ret wss rm 0 0 na ∧ (Cond.static y).before (gx_args Γ) (gx_s Γ) = true) (hn : As.length = na) (hst : st0 = As.reverse ++ rest) (hW : (rest.map fun v => v.category).sum ≤ 8) (hb : k ≤ (gx_R Γ).cells ∧ n ≤ (gx_R Γ).slots) (hd : decode cc pc = .ok (.invokestatic ix, 3)) (hp : ws.Perm (w ++ w2)) (hp1 : (W1 S1 ++ w2).Perm ws1) (kk : gx_G Γ k n (pc + 3) V (.int r1 :: rest) ws1) : gx_G Γ k n pc V st0 ws :=
  gx_perm hp (gc_ISf C0 hM cw hn hst hW hb hd (gx_perm hp1 kk))
theorem gy_VS {W1 : gx_S → va_W} {rm : Room} {wss : List Cond} {o : gx_S} (C0 : gx_ok Γ cc own Ts d) (hM : gx_mV (gx_l Γ) (gx_D Γ) (gx_cl Γ) (gx_ty Γ) y wss rm As w W1 o) (cw : CallB (gx_R Γ) (gx_s Γ) (gx_args Γ) own ix y bytes maxL ret wss rm 0 0 na ∧ (Cond.static y).before (gx_args Γ) (gx_s Γ) = true) (hn : As.length = na) (hst : st0 = As.reverse ++ rest) (hW : (rest.map fun v => v.category).sum ≤ 8) (hb : k ≤ (gx_R Γ).cells ∧ n ≤ (gx_R Γ).slots) (hd : decode cc pc = .ok (.invokestatic ix, 3)) (hp : ws.Perm (w ++ w2)) (hp1 : (W1 o ++ w2).Perm ws1) (kk : gx_G Γ k n (pc + 3) V rest ws1) : gx_G Γ k n pc V st0 ws :=
  gx_perm hp (gc_VSf C0 hM cw hn hst hW hb hd (gx_perm hp1 kk))
end GY
/-- a bound on what is made -/
def gy_lim {R : Type} (N c : Nat) (k : Option R) : Option R := if c ≤ N then k else none
theorem gi_lim {R : Type} {N c : Nat} {k : Option R} {o : R} (h : gy_lim N c k = some o) : c ≤ N ∧ k = some o := by
  unfold gy_lim at h
  split at h
  · exact ⟨by assumption, h⟩
  · cases h
def xR_L (a : Nat → Nat) (ι : Nat → ClassId) : List ((Nat → Int32) → va_E) := [
  fun r => .inl (ι 0, 45, .inl r),
  fun r => .inl (ι 0, 48, .inl r)]
def xR (a : Nat → Nat) (ι : Nat → ClassId) (k : Nat) (r : Nat → Int32) : va_E := ((xR_L a ι).getD k (fun _ => .inr (0, []))) r
abbrev wR (a : Nat → Nat) (ι : Nat → ClassId) : gx_S → va_W := gx_w 2 a (xR a ι)
theorem lt_R_row : 0 < 2 := by decide
theorem ac0_R_row (a : Nat → Nat) (ι : Nat → ClassId) (r : Nat → Int32) : xR a ι (0) r = .inl (ι 0, 45, .inl r) := rfl
theorem ac_R_row {cl : List vw_C} {tys : List (ClassId × FieldType)} {ι : Nat → ClassId} (hx : gx_std vwCl (gty ι) cl tys) (a : Nat → Nat) : gx_arr tys (xR a ι) (0) .int 45 := ⟨0, ι 0, by rw [hx.2]; rfl, fun r => ac0_R_row a ι r⟩
theorem lt_R_sort : 1 < 2 := by decide
theorem ac0_R_sort (a : Nat → Nat) (ι : Nat → ClassId) (r : Nat → Int32) : xR a ι (1) r = .inl (ι 0, 48, .inl r) := rfl
theorem ac_R_sort {cl : List vw_C} {tys : List (ClassId × FieldType)} {ι : Nat → ClassId} (hx : gx_std vwCl (gty ι) cl tys) (a : Nat → Nat) : gx_arr tys (xR a ι) (1) .int 48 := ⟨0, ι 0, by rw [hx.2]; rfl, fun r => ac0_R_sort a ι r⟩
def xT_L (a : Nat → Nat) (ι : Nat → ClassId) : List ((Nat → Int32) → va_E) := [
  fun r => .inl (ι 0, 45, .inl r),
  fun r => .inl (ι 0, 48, .inl r),
  fun r => .inl (ι 0, 6, .inl r),
  fun r => .inl (ι 0, 6, .inl r)]
def xT (a : Nat → Nat) (ι : Nat → ClassId) (k : Nat) (r : Nat → Int32) : va_E := ((xT_L a ι).getD k (fun _ => .inr (0, []))) r
abbrev wT (a : Nat → Nat) (ι : Nat → ClassId) : gx_S → va_W := gx_w 4 a (xT a ι)
theorem lt_T_row : 0 < 4 := by decide
theorem ac0_T_row (a : Nat → Nat) (ι : Nat → ClassId) (r : Nat → Int32) : xT a ι (0) r = .inl (ι 0, 45, .inl r) := rfl
theorem ac_T_row {cl : List vw_C} {tys : List (ClassId × FieldType)} {ι : Nat → ClassId} (hx : gx_std vwCl (gty ι) cl tys) (a : Nat → Nat) : gx_arr tys (xT a ι) (0) .int 45 := ⟨0, ι 0, by rw [hx.2]; rfl, fun r => ac0_T_row a ι r⟩
theorem lt_T_sort : 1 < 4 := by decide
theorem ac0_T_sort (a : Nat → Nat) (ι : Nat → ClassId) (r : Nat → Int32) : xT a ι (1) r = .inl (ι 0, 48, .inl r) := rfl
theorem ac_T_sort {cl : List vw_C} {tys : List (ClassId × FieldType)} {ι : Nat → ClassId} (hx : gx_std vwCl (gty ι) cl tys) (a : Nat → Nat) : gx_arr tys (xT a ι) (1) .int 48 := ⟨0, ι 0, by rw [hx.2]; rfl, fun r => ac0_T_sort a ι r⟩
theorem lt_T_was : 2 < 4 := by decide
theorem ac0_T_was (a : Nat → Nat) (ι : Nat → ClassId) (r : Nat → Int32) : xT a ι (2) r = .inl (ι 0, 6, .inl r) := rfl
theorem ac_T_was {cl : List vw_C} {tys : List (ClassId × FieldType)} {ι : Nat → ClassId} (hx : gx_std vwCl (gty ι) cl tys) (a : Nat → Nat) : gx_arr tys (xT a ι) (2) .int 6 := ⟨0, ι 0, by rw [hx.2]; rfl, fun r => ac0_T_was a ι r⟩
theorem lt_T_best : 3 < 4 := by decide
theorem ac0_T_best (a : Nat → Nat) (ι : Nat → ClassId) (r : Nat → Int32) : xT a ι (3) r = .inl (ι 0, 6, .inl r) := rfl
theorem ac_T_best {cl : List vw_C} {tys : List (ClassId × FieldType)} {ι : Nat → ClassId} (hx : gx_std vwCl (gty ι) cl tys) (a : Nat → Nat) : gx_arr tys (xT a ι) (3) .int 6 := ⟨0, ι 0, by rw [hx.2]; rfl, fun r => ac0_T_best a ι r⟩
def xC_L (a : Nat → Nat) (ι : Nat → ClassId) : List ((Nat → Int32) → va_E) := [
  fun r => .inl (ι 0, 45, .inl r),
  fun r => .inl (ι 0, 45, .inl r)]
def xC (a : Nat → Nat) (ι : Nat → ClassId) (k : Nat) (r : Nat → Int32) : va_E := ((xC_L a ι).getD k (fun _ => .inr (0, []))) r
abbrev wC (a : Nat → Nat) (ι : Nat → ClassId) : gx_S → va_W := gx_w 2 a (xC a ι)
theorem lt_C_from : 0 < 2 := by decide
theorem ac0_C_from (a : Nat → Nat) (ι : Nat → ClassId) (r : Nat → Int32) : xC a ι (0) r = .inl (ι 0, 45, .inl r) := rfl
theorem ac_C_from {cl : List vw_C} {tys : List (ClassId × FieldType)} {ι : Nat → ClassId} (hx : gx_std vwCl (gty ι) cl tys) (a : Nat → Nat) : gx_arr tys (xC a ι) (0) .int 45 := ⟨0, ι 0, by rw [hx.2]; rfl, fun r => ac0_C_from a ι r⟩
theorem lt_C_to : 1 < 2 := by decide
theorem ac0_C_to (a : Nat → Nat) (ι : Nat → ClassId) (r : Nat → Int32) : xC a ι (1) r = .inl (ι 0, 45, .inl r) := rfl
theorem ac_C_to {cl : List vw_C} {tys : List (ClassId × FieldType)} {ι : Nat → ClassId} (hx : gx_std vwCl (gty ι) cl tys) (a : Nat → Nat) : gx_arr tys (xC a ι) (1) .int 45 := ⟨0, ι 0, by rw [hx.2]; rfl, fun r => ac0_C_to a ι r⟩
theorem wT_R (a : Nat → Nat) (ι : Nat → ClassId) (S : gx_S) : wT a ι S = wR a ι S ++ [(a 2, xT a ι 2 (S 2)), (a 3, xT a ι 3 (S 3))] := rfl
/-! the law's rows: row and sort at ρ 0, ρ 1; a third at t -/
def gy_rt (ρ : Nat → Nat) (t : Nat) : Nat → Nat := fun k => if k = 0 then t else ρ k
def gy_Tt (T : gx_S) (U : Nat → Int32) : gx_S := fun k => if k = 0 then U else T k
def gy_T1 (T S : gx_S) : gx_S := fun k => if k = 1 then S 1 else T k
def gy_T0 (T : gx_S) (f : Nat → Int32) : gx_S := fun k => if k = 0 then f else T k
def gy_rc (ρ : Nat → Nat) (t : Nat) : Nat → Nat := fun k => if k = 1 then t else ρ k
def gy_Tc (T : gx_S) (U : Nat → Int32) : gx_S := fun k => if k = 1 then U else T k
def gy_rd (ρ : Nat → Nat) (t : Nat) : Nat → Nat := fun k => if k = 0 then t else ρ 0
def gy_Td (T : gx_S) (U : Nat → Int32) : gx_S := fun k => if k = 0 then U else T 0
abbrev gy_c (ι : Nat → ClassId) (N b : Nat) (f : Nat → Int32) : Nat × va_E := (b, .inl (ι 0, N, .inl f))
def wN (ι : Nat → ClassId) (t : Nat) (U : Nat → Int32) : va_W := [gy_c ι 45 t U]
section PY
variable {A : va_W} {ρ : Nat → Nat} {ι : Nat → ClassId} {T S : gx_S} {t : Nat} {U f : Nat → Int32}
theorem wR_d : wR ρ ι T = [gy_c ι 45 (ρ 0) (T 0), gy_c ι 48 (ρ 1) (T 1)] := rfl
theorem wC_d : wC ρ ι T = [gy_c ι 45 (ρ 0) (T 0), gy_c ι 45 (ρ 1) (T 1)] := rfl
theorem py_R : (A ++ wR ρ ι T).Perm (wR ρ ι T ++ A) := List.perm_append_comm
theorem py_Rt {N : va_W} : (A ++ (wR ρ ι T ++ N)).Perm (wR ρ ι T ++ (A ++ N)) := by
  rw [← List.append_assoc, ← List.append_assoc]
  exact List.perm_append_comm.append_right _
theorem py_3 {A : va_W} {r s n : Nat × va_E} : (A ++ ([r, s] ++ [n])).Perm ([n, s] ++ (A ++ [r])) := by
  have h1 : (A ++ ([r, s] ++ [n])).Perm (([r, s] ++ [n]) ++ A) := List.perm_append_comm
  have h2 : ([r, s, n] : va_W).Perm [n, s, r] := ((List.Perm.swap s r [n]).trans ((List.Perm.cons s (List.Perm.swap n r [])).trans (List.Perm.swap n s [r])))
  have h3 : ([n, s] ++ ([r] ++ A)).Perm ([n, s] ++ (A ++ [r])) := List.Perm.append_left _ List.perm_append_comm
  exact h1.trans ((h2.append_right A).trans h3)
theorem py_4 {A : va_W} {r s n : Nat × va_E} : (A ++ ([r, s] ++ [n])).Perm ([r, n] ++ (A ++ [s])) := by
  have h1 : (A ++ ([r, s] ++ [n])).Perm (([r, s] ++ [n]) ++ A) := List.perm_append_comm
  have h2 : ([r, s, n] : va_W).Perm [r, n, s] := List.Perm.cons r (List.Perm.swap n s [])
  have h3 : ([r, n] ++ ([s] ++ A)).Perm ([r, n] ++ (A ++ [s])) := List.Perm.append_left _ List.perm_append_comm
  exact h1.trans ((h2.append_right A).trans h3)
theorem py_5 {A : va_W} {r s n : Nat × va_E} : (A ++ ([r, s] ++ [n])).Perm ([n, r] ++ (A ++ [s])) := py_4.trans ((List.Perm.swap n r []).append_right _)
theorem py_t : (A ++ (wR ρ ι T ++ wN ι t U)).Perm (wR (gy_rt ρ t) ι (gy_Tt T U) ++ (A ++ [gy_c ι 45 (ρ 0) (T 0)])) := by
  rw [wR_d, wR_d]
  exact py_3
theorem py_t1 : (wR (gy_rt ρ t) ι S ++ (A ++ [gy_c ι 45 (ρ 0) (T 0)])).Perm (A ++ (wR ρ ι (gy_T1 T S) ++ wN ι t (S 0))) := by
  rw [wR_d, wR_d]
  exact (py_3 (A := A) (r := gy_c ι 45 (ρ 0) (T 0)) (s := gy_c ι 48 (ρ 1) (S 1)) (n := gy_c ι 45 t (S 0))).symm
theorem py_c : (A ++ (wR ρ ι T ++ wN ι t U)).Perm (wC (gy_rc ρ t) ι (gy_Tc T U) ++ (A ++ [gy_c ι 48 (ρ 1) (T 1)])) := by
  rw [wR_d, wC_d]
  exact py_4
theorem py_c1 : (wC (gy_rc ρ t) ι S ++ (A ++ [gy_c ι 48 (ρ 1) (T 1)])).Perm (A ++ (wR ρ ι (gy_T0 T (S 0)) ++ wN ι t (S 1))) := by
  rw [wR_d, wC_d]
  exact (py_4 (A := A) (r := gy_c ι 45 (ρ 0) (S 0)) (s := gy_c ι 48 (ρ 1) (T 1)) (n := gy_c ι 45 t (S 1))).symm
theorem py_d : (A ++ (wR ρ ι T ++ wN ι t U)).Perm (wC (gy_rd ρ t) ι (gy_Td T U) ++ (A ++ [gy_c ι 48 (ρ 1) (T 1)])) := by
  rw [wR_d, wC_d]
  exact py_5
theorem py_d1 : (wC (gy_rd ρ t) ι S ++ (A ++ [gy_c ι 48 (ρ 1) (T 1)])).Perm (A ++ (wR ρ ι (gy_T0 T (S 1)) ++ wN ι t (S 0))) := by
  rw [wR_d, wC_d]
  exact (py_5 (A := A) (r := gy_c ι 45 (ρ 0) (S 1)) (s := gy_c ι 48 (ρ 1) (T 1)) (n := gy_c ι 45 t (S 0))).symm
theorem py_s0 : (A ++ wR ρ ι T).Perm (gy_c ι 45 (ρ 0) (T 0) :: (A ++ [gy_c ι 48 (ρ 1) (T 1)])) := by
  have h1 : (A ++ ([gy_c ι 45 (ρ 0) (T 0)] ++ [gy_c ι 48 (ρ 1) (T 1)])).Perm ([gy_c ι 45 (ρ 0) (T 0)] ++ (A ++ [gy_c ι 48 (ρ 1) (T 1)])) := by
    rw [← List.append_assoc, ← List.append_assoc]
    exact List.perm_append_comm.append_right _
  rw [wR_d]
  exact h1
theorem py_s1 : (A ++ wR ρ ι T).Perm (gy_c ι 48 (ρ 1) (T 1) :: (A ++ [gy_c ι 45 (ρ 0) (T 0)])) := by
  have h1 : (A ++ ([gy_c ι 45 (ρ 0) (T 0)] ++ [gy_c ι 48 (ρ 1) (T 1)])).Perm ((A ++ [gy_c ι 45 (ρ 0) (T 0)]) ++ [gy_c ι 48 (ρ 1) (T 1)]) := by
    rw [List.append_assoc]
  rw [wR_d]
  exact h1.trans List.perm_append_comm
theorem py_u0 {i : Nat} {x : Int32} : (gy_c ι 45 (ρ 0) (upd (T 0) i x) :: (A ++ [gy_c ι 48 (ρ 1) (T 1)])).Perm (A ++ wR ρ ι (gx_st T 0 i x)) := by
  have h := (py_s0 (A := A) (ρ := ρ) (ι := ι) (T := gx_st T 0 i x)).symm
  exact h
theorem py_u1 {i : Nat} {x : Int32} : (gy_c ι 48 (ρ 1) (upd (T 1) i x) :: (A ++ [gy_c ι 45 (ρ 0) (T 0)])).Perm (A ++ wR ρ ι (gx_st T 1 i x)) := by
  have h := (py_s1 (A := A) (ρ := ρ) (ι := ι) (T := gx_st T 1 i x)).symm
  exact h
theorem my_0 : gy_c ι 45 (ρ 0) (T 0) ∈ A ++ wR ρ ι T := by
  rw [wR_d]
  exact List.mem_append_right _ List.mem_cons_self
theorem my_1 : gy_c ι 48 (ρ 1) (T 1) ∈ A ++ wR ρ ι T := by
  rw [wR_d]
  exact List.mem_append_right _ (List.mem_cons_of_mem _ List.mem_cons_self)
theorem my_0t {N : va_W} : gy_c ι 45 (ρ 0) (T 0) ∈ A ++ (wR ρ ι T ++ N) := by
  rw [wR_d]
  exact List.mem_append_right _ (List.mem_append_left _ List.mem_cons_self)
theorem my_1t {N : va_W} : gy_c ι 48 (ρ 1) (T 1) ∈ A ++ (wR ρ ι T ++ N) := by
  rw [wR_d]
  exact List.mem_append_right _ (List.mem_append_left _ (List.mem_cons_of_mem _ List.mem_cons_self))
theorem my_t : gy_c ι 45 t U ∈ A ++ (wR ρ ι T ++ wN ι t U) := by
  rw [wR_d]
  exact List.mem_append_right _ (List.mem_append_right _ List.mem_cons_self)
theorem gy_dN {Γ : gx_T} {k n pc : Nat} {V st : List Value} {N : va_W} (kk : gx_G Γ k n pc V st (A ++ wR ρ ι T)) : gx_G Γ k n pc V st (A ++ (wR ρ ι T ++ N)) := by
  rw [← List.append_assoc]
  exact gy_drop kk
end PY


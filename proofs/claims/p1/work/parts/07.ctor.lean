/-! making objects: what constructors need beside the words; rows over explicit worlds -/
def gx_AOA (t : FieldType) (U : State) : Prop := (Cond.arrayOver (.array t)).before #[] U = true
theorem gx_AOA_moved {t : FieldType} {u U : State} (hvm : u.vm.Alike U.vm) (h : gx_AOA t u) : gx_AOA t U := by
  obtain ⟨comp, c, k, h1, h2, h3, h4, h5⟩ := arrayOverA_spec h
  obtain ⟨k', hk', he⟩ := hvm.2.2 _ _ h3
  have hi : (U.vm.classes.findIdx? fun (x : Class) => match x.kind with | .array component _ => component == comp | _ => false) = some c := by
    rw [← va_idx_bare]
    first | rw [hvm.bare_eq] | rw [← hvm.bare_eq]
    rw [va_idx_bare]
    exact h2
  have hkind : k'.kind = .array comp (.array t) := by rw [he]; exact h4
  have f1 : U.vm.findClass (FieldType.array t).toString = some comp := by rw [hvm.findClass]; exact h1
  have f2 : U.vm.findClass ("[" ++ (FieldType.array t).toString) = some c := by rw [hvm.findClass]; exact h5
  unfold gx_AOA Cond.before Cond.holds
  simp only [Cond.value]
  rw [f1, Option.bind_some]
  refine (congrArg (fun o : Option Nat => (o.bind (fun c => (U.vm.classes[c]?).map fun (k : Class) => match k.kind with | .array _ ty => decide (ty = FieldType.array t) && decide (U.vm.findClass ("[" ++ (FieldType.array t).toString) = some c) | _ => false) == some true)) hi).trans ?_
  simp [hk', hkind, f2]
theorem gx_RA_one {U : State} {c1 c2 : ClassId} {ty : FieldType} (h1 : va_RA U c1 ty) (h2 : va_RA U c2 ty) : c1 = c2 := by
  cases ty with
  | object C =>
    obtain ⟨_, _, _, _, _, a⟩ := h1
    obtain ⟨_, _, _, _, _, b⟩ := h2
    exact Option.some.inj (a.symm.trans b)
  | _ => exact Option.some.inj (Eq.trans (Eq.symm h1) h2)
theorem gx_K_one {D : va_G} {cl : List vw_C} {tys : List (ClassId × FieldType)} {U : State} {t0 : Nat} {c0 cA : ClassId} {ty : FieldType} (h : va_K D cl (tys ++ [(cA, ty)]) U) (ht : tys[t0]? = some (c0, ty)) : cA = c0 := by
  have a := (h.2 tys.length (cA, ty) (by simp)).2
  have b := (h.2 t0 (c0, ty) (by rw [List.getElem?_append_left (List.getElem?_eq_some_iff.mp ht).1]; exact ht)).2
  exact gx_RA_one a b
theorem gx_rc {args : Array Value} {s : State} {t : FieldType} (h : (Cond.arrayClass t).before args s = true) (ho : ∀ C, t ≠ .object C) : ∃ c : ClassId, ArrOfT s c t ∧ va_RA s c t := by
  obtain ⟨c, k, comp, h1, h2, h3⟩ := Cond.arrayClass_spec h
  refine ⟨c, fun N z => ⟨(fun q hq => by cases hq), k, h2, comp, h3⟩, ?_⟩
  cases t <;> first | exact h1 | exact absurd rfl (ho _)
theorem gx_rcA {args : Array Value} {s : State} {t : FieldType} (h : (Cond.arrayOver (.array t)).before args s = true) : ∃ c : ClassId, ArrOfT s c (.array t) ∧ va_RA s c (.array t) := by
  obtain ⟨comp, c, k, h1, h2, h3, h4, h5⟩ := arrayOverA_spec h
  exact ⟨c, fun N z => ⟨(fun q hq => by cases hq), k, h3, comp, h4⟩, h5⟩
theorem gx_rcO {args : Array Value} {s : State} {C : String} (h : (Cond.arrayOver (.object C)).before args s = true) : ∃ c : ClassId, ArrOfT s c (.object C) ∧ va_RA s c (.object C) := by
  obtain ⟨comp, c, k, h1, h2, h3, h4, h5⟩ := Cond.arrayOver_spec h
  exact ⟨c, fun N z => ⟨(fun q hq => by cases hq), k, h3, comp, h4⟩, k, comp, h3, h4, h1, h5⟩

def gx_xt (U : State) : Prop := va_AO "ShopsAsOne$Text" U ∧ gx_AOA .int U ∧ va_Nw (.methodLinkNest RX7 9 yX5_init RX7) U ∧ va_Nw (.methodLinkNest RX7 49 yX6_init RX7) U ∧ va_Nw (.methodLinkNest RX7 60 yX1_init RX7) U
theorem gx_xt_same {u U : State} (hv : u.vm = U.vm) (h : gx_xt u) : gx_xt U := ⟨va_AO.moved (by rw [hv]; exact Vm.Alike.refl _) h.1, gx_AOA_moved (by rw [hv]; exact Vm.Alike.refl _) h.2.1, va_Nw.same rfl hv h.2.2.1, va_Nw.same rfl hv h.2.2.2.1, va_Nw.same rfl hv h.2.2.2.2⟩
theorem gx_xt_warm {s U : State} (hW : s.WarmedH U.vm) (h : gx_xt s) : gx_xt U := ⟨va_AO.moved hW.alike h.1, gx_AOA_moved hW.alike h.2.1, va_Nw.warmM hW h.2.2.1, va_Nw.warmM hW h.2.2.2.1, va_Nw.warmM hW h.2.2.2.2⟩
theorem gx_xt_X7_9 {s : State} (h : gx_xt s) : va_Nw (.methodLinkNest RX7 9 yX5_init RX7) s := h.2.2.1
theorem gx_xt_X7_49 {s : State} (h : gx_xt s) : va_Nw (.methodLinkNest RX7 49 yX6_init RX7) s := h.2.2.2.1
theorem gx_xt_X7_60 {s : State} (h : gx_xt s) : va_Nw (.methodLinkNest RX7 60 yX1_init RX7) s := h.2.2.2.2
theorem gx_outer (c : ClassId) (N h0 : Nat) : ∀ i : Nat, Jvm.Free.Multi.outerC c N h0 i = arrV c N (fun j => va_rf (if j < i then some (h0 + 1 + j) else none))
  | 0 => by
    show ({ cls := c, slots := Array.replicate N .null, vm := .none } : Cell) = _
    rw [arrV_new]
    refine congrArg (arrV c N) (funext fun j => ?_)
    simp [va_rf]
  | i + 1 => by
    show (Jvm.Free.Multi.outerC c N h0 i).setSlot i (.ref (h0 + 1 + i)) = _
    rw [gx_outer c N h0 i, arrV_store]
    refine congrArg (arrV c N) (funext fun j => ?_)
    by_cases e : j = i
    · subst e
      simp [updV, va_rf]
    · by_cases h : j < i
      · simp [updV, e, h, Nat.lt_succ_of_lt h]
      · simp [updV, e, h, show ¬ j < i + 1 by omega]
def gx_rmc (d mc ms : Nat) : Room := { frames := d, cells := mc, slots := ms, locals := 40 * d }
/-- new cells behind a world -/
theorem gx_grow {A : Nat → Prop} {D : va_G} {cl : List vw_C} {ws nw : va_W} {H H1 : Heap} (hP : va_P D cl ws H) (hD : va_D A ws) (hold : ∀ q : Nat, q < H.size → H1[q]? = H[q]?) (hn : va_P D cl nw H1) (h1 : ∀ (i j : Nat) (p q : Nat × va_E), nw[i]? = some p → nw[j]? = some q → p.1 = q.1 → i = j) (h2 : ∀ (i : Nat) (p : Nat × va_E), nw[i]? = some p → H.size ≤ p.1 ∧ A p.1) : va_P D cl (ws ++ nw) H1 ∧ va_D A (ws ++ nw) :=
  ⟨(hP.kept (fun k q hq => hold _ (hP k q hq).lt)).app hn, va_D.app hD ⟨h1, fun k q hq => (h2 k q hq).2⟩ (fun i j p q hp hq e => by
    have a := (hP i p hp).lt
    have b := (h2 j q hq).1
    omega)⟩
theorem gx_mkrow {N K : Nat} {c0 : ClassId} {r : Nat → Nat} {k : Nat} {q : Nat × va_E} {e : va_E} (h : ((List.range N).map (fun i => ((r i, e) : Nat × va_E)))[k]? = some q) : k < N ∧ q = (r k, e) := by
  rw [List.getElem?_map] at h
  by_cases hk : k < N
  · rw [List.getElem?_range hk] at h
    exact ⟨hk, (Option.some.inj h).symm⟩
  · rw [List.getElem?_eq_none (by rw [List.length_range]; omega)] at h
    cases h
/-- the references of a new grid -/
def gx_tb (N : Nat) (r : Nat → Nat) : Nat → Option Nat := fun j => ((List.range N).map (fun i => some (r i))).getD j none
theorem gx_tb_eq (N : Nat) (r : Nat → Nat) : (fun i => if i < N then some (r i) else none) = gx_tb N r := by
  funext i
  unfold gx_tb
  rw [List.getD_eq_getElem?_getD, List.getElem?_map]
  by_cases h : i < N
  · rw [if_pos h, List.getElem?_range h]; rfl
  · rw [if_neg h, List.getElem?_eq_none (by rw [List.length_range]; omega)]; rfl
section GN
variable {Γ : gx_T} {cc : ByteArray} {own : String} {Ts : List Cond} {d k n pc : Nat} {V st : List Value} {ws : va_W} {mc ms : Nat}
/-- the room for making, and the tables' other words -/
def gx_mkr (Γ : gx_T) (mc ms : Nat) : Prop := (gx_R Γ).cells = mc ∧ (gx_R Γ).slots = ms ∧ gx_xt (gx_s Γ)
theorem gn_obj (C : gx_ok Γ cc own Ts d) {ix a : Nat} (hl : Cond.methodLink own ix objectInit ∈ Ts) (hi : Cond.instanceMethod objectInit ∈ Ts) (hc : Cond.code objectInit ⟨#[0xb1]⟩ 1 none ∈ Ts) (h1 : 0 < d) (hW : (st.map fun v => v.category).sum ≤ 8) (hd : decode cc pc = .ok (.invokespecial ix, 3)) (kk : gx_G Γ k n (pc + 3) V st ws) : gx_G Γ k n pc V (.ref a :: st) ws := fun H locs ls hP hD hS hl2 => by
  have hts := C.2.2.2.2.1
  have h2 := C.2.2.2.2.2.2.2.2.1
  have h3 := C.2.2.2.2.2.2.2.2.2
  refine W.objInit C.1 C.2.1 C.2.2.2.1 (hts _ hl) (hts _ hi) (hts _ hc) rfl (by rw [C.2.2.1]; exact gx_L_size hl2) rfl hd (by omega) (by show 2 * 0 + (st.map fun v => v.category).sum + 12 ≤ _; omega) ?_
  exact kk H locs ls hP hD hS hl2
theorem gn_getf (C : gx_ok Γ cc own Ts d) {ix q0 b ci N j : Nat} {K : String} {T : u_T} {ty : Nat → FieldType} {fs : List Value} {v : Value} (hf : gx_fl Ts own ix K T N j) (hcl : gx_cls (gx_cl Γ) ci K T N ty) (he : ws[q0]? = some (b, .inr (ci, fs))) (hv : fs[j]? = some v) (hd : decode cc pc = .ok (.getfield ix, 3)) (kk : gx_G Γ k n (pc + 3) V (v :: st) ws) : gx_G Γ k n pc V (.ref b :: st) ws := fun H locs ls hP hD hS hl =>
  va_get C.1 C.2.1 C.2.2.2.2.1 hf.1 C.2.2.2.1 C.2.2.2.2.2.1 hP q0 he hcl.1 j hf.2.1 (C.2.2.2.2.1 _ hf.2.2.1) (by rw [hf.2.2.2]; exact fun _ h => h) hv hd (kk H locs ls hP hD hS hl)
theorem gn_putf (C : gx_ok Γ cc own Ts d) {ix q0 b ci N j : Nat} {K : String} {T : u_T} {ty : Nat → FieldType} {fs : List Value} {v : Value} (hf : gx_fl Ts own ix K T N j) (hcl : gx_cls (gx_cl Γ) ci K T N ty) (he : ws[q0]? = some (b, .inr (ci, fs))) (hfin : (T j).2.2.2 = false) (hn : narrow (ty j) v = v) (hfit : fits (ty j) v = true) (hlen : j < fs.length) (hd : decode cc pc = .ok (.putfield ix, 3)) {ws1 : va_W} (hw : ws.set q0 (b, .inr (ci, fs.set j v)) = ws1) (kk : gx_G Γ k n (pc + 3) V st ws1) : gx_G Γ k n pc V (v :: .ref b :: st) ws := fun H locs ls hP hD hS hl =>
  va_put C.1 C.2.1 C.2.2.2.2.1 hf.1 ty hcl.2.1 hcl.2.2 C.2.2.2.1 C.2.2.2.2.2.1 hP hD hS q0 he hcl.1 j hf.2.1 (C.2.2.2.2.1 _ hf.2.2.1) (by rw [hf.2.2.2]; exact fun _ h => h) hfin (hcl.2.1 j hf.2.1) hn hfit hlen hd (fun H1 locs1 hP hD hS => by
    rw [hw] at hP hD
    exact kk H1 locs1 ls hP hD hS hl)
theorem gn_putF (C : gx_ok Γ cc own Ts d) {ix q0 b ci N j : Nat} {K : String} {T : u_T} {ty : Nat → FieldType} {fs : List Value} {v : Value} (hin : (gx_meth Γ).name = "<init>") (hf : gx_fl Ts own ix K T N j) (hcl : gx_cls (gx_cl Γ) ci K T N ty) (he : ws[q0]? = some (b, .inr (ci, fs))) (hfin : (T j).2.2.2 = true) (hdc : (T j).1 = own) (hn : narrow (ty j) v = v) (hfit : fits (ty j) v = true) (hlen : j < fs.length) (hd : decode cc pc = .ok (.putfield ix, 3)) {ws1 : va_W} (hw : ws.set q0 (b, .inr (ci, fs.set j v)) = ws1) (kk : gx_G Γ k n (pc + 3) V st ws1) : gx_G Γ k n pc V (v :: .ref b :: st) ws := fun H locs ls hP hD hS hl =>
  va_putF C.1 C.2.1 C.2.2.2.2.1 hf.1 ty hcl.2.1 hcl.2.2 C.2.2.2.1 C.2.2.2.2.2.1 hP hD hS q0 he hcl.1 j hf.2.1 (C.2.2.2.2.1 _ hf.2.2.1) (by rw [hf.2.2.2]; exact fun _ h => h) hfin hin hdc (hcl.2.1 j hf.2.1) hn hfit hlen hd (fun H1 locs1 hP hD hS => by
    rw [hw] at hP hD
    exact kk H1 locs1 ls hP hD hS hl)
theorem gn_new (C : gx_ok Γ cc own Ts d) (M : gx_mkr Γ mc ms) {ix ci N : Nat} {K : String} {T : u_T} {ty : Nat → FieldType} {fs : List Value} (hin : ∀ w ∈ u_ws K T N, w ∈ Ts) (hcl : gx_cls (gx_cl Γ) ci K T N ty) (h1 : Cond.classLink own ix K ∈ Ts) (h2 : Cond.instantiable K N ∈ Ts) (h3 : Cond.initialized K ∈ Ts) (hfs : ∀ j, j < N → defaultValue (ty j) = vp_V fs j) (hc : k + 1 ≤ mc) (hs : n + N ≤ ms) (hd : decode cc pc = .ok (.new ix, 3)) (kk : ∀ q : Nat, gx_G Γ (k + 1) (n + N) (pc + 3) V (.ref q :: st) (ws ++ [(q, .inr (ci, fs))])) : gx_G Γ k n pc V st ws := fun H locs ls hP hD hS hl =>
  va_new C.1 C.2.1 C.2.2.2.2.1 hin ty hcl.2.1 C.2.2.2.1 (C.2.2.2.2.1 _ h1) (C.2.2.2.2.1 _ h2) (C.2.2.2.2.1 _ h3) C.2.2.2.2.2.1 hP hD hS C.2.2.2.2.2.2.1 hcl.1 hfs (by rw [M.1]; exact hc) (by rw [M.2.1]; exact hs) hd (fun q H1 hP hD hS => kk q H1 locs ls hP hD hS hl)
theorem gn_newa (C : gx_ok Γ cc own Ts d) (M : gx_mkr Γ mc ms) {atype : ArrayType} {ty : FieldType} {t0 N : Nat} {c0 : ClassId} {z : Int32} (harr : Cond.arrayClass (newarray.typeOf atype) ∈ Ts) (hty : newarray.typeOf atype = ty) (ht : (gx_ty Γ)[t0]? = some (c0, ty)) (ha : ∀ cA : ClassId, vp_cell cA (N, .inl fun _ => 0) = arrV cA N (fun _ => defaultValue ty)) (hz : ¬ z < 0) (hN : z.toNatClampNeg = N) (hbytes : N * componentBytes ty ≤ 536870912) (hc : k + 1 ≤ mc) (hs : n + N ≤ ms) (hd : decode cc pc = .ok (.newarray atype, 2)) (kk : ∀ q : Nat, gx_G Γ (k + 1) (n + N) (pc + 2) V (.ref q :: st) (ws ++ [(q, .inl (c0, N, .inl fun _ => 0))])) : gx_G Γ k n pc V (.int z :: st) ws := fun H locs ls hP hD hS hl =>
  va_newa C.1 C.2.1 (C.2.2.2.2.1 _ harr) hty C.2.2.2.2.2.1 hP hD hS C.2.2.2.2.2.2.1 ha hz hN hbytes (by rw [M.1]; exact hc) (by rw [M.2.1]; exact hs) hd (fun q cA H1 hK hP hD hS => by
    have e := gx_K_one hK ht
    subst e
    exact kk q H1 locs ls hP hD hS hl)
theorem gn_newq (C : gx_ok Γ cc own Ts d) (M : gx_mkr Γ mc ms) {K : String} {ix t0 N : Nat} {c0 : ClassId} {z : Int32} (hcl : Cond.classLink own ix K ∈ Ts) (ho : va_AO K (gx_s Γ)) (ht : (gx_ty Γ)[t0]? = some (c0, .object K)) (hz : ¬ z < 0) (hN : z.toNatClampNeg = N) (hbytes : N * 4 ≤ 536870912) (hc : k + 1 ≤ mc) (hs : n + N ≤ ms) (hd : decode cc pc = .ok (.anewarray ix, 3)) (kk : ∀ q : Nat, gx_G Γ (k + 1) (n + N) (pc + 3) V (.ref q :: st) (ws ++ [(q, .inl (c0, N, .inr (.inr (.inr (.inr (fun _ => none))))))])) : gx_G Γ k n pc V (.int z :: st) ws := fun H locs ls hP hD hS hl =>
  va_newq C.1 C.2.1 C.2.2.2.1 (C.2.2.2.2.1 _ hcl) ho C.2.2.2.2.2.1 hP hD hS C.2.2.2.2.2.2.1 hz hN hbytes (by rw [M.1]; exact hc) (by rw [M.2.1]; exact hs) hd (fun q cA H1 hK hP hD hS => by
    have e := gx_K_one hK ht
    subst e
    exact kk q H1 locs ls hP hD hS hl)
theorem gn_astq (C : gx_ok Γ cc own Ts d) {q0 t0 qk ci b v N : Nat} {c0 : ClassId} {r : vw_C} {vs : List Value} {f : Nat → Option Nat} {i : Int32} (ha : ws[q0]? = some (b, .inl (c0, N, .inr (.inr (.inr (.inr f)))))) (ht : (gx_ty Γ)[t0]? = some (c0, .object r.1)) (hv : ws[qk]? = some (v, .inr (ci, vs))) (hcl : (gx_cl Γ)[ci]? = some r) (hin : vp_in i N) (hd : decode cc pc = .ok (.aastore, 1)) {ws1 : va_W} (hw : ws.set q0 (b, .inl (c0, N, .inr (.inr (.inr (.inr (va_up f i.toNatClampNeg (some v))))))) = ws1) (kk : gx_G Γ k n (pc + 1) V st ws1) : gx_G Γ k n pc V (.ref v :: .int i :: .ref b :: st) ws := fun H locs ls hP hD hS hl =>
  va_astq C.1 C.2.1 C.2.2.2.2.2.1 hP hD hS q0 t0 qk ci ha ht hv hcl hin hd (fun H1 locs1 hP hD hS => by
    rw [hw] at hP hD
    exact kk H1 locs1 ls hP hD hS hl)
theorem gn_mna (C : gx_ok Γ cc own Ts d) (M : gx_mkr Γ mc ms) {ix t0 t1 N K : Nat} {c0 c1 : ClassId} {z y : Int32} (hcl : Cond.classLink own ix "[[I" ∈ Ts) (ho : gx_AOA .int (gx_s Γ)) (harr : Cond.arrayClass .int ∈ Ts) (ht : (gx_ty Γ)[t0]? = some (c0, .array .int)) (ht1 : (gx_ty Γ)[t1]? = some (c1, .int)) (hz : ¬ z < 0) (hy : ¬ y < 0) (hN : z.toNatClampNeg = N) (hM : y.toNatClampNeg = K) (hb1 : N * 4 ≤ 536870912) (hb2 : K * 4 ≤ 536870912) (hc : k + (1 + N) ≤ mc) (hs : n + (N + N * K) ≤ ms) (hd : decode cc pc = .ok (.multianewarray ix 2, 4)) (kk : ∀ (q : Nat) (r : Nat → Nat), gx_G Γ (k + 1 + N) (n + N + N * K) (pc + 4) V (.ref q :: st) (ws ++ ((q, .inl (c0, N, .inr (.inr (.inr (.inr (gx_tb N r)))))) :: (List.range N).map (fun i => (r i, .inl (c1, K, .inl fun _ => 0)))))) : gx_G Γ k n pc V (.int y :: .int z :: st) ws := fun H locs ls hP hD hS hl => by
  subst hN
  subst hM
  intro T hT Xs
  have hK := C.2.2.2.2.2.1
  obtain ⟨vm₁, cA, comp, -, fA, fC, hO, -, X', step⟩ := Xs.multianewarray2F C.1 (ty := .int) C.2.2.2.1 (C.2.2.2.2.1 _ hcl) ho (C.2.2.2.2.1 _ harr) (g := F0 (gx_m Γ) pc ls (.int y :: .int z :: st)) rfl (by rw [C.2.1]; exact hd) rfl hz hy hb1 hb2 (by omega) rfl rfl (by rw [M.1]; exact hc) (by rw [M.2.1]; exact hs)
  have e0 : cA = c0 := Option.some.inj (fA.symm.trans (hK.2 t0 _ ht).2)
  have e1 : comp = c1 := Option.some.inj (fC.symm.trans (hK.2 t1 _ ht1).2)
  subst e0
  subst e1
  generalize hF : Jvm.Free.Multi.fill (T.setVm vm₁) cA comp z.toNatClampNeg y.toNatClampNeg (defaultValue .int) z.toNatClampNeg = F at X' step
  have hTh : (T.setVm vm₁).heap = H := hT
  obtain ⟨f1, f2, -, -⟩ := Jvm.Free.Multi.fill_facts (T.setVm vm₁) cA comp z.toNatClampNeg y.toNatClampNeg (defaultValue .int) z.toNatClampNeg
  rw [hF, hTh] at f1 f2
  have hold : ∀ x : Nat, x < H.size → F.heap[x]? = H[x]? := fun x hx => by
    have := Jvm.Free.Multi.fill_old (T.setVm vm₁) cA comp z.toNatClampNeg y.toNatClampNeg (defaultValue .int) (a := x) (by rw [hTh]; exact hx) z.toNatClampNeg
    rw [hF, hTh] at this
    exact this
  have hz0 : Jvm.Free.Multi.innerC comp y.toNatClampNeg (defaultValue .int) = vp_cell comp (y.toNatClampNeg, .inl fun _ => 0) := by
    rw [vp_cell_i]
    unfold Jvm.Free.Multi.innerC
    rw [arrV_new]
    rfl
  have hrow : ∀ j : Nat, j < z.toNatClampNeg → F.heap[H.size + 1 + j]? = some (vp_cell comp (y.toNatClampNeg, .inl fun _ => 0)) := fun j hj => by
    have := Jvm.Free.Multi.fill_inner (T.setVm vm₁) cA comp z.toNatClampNeg y.toNatClampNeg (defaultValue .int) z.toNatClampNeg j hj
    rw [hF, hTh, hz0] at this
    exact this
  have hout : Jvm.Free.Multi.outerC cA z.toNatClampNeg H.size z.toNatClampNeg = vp_cell cA (z.toNatClampNeg, .inr (.inr (.inr (.inr (gx_tb z.toNatClampNeg (fun i => H.size + 1 + i)))))) := by
    rw [← gx_tb_eq, vp_cell_q]
    exact gx_outer cA z.toNatClampNeg H.size z.toNatClampNeg
  rw [hout] at f2
  obtain ⟨hP2, hD2⟩ := gx_grow (nw := (H.size, .inl (cA, z.toNatClampNeg, .inr (.inr (.inr (.inr (gx_tb z.toNatClampNeg (fun i => H.size + 1 + i))))))) :: (List.range z.toNatClampNeg).map (fun i => (H.size + 1 + i, .inl (comp, y.toNatClampNeg, .inl fun _ => 0)))) hP hD hold (fun k9 x hx => by
      cases k9 with
      | zero => cases hx; exact f2
      | succ k9 =>
        rw [List.getElem?_cons_succ] at hx
        obtain ⟨a1, rfl⟩ := gx_mkrow (K := 0) (c0 := cA) (r := fun i => H.size + 1 + i) hx
        exact hrow k9 a1) (fun i j p q hi hj e => by
      cases i with
      | zero =>
        cases j with
        | zero => rfl
        | succ j =>
          cases hi
          rw [List.getElem?_cons_succ] at hj
          obtain ⟨a1, rfl⟩ := gx_mkrow (K := 0) (c0 := cA) (r := fun i => H.size + 1 + i) hj
          have e : H.size = H.size + 1 + j := e
          omega
      | succ i =>
        rw [List.getElem?_cons_succ] at hi
        obtain ⟨a1, rfl⟩ := gx_mkrow (K := 0) (c0 := cA) (r := fun i => H.size + 1 + i) hi
        cases j with
        | zero =>
          cases hj
          have e : H.size + 1 + i = H.size := e
          omega
        | succ j =>
          rw [List.getElem?_cons_succ] at hj
          obtain ⟨a2, rfl⟩ := gx_mkrow (K := 0) (c0 := cA) (r := fun i => H.size + 1 + i) hj
          have e : H.size + 1 + i = H.size + 1 + j := e
          omega) (fun i p hi => by
      have hA := C.2.2.2.2.2.2.1
      have h0 := hS.1
      cases i with
      | zero => cases hi; exact ⟨Nat.le_refl _, hA _ h0⟩
      | succ i =>
        rw [List.getElem?_cons_succ] at hi
        obtain ⟨a1, rfl⟩ := gx_mkrow (K := 0) (c0 := cA) (r := fun i => H.size + 1 + i) hi
        exact ⟨by show H.size ≤ H.size + 1 + i; omega, hA _ (by show _ ≤ H.size + 1 + i; omega)⟩)
  obtain ⟨t, a1, b1⟩ := kk H.size (fun i => H.size + 1 + i) F.heap locs ls hP2 hD2 ⟨by rw [f1]; have := hS.1; omega, fun x h1 h2 => (hold x (Nat.lt_of_lt_of_le h1 hS.1)).trans (hS.2.1 x h1 h2), hS.2.2⟩ hl F rfl X'
  refine ⟨t, step t ?_, b1⟩
  have e : T.heap.size = H.size := by rw [hT]
  rw [e]
  exact a1
end GN
/-! constructors' contracts -/
abbrev gx_PreK (D : va_G) (cl : List vw_C) (tys : List (ClassId × FieldType)) (av : List Value) (w0 : va_W) (sz : Nat) : Array Value → State → Prop := va_Pc av (fun U => U.heap.size = sz ∧ va_P D cl w0 U.heap ∧ va_K D cl tys U ∧ va_D (fun _ => True) w0 ∧ gx_xt U)
abbrev gx_BK (D : va_G) (cl : List vw_C) (tys : List (ClassId × FieldType)) (w0 : va_W) (Wb : (Nat → Nat) → va_W) (sz : Nat) : (Nat → Nat) → State → Prop := fun b t => va_P D cl (Wb b) t.heap ∧ va_K D cl tys t ∧ va_D (va_A w0 sz) (Wb b)
def gx_mK (l : Launch) (D : va_G) (cl : List vw_C) (tys : List (ClassId × FieldType)) (y : MethodName) (ws : List Cond) (rm : Room) (av : List Value) (w0 : va_W) (Wb : (Nat → Nat) → va_W) (h0 mc ms : Nat) : Prop := ∀ sz : Nat, Met l y ws rm (gx_PreK D cl tys av w0 sz) (va_Qv (fun b : Nat → Nat => b 0 = h0) (gx_BK D cl tys w0 Wb sz) (va_A w0 sz)) mc ms (va_A w0 sz)
def gx_finK (Γ : gx_T) (Wb : (Nat → Nat) → va_W) (h0 mc ms : Nat) : Prop := ∃ w0 : va_W, gx_A Γ = va_A w0 (gx_s Γ).heap.size ∧ gx_H0 Γ = (gx_s Γ).heap ∧ (gx_meth Γ).sig.returnType = none ∧ gx_Q Γ = MQ (gx_below Γ) (va_Qv (fun b : Nat → Nat => b 0 = h0) (gx_BK (gx_D Γ) (gx_cl Γ) (gx_ty Γ) w0 Wb (gx_s Γ).heap.size) (va_A w0 (gx_s Γ).heap.size)) (gx_args Γ) (gx_s Γ) mc ms (va_A w0 (gx_s Γ).heap.size)
theorem gx_blindK {D : va_G} {cl : List vw_C} {tys : List (ClassId × FieldType)} {av : List Value} {w0 : va_W} {sz : Nat} : FrameBlind (gx_PreK D cl tys av w0 sz) := fun a U g mk q => by
  obtain ⟨q0, q1, qP, qK, qD, qX⟩ := q
  exact ⟨q0, q1, qP, va_K.moved (u := U) (U := U.calling g mk a) (Vm.Alike.refl U.vm) qK, qD, gx_xt_same (u := U) (U := U.calling g mk a) rfl qX⟩
theorem gx_startK {l : Launch} {D : va_G} {cl : List vw_C} {tys : List (ClassId × FieldType)} {y : MethodName} {b : ByteArray} {maxL : Nat} {Us : List Cond} {d mc ms h0 : Nat} {av V : List Value} {w0 : va_W} {Wb : (Nat → Nat) → va_W} (kn : Nat) (hy : plainName y.cls = true) (hyn : y.name = "<init>") (hlen : (lg_sl av).length ≤ maxL) (hV : gx_V av ++ List.replicate kn .null = V) (body : ∀ Γ : gx_T, gx_l Γ = l → gx_D Γ = D → gx_cl Γ = cl → gx_ty Γ = tys → gx_nL Γ = maxL → gx_ok Γ b y.cls Us d → gx_finK Γ Wb h0 mc ms → gx_mkr Γ mc ms → (gx_meth Γ).name = "<init>" → gx_G Γ 0 0 0 V [] w0) : gx_mK l D cl tys y (.code y b maxL none :: Us) (gx_rmc d mc ms) av w0 Wb h0 mc ms := by
  intro sz
  refine Met.ofW (cc := b) (maxL := maxL) (ret := none) hy rfl ?_
  intro p e s m args below meth c s₁ B hml hv
  obtain ⟨rfl, hsz, hP, hK, hD0, hX⟩ := hv
  subst hsz
  subst hV
  have hts := atoms_spec (ws := .code y b maxL none :: Us) B.pre
  have hl := lv_entry av (n := maxL) hlen
  have hin : meth.name = "<init>" := (name_of_methodNamed B.named B.method).1.trans hyn
  rw [lg_entry_eq]
  exact body ((p, l, e, (headSpec (.code y b maxL none :: Us) (gx_rmc d mc ms)).room, s, m, av.toArray, below, meth, c), (D, cl, tys), va_A w0 s.heap.size, s.heap, MQ below (va_Qv (fun b : Nat → Nat => b 0 = h0) (gx_BK D cl tys w0 Wb s.heap.size) (va_A w0 s.heap.size)) av.toArray s mc ms (va_A w0 s.heap.size), maxL) rfl rfl rfl rfl rfl
    ⟨B.exec, B.bytes, hml, findClass_of_methodNamed B.named, fun w hw => hts w (List.mem_cons_of_mem _ hw), hK, fun q h => Or.inr h, B.notSynchronized, Nat.le_refl _, Nat.le_refl _⟩ ⟨w0, rfl, rfl, B.returns, rfl⟩ ⟨rfl, rfl, hX⟩ hin s.heap [] _ hP hD0.self va_S.rf (gx_L_pad hl kn)
theorem gn_vret {Γ : gx_T} {cc : ByteArray} {own : String} {Ts : List Cond} {d pc : Nat} {V : List Value} {Wb : (Nat → Nat) → va_W} {h0 mc ms : Nat} (b : Nat → Nat) (C : gx_ok Γ cc own Ts d) (F : gx_finK Γ Wb h0 mc ms) (hd : decode cc pc = .ok (.return_, 1)) (e : b 0 = h0) : gx_G Γ mc ms pc V [] (Wb b) := by
  obtain ⟨w0, hA, hH, hr, hQ⟩ := F
  intro H locs ls hP hD hS hl
  rw [hA] at hD hS
  rw [hH] at hS
  unfold gx_W
  rw [hQ]
  exact W.vret C.1 C.2.1 hr (fun t ht hW => ⟨⟨b, rfl, e, by rw [ht]; exact hP, va_K.moved hW.alike C.2.2.2.2.2.1, hD⟩, hS.F ht⟩) hS.2.2 hd C.2.2.2.2.2.2.2.1
section GNC
variable {Γ : gx_T} {cc : ByteArray} {own : String} {Ts : List Cond} {d k n pc : Nat} {V rest st0 : List Value} {w1 : va_W} {Wb : (Nat → Nat) → va_W} {y : MethodName} {bytes : ByteArray} {maxL ix na d' mc ms mc' ms' b : Nat} {As : List Value} {Us : List Cond} {e0 : va_E}
theorem gn_tail (hr : gx_xt (gx_s Γ) → (∀ H locs ls, gx_L ls (gx_nL Γ) V → va_P (gx_D Γ) (gx_cl Γ) [(b, e0)] H → va_D (gx_A Γ) [(b, e0)] → va_Run (gx_p Γ) (gx_l Γ) (gx_e Γ) (gx_R Γ) (gx_s Γ) (gx_m Γ) (gx_args Γ) (gx_below Γ) (gx_meth Γ) (gx_c Γ) H locs k n mc' ms' (F0 (gx_m Γ) pc ls st0) rest (va_Qv (fun z : Nat → Nat => z 0 = b) (gx_BK (gx_D Γ) (gx_cl Γ) (gx_ty Γ) [(b, e0)] Wb H.size) (va_A [(b, e0)] H.size) (Value.ref b :: As).toArray) (va_A [(b, e0)] H.size))) (C : gx_ok Γ cc own Ts d) (M : gx_mkr Γ mc ms) (kk : ∀ z : Nat → Nat, z 0 = b → gx_G Γ (k + mc') (n + ms') (pc + 3) V rest (w1 ++ Wb z)) : gx_G Γ k n pc V st0 (w1 ++ [(b, e0)]) := fun H locs ls hP hD hS hl => by
  obtain ⟨hP', hD'⟩ := gx_fr2 hP hD
  obtain ⟨hPa, hDa⟩ := gx_left hP' hD'
  have hF := gx_own hDa hS C.2.2.2.2.2.2.1
  refine va_callv (hr M.2.2 H locs ls hl hPa hDa) hS (fun q _ z => hF q z) hF (fun u t H1 locs1 ht hvm hw hB hz1 hk1 hS1 => ?_)
  obtain ⟨hP1, hK1, hD1⟩ := hB
  rw [ht] at hP1
  obtain ⟨hP2, hD2⟩ := gx_fr hP' hD' hk1 hF hP1 hD1
  obtain ⟨hP3, hD3⟩ := gx_fr2 hP2 hD2
  exact kk u hw H1 locs1 ls hP3 hD3 hS1 hl
theorem gn_ctor (C : gx_ok Γ cc own Ts d) (M : gx_mkr Γ mc ms) (hM : gx_mK (gx_l Γ) (gx_D Γ) (gx_cl Γ) (gx_ty Γ) y (.code y bytes maxL none :: Us) (gx_rmc d' mc' ms') (.ref b :: As) [(b, e0)] Wb b mc' ms') (hs : gx_sub Us Ts) (h1 : Cond.methodLink own ix y ∈ Ts) (h2 : Cond.instanceMethod y ∈ Ts) (h3 : Cond.initialized y.cls ∈ Ts) (h4 : Cond.code y bytes maxL none ∈ Ts) (hy : y.name = "<init>") (hy2 : y.cls ≠ "java/lang/invoke/MethodHandle" ∧ y.cls ≠ "java/lang/invoke/VarHandle" ∧ (parseMethodDescriptor y.desc).map (fun d => d.parameters.length) = some na) (hdd : d' < d) (hm : maxL ≤ 21) (hn : As.length = na) (hst : st0 = As.reverse ++ .ref b :: rest) (hW : (rest.map fun v => v.category).sum ≤ 8) (hc : k + mc' ≤ mc) (hsl : n + ms' ≤ ms) (hd : decode cc pc = .ok (.invokespecial ix, 3)) (kk : ∀ z : Nat → Nat, z 0 = b → gx_G Γ (k + mc') (n + ms') (pc + 3) V rest (w1 ++ Wb z)) : gx_G Γ k n pc V st0 (w1 ++ [(b, e0)]) := by
  have ht := C.2.2.2.2.1
  have hf := C.2.2.2.2.2.2.2.2.1
  have hlo := C.2.2.2.2.2.2.2.2.2
  refine gn_tail (As := As) (fun hX H locs ls hl hPa hDa => ?_) C M kk
  exact va_runI (As := As) (rest := rest) ⟨C.1, C.2.1, C.2.2.1, C.2.2.2.1, C.2.2.2.2.1⟩ (hM H.size) (cwI na ht (gx_good hs h4 rfl) rfl rfl rfl (ht _ h3) (ht _ h1) (ht _ h2) hy hy2 ⟨by simp only [gx_rmc]; omega, by simp only [gx_rmc]; omega⟩) ⟨gx_blindK, fun U hU hW => ⟨rfl, by rw [hU], by rw [hU]; exact hPa, va_K.moved hW.alike C.2.2.2.2.2.1, hDa.weaken (fun _ _ _ _ => trivial), gx_xt_warm hW hX⟩⟩ rfl hn (gx_L_size hl) hst (lv_room hW) hd ⟨by rw [M.1]; exact hc, by rw [M.2.1]; exact hsl⟩
theorem gn_ctorN (C : gx_ok Γ cc own Ts d) (M : gx_mkr Γ mc ms) {host : String} (hM : gx_mK (gx_l Γ) (gx_D Γ) (gx_cl Γ) (gx_ty Γ) y (.code y bytes maxL none :: Us) (gx_rmc d' mc' ms') (.ref b :: As) [(b, e0)] Wb b mc' ms') (hs : gx_sub Us Ts) (h1 : gx_xt (gx_s Γ) → va_Nw (.methodLinkNest own ix y host) (gx_s Γ)) (h2 : Cond.instanceMethod y ∈ Ts) (h3 : Cond.initialized y.cls ∈ Ts) (h4 : Cond.code y bytes maxL none ∈ Ts) (hy : y.name = "<init>") (hy2 : y.cls ≠ "java/lang/invoke/MethodHandle" ∧ y.cls ≠ "java/lang/invoke/VarHandle" ∧ (parseMethodDescriptor y.desc).map (fun d => d.parameters.length) = some na) (hdd : d' < d) (hm : maxL ≤ 21) (hn : As.length = na) (hst : st0 = As.reverse ++ .ref b :: rest) (hW : (rest.map fun v => v.category).sum ≤ 8) (hc : k + mc' ≤ mc) (hsl : n + ms' ≤ ms) (hd : decode cc pc = .ok (.invokespecial ix, 3)) (kk : ∀ z : Nat → Nat, z 0 = b → gx_G Γ (k + mc') (n + ms') (pc + 3) V rest (w1 ++ Wb z)) : gx_G Γ k n pc V st0 (w1 ++ [(b, e0)]) := by
  have ht := C.2.2.2.2.1
  have hf := C.2.2.2.2.2.2.2.2.1
  have hlo := C.2.2.2.2.2.2.2.2.2
  refine gn_tail (As := As) (fun hX H locs ls hl hPa hDa => ?_) C M kk
  exact va_runIN (As := As) (rest := rest) ⟨C.1, C.2.1, C.2.2.1, C.2.2.2.1, C.2.2.2.2.1⟩ (hM H.size) ⟨va_cnB na ht (gx_good hs h4 rfl) rfl rfl rfl (h1 hX) (ht _ h3) hy2 ⟨by simp only [gx_rmc]; omega, by simp only [gx_rmc]; omega⟩, hy, ht _ h2⟩ ⟨gx_blindK, fun U hU hW => ⟨rfl, by rw [hU], by rw [hU]; exact hPa, va_K.moved hW.alike C.2.2.2.2.2.1, hDa.weaken (fun _ _ _ _ => trivial), gx_xt_warm hW hX⟩⟩ rfl hn (gx_L_size hl) hst (lv_room hW) hd ⟨by rw [M.1]; exact hc, by rw [M.2.1]; exact hsl⟩
end GNC
/-- other lists of the same cells -/
theorem gx_resort {Γ : gx_T} {k n pc : Nat} {V st : List Value} {ws ws' : va_W} (is : List Nat) (h1 : is.map (fun i => ws[i]?) = ws'.map some) (hn : va_nd is = true) (kk : gx_G Γ k n pc V st ws') : gx_G Γ k n pc V st ws := fun H locs ls hP hD hS hl =>
  kk H locs ls (fun j q hq => by
    have h2 : (is.map (fun i => ws[i]?))[j]? = some (some q) := by rw [h1, List.getElem?_map, hq]; rfl
    rw [List.getElem?_map] at h2
    cases hi : is[j]? with
    | none => rw [hi] at h2; cases h2
    | some i => rw [hi] at h2; exact hP i q (Option.some.inj h2)) (hD.sub is hn h1) hS hl

theorem gn_alen {Γ : gx_T} {cc : ByteArray} {own : String} {Ts : List Cond} {d k n pc : Nat} {V st : List Value} {ws : va_W} (C : gx_ok Γ cc own Ts d) {q0 t0 b N : Nat} {c0 : ClassId} {ty : FieldType} {f : Nat → Option Nat} {v : Int32} (he : ws[q0]? = some (b, .inl (c0, N, .inr (.inr (.inr (.inr f)))))) (ht : (gx_ty Γ)[t0]? = some (c0, ty)) (hv : Int32.ofNat N = v) (hd : decode cc pc = .ok (.arraylength, 1)) (kk : gx_G Γ k n (pc + 1) V (.int v :: st) ws) : gx_G Γ k n pc V (.ref b :: st) ws := fun H locs ls hP hD hS hl =>
  va_alen C.1 C.2.1 C.2.2.2.2.2.1 hP q0 t0 he ht hv hd (kk H locs ls hP hD hS hl)
theorem gx_up4 (a b c d : Nat) : va_up (va_up (va_up (va_up (fun _ => none) 0 (some a)) 1 (some b)) 2 (some c)) 3 (some d) = fun j => ([some a, some b, some c, some d] : List (Option Nat)).getD j none := by
  funext j
  match j with
  | 0 => rfl
  | 1 => rfl
  | 2 => rfl
  | 3 => rfl
  | j + 4 => simp [va_up]
theorem gx_mk_0 : gx_mk 0 0 = 0 := by decide
theorem vn_obj : Cond.instanceMethod objectInit ∈ gx_U := gx_mu (gx_t_1 (List.mem_of_getElem? (i := 18) rfl)) rfl
theorem vc_obj : Cond.code objectInit ⟨#[0xb1]⟩ 1 none ∈ gx_U := gx_mu (gx_t_1 (List.mem_of_getElem? (i := 19) rfl)) rfl
theorem vi_X5 : Cond.initialized RX5 ∈ gx_U := gx_mu (gx_t_1 (List.mem_of_getElem? (i := 2) rfl)) rfl
theorem vn_X5_init : Cond.instanceMethod yX5_init ∈ gx_U := gx_mu (gx_t_1 (List.mem_of_getElem? (i := 23) rfl)) rfl
theorem vc_X5_init : Cond.code yX5_init cX5_init 1 none ∈ gx_U := gx_mu (gx_t_1 (List.mem_of_getElem? (i := 24) rfl)) rfl
theorem df_X5 : ∀ j, j < 14 → defaultValue (tyX5 j) = vp_V [.int 0, .int 0, .int 0, .null, .null, .null, .null, .null, .null, .null, .null, .null, .null, .null] j := fun j hj => match j, hj with
  | 0, _ => rfl
  | 1, _ => rfl
  | 2, _ => rfl
  | 3, _ => rfl
  | 4, _ => rfl
  | 5, _ => rfl
  | 6, _ => rfl
  | 7, _ => rfl
  | 8, _ => rfl
  | 9, _ => rfl
  | 10, _ => rfl
  | 11, _ => rfl
  | 12, _ => rfl
  | 13, _ => rfl
  | j + 14, hj => absurd hj (by omega)
theorem dX5_init_0 : decode cX5_init 0 = .ok (.aload_n 0, 1) := by decide +kernel
theorem dX5_init_1 : decode cX5_init 1 = .ok (.invokespecial 3, 3) := by decide +kernel
theorem dX5_init_4 : decode cX5_init 4 = .ok (.aload_n 0, 1) := by decide +kernel
theorem dX5_init_5 : decode cX5_init 5 = .ok (.bipush 6, 2) := by decide +kernel
theorem dX5_init_7 : decode cX5_init 7 = .ok (.newarray .int, 2) := by decide +kernel
theorem dX5_init_9 : decode cX5_init 9 = .ok (.putfield 9, 3) := by decide +kernel
theorem dX5_init_12 : decode cX5_init 12 = .ok (.aload_n 0, 1) := by decide +kernel
theorem dX5_init_13 : decode cX5_init 13 = .ok (.bipush 6, 2) := by decide +kernel
theorem dX5_init_15 : decode cX5_init 15 = .ok (.newarray .int, 2) := by decide +kernel
theorem dX5_init_17 : decode cX5_init 17 = .ok (.putfield 15, 3) := by decide +kernel
theorem dX5_init_20 : decode cX5_init 20 = .ok (.aload_n 0, 1) := by decide +kernel
theorem dX5_init_21 : decode cX5_init 21 = .ok (.bipush 6, 2) := by decide +kernel
theorem dX5_init_23 : decode cX5_init 23 = .ok (.newarray .int, 2) := by decide +kernel
theorem dX5_init_25 : decode cX5_init 25 = .ok (.putfield 18, 3) := by decide +kernel
theorem dX5_init_28 : decode cX5_init 28 = .ok (.aload_n 0, 1) := by decide +kernel
theorem dX5_init_29 : decode cX5_init 29 = .ok (.bipush 6, 2) := by decide +kernel
theorem dX5_init_31 : decode cX5_init 31 = .ok (.newarray .int, 2) := by decide +kernel
theorem dX5_init_33 : decode cX5_init 33 = .ok (.putfield 21, 3) := by decide +kernel
theorem dX5_init_36 : decode cX5_init 36 = .ok (.aload_n 0, 1) := by decide +kernel
theorem dX5_init_37 : decode cX5_init 37 = .ok (.bipush 8, 2) := by decide +kernel
theorem dX5_init_39 : decode cX5_init 39 = .ok (.newarray .int, 2) := by decide +kernel
theorem dX5_init_41 : decode cX5_init 41 = .ok (.putfield 24, 3) := by decide +kernel
theorem dX5_init_44 : decode cX5_init 44 = .ok (.aload_n 0, 1) := by decide +kernel
theorem dX5_init_45 : decode cX5_init 45 = .ok (.bipush 8, 2) := by decide +kernel
theorem dX5_init_47 : decode cX5_init 47 = .ok (.newarray .int, 2) := by decide +kernel
theorem dX5_init_49 : decode cX5_init 49 = .ok (.putfield 27, 3) := by decide +kernel
theorem dX5_init_52 : decode cX5_init 52 = .ok (.aload_n 0, 1) := by decide +kernel
theorem dX5_init_53 : decode cX5_init 53 = .ok (.bipush 8, 2) := by decide +kernel
theorem dX5_init_55 : decode cX5_init 55 = .ok (.newarray .int, 2) := by decide +kernel
theorem dX5_init_57 : decode cX5_init 57 = .ok (.putfield 30, 3) := by decide +kernel
theorem dX5_init_60 : decode cX5_init 60 = .ok (.aload_n 0, 1) := by decide +kernel
theorem dX5_init_61 : decode cX5_init 61 = .ok (.bipush 8, 2) := by decide +kernel
theorem dX5_init_63 : decode cX5_init 63 = .ok (.newarray .int, 2) := by decide +kernel
theorem dX5_init_65 : decode cX5_init 65 = .ok (.putfield 33, 3) := by decide +kernel
theorem dX5_init_68 : decode cX5_init 68 = .ok (.aload_n 0, 1) := by decide +kernel
theorem dX5_init_69 : decode cX5_init 69 = .ok (.bipush 8, 2) := by decide +kernel
theorem dX5_init_71 : decode cX5_init 71 = .ok (.newarray .int, 2) := by decide +kernel
theorem dX5_init_73 : decode cX5_init 73 = .ok (.putfield 36, 3) := by decide +kernel
theorem dX5_init_76 : decode cX5_init 76 = .ok (.aload_n 0, 1) := by decide +kernel
theorem dX5_init_77 : decode cX5_init 77 = .ok (.bipush 8, 2) := by decide +kernel
theorem dX5_init_79 : decode cX5_init 79 = .ok (.newarray .int, 2) := by decide +kernel
theorem dX5_init_81 : decode cX5_init 81 = .ok (.putfield 39, 3) := by decide +kernel
theorem dX5_init_84 : decode cX5_init 84 = .ok (.aload_n 0, 1) := by decide +kernel
theorem dX5_init_85 : decode cX5_init 85 = .ok (.bipush 8, 2) := by decide +kernel
theorem dX5_init_87 : decode cX5_init 87 = .ok (.bipush 6, 2) := by decide +kernel
theorem dX5_init_89 : decode cX5_init 89 = .ok (.multianewarray 42 2, 4) := by decide +kernel
theorem dX5_init_93 : decode cX5_init 93 = .ok (.putfield 44, 3) := by decide +kernel
theorem dX5_init_96 : decode cX5_init 96 = .ok (.return_, 1) := by decide +kernel
def K_Street (ι : Nat → ClassId) (b : Nat → Nat) : va_W := [(b 0, .inr (5, [.int 0, .int 0, .int 0, .ref (b 1), .ref (b 2), .ref (b 3), .ref (b 4), .ref (b 5), .ref (b 6), .ref (b 7), .ref (b 8), .ref (b 9), .ref (b 10), .ref (b 11)]))] ++ [(b 1, .inl (ι 0, 6, .inl fun _ => 0))] ++ [(b 2, .inl (ι 0, 6, .inl fun _ => 0))] ++ [(b 3, .inl (ι 0, 6, .inl fun _ => 0))] ++ [(b 4, .inl (ι 0, 6, .inl fun _ => 0))] ++ [(b 5, .inl (ι 0, 8, .inl fun _ => 0))] ++ [(b 6, .inl (ι 0, 8, .inl fun _ => 0))] ++ [(b 7, .inl (ι 0, 8, .inl fun _ => 0))] ++ [(b 8, .inl (ι 0, 8, .inl fun _ => 0))] ++ [(b 9, .inl (ι 0, 8, .inl fun _ => 0))] ++ [(b 10, .inl (ι 0, 8, .inl fun _ => 0))] ++ [(b 11, .inl (ι 4, 8, .inr (.inr (.inr (.inr (fun j => ([some (b 12), some (b 13), some (b 14), some (b 15), some (b 16), some (b 17), some (b 18), some (b 19)] : List (Option Nat)).getD j none))))))] ++ [(b 12, .inl (ι 0, 6, .inl fun _ => 0))] ++ [(b 13, .inl (ι 0, 6, .inl fun _ => 0))] ++ [(b 14, .inl (ι 0, 6, .inl fun _ => 0))] ++ [(b 15, .inl (ι 0, 6, .inl fun _ => 0))] ++ [(b 16, .inl (ι 0, 6, .inl fun _ => 0))] ++ [(b 17, .inl (ι 0, 6, .inl fun _ => 0))] ++ [(b 18, .inl (ι 0, 6, .inl fun _ => 0))] ++ [(b 19, .inl (ι 0, 6, .inl fun _ => 0))]
set_option maxRecDepth 40000 in
set_option maxHeartbeats 4000000 in
theorem k_Street (l : Launch) (D : va_G) {cl : List vw_C} {tys : List (ClassId × FieldType)} {ι : Nat → ClassId} (hx : gx_std vwCl (gty ι) cl tys) (h0 : Nat) : gx_mK l D cl tys yX5_init (.code yX5_init cX5_init 1 none :: gx_U) (gx_rmc 1 19 128) [.ref h0] [(h0, .inr (5, [.int 0, .int 0, .int 0, .null, .null, .null, .null, .null, .null, .null, .null, .null, .null, .null]))] (K_Street ι) h0 19 128 := by
  refine gx_startK (V := [.ref h0]) 0 (by decide +kernel) rfl (Nat.le_of_ble_eq_true rfl) rfl (fun Γ hl hD hcl hty hnL C F M hin => ?_)
  subst hl; subst hD; subst hcl; subst hty
  refine gx_aload_0 C dX5_init_0 rfl ?_
  refine gn_obj C gx_mu (gx_t_1 (List.mem_of_getElem? (i := 25) rfl)) rfl vn_obj vc_obj (by decide) (Nat.le_of_ble_eq_true rfl) dX5_init_1 ?_
  refine gx_aload_0 C dX5_init_4 rfl ?_
  refine gx_bipush (v := 6) C dX5_init_5 (by decide) ?_
  refine gn_newa (t0 := 0) (c0 := ι 0) (N := 6) (ty := .int) C M gx_mu (gx_t_1 (List.mem_of_getElem? (i := 108) rfl)) rfl rfl (by rw [hx.2]; rfl) (fun _ => rfl) (by decide) (by decide) (Nat.le_of_ble_eq_true rfl) (by decide) (by decide) dX5_init_7 (fun q1 => ?_)
  refine gn_putF (q0 := 0) C hin fl_X5_9 (cls_X5 hx) rfl rfl rfl rfl rfl (Nat.le_of_ble_eq_true rfl) dX5_init_9 (ws1 := (h0, .inr (5, [.int 0, .int 0, .int 0, .ref q1, .null, .null, .null, .null, .null, .null, .null, .null, .null, .null])) :: (([] : va_W) ++ [(q1, .inl (ι 0, 6, .inl fun _ => 0))])) rfl ?_
  refine gx_aload_0 C dX5_init_12 rfl ?_
  refine gx_bipush (v := 6) C dX5_init_13 (by decide) ?_
  refine gn_newa (t0 := 0) (c0 := ι 0) (N := 6) (ty := .int) C M gx_mu (gx_t_1 (List.mem_of_getElem? (i := 108) rfl)) rfl rfl (by rw [hx.2]; rfl) (fun _ => rfl) (by decide) (by decide) (Nat.le_of_ble_eq_true rfl) (by decide) (by decide) dX5_init_15 (fun q2 => ?_)
  refine gn_putF (q0 := 0) C hin fl_X5_15 (cls_X5 hx) rfl rfl rfl rfl rfl (Nat.le_of_ble_eq_true rfl) dX5_init_17 (ws1 := (h0, .inr (5, [.int 0, .int 0, .int 0, .ref q1, .ref q2, .null, .null, .null, .null, .null, .null, .null, .null, .null])) :: ((([] : va_W) ++ [(q1, .inl (ι 0, 6, .inl fun _ => 0))]) ++ [(q2, .inl (ι 0, 6, .inl fun _ => 0))])) rfl ?_
  refine gx_aload_0 C dX5_init_20 rfl ?_
  refine gx_bipush (v := 6) C dX5_init_21 (by decide) ?_
  refine gn_newa (t0 := 0) (c0 := ι 0) (N := 6) (ty := .int) C M gx_mu (gx_t_1 (List.mem_of_getElem? (i := 108) rfl)) rfl rfl (by rw [hx.2]; rfl) (fun _ => rfl) (by decide) (by decide) (Nat.le_of_ble_eq_true rfl) (by decide) (by decide) dX5_init_23 (fun q3 => ?_)
  refine gn_putF (q0 := 0) C hin fl_X5_18 (cls_X5 hx) rfl rfl rfl rfl rfl (Nat.le_of_ble_eq_true rfl) dX5_init_25 (ws1 := (h0, .inr (5, [.int 0, .int 0, .int 0, .ref q1, .ref q2, .ref q3, .null, .null, .null, .null, .null, .null, .null, .null])) :: (((([] : va_W) ++ [(q1, .inl (ι 0, 6, .inl fun _ => 0))]) ++ [(q2, .inl (ι 0, 6, .inl fun _ => 0))]) ++ [(q3, .inl (ι 0, 6, .inl fun _ => 0))])) rfl ?_
  refine gx_aload_0 C dX5_init_28 rfl ?_
  refine gx_bipush (v := 6) C dX5_init_29 (by decide) ?_
  refine gn_newa (t0 := 0) (c0 := ι 0) (N := 6) (ty := .int) C M gx_mu (gx_t_1 (List.mem_of_getElem? (i := 108) rfl)) rfl rfl (by rw [hx.2]; rfl) (fun _ => rfl) (by decide) (by decide) (Nat.le_of_ble_eq_true rfl) (by decide) (by decide) dX5_init_31 (fun q4 => ?_)
  refine gn_putF (q0 := 0) C hin fl_X5_21 (cls_X5 hx) rfl rfl rfl rfl rfl (Nat.le_of_ble_eq_true rfl) dX5_init_33 (ws1 := (h0, .inr (5, [.int 0, .int 0, .int 0, .ref q1, .ref q2, .ref q3, .ref q4, .null, .null, .null, .null, .null, .null, .null])) :: ((((([] : va_W) ++ [(q1, .inl (ι 0, 6, .inl fun _ => 0))]) ++ [(q2, .inl (ι 0, 6, .inl fun _ => 0))]) ++ [(q3, .inl (ι 0, 6, .inl fun _ => 0))]) ++ [(q4, .inl (ι 0, 6, .inl fun _ => 0))])) rfl ?_
  refine gx_aload_0 C dX5_init_36 rfl ?_
  refine gx_bipush (v := 8) C dX5_init_37 (by decide) ?_
  refine gn_newa (t0 := 0) (c0 := ι 0) (N := 8) (ty := .int) C M gx_mu (gx_t_1 (List.mem_of_getElem? (i := 108) rfl)) rfl rfl (by rw [hx.2]; rfl) (fun _ => rfl) (by decide) (by decide) (Nat.le_of_ble_eq_true rfl) (by decide) (by decide) dX5_init_39 (fun q5 => ?_)
  refine gn_putF (q0 := 0) C hin fl_X5_24 (cls_X5 hx) rfl rfl rfl rfl rfl (Nat.le_of_ble_eq_true rfl) dX5_init_41 (ws1 := (h0, .inr (5, [.int 0, .int 0, .int 0, .ref q1, .ref q2, .ref q3, .ref q4, .ref q5, .null, .null, .null, .null, .null, .null])) :: (((((([] : va_W) ++ [(q1, .inl (ι 0, 6, .inl fun _ => 0))]) ++ [(q2, .inl (ι 0, 6, .inl fun _ => 0))]) ++ [(q3, .inl (ι 0, 6, .inl fun _ => 0))]) ++ [(q4, .inl (ι 0, 6, .inl fun _ => 0))]) ++ [(q5, .inl (ι 0, 8, .inl fun _ => 0))])) rfl ?_
  refine gx_aload_0 C dX5_init_44 rfl ?_
  refine gx_bipush (v := 8) C dX5_init_45 (by decide) ?_
  refine gn_newa (t0 := 0) (c0 := ι 0) (N := 8) (ty := .int) C M gx_mu (gx_t_1 (List.mem_of_getElem? (i := 108) rfl)) rfl rfl (by rw [hx.2]; rfl) (fun _ => rfl) (by decide) (by decide) (Nat.le_of_ble_eq_true rfl) (by decide) (by decide) dX5_init_47 (fun q6 => ?_)
  refine gn_putF (q0 := 0) C hin fl_X5_27 (cls_X5 hx) rfl rfl rfl rfl rfl (Nat.le_of_ble_eq_true rfl) dX5_init_49 (ws1 := (h0, .inr (5, [.int 0, .int 0, .int 0, .ref q1, .ref q2, .ref q3, .ref q4, .ref q5, .ref q6, .null, .null, .null, .null, .null])) :: ((((((([] : va_W) ++ [(q1, .inl (ι 0, 6, .inl fun _ => 0))]) ++ [(q2, .inl (ι 0, 6, .inl fun _ => 0))]) ++ [(q3, .inl (ι 0, 6, .inl fun _ => 0))]) ++ [(q4, .inl (ι 0, 6, .inl fun _ => 0))]) ++ [(q5, .inl (ι 0, 8, .inl fun _ => 0))]) ++ [(q6, .inl (ι 0, 8, .inl fun _ => 0))])) rfl ?_
  refine gx_aload_0 C dX5_init_52 rfl ?_
  refine gx_bipush (v := 8) C dX5_init_53 (by decide) ?_
  refine gn_newa (t0 := 0) (c0 := ι 0) (N := 8) (ty := .int) C M gx_mu (gx_t_1 (List.mem_of_getElem? (i := 108) rfl)) rfl rfl (by rw [hx.2]; rfl) (fun _ => rfl) (by decide) (by decide) (Nat.le_of_ble_eq_true rfl) (by decide) (by decide) dX5_init_55 (fun q7 => ?_)
  refine gn_putF (q0 := 0) C hin fl_X5_30 (cls_X5 hx) rfl rfl rfl rfl rfl (Nat.le_of_ble_eq_true rfl) dX5_init_57 (ws1 := (h0, .inr (5, [.int 0, .int 0, .int 0, .ref q1, .ref q2, .ref q3, .ref q4, .ref q5, .ref q6, .ref q7, .null, .null, .null, .null])) :: (((((((([] : va_W) ++ [(q1, .inl (ι 0, 6, .inl fun _ => 0))]) ++ [(q2, .inl (ι 0, 6, .inl fun _ => 0))]) ++ [(q3, .inl (ι 0, 6, .inl fun _ => 0))]) ++ [(q4, .inl (ι 0, 6, .inl fun _ => 0))]) ++ [(q5, .inl (ι 0, 8, .inl fun _ => 0))]) ++ [(q6, .inl (ι 0, 8, .inl fun _ => 0))]) ++ [(q7, .inl (ι 0, 8, .inl fun _ => 0))])) rfl ?_
  refine gx_aload_0 C dX5_init_60 rfl ?_
  refine gx_bipush (v := 8) C dX5_init_61 (by decide) ?_
  refine gn_newa (t0 := 0) (c0 := ι 0) (N := 8) (ty := .int) C M gx_mu (gx_t_1 (List.mem_of_getElem? (i := 108) rfl)) rfl rfl (by rw [hx.2]; rfl) (fun _ => rfl) (by decide) (by decide) (Nat.le_of_ble_eq_true rfl) (by decide) (by decide) dX5_init_63 (fun q8 => ?_)
  refine gn_putF (q0 := 0) C hin fl_X5_33 (cls_X5 hx) rfl rfl rfl rfl rfl (Nat.le_of_ble_eq_true rfl) dX5_init_65 (ws1 := (h0, .inr (5, [.int 0, .int 0, .int 0, .ref q1, .ref q2, .ref q3, .ref q4, .ref q5, .ref q6, .ref q7, .ref q8, .null, .null, .null])) :: ((((((((([] : va_W) ++ [(q1, .inl (ι 0, 6, .inl fun _ => 0))]) ++ [(q2, .inl (ι 0, 6, .inl fun _ => 0))]) ++ [(q3, .inl (ι 0, 6, .inl fun _ => 0))]) ++ [(q4, .inl (ι 0, 6, .inl fun _ => 0))]) ++ [(q5, .inl (ι 0, 8, .inl fun _ => 0))]) ++ [(q6, .inl (ι 0, 8, .inl fun _ => 0))]) ++ [(q7, .inl (ι 0, 8, .inl fun _ => 0))]) ++ [(q8, .inl (ι 0, 8, .inl fun _ => 0))])) rfl ?_
  refine gx_aload_0 C dX5_init_68 rfl ?_
  refine gx_bipush (v := 8) C dX5_init_69 (by decide) ?_
  refine gn_newa (t0 := 0) (c0 := ι 0) (N := 8) (ty := .int) C M gx_mu (gx_t_1 (List.mem_of_getElem? (i := 108) rfl)) rfl rfl (by rw [hx.2]; rfl) (fun _ => rfl) (by decide) (by decide) (Nat.le_of_ble_eq_true rfl) (by decide) (by decide) dX5_init_71 (fun q9 => ?_)
  refine gn_putF (q0 := 0) C hin fl_X5_36 (cls_X5 hx) rfl rfl rfl rfl rfl (Nat.le_of_ble_eq_true rfl) dX5_init_73 (ws1 := (h0, .inr (5, [.int 0, .int 0, .int 0, .ref q1, .ref q2, .ref q3, .ref q4, .ref q5, .ref q6, .ref q7, .ref q8, .ref q9, .null, .null])) :: (((((((((([] : va_W) ++ [(q1, .inl (ι 0, 6, .inl fun _ => 0))]) ++ [(q2, .inl (ι 0, 6, .inl fun _ => 0))]) ++ [(q3, .inl (ι 0, 6, .inl fun _ => 0))]) ++ [(q4, .inl (ι 0, 6, .inl fun _ => 0))]) ++ [(q5, .inl (ι 0, 8, .inl fun _ => 0))]) ++ [(q6, .inl (ι 0, 8, .inl fun _ => 0))]) ++ [(q7, .inl (ι 0, 8, .inl fun _ => 0))]) ++ [(q8, .inl (ι 0, 8, .inl fun _ => 0))]) ++ [(q9, .inl (ι 0, 8, .inl fun _ => 0))])) rfl ?_
  refine gx_aload_0 C dX5_init_76 rfl ?_
  refine gx_bipush (v := 8) C dX5_init_77 (by decide) ?_
  refine gn_newa (t0 := 0) (c0 := ι 0) (N := 8) (ty := .int) C M gx_mu (gx_t_1 (List.mem_of_getElem? (i := 108) rfl)) rfl rfl (by rw [hx.2]; rfl) (fun _ => rfl) (by decide) (by decide) (Nat.le_of_ble_eq_true rfl) (by decide) (by decide) dX5_init_79 (fun q10 => ?_)
  refine gn_putF (q0 := 0) C hin fl_X5_39 (cls_X5 hx) rfl rfl rfl rfl rfl (Nat.le_of_ble_eq_true rfl) dX5_init_81 (ws1 := (h0, .inr (5, [.int 0, .int 0, .int 0, .ref q1, .ref q2, .ref q3, .ref q4, .ref q5, .ref q6, .ref q7, .ref q8, .ref q9, .ref q10, .null])) :: ((((((((((([] : va_W) ++ [(q1, .inl (ι 0, 6, .inl fun _ => 0))]) ++ [(q2, .inl (ι 0, 6, .inl fun _ => 0))]) ++ [(q3, .inl (ι 0, 6, .inl fun _ => 0))]) ++ [(q4, .inl (ι 0, 6, .inl fun _ => 0))]) ++ [(q5, .inl (ι 0, 8, .inl fun _ => 0))]) ++ [(q6, .inl (ι 0, 8, .inl fun _ => 0))]) ++ [(q7, .inl (ι 0, 8, .inl fun _ => 0))]) ++ [(q8, .inl (ι 0, 8, .inl fun _ => 0))]) ++ [(q9, .inl (ι 0, 8, .inl fun _ => 0))]) ++ [(q10, .inl (ι 0, 8, .inl fun _ => 0))])) rfl ?_
  refine gx_aload_0 C dX5_init_84 rfl ?_
  refine gx_bipush (v := 8) C dX5_init_85 (by decide) ?_
  refine gx_bipush (v := 6) C dX5_init_87 (by decide) ?_
  refine gn_mna (t0 := 4) (t1 := 0) (c0 := ι 4) (c1 := ι 0) (N := 8) (K := 6) C M gx_mu (gx_t_1 (List.mem_of_getElem? (i := 26) rfl)) rfl M.2.2.2.1 gx_mu (gx_t_1 (List.mem_of_getElem? (i := 108) rfl)) rfl (by rw [hx.2]; rfl) (by rw [hx.2]; rfl) (by decide) (by decide) (by decide) (by decide) (Nat.le_of_ble_eq_true rfl) (Nat.le_of_ble_eq_true rfl) (by decide) (by decide) dX5_init_89 (fun q11 r12 => ?_)
  refine gn_putF (q0 := 0) C hin fl_X5_44 (cls_X5 hx) rfl rfl rfl rfl rfl (Nat.le_of_ble_eq_true rfl) dX5_init_93 (ws1 := (h0, .inr (5, [.int 0, .int 0, .int 0, .ref q1, .ref q2, .ref q3, .ref q4, .ref q5, .ref q6, .ref q7, .ref q8, .ref q9, .ref q10, .ref q11])) :: (((((((((((([] : va_W) ++ [(q1, .inl (ι 0, 6, .inl fun _ => 0))]) ++ [(q2, .inl (ι 0, 6, .inl fun _ => 0))]) ++ [(q3, .inl (ι 0, 6, .inl fun _ => 0))]) ++ [(q4, .inl (ι 0, 6, .inl fun _ => 0))]) ++ [(q5, .inl (ι 0, 8, .inl fun _ => 0))]) ++ [(q6, .inl (ι 0, 8, .inl fun _ => 0))]) ++ [(q7, .inl (ι 0, 8, .inl fun _ => 0))]) ++ [(q8, .inl (ι 0, 8, .inl fun _ => 0))]) ++ [(q9, .inl (ι 0, 8, .inl fun _ => 0))]) ++ [(q10, .inl (ι 0, 8, .inl fun _ => 0))]) ++ ((q11, .inl (ι 4, 8, .inr (.inr (.inr (.inr (gx_tb 8 r12)))))) :: (List.range 8).map (fun i => (r12 i, .inl (ι 0, 6, .inl fun _ => 0)))))) rfl ?_
  refine gx_world (ws' := K_Street ι (fun k => ([h0, q1, q2, q3, q4, q5, q6, q7, q8, q9, q10, q11, r12 0, r12 1, r12 2, r12 3, r12 4, r12 5, r12 6, r12 7] : List Nat).getD k 0)) rfl ?_
  exact gn_vret (Wb := K_Street ι) (fun k => ([h0, q1, q2, q3, q4, q5, q6, q7, q8, q9, q10, q11, r12 0, r12 1, r12 2, r12 3, r12 4, r12 5, r12 6, r12 7] : List Nat).getD k 0) C F dX5_init_96 rfl
theorem vi_X4 : Cond.initialized RX4 ∈ gx_U := gx_mu (gx_t_1 (List.mem_of_getElem? (i := 3) rfl)) rfl
theorem vn_X4_init : Cond.instanceMethod yX4_init ∈ gx_U := gx_mu (gx_t_1 (List.mem_of_getElem? (i := 112) rfl)) rfl
theorem vc_X4_init : Cond.code yX4_init cX4_init 2 none ∈ gx_U := gx_mu (gx_t_1 (List.mem_of_getElem? (i := 113) rfl)) rfl
theorem df_X4 : ∀ j, j < 4 → defaultValue (tyX4 j) = vp_V [.null, .null, .null, .null] j := fun j hj => match j, hj with
  | 0, _ => rfl
  | 1, _ => rfl
  | 2, _ => rfl
  | 3, _ => rfl
  | j + 4, hj => absurd hj (by omega)
theorem dX4_init_0 : decode cX4_init 0 = .ok (.aload_n 0, 1) := by decide +kernel
theorem dX4_init_1 : decode cX4_init 1 = .ok (.invokespecial 3, 3) := by decide +kernel
theorem dX4_init_4 : decode cX4_init 4 = .ok (.aload_n 0, 1) := by decide +kernel
theorem dX4_init_5 : decode cX4_init 5 = .ok (.bipush 6, 2) := by decide +kernel
theorem dX4_init_7 : decode cX4_init 7 = .ok (.newarray .int, 2) := by decide +kernel
theorem dX4_init_9 : decode cX4_init 9 = .ok (.putfield 9, 3) := by decide +kernel
theorem dX4_init_12 : decode cX4_init 12 = .ok (.aload_n 0, 1) := by decide +kernel
theorem dX4_init_13 : decode cX4_init 13 = .ok (.bipush 6, 2) := by decide +kernel
theorem dX4_init_15 : decode cX4_init 15 = .ok (.newarray .int, 2) := by decide +kernel
theorem dX4_init_17 : decode cX4_init 17 = .ok (.putfield 15, 3) := by decide +kernel
theorem dX4_init_20 : decode cX4_init 20 = .ok (.aload_n 0, 1) := by decide +kernel
theorem dX4_init_21 : decode cX4_init 21 = .ok (.bipush 6, 2) := by decide +kernel
theorem dX4_init_23 : decode cX4_init 23 = .ok (.newarray .boolean, 2) := by decide +kernel
theorem dX4_init_25 : decode cX4_init 25 = .ok (.putfield 18, 3) := by decide +kernel
theorem dX4_init_28 : decode cX4_init 28 = .ok (.aload_n 0, 1) := by decide +kernel
theorem dX4_init_29 : decode cX4_init 29 = .ok (.aload_n 1, 1) := by decide +kernel
theorem dX4_init_30 : decode cX4_init 30 = .ok (.putfield 22, 3) := by decide +kernel
theorem dX4_init_33 : decode cX4_init 33 = .ok (.return_, 1) := by decide +kernel
def K_Standing (ι : Nat → ClassId) (p1 : Nat) (b : Nat → Nat) : va_W := [(b 0, .inr (4, [.ref p1, .ref (b 1), .ref (b 2), .ref (b 3)]))] ++ [(b 1, .inl (ι 0, 6, .inl fun _ => 0))] ++ [(b 2, .inl (ι 0, 6, .inl fun _ => 0))] ++ [(b 3, .inl (ι 1, 6, .inl fun _ => 0))]
set_option maxRecDepth 40000 in
set_option maxHeartbeats 4000000 in
theorem k_Standing (l : Launch) (D : va_G) {cl : List vw_C} {tys : List (ClassId × FieldType)} {ι : Nat → ClassId} (hx : gx_std vwCl (gty ι) cl tys) (h0 : Nat) (p1 : Nat) : gx_mK l D cl tys yX4_init (.code yX4_init cX4_init 2 none :: gx_U) (gx_rmc 1 3 18) [.ref h0, .ref p1] [(h0, .inr (4, [.null, .null, .null, .null]))] (K_Standing ι p1) h0 3 18 := by
  refine gx_startK (V := [.ref h0, .ref p1]) 0 (by decide +kernel) rfl (Nat.le_of_ble_eq_true rfl) rfl (fun Γ hl hD hcl hty hnL C F M hin => ?_)
  subst hl; subst hD; subst hcl; subst hty
  refine gx_aload_0 C dX4_init_0 rfl ?_
  refine gn_obj C gx_mu (gx_t_1 (List.mem_of_getElem? (i := 114) rfl)) rfl vn_obj vc_obj (by decide) (Nat.le_of_ble_eq_true rfl) dX4_init_1 ?_
  refine gx_aload_0 C dX4_init_4 rfl ?_
  refine gx_bipush (v := 6) C dX4_init_5 (by decide) ?_
  refine gn_newa (t0 := 0) (c0 := ι 0) (N := 6) (ty := .int) C M gx_mu (gx_t_1 (List.mem_of_getElem? (i := 108) rfl)) rfl rfl (by rw [hx.2]; rfl) (fun _ => rfl) (by decide) (by decide) (Nat.le_of_ble_eq_true rfl) (by decide) (by decide) dX4_init_7 (fun q1 => ?_)
  refine gn_putF (q0 := 0) C hin fl_X4_9 (cls_X4 hx) rfl rfl rfl rfl rfl (Nat.le_of_ble_eq_true rfl) dX4_init_9 (ws1 := (h0, .inr (4, [.null, .ref q1, .null, .null])) :: (([] : va_W) ++ [(q1, .inl (ι 0, 6, .inl fun _ => 0))])) rfl ?_
  refine gx_aload_0 C dX4_init_12 rfl ?_
  refine gx_bipush (v := 6) C dX4_init_13 (by decide) ?_
  refine gn_newa (t0 := 0) (c0 := ι 0) (N := 6) (ty := .int) C M gx_mu (gx_t_1 (List.mem_of_getElem? (i := 108) rfl)) rfl rfl (by rw [hx.2]; rfl) (fun _ => rfl) (by decide) (by decide) (Nat.le_of_ble_eq_true rfl) (by decide) (by decide) dX4_init_15 (fun q2 => ?_)
  refine gn_putF (q0 := 0) C hin fl_X4_15 (cls_X4 hx) rfl rfl rfl rfl rfl (Nat.le_of_ble_eq_true rfl) dX4_init_17 (ws1 := (h0, .inr (4, [.null, .ref q1, .ref q2, .null])) :: ((([] : va_W) ++ [(q1, .inl (ι 0, 6, .inl fun _ => 0))]) ++ [(q2, .inl (ι 0, 6, .inl fun _ => 0))])) rfl ?_
  refine gx_aload_0 C dX4_init_20 rfl ?_
  refine gx_bipush (v := 6) C dX4_init_21 (by decide) ?_
  refine gn_newa (t0 := 1) (c0 := ι 1) (N := 6) (ty := .boolean) C M gx_mu (gx_t_1 (List.mem_of_getElem? (i := 136) rfl)) rfl rfl (by rw [hx.2]; rfl) (fun _ => rfl) (by decide) (by decide) (Nat.le_of_ble_eq_true rfl) (by decide) (by decide) dX4_init_23 (fun q3 => ?_)
  refine gn_putF (q0 := 0) C hin fl_X4_18 (cls_X4 hx) rfl rfl rfl rfl rfl (Nat.le_of_ble_eq_true rfl) dX4_init_25 (ws1 := (h0, .inr (4, [.null, .ref q1, .ref q2, .ref q3])) :: (((([] : va_W) ++ [(q1, .inl (ι 0, 6, .inl fun _ => 0))]) ++ [(q2, .inl (ι 0, 6, .inl fun _ => 0))]) ++ [(q3, .inl (ι 1, 6, .inl fun _ => 0))])) rfl ?_
  refine gx_aload_0 C dX4_init_28 rfl ?_
  refine gx_aload_1 C dX4_init_29 rfl ?_
  refine gn_putF (q0 := 0) C hin fl_X4_22 (cls_X4 hx) rfl rfl rfl rfl rfl (Nat.le_of_ble_eq_true rfl) dX4_init_30 (ws1 := (h0, .inr (4, [.ref p1, .ref q1, .ref q2, .ref q3])) :: (((([] : va_W) ++ [(q1, .inl (ι 0, 6, .inl fun _ => 0))]) ++ [(q2, .inl (ι 0, 6, .inl fun _ => 0))]) ++ [(q3, .inl (ι 1, 6, .inl fun _ => 0))])) rfl ?_
  refine gx_world (ws' := K_Standing ι p1 (fun k => ([h0, q1, q2, q3] : List Nat).getD k 0)) rfl ?_
  exact gn_vret (Wb := K_Standing ι p1) (fun k => ([h0, q1, q2, q3] : List Nat).getD k 0) C F dX4_init_33 rfl
theorem vi_X0 : Cond.initialized RX0 ∈ gx_U := gx_mu (gx_t_1 (List.mem_of_getElem? (i := 4) rfl)) rfl
theorem vn_X0_init : Cond.instanceMethod yX0_init ∈ gx_U := gx_mu (gx_t_1 (List.mem_of_getElem? (i := 140) rfl)) rfl
theorem vc_X0_init : Cond.code yX0_init cX0_init 2 none ∈ gx_U := gx_mu (gx_t_1 (List.mem_of_getElem? (i := 141) rfl)) rfl
theorem df_X0 : ∀ j, j < 13 → defaultValue (tyX0 j) = vp_V [.null, .null, .null, .null, .null, .int 0, .null, .null, .null, .null, .null, .int 0, .int 0] j := fun j hj => match j, hj with
  | 0, _ => rfl
  | 1, _ => rfl
  | 2, _ => rfl
  | 3, _ => rfl
  | 4, _ => rfl
  | 5, _ => rfl
  | 6, _ => rfl
  | 7, _ => rfl
  | 8, _ => rfl
  | 9, _ => rfl
  | 10, _ => rfl
  | 11, _ => rfl
  | 12, _ => rfl
  | j + 13, hj => absurd hj (by omega)
theorem dX0_init_0 : decode cX0_init 0 = .ok (.aload_n 0, 1) := by decide +kernel
theorem dX0_init_1 : decode cX0_init 1 = .ok (.invokespecial 3, 3) := by decide +kernel
theorem dX0_init_4 : decode cX0_init 4 = .ok (.aload_n 0, 1) := by decide +kernel
theorem dX0_init_5 : decode cX0_init 5 = .ok (.iconst 3, 1) := by decide +kernel
theorem dX0_init_6 : decode cX0_init 6 = .ok (.newarray .int, 2) := by decide +kernel
theorem dX0_init_8 : decode cX0_init 8 = .ok (.putfield 9, 3) := by decide +kernel
theorem dX0_init_11 : decode cX0_init 11 = .ok (.aload_n 0, 1) := by decide +kernel
theorem dX0_init_12 : decode cX0_init 12 = .ok (.iconst 3, 1) := by decide +kernel
theorem dX0_init_13 : decode cX0_init 13 = .ok (.newarray .int, 2) := by decide +kernel
theorem dX0_init_15 : decode cX0_init 15 = .ok (.putfield 15, 3) := by decide +kernel
theorem dX0_init_18 : decode cX0_init 18 = .ok (.aload_n 0, 1) := by decide +kernel
theorem dX0_init_19 : decode cX0_init 19 = .ok (.iconst 3, 1) := by decide +kernel
theorem dX0_init_20 : decode cX0_init 20 = .ok (.newarray .int, 2) := by decide +kernel
theorem dX0_init_22 : decode cX0_init 22 = .ok (.putfield 18, 3) := by decide +kernel
theorem dX0_init_25 : decode cX0_init 25 = .ok (.aload_n 0, 1) := by decide +kernel
theorem dX0_init_26 : decode cX0_init 26 = .ok (.iconst 3, 1) := by decide +kernel
theorem dX0_init_27 : decode cX0_init 27 = .ok (.newarray .int, 2) := by decide +kernel
theorem dX0_init_29 : decode cX0_init 29 = .ok (.putfield 21, 3) := by decide +kernel
theorem dX0_init_32 : decode cX0_init 32 = .ok (.aload_n 0, 1) := by decide +kernel
theorem dX0_init_33 : decode cX0_init 33 = .ok (.iconst 4, 1) := by decide +kernel
theorem dX0_init_34 : decode cX0_init 34 = .ok (.bipush 8, 2) := by decide +kernel
theorem dX0_init_36 : decode cX0_init 36 = .ok (.multianewarray 24 2, 4) := by decide +kernel
theorem dX0_init_40 : decode cX0_init 40 = .ok (.putfield 26, 3) := by decide +kernel
theorem dX0_init_43 : decode cX0_init 43 = .ok (.aload_n 0, 1) := by decide +kernel
theorem dX0_init_44 : decode cX0_init 44 = .ok (.iconst 4, 1) := by decide +kernel
theorem dX0_init_45 : decode cX0_init 45 = .ok (.bipush 8, 2) := by decide +kernel
theorem dX0_init_47 : decode cX0_init 47 = .ok (.multianewarray 24 2, 4) := by decide +kernel
theorem dX0_init_51 : decode cX0_init 51 = .ok (.putfield 29, 3) := by decide +kernel
theorem dX0_init_54 : decode cX0_init 54 = .ok (.aload_n 0, 1) := by decide +kernel
theorem dX0_init_55 : decode cX0_init 55 = .ok (.iconst 4, 1) := by decide +kernel
theorem dX0_init_56 : decode cX0_init 56 = .ok (.bipush 8, 2) := by decide +kernel
theorem dX0_init_58 : decode cX0_init 58 = .ok (.multianewarray 24 2, 4) := by decide +kernel
theorem dX0_init_62 : decode cX0_init 62 = .ok (.putfield 32, 3) := by decide +kernel
theorem dX0_init_65 : decode cX0_init 65 = .ok (.aload_n 0, 1) := by decide +kernel
theorem dX0_init_66 : decode cX0_init 66 = .ok (.bipush 10, 2) := by decide +kernel
theorem dX0_init_68 : decode cX0_init 68 = .ok (.newarray .int, 2) := by decide +kernel
theorem dX0_init_70 : decode cX0_init 70 = .ok (.putfield 35, 3) := by decide +kernel
theorem dX0_init_73 : decode cX0_init 73 = .ok (.aload_n 0, 1) := by decide +kernel
theorem dX0_init_74 : decode cX0_init 74 = .ok (.bipush 10, 2) := by decide +kernel
theorem dX0_init_76 : decode cX0_init 76 = .ok (.newarray .int, 2) := by decide +kernel
theorem dX0_init_78 : decode cX0_init 78 = .ok (.putfield 38, 3) := by decide +kernel
theorem dX0_init_81 : decode cX0_init 81 = .ok (.aload_n 0, 1) := by decide +kernel
theorem dX0_init_82 : decode cX0_init 82 = .ok (.aload_n 1, 1) := by decide +kernel
theorem dX0_init_83 : decode cX0_init 83 = .ok (.putfield 41, 3) := by decide +kernel
theorem dX0_init_86 : decode cX0_init 86 = .ok (.return_, 1) := by decide +kernel
def K_Bests (ι : Nat → ClassId) (p1 : Nat) (b : Nat → Nat) : va_W := [(b 0, .inr (0, [.ref p1, .ref (b 1), .ref (b 2), .ref (b 3), .ref (b 4), .int 0, .ref (b 5), .ref (b 10), .ref (b 15), .ref (b 20), .ref (b 21), .int 0, .int 0]))] ++ [(b 1, .inl (ι 0, 3, .inl fun _ => 0))] ++ [(b 2, .inl (ι 0, 3, .inl fun _ => 0))] ++ [(b 3, .inl (ι 0, 3, .inl fun _ => 0))] ++ [(b 4, .inl (ι 0, 3, .inl fun _ => 0))] ++ [(b 5, .inl (ι 4, 4, .inr (.inr (.inr (.inr (fun j => ([some (b 6), some (b 7), some (b 8), some (b 9)] : List (Option Nat)).getD j none))))))] ++ [(b 6, .inl (ι 0, 8, .inl fun _ => 0))] ++ [(b 7, .inl (ι 0, 8, .inl fun _ => 0))] ++ [(b 8, .inl (ι 0, 8, .inl fun _ => 0))] ++ [(b 9, .inl (ι 0, 8, .inl fun _ => 0))] ++ [(b 10, .inl (ι 4, 4, .inr (.inr (.inr (.inr (fun j => ([some (b 11), some (b 12), some (b 13), some (b 14)] : List (Option Nat)).getD j none))))))] ++ [(b 11, .inl (ι 0, 8, .inl fun _ => 0))] ++ [(b 12, .inl (ι 0, 8, .inl fun _ => 0))] ++ [(b 13, .inl (ι 0, 8, .inl fun _ => 0))] ++ [(b 14, .inl (ι 0, 8, .inl fun _ => 0))] ++ [(b 15, .inl (ι 4, 4, .inr (.inr (.inr (.inr (fun j => ([some (b 16), some (b 17), some (b 18), some (b 19)] : List (Option Nat)).getD j none))))))] ++ [(b 16, .inl (ι 0, 8, .inl fun _ => 0))] ++ [(b 17, .inl (ι 0, 8, .inl fun _ => 0))] ++ [(b 18, .inl (ι 0, 8, .inl fun _ => 0))] ++ [(b 19, .inl (ι 0, 8, .inl fun _ => 0))] ++ [(b 20, .inl (ι 0, 10, .inl fun _ => 0))] ++ [(b 21, .inl (ι 0, 10, .inl fun _ => 0))]
set_option maxRecDepth 40000 in
set_option maxHeartbeats 4000000 in
theorem k_Bests (l : Launch) (D : va_G) {cl : List vw_C} {tys : List (ClassId × FieldType)} {ι : Nat → ClassId} (hx : gx_std vwCl (gty ι) cl tys) (h0 : Nat) (p1 : Nat) : gx_mK l D cl tys yX0_init (.code yX0_init cX0_init 2 none :: gx_U) (gx_rmc 1 21 140) [.ref h0, .ref p1] [(h0, .inr (0, [.null, .null, .null, .null, .null, .int 0, .null, .null, .null, .null, .null, .int 0, .int 0]))] (K_Bests ι p1) h0 21 140 := by
  refine gx_startK (V := [.ref h0, .ref p1]) 0 (by decide +kernel) rfl (Nat.le_of_ble_eq_true rfl) rfl (fun Γ hl hD hcl hty hnL C F M hin => ?_)
  subst hl; subst hD; subst hcl; subst hty
  refine gx_aload_0 C dX0_init_0 rfl ?_
  refine gn_obj C gx_mu (gx_t_1 (List.mem_of_getElem? (i := 142) rfl)) rfl vn_obj vc_obj (by decide) (Nat.le_of_ble_eq_true rfl) dX0_init_1 ?_
  refine gx_aload_0 C dX0_init_4 rfl ?_
  refine gx_iconst3 C dX0_init_5 ?_
  refine gn_newa (t0 := 0) (c0 := ι 0) (N := 3) (ty := .int) C M gx_mu (gx_t_1 (List.mem_of_getElem? (i := 108) rfl)) rfl rfl (by rw [hx.2]; rfl) (fun _ => rfl) (by decide) (by decide) (Nat.le_of_ble_eq_true rfl) (by decide) (by decide) dX0_init_6 (fun q1 => ?_)
  refine gn_putF (q0 := 0) C hin fl_X0_9 (cls_X0 hx) rfl rfl rfl rfl rfl (Nat.le_of_ble_eq_true rfl) dX0_init_8 (ws1 := (h0, .inr (0, [.null, .ref q1, .null, .null, .null, .int 0, .null, .null, .null, .null, .null, .int 0, .int 0])) :: (([] : va_W) ++ [(q1, .inl (ι 0, 3, .inl fun _ => 0))])) rfl ?_
  refine gx_aload_0 C dX0_init_11 rfl ?_
  refine gx_iconst3 C dX0_init_12 ?_
  refine gn_newa (t0 := 0) (c0 := ι 0) (N := 3) (ty := .int) C M gx_mu (gx_t_1 (List.mem_of_getElem? (i := 108) rfl)) rfl rfl (by rw [hx.2]; rfl) (fun _ => rfl) (by decide) (by decide) (Nat.le_of_ble_eq_true rfl) (by decide) (by decide) dX0_init_13 (fun q2 => ?_)
  refine gn_putF (q0 := 0) C hin fl_X0_15 (cls_X0 hx) rfl rfl rfl rfl rfl (Nat.le_of_ble_eq_true rfl) dX0_init_15 (ws1 := (h0, .inr (0, [.null, .ref q1, .ref q2, .null, .null, .int 0, .null, .null, .null, .null, .null, .int 0, .int 0])) :: ((([] : va_W) ++ [(q1, .inl (ι 0, 3, .inl fun _ => 0))]) ++ [(q2, .inl (ι 0, 3, .inl fun _ => 0))])) rfl ?_
  refine gx_aload_0 C dX0_init_18 rfl ?_
  refine gx_iconst3 C dX0_init_19 ?_
  refine gn_newa (t0 := 0) (c0 := ι 0) (N := 3) (ty := .int) C M gx_mu (gx_t_1 (List.mem_of_getElem? (i := 108) rfl)) rfl rfl (by rw [hx.2]; rfl) (fun _ => rfl) (by decide) (by decide) (Nat.le_of_ble_eq_true rfl) (by decide) (by decide) dX0_init_20 (fun q3 => ?_)
  refine gn_putF (q0 := 0) C hin fl_X0_18 (cls_X0 hx) rfl rfl rfl rfl rfl (Nat.le_of_ble_eq_true rfl) dX0_init_22 (ws1 := (h0, .inr (0, [.null, .ref q1, .ref q2, .ref q3, .null, .int 0, .null, .null, .null, .null, .null, .int 0, .int 0])) :: (((([] : va_W) ++ [(q1, .inl (ι 0, 3, .inl fun _ => 0))]) ++ [(q2, .inl (ι 0, 3, .inl fun _ => 0))]) ++ [(q3, .inl (ι 0, 3, .inl fun _ => 0))])) rfl ?_
  refine gx_aload_0 C dX0_init_25 rfl ?_
  refine gx_iconst3 C dX0_init_26 ?_
  refine gn_newa (t0 := 0) (c0 := ι 0) (N := 3) (ty := .int) C M gx_mu (gx_t_1 (List.mem_of_getElem? (i := 108) rfl)) rfl rfl (by rw [hx.2]; rfl) (fun _ => rfl) (by decide) (by decide) (Nat.le_of_ble_eq_true rfl) (by decide) (by decide) dX0_init_27 (fun q4 => ?_)
  refine gn_putF (q0 := 0) C hin fl_X0_21 (cls_X0 hx) rfl rfl rfl rfl rfl (Nat.le_of_ble_eq_true rfl) dX0_init_29 (ws1 := (h0, .inr (0, [.null, .ref q1, .ref q2, .ref q3, .ref q4, .int 0, .null, .null, .null, .null, .null, .int 0, .int 0])) :: ((((([] : va_W) ++ [(q1, .inl (ι 0, 3, .inl fun _ => 0))]) ++ [(q2, .inl (ι 0, 3, .inl fun _ => 0))]) ++ [(q3, .inl (ι 0, 3, .inl fun _ => 0))]) ++ [(q4, .inl (ι 0, 3, .inl fun _ => 0))])) rfl ?_
  refine gx_aload_0 C dX0_init_32 rfl ?_
  refine gx_iconst4 C dX0_init_33 ?_
  refine gx_bipush (v := 8) C dX0_init_34 (by decide) ?_
  refine gn_mna (t0 := 4) (t1 := 0) (c0 := ι 4) (c1 := ι 0) (N := 4) (K := 8) C M gx_mu (gx_t_1 (List.mem_of_getElem? (i := 143) rfl)) rfl M.2.2.2.1 gx_mu (gx_t_1 (List.mem_of_getElem? (i := 108) rfl)) rfl (by rw [hx.2]; rfl) (by rw [hx.2]; rfl) (by decide) (by decide) (by decide) (by decide) (Nat.le_of_ble_eq_true rfl) (Nat.le_of_ble_eq_true rfl) (by decide) (by decide) dX0_init_36 (fun q5 r6 => ?_)
  refine gn_putF (q0 := 0) C hin fl_X0_26 (cls_X0 hx) rfl rfl rfl rfl rfl (Nat.le_of_ble_eq_true rfl) dX0_init_40 (ws1 := (h0, .inr (0, [.null, .ref q1, .ref q2, .ref q3, .ref q4, .int 0, .ref q5, .null, .null, .null, .null, .int 0, .int 0])) :: (((((([] : va_W) ++ [(q1, .inl (ι 0, 3, .inl fun _ => 0))]) ++ [(q2, .inl (ι 0, 3, .inl fun _ => 0))]) ++ [(q3, .inl (ι 0, 3, .inl fun _ => 0))]) ++ [(q4, .inl (ι 0, 3, .inl fun _ => 0))]) ++ ((q5, .inl (ι 4, 4, .inr (.inr (.inr (.inr (gx_tb 4 r6)))))) :: (List.range 4).map (fun i => (r6 i, .inl (ι 0, 8, .inl fun _ => 0)))))) rfl ?_
  refine gx_aload_0 C dX0_init_43 rfl ?_
  refine gx_iconst4 C dX0_init_44 ?_
  refine gx_bipush (v := 8) C dX0_init_45 (by decide) ?_
  refine gn_mna (t0 := 4) (t1 := 0) (c0 := ι 4) (c1 := ι 0) (N := 4) (K := 8) C M gx_mu (gx_t_1 (List.mem_of_getElem? (i := 143) rfl)) rfl M.2.2.2.1 gx_mu (gx_t_1 (List.mem_of_getElem? (i := 108) rfl)) rfl (by rw [hx.2]; rfl) (by rw [hx.2]; rfl) (by decide) (by decide) (by decide) (by decide) (Nat.le_of_ble_eq_true rfl) (Nat.le_of_ble_eq_true rfl) (by decide) (by decide) dX0_init_47 (fun q7 r8 => ?_)
  refine gn_putF (q0 := 0) C hin fl_X0_29 (cls_X0 hx) rfl rfl rfl rfl rfl (Nat.le_of_ble_eq_true rfl) dX0_init_51 (ws1 := (h0, .inr (0, [.null, .ref q1, .ref q2, .ref q3, .ref q4, .int 0, .ref q5, .ref q7, .null, .null, .null, .int 0, .int 0])) :: ((((((([] : va_W) ++ [(q1, .inl (ι 0, 3, .inl fun _ => 0))]) ++ [(q2, .inl (ι 0, 3, .inl fun _ => 0))]) ++ [(q3, .inl (ι 0, 3, .inl fun _ => 0))]) ++ [(q4, .inl (ι 0, 3, .inl fun _ => 0))]) ++ ((q5, .inl (ι 4, 4, .inr (.inr (.inr (.inr (gx_tb 4 r6)))))) :: (List.range 4).map (fun i => (r6 i, .inl (ι 0, 8, .inl fun _ => 0))))) ++ ((q7, .inl (ι 4, 4, .inr (.inr (.inr (.inr (gx_tb 4 r8)))))) :: (List.range 4).map (fun i => (r8 i, .inl (ι 0, 8, .inl fun _ => 0)))))) rfl ?_
  refine gx_aload_0 C dX0_init_54 rfl ?_
  refine gx_iconst4 C dX0_init_55 ?_
  refine gx_bipush (v := 8) C dX0_init_56 (by decide) ?_
  refine gn_mna (t0 := 4) (t1 := 0) (c0 := ι 4) (c1 := ι 0) (N := 4) (K := 8) C M gx_mu (gx_t_1 (List.mem_of_getElem? (i := 143) rfl)) rfl M.2.2.2.1 gx_mu (gx_t_1 (List.mem_of_getElem? (i := 108) rfl)) rfl (by rw [hx.2]; rfl) (by rw [hx.2]; rfl) (by decide) (by decide) (by decide) (by decide) (Nat.le_of_ble_eq_true rfl) (Nat.le_of_ble_eq_true rfl) (by decide) (by decide) dX0_init_58 (fun q9 r10 => ?_)
  refine gn_putF (q0 := 0) C hin fl_X0_32 (cls_X0 hx) rfl rfl rfl rfl rfl (Nat.le_of_ble_eq_true rfl) dX0_init_62 (ws1 := (h0, .inr (0, [.null, .ref q1, .ref q2, .ref q3, .ref q4, .int 0, .ref q5, .ref q7, .ref q9, .null, .null, .int 0, .int 0])) :: (((((((([] : va_W) ++ [(q1, .inl (ι 0, 3, .inl fun _ => 0))]) ++ [(q2, .inl (ι 0, 3, .inl fun _ => 0))]) ++ [(q3, .inl (ι 0, 3, .inl fun _ => 0))]) ++ [(q4, .inl (ι 0, 3, .inl fun _ => 0))]) ++ ((q5, .inl (ι 4, 4, .inr (.inr (.inr (.inr (gx_tb 4 r6)))))) :: (List.range 4).map (fun i => (r6 i, .inl (ι 0, 8, .inl fun _ => 0))))) ++ ((q7, .inl (ι 4, 4, .inr (.inr (.inr (.inr (gx_tb 4 r8)))))) :: (List.range 4).map (fun i => (r8 i, .inl (ι 0, 8, .inl fun _ => 0))))) ++ ((q9, .inl (ι 4, 4, .inr (.inr (.inr (.inr (gx_tb 4 r10)))))) :: (List.range 4).map (fun i => (r10 i, .inl (ι 0, 8, .inl fun _ => 0)))))) rfl ?_
  refine gx_aload_0 C dX0_init_65 rfl ?_
  refine gx_bipush (v := 10) C dX0_init_66 (by decide) ?_
  refine gn_newa (t0 := 0) (c0 := ι 0) (N := 10) (ty := .int) C M gx_mu (gx_t_1 (List.mem_of_getElem? (i := 108) rfl)) rfl rfl (by rw [hx.2]; rfl) (fun _ => rfl) (by decide) (by decide) (Nat.le_of_ble_eq_true rfl) (by decide) (by decide) dX0_init_68 (fun q11 => ?_)
  refine gn_putF (q0 := 0) C hin fl_X0_35 (cls_X0 hx) rfl rfl rfl rfl rfl (Nat.le_of_ble_eq_true rfl) dX0_init_70 (ws1 := (h0, .inr (0, [.null, .ref q1, .ref q2, .ref q3, .ref q4, .int 0, .ref q5, .ref q7, .ref q9, .ref q11, .null, .int 0, .int 0])) :: ((((((((([] : va_W) ++ [(q1, .inl (ι 0, 3, .inl fun _ => 0))]) ++ [(q2, .inl (ι 0, 3, .inl fun _ => 0))]) ++ [(q3, .inl (ι 0, 3, .inl fun _ => 0))]) ++ [(q4, .inl (ι 0, 3, .inl fun _ => 0))]) ++ ((q5, .inl (ι 4, 4, .inr (.inr (.inr (.inr (gx_tb 4 r6)))))) :: (List.range 4).map (fun i => (r6 i, .inl (ι 0, 8, .inl fun _ => 0))))) ++ ((q7, .inl (ι 4, 4, .inr (.inr (.inr (.inr (gx_tb 4 r8)))))) :: (List.range 4).map (fun i => (r8 i, .inl (ι 0, 8, .inl fun _ => 0))))) ++ ((q9, .inl (ι 4, 4, .inr (.inr (.inr (.inr (gx_tb 4 r10)))))) :: (List.range 4).map (fun i => (r10 i, .inl (ι 0, 8, .inl fun _ => 0))))) ++ [(q11, .inl (ι 0, 10, .inl fun _ => 0))])) rfl ?_
  refine gx_aload_0 C dX0_init_73 rfl ?_
  refine gx_bipush (v := 10) C dX0_init_74 (by decide) ?_
  refine gn_newa (t0 := 0) (c0 := ι 0) (N := 10) (ty := .int) C M gx_mu (gx_t_1 (List.mem_of_getElem? (i := 108) rfl)) rfl rfl (by rw [hx.2]; rfl) (fun _ => rfl) (by decide) (by decide) (Nat.le_of_ble_eq_true rfl) (by decide) (by decide) dX0_init_76 (fun q12 => ?_)
  refine gn_putF (q0 := 0) C hin fl_X0_38 (cls_X0 hx) rfl rfl rfl rfl rfl (Nat.le_of_ble_eq_true rfl) dX0_init_78 (ws1 := (h0, .inr (0, [.null, .ref q1, .ref q2, .ref q3, .ref q4, .int 0, .ref q5, .ref q7, .ref q9, .ref q11, .ref q12, .int 0, .int 0])) :: (((((((((([] : va_W) ++ [(q1, .inl (ι 0, 3, .inl fun _ => 0))]) ++ [(q2, .inl (ι 0, 3, .inl fun _ => 0))]) ++ [(q3, .inl (ι 0, 3, .inl fun _ => 0))]) ++ [(q4, .inl (ι 0, 3, .inl fun _ => 0))]) ++ ((q5, .inl (ι 4, 4, .inr (.inr (.inr (.inr (gx_tb 4 r6)))))) :: (List.range 4).map (fun i => (r6 i, .inl (ι 0, 8, .inl fun _ => 0))))) ++ ((q7, .inl (ι 4, 4, .inr (.inr (.inr (.inr (gx_tb 4 r8)))))) :: (List.range 4).map (fun i => (r8 i, .inl (ι 0, 8, .inl fun _ => 0))))) ++ ((q9, .inl (ι 4, 4, .inr (.inr (.inr (.inr (gx_tb 4 r10)))))) :: (List.range 4).map (fun i => (r10 i, .inl (ι 0, 8, .inl fun _ => 0))))) ++ [(q11, .inl (ι 0, 10, .inl fun _ => 0))]) ++ [(q12, .inl (ι 0, 10, .inl fun _ => 0))])) rfl ?_
  refine gx_aload_0 C dX0_init_81 rfl ?_
  refine gx_aload_1 C dX0_init_82 rfl ?_
  refine gn_putF (q0 := 0) C hin fl_X0_41 (cls_X0 hx) rfl rfl rfl rfl rfl (Nat.le_of_ble_eq_true rfl) dX0_init_83 (ws1 := (h0, .inr (0, [.ref p1, .ref q1, .ref q2, .ref q3, .ref q4, .int 0, .ref q5, .ref q7, .ref q9, .ref q11, .ref q12, .int 0, .int 0])) :: (((((((((([] : va_W) ++ [(q1, .inl (ι 0, 3, .inl fun _ => 0))]) ++ [(q2, .inl (ι 0, 3, .inl fun _ => 0))]) ++ [(q3, .inl (ι 0, 3, .inl fun _ => 0))]) ++ [(q4, .inl (ι 0, 3, .inl fun _ => 0))]) ++ ((q5, .inl (ι 4, 4, .inr (.inr (.inr (.inr (gx_tb 4 r6)))))) :: (List.range 4).map (fun i => (r6 i, .inl (ι 0, 8, .inl fun _ => 0))))) ++ ((q7, .inl (ι 4, 4, .inr (.inr (.inr (.inr (gx_tb 4 r8)))))) :: (List.range 4).map (fun i => (r8 i, .inl (ι 0, 8, .inl fun _ => 0))))) ++ ((q9, .inl (ι 4, 4, .inr (.inr (.inr (.inr (gx_tb 4 r10)))))) :: (List.range 4).map (fun i => (r10 i, .inl (ι 0, 8, .inl fun _ => 0))))) ++ [(q11, .inl (ι 0, 10, .inl fun _ => 0))]) ++ [(q12, .inl (ι 0, 10, .inl fun _ => 0))])) rfl ?_
  refine gx_world (ws' := K_Bests ι p1 (fun k => ([h0, q1, q2, q3, q4, q5, r6 0, r6 1, r6 2, r6 3, q7, r8 0, r8 1, r8 2, r8 3, q9, r10 0, r10 1, r10 2, r10 3, q11, q12] : List Nat).getD k 0)) rfl ?_
  exact gn_vret (Wb := K_Bests ι p1) (fun k => ([h0, q1, q2, q3, q4, q5, r6 0, r6 1, r6 2, r6 3, q7, r8 0, r8 1, r8 2, r8 3, q9, r10 0, r10 1, r10 2, r10 3, q11, q12] : List Nat).getD k 0) C F dX0_init_86 rfl
theorem vi_X2 : Cond.initialized RX2 ∈ gx_U := gx_mu (gx_t_1 (List.mem_of_getElem? (i := 5) rfl)) rfl
theorem vn_X2_init : Cond.instanceMethod yX2_init ∈ gx_U := gx_mu (gx_t_1 (List.mem_of_getElem? (i := 189) rfl)) rfl
theorem vc_X2_init : Cond.code yX2_init cX2_init 3 none ∈ gx_U := gx_mu (gx_t_1 (List.mem_of_getElem? (i := 190) rfl)) rfl
theorem df_X2 : ∀ j, j < 5 → defaultValue (tyX2 j) = vp_V [.null, .null, .null, .null, .null] j := fun j hj => match j, hj with
  | 0, _ => rfl
  | 1, _ => rfl
  | 2, _ => rfl
  | 3, _ => rfl
  | 4, _ => rfl
  | j + 5, hj => absurd hj (by omega)
theorem dX2_init_0 : decode cX2_init 0 = .ok (.aload_n 0, 1) := by decide +kernel
theorem dX2_init_1 : decode cX2_init 1 = .ok (.invokespecial 3, 3) := by decide +kernel
theorem dX2_init_4 : decode cX2_init 4 = .ok (.aload_n 0, 1) := by decide +kernel
theorem dX2_init_5 : decode cX2_init 5 = .ok (.bipush 8, 2) := by decide +kernel
theorem dX2_init_7 : decode cX2_init 7 = .ok (.newarray .int, 2) := by decide +kernel
theorem dX2_init_9 : decode cX2_init 9 = .ok (.putfield 9, 3) := by decide +kernel
theorem dX2_init_12 : decode cX2_init 12 = .ok (.aload_n 0, 1) := by decide +kernel
theorem dX2_init_13 : decode cX2_init 13 = .ok (.aload_n 1, 1) := by decide +kernel
theorem dX2_init_14 : decode cX2_init 14 = .ok (.putfield 15, 3) := by decide +kernel
theorem dX2_init_17 : decode cX2_init 17 = .ok (.aload_n 0, 1) := by decide +kernel
theorem dX2_init_18 : decode cX2_init 18 = .ok (.aload_n 2, 1) := by decide +kernel
theorem dX2_init_19 : decode cX2_init 19 = .ok (.putfield 19, 3) := by decide +kernel
theorem dX2_init_22 : decode cX2_init 22 = .ok (.aload_n 0, 1) := by decide +kernel
theorem dX2_init_23 : decode cX2_init 23 = .ok (.new 23, 3) := by decide +kernel
theorem dX2_init_26 : decode cX2_init 26 = .ok (.dup, 1) := by decide +kernel
theorem dX2_init_27 : decode cX2_init 27 = .ok (.aload_n 1, 1) := by decide +kernel
theorem dX2_init_28 : decode cX2_init 28 = .ok (.invokespecial 25, 3) := by decide +kernel
theorem dX2_init_31 : decode cX2_init 31 = .ok (.putfield 28, 3) := by decide +kernel
theorem dX2_init_34 : decode cX2_init 34 = .ok (.aload_n 0, 1) := by decide +kernel
theorem dX2_init_35 : decode cX2_init 35 = .ok (.new 23, 3) := by decide +kernel
theorem dX2_init_38 : decode cX2_init 38 = .ok (.dup, 1) := by decide +kernel
theorem dX2_init_39 : decode cX2_init 39 = .ok (.aload_n 1, 1) := by decide +kernel
theorem dX2_init_40 : decode cX2_init 40 = .ok (.invokespecial 25, 3) := by decide +kernel
theorem dX2_init_43 : decode cX2_init 43 = .ok (.putfield 32, 3) := by decide +kernel
theorem dX2_init_46 : decode cX2_init 46 = .ok (.return_, 1) := by decide +kernel
def K_Joining (ι : Nat → ClassId) (p1 : Nat) (p2 : Nat) (b : Nat → Nat) : va_W := [(b 0, .inr (2, [.ref p1, .ref p2, .ref (b 2), .ref (b 6), .ref (b 1)]))] ++ [(b 1, .inl (ι 0, 8, .inl fun _ => 0))] ++ K_Standing ι p1 (fun k => b (k + 2)) ++ K_Standing ι p1 (fun k => b (k + 6))
set_option maxRecDepth 40000 in
set_option maxHeartbeats 4000000 in
theorem k_Joining (l : Launch) (D : va_G) {cl : List vw_C} {tys : List (ClassId × FieldType)} {ι : Nat → ClassId} (hx : gx_std vwCl (gty ι) cl tys) (h0 : Nat) (p1 : Nat) (p2 : Nat) : gx_mK l D cl tys yX2_init (.code yX2_init cX2_init 3 none :: gx_U) (gx_rmc 2 9 52) [.ref h0, .ref p1, .ref p2] [(h0, .inr (2, [.null, .null, .null, .null, .null]))] (K_Joining ι p1 p2) h0 9 52 := by
  refine gx_startK (V := [.ref h0, .ref p1, .ref p2]) 0 (by decide +kernel) rfl (Nat.le_of_ble_eq_true rfl) rfl (fun Γ hl hD hcl hty hnL C F M hin => ?_)
  subst hl; subst hD; subst hcl; subst hty
  refine gx_aload_0 C dX2_init_0 rfl ?_
  refine gn_obj C gx_mu (gx_t_1 (List.mem_of_getElem? (i := 191) rfl)) rfl vn_obj vc_obj (by decide) (Nat.le_of_ble_eq_true rfl) dX2_init_1 ?_
  refine gx_aload_0 C dX2_init_4 rfl ?_
  refine gx_bipush (v := 8) C dX2_init_5 (by decide) ?_
  refine gn_newa (t0 := 0) (c0 := ι 0) (N := 8) (ty := .int) C M gx_mu (gx_t_1 (List.mem_of_getElem? (i := 108) rfl)) rfl rfl (by rw [hx.2]; rfl) (fun _ => rfl) (by decide) (by decide) (Nat.le_of_ble_eq_true rfl) (by decide) (by decide) dX2_init_7 (fun q1 => ?_)
  refine gn_putF (q0 := 0) C hin fl_X2_9 (cls_X2 hx) rfl rfl rfl rfl rfl (Nat.le_of_ble_eq_true rfl) dX2_init_9 (ws1 := (h0, .inr (2, [.null, .null, .null, .null, .ref q1])) :: (([] : va_W) ++ [(q1, .inl (ι 0, 8, .inl fun _ => 0))])) rfl ?_
  refine gx_aload_0 C dX2_init_12 rfl ?_
  refine gx_aload_1 C dX2_init_13 rfl ?_
  refine gn_putF (q0 := 0) C hin fl_X2_15 (cls_X2 hx) rfl rfl rfl rfl rfl (Nat.le_of_ble_eq_true rfl) dX2_init_14 (ws1 := (h0, .inr (2, [.ref p1, .null, .null, .null, .ref q1])) :: (([] : va_W) ++ [(q1, .inl (ι 0, 8, .inl fun _ => 0))])) rfl ?_
  refine gx_aload_0 C dX2_init_17 rfl ?_
  refine gx_aload_2 C dX2_init_18 rfl ?_
  refine gn_putF (q0 := 0) C hin fl_X2_19 (cls_X2 hx) rfl rfl rfl rfl rfl (Nat.le_of_ble_eq_true rfl) dX2_init_19 (ws1 := (h0, .inr (2, [.ref p1, .ref p2, .null, .null, .ref q1])) :: (([] : va_W) ++ [(q1, .inl (ι 0, 8, .inl fun _ => 0))])) rfl ?_
  refine gx_aload_0 C dX2_init_22 rfl ?_
  refine gn_new C M iu_X4 (cls_X4 hx) gx_mu (gx_t_1 (List.mem_of_getElem? (i := 192) rfl)) rfl gx_mu (gx_t_1 (List.mem_of_getElem? (i := 110) rfl)) rfl vi_X4 df_X4 (by decide) (by decide) dX2_init_23 (fun q2 => ?_)
  refine gx_dup C dX2_init_26 rfl ?_
  refine gx_aload_1 C dX2_init_27 rfl ?_
  refine gn_ctor C M (k_Standing (gx_l Γ) (gx_D Γ) hx q2 p1) gx_uu gx_mu (gx_t_1 (List.mem_of_getElem? (i := 193) rfl)) rfl vn_X4_init vi_X4 vc_X4_init rfl ⟨by decide +kernel, by decide +kernel, by decide +kernel⟩ (by decide) (by decide) rfl rfl (Nat.le_of_ble_eq_true rfl) (by decide) (by decide) dX2_init_28 (fun z3 hz => ?_)
  subst hz
  refine gn_putF (q0 := 0) C hin fl_X2_28 (cls_X2 hx) rfl rfl rfl rfl rfl (Nat.le_of_ble_eq_true rfl) dX2_init_31 (ws1 := (h0, .inr (2, [.ref p1, .ref p2, .ref (z3 0), .null, .ref q1])) :: ((([] : va_W) ++ [(q1, .inl (ι 0, 8, .inl fun _ => 0))]) ++ K_Standing ι p1 z3)) rfl ?_
  refine gx_aload_0 C dX2_init_34 rfl ?_
  refine gn_new C M iu_X4 (cls_X4 hx) gx_mu (gx_t_1 (List.mem_of_getElem? (i := 192) rfl)) rfl gx_mu (gx_t_1 (List.mem_of_getElem? (i := 110) rfl)) rfl vi_X4 df_X4 (by decide) (by decide) dX2_init_35 (fun q4 => ?_)
  refine gx_dup C dX2_init_38 rfl ?_
  refine gx_aload_1 C dX2_init_39 rfl ?_
  refine gn_ctor C M (k_Standing (gx_l Γ) (gx_D Γ) hx q4 p1) gx_uu gx_mu (gx_t_1 (List.mem_of_getElem? (i := 193) rfl)) rfl vn_X4_init vi_X4 vc_X4_init rfl ⟨by decide +kernel, by decide +kernel, by decide +kernel⟩ (by decide) (by decide) rfl rfl (Nat.le_of_ble_eq_true rfl) (by decide) (by decide) dX2_init_40 (fun z5 hz => ?_)
  subst hz
  refine gn_putF (q0 := 0) C hin fl_X2_32 (cls_X2 hx) rfl rfl rfl rfl rfl (Nat.le_of_ble_eq_true rfl) dX2_init_43 (ws1 := (h0, .inr (2, [.ref p1, .ref p2, .ref (z3 0), .ref (z5 0), .ref q1])) :: (((([] : va_W) ++ [(q1, .inl (ι 0, 8, .inl fun _ => 0))]) ++ K_Standing ι p1 z3) ++ K_Standing ι p1 z5)) rfl ?_
  refine gx_world (ws' := K_Joining ι p1 p2 (fun k => ([h0, q1, z3 0, z3 1, z3 2, z3 3, z5 0, z5 1, z5 2, z5 3] : List Nat).getD k 0)) rfl ?_
  exact gn_vret (Wb := K_Joining ι p1 p2) (fun k => ([h0, q1, z3 0, z3 1, z3 2, z3 3, z5 0, z5 1, z5 2, z5 3] : List Nat).getD k 0) C F dX2_init_46 rfl
theorem vi_X6 : Cond.initialized RX6 ∈ gx_U := gx_mu (gx_t_1 (List.mem_of_getElem? (i := 6) rfl)) rfl
theorem vn_X6_init : Cond.instanceMethod yX6_init ∈ gx_U := gx_mu (gx_t_1 (List.mem_of_getElem? (i := 213) rfl)) rfl
theorem vc_X6_init : Cond.code yX6_init cX6_init 1 none ∈ gx_U := gx_mu (gx_t_1 (List.mem_of_getElem? (i := 214) rfl)) rfl
theorem df_X6 : ∀ j, j < 2 → defaultValue (tyX6 j) = vp_V [.null, .int 0] j := fun j hj => match j, hj with
  | 0, _ => rfl
  | 1, _ => rfl
  | j + 2, hj => absurd hj (by omega)
theorem dX6_init_0 : decode cX6_init 0 = .ok (.aload_n 0, 1) := by decide +kernel
theorem dX6_init_1 : decode cX6_init 1 = .ok (.invokespecial 3, 3) := by decide +kernel
theorem dX6_init_4 : decode cX6_init 4 = .ok (.aload_n 0, 1) := by decide +kernel
theorem dX6_init_5 : decode cX6_init 5 = .ok (.bipush 50, 2) := by decide +kernel
theorem dX6_init_7 : decode cX6_init 7 = .ok (.newarray .char, 2) := by decide +kernel
theorem dX6_init_9 : decode cX6_init 9 = .ok (.putfield 9, 3) := by decide +kernel
theorem dX6_init_12 : decode cX6_init 12 = .ok (.return_, 1) := by decide +kernel
def K_Text (ι : Nat → ClassId) (b : Nat → Nat) : va_W := [(b 0, .inr (6, [.ref (b 1), .int 0]))] ++ [(b 1, .inl (ι 2, 50, .inl fun _ => 0))]
set_option maxRecDepth 40000 in
set_option maxHeartbeats 4000000 in
theorem k_Text (l : Launch) (D : va_G) {cl : List vw_C} {tys : List (ClassId × FieldType)} {ι : Nat → ClassId} (hx : gx_std vwCl (gty ι) cl tys) (h0 : Nat) : gx_mK l D cl tys yX6_init (.code yX6_init cX6_init 1 none :: gx_U) (gx_rmc 1 1 50) [.ref h0] [(h0, .inr (6, [.null, .int 0]))] (K_Text ι) h0 1 50 := by
  refine gx_startK (V := [.ref h0]) 0 (by decide +kernel) rfl (Nat.le_of_ble_eq_true rfl) rfl (fun Γ hl hD hcl hty hnL C F M hin => ?_)
  subst hl; subst hD; subst hcl; subst hty
  refine gx_aload_0 C dX6_init_0 rfl ?_
  refine gn_obj C gx_mu (gx_t_1 (List.mem_of_getElem? (i := 215) rfl)) rfl vn_obj vc_obj (by decide) (Nat.le_of_ble_eq_true rfl) dX6_init_1 ?_
  refine gx_aload_0 C dX6_init_4 rfl ?_
  refine gx_bipush (v := 50) C dX6_init_5 (by decide) ?_
  refine gn_newa (t0 := 2) (c0 := ι 2) (N := 50) (ty := .char) C M gx_mu (gx_t_1 (List.mem_of_getElem? (i := 227) rfl)) rfl rfl (by rw [hx.2]; rfl) (fun _ => rfl) (by decide) (by decide) (Nat.le_of_ble_eq_true rfl) (by decide) (by decide) dX6_init_7 (fun q1 => ?_)
  refine gn_putF (q0 := 0) C hin fl_X6_9 (cls_X6 hx) rfl rfl rfl rfl rfl (Nat.le_of_ble_eq_true rfl) dX6_init_9 (ws1 := (h0, .inr (6, [.ref q1, .int 0])) :: (([] : va_W) ++ [(q1, .inl (ι 2, 50, .inl fun _ => 0))])) rfl ?_
  refine gx_world (ws' := K_Text ι (fun k => ([h0, q1] : List Nat).getD k 0)) rfl ?_
  exact gn_vret (Wb := K_Text ι) (fun k => ([h0, q1] : List Nat).getD k 0) C F dX6_init_12 rfl
theorem vi_X1 : Cond.initialized RX1 ∈ gx_U := gx_mu (gx_t_1 (List.mem_of_getElem? (i := 7) rfl)) rfl
theorem vn_X1_init : Cond.instanceMethod yX1_init ∈ gx_U := gx_mu (gx_t_1 (List.mem_of_getElem? (i := 232) rfl)) rfl
theorem vc_X1_init : Cond.code yX1_init cX1_init 1 none ∈ gx_U := gx_mu (gx_t_1 (List.mem_of_getElem? (i := 233) rfl)) rfl
theorem df_X1 : ∀ j, j < 3 → defaultValue (tyX1 j) = vp_V [.int 0, .int 0, .int 0] j := fun j hj => match j, hj with
  | 0, _ => rfl
  | 1, _ => rfl
  | 2, _ => rfl
  | j + 3, hj => absurd hj (by omega)
theorem dX1_init_0 : decode cX1_init 0 = .ok (.aload_n 0, 1) := by decide +kernel
theorem dX1_init_1 : decode cX1_init 1 = .ok (.invokespecial 1, 3) := by decide +kernel
theorem dX1_init_4 : decode cX1_init 4 = .ok (.return_, 1) := by decide +kernel
def K_Grammar (ι : Nat → ClassId) (b : Nat → Nat) : va_W := [(b 0, .inr (1, [.int 0, .int 0, .int 0]))]
set_option maxRecDepth 40000 in
set_option maxHeartbeats 4000000 in
theorem k_Grammar (l : Launch) (D : va_G) {cl : List vw_C} {tys : List (ClassId × FieldType)} {ι : Nat → ClassId} (hx : gx_std vwCl (gty ι) cl tys) (h0 : Nat) : gx_mK l D cl tys yX1_init (.code yX1_init cX1_init 1 none :: gx_U) (gx_rmc 1 0 0) [.ref h0] [(h0, .inr (1, [.int 0, .int 0, .int 0]))] (K_Grammar ι) h0 0 0 := by
  refine gx_startK (V := [.ref h0]) 0 (by decide +kernel) rfl (Nat.le_of_ble_eq_true rfl) rfl (fun Γ hl hD hcl hty hnL C F M hin => ?_)
  subst hl; subst hD; subst hcl; subst hty
  refine gx_aload_0 C dX1_init_0 rfl ?_
  refine gn_obj C gx_mu (gx_t_1 (List.mem_of_getElem? (i := 234) rfl)) rfl vn_obj vc_obj (by decide) (Nat.le_of_ble_eq_true rfl) dX1_init_1 ?_
  refine gx_world (ws' := K_Grammar ι (fun k => ([h0] : List Nat).getD k 0)) rfl ?_
  exact gn_vret (Wb := K_Grammar ι) (fun k => ([h0] : List Nat).getD k 0) C F dX1_init_4 rfl
theorem vi_X3 : Cond.initialized RX3 ∈ gx_U := gx_mu (gx_t_1 (List.mem_of_getElem? (i := 8) rfl)) rfl
theorem vn_X3_init : Cond.instanceMethod yX3_init ∈ gx_U := gx_mu (gx_t_2 (List.mem_of_getElem? (i := 8) rfl)) rfl
theorem vc_X3_init : Cond.code yX3_init cX3_init 2 none ∈ gx_U := gx_mu (gx_t_2 (List.mem_of_getElem? (i := 9) rfl)) rfl
theorem df_X3 : ∀ j, j < 10 → defaultValue (tyX3 j) = vp_V [.null, .null, .null, .null, .null, .int 0, .int 0, .int 0, .int 0, .int 0] j := fun j hj => match j, hj with
  | 0, _ => rfl
  | 1, _ => rfl
  | 2, _ => rfl
  | 3, _ => rfl
  | 4, _ => rfl
  | 5, _ => rfl
  | 6, _ => rfl
  | 7, _ => rfl
  | 8, _ => rfl
  | 9, _ => rfl
  | j + 10, hj => absurd hj (by omega)
theorem dX3_init_0 : decode cX3_init 0 = .ok (.aload_n 0, 1) := by decide +kernel
theorem dX3_init_1 : decode cX3_init 1 = .ok (.invokespecial 3, 3) := by decide +kernel
theorem dX3_init_4 : decode cX3_init 4 = .ok (.aload_n 0, 1) := by decide +kernel
theorem dX3_init_5 : decode cX3_init 5 = .ok (.bipush 6, 2) := by decide +kernel
theorem dX3_init_7 : decode cX3_init 7 = .ok (.newarray .int, 2) := by decide +kernel
theorem dX3_init_9 : decode cX3_init 9 = .ok (.putfield 9, 3) := by decide +kernel
theorem dX3_init_12 : decode cX3_init 12 = .ok (.aload_n 0, 1) := by decide +kernel
theorem dX3_init_13 : decode cX3_init 13 = .ok (.bipush 51, 2) := by decide +kernel
theorem dX3_init_15 : decode cX3_init 15 = .ok (.newarray .boolean, 2) := by decide +kernel
theorem dX3_init_17 : decode cX3_init 17 = .ok (.putfield 15, 3) := by decide +kernel
theorem dX3_init_20 : decode cX3_init 20 = .ok (.aload_n 0, 1) := by decide +kernel
theorem dX3_init_21 : decode cX3_init 21 = .ok (.bipush 51, 2) := by decide +kernel
theorem dX3_init_23 : decode cX3_init 23 = .ok (.newarray .boolean, 2) := by decide +kernel
theorem dX3_init_25 : decode cX3_init 25 = .ok (.putfield 19, 3) := by decide +kernel
theorem dX3_init_28 : decode cX3_init 28 = .ok (.aload_n 0, 1) := by decide +kernel
theorem dX3_init_29 : decode cX3_init 29 = .ok (.bipush 51, 2) := by decide +kernel
theorem dX3_init_31 : decode cX3_init 31 = .ok (.newarray .boolean, 2) := by decide +kernel
theorem dX3_init_33 : decode cX3_init 33 = .ok (.putfield 22, 3) := by decide +kernel
theorem dX3_init_36 : decode cX3_init 36 = .ok (.aload_n 0, 1) := by decide +kernel
theorem dX3_init_37 : decode cX3_init 37 = .ok (.aload_n 1, 1) := by decide +kernel
theorem dX3_init_38 : decode cX3_init 38 = .ok (.putfield 25, 3) := by decide +kernel
theorem dX3_init_41 : decode cX3_init 41 = .ok (.return_, 1) := by decide +kernel
def K_Judge (ι : Nat → ClassId) (p1 : Nat) (b : Nat → Nat) : va_W := [(b 0, .inr (3, [.ref p1, .ref (b 1), .ref (b 2), .ref (b 3), .ref (b 4), .int 0, .int 0, .int 0, .int 0, .int 0]))] ++ [(b 1, .inl (ι 0, 6, .inl fun _ => 0))] ++ [(b 2, .inl (ι 1, 51, .inl fun _ => 0))] ++ [(b 3, .inl (ι 1, 51, .inl fun _ => 0))] ++ [(b 4, .inl (ι 1, 51, .inl fun _ => 0))]
set_option maxRecDepth 40000 in
set_option maxHeartbeats 4000000 in
theorem k_Judge (l : Launch) (D : va_G) {cl : List vw_C} {tys : List (ClassId × FieldType)} {ι : Nat → ClassId} (hx : gx_std vwCl (gty ι) cl tys) (h0 : Nat) (p1 : Nat) : gx_mK l D cl tys yX3_init (.code yX3_init cX3_init 2 none :: gx_U) (gx_rmc 1 4 159) [.ref h0, .ref p1] [(h0, .inr (3, [.null, .null, .null, .null, .null, .int 0, .int 0, .int 0, .int 0, .int 0]))] (K_Judge ι p1) h0 4 159 := by
  refine gx_startK (V := [.ref h0, .ref p1]) 0 (by decide +kernel) rfl (Nat.le_of_ble_eq_true rfl) rfl (fun Γ hl hD hcl hty hnL C F M hin => ?_)
  subst hl; subst hD; subst hcl; subst hty
  refine gx_aload_0 C dX3_init_0 rfl ?_
  refine gn_obj C gx_mu (gx_t_2 (List.mem_of_getElem? (i := 10) rfl)) rfl vn_obj vc_obj (by decide) (Nat.le_of_ble_eq_true rfl) dX3_init_1 ?_
  refine gx_aload_0 C dX3_init_4 rfl ?_
  refine gx_bipush (v := 6) C dX3_init_5 (by decide) ?_
  refine gn_newa (t0 := 0) (c0 := ι 0) (N := 6) (ty := .int) C M gx_mu (gx_t_1 (List.mem_of_getElem? (i := 108) rfl)) rfl rfl (by rw [hx.2]; rfl) (fun _ => rfl) (by decide) (by decide) (Nat.le_of_ble_eq_true rfl) (by decide) (by decide) dX3_init_7 (fun q1 => ?_)
  refine gn_putF (q0 := 0) C hin fl_X3_9 (cls_X3 hx) rfl rfl rfl rfl rfl (Nat.le_of_ble_eq_true rfl) dX3_init_9 (ws1 := (h0, .inr (3, [.null, .ref q1, .null, .null, .null, .int 0, .int 0, .int 0, .int 0, .int 0])) :: (([] : va_W) ++ [(q1, .inl (ι 0, 6, .inl fun _ => 0))])) rfl ?_
  refine gx_aload_0 C dX3_init_12 rfl ?_
  refine gx_bipush (v := 51) C dX3_init_13 (by decide) ?_
  refine gn_newa (t0 := 1) (c0 := ι 1) (N := 51) (ty := .boolean) C M gx_mu (gx_t_1 (List.mem_of_getElem? (i := 136) rfl)) rfl rfl (by rw [hx.2]; rfl) (fun _ => rfl) (by decide) (by decide) (Nat.le_of_ble_eq_true rfl) (by decide) (by decide) dX3_init_15 (fun q2 => ?_)
  refine gn_putF (q0 := 0) C hin fl_X3_15 (cls_X3 hx) rfl rfl rfl rfl rfl (Nat.le_of_ble_eq_true rfl) dX3_init_17 (ws1 := (h0, .inr (3, [.null, .ref q1, .ref q2, .null, .null, .int 0, .int 0, .int 0, .int 0, .int 0])) :: ((([] : va_W) ++ [(q1, .inl (ι 0, 6, .inl fun _ => 0))]) ++ [(q2, .inl (ι 1, 51, .inl fun _ => 0))])) rfl ?_
  refine gx_aload_0 C dX3_init_20 rfl ?_
  refine gx_bipush (v := 51) C dX3_init_21 (by decide) ?_
  refine gn_newa (t0 := 1) (c0 := ι 1) (N := 51) (ty := .boolean) C M gx_mu (gx_t_1 (List.mem_of_getElem? (i := 136) rfl)) rfl rfl (by rw [hx.2]; rfl) (fun _ => rfl) (by decide) (by decide) (Nat.le_of_ble_eq_true rfl) (by decide) (by decide) dX3_init_23 (fun q3 => ?_)
  refine gn_putF (q0 := 0) C hin fl_X3_19 (cls_X3 hx) rfl rfl rfl rfl rfl (Nat.le_of_ble_eq_true rfl) dX3_init_25 (ws1 := (h0, .inr (3, [.null, .ref q1, .ref q2, .ref q3, .null, .int 0, .int 0, .int 0, .int 0, .int 0])) :: (((([] : va_W) ++ [(q1, .inl (ι 0, 6, .inl fun _ => 0))]) ++ [(q2, .inl (ι 1, 51, .inl fun _ => 0))]) ++ [(q3, .inl (ι 1, 51, .inl fun _ => 0))])) rfl ?_
  refine gx_aload_0 C dX3_init_28 rfl ?_
  refine gx_bipush (v := 51) C dX3_init_29 (by decide) ?_
  refine gn_newa (t0 := 1) (c0 := ι 1) (N := 51) (ty := .boolean) C M gx_mu (gx_t_1 (List.mem_of_getElem? (i := 136) rfl)) rfl rfl (by rw [hx.2]; rfl) (fun _ => rfl) (by decide) (by decide) (Nat.le_of_ble_eq_true rfl) (by decide) (by decide) dX3_init_31 (fun q4 => ?_)
  refine gn_putF (q0 := 0) C hin fl_X3_22 (cls_X3 hx) rfl rfl rfl rfl rfl (Nat.le_of_ble_eq_true rfl) dX3_init_33 (ws1 := (h0, .inr (3, [.null, .ref q1, .ref q2, .ref q3, .ref q4, .int 0, .int 0, .int 0, .int 0, .int 0])) :: ((((([] : va_W) ++ [(q1, .inl (ι 0, 6, .inl fun _ => 0))]) ++ [(q2, .inl (ι 1, 51, .inl fun _ => 0))]) ++ [(q3, .inl (ι 1, 51, .inl fun _ => 0))]) ++ [(q4, .inl (ι 1, 51, .inl fun _ => 0))])) rfl ?_
  refine gx_aload_0 C dX3_init_36 rfl ?_
  refine gx_aload_1 C dX3_init_37 rfl ?_
  refine gn_putF (q0 := 0) C hin fl_X3_25 (cls_X3 hx) rfl rfl rfl rfl rfl (Nat.le_of_ble_eq_true rfl) dX3_init_38 (ws1 := (h0, .inr (3, [.ref p1, .ref q1, .ref q2, .ref q3, .ref q4, .int 0, .int 0, .int 0, .int 0, .int 0])) :: ((((([] : va_W) ++ [(q1, .inl (ι 0, 6, .inl fun _ => 0))]) ++ [(q2, .inl (ι 1, 51, .inl fun _ => 0))]) ++ [(q3, .inl (ι 1, 51, .inl fun _ => 0))]) ++ [(q4, .inl (ι 1, 51, .inl fun _ => 0))])) rfl ?_
  refine gx_world (ws' := K_Judge ι p1 (fun k => ([h0, q1, q2, q3, q4] : List Nat).getD k 0)) rfl ?_
  exact gn_vret (Wb := K_Judge ι p1) (fun k => ([h0, q1, q2, q3, q4] : List Nat).getD k 0) C F dX3_init_41 rfl
theorem vi_X7 : Cond.initialized RX7 ∈ gx_U := gx_mu (gx_t_1 (List.mem_of_getElem? (i := 1) rfl)) rfl
theorem vn_X7_init : Cond.instanceMethod yX7_init ∈ gx_U := gx_mu (gx_t_1 (List.mem_of_getElem? (i := 15) rfl)) rfl
theorem vc_X7_init : Cond.code yX7_init cX7_init 2 none ∈ gx_U := gx_mu (gx_t_1 (List.mem_of_getElem? (i := 16) rfl)) rfl
theorem df_X7 : ∀ j, j < 15 → defaultValue (tyX7 j) = vp_V [.null, .null, .null, .null, .null, .null, .null, .null, .null, .null, .int 0, .int 0, .int 0, .int 0, .int 0] j := fun j hj => match j, hj with
  | 0, _ => rfl
  | 1, _ => rfl
  | 2, _ => rfl
  | 3, _ => rfl
  | 4, _ => rfl
  | 5, _ => rfl
  | 6, _ => rfl
  | 7, _ => rfl
  | 8, _ => rfl
  | 9, _ => rfl
  | 10, _ => rfl
  | 11, _ => rfl
  | 12, _ => rfl
  | 13, _ => rfl
  | 14, _ => rfl
  | j + 15, hj => absurd hj (by omega)
theorem dX7_init_0 : decode cX7_init 0 = .ok (.aload_n 0, 1) := by decide +kernel
theorem dX7_init_1 : decode cX7_init 1 = .ok (.invokespecial 1, 3) := by decide +kernel
theorem dX7_init_4 : decode cX7_init 4 = .ok (.aload_n 0, 1) := by decide +kernel
theorem dX7_init_5 : decode cX7_init 5 = .ok (.new 7, 3) := by decide +kernel
theorem dX7_init_8 : decode cX7_init 8 = .ok (.dup, 1) := by decide +kernel
theorem dX7_init_9 : decode cX7_init 9 = .ok (.invokespecial 9, 3) := by decide +kernel
theorem dX7_init_12 : decode cX7_init 12 = .ok (.putfield 10, 3) := by decide +kernel
theorem dX7_init_15 : decode cX7_init 15 = .ok (.aload_n 0, 1) := by decide +kernel
theorem dX7_init_16 : decode cX7_init 16 = .ok (.new 16, 3) := by decide +kernel
theorem dX7_init_19 : decode cX7_init 19 = .ok (.dup, 1) := by decide +kernel
theorem dX7_init_20 : decode cX7_init 20 = .ok (.aload_n 0, 1) := by decide +kernel
theorem dX7_init_21 : decode cX7_init 21 = .ok (.getfield 10, 3) := by decide +kernel
theorem dX7_init_24 : decode cX7_init 24 = .ok (.invokespecial 18, 3) := by decide +kernel
theorem dX7_init_27 : decode cX7_init 27 = .ok (.putfield 21, 3) := by decide +kernel
theorem dX7_init_30 : decode cX7_init 30 = .ok (.aload_n 0, 1) := by decide +kernel
theorem dX7_init_31 : decode cX7_init 31 = .ok (.new 16, 3) := by decide +kernel
theorem dX7_init_34 : decode cX7_init 34 = .ok (.dup, 1) := by decide +kernel
theorem dX7_init_35 : decode cX7_init 35 = .ok (.aload_n 0, 1) := by decide +kernel
theorem dX7_init_36 : decode cX7_init 36 = .ok (.getfield 10, 3) := by decide +kernel
theorem dX7_init_39 : decode cX7_init 39 = .ok (.invokespecial 18, 3) := by decide +kernel
theorem dX7_init_42 : decode cX7_init 42 = .ok (.putfield 25, 3) := by decide +kernel
theorem dX7_init_45 : decode cX7_init 45 = .ok (.aload_n 0, 1) := by decide +kernel
theorem dX7_init_46 : decode cX7_init 46 = .ok (.new 16, 3) := by decide +kernel
theorem dX7_init_49 : decode cX7_init 49 = .ok (.dup, 1) := by decide +kernel
theorem dX7_init_50 : decode cX7_init 50 = .ok (.aload_n 0, 1) := by decide +kernel
theorem dX7_init_51 : decode cX7_init 51 = .ok (.getfield 10, 3) := by decide +kernel
theorem dX7_init_54 : decode cX7_init 54 = .ok (.invokespecial 18, 3) := by decide +kernel
theorem dX7_init_57 : decode cX7_init 57 = .ok (.putfield 28, 3) := by decide +kernel
theorem dX7_init_60 : decode cX7_init 60 = .ok (.aload_n 0, 1) := by decide +kernel
theorem dX7_init_61 : decode cX7_init 61 = .ok (.new 31, 3) := by decide +kernel
theorem dX7_init_64 : decode cX7_init 64 = .ok (.dup, 1) := by decide +kernel
theorem dX7_init_65 : decode cX7_init 65 = .ok (.aload_n 0, 1) := by decide +kernel
theorem dX7_init_66 : decode cX7_init 66 = .ok (.getfield 10, 3) := by decide +kernel
theorem dX7_init_69 : decode cX7_init 69 = .ok (.invokespecial 33, 3) := by decide +kernel
theorem dX7_init_72 : decode cX7_init 72 = .ok (.putfield 34, 3) := by decide +kernel
theorem dX7_init_75 : decode cX7_init 75 = .ok (.aload_n 0, 1) := by decide +kernel
theorem dX7_init_76 : decode cX7_init 76 = .ok (.new 38, 3) := by decide +kernel
theorem dX7_init_79 : decode cX7_init 79 = .ok (.dup, 1) := by decide +kernel
theorem dX7_init_80 : decode cX7_init 80 = .ok (.aload_n 0, 1) := by decide +kernel
theorem dX7_init_81 : decode cX7_init 81 = .ok (.getfield 10, 3) := by decide +kernel
theorem dX7_init_84 : decode cX7_init 84 = .ok (.aload_n 0, 1) := by decide +kernel
theorem dX7_init_85 : decode cX7_init 85 = .ok (.getfield 34, 3) := by decide +kernel
theorem dX7_init_88 : decode cX7_init 88 = .ok (.invokespecial 40, 3) := by decide +kernel
theorem dX7_init_91 : decode cX7_init 91 = .ok (.putfield 43, 3) := by decide +kernel
theorem dX7_init_94 : decode cX7_init 94 = .ok (.aload_n 0, 1) := by decide +kernel
theorem dX7_init_95 : decode cX7_init 95 = .ok (.new 47, 3) := by decide +kernel
theorem dX7_init_98 : decode cX7_init 98 = .ok (.dup, 1) := by decide +kernel
theorem dX7_init_99 : decode cX7_init 99 = .ok (.invokespecial 49, 3) := by decide +kernel
theorem dX7_init_102 : decode cX7_init 102 = .ok (.putfield 50, 3) := by decide +kernel
theorem dX7_init_105 : decode cX7_init 105 = .ok (.aload_n 0, 1) := by decide +kernel
theorem dX7_init_106 : decode cX7_init 106 = .ok (.iconst 4, 1) := by decide +kernel
theorem dX7_init_107 : decode cX7_init 107 = .ok (.anewarray 47, 3) := by decide +kernel
theorem dX7_init_110 : decode cX7_init 110 = .ok (.putfield 54, 3) := by decide +kernel
theorem dX7_init_113 : decode cX7_init 113 = .ok (.aload_n 0, 1) := by decide +kernel
theorem dX7_init_114 : decode cX7_init 114 = .ok (.new 58, 3) := by decide +kernel
theorem dX7_init_117 : decode cX7_init 117 = .ok (.dup, 1) := by decide +kernel
theorem dX7_init_118 : decode cX7_init 118 = .ok (.invokespecial 60, 3) := by decide +kernel
theorem dX7_init_121 : decode cX7_init 121 = .ok (.putfield 61, 3) := by decide +kernel
theorem dX7_init_124 : decode cX7_init 124 = .ok (.aload_n 0, 1) := by decide +kernel
theorem dX7_init_125 : decode cX7_init 125 = .ok (.new 65, 3) := by decide +kernel
theorem dX7_init_128 : decode cX7_init 128 = .ok (.dup, 1) := by decide +kernel
theorem dX7_init_129 : decode cX7_init 129 = .ok (.aload_n 0, 1) := by decide +kernel
theorem dX7_init_130 : decode cX7_init 130 = .ok (.getfield 10, 3) := by decide +kernel
theorem dX7_init_133 : decode cX7_init 133 = .ok (.invokespecial 67, 3) := by decide +kernel
theorem dX7_init_136 : decode cX7_init 136 = .ok (.putfield 68, 3) := by decide +kernel
theorem dX7_init_139 : decode cX7_init 139 = .ok (.iconst 0, 1) := by decide +kernel
theorem dX7_init_140 : decode cX7_init 140 = .ok (.istore_n 1, 1) := by decide +kernel
theorem dX7_init_141 : decode cX7_init 141 = .ok (.iload_n 1, 1) := by decide +kernel
theorem dX7_init_142 : decode cX7_init 142 = .ok (.aload_n 0, 1) := by decide +kernel
theorem dX7_init_143 : decode cX7_init 143 = .ok (.getfield 54, 3) := by decide +kernel
theorem dX7_init_146 : decode cX7_init 146 = .ok (.arraylength, 1) := by decide +kernel
theorem dX7_init_147 : decode cX7_init 147 = .ok (.if_icmp .ge 22, 3) := by decide +kernel
theorem dX7_init_150 : decode cX7_init 150 = .ok (.aload_n 0, 1) := by decide +kernel
theorem dX7_init_151 : decode cX7_init 151 = .ok (.getfield 54, 3) := by decide +kernel
theorem dX7_init_154 : decode cX7_init 154 = .ok (.iload_n 1, 1) := by decide +kernel
theorem dX7_init_155 : decode cX7_init 155 = .ok (.new 47, 3) := by decide +kernel
theorem dX7_init_158 : decode cX7_init 158 = .ok (.dup, 1) := by decide +kernel
theorem dX7_init_159 : decode cX7_init 159 = .ok (.invokespecial 49, 3) := by decide +kernel
theorem dX7_init_162 : decode cX7_init 162 = .ok (.aastore, 1) := by decide +kernel
theorem dX7_init_163 : decode cX7_init 163 = .ok (.iinc 1 1, 3) := by decide +kernel
theorem dX7_init_166 : decode cX7_init 166 = .ok (.goto (-25), 3) := by decide +kernel
theorem dX7_init_169 : decode cX7_init 169 = .ok (.return_, 1) := by decide +kernel
set_option maxRecDepth 40000 in
set_option maxHeartbeats 4000000 in
theorem k_ShopsAsOne (l : Launch) (D : va_G) {cl : List vw_C} {tys : List (ClassId × FieldType)} {ι : Nat → ClassId} (hx : gx_std vwCl (gty ι) cl tys) (h0 : Nat) : gx_mK l D cl tys yX7_init (.code yX7_init cX7_init 2 none :: gx_U) (gx_rmc 3 81 854) [.ref h0] [(h0, .inr (7, [.null, .null, .null, .null, .null, .null, .null, .null, .null, .null, .int 0, .int 0, .int 0, .int 0, .int 0]))] (fun b => wX b ι (fun _ _ => 0)) h0 81 854 := by
  refine gx_startK (V := [.ref h0, .null]) 1 (by decide +kernel) rfl (Nat.le_of_ble_eq_true rfl) rfl (fun Γ hl hD hcl hty hnL C F M hin => ?_)
  subst hl; subst hD; subst hcl; subst hty
  refine gx_aload_0 C dX7_init_0 rfl ?_
  refine gn_obj C gx_mu (gx_t_1 (List.mem_of_getElem? (i := 17) rfl)) rfl vn_obj vc_obj (by decide) (Nat.le_of_ble_eq_true rfl) dX7_init_1 ?_
  refine gx_aload_0 C dX7_init_4 rfl ?_
  refine gn_new C M iu_X5 (cls_X5 hx) gx_mu (gx_t_1 (List.mem_of_getElem? (i := 20) rfl)) rfl gx_mu (gx_t_1 (List.mem_of_getElem? (i := 21) rfl)) rfl vi_X5 df_X5 (by decide) (by decide) dX7_init_5 (fun q1 => ?_)
  refine gx_dup C dX7_init_8 rfl ?_
  refine gn_ctorN C M (k_Street (gx_l Γ) (gx_D Γ) hx q1) gx_uu (fun hX => gx_xt_X7_9 hX) vn_X5_init vi_X5 vc_X5_init rfl ⟨by decide +kernel, by decide +kernel, by decide +kernel⟩ (by decide) (by decide) rfl rfl (Nat.le_of_ble_eq_true rfl) (by decide) (by decide) dX7_init_9 (fun z2 hz => ?_)
  subst hz
  refine gn_putF (q0 := 0) C hin fl_X7_10 (cls_X7 hx) rfl rfl rfl rfl rfl (Nat.le_of_ble_eq_true rfl) dX7_init_12 (ws1 := (h0, .inr (7, [.ref (z2 0), .null, .null, .null, .null, .null, .null, .null, .null, .null, .int 0, .int 0, .int 0, .int 0, .int 0])) :: (([] : va_W) ++ K_Street ι z2)) rfl ?_
  refine gx_aload_0 C dX7_init_15 rfl ?_
  refine gn_new C M iu_X4 (cls_X4 hx) gx_mu (gx_t_1 (List.mem_of_getElem? (i := 109) rfl)) rfl gx_mu (gx_t_1 (List.mem_of_getElem? (i := 110) rfl)) rfl vi_X4 df_X4 (by decide) (by decide) dX7_init_16 (fun q3 => ?_)
  refine gx_dup C dX7_init_19 rfl ?_
  refine gx_aload_0 C dX7_init_20 rfl ?_
  refine gn_getf (q0 := 0) C fl_X7_10 (cls_X7 hx) rfl rfl dX7_init_21 ?_
  refine gn_ctor C M (k_Standing (gx_l Γ) (gx_D Γ) hx q3 (z2 0)) gx_uu gx_mu (gx_t_1 (List.mem_of_getElem? (i := 111) rfl)) rfl vn_X4_init vi_X4 vc_X4_init rfl ⟨by decide +kernel, by decide +kernel, by decide +kernel⟩ (by decide) (by decide) rfl rfl (Nat.le_of_ble_eq_true rfl) (by decide) (by decide) dX7_init_24 (fun z4 hz => ?_)
  subst hz
  refine gn_putF (q0 := 0) C hin fl_X7_21 (cls_X7 hx) rfl rfl rfl rfl rfl (Nat.le_of_ble_eq_true rfl) dX7_init_27 (ws1 := (h0, .inr (7, [.ref (z2 0), .ref (z4 0), .null, .null, .null, .null, .null, .null, .null, .null, .int 0, .int 0, .int 0, .int 0, .int 0])) :: ((([] : va_W) ++ K_Street ι z2) ++ K_Standing ι (z2 0) z4)) rfl ?_
  refine gx_aload_0 C dX7_init_30 rfl ?_
  refine gn_new C M iu_X4 (cls_X4 hx) gx_mu (gx_t_1 (List.mem_of_getElem? (i := 109) rfl)) rfl gx_mu (gx_t_1 (List.mem_of_getElem? (i := 110) rfl)) rfl vi_X4 df_X4 (by decide) (by decide) dX7_init_31 (fun q5 => ?_)
  refine gx_dup C dX7_init_34 rfl ?_
  refine gx_aload_0 C dX7_init_35 rfl ?_
  refine gn_getf (q0 := 0) C fl_X7_10 (cls_X7 hx) rfl rfl dX7_init_36 ?_
  refine gn_ctor C M (k_Standing (gx_l Γ) (gx_D Γ) hx q5 (z2 0)) gx_uu gx_mu (gx_t_1 (List.mem_of_getElem? (i := 111) rfl)) rfl vn_X4_init vi_X4 vc_X4_init rfl ⟨by decide +kernel, by decide +kernel, by decide +kernel⟩ (by decide) (by decide) rfl rfl (Nat.le_of_ble_eq_true rfl) (by decide) (by decide) dX7_init_39 (fun z6 hz => ?_)
  subst hz
  refine gn_putF (q0 := 0) C hin fl_X7_25 (cls_X7 hx) rfl rfl rfl rfl rfl (Nat.le_of_ble_eq_true rfl) dX7_init_42 (ws1 := (h0, .inr (7, [.ref (z2 0), .ref (z4 0), .ref (z6 0), .null, .null, .null, .null, .null, .null, .null, .int 0, .int 0, .int 0, .int 0, .int 0])) :: (((([] : va_W) ++ K_Street ι z2) ++ K_Standing ι (z2 0) z4) ++ K_Standing ι (z2 0) z6)) rfl ?_
  refine gx_aload_0 C dX7_init_45 rfl ?_
  refine gn_new C M iu_X4 (cls_X4 hx) gx_mu (gx_t_1 (List.mem_of_getElem? (i := 109) rfl)) rfl gx_mu (gx_t_1 (List.mem_of_getElem? (i := 110) rfl)) rfl vi_X4 df_X4 (by decide) (by decide) dX7_init_46 (fun q7 => ?_)
  refine gx_dup C dX7_init_49 rfl ?_
  refine gx_aload_0 C dX7_init_50 rfl ?_
  refine gn_getf (q0 := 0) C fl_X7_10 (cls_X7 hx) rfl rfl dX7_init_51 ?_
  refine gn_ctor C M (k_Standing (gx_l Γ) (gx_D Γ) hx q7 (z2 0)) gx_uu gx_mu (gx_t_1 (List.mem_of_getElem? (i := 111) rfl)) rfl vn_X4_init vi_X4 vc_X4_init rfl ⟨by decide +kernel, by decide +kernel, by decide +kernel⟩ (by decide) (by decide) rfl rfl (Nat.le_of_ble_eq_true rfl) (by decide) (by decide) dX7_init_54 (fun z8 hz => ?_)
  subst hz
  refine gn_putF (q0 := 0) C hin fl_X7_28 (cls_X7 hx) rfl rfl rfl rfl rfl (Nat.le_of_ble_eq_true rfl) dX7_init_57 (ws1 := (h0, .inr (7, [.ref (z2 0), .ref (z4 0), .ref (z6 0), .ref (z8 0), .null, .null, .null, .null, .null, .null, .int 0, .int 0, .int 0, .int 0, .int 0])) :: ((((([] : va_W) ++ K_Street ι z2) ++ K_Standing ι (z2 0) z4) ++ K_Standing ι (z2 0) z6) ++ K_Standing ι (z2 0) z8)) rfl ?_
  refine gx_aload_0 C dX7_init_60 rfl ?_
  refine gn_new C M iu_X0 (cls_X0 hx) gx_mu (gx_t_1 (List.mem_of_getElem? (i := 137) rfl)) rfl gx_mu (gx_t_1 (List.mem_of_getElem? (i := 138) rfl)) rfl vi_X0 df_X0 (by decide) (by decide) dX7_init_61 (fun q9 => ?_)
  refine gx_dup C dX7_init_64 rfl ?_
  refine gx_aload_0 C dX7_init_65 rfl ?_
  refine gn_getf (q0 := 0) C fl_X7_10 (cls_X7 hx) rfl rfl dX7_init_66 ?_
  refine gn_ctor C M (k_Bests (gx_l Γ) (gx_D Γ) hx q9 (z2 0)) gx_uu gx_mu (gx_t_1 (List.mem_of_getElem? (i := 139) rfl)) rfl vn_X0_init vi_X0 vc_X0_init rfl ⟨by decide +kernel, by decide +kernel, by decide +kernel⟩ (by decide) (by decide) rfl rfl (Nat.le_of_ble_eq_true rfl) (by decide) (by decide) dX7_init_69 (fun z10 hz => ?_)
  subst hz
  refine gn_putF (q0 := 0) C hin fl_X7_34 (cls_X7 hx) rfl rfl rfl rfl rfl (Nat.le_of_ble_eq_true rfl) dX7_init_72 (ws1 := (h0, .inr (7, [.ref (z2 0), .ref (z4 0), .ref (z6 0), .ref (z8 0), .ref (z10 0), .null, .null, .null, .null, .null, .int 0, .int 0, .int 0, .int 0, .int 0])) :: (((((([] : va_W) ++ K_Street ι z2) ++ K_Standing ι (z2 0) z4) ++ K_Standing ι (z2 0) z6) ++ K_Standing ι (z2 0) z8) ++ K_Bests ι (z2 0) z10)) rfl ?_
  refine gx_aload_0 C dX7_init_75 rfl ?_
  refine gn_new C M iu_X2 (cls_X2 hx) gx_mu (gx_t_1 (List.mem_of_getElem? (i := 186) rfl)) rfl gx_mu (gx_t_1 (List.mem_of_getElem? (i := 187) rfl)) rfl vi_X2 df_X2 (by decide) (by decide) dX7_init_76 (fun q11 => ?_)
  refine gx_dup C dX7_init_79 rfl ?_
  refine gx_aload_0 C dX7_init_80 rfl ?_
  refine gn_getf (q0 := 0) C fl_X7_10 (cls_X7 hx) rfl rfl dX7_init_81 ?_
  refine gx_aload_0 C dX7_init_84 rfl ?_
  refine gn_getf (q0 := 0) C fl_X7_34 (cls_X7 hx) rfl rfl dX7_init_85 ?_
  refine gn_ctor C M (k_Joining (gx_l Γ) (gx_D Γ) hx q11 (z2 0) (z10 0)) gx_uu gx_mu (gx_t_1 (List.mem_of_getElem? (i := 188) rfl)) rfl vn_X2_init vi_X2 vc_X2_init rfl ⟨by decide +kernel, by decide +kernel, by decide +kernel⟩ (by decide) (by decide) rfl rfl (Nat.le_of_ble_eq_true rfl) (by decide) (by decide) dX7_init_88 (fun z12 hz => ?_)
  subst hz
  refine gn_putF (q0 := 0) C hin fl_X7_43 (cls_X7 hx) rfl rfl rfl rfl rfl (Nat.le_of_ble_eq_true rfl) dX7_init_91 (ws1 := (h0, .inr (7, [.ref (z2 0), .ref (z4 0), .ref (z6 0), .ref (z8 0), .ref (z10 0), .ref (z12 0), .null, .null, .null, .null, .int 0, .int 0, .int 0, .int 0, .int 0])) :: ((((((([] : va_W) ++ K_Street ι z2) ++ K_Standing ι (z2 0) z4) ++ K_Standing ι (z2 0) z6) ++ K_Standing ι (z2 0) z8) ++ K_Bests ι (z2 0) z10) ++ K_Joining ι (z2 0) (z10 0) z12)) rfl ?_
  refine gx_aload_0 C dX7_init_94 rfl ?_
  refine gn_new C M iu_X6 (cls_X6 hx) gx_mu (gx_t_1 (List.mem_of_getElem? (i := 210) rfl)) rfl gx_mu (gx_t_1 (List.mem_of_getElem? (i := 211) rfl)) rfl vi_X6 df_X6 (by decide) (by decide) dX7_init_95 (fun q13 => ?_)
  refine gx_dup C dX7_init_98 rfl ?_
  refine gn_ctorN C M (k_Text (gx_l Γ) (gx_D Γ) hx q13) gx_uu (fun hX => gx_xt_X7_49 hX) vn_X6_init vi_X6 vc_X6_init rfl ⟨by decide +kernel, by decide +kernel, by decide +kernel⟩ (by decide) (by decide) rfl rfl (Nat.le_of_ble_eq_true rfl) (by decide) (by decide) dX7_init_99 (fun z14 hz => ?_)
  subst hz
  refine gn_putF (q0 := 0) C hin fl_X7_50 (cls_X7 hx) rfl rfl rfl rfl rfl (Nat.le_of_ble_eq_true rfl) dX7_init_102 (ws1 := (h0, .inr (7, [.ref (z2 0), .ref (z4 0), .ref (z6 0), .ref (z8 0), .ref (z10 0), .ref (z12 0), .ref (z14 0), .null, .null, .null, .int 0, .int 0, .int 0, .int 0, .int 0])) :: (((((((([] : va_W) ++ K_Street ι z2) ++ K_Standing ι (z2 0) z4) ++ K_Standing ι (z2 0) z6) ++ K_Standing ι (z2 0) z8) ++ K_Bests ι (z2 0) z10) ++ K_Joining ι (z2 0) (z10 0) z12) ++ K_Text ι z14)) rfl ?_
  refine gx_aload_0 C dX7_init_105 rfl ?_
  refine gx_iconst4 C dX7_init_106 ?_
  refine gn_newq (t0 := 5) (c0 := ι 5) (N := 4) C M gx_mu (gx_t_1 (List.mem_of_getElem? (i := 210) rfl)) rfl M.2.2.1 (by rw [hx.2]; rfl) (by decide) (by decide) (Nat.le_of_ble_eq_true rfl) (by decide) (by decide) dX7_init_107 (fun q15 => ?_)
  refine gn_putF (q0 := 0) C hin fl_X7_54 (cls_X7 hx) rfl rfl rfl rfl rfl (Nat.le_of_ble_eq_true rfl) dX7_init_110 (ws1 := (h0, .inr (7, [.ref (z2 0), .ref (z4 0), .ref (z6 0), .ref (z8 0), .ref (z10 0), .ref (z12 0), .ref (z14 0), .ref q15, .null, .null, .int 0, .int 0, .int 0, .int 0, .int 0])) :: ((((((((([] : va_W) ++ K_Street ι z2) ++ K_Standing ι (z2 0) z4) ++ K_Standing ι (z2 0) z6) ++ K_Standing ι (z2 0) z8) ++ K_Bests ι (z2 0) z10) ++ K_Joining ι (z2 0) (z10 0) z12) ++ K_Text ι z14) ++ [(q15, .inl (ι 5, 4, .inr (.inr (.inr (.inr (fun _ => none))))))])) rfl ?_
  refine gx_aload_0 C dX7_init_113 rfl ?_
  refine gn_new C M iu_X1 (cls_X1 hx) gx_mu (gx_t_1 (List.mem_of_getElem? (i := 229) rfl)) rfl gx_mu (gx_t_1 (List.mem_of_getElem? (i := 230) rfl)) rfl vi_X1 df_X1 (by decide) (by decide) dX7_init_114 (fun q16 => ?_)
  refine gx_dup C dX7_init_117 rfl ?_
  refine gn_ctorN C M (k_Grammar (gx_l Γ) (gx_D Γ) hx q16) gx_uu (fun hX => gx_xt_X7_60 hX) vn_X1_init vi_X1 vc_X1_init rfl ⟨by decide +kernel, by decide +kernel, by decide +kernel⟩ (by decide) (by decide) rfl rfl (Nat.le_of_ble_eq_true rfl) (by decide) (by decide) dX7_init_118 (fun z17 hz => ?_)
  subst hz
  refine gn_putF (q0 := 0) C hin fl_X7_61 (cls_X7 hx) rfl rfl rfl rfl rfl (Nat.le_of_ble_eq_true rfl) dX7_init_121 (ws1 := (h0, .inr (7, [.ref (z2 0), .ref (z4 0), .ref (z6 0), .ref (z8 0), .ref (z10 0), .ref (z12 0), .ref (z14 0), .ref q15, .ref (z17 0), .null, .int 0, .int 0, .int 0, .int 0, .int 0])) :: (((((((((([] : va_W) ++ K_Street ι z2) ++ K_Standing ι (z2 0) z4) ++ K_Standing ι (z2 0) z6) ++ K_Standing ι (z2 0) z8) ++ K_Bests ι (z2 0) z10) ++ K_Joining ι (z2 0) (z10 0) z12) ++ K_Text ι z14) ++ [(q15, .inl (ι 5, 4, .inr (.inr (.inr (.inr (fun _ => none))))))]) ++ K_Grammar ι z17)) rfl ?_
  refine gx_aload_0 C dX7_init_124 rfl ?_
  refine gn_new C M iu_X3 (cls_X3 hx) gx_mu (gx_t_2 (List.mem_of_getElem? (i := 5) rfl)) rfl gx_mu (gx_t_2 (List.mem_of_getElem? (i := 6) rfl)) rfl vi_X3 df_X3 (by decide) (by decide) dX7_init_125 (fun q18 => ?_)
  refine gx_dup C dX7_init_128 rfl ?_
  refine gx_aload_0 C dX7_init_129 rfl ?_
  refine gn_getf (q0 := 0) C fl_X7_10 (cls_X7 hx) rfl rfl dX7_init_130 ?_
  refine gn_ctor C M (k_Judge (gx_l Γ) (gx_D Γ) hx q18 (z2 0)) gx_uu gx_mu (gx_t_2 (List.mem_of_getElem? (i := 7) rfl)) rfl vn_X3_init vi_X3 vc_X3_init rfl ⟨by decide +kernel, by decide +kernel, by decide +kernel⟩ (by decide) (by decide) rfl rfl (Nat.le_of_ble_eq_true rfl) (by decide) (by decide) dX7_init_133 (fun z19 hz => ?_)
  subst hz
  refine gn_putF (q0 := 0) C hin fl_X7_68 (cls_X7 hx) rfl rfl rfl rfl rfl (Nat.le_of_ble_eq_true rfl) dX7_init_136 (ws1 := (h0, .inr (7, [.ref (z2 0), .ref (z4 0), .ref (z6 0), .ref (z8 0), .ref (z10 0), .ref (z12 0), .ref (z14 0), .ref q15, .ref (z17 0), .ref (z19 0), .int 0, .int 0, .int 0, .int 0, .int 0])) :: ((((((((((([] : va_W) ++ K_Street ι z2) ++ K_Standing ι (z2 0) z4) ++ K_Standing ι (z2 0) z6) ++ K_Standing ι (z2 0) z8) ++ K_Bests ι (z2 0) z10) ++ K_Joining ι (z2 0) (z10 0) z12) ++ K_Text ι z14) ++ [(q15, .inl (ι 5, 4, .inr (.inr (.inr (.inr (fun _ => none))))))]) ++ K_Grammar ι z17) ++ K_Judge ι (z2 0) z19)) rfl ?_
  refine gx_iconst0 C dX7_init_139 ?_
  refine gx_istore_1 C dX7_init_140 (by rw [hnL]; decide) trivial ?_
  refine gx_iload_1 C dX7_init_141 rfl ?_
  refine gx_aload_0 C dX7_init_142 rfl ?_
  refine gn_getf (q0 := 0) C fl_X7_54 (cls_X7 hx) rfl rfl dX7_init_143 ?_
  refine gn_alen (q0 := 67) (t0 := 5) (v := 4) (N := 4) (c0 := ι 5) C rfl (by rw [hx.2]; rfl) (by decide) dX7_init_146 ?_
  refine gx_icmp_ge (tgt := 169) C dX7_init_147 (by decide) (fun hc => absurd hc (by decide)) (fun _ => ?_)
  refine gx_aload_0 C dX7_init_150 rfl ?_
  refine gn_getf (q0 := 0) C fl_X7_54 (cls_X7 hx) rfl rfl dX7_init_151 ?_
  refine gx_iload_1 C dX7_init_154 rfl ?_
  refine gn_new C M iu_X6 (cls_X6 hx) gx_mu (gx_t_1 (List.mem_of_getElem? (i := 210) rfl)) rfl gx_mu (gx_t_1 (List.mem_of_getElem? (i := 211) rfl)) rfl vi_X6 df_X6 (by decide) (by decide) dX7_init_155 (fun q20 => ?_)
  refine gx_dup C dX7_init_158 rfl ?_
  refine gn_ctorN C M (k_Text (gx_l Γ) (gx_D Γ) hx q20) gx_uu (fun hX => gx_xt_X7_49 hX) vn_X6_init vi_X6 vc_X6_init rfl ⟨by decide +kernel, by decide +kernel, by decide +kernel⟩ (by decide) (by decide) rfl rfl (Nat.le_of_ble_eq_true rfl) (by decide) (by decide) dX7_init_159 (fun z21 hz => ?_)
  subst hz
  refine gn_astq (q0 := 67) (t0 := 5) (qk := 74) (ci := 6) (r := (RX6, TX6, 2)) (c0 := ι 5) (N := 4) C rfl (by rw [hx.2]; rfl) rfl (cls_X6 hx).1 (by decide) dX7_init_162 (ws1 := (h0, .inr (7, [.ref (z2 0), .ref (z4 0), .ref (z6 0), .ref (z8 0), .ref (z10 0), .ref (z12 0), .ref (z14 0), .ref q15, .ref (z17 0), .ref (z19 0), .int 0, .int 0, .int 0, .int 0, .int 0])) :: (((((((((((([] : va_W) ++ K_Street ι z2) ++ K_Standing ι (z2 0) z4) ++ K_Standing ι (z2 0) z6) ++ K_Standing ι (z2 0) z8) ++ K_Bests ι (z2 0) z10) ++ K_Joining ι (z2 0) (z10 0) z12) ++ K_Text ι z14) ++ [(q15, .inl (ι 5, 4, .inr (.inr (.inr (.inr (va_up (fun _ => none) 0 (some ((z21 0)))))))))]) ++ K_Grammar ι z17) ++ K_Judge ι (z2 0) z19) ++ K_Text ι z21)) rfl ?_
  refine gx_iinc (v := 1) C dX7_init_163 rfl rfl (by rw [hnL]; decide) trivial ?_
  refine gx_goto (tgt := 141) C dX7_init_166 (by decide) ?_
  refine gx_iload_1 C dX7_init_141 rfl ?_
  refine gx_aload_0 C dX7_init_142 rfl ?_
  refine gn_getf (q0 := 0) C fl_X7_54 (cls_X7 hx) rfl rfl dX7_init_143 ?_
  refine gn_alen (q0 := 67) (t0 := 5) (v := 4) (N := 4) (c0 := ι 5) C rfl (by rw [hx.2]; rfl) (by decide) dX7_init_146 ?_
  refine gx_icmp_ge (tgt := 169) C dX7_init_147 (by decide) (fun hc => absurd hc (by decide)) (fun _ => ?_)
  refine gx_aload_0 C dX7_init_150 rfl ?_
  refine gn_getf (q0 := 0) C fl_X7_54 (cls_X7 hx) rfl rfl dX7_init_151 ?_
  refine gx_iload_1 C dX7_init_154 rfl ?_
  refine gn_new C M iu_X6 (cls_X6 hx) gx_mu (gx_t_1 (List.mem_of_getElem? (i := 210) rfl)) rfl gx_mu (gx_t_1 (List.mem_of_getElem? (i := 211) rfl)) rfl vi_X6 df_X6 (by decide) (by decide) dX7_init_155 (fun q22 => ?_)
  refine gx_dup C dX7_init_158 rfl ?_
  refine gn_ctorN C M (k_Text (gx_l Γ) (gx_D Γ) hx q22) gx_uu (fun hX => gx_xt_X7_49 hX) vn_X6_init vi_X6 vc_X6_init rfl ⟨by decide +kernel, by decide +kernel, by decide +kernel⟩ (by decide) (by decide) rfl rfl (Nat.le_of_ble_eq_true rfl) (by decide) (by decide) dX7_init_159 (fun z23 hz => ?_)
  subst hz
  refine gn_astq (q0 := 67) (t0 := 5) (qk := 76) (ci := 6) (r := (RX6, TX6, 2)) (c0 := ι 5) (N := 4) C rfl (by rw [hx.2]; rfl) rfl (cls_X6 hx).1 (by decide) dX7_init_162 (ws1 := (h0, .inr (7, [.ref (z2 0), .ref (z4 0), .ref (z6 0), .ref (z8 0), .ref (z10 0), .ref (z12 0), .ref (z14 0), .ref q15, .ref (z17 0), .ref (z19 0), .int 0, .int 0, .int 0, .int 0, .int 0])) :: ((((((((((((([] : va_W) ++ K_Street ι z2) ++ K_Standing ι (z2 0) z4) ++ K_Standing ι (z2 0) z6) ++ K_Standing ι (z2 0) z8) ++ K_Bests ι (z2 0) z10) ++ K_Joining ι (z2 0) (z10 0) z12) ++ K_Text ι z14) ++ [(q15, .inl (ι 5, 4, .inr (.inr (.inr (.inr (va_up (va_up (fun _ => none) 0 (some ((z21 0)))) 1 (some ((z23 0)))))))))]) ++ K_Grammar ι z17) ++ K_Judge ι (z2 0) z19) ++ K_Text ι z21) ++ K_Text ι z23)) rfl ?_
  refine gx_iinc (v := 2) C dX7_init_163 rfl rfl (by rw [hnL]; decide) trivial ?_
  refine gx_goto (tgt := 141) C dX7_init_166 (by decide) ?_
  refine gx_iload_1 C dX7_init_141 rfl ?_
  refine gx_aload_0 C dX7_init_142 rfl ?_
  refine gn_getf (q0 := 0) C fl_X7_54 (cls_X7 hx) rfl rfl dX7_init_143 ?_
  refine gn_alen (q0 := 67) (t0 := 5) (v := 4) (N := 4) (c0 := ι 5) C rfl (by rw [hx.2]; rfl) (by decide) dX7_init_146 ?_
  refine gx_icmp_ge (tgt := 169) C dX7_init_147 (by decide) (fun hc => absurd hc (by decide)) (fun _ => ?_)
  refine gx_aload_0 C dX7_init_150 rfl ?_
  refine gn_getf (q0 := 0) C fl_X7_54 (cls_X7 hx) rfl rfl dX7_init_151 ?_
  refine gx_iload_1 C dX7_init_154 rfl ?_
  refine gn_new C M iu_X6 (cls_X6 hx) gx_mu (gx_t_1 (List.mem_of_getElem? (i := 210) rfl)) rfl gx_mu (gx_t_1 (List.mem_of_getElem? (i := 211) rfl)) rfl vi_X6 df_X6 (by decide) (by decide) dX7_init_155 (fun q24 => ?_)
  refine gx_dup C dX7_init_158 rfl ?_
  refine gn_ctorN C M (k_Text (gx_l Γ) (gx_D Γ) hx q24) gx_uu (fun hX => gx_xt_X7_49 hX) vn_X6_init vi_X6 vc_X6_init rfl ⟨by decide +kernel, by decide +kernel, by decide +kernel⟩ (by decide) (by decide) rfl rfl (Nat.le_of_ble_eq_true rfl) (by decide) (by decide) dX7_init_159 (fun z25 hz => ?_)
  subst hz
  refine gn_astq (q0 := 67) (t0 := 5) (qk := 78) (ci := 6) (r := (RX6, TX6, 2)) (c0 := ι 5) (N := 4) C rfl (by rw [hx.2]; rfl) rfl (cls_X6 hx).1 (by decide) dX7_init_162 (ws1 := (h0, .inr (7, [.ref (z2 0), .ref (z4 0), .ref (z6 0), .ref (z8 0), .ref (z10 0), .ref (z12 0), .ref (z14 0), .ref q15, .ref (z17 0), .ref (z19 0), .int 0, .int 0, .int 0, .int 0, .int 0])) :: (((((((((((((([] : va_W) ++ K_Street ι z2) ++ K_Standing ι (z2 0) z4) ++ K_Standing ι (z2 0) z6) ++ K_Standing ι (z2 0) z8) ++ K_Bests ι (z2 0) z10) ++ K_Joining ι (z2 0) (z10 0) z12) ++ K_Text ι z14) ++ [(q15, .inl (ι 5, 4, .inr (.inr (.inr (.inr (va_up (va_up (va_up (fun _ => none) 0 (some ((z21 0)))) 1 (some ((z23 0)))) 2 (some ((z25 0)))))))))]) ++ K_Grammar ι z17) ++ K_Judge ι (z2 0) z19) ++ K_Text ι z21) ++ K_Text ι z23) ++ K_Text ι z25)) rfl ?_
  refine gx_iinc (v := 3) C dX7_init_163 rfl rfl (by rw [hnL]; decide) trivial ?_
  refine gx_goto (tgt := 141) C dX7_init_166 (by decide) ?_
  refine gx_iload_1 C dX7_init_141 rfl ?_
  refine gx_aload_0 C dX7_init_142 rfl ?_
  refine gn_getf (q0 := 0) C fl_X7_54 (cls_X7 hx) rfl rfl dX7_init_143 ?_
  refine gn_alen (q0 := 67) (t0 := 5) (v := 4) (N := 4) (c0 := ι 5) C rfl (by rw [hx.2]; rfl) (by decide) dX7_init_146 ?_
  refine gx_icmp_ge (tgt := 169) C dX7_init_147 (by decide) (fun hc => absurd hc (by decide)) (fun _ => ?_)
  refine gx_aload_0 C dX7_init_150 rfl ?_
  refine gn_getf (q0 := 0) C fl_X7_54 (cls_X7 hx) rfl rfl dX7_init_151 ?_
  refine gx_iload_1 C dX7_init_154 rfl ?_
  refine gn_new C M iu_X6 (cls_X6 hx) gx_mu (gx_t_1 (List.mem_of_getElem? (i := 210) rfl)) rfl gx_mu (gx_t_1 (List.mem_of_getElem? (i := 211) rfl)) rfl vi_X6 df_X6 (by decide) (by decide) dX7_init_155 (fun q26 => ?_)
  refine gx_dup C dX7_init_158 rfl ?_
  refine gn_ctorN C M (k_Text (gx_l Γ) (gx_D Γ) hx q26) gx_uu (fun hX => gx_xt_X7_49 hX) vn_X6_init vi_X6 vc_X6_init rfl ⟨by decide +kernel, by decide +kernel, by decide +kernel⟩ (by decide) (by decide) rfl rfl (Nat.le_of_ble_eq_true rfl) (by decide) (by decide) dX7_init_159 (fun z27 hz => ?_)
  subst hz
  refine gn_astq (q0 := 67) (t0 := 5) (qk := 80) (ci := 6) (r := (RX6, TX6, 2)) (c0 := ι 5) (N := 4) C rfl (by rw [hx.2]; rfl) rfl (cls_X6 hx).1 (by decide) dX7_init_162 (ws1 := (h0, .inr (7, [.ref (z2 0), .ref (z4 0), .ref (z6 0), .ref (z8 0), .ref (z10 0), .ref (z12 0), .ref (z14 0), .ref q15, .ref (z17 0), .ref (z19 0), .int 0, .int 0, .int 0, .int 0, .int 0])) :: ((((((((((((((([] : va_W) ++ K_Street ι z2) ++ K_Standing ι (z2 0) z4) ++ K_Standing ι (z2 0) z6) ++ K_Standing ι (z2 0) z8) ++ K_Bests ι (z2 0) z10) ++ K_Joining ι (z2 0) (z10 0) z12) ++ K_Text ι z14) ++ [(q15, .inl (ι 5, 4, .inr (.inr (.inr (.inr (va_up (va_up (va_up (va_up (fun _ => none) 0 (some ((z21 0)))) 1 (some ((z23 0)))) 2 (some ((z25 0)))) 3 (some ((z27 0)))))))))]) ++ K_Grammar ι z17) ++ K_Judge ι (z2 0) z19) ++ K_Text ι z21) ++ K_Text ι z23) ++ K_Text ι z25) ++ K_Text ι z27)) rfl ?_
  refine gx_iinc (v := 4) C dX7_init_163 rfl rfl (by rw [hnL]; decide) trivial ?_
  refine gx_goto (tgt := 141) C dX7_init_166 (by decide) ?_
  refine gx_iload_1 C dX7_init_141 rfl ?_
  refine gx_aload_0 C dX7_init_142 rfl ?_
  refine gn_getf (q0 := 0) C fl_X7_54 (cls_X7 hx) rfl rfl dX7_init_143 ?_
  refine gn_alen (q0 := 67) (t0 := 5) (v := 4) (N := 4) (c0 := ι 5) C rfl (by rw [hx.2]; rfl) (by decide) dX7_init_146 ?_
  refine gx_icmp_ge (tgt := 169) C dX7_init_147 (by decide) (fun _ => ?_) (fun hc => absurd (by decide) hc)
  refine gx_world (ws' := (h0, .inr (7, [.ref (z2 0), .ref (z4 0), .ref (z6 0), .ref (z8 0), .ref (z10 0), .ref (z12 0), .ref (z14 0), .ref q15, .ref (z17 0), .ref (z19 0), .int 0, .int 0, .int 0, .int 0, .int 0])) :: ((((((((((((((([] : va_W) ++ K_Street ι z2) ++ K_Standing ι (z2 0) z4) ++ K_Standing ι (z2 0) z6) ++ K_Standing ι (z2 0) z8) ++ K_Bests ι (z2 0) z10) ++ K_Joining ι (z2 0) (z10 0) z12) ++ K_Text ι z14) ++ [(q15, .inl (ι 5, 4, .inr (.inr (.inr (.inr (fun j => ([some ((z21 0)), some ((z23 0)), some ((z25 0)), some ((z27 0))] : List (Option Nat)).getD j none)))))))]) ++ K_Grammar ι z17) ++ K_Judge ι (z2 0) z19) ++ K_Text ι z21) ++ K_Text ι z23) ++ K_Text ι z25) ++ K_Text ι z27)) (by rw [gx_up4]) ?_
  refine gx_resort (ws' := wX (fun k => ([h0, z2 0, z2 1, z2 2, z2 3, z2 4, z2 5, z2 6, z2 7, z2 8, z2 9, z2 10, z2 11, z2 12, z2 13, z2 14, z2 15, z2 16, z2 17, z2 18, z2 19, z4 0, z4 1, z4 2, z4 3, z6 0, z6 1, z6 2, z6 3, z8 0, z8 1, z8 2, z8 3, z12 2, z12 3, z12 4, z12 5, z12 6, z12 7, z12 8, z12 9, z10 0, z10 1, z10 2, z10 3, z10 4, z10 5, z10 6, z10 7, z10 8, z10 9, z10 10, z10 11, z10 12, z10 13, z10 14, z10 15, z10 16, z10 17, z10 18, z10 19, z10 20, z10 21, z12 0, z12 1, q15, z14 0, z14 1, z21 0, z21 1, z23 0, z23 1, z25 0, z25 1, z27 0, z27 1, z17 0, z19 0, z19 1, z19 2, z19 3, z19 4] : List Nat).getD k 0) ι (fun _ _ => 0)) [0, 1, 2, 3, 4, 5, 6, 7, 8, 9, 10, 11, 12, 13, 14, 15, 16, 17, 18, 19, 20, 21, 22, 23, 24, 25, 26, 27, 28, 29, 30, 31, 32, 57, 58, 59, 60, 61, 62, 63, 64, 33, 34, 35, 36, 37, 38, 39, 40, 41, 42, 43, 44, 45, 46, 47, 48, 49, 50, 51, 52, 53, 54, 55, 56, 67, 65, 66, 74, 75, 76, 77, 78, 79, 80, 81, 68, 69, 70, 71, 72, 73] rfl (by decide +kernel) ?_
  exact gn_vret (Wb := fun b => wX b ι (fun _ _ => 0)) (fun k => ([h0, z2 0, z2 1, z2 2, z2 3, z2 4, z2 5, z2 6, z2 7, z2 8, z2 9, z2 10, z2 11, z2 12, z2 13, z2 14, z2 15, z2 16, z2 17, z2 18, z2 19, z4 0, z4 1, z4 2, z4 3, z6 0, z6 1, z6 2, z6 3, z8 0, z8 1, z8 2, z8 3, z12 2, z12 3, z12 4, z12 5, z12 6, z12 7, z12 8, z12 9, z10 0, z10 1, z10 2, z10 3, z10 4, z10 5, z10 6, z10 7, z10 8, z10 9, z10 10, z10 11, z10 12, z10 13, z10 14, z10 15, z10 16, z10 17, z10 18, z10 19, z10 20, z10 21, z12 0, z12 1, q15, z14 0, z14 1, z21 0, z21 1, z23 0, z23 1, z25 0, z25 1, z27 0, z27 1, z17 0, z19 0, z19 1, z19 2, z19 3, z19 4] : List Nat).getD k 0) C F dX7_init_169 rfl
theorem vi_X8 : Cond.initialized RX8 ∈ gx_U := gx_mu (gx_t_1 (List.mem_of_getElem? (i := 9) rfl)) rfl
theorem vn_X8_init : Cond.instanceMethod yX8_init ∈ gx_U := gx_mu (gx_t_4 (List.mem_of_getElem? (i := 86) rfl)) rfl
theorem vc_X8_init : Cond.code yX8_init cX8_init 1 none ∈ gx_U := gx_mu (gx_t_4 (List.mem_of_getElem? (i := 87) rfl)) rfl
theorem df_X8 : ∀ j, j < 42 → defaultValue (tyX8 j) = vp_V [.int 0, .null, .null, .null, .int 0, .null, .null, .null, .null, .int 0, .null, .int 0, .null, .null, .int 0, .null, .int 0, .int 0, .int 0, .int 0, .null, .null, .null, .int 0, .null, .null, .int 0, .int 0, .null, .null, .null, .null, .null, .null, .int 0, .int 0, .int 0, .null, .null, .null, .int 0, .long 0] j := fun j hj => match j, hj with
  | 0, _ => rfl
  | 1, _ => rfl
  | 2, _ => rfl
  | 3, _ => rfl
  | 4, _ => rfl
  | 5, _ => rfl
  | 6, _ => rfl
  | 7, _ => rfl
  | 8, _ => rfl
  | 9, _ => rfl
  | 10, _ => rfl
  | 11, _ => rfl
  | 12, _ => rfl
  | 13, _ => rfl
  | 14, _ => rfl
  | 15, _ => rfl
  | 16, _ => rfl
  | 17, _ => rfl
  | 18, _ => rfl
  | 19, _ => rfl
  | 20, _ => rfl
  | 21, _ => rfl
  | 22, _ => rfl
  | 23, _ => rfl
  | 24, _ => rfl
  | 25, _ => rfl
  | 26, _ => rfl
  | 27, _ => rfl
  | 28, _ => rfl
  | 29, _ => rfl
  | 30, _ => rfl
  | 31, _ => rfl
  | 32, _ => rfl
  | 33, _ => rfl
  | 34, _ => rfl
  | 35, _ => rfl
  | 36, _ => rfl
  | 37, _ => rfl
  | 38, _ => rfl
  | 39, _ => rfl
  | 40, _ => rfl
  | 41, _ => rfl
  | j + 42, hj => absurd hj (by omega)
theorem dX8_init_0 : decode cX8_init 0 = .ok (.aload_n 0, 1) := by decide +kernel
theorem dX8_init_1 : decode cX8_init 1 = .ok (.invokespecial 1, 3) := by decide +kernel
theorem dX8_init_4 : decode cX8_init 4 = .ok (.aload_n 0, 1) := by decide +kernel
theorem dX8_init_5 : decode cX8_init 5 = .ok (.bipush 6, 2) := by decide +kernel
theorem dX8_init_7 : decode cX8_init 7 = .ok (.newarray .int, 2) := by decide +kernel
theorem dX8_init_9 : decode cX8_init 9 = .ok (.putfield 7, 3) := by decide +kernel
theorem dX8_init_12 : decode cX8_init 12 = .ok (.aload_n 0, 1) := by decide +kernel
theorem dX8_init_13 : decode cX8_init 13 = .ok (.bipush 6, 2) := by decide +kernel
theorem dX8_init_15 : decode cX8_init 15 = .ok (.newarray .int, 2) := by decide +kernel
theorem dX8_init_17 : decode cX8_init 17 = .ok (.putfield 13, 3) := by decide +kernel
theorem dX8_init_20 : decode cX8_init 20 = .ok (.aload_n 0, 1) := by decide +kernel
theorem dX8_init_21 : decode cX8_init 21 = .ok (.bipush 6, 2) := by decide +kernel
theorem dX8_init_23 : decode cX8_init 23 = .ok (.newarray .boolean, 2) := by decide +kernel
theorem dX8_init_25 : decode cX8_init 25 = .ok (.putfield 16, 3) := by decide +kernel
theorem dX8_init_28 : decode cX8_init 28 = .ok (.aload_n 0, 1) := by decide +kernel
theorem dX8_init_29 : decode cX8_init 29 = .ok (.bipush 6, 2) := by decide +kernel
theorem dX8_init_31 : decode cX8_init 31 = .ok (.newarray .int, 2) := by decide +kernel
theorem dX8_init_33 : decode cX8_init 33 = .ok (.putfield 20, 3) := by decide +kernel
theorem dX8_init_36 : decode cX8_init 36 = .ok (.aload_n 0, 1) := by decide +kernel
theorem dX8_init_37 : decode cX8_init 37 = .ok (.bipush 6, 2) := by decide +kernel
theorem dX8_init_39 : decode cX8_init 39 = .ok (.newarray .int, 2) := by decide +kernel
theorem dX8_init_41 : decode cX8_init 41 = .ok (.putfield 23, 3) := by decide +kernel
theorem dX8_init_44 : decode cX8_init 44 = .ok (.aload_n 0, 1) := by decide +kernel
theorem dX8_init_45 : decode cX8_init 45 = .ok (.bipush 6, 2) := by decide +kernel
theorem dX8_init_47 : decode cX8_init 47 = .ok (.newarray .int, 2) := by decide +kernel
theorem dX8_init_49 : decode cX8_init 49 = .ok (.putfield 26, 3) := by decide +kernel
theorem dX8_init_52 : decode cX8_init 52 = .ok (.aload_n 0, 1) := by decide +kernel
theorem dX8_init_53 : decode cX8_init 53 = .ok (.bipush 6, 2) := by decide +kernel
theorem dX8_init_55 : decode cX8_init 55 = .ok (.newarray .int, 2) := by decide +kernel
theorem dX8_init_57 : decode cX8_init 57 = .ok (.putfield 29, 3) := by decide +kernel
theorem dX8_init_60 : decode cX8_init 60 = .ok (.aload_n 0, 1) := by decide +kernel
theorem dX8_init_61 : decode cX8_init 61 = .ok (.bipush 48, 2) := by decide +kernel
theorem dX8_init_63 : decode cX8_init 63 = .ok (.newarray .int, 2) := by decide +kernel
theorem dX8_init_65 : decode cX8_init 65 = .ok (.putfield 32, 3) := by decide +kernel
theorem dX8_init_68 : decode cX8_init 68 = .ok (.aload_n 0, 1) := by decide +kernel
theorem dX8_init_69 : decode cX8_init 69 = .ok (.sipush 200, 3) := by decide +kernel
theorem dX8_init_72 : decode cX8_init 72 = .ok (.newarray .byte, 2) := by decide +kernel
theorem dX8_init_74 : decode cX8_init 74 = .ok (.putfield 35, 3) := by decide +kernel
theorem dX8_init_77 : decode cX8_init 77 = .ok (.aload_n 0, 1) := by decide +kernel
theorem dX8_init_78 : decode cX8_init 78 = .ok (.iconst 4, 1) := by decide +kernel
theorem dX8_init_79 : decode cX8_init 79 = .ok (.newarray .int, 2) := by decide +kernel
theorem dX8_init_81 : decode cX8_init 81 = .ok (.putfield 39, 3) := by decide +kernel
theorem dX8_init_84 : decode cX8_init 84 = .ok (.aload_n 0, 1) := by decide +kernel
theorem dX8_init_85 : decode cX8_init 85 = .ok (.bipush 50, 2) := by decide +kernel
theorem dX8_init_87 : decode cX8_init 87 = .ok (.newarray .byte, 2) := by decide +kernel
theorem dX8_init_89 : decode cX8_init 89 = .ok (.putfield 42, 3) := by decide +kernel
theorem dX8_init_92 : decode cX8_init 92 = .ok (.aload_n 0, 1) := by decide +kernel
theorem dX8_init_93 : decode cX8_init 93 = .ok (.bipush 6, 2) := by decide +kernel
theorem dX8_init_95 : decode cX8_init 95 = .ok (.newarray .int, 2) := by decide +kernel
theorem dX8_init_97 : decode cX8_init 97 = .ok (.putfield 45, 3) := by decide +kernel
theorem dX8_init_100 : decode cX8_init 100 = .ok (.aload_n 0, 1) := by decide +kernel
theorem dX8_init_101 : decode cX8_init 101 = .ok (.bipush 6, 2) := by decide +kernel
theorem dX8_init_103 : decode cX8_init 103 = .ok (.newarray .int, 2) := by decide +kernel
theorem dX8_init_105 : decode cX8_init 105 = .ok (.putfield 48, 3) := by decide +kernel
theorem dX8_init_108 : decode cX8_init 108 = .ok (.aload_n 0, 1) := by decide +kernel
theorem dX8_init_109 : decode cX8_init 109 = .ok (.bipush 6, 2) := by decide +kernel
theorem dX8_init_111 : decode cX8_init 111 = .ok (.newarray .boolean, 2) := by decide +kernel
theorem dX8_init_113 : decode cX8_init 113 = .ok (.putfield 51, 3) := by decide +kernel
theorem dX8_init_116 : decode cX8_init 116 = .ok (.aload_n 0, 1) := by decide +kernel
theorem dX8_init_117 : decode cX8_init 117 = .ok (.iconst (-1), 1) := by decide +kernel
theorem dX8_init_118 : decode cX8_init 118 = .ok (.putfield 54, 3) := by decide +kernel
theorem dX8_init_121 : decode cX8_init 121 = .ok (.aload_n 0, 1) := by decide +kernel
theorem dX8_init_122 : decode cX8_init 122 = .ok (.bipush 6, 2) := by decide +kernel
theorem dX8_init_124 : decode cX8_init 124 = .ok (.newarray .int, 2) := by decide +kernel
theorem dX8_init_126 : decode cX8_init 126 = .ok (.putfield 58, 3) := by decide +kernel
theorem dX8_init_129 : decode cX8_init 129 = .ok (.aload_n 0, 1) := by decide +kernel
theorem dX8_init_130 : decode cX8_init 130 = .ok (.bipush 6, 2) := by decide +kernel
theorem dX8_init_132 : decode cX8_init 132 = .ok (.newarray .int, 2) := by decide +kernel
theorem dX8_init_134 : decode cX8_init 134 = .ok (.putfield 61, 3) := by decide +kernel
theorem dX8_init_137 : decode cX8_init 137 = .ok (.aload_n 0, 1) := by decide +kernel
theorem dX8_init_138 : decode cX8_init 138 = .ok (.bipush 6, 2) := by decide +kernel
theorem dX8_init_140 : decode cX8_init 140 = .ok (.newarray .int, 2) := by decide +kernel
theorem dX8_init_142 : decode cX8_init 142 = .ok (.putfield 64, 3) := by decide +kernel
theorem dX8_init_145 : decode cX8_init 145 = .ok (.aload_n 0, 1) := by decide +kernel
theorem dX8_init_146 : decode cX8_init 146 = .ok (.bipush 6, 2) := by decide +kernel
theorem dX8_init_148 : decode cX8_init 148 = .ok (.newarray .int, 2) := by decide +kernel
theorem dX8_init_150 : decode cX8_init 150 = .ok (.putfield 67, 3) := by decide +kernel
theorem dX8_init_153 : decode cX8_init 153 = .ok (.aload_n 0, 1) := by decide +kernel
theorem dX8_init_154 : decode cX8_init 154 = .ok (.bipush 6, 2) := by decide +kernel
theorem dX8_init_156 : decode cX8_init 156 = .ok (.newarray .int, 2) := by decide +kernel
theorem dX8_init_158 : decode cX8_init 158 = .ok (.putfield 70, 3) := by decide +kernel
theorem dX8_init_161 : decode cX8_init 161 = .ok (.aload_n 0, 1) := by decide +kernel
theorem dX8_init_162 : decode cX8_init 162 = .ok (.bipush 6, 2) := by decide +kernel
theorem dX8_init_164 : decode cX8_init 164 = .ok (.newarray .boolean, 2) := by decide +kernel
theorem dX8_init_166 : decode cX8_init 166 = .ok (.putfield 73, 3) := by decide +kernel
theorem dX8_init_169 : decode cX8_init 169 = .ok (.aload_n 0, 1) := by decide +kernel
theorem dX8_init_170 : decode cX8_init 170 = .ok (.bipush 8, 2) := by decide +kernel
theorem dX8_init_172 : decode cX8_init 172 = .ok (.newarray .int, 2) := by decide +kernel
theorem dX8_init_174 : decode cX8_init 174 = .ok (.putfield 76, 3) := by decide +kernel
theorem dX8_init_177 : decode cX8_init 177 = .ok (.aload_n 0, 1) := by decide +kernel
theorem dX8_init_178 : decode cX8_init 178 = .ok (.bipush 8, 2) := by decide +kernel
theorem dX8_init_180 : decode cX8_init 180 = .ok (.newarray .int, 2) := by decide +kernel
theorem dX8_init_182 : decode cX8_init 182 = .ok (.putfield 79, 3) := by decide +kernel
theorem dX8_init_185 : decode cX8_init 185 = .ok (.aload_n 0, 1) := by decide +kernel
theorem dX8_init_186 : decode cX8_init 186 = .ok (.bipush 51, 2) := by decide +kernel
theorem dX8_init_188 : decode cX8_init 188 = .ok (.newarray .boolean, 2) := by decide +kernel
theorem dX8_init_190 : decode cX8_init 190 = .ok (.putfield 82, 3) := by decide +kernel
theorem dX8_init_193 : decode cX8_init 193 = .ok (.aload_n 0, 1) := by decide +kernel
theorem dX8_init_194 : decode cX8_init 194 = .ok (.bipush 51, 2) := by decide +kernel
theorem dX8_init_196 : decode cX8_init 196 = .ok (.newarray .boolean, 2) := by decide +kernel
theorem dX8_init_198 : decode cX8_init 198 = .ok (.putfield 85, 3) := by decide +kernel
theorem dX8_init_201 : decode cX8_init 201 = .ok (.aload_n 0, 1) := by decide +kernel
theorem dX8_init_202 : decode cX8_init 202 = .ok (.bipush 51, 2) := by decide +kernel
theorem dX8_init_204 : decode cX8_init 204 = .ok (.newarray .boolean, 2) := by decide +kernel
theorem dX8_init_206 : decode cX8_init 206 = .ok (.putfield 88, 3) := by decide +kernel
theorem dX8_init_209 : decode cX8_init 209 = .ok (.return_, 1) := by decide +kernel
def nT0 : gx_S := fun q j => if q = 0 then (if j = 23 then -1 else 0) else 0
set_option maxRecDepth 40000 in
set_option maxHeartbeats 4000000 in
theorem k_ShopsAsOneModel (l : Launch) (D : va_G) {cl : List vw_C} {tys : List (ClassId × FieldType)} {ι : Nat → ClassId} (hx : gx_std vwCl (gty ι) cl tys) (h0 : Nat) : gx_mK l D cl tys yX8_init (.code yX8_init cX8_init 1 none :: gx_U) (gx_rmc 1 25 567) [.ref h0] [(h0, .inr (8, [.int 0, .null, .null, .null, .int 0, .null, .null, .null, .null, .int 0, .null, .int 0, .null, .null, .int 0, .null, .int 0, .int 0, .int 0, .int 0, .null, .null, .null, .int 0, .null, .null, .int 0, .int 0, .null, .null, .null, .null, .null, .null, .int 0, .int 0, .int 0, .null, .null, .null, .int 0, .long 0]))] (fun b => wM b ι nT0) h0 25 567 := by
  refine gx_startK (V := [.ref h0]) 0 (by decide +kernel) rfl (Nat.le_of_ble_eq_true rfl) rfl (fun Γ hl hD hcl hty hnL C F M hin => ?_)
  subst hl; subst hD; subst hcl; subst hty
  refine gx_aload_0 C dX8_init_0 rfl ?_
  refine gn_obj C gx_mu (gx_t_4 (List.mem_of_getElem? (i := 88) rfl)) rfl vn_obj vc_obj (by decide) (Nat.le_of_ble_eq_true rfl) dX8_init_1 ?_
  refine gx_aload_0 C dX8_init_4 rfl ?_
  refine gx_bipush (v := 6) C dX8_init_5 (by decide) ?_
  refine gn_newa (t0 := 0) (c0 := ι 0) (N := 6) (ty := .int) C M gx_mu (gx_t_1 (List.mem_of_getElem? (i := 108) rfl)) rfl rfl (by rw [hx.2]; rfl) (fun _ => rfl) (by decide) (by decide) (Nat.le_of_ble_eq_true rfl) (by decide) (by decide) dX8_init_7 (fun q1 => ?_)
  refine gn_putF (q0 := 0) C hin fl_X8_7 (cls_X8 hx) rfl rfl rfl rfl rfl (Nat.le_of_ble_eq_true rfl) dX8_init_9 (ws1 := (h0, .inr (8, [.int 0, .ref q1, .null, .null, .int 0, .null, .null, .null, .null, .int 0, .null, .int 0, .null, .null, .int 0, .null, .int 0, .int 0, .int 0, .int 0, .null, .null, .null, .int 0, .null, .null, .int 0, .int 0, .null, .null, .null, .null, .null, .null, .int 0, .int 0, .int 0, .null, .null, .null, .int 0, .long 0])) :: (([] : va_W) ++ [(q1, .inl (ι 0, 6, .inl fun _ => 0))])) rfl ?_
  refine gx_aload_0 C dX8_init_12 rfl ?_
  refine gx_bipush (v := 6) C dX8_init_13 (by decide) ?_
  refine gn_newa (t0 := 0) (c0 := ι 0) (N := 6) (ty := .int) C M gx_mu (gx_t_1 (List.mem_of_getElem? (i := 108) rfl)) rfl rfl (by rw [hx.2]; rfl) (fun _ => rfl) (by decide) (by decide) (Nat.le_of_ble_eq_true rfl) (by decide) (by decide) dX8_init_15 (fun q2 => ?_)
  refine gn_putF (q0 := 0) C hin fl_X8_13 (cls_X8 hx) rfl rfl rfl rfl rfl (Nat.le_of_ble_eq_true rfl) dX8_init_17 (ws1 := (h0, .inr (8, [.int 0, .ref q1, .ref q2, .null, .int 0, .null, .null, .null, .null, .int 0, .null, .int 0, .null, .null, .int 0, .null, .int 0, .int 0, .int 0, .int 0, .null, .null, .null, .int 0, .null, .null, .int 0, .int 0, .null, .null, .null, .null, .null, .null, .int 0, .int 0, .int 0, .null, .null, .null, .int 0, .long 0])) :: ((([] : va_W) ++ [(q1, .inl (ι 0, 6, .inl fun _ => 0))]) ++ [(q2, .inl (ι 0, 6, .inl fun _ => 0))])) rfl ?_
  refine gx_aload_0 C dX8_init_20 rfl ?_
  refine gx_bipush (v := 6) C dX8_init_21 (by decide) ?_
  refine gn_newa (t0 := 1) (c0 := ι 1) (N := 6) (ty := .boolean) C M gx_mu (gx_t_1 (List.mem_of_getElem? (i := 136) rfl)) rfl rfl (by rw [hx.2]; rfl) (fun _ => rfl) (by decide) (by decide) (Nat.le_of_ble_eq_true rfl) (by decide) (by decide) dX8_init_23 (fun q3 => ?_)
  refine gn_putF (q0 := 0) C hin fl_X8_16 (cls_X8 hx) rfl rfl rfl rfl rfl (Nat.le_of_ble_eq_true rfl) dX8_init_25 (ws1 := (h0, .inr (8, [.int 0, .ref q1, .ref q2, .ref q3, .int 0, .null, .null, .null, .null, .int 0, .null, .int 0, .null, .null, .int 0, .null, .int 0, .int 0, .int 0, .int 0, .null, .null, .null, .int 0, .null, .null, .int 0, .int 0, .null, .null, .null, .null, .null, .null, .int 0, .int 0, .int 0, .null, .null, .null, .int 0, .long 0])) :: (((([] : va_W) ++ [(q1, .inl (ι 0, 6, .inl fun _ => 0))]) ++ [(q2, .inl (ι 0, 6, .inl fun _ => 0))]) ++ [(q3, .inl (ι 1, 6, .inl fun _ => 0))])) rfl ?_
  refine gx_aload_0 C dX8_init_28 rfl ?_
  refine gx_bipush (v := 6) C dX8_init_29 (by decide) ?_
  refine gn_newa (t0 := 0) (c0 := ι 0) (N := 6) (ty := .int) C M gx_mu (gx_t_1 (List.mem_of_getElem? (i := 108) rfl)) rfl rfl (by rw [hx.2]; rfl) (fun _ => rfl) (by decide) (by decide) (Nat.le_of_ble_eq_true rfl) (by decide) (by decide) dX8_init_31 (fun q4 => ?_)
  refine gn_putF (q0 := 0) C hin fl_X8_20 (cls_X8 hx) rfl rfl rfl rfl rfl (Nat.le_of_ble_eq_true rfl) dX8_init_33 (ws1 := (h0, .inr (8, [.int 0, .ref q1, .ref q2, .ref q3, .int 0, .ref q4, .null, .null, .null, .int 0, .null, .int 0, .null, .null, .int 0, .null, .int 0, .int 0, .int 0, .int 0, .null, .null, .null, .int 0, .null, .null, .int 0, .int 0, .null, .null, .null, .null, .null, .null, .int 0, .int 0, .int 0, .null, .null, .null, .int 0, .long 0])) :: ((((([] : va_W) ++ [(q1, .inl (ι 0, 6, .inl fun _ => 0))]) ++ [(q2, .inl (ι 0, 6, .inl fun _ => 0))]) ++ [(q3, .inl (ι 1, 6, .inl fun _ => 0))]) ++ [(q4, .inl (ι 0, 6, .inl fun _ => 0))])) rfl ?_
  refine gx_aload_0 C dX8_init_36 rfl ?_
  refine gx_bipush (v := 6) C dX8_init_37 (by decide) ?_
  refine gn_newa (t0 := 0) (c0 := ι 0) (N := 6) (ty := .int) C M gx_mu (gx_t_1 (List.mem_of_getElem? (i := 108) rfl)) rfl rfl (by rw [hx.2]; rfl) (fun _ => rfl) (by decide) (by decide) (Nat.le_of_ble_eq_true rfl) (by decide) (by decide) dX8_init_39 (fun q5 => ?_)
  refine gn_putF (q0 := 0) C hin fl_X8_23 (cls_X8 hx) rfl rfl rfl rfl rfl (Nat.le_of_ble_eq_true rfl) dX8_init_41 (ws1 := (h0, .inr (8, [.int 0, .ref q1, .ref q2, .ref q3, .int 0, .ref q4, .ref q5, .null, .null, .int 0, .null, .int 0, .null, .null, .int 0, .null, .int 0, .int 0, .int 0, .int 0, .null, .null, .null, .int 0, .null, .null, .int 0, .int 0, .null, .null, .null, .null, .null, .null, .int 0, .int 0, .int 0, .null, .null, .null, .int 0, .long 0])) :: (((((([] : va_W) ++ [(q1, .inl (ι 0, 6, .inl fun _ => 0))]) ++ [(q2, .inl (ι 0, 6, .inl fun _ => 0))]) ++ [(q3, .inl (ι 1, 6, .inl fun _ => 0))]) ++ [(q4, .inl (ι 0, 6, .inl fun _ => 0))]) ++ [(q5, .inl (ι 0, 6, .inl fun _ => 0))])) rfl ?_
  refine gx_aload_0 C dX8_init_44 rfl ?_
  refine gx_bipush (v := 6) C dX8_init_45 (by decide) ?_
  refine gn_newa (t0 := 0) (c0 := ι 0) (N := 6) (ty := .int) C M gx_mu (gx_t_1 (List.mem_of_getElem? (i := 108) rfl)) rfl rfl (by rw [hx.2]; rfl) (fun _ => rfl) (by decide) (by decide) (Nat.le_of_ble_eq_true rfl) (by decide) (by decide) dX8_init_47 (fun q6 => ?_)
  refine gn_putF (q0 := 0) C hin fl_X8_26 (cls_X8 hx) rfl rfl rfl rfl rfl (Nat.le_of_ble_eq_true rfl) dX8_init_49 (ws1 := (h0, .inr (8, [.int 0, .ref q1, .ref q2, .ref q3, .int 0, .ref q4, .ref q5, .ref q6, .null, .int 0, .null, .int 0, .null, .null, .int 0, .null, .int 0, .int 0, .int 0, .int 0, .null, .null, .null, .int 0, .null, .null, .int 0, .int 0, .null, .null, .null, .null, .null, .null, .int 0, .int 0, .int 0, .null, .null, .null, .int 0, .long 0])) :: ((((((([] : va_W) ++ [(q1, .inl (ι 0, 6, .inl fun _ => 0))]) ++ [(q2, .inl (ι 0, 6, .inl fun _ => 0))]) ++ [(q3, .inl (ι 1, 6, .inl fun _ => 0))]) ++ [(q4, .inl (ι 0, 6, .inl fun _ => 0))]) ++ [(q5, .inl (ι 0, 6, .inl fun _ => 0))]) ++ [(q6, .inl (ι 0, 6, .inl fun _ => 0))])) rfl ?_
  refine gx_aload_0 C dX8_init_52 rfl ?_
  refine gx_bipush (v := 6) C dX8_init_53 (by decide) ?_
  refine gn_newa (t0 := 0) (c0 := ι 0) (N := 6) (ty := .int) C M gx_mu (gx_t_1 (List.mem_of_getElem? (i := 108) rfl)) rfl rfl (by rw [hx.2]; rfl) (fun _ => rfl) (by decide) (by decide) (Nat.le_of_ble_eq_true rfl) (by decide) (by decide) dX8_init_55 (fun q7 => ?_)
  refine gn_putF (q0 := 0) C hin fl_X8_29 (cls_X8 hx) rfl rfl rfl rfl rfl (Nat.le_of_ble_eq_true rfl) dX8_init_57 (ws1 := (h0, .inr (8, [.int 0, .ref q1, .ref q2, .ref q3, .int 0, .ref q4, .ref q5, .ref q6, .ref q7, .int 0, .null, .int 0, .null, .null, .int 0, .null, .int 0, .int 0, .int 0, .int 0, .null, .null, .null, .int 0, .null, .null, .int 0, .int 0, .null, .null, .null, .null, .null, .null, .int 0, .int 0, .int 0, .null, .null, .null, .int 0, .long 0])) :: (((((((([] : va_W) ++ [(q1, .inl (ι 0, 6, .inl fun _ => 0))]) ++ [(q2, .inl (ι 0, 6, .inl fun _ => 0))]) ++ [(q3, .inl (ι 1, 6, .inl fun _ => 0))]) ++ [(q4, .inl (ι 0, 6, .inl fun _ => 0))]) ++ [(q5, .inl (ι 0, 6, .inl fun _ => 0))]) ++ [(q6, .inl (ι 0, 6, .inl fun _ => 0))]) ++ [(q7, .inl (ι 0, 6, .inl fun _ => 0))])) rfl ?_
  refine gx_aload_0 C dX8_init_60 rfl ?_
  refine gx_bipush (v := 48) C dX8_init_61 (by decide) ?_
  refine gn_newa (t0 := 0) (c0 := ι 0) (N := 48) (ty := .int) C M gx_mu (gx_t_1 (List.mem_of_getElem? (i := 108) rfl)) rfl rfl (by rw [hx.2]; rfl) (fun _ => rfl) (by decide) (by decide) (Nat.le_of_ble_eq_true rfl) (by decide) (by decide) dX8_init_63 (fun q8 => ?_)
  refine gn_putF (q0 := 0) C hin fl_X8_32 (cls_X8 hx) rfl rfl rfl rfl rfl (Nat.le_of_ble_eq_true rfl) dX8_init_65 (ws1 := (h0, .inr (8, [.int 0, .ref q1, .ref q2, .ref q3, .int 0, .ref q4, .ref q5, .ref q6, .ref q7, .int 0, .ref q8, .int 0, .null, .null, .int 0, .null, .int 0, .int 0, .int 0, .int 0, .null, .null, .null, .int 0, .null, .null, .int 0, .int 0, .null, .null, .null, .null, .null, .null, .int 0, .int 0, .int 0, .null, .null, .null, .int 0, .long 0])) :: ((((((((([] : va_W) ++ [(q1, .inl (ι 0, 6, .inl fun _ => 0))]) ++ [(q2, .inl (ι 0, 6, .inl fun _ => 0))]) ++ [(q3, .inl (ι 1, 6, .inl fun _ => 0))]) ++ [(q4, .inl (ι 0, 6, .inl fun _ => 0))]) ++ [(q5, .inl (ι 0, 6, .inl fun _ => 0))]) ++ [(q6, .inl (ι 0, 6, .inl fun _ => 0))]) ++ [(q7, .inl (ι 0, 6, .inl fun _ => 0))]) ++ [(q8, .inl (ι 0, 48, .inl fun _ => 0))])) rfl ?_
  refine gx_aload_0 C dX8_init_68 rfl ?_
  refine gx_sipush (v := 200) C dX8_init_69 (by decide) ?_
  refine gn_newa (t0 := 3) (c0 := ι 3) (N := 200) (ty := .byte) C M gx_mu (gx_t_4 (List.mem_of_getElem? (i := 216) rfl)) rfl rfl (by rw [hx.2]; rfl) (fun _ => rfl) (by decide) (by decide) (Nat.le_of_ble_eq_true rfl) (by decide) (by decide) dX8_init_72 (fun q9 => ?_)
  refine gn_putF (q0 := 0) C hin fl_X8_35 (cls_X8 hx) rfl rfl rfl rfl rfl (Nat.le_of_ble_eq_true rfl) dX8_init_74 (ws1 := (h0, .inr (8, [.int 0, .ref q1, .ref q2, .ref q3, .int 0, .ref q4, .ref q5, .ref q6, .ref q7, .int 0, .ref q8, .int 0, .ref q9, .null, .int 0, .null, .int 0, .int 0, .int 0, .int 0, .null, .null, .null, .int 0, .null, .null, .int 0, .int 0, .null, .null, .null, .null, .null, .null, .int 0, .int 0, .int 0, .null, .null, .null, .int 0, .long 0])) :: (((((((((([] : va_W) ++ [(q1, .inl (ι 0, 6, .inl fun _ => 0))]) ++ [(q2, .inl (ι 0, 6, .inl fun _ => 0))]) ++ [(q3, .inl (ι 1, 6, .inl fun _ => 0))]) ++ [(q4, .inl (ι 0, 6, .inl fun _ => 0))]) ++ [(q5, .inl (ι 0, 6, .inl fun _ => 0))]) ++ [(q6, .inl (ι 0, 6, .inl fun _ => 0))]) ++ [(q7, .inl (ι 0, 6, .inl fun _ => 0))]) ++ [(q8, .inl (ι 0, 48, .inl fun _ => 0))]) ++ [(q9, .inl (ι 3, 200, .inl fun _ => 0))])) rfl ?_
  refine gx_aload_0 C dX8_init_77 rfl ?_
  refine gx_iconst4 C dX8_init_78 ?_
  refine gn_newa (t0 := 0) (c0 := ι 0) (N := 4) (ty := .int) C M gx_mu (gx_t_1 (List.mem_of_getElem? (i := 108) rfl)) rfl rfl (by rw [hx.2]; rfl) (fun _ => rfl) (by decide) (by decide) (Nat.le_of_ble_eq_true rfl) (by decide) (by decide) dX8_init_79 (fun q10 => ?_)
  refine gn_putF (q0 := 0) C hin fl_X8_39 (cls_X8 hx) rfl rfl rfl rfl rfl (Nat.le_of_ble_eq_true rfl) dX8_init_81 (ws1 := (h0, .inr (8, [.int 0, .ref q1, .ref q2, .ref q3, .int 0, .ref q4, .ref q5, .ref q6, .ref q7, .int 0, .ref q8, .int 0, .ref q9, .ref q10, .int 0, .null, .int 0, .int 0, .int 0, .int 0, .null, .null, .null, .int 0, .null, .null, .int 0, .int 0, .null, .null, .null, .null, .null, .null, .int 0, .int 0, .int 0, .null, .null, .null, .int 0, .long 0])) :: ((((((((((([] : va_W) ++ [(q1, .inl (ι 0, 6, .inl fun _ => 0))]) ++ [(q2, .inl (ι 0, 6, .inl fun _ => 0))]) ++ [(q3, .inl (ι 1, 6, .inl fun _ => 0))]) ++ [(q4, .inl (ι 0, 6, .inl fun _ => 0))]) ++ [(q5, .inl (ι 0, 6, .inl fun _ => 0))]) ++ [(q6, .inl (ι 0, 6, .inl fun _ => 0))]) ++ [(q7, .inl (ι 0, 6, .inl fun _ => 0))]) ++ [(q8, .inl (ι 0, 48, .inl fun _ => 0))]) ++ [(q9, .inl (ι 3, 200, .inl fun _ => 0))]) ++ [(q10, .inl (ι 0, 4, .inl fun _ => 0))])) rfl ?_
  refine gx_aload_0 C dX8_init_84 rfl ?_
  refine gx_bipush (v := 50) C dX8_init_85 (by decide) ?_
  refine gn_newa (t0 := 3) (c0 := ι 3) (N := 50) (ty := .byte) C M gx_mu (gx_t_4 (List.mem_of_getElem? (i := 216) rfl)) rfl rfl (by rw [hx.2]; rfl) (fun _ => rfl) (by decide) (by decide) (Nat.le_of_ble_eq_true rfl) (by decide) (by decide) dX8_init_87 (fun q11 => ?_)
  refine gn_putF (q0 := 0) C hin fl_X8_42 (cls_X8 hx) rfl rfl rfl rfl rfl (Nat.le_of_ble_eq_true rfl) dX8_init_89 (ws1 := (h0, .inr (8, [.int 0, .ref q1, .ref q2, .ref q3, .int 0, .ref q4, .ref q5, .ref q6, .ref q7, .int 0, .ref q8, .int 0, .ref q9, .ref q10, .int 0, .ref q11, .int 0, .int 0, .int 0, .int 0, .null, .null, .null, .int 0, .null, .null, .int 0, .int 0, .null, .null, .null, .null, .null, .null, .int 0, .int 0, .int 0, .null, .null, .null, .int 0, .long 0])) :: (((((((((((([] : va_W) ++ [(q1, .inl (ι 0, 6, .inl fun _ => 0))]) ++ [(q2, .inl (ι 0, 6, .inl fun _ => 0))]) ++ [(q3, .inl (ι 1, 6, .inl fun _ => 0))]) ++ [(q4, .inl (ι 0, 6, .inl fun _ => 0))]) ++ [(q5, .inl (ι 0, 6, .inl fun _ => 0))]) ++ [(q6, .inl (ι 0, 6, .inl fun _ => 0))]) ++ [(q7, .inl (ι 0, 6, .inl fun _ => 0))]) ++ [(q8, .inl (ι 0, 48, .inl fun _ => 0))]) ++ [(q9, .inl (ι 3, 200, .inl fun _ => 0))]) ++ [(q10, .inl (ι 0, 4, .inl fun _ => 0))]) ++ [(q11, .inl (ι 3, 50, .inl fun _ => 0))])) rfl ?_
  refine gx_aload_0 C dX8_init_92 rfl ?_
  refine gx_bipush (v := 6) C dX8_init_93 (by decide) ?_
  refine gn_newa (t0 := 0) (c0 := ι 0) (N := 6) (ty := .int) C M gx_mu (gx_t_1 (List.mem_of_getElem? (i := 108) rfl)) rfl rfl (by rw [hx.2]; rfl) (fun _ => rfl) (by decide) (by decide) (Nat.le_of_ble_eq_true rfl) (by decide) (by decide) dX8_init_95 (fun q12 => ?_)
  refine gn_putF (q0 := 0) C hin fl_X8_45 (cls_X8 hx) rfl rfl rfl rfl rfl (Nat.le_of_ble_eq_true rfl) dX8_init_97 (ws1 := (h0, .inr (8, [.int 0, .ref q1, .ref q2, .ref q3, .int 0, .ref q4, .ref q5, .ref q6, .ref q7, .int 0, .ref q8, .int 0, .ref q9, .ref q10, .int 0, .ref q11, .int 0, .int 0, .int 0, .int 0, .ref q12, .null, .null, .int 0, .null, .null, .int 0, .int 0, .null, .null, .null, .null, .null, .null, .int 0, .int 0, .int 0, .null, .null, .null, .int 0, .long 0])) :: ((((((((((((([] : va_W) ++ [(q1, .inl (ι 0, 6, .inl fun _ => 0))]) ++ [(q2, .inl (ι 0, 6, .inl fun _ => 0))]) ++ [(q3, .inl (ι 1, 6, .inl fun _ => 0))]) ++ [(q4, .inl (ι 0, 6, .inl fun _ => 0))]) ++ [(q5, .inl (ι 0, 6, .inl fun _ => 0))]) ++ [(q6, .inl (ι 0, 6, .inl fun _ => 0))]) ++ [(q7, .inl (ι 0, 6, .inl fun _ => 0))]) ++ [(q8, .inl (ι 0, 48, .inl fun _ => 0))]) ++ [(q9, .inl (ι 3, 200, .inl fun _ => 0))]) ++ [(q10, .inl (ι 0, 4, .inl fun _ => 0))]) ++ [(q11, .inl (ι 3, 50, .inl fun _ => 0))]) ++ [(q12, .inl (ι 0, 6, .inl fun _ => 0))])) rfl ?_
  refine gx_aload_0 C dX8_init_100 rfl ?_
  refine gx_bipush (v := 6) C dX8_init_101 (by decide) ?_
  refine gn_newa (t0 := 0) (c0 := ι 0) (N := 6) (ty := .int) C M gx_mu (gx_t_1 (List.mem_of_getElem? (i := 108) rfl)) rfl rfl (by rw [hx.2]; rfl) (fun _ => rfl) (by decide) (by decide) (Nat.le_of_ble_eq_true rfl) (by decide) (by decide) dX8_init_103 (fun q13 => ?_)
  refine gn_putF (q0 := 0) C hin fl_X8_48 (cls_X8 hx) rfl rfl rfl rfl rfl (Nat.le_of_ble_eq_true rfl) dX8_init_105 (ws1 := (h0, .inr (8, [.int 0, .ref q1, .ref q2, .ref q3, .int 0, .ref q4, .ref q5, .ref q6, .ref q7, .int 0, .ref q8, .int 0, .ref q9, .ref q10, .int 0, .ref q11, .int 0, .int 0, .int 0, .int 0, .ref q12, .ref q13, .null, .int 0, .null, .null, .int 0, .int 0, .null, .null, .null, .null, .null, .null, .int 0, .int 0, .int 0, .null, .null, .null, .int 0, .long 0])) :: (((((((((((((([] : va_W) ++ [(q1, .inl (ι 0, 6, .inl fun _ => 0))]) ++ [(q2, .inl (ι 0, 6, .inl fun _ => 0))]) ++ [(q3, .inl (ι 1, 6, .inl fun _ => 0))]) ++ [(q4, .inl (ι 0, 6, .inl fun _ => 0))]) ++ [(q5, .inl (ι 0, 6, .inl fun _ => 0))]) ++ [(q6, .inl (ι 0, 6, .inl fun _ => 0))]) ++ [(q7, .inl (ι 0, 6, .inl fun _ => 0))]) ++ [(q8, .inl (ι 0, 48, .inl fun _ => 0))]) ++ [(q9, .inl (ι 3, 200, .inl fun _ => 0))]) ++ [(q10, .inl (ι 0, 4, .inl fun _ => 0))]) ++ [(q11, .inl (ι 3, 50, .inl fun _ => 0))]) ++ [(q12, .inl (ι 0, 6, .inl fun _ => 0))]) ++ [(q13, .inl (ι 0, 6, .inl fun _ => 0))])) rfl ?_
  refine gx_aload_0 C dX8_init_108 rfl ?_
  refine gx_bipush (v := 6) C dX8_init_109 (by decide) ?_
  refine gn_newa (t0 := 1) (c0 := ι 1) (N := 6) (ty := .boolean) C M gx_mu (gx_t_1 (List.mem_of_getElem? (i := 136) rfl)) rfl rfl (by rw [hx.2]; rfl) (fun _ => rfl) (by decide) (by decide) (Nat.le_of_ble_eq_true rfl) (by decide) (by decide) dX8_init_111 (fun q14 => ?_)
  refine gn_putF (q0 := 0) C hin fl_X8_51 (cls_X8 hx) rfl rfl rfl rfl rfl (Nat.le_of_ble_eq_true rfl) dX8_init_113 (ws1 := (h0, .inr (8, [.int 0, .ref q1, .ref q2, .ref q3, .int 0, .ref q4, .ref q5, .ref q6, .ref q7, .int 0, .ref q8, .int 0, .ref q9, .ref q10, .int 0, .ref q11, .int 0, .int 0, .int 0, .int 0, .ref q12, .ref q13, .ref q14, .int 0, .null, .null, .int 0, .int 0, .null, .null, .null, .null, .null, .null, .int 0, .int 0, .int 0, .null, .null, .null, .int 0, .long 0])) :: ((((((((((((((([] : va_W) ++ [(q1, .inl (ι 0, 6, .inl fun _ => 0))]) ++ [(q2, .inl (ι 0, 6, .inl fun _ => 0))]) ++ [(q3, .inl (ι 1, 6, .inl fun _ => 0))]) ++ [(q4, .inl (ι 0, 6, .inl fun _ => 0))]) ++ [(q5, .inl (ι 0, 6, .inl fun _ => 0))]) ++ [(q6, .inl (ι 0, 6, .inl fun _ => 0))]) ++ [(q7, .inl (ι 0, 6, .inl fun _ => 0))]) ++ [(q8, .inl (ι 0, 48, .inl fun _ => 0))]) ++ [(q9, .inl (ι 3, 200, .inl fun _ => 0))]) ++ [(q10, .inl (ι 0, 4, .inl fun _ => 0))]) ++ [(q11, .inl (ι 3, 50, .inl fun _ => 0))]) ++ [(q12, .inl (ι 0, 6, .inl fun _ => 0))]) ++ [(q13, .inl (ι 0, 6, .inl fun _ => 0))]) ++ [(q14, .inl (ι 1, 6, .inl fun _ => 0))])) rfl ?_
  refine gx_aload_0 C dX8_init_116 rfl ?_
  refine gx_iconstm1 C dX8_init_117 ?_
  refine gn_putf (q0 := 0) C fl_X8_54 (cls_X8 hx) rfl rfl rfl rfl (Nat.le_of_ble_eq_true rfl) dX8_init_118 (ws1 := (h0, .inr (8, [.int 0, .ref q1, .ref q2, .ref q3, .int 0, .ref q4, .ref q5, .ref q6, .ref q7, .int 0, .ref q8, .int 0, .ref q9, .ref q10, .int 0, .ref q11, .int 0, .int 0, .int 0, .int 0, .ref q12, .ref q13, .ref q14, .int (-1), .null, .null, .int 0, .int 0, .null, .null, .null, .null, .null, .null, .int 0, .int 0, .int 0, .null, .null, .null, .int 0, .long 0])) :: ((((((((((((((([] : va_W) ++ [(q1, .inl (ι 0, 6, .inl fun _ => 0))]) ++ [(q2, .inl (ι 0, 6, .inl fun _ => 0))]) ++ [(q3, .inl (ι 1, 6, .inl fun _ => 0))]) ++ [(q4, .inl (ι 0, 6, .inl fun _ => 0))]) ++ [(q5, .inl (ι 0, 6, .inl fun _ => 0))]) ++ [(q6, .inl (ι 0, 6, .inl fun _ => 0))]) ++ [(q7, .inl (ι 0, 6, .inl fun _ => 0))]) ++ [(q8, .inl (ι 0, 48, .inl fun _ => 0))]) ++ [(q9, .inl (ι 3, 200, .inl fun _ => 0))]) ++ [(q10, .inl (ι 0, 4, .inl fun _ => 0))]) ++ [(q11, .inl (ι 3, 50, .inl fun _ => 0))]) ++ [(q12, .inl (ι 0, 6, .inl fun _ => 0))]) ++ [(q13, .inl (ι 0, 6, .inl fun _ => 0))]) ++ [(q14, .inl (ι 1, 6, .inl fun _ => 0))])) rfl ?_
  refine gx_aload_0 C dX8_init_121 rfl ?_
  refine gx_bipush (v := 6) C dX8_init_122 (by decide) ?_
  refine gn_newa (t0 := 0) (c0 := ι 0) (N := 6) (ty := .int) C M gx_mu (gx_t_1 (List.mem_of_getElem? (i := 108) rfl)) rfl rfl (by rw [hx.2]; rfl) (fun _ => rfl) (by decide) (by decide) (Nat.le_of_ble_eq_true rfl) (by decide) (by decide) dX8_init_124 (fun q15 => ?_)
  refine gn_putF (q0 := 0) C hin fl_X8_58 (cls_X8 hx) rfl rfl rfl rfl rfl (Nat.le_of_ble_eq_true rfl) dX8_init_126 (ws1 := (h0, .inr (8, [.int 0, .ref q1, .ref q2, .ref q3, .int 0, .ref q4, .ref q5, .ref q6, .ref q7, .int 0, .ref q8, .int 0, .ref q9, .ref q10, .int 0, .ref q11, .int 0, .int 0, .int 0, .int 0, .ref q12, .ref q13, .ref q14, .int (-1), .ref q15, .null, .int 0, .int 0, .null, .null, .null, .null, .null, .null, .int 0, .int 0, .int 0, .null, .null, .null, .int 0, .long 0])) :: (((((((((((((((([] : va_W) ++ [(q1, .inl (ι 0, 6, .inl fun _ => 0))]) ++ [(q2, .inl (ι 0, 6, .inl fun _ => 0))]) ++ [(q3, .inl (ι 1, 6, .inl fun _ => 0))]) ++ [(q4, .inl (ι 0, 6, .inl fun _ => 0))]) ++ [(q5, .inl (ι 0, 6, .inl fun _ => 0))]) ++ [(q6, .inl (ι 0, 6, .inl fun _ => 0))]) ++ [(q7, .inl (ι 0, 6, .inl fun _ => 0))]) ++ [(q8, .inl (ι 0, 48, .inl fun _ => 0))]) ++ [(q9, .inl (ι 3, 200, .inl fun _ => 0))]) ++ [(q10, .inl (ι 0, 4, .inl fun _ => 0))]) ++ [(q11, .inl (ι 3, 50, .inl fun _ => 0))]) ++ [(q12, .inl (ι 0, 6, .inl fun _ => 0))]) ++ [(q13, .inl (ι 0, 6, .inl fun _ => 0))]) ++ [(q14, .inl (ι 1, 6, .inl fun _ => 0))]) ++ [(q15, .inl (ι 0, 6, .inl fun _ => 0))])) rfl ?_
  refine gx_aload_0 C dX8_init_129 rfl ?_
  refine gx_bipush (v := 6) C dX8_init_130 (by decide) ?_
  refine gn_newa (t0 := 0) (c0 := ι 0) (N := 6) (ty := .int) C M gx_mu (gx_t_1 (List.mem_of_getElem? (i := 108) rfl)) rfl rfl (by rw [hx.2]; rfl) (fun _ => rfl) (by decide) (by decide) (Nat.le_of_ble_eq_true rfl) (by decide) (by decide) dX8_init_132 (fun q16 => ?_)
  refine gn_putF (q0 := 0) C hin fl_X8_61 (cls_X8 hx) rfl rfl rfl rfl rfl (Nat.le_of_ble_eq_true rfl) dX8_init_134 (ws1 := (h0, .inr (8, [.int 0, .ref q1, .ref q2, .ref q3, .int 0, .ref q4, .ref q5, .ref q6, .ref q7, .int 0, .ref q8, .int 0, .ref q9, .ref q10, .int 0, .ref q11, .int 0, .int 0, .int 0, .int 0, .ref q12, .ref q13, .ref q14, .int (-1), .ref q15, .ref q16, .int 0, .int 0, .null, .null, .null, .null, .null, .null, .int 0, .int 0, .int 0, .null, .null, .null, .int 0, .long 0])) :: ((((((((((((((((([] : va_W) ++ [(q1, .inl (ι 0, 6, .inl fun _ => 0))]) ++ [(q2, .inl (ι 0, 6, .inl fun _ => 0))]) ++ [(q3, .inl (ι 1, 6, .inl fun _ => 0))]) ++ [(q4, .inl (ι 0, 6, .inl fun _ => 0))]) ++ [(q5, .inl (ι 0, 6, .inl fun _ => 0))]) ++ [(q6, .inl (ι 0, 6, .inl fun _ => 0))]) ++ [(q7, .inl (ι 0, 6, .inl fun _ => 0))]) ++ [(q8, .inl (ι 0, 48, .inl fun _ => 0))]) ++ [(q9, .inl (ι 3, 200, .inl fun _ => 0))]) ++ [(q10, .inl (ι 0, 4, .inl fun _ => 0))]) ++ [(q11, .inl (ι 3, 50, .inl fun _ => 0))]) ++ [(q12, .inl (ι 0, 6, .inl fun _ => 0))]) ++ [(q13, .inl (ι 0, 6, .inl fun _ => 0))]) ++ [(q14, .inl (ι 1, 6, .inl fun _ => 0))]) ++ [(q15, .inl (ι 0, 6, .inl fun _ => 0))]) ++ [(q16, .inl (ι 0, 6, .inl fun _ => 0))])) rfl ?_
  refine gx_aload_0 C dX8_init_137 rfl ?_
  refine gx_bipush (v := 6) C dX8_init_138 (by decide) ?_
  refine gn_newa (t0 := 0) (c0 := ι 0) (N := 6) (ty := .int) C M gx_mu (gx_t_1 (List.mem_of_getElem? (i := 108) rfl)) rfl rfl (by rw [hx.2]; rfl) (fun _ => rfl) (by decide) (by decide) (Nat.le_of_ble_eq_true rfl) (by decide) (by decide) dX8_init_140 (fun q17 => ?_)
  refine gn_putF (q0 := 0) C hin fl_X8_64 (cls_X8 hx) rfl rfl rfl rfl rfl (Nat.le_of_ble_eq_true rfl) dX8_init_142 (ws1 := (h0, .inr (8, [.int 0, .ref q1, .ref q2, .ref q3, .int 0, .ref q4, .ref q5, .ref q6, .ref q7, .int 0, .ref q8, .int 0, .ref q9, .ref q10, .int 0, .ref q11, .int 0, .int 0, .int 0, .int 0, .ref q12, .ref q13, .ref q14, .int (-1), .ref q15, .ref q16, .int 0, .int 0, .ref q17, .null, .null, .null, .null, .null, .int 0, .int 0, .int 0, .null, .null, .null, .int 0, .long 0])) :: (((((((((((((((((([] : va_W) ++ [(q1, .inl (ι 0, 6, .inl fun _ => 0))]) ++ [(q2, .inl (ι 0, 6, .inl fun _ => 0))]) ++ [(q3, .inl (ι 1, 6, .inl fun _ => 0))]) ++ [(q4, .inl (ι 0, 6, .inl fun _ => 0))]) ++ [(q5, .inl (ι 0, 6, .inl fun _ => 0))]) ++ [(q6, .inl (ι 0, 6, .inl fun _ => 0))]) ++ [(q7, .inl (ι 0, 6, .inl fun _ => 0))]) ++ [(q8, .inl (ι 0, 48, .inl fun _ => 0))]) ++ [(q9, .inl (ι 3, 200, .inl fun _ => 0))]) ++ [(q10, .inl (ι 0, 4, .inl fun _ => 0))]) ++ [(q11, .inl (ι 3, 50, .inl fun _ => 0))]) ++ [(q12, .inl (ι 0, 6, .inl fun _ => 0))]) ++ [(q13, .inl (ι 0, 6, .inl fun _ => 0))]) ++ [(q14, .inl (ι 1, 6, .inl fun _ => 0))]) ++ [(q15, .inl (ι 0, 6, .inl fun _ => 0))]) ++ [(q16, .inl (ι 0, 6, .inl fun _ => 0))]) ++ [(q17, .inl (ι 0, 6, .inl fun _ => 0))])) rfl ?_
  refine gx_aload_0 C dX8_init_145 rfl ?_
  refine gx_bipush (v := 6) C dX8_init_146 (by decide) ?_
  refine gn_newa (t0 := 0) (c0 := ι 0) (N := 6) (ty := .int) C M gx_mu (gx_t_1 (List.mem_of_getElem? (i := 108) rfl)) rfl rfl (by rw [hx.2]; rfl) (fun _ => rfl) (by decide) (by decide) (Nat.le_of_ble_eq_true rfl) (by decide) (by decide) dX8_init_148 (fun q18 => ?_)
  refine gn_putF (q0 := 0) C hin fl_X8_67 (cls_X8 hx) rfl rfl rfl rfl rfl (Nat.le_of_ble_eq_true rfl) dX8_init_150 (ws1 := (h0, .inr (8, [.int 0, .ref q1, .ref q2, .ref q3, .int 0, .ref q4, .ref q5, .ref q6, .ref q7, .int 0, .ref q8, .int 0, .ref q9, .ref q10, .int 0, .ref q11, .int 0, .int 0, .int 0, .int 0, .ref q12, .ref q13, .ref q14, .int (-1), .ref q15, .ref q16, .int 0, .int 0, .ref q17, .ref q18, .null, .null, .null, .null, .int 0, .int 0, .int 0, .null, .null, .null, .int 0, .long 0])) :: ((((((((((((((((((([] : va_W) ++ [(q1, .inl (ι 0, 6, .inl fun _ => 0))]) ++ [(q2, .inl (ι 0, 6, .inl fun _ => 0))]) ++ [(q3, .inl (ι 1, 6, .inl fun _ => 0))]) ++ [(q4, .inl (ι 0, 6, .inl fun _ => 0))]) ++ [(q5, .inl (ι 0, 6, .inl fun _ => 0))]) ++ [(q6, .inl (ι 0, 6, .inl fun _ => 0))]) ++ [(q7, .inl (ι 0, 6, .inl fun _ => 0))]) ++ [(q8, .inl (ι 0, 48, .inl fun _ => 0))]) ++ [(q9, .inl (ι 3, 200, .inl fun _ => 0))]) ++ [(q10, .inl (ι 0, 4, .inl fun _ => 0))]) ++ [(q11, .inl (ι 3, 50, .inl fun _ => 0))]) ++ [(q12, .inl (ι 0, 6, .inl fun _ => 0))]) ++ [(q13, .inl (ι 0, 6, .inl fun _ => 0))]) ++ [(q14, .inl (ι 1, 6, .inl fun _ => 0))]) ++ [(q15, .inl (ι 0, 6, .inl fun _ => 0))]) ++ [(q16, .inl (ι 0, 6, .inl fun _ => 0))]) ++ [(q17, .inl (ι 0, 6, .inl fun _ => 0))]) ++ [(q18, .inl (ι 0, 6, .inl fun _ => 0))])) rfl ?_
  refine gx_aload_0 C dX8_init_153 rfl ?_
  refine gx_bipush (v := 6) C dX8_init_154 (by decide) ?_
  refine gn_newa (t0 := 0) (c0 := ι 0) (N := 6) (ty := .int) C M gx_mu (gx_t_1 (List.mem_of_getElem? (i := 108) rfl)) rfl rfl (by rw [hx.2]; rfl) (fun _ => rfl) (by decide) (by decide) (Nat.le_of_ble_eq_true rfl) (by decide) (by decide) dX8_init_156 (fun q19 => ?_)
  refine gn_putF (q0 := 0) C hin fl_X8_70 (cls_X8 hx) rfl rfl rfl rfl rfl (Nat.le_of_ble_eq_true rfl) dX8_init_158 (ws1 := (h0, .inr (8, [.int 0, .ref q1, .ref q2, .ref q3, .int 0, .ref q4, .ref q5, .ref q6, .ref q7, .int 0, .ref q8, .int 0, .ref q9, .ref q10, .int 0, .ref q11, .int 0, .int 0, .int 0, .int 0, .ref q12, .ref q13, .ref q14, .int (-1), .ref q15, .ref q16, .int 0, .int 0, .ref q17, .ref q18, .ref q19, .null, .null, .null, .int 0, .int 0, .int 0, .null, .null, .null, .int 0, .long 0])) :: (((((((((((((((((((([] : va_W) ++ [(q1, .inl (ι 0, 6, .inl fun _ => 0))]) ++ [(q2, .inl (ι 0, 6, .inl fun _ => 0))]) ++ [(q3, .inl (ι 1, 6, .inl fun _ => 0))]) ++ [(q4, .inl (ι 0, 6, .inl fun _ => 0))]) ++ [(q5, .inl (ι 0, 6, .inl fun _ => 0))]) ++ [(q6, .inl (ι 0, 6, .inl fun _ => 0))]) ++ [(q7, .inl (ι 0, 6, .inl fun _ => 0))]) ++ [(q8, .inl (ι 0, 48, .inl fun _ => 0))]) ++ [(q9, .inl (ι 3, 200, .inl fun _ => 0))]) ++ [(q10, .inl (ι 0, 4, .inl fun _ => 0))]) ++ [(q11, .inl (ι 3, 50, .inl fun _ => 0))]) ++ [(q12, .inl (ι 0, 6, .inl fun _ => 0))]) ++ [(q13, .inl (ι 0, 6, .inl fun _ => 0))]) ++ [(q14, .inl (ι 1, 6, .inl fun _ => 0))]) ++ [(q15, .inl (ι 0, 6, .inl fun _ => 0))]) ++ [(q16, .inl (ι 0, 6, .inl fun _ => 0))]) ++ [(q17, .inl (ι 0, 6, .inl fun _ => 0))]) ++ [(q18, .inl (ι 0, 6, .inl fun _ => 0))]) ++ [(q19, .inl (ι 0, 6, .inl fun _ => 0))])) rfl ?_
  refine gx_aload_0 C dX8_init_161 rfl ?_
  refine gx_bipush (v := 6) C dX8_init_162 (by decide) ?_
  refine gn_newa (t0 := 1) (c0 := ι 1) (N := 6) (ty := .boolean) C M gx_mu (gx_t_1 (List.mem_of_getElem? (i := 136) rfl)) rfl rfl (by rw [hx.2]; rfl) (fun _ => rfl) (by decide) (by decide) (Nat.le_of_ble_eq_true rfl) (by decide) (by decide) dX8_init_164 (fun q20 => ?_)
  refine gn_putF (q0 := 0) C hin fl_X8_73 (cls_X8 hx) rfl rfl rfl rfl rfl (Nat.le_of_ble_eq_true rfl) dX8_init_166 (ws1 := (h0, .inr (8, [.int 0, .ref q1, .ref q2, .ref q3, .int 0, .ref q4, .ref q5, .ref q6, .ref q7, .int 0, .ref q8, .int 0, .ref q9, .ref q10, .int 0, .ref q11, .int 0, .int 0, .int 0, .int 0, .ref q12, .ref q13, .ref q14, .int (-1), .ref q15, .ref q16, .int 0, .int 0, .ref q17, .ref q18, .ref q19, .ref q20, .null, .null, .int 0, .int 0, .int 0, .null, .null, .null, .int 0, .long 0])) :: ((((((((((((((((((((([] : va_W) ++ [(q1, .inl (ι 0, 6, .inl fun _ => 0))]) ++ [(q2, .inl (ι 0, 6, .inl fun _ => 0))]) ++ [(q3, .inl (ι 1, 6, .inl fun _ => 0))]) ++ [(q4, .inl (ι 0, 6, .inl fun _ => 0))]) ++ [(q5, .inl (ι 0, 6, .inl fun _ => 0))]) ++ [(q6, .inl (ι 0, 6, .inl fun _ => 0))]) ++ [(q7, .inl (ι 0, 6, .inl fun _ => 0))]) ++ [(q8, .inl (ι 0, 48, .inl fun _ => 0))]) ++ [(q9, .inl (ι 3, 200, .inl fun _ => 0))]) ++ [(q10, .inl (ι 0, 4, .inl fun _ => 0))]) ++ [(q11, .inl (ι 3, 50, .inl fun _ => 0))]) ++ [(q12, .inl (ι 0, 6, .inl fun _ => 0))]) ++ [(q13, .inl (ι 0, 6, .inl fun _ => 0))]) ++ [(q14, .inl (ι 1, 6, .inl fun _ => 0))]) ++ [(q15, .inl (ι 0, 6, .inl fun _ => 0))]) ++ [(q16, .inl (ι 0, 6, .inl fun _ => 0))]) ++ [(q17, .inl (ι 0, 6, .inl fun _ => 0))]) ++ [(q18, .inl (ι 0, 6, .inl fun _ => 0))]) ++ [(q19, .inl (ι 0, 6, .inl fun _ => 0))]) ++ [(q20, .inl (ι 1, 6, .inl fun _ => 0))])) rfl ?_
  refine gx_aload_0 C dX8_init_169 rfl ?_
  refine gx_bipush (v := 8) C dX8_init_170 (by decide) ?_
  refine gn_newa (t0 := 0) (c0 := ι 0) (N := 8) (ty := .int) C M gx_mu (gx_t_1 (List.mem_of_getElem? (i := 108) rfl)) rfl rfl (by rw [hx.2]; rfl) (fun _ => rfl) (by decide) (by decide) (Nat.le_of_ble_eq_true rfl) (by decide) (by decide) dX8_init_172 (fun q21 => ?_)
  refine gn_putF (q0 := 0) C hin fl_X8_76 (cls_X8 hx) rfl rfl rfl rfl rfl (Nat.le_of_ble_eq_true rfl) dX8_init_174 (ws1 := (h0, .inr (8, [.int 0, .ref q1, .ref q2, .ref q3, .int 0, .ref q4, .ref q5, .ref q6, .ref q7, .int 0, .ref q8, .int 0, .ref q9, .ref q10, .int 0, .ref q11, .int 0, .int 0, .int 0, .int 0, .ref q12, .ref q13, .ref q14, .int (-1), .ref q15, .ref q16, .int 0, .int 0, .ref q17, .ref q18, .ref q19, .ref q20, .ref q21, .null, .int 0, .int 0, .int 0, .null, .null, .null, .int 0, .long 0])) :: (((((((((((((((((((((([] : va_W) ++ [(q1, .inl (ι 0, 6, .inl fun _ => 0))]) ++ [(q2, .inl (ι 0, 6, .inl fun _ => 0))]) ++ [(q3, .inl (ι 1, 6, .inl fun _ => 0))]) ++ [(q4, .inl (ι 0, 6, .inl fun _ => 0))]) ++ [(q5, .inl (ι 0, 6, .inl fun _ => 0))]) ++ [(q6, .inl (ι 0, 6, .inl fun _ => 0))]) ++ [(q7, .inl (ι 0, 6, .inl fun _ => 0))]) ++ [(q8, .inl (ι 0, 48, .inl fun _ => 0))]) ++ [(q9, .inl (ι 3, 200, .inl fun _ => 0))]) ++ [(q10, .inl (ι 0, 4, .inl fun _ => 0))]) ++ [(q11, .inl (ι 3, 50, .inl fun _ => 0))]) ++ [(q12, .inl (ι 0, 6, .inl fun _ => 0))]) ++ [(q13, .inl (ι 0, 6, .inl fun _ => 0))]) ++ [(q14, .inl (ι 1, 6, .inl fun _ => 0))]) ++ [(q15, .inl (ι 0, 6, .inl fun _ => 0))]) ++ [(q16, .inl (ι 0, 6, .inl fun _ => 0))]) ++ [(q17, .inl (ι 0, 6, .inl fun _ => 0))]) ++ [(q18, .inl (ι 0, 6, .inl fun _ => 0))]) ++ [(q19, .inl (ι 0, 6, .inl fun _ => 0))]) ++ [(q20, .inl (ι 1, 6, .inl fun _ => 0))]) ++ [(q21, .inl (ι 0, 8, .inl fun _ => 0))])) rfl ?_
  refine gx_aload_0 C dX8_init_177 rfl ?_
  refine gx_bipush (v := 8) C dX8_init_178 (by decide) ?_
  refine gn_newa (t0 := 0) (c0 := ι 0) (N := 8) (ty := .int) C M gx_mu (gx_t_1 (List.mem_of_getElem? (i := 108) rfl)) rfl rfl (by rw [hx.2]; rfl) (fun _ => rfl) (by decide) (by decide) (Nat.le_of_ble_eq_true rfl) (by decide) (by decide) dX8_init_180 (fun q22 => ?_)
  refine gn_putF (q0 := 0) C hin fl_X8_79 (cls_X8 hx) rfl rfl rfl rfl rfl (Nat.le_of_ble_eq_true rfl) dX8_init_182 (ws1 := (h0, .inr (8, [.int 0, .ref q1, .ref q2, .ref q3, .int 0, .ref q4, .ref q5, .ref q6, .ref q7, .int 0, .ref q8, .int 0, .ref q9, .ref q10, .int 0, .ref q11, .int 0, .int 0, .int 0, .int 0, .ref q12, .ref q13, .ref q14, .int (-1), .ref q15, .ref q16, .int 0, .int 0, .ref q17, .ref q18, .ref q19, .ref q20, .ref q21, .ref q22, .int 0, .int 0, .int 0, .null, .null, .null, .int 0, .long 0])) :: ((((((((((((((((((((((([] : va_W) ++ [(q1, .inl (ι 0, 6, .inl fun _ => 0))]) ++ [(q2, .inl (ι 0, 6, .inl fun _ => 0))]) ++ [(q3, .inl (ι 1, 6, .inl fun _ => 0))]) ++ [(q4, .inl (ι 0, 6, .inl fun _ => 0))]) ++ [(q5, .inl (ι 0, 6, .inl fun _ => 0))]) ++ [(q6, .inl (ι 0, 6, .inl fun _ => 0))]) ++ [(q7, .inl (ι 0, 6, .inl fun _ => 0))]) ++ [(q8, .inl (ι 0, 48, .inl fun _ => 0))]) ++ [(q9, .inl (ι 3, 200, .inl fun _ => 0))]) ++ [(q10, .inl (ι 0, 4, .inl fun _ => 0))]) ++ [(q11, .inl (ι 3, 50, .inl fun _ => 0))]) ++ [(q12, .inl (ι 0, 6, .inl fun _ => 0))]) ++ [(q13, .inl (ι 0, 6, .inl fun _ => 0))]) ++ [(q14, .inl (ι 1, 6, .inl fun _ => 0))]) ++ [(q15, .inl (ι 0, 6, .inl fun _ => 0))]) ++ [(q16, .inl (ι 0, 6, .inl fun _ => 0))]) ++ [(q17, .inl (ι 0, 6, .inl fun _ => 0))]) ++ [(q18, .inl (ι 0, 6, .inl fun _ => 0))]) ++ [(q19, .inl (ι 0, 6, .inl fun _ => 0))]) ++ [(q20, .inl (ι 1, 6, .inl fun _ => 0))]) ++ [(q21, .inl (ι 0, 8, .inl fun _ => 0))]) ++ [(q22, .inl (ι 0, 8, .inl fun _ => 0))])) rfl ?_
  refine gx_aload_0 C dX8_init_185 rfl ?_
  refine gx_bipush (v := 51) C dX8_init_186 (by decide) ?_
  refine gn_newa (t0 := 1) (c0 := ι 1) (N := 51) (ty := .boolean) C M gx_mu (gx_t_1 (List.mem_of_getElem? (i := 136) rfl)) rfl rfl (by rw [hx.2]; rfl) (fun _ => rfl) (by decide) (by decide) (Nat.le_of_ble_eq_true rfl) (by decide) (by decide) dX8_init_188 (fun q23 => ?_)
  refine gn_putF (q0 := 0) C hin fl_X8_82 (cls_X8 hx) rfl rfl rfl rfl rfl (Nat.le_of_ble_eq_true rfl) dX8_init_190 (ws1 := (h0, .inr (8, [.int 0, .ref q1, .ref q2, .ref q3, .int 0, .ref q4, .ref q5, .ref q6, .ref q7, .int 0, .ref q8, .int 0, .ref q9, .ref q10, .int 0, .ref q11, .int 0, .int 0, .int 0, .int 0, .ref q12, .ref q13, .ref q14, .int (-1), .ref q15, .ref q16, .int 0, .int 0, .ref q17, .ref q18, .ref q19, .ref q20, .ref q21, .ref q22, .int 0, .int 0, .int 0, .ref q23, .null, .null, .int 0, .long 0])) :: (((((((((((((((((((((((([] : va_W) ++ [(q1, .inl (ι 0, 6, .inl fun _ => 0))]) ++ [(q2, .inl (ι 0, 6, .inl fun _ => 0))]) ++ [(q3, .inl (ι 1, 6, .inl fun _ => 0))]) ++ [(q4, .inl (ι 0, 6, .inl fun _ => 0))]) ++ [(q5, .inl (ι 0, 6, .inl fun _ => 0))]) ++ [(q6, .inl (ι 0, 6, .inl fun _ => 0))]) ++ [(q7, .inl (ι 0, 6, .inl fun _ => 0))]) ++ [(q8, .inl (ι 0, 48, .inl fun _ => 0))]) ++ [(q9, .inl (ι 3, 200, .inl fun _ => 0))]) ++ [(q10, .inl (ι 0, 4, .inl fun _ => 0))]) ++ [(q11, .inl (ι 3, 50, .inl fun _ => 0))]) ++ [(q12, .inl (ι 0, 6, .inl fun _ => 0))]) ++ [(q13, .inl (ι 0, 6, .inl fun _ => 0))]) ++ [(q14, .inl (ι 1, 6, .inl fun _ => 0))]) ++ [(q15, .inl (ι 0, 6, .inl fun _ => 0))]) ++ [(q16, .inl (ι 0, 6, .inl fun _ => 0))]) ++ [(q17, .inl (ι 0, 6, .inl fun _ => 0))]) ++ [(q18, .inl (ι 0, 6, .inl fun _ => 0))]) ++ [(q19, .inl (ι 0, 6, .inl fun _ => 0))]) ++ [(q20, .inl (ι 1, 6, .inl fun _ => 0))]) ++ [(q21, .inl (ι 0, 8, .inl fun _ => 0))]) ++ [(q22, .inl (ι 0, 8, .inl fun _ => 0))]) ++ [(q23, .inl (ι 1, 51, .inl fun _ => 0))])) rfl ?_
  refine gx_aload_0 C dX8_init_193 rfl ?_
  refine gx_bipush (v := 51) C dX8_init_194 (by decide) ?_
  refine gn_newa (t0 := 1) (c0 := ι 1) (N := 51) (ty := .boolean) C M gx_mu (gx_t_1 (List.mem_of_getElem? (i := 136) rfl)) rfl rfl (by rw [hx.2]; rfl) (fun _ => rfl) (by decide) (by decide) (Nat.le_of_ble_eq_true rfl) (by decide) (by decide) dX8_init_196 (fun q24 => ?_)
  refine gn_putF (q0 := 0) C hin fl_X8_85 (cls_X8 hx) rfl rfl rfl rfl rfl (Nat.le_of_ble_eq_true rfl) dX8_init_198 (ws1 := (h0, .inr (8, [.int 0, .ref q1, .ref q2, .ref q3, .int 0, .ref q4, .ref q5, .ref q6, .ref q7, .int 0, .ref q8, .int 0, .ref q9, .ref q10, .int 0, .ref q11, .int 0, .int 0, .int 0, .int 0, .ref q12, .ref q13, .ref q14, .int (-1), .ref q15, .ref q16, .int 0, .int 0, .ref q17, .ref q18, .ref q19, .ref q20, .ref q21, .ref q22, .int 0, .int 0, .int 0, .ref q23, .ref q24, .null, .int 0, .long 0])) :: ((((((((((((((((((((((((([] : va_W) ++ [(q1, .inl (ι 0, 6, .inl fun _ => 0))]) ++ [(q2, .inl (ι 0, 6, .inl fun _ => 0))]) ++ [(q3, .inl (ι 1, 6, .inl fun _ => 0))]) ++ [(q4, .inl (ι 0, 6, .inl fun _ => 0))]) ++ [(q5, .inl (ι 0, 6, .inl fun _ => 0))]) ++ [(q6, .inl (ι 0, 6, .inl fun _ => 0))]) ++ [(q7, .inl (ι 0, 6, .inl fun _ => 0))]) ++ [(q8, .inl (ι 0, 48, .inl fun _ => 0))]) ++ [(q9, .inl (ι 3, 200, .inl fun _ => 0))]) ++ [(q10, .inl (ι 0, 4, .inl fun _ => 0))]) ++ [(q11, .inl (ι 3, 50, .inl fun _ => 0))]) ++ [(q12, .inl (ι 0, 6, .inl fun _ => 0))]) ++ [(q13, .inl (ι 0, 6, .inl fun _ => 0))]) ++ [(q14, .inl (ι 1, 6, .inl fun _ => 0))]) ++ [(q15, .inl (ι 0, 6, .inl fun _ => 0))]) ++ [(q16, .inl (ι 0, 6, .inl fun _ => 0))]) ++ [(q17, .inl (ι 0, 6, .inl fun _ => 0))]) ++ [(q18, .inl (ι 0, 6, .inl fun _ => 0))]) ++ [(q19, .inl (ι 0, 6, .inl fun _ => 0))]) ++ [(q20, .inl (ι 1, 6, .inl fun _ => 0))]) ++ [(q21, .inl (ι 0, 8, .inl fun _ => 0))]) ++ [(q22, .inl (ι 0, 8, .inl fun _ => 0))]) ++ [(q23, .inl (ι 1, 51, .inl fun _ => 0))]) ++ [(q24, .inl (ι 1, 51, .inl fun _ => 0))])) rfl ?_
  refine gx_aload_0 C dX8_init_201 rfl ?_
  refine gx_bipush (v := 51) C dX8_init_202 (by decide) ?_
  refine gn_newa (t0 := 1) (c0 := ι 1) (N := 51) (ty := .boolean) C M gx_mu (gx_t_1 (List.mem_of_getElem? (i := 136) rfl)) rfl rfl (by rw [hx.2]; rfl) (fun _ => rfl) (by decide) (by decide) (Nat.le_of_ble_eq_true rfl) (by decide) (by decide) dX8_init_204 (fun q25 => ?_)
  refine gn_putF (q0 := 0) C hin fl_X8_88 (cls_X8 hx) rfl rfl rfl rfl rfl (Nat.le_of_ble_eq_true rfl) dX8_init_206 (ws1 := (h0, .inr (8, [.int 0, .ref q1, .ref q2, .ref q3, .int 0, .ref q4, .ref q5, .ref q6, .ref q7, .int 0, .ref q8, .int 0, .ref q9, .ref q10, .int 0, .ref q11, .int 0, .int 0, .int 0, .int 0, .ref q12, .ref q13, .ref q14, .int (-1), .ref q15, .ref q16, .int 0, .int 0, .ref q17, .ref q18, .ref q19, .ref q20, .ref q21, .ref q22, .int 0, .int 0, .int 0, .ref q23, .ref q24, .ref q25, .int 0, .long 0])) :: (((((((((((((((((((((((((([] : va_W) ++ [(q1, .inl (ι 0, 6, .inl fun _ => 0))]) ++ [(q2, .inl (ι 0, 6, .inl fun _ => 0))]) ++ [(q3, .inl (ι 1, 6, .inl fun _ => 0))]) ++ [(q4, .inl (ι 0, 6, .inl fun _ => 0))]) ++ [(q5, .inl (ι 0, 6, .inl fun _ => 0))]) ++ [(q6, .inl (ι 0, 6, .inl fun _ => 0))]) ++ [(q7, .inl (ι 0, 6, .inl fun _ => 0))]) ++ [(q8, .inl (ι 0, 48, .inl fun _ => 0))]) ++ [(q9, .inl (ι 3, 200, .inl fun _ => 0))]) ++ [(q10, .inl (ι 0, 4, .inl fun _ => 0))]) ++ [(q11, .inl (ι 3, 50, .inl fun _ => 0))]) ++ [(q12, .inl (ι 0, 6, .inl fun _ => 0))]) ++ [(q13, .inl (ι 0, 6, .inl fun _ => 0))]) ++ [(q14, .inl (ι 1, 6, .inl fun _ => 0))]) ++ [(q15, .inl (ι 0, 6, .inl fun _ => 0))]) ++ [(q16, .inl (ι 0, 6, .inl fun _ => 0))]) ++ [(q17, .inl (ι 0, 6, .inl fun _ => 0))]) ++ [(q18, .inl (ι 0, 6, .inl fun _ => 0))]) ++ [(q19, .inl (ι 0, 6, .inl fun _ => 0))]) ++ [(q20, .inl (ι 1, 6, .inl fun _ => 0))]) ++ [(q21, .inl (ι 0, 8, .inl fun _ => 0))]) ++ [(q22, .inl (ι 0, 8, .inl fun _ => 0))]) ++ [(q23, .inl (ι 1, 51, .inl fun _ => 0))]) ++ [(q24, .inl (ι 1, 51, .inl fun _ => 0))]) ++ [(q25, .inl (ι 1, 51, .inl fun _ => 0))])) rfl ?_
  refine gx_world (ws' := (h0, .inr (8, [.int 0, .ref q1, .ref q2, .ref q3, .int 0, .ref q4, .ref q5, .ref q6, .ref q7, .int 0, .ref q8, .int 0, .ref q9, .ref q10, .int 0, .ref q11, .int 0, .int 0, .int 0, .int 0, .ref q12, .ref q13, .ref q14, .int (-1), .ref q15, .ref q16, .int 0, .int 0, .ref q17, .ref q18, .ref q19, .ref q20, .ref q21, .ref q22, .int 0, .int 0, .int 0, .ref q23, .ref q24, .ref q25, .int 0, .long (gx_mk 0 0)])) :: (((((((((((((((((((((((((([] : va_W) ++ [(q1, .inl (ι 0, 6, .inl fun _ => 0))]) ++ [(q2, .inl (ι 0, 6, .inl fun _ => 0))]) ++ [(q3, .inl (ι 1, 6, .inl fun _ => 0))]) ++ [(q4, .inl (ι 0, 6, .inl fun _ => 0))]) ++ [(q5, .inl (ι 0, 6, .inl fun _ => 0))]) ++ [(q6, .inl (ι 0, 6, .inl fun _ => 0))]) ++ [(q7, .inl (ι 0, 6, .inl fun _ => 0))]) ++ [(q8, .inl (ι 0, 48, .inl fun _ => 0))]) ++ [(q9, .inl (ι 3, 200, .inl fun _ => 0))]) ++ [(q10, .inl (ι 0, 4, .inl fun _ => 0))]) ++ [(q11, .inl (ι 3, 50, .inl fun _ => 0))]) ++ [(q12, .inl (ι 0, 6, .inl fun _ => 0))]) ++ [(q13, .inl (ι 0, 6, .inl fun _ => 0))]) ++ [(q14, .inl (ι 1, 6, .inl fun _ => 0))]) ++ [(q15, .inl (ι 0, 6, .inl fun _ => 0))]) ++ [(q16, .inl (ι 0, 6, .inl fun _ => 0))]) ++ [(q17, .inl (ι 0, 6, .inl fun _ => 0))]) ++ [(q18, .inl (ι 0, 6, .inl fun _ => 0))]) ++ [(q19, .inl (ι 0, 6, .inl fun _ => 0))]) ++ [(q20, .inl (ι 1, 6, .inl fun _ => 0))]) ++ [(q21, .inl (ι 0, 8, .inl fun _ => 0))]) ++ [(q22, .inl (ι 0, 8, .inl fun _ => 0))]) ++ [(q23, .inl (ι 1, 51, .inl fun _ => 0))]) ++ [(q24, .inl (ι 1, 51, .inl fun _ => 0))]) ++ [(q25, .inl (ι 1, 51, .inl fun _ => 0))])) (by rw [gx_mk_0]) ?_
  refine gx_world (ws' := wM (fun k => ([h0, q1, q2, q3, q4, q5, q6, q7, q8, q9, q10, q11, q12, q13, q14, q15, q16, q17, q18, q19, q20, q21, q22, q23, q24, q25] : List Nat).getD k 0) ι nT0) rfl ?_
  exact gn_vret (Wb := fun b => wM b ι nT0) (fun k => ([h0, q1, q2, q3, q4, q5, q6, q7, q8, q9, q10, q11, q12, q13, q14, q15, q16, q17, q18, q19, q20, q21, q22, q23, q24, q25] : List Nat).getD k 0) C F dX8_init_209 rfl

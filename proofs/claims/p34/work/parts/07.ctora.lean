/-! making objects: what constructors need beside the words; rows over explicit worlds -/
def gx_AOA (t : FieldType) (U : State) : Prop := (Cond.arrayOver (.array t)).before #[] U = true
theorem gx_AOA_moved {t : FieldType} {u U : State} (hvm : u.vm.Alike U.vm) (h : gx_AOA t u) : gx_AOA t U := by
  obtain ⟨comp, c, k, h1, h2, h3, h4, h5⟩ := arrayOverA_spec h
  obtain ⟨k', hk', he⟩ := hvm.2.2 _ _ h3
  have hi := (va_idx_bare U.vm comp).symm
  first | rw [← hvm.bare_eq] at hi | rw [hvm.bare_eq] at hi
  rw [va_idx_bare u.vm comp] at hi
  have hi := hi.trans h2
  have hkind : k'.kind = .array comp (.array t) := by rw [he]; exact h4
  have f1 : U.vm.findClass (FieldType.array t).toString = some comp := by rw [hvm.findClass]; exact h1
  have f2 : U.vm.findClass ("[" ++ (FieldType.array t).toString) = some c := by rw [hvm.findClass]; exact h5
  unfold gx_AOA Cond.before Cond.holds
  simp only [Cond.value]
  rw [f1, Option.bind_some]
  refine (congrArg (fun o : Option Nat => (o.bind (fun c => (U.vm.classes[c]?).map fun (k : Class) => match k.kind with | .array _ ty => decide (ty = FieldType.array t) && decide (U.vm.findClass ("[" ++ (FieldType.array t).toString) = some c) | _ => false) == some true)) hi).trans ?_
  simp [hk', hkind, f2]
theorem gx_RA_one {U : State} {c1 c2 : ClassId} {ty : FieldType} (h1 : va_RA U c1 ty) (h2 : va_RA U c2 ty) : c1 = c2 := by
  cases ty with
  | object C =>
    obtain ⟨_, _, _, _, _, a⟩ := h1
    obtain ⟨_, _, _, _, _, b⟩ := h2
    exact Option.some.inj (a.symm.trans b)
  | _ => exact Option.some.inj (Eq.trans (Eq.symm h1) h2)
theorem gx_K_one {D : va_G} {cl : List vw_C} {tys : List (ClassId × FieldType)} {U : State} {t0 : Nat} {c0 cA : ClassId} {ty : FieldType} (h : va_K D cl (tys ++ [(cA, ty)]) U) (ht : tys[t0]? = some (c0, ty)) : cA = c0 := by
  have a := (h.2 tys.length (cA, ty) (by simp)).2
  have b := (h.2 t0 (c0, ty) (by rw [List.getElem?_append_left (List.getElem?_eq_some_iff.mp ht).1]; exact ht)).2
  exact gx_RA_one a b
theorem gx_rc {args : Array Value} {s : State} {t : FieldType} (h : (Cond.arrayClass t).before args s = true) (ho : ∀ C, t ≠ .object C) : ∃ c : ClassId, ArrOfT s c t ∧ va_RA s c t := by
  obtain ⟨c, k, comp, h1, h2, h3⟩ := Cond.arrayClass_spec h
  refine ⟨c, fun N z => ⟨(fun q hq => by cases hq), k, h2, comp, h3⟩, ?_⟩
  cases t <;> first | exact h1 | exact absurd rfl (ho _)
theorem gx_rcA {args : Array Value} {s : State} {t : FieldType} (h : (Cond.arrayOver (.array t)).before args s = true) : ∃ c : ClassId, ArrOfT s c (.array t) ∧ va_RA s c (.array t) := by
  obtain ⟨comp, c, k, h1, h2, h3, h4, h5⟩ := arrayOverA_spec h
  exact ⟨c, fun N z => ⟨(fun q hq => by cases hq), k, h3, comp, h4⟩, h5⟩
theorem gx_rcO {args : Array Value} {s : State} {C : String} (h : (Cond.arrayOver (.object C)).before args s = true) : ∃ c : ClassId, ArrOfT s c (.object C) ∧ va_RA s c (.object C) := by
  obtain ⟨comp, c, k, h1, h2, h3, h4, h5⟩ := Cond.arrayOver_spec h
  exact ⟨c, fun N z => ⟨(fun q hq => by cases hq), k, h3, comp, h4⟩, k, comp, h3, h4, h1, h5⟩

def gx_xt (U : State) : Prop := va_AO "ShopsAsOne$Text" U ∧ gx_AOA .int U ∧ va_Nw (.methodLinkNest RX7 9 yX5_init RX7) U ∧ va_Nw (.methodLinkNest RX7 49 yX6_init RX7) U ∧ va_Nw (.methodLinkNest RX7 60 yX1_init RX7) U
theorem gx_xt_same {u U : State} (hv : u.vm = U.vm) (h : gx_xt u) : gx_xt U := ⟨va_AO.moved (by rw [hv]; exact Vm.Alike.refl _) h.1, gx_AOA_moved (by rw [hv]; exact Vm.Alike.refl _) h.2.1, va_Nw.same rfl hv h.2.2.1, va_Nw.same rfl hv h.2.2.2.1, va_Nw.same rfl hv h.2.2.2.2⟩
theorem gx_xt_warm {s U : State} (hW : s.WarmedH U.vm) (h : gx_xt s) : gx_xt U := ⟨va_AO.moved hW.alike h.1, gx_AOA_moved hW.alike h.2.1, va_Nw.warmM hW h.2.2.1, va_Nw.warmM hW h.2.2.2.1, va_Nw.warmM hW h.2.2.2.2⟩
theorem gx_xt_X7_9 {s : State} (h : gx_xt s) : va_Nw (.methodLinkNest RX7 9 yX5_init RX7) s := h.2.2.1
theorem gx_xt_X7_49 {s : State} (h : gx_xt s) : va_Nw (.methodLinkNest RX7 49 yX6_init RX7) s := h.2.2.2.1
theorem gx_xt_X7_60 {s : State} (h : gx_xt s) : va_Nw (.methodLinkNest RX7 60 yX1_init RX7) s := h.2.2.2.2
theorem gx_outer (c : ClassId) (N h0 : Nat) : ∀ i : Nat, Jvm.Free.Multi.outerC c N h0 i = arrV c N (fun j => va_rf (if j < i then some (h0 + 1 + j) else none))
  | 0 => by
    show ({ cls := c, slots := Array.replicate N .null, vm := .none } : Cell) = _
    rw [arrV_new]
    refine congrArg (arrV c N) (funext fun j => ?_)
    simp [va_rf]
  | i + 1 => by
    show (Jvm.Free.Multi.outerC c N h0 i).setSlot i (.ref (h0 + 1 + i)) = _
    rw [gx_outer c N h0 i, arrV_store]
    refine congrArg (arrV c N) (funext fun j => ?_)
    by_cases e : j = i
    · subst e
      simp [updV, va_rf]
    · by_cases h : j < i
      · simp [updV, e, h, Nat.lt_succ_of_lt h]
      · simp [updV, e, h, show ¬ j < i + 1 by omega]
def gx_rmc (d mc ms : Nat) : Room := { frames := d, cells := mc, slots := ms, locals := 40 * d }
/-- new cells behind a world -/
theorem gx_grow {A : Nat → Prop} {D : va_G} {cl : List vw_C} {ws nw : va_W} {H H1 : Heap} (hP : va_P D cl ws H) (hD : va_D A ws) (hold : ∀ q : Nat, q < H.size → H1[q]? = H[q]?) (hn : va_P D cl nw H1) (h1 : ∀ (i j : Nat) (p q : Nat × va_E), nw[i]? = some p → nw[j]? = some q → p.1 = q.1 → i = j) (h2 : ∀ (i : Nat) (p : Nat × va_E), nw[i]? = some p → H.size ≤ p.1 ∧ A p.1) : va_P D cl (ws ++ nw) H1 ∧ va_D A (ws ++ nw) :=
  ⟨(hP.kept (fun k q hq => hold _ (hP k q hq).lt)).app hn, va_D.app hD ⟨h1, fun k q hq => (h2 k q hq).2⟩ (fun i j p q hp hq e => by
    have a := (hP i p hp).lt
    have b := (h2 j q hq).1
    omega)⟩
theorem gx_mkrow {N K : Nat} {c0 : ClassId} {r : Nat → Nat} {k : Nat} {q : Nat × va_E} {e : va_E} (h : ((List.range N).map (fun i => ((r i, e) : Nat × va_E)))[k]? = some q) : k < N ∧ q = (r k, e) := by
  rw [List.getElem?_map] at h
  by_cases hk : k < N
  · rw [List.getElem?_range hk] at h
    exact ⟨hk, (Option.some.inj h).symm⟩
  · rw [List.getElem?_eq_none (by rw [List.length_range]; omega)] at h
    cases h
/-- the references of a new grid -/
def gx_tb (N : Nat) (r : Nat → Nat) : Nat → Option Nat := fun j => ((List.range N).map (fun i => some (r i))).getD j none
theorem gx_tb_eq (N : Nat) (r : Nat → Nat) : (fun i => if i < N then some (r i) else none) = gx_tb N r := by
  funext i
  unfold gx_tb
  rw [List.getD_eq_getElem?_getD, List.getElem?_map]
  by_cases h : i < N
  · rw [if_pos h, List.getElem?_range h]; rfl
  · rw [if_neg h, List.getElem?_eq_none (by rw [List.length_range]; omega)]; rfl
section GN
variable {Γ : gx_T} {cc : ByteArray} {own : String} {Ts : List Cond} {d k n pc : Nat} {V st : List Value} {ws : va_W} {mc ms : Nat}
/-- the room for making, and the tables' other words -/
def gx_mkr (Γ : gx_T) (mc ms : Nat) : Prop := (gx_R Γ).cells = mc ∧ (gx_R Γ).slots = ms ∧ gx_xt (gx_s Γ)
theorem gn_obj (C : gx_ok Γ cc own Ts d) {ix a : Nat} (hl : Cond.methodLink own ix objectInit ∈ Ts) (hi : Cond.instanceMethod objectInit ∈ Ts) (hc : Cond.code objectInit ⟨#[0xb1]⟩ 1 none ∈ Ts) (h1 : 0 < d) (hW : (st.map fun v => v.category).sum ≤ 8) (hd : decode cc pc = .ok (.invokespecial ix, 3)) (kk : gx_G Γ k n (pc + 3) V st ws) : gx_G Γ k n pc V (.ref a :: st) ws := fun H locs ls hP hD hS hl2 => by
  have hts := C.2.2.2.2.1
  have h2 := C.2.2.2.2.2.2.2.2.1
  have h3 := C.2.2.2.2.2.2.2.2.2
  refine W.objInit C.1 C.2.1 C.2.2.2.1 (hts _ hl) (hts _ hi) (hts _ hc) rfl (by rw [C.2.2.1]; exact gx_L_size hl2) rfl hd (by omega) (by show 2 * 0 + (st.map fun v => v.category).sum + 12 ≤ _; omega) ?_
  exact kk H locs ls hP hD hS hl2
theorem gn_getf (C : gx_ok Γ cc own Ts d) {ix q0 b ci N j : Nat} {K : String} {T : u_T} {ty : Nat → FieldType} {fs : List Value} {v : Value} (hf : gx_fl Ts own ix K T N j) (hcl : gx_cls (gx_cl Γ) ci K T N ty) (he : ws[q0]? = some (b, .inr (ci, fs))) (hv : fs[j]? = some v) (hd : decode cc pc = .ok (.getfield ix, 3)) (kk : gx_G Γ k n (pc + 3) V (v :: st) ws) : gx_G Γ k n pc V (.ref b :: st) ws := fun H locs ls hP hD hS hl =>
  va_get C.1 C.2.1 C.2.2.2.2.1 hf.1 C.2.2.2.1 C.2.2.2.2.2.1 hP q0 he hcl.1 j hf.2.1 (C.2.2.2.2.1 _ hf.2.2.1) (by rw [hf.2.2.2]; exact fun _ h => h) hv hd (kk H locs ls hP hD hS hl)
theorem gn_putf (C : gx_ok Γ cc own Ts d) {ix q0 b ci N j : Nat} {K : String} {T : u_T} {ty : Nat → FieldType} {fs : List Value} {v : Value} (hf : gx_fl Ts own ix K T N j) (hcl : gx_cls (gx_cl Γ) ci K T N ty) (he : ws[q0]? = some (b, .inr (ci, fs))) (hfin : (T j).2.2.2 = false) (hn : narrow (ty j) v = v) (hfit : fits (ty j) v = true) (hlen : j < fs.length) (hd : decode cc pc = .ok (.putfield ix, 3)) {ws1 : va_W} (hw : ws.set q0 (b, .inr (ci, fs.set j v)) = ws1) (kk : gx_G Γ k n (pc + 3) V st ws1) : gx_G Γ k n pc V (v :: .ref b :: st) ws := fun H locs ls hP hD hS hl =>
  va_put C.1 C.2.1 C.2.2.2.2.1 hf.1 ty hcl.2.1 hcl.2.2 C.2.2.2.1 C.2.2.2.2.2.1 hP hD hS q0 he hcl.1 j hf.2.1 (C.2.2.2.2.1 _ hf.2.2.1) (by rw [hf.2.2.2]; exact fun _ h => h) hfin (hcl.2.1 j hf.2.1) hn hfit hlen hd (fun H1 locs1 hP hD hS => by
    rw [hw] at hP hD
    exact kk H1 locs1 ls hP hD hS hl)
theorem gn_putF (C : gx_ok Γ cc own Ts d) {ix q0 b ci N j : Nat} {K : String} {T : u_T} {ty : Nat → FieldType} {fs : List Value} {v : Value} (hin : (gx_meth Γ).name = "<init>") (hf : gx_fl Ts own ix K T N j) (hcl : gx_cls (gx_cl Γ) ci K T N ty) (he : ws[q0]? = some (b, .inr (ci, fs))) (hfin : (T j).2.2.2 = true) (hdc : (T j).1 = own) (hn : narrow (ty j) v = v) (hfit : fits (ty j) v = true) (hlen : j < fs.length) (hd : decode cc pc = .ok (.putfield ix, 3)) {ws1 : va_W} (hw : ws.set q0 (b, .inr (ci, fs.set j v)) = ws1) (kk : gx_G Γ k n (pc + 3) V st ws1) : gx_G Γ k n pc V (v :: .ref b :: st) ws := fun H locs ls hP hD hS hl =>
  va_putF C.1 C.2.1 C.2.2.2.2.1 hf.1 ty hcl.2.1 hcl.2.2 C.2.2.2.1 C.2.2.2.2.2.1 hP hD hS q0 he hcl.1 j hf.2.1 (C.2.2.2.2.1 _ hf.2.2.1) (by rw [hf.2.2.2]; exact fun _ h => h) hfin hin hdc (hcl.2.1 j hf.2.1) hn hfit hlen hd (fun H1 locs1 hP hD hS => by
    rw [hw] at hP hD
    exact kk H1 locs1 ls hP hD hS hl)
theorem gn_new (C : gx_ok Γ cc own Ts d) (M : gx_mkr Γ mc ms) {ix ci N : Nat} {K : String} {T : u_T} {ty : Nat → FieldType} {fs : List Value} (hin : ∀ w ∈ u_ws K T N, w ∈ Ts) (hcl : gx_cls (gx_cl Γ) ci K T N ty) (h1 : Cond.classLink own ix K ∈ Ts) (h2 : Cond.instantiable K N ∈ Ts) (h3 : Cond.initialized K ∈ Ts) (hfs : ∀ j, j < N → defaultValue (ty j) = vp_V fs j) (hc : k + 1 ≤ mc) (hs : n + N ≤ ms) (hd : decode cc pc = .ok (.new ix, 3)) (kk : ∀ q : Nat, gx_G Γ (k + 1) (n + N) (pc + 3) V (.ref q :: st) (ws ++ [(q, .inr (ci, fs))])) : gx_G Γ k n pc V st ws := fun H locs ls hP hD hS hl =>
  va_new C.1 C.2.1 C.2.2.2.2.1 hin ty hcl.2.1 C.2.2.2.1 (C.2.2.2.2.1 _ h1) (C.2.2.2.2.1 _ h2) (C.2.2.2.2.1 _ h3) C.2.2.2.2.2.1 hP hD hS C.2.2.2.2.2.2.1 hcl.1 hfs (by rw [M.1]; exact hc) (by rw [M.2.1]; exact hs) hd (fun q H1 hP hD hS => kk q H1 locs ls hP hD hS hl)
theorem gn_newa (C : gx_ok Γ cc own Ts d) (M : gx_mkr Γ mc ms) {atype : ArrayType} {ty : FieldType} {t0 N : Nat} {c0 : ClassId} {z : Int32} (harr : Cond.arrayClass (newarray.typeOf atype) ∈ Ts) (hty : newarray.typeOf atype = ty) (ht : (gx_ty Γ)[t0]? = some (c0, ty)) (ha : ∀ cA : ClassId, vp_cell cA (N, .inl fun _ => 0) = arrV cA N (fun _ => defaultValue ty)) (hz : ¬ z < 0) (hN : z.toNatClampNeg = N) (hbytes : N * componentBytes ty ≤ 536870912) (hc : k + 1 ≤ mc) (hs : n + N ≤ ms) (hd : decode cc pc = .ok (.newarray atype, 2)) (kk : ∀ q : Nat, gx_G Γ (k + 1) (n + N) (pc + 2) V (.ref q :: st) (ws ++ [(q, .inl (c0, N, .inl fun _ => 0))])) : gx_G Γ k n pc V (.int z :: st) ws := fun H locs ls hP hD hS hl =>
  va_newa C.1 C.2.1 (C.2.2.2.2.1 _ harr) hty C.2.2.2.2.2.1 hP hD hS C.2.2.2.2.2.2.1 ha hz hN hbytes (by rw [M.1]; exact hc) (by rw [M.2.1]; exact hs) hd (fun q cA H1 hK hP hD hS => by
    have e := gx_K_one hK ht
    subst e
    exact kk q H1 locs ls hP hD hS hl)
theorem gn_newq (C : gx_ok Γ cc own Ts d) (M : gx_mkr Γ mc ms) {K : String} {ix t0 N : Nat} {c0 : ClassId} {z : Int32} (hcl : Cond.classLink own ix K ∈ Ts) (ho : va_AO K (gx_s Γ)) (ht : (gx_ty Γ)[t0]? = some (c0, .object K)) (hz : ¬ z < 0) (hN : z.toNatClampNeg = N) (hbytes : N * 4 ≤ 536870912) (hc : k + 1 ≤ mc) (hs : n + N ≤ ms) (hd : decode cc pc = .ok (.anewarray ix, 3)) (kk : ∀ q : Nat, gx_G Γ (k + 1) (n + N) (pc + 3) V (.ref q :: st) (ws ++ [(q, .inl (c0, N, .inr (.inr (.inr (.inr (fun _ => none))))))])) : gx_G Γ k n pc V (.int z :: st) ws := fun H locs ls hP hD hS hl =>
  va_newq C.1 C.2.1 C.2.2.2.1 (C.2.2.2.2.1 _ hcl) ho C.2.2.2.2.2.1 hP hD hS C.2.2.2.2.2.2.1 hz hN hbytes (by rw [M.1]; exact hc) (by rw [M.2.1]; exact hs) hd (fun q cA H1 hK hP hD hS => by
    have e := gx_K_one hK ht
    subst e
    exact kk q H1 locs ls hP hD hS hl)
theorem gn_astq (C : gx_ok Γ cc own Ts d) {q0 t0 qk ci b v N : Nat} {c0 : ClassId} {r : vw_C} {vs : List Value} {f : Nat → Option Nat} {i : Int32} (ha : ws[q0]? = some (b, .inl (c0, N, .inr (.inr (.inr (.inr f)))))) (ht : (gx_ty Γ)[t0]? = some (c0, .object r.1)) (hv : ws[qk]? = some (v, .inr (ci, vs))) (hcl : (gx_cl Γ)[ci]? = some r) (hin : vp_in i N) (hd : decode cc pc = .ok (.aastore, 1)) {ws1 : va_W} (hw : ws.set q0 (b, .inl (c0, N, .inr (.inr (.inr (.inr (va_up f i.toNatClampNeg (some v))))))) = ws1) (kk : gx_G Γ k n (pc + 1) V st ws1) : gx_G Γ k n pc V (.ref v :: .int i :: .ref b :: st) ws := fun H locs ls hP hD hS hl =>
  va_astq C.1 C.2.1 C.2.2.2.2.2.1 hP hD hS q0 t0 qk ci ha ht hv hcl hin hd (fun H1 locs1 hP hD hS => by
    rw [hw] at hP hD
    exact kk H1 locs1 ls hP hD hS hl)
theorem gn_mna (C : gx_ok Γ cc own Ts d) (M : gx_mkr Γ mc ms) {ix t0 t1 N K : Nat} {c0 c1 : ClassId} {z y : Int32} (hcl : Cond.classLink own ix "[[I" ∈ Ts) (ho : gx_AOA .int (gx_s Γ)) (harr : Cond.arrayClass .int ∈ Ts) (ht : (gx_ty Γ)[t0]? = some (c0, .array .int)) (ht1 : (gx_ty Γ)[t1]? = some (c1, .int)) (hz : ¬ z < 0) (hy : ¬ y < 0) (hN : z.toNatClampNeg = N) (hM : y.toNatClampNeg = K) (hb1 : N * 4 ≤ 536870912) (hb2 : K * 4 ≤ 536870912) (hc : k + (1 + N) ≤ mc) (hs : n + (N + N * K) ≤ ms) (hd : decode cc pc = .ok (.multianewarray ix 2, 4)) (kk : ∀ (q : Nat) (r : Nat → Nat), gx_G Γ (k + 1 + N) (n + N + N * K) (pc + 4) V (.ref q :: st) (ws ++ ((q, .inl (c0, N, .inr (.inr (.inr (.inr (gx_tb N r)))))) :: (List.range N).map (fun i => (r i, .inl (c1, K, .inl fun _ => 0)))))) : gx_G Γ k n pc V (.int y :: .int z :: st) ws := fun H locs ls hP hD hS hl => by
  subst hN
  subst hM
  intro T hT Xs
  have hK := C.2.2.2.2.2.1
  obtain ⟨vm₁, cA, comp, -, fA, fC, hO, -, X', step⟩ := Xs.multianewarray2F C.1 (ty := .int) C.2.2.2.1 (C.2.2.2.2.1 _ hcl) ho (C.2.2.2.2.1 _ harr) (g := F0 (gx_m Γ) pc ls (.int y :: .int z :: st)) rfl (by rw [C.2.1]; exact hd) rfl hz hy hb1 hb2 (by omega) rfl rfl (by rw [M.1]; exact hc) (by rw [M.2.1]; exact hs)
  have e0 : cA = c0 := Option.some.inj (fA.symm.trans (hK.2 t0 _ ht).2)
  have e1 : comp = c1 := Option.some.inj (fC.symm.trans (hK.2 t1 _ ht1).2)
  subst e0
  subst e1
  generalize hF : Jvm.Free.Multi.fill (T.setVm vm₁) cA comp z.toNatClampNeg y.toNatClampNeg (defaultValue .int) z.toNatClampNeg = F at X' step
  have hTh : (T.setVm vm₁).heap = H := hT
  obtain ⟨f1, f2, -, -⟩ := Jvm.Free.Multi.fill_facts (T.setVm vm₁) cA comp z.toNatClampNeg y.toNatClampNeg (defaultValue .int) z.toNatClampNeg
  rw [hF, hTh] at f1 f2
  have hold : ∀ x : Nat, x < H.size → F.heap[x]? = H[x]? := fun x hx => by
    have := Jvm.Free.Multi.fill_old (T.setVm vm₁) cA comp z.toNatClampNeg y.toNatClampNeg (defaultValue .int) (a := x) (by rw [hTh]; exact hx) z.toNatClampNeg
    rw [hF, hTh] at this
    exact this
  have hz0 : Jvm.Free.Multi.innerC comp y.toNatClampNeg (defaultValue .int) = vp_cell comp (y.toNatClampNeg, .inl fun _ => 0) := by
    rw [vp_cell_i]
    unfold Jvm.Free.Multi.innerC
    rw [arrV_new]
    rfl
  have hrow : ∀ j : Nat, j < z.toNatClampNeg → F.heap[H.size + 1 + j]? = some (vp_cell comp (y.toNatClampNeg, .inl fun _ => 0)) := fun j hj => by
    have := Jvm.Free.Multi.fill_inner (T.setVm vm₁) cA comp z.toNatClampNeg y.toNatClampNeg (defaultValue .int) z.toNatClampNeg j hj
    rw [hF, hTh, hz0] at this
    exact this
  have hout : Jvm.Free.Multi.outerC cA z.toNatClampNeg H.size z.toNatClampNeg = vp_cell cA (z.toNatClampNeg, .inr (.inr (.inr (.inr (gx_tb z.toNatClampNeg (fun i => H.size + 1 + i)))))) := by
    rw [← gx_tb_eq, vp_cell_q]
    exact gx_outer cA z.toNatClampNeg H.size z.toNatClampNeg
  rw [hout] at f2
  obtain ⟨hP2, hD2⟩ := gx_grow (nw := (H.size, .inl (cA, z.toNatClampNeg, .inr (.inr (.inr (.inr (gx_tb z.toNatClampNeg (fun i => H.size + 1 + i))))))) :: (List.range z.toNatClampNeg).map (fun i => (H.size + 1 + i, .inl (comp, y.toNatClampNeg, .inl fun _ => 0)))) hP hD hold (fun k9 x hx => by
      cases k9 with
      | zero => cases hx; exact f2
      | succ k9 =>
        rw [List.getElem?_cons_succ] at hx
        obtain ⟨a1, rfl⟩ := gx_mkrow (K := 0) (c0 := cA) (r := fun i => H.size + 1 + i) hx
        exact hrow k9 a1) (fun i j p q hi hj e => by
      cases i with
      | zero =>
        cases j with
        | zero => rfl
        | succ j =>
          cases hi
          rw [List.getElem?_cons_succ] at hj
          obtain ⟨a1, rfl⟩ := gx_mkrow (K := 0) (c0 := cA) (r := fun i => H.size + 1 + i) hj
          have e : H.size = H.size + 1 + j := e
          omega
      | succ i =>
        rw [List.getElem?_cons_succ] at hi
        obtain ⟨a1, rfl⟩ := gx_mkrow (K := 0) (c0 := cA) (r := fun i => H.size + 1 + i) hi
        cases j with
        | zero =>
          cases hj
          have e : H.size + 1 + i = H.size := e
          omega
        | succ j =>
          rw [List.getElem?_cons_succ] at hj
          obtain ⟨a2, rfl⟩ := gx_mkrow (K := 0) (c0 := cA) (r := fun i => H.size + 1 + i) hj
          have e : H.size + 1 + i = H.size + 1 + j := e
          omega) (fun i p hi => by
      have hA := C.2.2.2.2.2.2.1
      have h0 := hS.1
      cases i with
      | zero => cases hi; exact ⟨Nat.le_refl _, hA _ h0⟩
      | succ i =>
        rw [List.getElem?_cons_succ] at hi
        obtain ⟨a1, rfl⟩ := gx_mkrow (K := 0) (c0 := cA) (r := fun i => H.size + 1 + i) hi
        exact ⟨by show H.size ≤ H.size + 1 + i; omega, hA _ (by show _ ≤ H.size + 1 + i; omega)⟩)
  obtain ⟨t, a1, b1⟩ := kk H.size (fun i => H.size + 1 + i) F.heap locs ls hP2 hD2 ⟨by rw [f1]; have := hS.1; omega, fun x h1 h2 => (hold x (Nat.lt_of_lt_of_le h1 hS.1)).trans (hS.2.1 x h1 h2), hS.2.2⟩ hl F rfl X'
  refine ⟨t, step t ?_, b1⟩
  have e : T.heap.size = H.size := by rw [hT]
  rw [e]
  exact a1
end GN
/-! constructors' contracts -/
abbrev gx_PreK (D : va_G) (cl : List vw_C) (tys : List (ClassId × FieldType)) (av : List Value) (w0 : va_W) (sz : Nat) : Array Value → State → Prop := va_Pc av (fun U => U.heap.size = sz ∧ va_P D cl w0 U.heap ∧ va_K D cl tys U ∧ va_D (fun _ => True) w0 ∧ gx_xt U)
abbrev gx_BK (D : va_G) (cl : List vw_C) (tys : List (ClassId × FieldType)) (w0 : va_W) (Wb : (Nat → Nat) → va_W) (sz : Nat) : (Nat → Nat) → State → Prop := fun b t => va_P D cl (Wb b) t.heap ∧ va_K D cl tys t ∧ va_D (va_A w0 sz) (Wb b)
def gx_mK (l : Launch) (D : va_G) (cl : List vw_C) (tys : List (ClassId × FieldType)) (y : MethodName) (ws : List Cond) (rm : Room) (av : List Value) (w0 : va_W) (Wb : (Nat → Nat) → va_W) (h0 mc ms : Nat) : Prop := ∀ sz : Nat, Met l y ws rm (gx_PreK D cl tys av w0 sz) (va_Qv (fun b : Nat → Nat => b 0 = h0) (gx_BK D cl tys w0 Wb sz) (va_A w0 sz)) mc ms (va_A w0 sz)
def gx_finK (Γ : gx_T) (Wb : (Nat → Nat) → va_W) (h0 mc ms : Nat) : Prop := ∃ w0 : va_W, gx_A Γ = va_A w0 (gx_s Γ).heap.size ∧ gx_H0 Γ = (gx_s Γ).heap ∧ (gx_meth Γ).sig.returnType = none ∧ gx_Q Γ = MQ (gx_below Γ) (va_Qv (fun b : Nat → Nat => b 0 = h0) (gx_BK (gx_D Γ) (gx_cl Γ) (gx_ty Γ) w0 Wb (gx_s Γ).heap.size) (va_A w0 (gx_s Γ).heap.size)) (gx_args Γ) (gx_s Γ) mc ms (va_A w0 (gx_s Γ).heap.size)
theorem gx_blindK {D : va_G} {cl : List vw_C} {tys : List (ClassId × FieldType)} {av : List Value} {w0 : va_W} {sz : Nat} : FrameBlind (gx_PreK D cl tys av w0 sz) := fun a U g mk q => by
  obtain ⟨q0, q1, qP, qK, qD, qX⟩ := q
  exact ⟨q0, q1, qP, va_K.moved (u := U) (U := U.calling g mk a) (Vm.Alike.refl U.vm) qK, qD, gx_xt_same (u := U) (U := U.calling g mk a) rfl qX⟩
theorem gx_startK {l : Launch} {D : va_G} {cl : List vw_C} {tys : List (ClassId × FieldType)} {y : MethodName} {b : ByteArray} {maxL : Nat} {Us : List Cond} {d mc ms h0 : Nat} {av V : List Value} {w0 : va_W} {Wb : (Nat → Nat) → va_W} (kn : Nat) (hy : plainName y.cls = true) (hyn : y.name = "<init>") (hlen : (lg_sl av).length ≤ maxL) (hV : gx_V av ++ List.replicate kn .null = V) (body : ∀ Γ : gx_T, gx_l Γ = l → gx_D Γ = D → gx_cl Γ = cl → gx_ty Γ = tys → gx_nL Γ = maxL → gx_ok Γ b y.cls Us d → gx_finK Γ Wb h0 mc ms → gx_mkr Γ mc ms → (gx_meth Γ).name = "<init>" → gx_G Γ 0 0 0 V [] w0) : gx_mK l D cl tys y (.code y b maxL none :: Us) (gx_rmc d mc ms) av w0 Wb h0 mc ms := by
  intro sz
  refine Met.ofW (cc := b) (maxL := maxL) (ret := none) hy rfl ?_
  intro p e s m args below meth c s₁ B hml hv
  obtain ⟨rfl, hsz, hP, hK, hD0, hX⟩ := hv
  subst hsz
  subst hV
  have hts := atoms_spec (ws := .code y b maxL none :: Us) B.pre
  have hl := lv_entry av (n := maxL) hlen
  have hin : meth.name = "<init>" := (name_of_methodNamed B.named B.method).1.trans hyn
  rw [lg_entry_eq]
  exact body ((p, l, e, (headSpec (.code y b maxL none :: Us) (gx_rmc d mc ms)).room, s, m, av.toArray, below, meth, c), (D, cl, tys), va_A w0 s.heap.size, s.heap, MQ below (va_Qv (fun b : Nat → Nat => b 0 = h0) (gx_BK D cl tys w0 Wb s.heap.size) (va_A w0 s.heap.size)) av.toArray s mc ms (va_A w0 s.heap.size), maxL) rfl rfl rfl rfl rfl
    ⟨B.exec, B.bytes, hml, findClass_of_methodNamed B.named, fun w hw => hts w (List.mem_cons_of_mem _ hw), hK, fun q h => Or.inr h, B.notSynchronized, Nat.le_refl _, Nat.le_refl _⟩ ⟨w0, rfl, rfl, B.returns, rfl⟩ ⟨rfl, rfl, hX⟩ hin s.heap [] _ hP hD0.self va_S.rf (gx_L_pad hl kn)
theorem gn_vret {Γ : gx_T} {cc : ByteArray} {own : String} {Ts : List Cond} {d pc : Nat} {V : List Value} {Wb : (Nat → Nat) → va_W} {h0 mc ms : Nat} (b : Nat → Nat) (C : gx_ok Γ cc own Ts d) (F : gx_finK Γ Wb h0 mc ms) (hd : decode cc pc = .ok (.return_, 1)) (e : b 0 = h0) : gx_G Γ mc ms pc V [] (Wb b) := by
  obtain ⟨w0, hA, hH, hr, hQ⟩ := F
  intro H locs ls hP hD hS hl
  rw [hA] at hD hS
  rw [hH] at hS
  unfold gx_W
  rw [hQ]
  exact W.vret C.1 C.2.1 hr (fun t ht hW => ⟨⟨b, rfl, e, by rw [ht]; exact hP, va_K.moved hW.alike C.2.2.2.2.2.1, hD⟩, hS.F ht⟩) hS.2.2 hd C.2.2.2.2.2.2.2.1
section GNC
variable {Γ : gx_T} {cc : ByteArray} {own : String} {Ts : List Cond} {d k n pc : Nat} {V rest st0 : List Value} {w1 : va_W} {Wb : (Nat → Nat) → va_W} {y : MethodName} {bytes : ByteArray} {maxL ix na d' mc ms mc' ms' b : Nat} {As : List Value} {Us : List Cond} {e0 : va_E}
theorem gn_tail (hr : gx_xt (gx_s Γ) → (∀ H locs ls, gx_L ls (gx_nL Γ) V → va_P (gx_D Γ) (gx_cl Γ) [(b, e0)] H → va_D (gx_A Γ) [(b, e0)] → va_Run (gx_p Γ) (gx_l Γ) (gx_e Γ) (gx_R Γ) (gx_s Γ) (gx_m Γ) (gx_args Γ) (gx_below Γ) (gx_meth Γ) (gx_c Γ) H locs k n mc' ms' (F0 (gx_m Γ) pc ls st0) rest (va_Qv (fun z : Nat → Nat => z 0 = b) (gx_BK (gx_D Γ) (gx_cl Γ) (gx_ty Γ) [(b, e0)] Wb H.size) (va_A [(b, e0)] H.size) (Value.ref b :: As).toArray) (va_A [(b, e0)] H.size))) (C : gx_ok Γ cc own Ts d) (M : gx_mkr Γ mc ms) (kk : ∀ z : Nat → Nat, z 0 = b → gx_G Γ (k + mc') (n + ms') (pc + 3) V rest (w1 ++ Wb z)) : gx_G Γ k n pc V st0 (w1 ++ [(b, e0)]) := fun H locs ls hP hD hS hl => by
  obtain ⟨hP', hD'⟩ := gx_fr2 hP hD
  obtain ⟨hPa, hDa⟩ := gx_left hP' hD'
  have hF := gx_own hDa hS C.2.2.2.2.2.2.1
  refine va_callv (hr M.2.2 H locs ls hl hPa hDa) hS (fun q _ z => hF q z) hF (fun u t H1 locs1 ht hvm hw hB hz1 hk1 hS1 => ?_)
  obtain ⟨hP1, hK1, hD1⟩ := hB
  rw [ht] at hP1
  obtain ⟨hP2, hD2⟩ := gx_fr hP' hD' hk1 hF hP1 hD1
  obtain ⟨hP3, hD3⟩ := gx_fr2 hP2 hD2
  exact kk u hw H1 locs1 ls hP3 hD3 hS1 hl
theorem gn_ctor (C : gx_ok Γ cc own Ts d) (M : gx_mkr Γ mc ms) (hM : gx_mK (gx_l Γ) (gx_D Γ) (gx_cl Γ) (gx_ty Γ) y (.code y bytes maxL none :: Us) (gx_rmc d' mc' ms') (.ref b :: As) [(b, e0)] Wb b mc' ms') (hs : gx_sub Us Ts) (h1 : Cond.methodLink own ix y ∈ Ts) (h2 : Cond.instanceMethod y ∈ Ts) (h3 : Cond.initialized y.cls ∈ Ts) (h4 : Cond.code y bytes maxL none ∈ Ts) (hy : y.name = "<init>") (hy2 : y.cls ≠ "java/lang/invoke/MethodHandle" ∧ y.cls ≠ "java/lang/invoke/VarHandle" ∧ (parseMethodDescriptor y.desc).map (fun d => d.parameters.length) = some na) (hdd : d' < d) (hm : maxL ≤ 21) (hn : As.length = na) (hst : st0 = As.reverse ++ .ref b :: rest) (hW : (rest.map fun v => v.category).sum ≤ 8) (hc : k + mc' ≤ mc) (hsl : n + ms' ≤ ms) (hd : decode cc pc = .ok (.invokespecial ix, 3)) (kk : ∀ z : Nat → Nat, z 0 = b → gx_G Γ (k + mc') (n + ms') (pc + 3) V rest (w1 ++ Wb z)) : gx_G Γ k n pc V st0 (w1 ++ [(b, e0)]) := by
  have ht := C.2.2.2.2.1
  have hf := C.2.2.2.2.2.2.2.2.1
  have hlo := C.2.2.2.2.2.2.2.2.2
  refine gn_tail (As := As) (fun hX H locs ls hl hPa hDa => ?_) C M kk
  exact va_runI (As := As) (rest := rest) ⟨C.1, C.2.1, C.2.2.1, C.2.2.2.1, C.2.2.2.2.1⟩ (hM H.size) (cwI na ht (gx_good hs h4 rfl) rfl rfl rfl (ht _ h3) (ht _ h1) (ht _ h2) hy hy2 ⟨by simp only [gx_rmc]; omega, by simp only [gx_rmc]; omega⟩) ⟨gx_blindK, fun U hU hW => ⟨rfl, by rw [hU], by rw [hU]; exact hPa, va_K.moved hW.alike C.2.2.2.2.2.1, hDa.weaken (fun _ _ _ _ => trivial), gx_xt_warm hW hX⟩⟩ rfl hn (gx_L_size hl) hst (lv_room hW) hd ⟨by rw [M.1]; exact hc, by rw [M.2.1]; exact hsl⟩
theorem gn_ctorN (C : gx_ok Γ cc own Ts d) (M : gx_mkr Γ mc ms) {host : String} (hM : gx_mK (gx_l Γ) (gx_D Γ) (gx_cl Γ) (gx_ty Γ) y (.code y bytes maxL none :: Us) (gx_rmc d' mc' ms') (.ref b :: As) [(b, e0)] Wb b mc' ms') (hs : gx_sub Us Ts) (h1 : gx_xt (gx_s Γ) → va_Nw (.methodLinkNest own ix y host) (gx_s Γ)) (h2 : Cond.instanceMethod y ∈ Ts) (h3 : Cond.initialized y.cls ∈ Ts) (h4 : Cond.code y bytes maxL none ∈ Ts) (hy : y.name = "<init>") (hy2 : y.cls ≠ "java/lang/invoke/MethodHandle" ∧ y.cls ≠ "java/lang/invoke/VarHandle" ∧ (parseMethodDescriptor y.desc).map (fun d => d.parameters.length) = some na) (hdd : d' < d) (hm : maxL ≤ 21) (hn : As.length = na) (hst : st0 = As.reverse ++ .ref b :: rest) (hW : (rest.map fun v => v.category).sum ≤ 8) (hc : k + mc' ≤ mc) (hsl : n + ms' ≤ ms) (hd : decode cc pc = .ok (.invokespecial ix, 3)) (kk : ∀ z : Nat → Nat, z 0 = b → gx_G Γ (k + mc') (n + ms') (pc + 3) V rest (w1 ++ Wb z)) : gx_G Γ k n pc V st0 (w1 ++ [(b, e0)]) := by
  have ht := C.2.2.2.2.1
  have hf := C.2.2.2.2.2.2.2.2.1
  have hlo := C.2.2.2.2.2.2.2.2.2
  refine gn_tail (As := As) (fun hX H locs ls hl hPa hDa => ?_) C M kk
  exact va_runIN (As := As) (rest := rest) ⟨C.1, C.2.1, C.2.2.1, C.2.2.2.1, C.2.2.2.2.1⟩ (hM H.size) ⟨va_cnB na ht (gx_good hs h4 rfl) rfl rfl rfl (h1 hX) (ht _ h3) hy2 ⟨by simp only [gx_rmc]; omega, by simp only [gx_rmc]; omega⟩, hy, ht _ h2⟩ ⟨gx_blindK, fun U hU hW => ⟨rfl, by rw [hU], by rw [hU]; exact hPa, va_K.moved hW.alike C.2.2.2.2.2.1, hDa.weaken (fun _ _ _ _ => trivial), gx_xt_warm hW hX⟩⟩ rfl hn (gx_L_size hl) hst (lv_room hW) hd ⟨by rw [M.1]; exact hc, by rw [M.2.1]; exact hsl⟩
end GNC
/-- other lists of the same cells -/
theorem gx_resort {Γ : gx_T} {k n pc : Nat} {V st : List Value} {ws ws' : va_W} (is : List Nat) (h1 : is.map (fun i => ws[i]?) = ws'.map some) (hn : va_nd is = true) (kk : gx_G Γ k n pc V st ws') : gx_G Γ k n pc V st ws := fun H locs ls hP hD hS hl =>
  kk H locs ls (fun j q hq => by
    have h2 : (is.map (fun i => ws[i]?))[j]? = some (some q) := by rw [h1, List.getElem?_map, hq]; rfl
    rw [List.getElem?_map] at h2
    cases hi : is[j]? with
    | none => rw [hi] at h2; cases h2
    | some i => rw [hi] at h2; exact hP i q (Option.some.inj h2)) (hD.sub is hn h1) hS hl

/-! worlds in any order; P: the cells that are told one by one, rest: what was made so far -/
theorem gx_D_nodup {A : Nat → Prop} {ws : va_W} : va_D A ws ↔ (ws.map (fun q => q.1)).Nodup ∧ ∀ q ∈ ws, A q.1 := by
  constructor
  · intro h
    refine ⟨?_, fun q hq => ?_⟩
    · refine List.pairwise_iff_getElem.mpr (fun i j hi hj hij e => ?_)
      rw [List.length_map] at hi hj
      rw [List.getElem_map, List.getElem_map] at e
      have := h.1 i j _ _ (List.getElem?_eq_getElem hi) (List.getElem?_eq_getElem hj) e
      omega
    · obtain ⟨k, hk⟩ := List.getElem?_of_mem hq
      exact h.2 k q hk
  · rintro ⟨h1, h2⟩
    have h1 := List.pairwise_iff_getElem.mp h1
    have key : ∀ (i j : Nat) (p q : Nat × va_E), i < j → ws[i]? = some p → ws[j]? = some q → p.1 ≠ q.1 := fun i j p q hij hi hj e => by
      obtain ⟨a1, a2⟩ := List.getElem?_eq_some_iff.mp hi
      obtain ⟨b1, b2⟩ := List.getElem?_eq_some_iff.mp hj
      refine h1 i j (by rw [List.length_map]; exact a1) (by rw [List.length_map]; exact b1) hij ?_
      rw [List.getElem_map, List.getElem_map, a2, b2]
      exact e
    refine ⟨fun i j p q hi hj e => ?_, fun k q hk => h2 q (List.mem_of_getElem? hk)⟩
    rcases Nat.lt_trichotomy i j with h | h | h
    · exact absurd e (key i j p q h hi hj)
    · exact h
    · exact absurd e.symm (key j i q p h hj hi)
theorem gx_perm {Γ : gx_T} {k n pc : Nat} {V st : List Value} {ws ws' : va_W} (hp : ws.Perm ws') (kk : gx_G Γ k n pc V st ws') : gx_G Γ k n pc V st ws := fun H locs ls hP hD hS hl => by
  refine kk H locs ls (fun j q hq => ?_) ?_ hS hl
  · obtain ⟨i, hi⟩ := List.getElem?_of_mem (hp.mem_iff.mpr (List.mem_of_getElem? hq))
    exact hP i q hi
  · rw [gx_D_nodup] at hD ⊢
    exact ⟨(hp.map _).nodup_iff.mp hD.1, fun q hq => hD.2 q (hp.mem_iff.mpr hq)⟩
section GP
variable {Γ : gx_T} {cc : ByteArray} {own : String} {Ts : List Cond} {d k n pc : Nat} {V st : List Value} {mc ms : Nat} {P rest : va_W}
theorem gx_pp {c : va_W} : (P ++ rest ++ c).Perm (P ++ (c ++ rest)) := by
  rw [List.append_assoc]
  exact List.Perm.append_left _ List.perm_append_comm
theorem gn_newP (C : gx_ok Γ cc own Ts d) (M : gx_mkr Γ mc ms) {ix ci N : Nat} {K : String} {T : u_T} {ty : Nat → FieldType} {fs : List Value} (hin : ∀ w ∈ u_ws K T N, w ∈ Ts) (hcl : gx_cls (gx_cl Γ) ci K T N ty) (h1 : Cond.classLink own ix K ∈ Ts) (h2 : Cond.instantiable K N ∈ Ts) (h3 : Cond.initialized K ∈ Ts) (hfs : ∀ j, j < N → defaultValue (ty j) = vp_V fs j) (hc : k + 1 ≤ mc) (hs : n + N ≤ ms) (hd : decode cc pc = .ok (.new ix, 3)) (kk : ∀ (q : Nat) (r : va_W), r = (q, .inr (ci, fs)) :: rest → gx_G Γ (k + 1) (n + N) (pc + 3) V (.ref q :: st) (P ++ r)) : gx_G Γ k n pc V st (P ++ rest) :=
  gn_new C M hin hcl h1 h2 h3 hfs hc hs hd (fun q => gx_perm gx_pp (kk q _ rfl))
theorem gn_newaP (C : gx_ok Γ cc own Ts d) (M : gx_mkr Γ mc ms) {atype : ArrayType} {ty : FieldType} {t0 N : Nat} {c0 : ClassId} {z : Int32} (harr : Cond.arrayClass (newarray.typeOf atype) ∈ Ts) (hty : newarray.typeOf atype = ty) (ht : (gx_ty Γ)[t0]? = some (c0, ty)) (ha : ∀ cA : ClassId, vp_cell cA (N, .inl fun _ => 0) = arrV cA N (fun _ => defaultValue ty)) (hz : ¬ z < 0) (hN : z.toNatClampNeg = N) (hbytes : N * componentBytes ty ≤ 536870912) (hc : k + 1 ≤ mc) (hs : n + N ≤ ms) (hd : decode cc pc = .ok (.newarray atype, 2)) (kk : ∀ (q : Nat) (r : va_W), r = (q, .inl (c0, N, .inl fun _ => 0)) :: rest → gx_G Γ (k + 1) (n + N) (pc + 2) V (.ref q :: st) (P ++ r)) : gx_G Γ k n pc V (.int z :: st) (P ++ rest) :=
  gn_newa C M harr hty ht ha hz hN hbytes hc hs hd (fun q => gx_perm gx_pp (kk q _ rfl))
theorem gn_newqP (C : gx_ok Γ cc own Ts d) (M : gx_mkr Γ mc ms) {K : String} {ix t0 N : Nat} {c0 : ClassId} {z : Int32} (hcl : Cond.classLink own ix K ∈ Ts) (ho : va_AO K (gx_s Γ)) (ht : (gx_ty Γ)[t0]? = some (c0, .object K)) (hz : ¬ z < 0) (hN : z.toNatClampNeg = N) (hbytes : N * 4 ≤ 536870912) (hc : k + 1 ≤ mc) (hs : n + N ≤ ms) (hd : decode cc pc = .ok (.anewarray ix, 3)) (kk : ∀ q : Nat, gx_G Γ (k + 1) (n + N) (pc + 3) V (.ref q :: st) ((P ++ [(q, .inl (c0, N, .inr (.inr (.inr (.inr (fun _ => none))))))]) ++ rest)) : gx_G Γ k n pc V (.int z :: st) (P ++ rest) :=
  gn_newq C M hcl ho ht hz hN hbytes hc hs hd (fun q => gx_perm (by rw [List.append_assoc P [_] rest]; exact gx_pp) (kk q))
theorem gn_mnaP (C : gx_ok Γ cc own Ts d) (M : gx_mkr Γ mc ms) {ix t0 t1 N K : Nat} {c0 c1 : ClassId} {z y : Int32} (hcl : Cond.classLink own ix "[[I" ∈ Ts) (ho : gx_AOA .int (gx_s Γ)) (harr : Cond.arrayClass .int ∈ Ts) (ht : (gx_ty Γ)[t0]? = some (c0, .array .int)) (ht1 : (gx_ty Γ)[t1]? = some (c1, .int)) (hz : ¬ z < 0) (hy : ¬ y < 0) (hN : z.toNatClampNeg = N) (hM : y.toNatClampNeg = K) (hb1 : N * 4 ≤ 536870912) (hb2 : K * 4 ≤ 536870912) (hc : k + (1 + N) ≤ mc) (hs : n + (N + N * K) ≤ ms) (hd : decode cc pc = .ok (.multianewarray ix 2, 4)) {k2 n2 : Nat} (hk2 : k + 1 + N = k2) (hn2 : n + N + N * K = n2) (kk : ∀ (q : Nat) (r : Nat → Nat) (r2 : va_W), r2 = ((q, .inl (c0, N, .inr (.inr (.inr (.inr (gx_tb N r)))))) :: (List.range N).map (fun i => (r i, .inl (c1, K, .inl fun _ => 0)))) ++ rest → gx_G Γ k2 n2 (pc + 4) V (.ref q :: st) (P ++ r2)) : gx_G Γ k n pc V (.int y :: .int z :: st) (P ++ rest) := by
  subst hk2
  subst hn2
  exact gn_mna C M hcl ho harr ht ht1 hz hy hN hM hb1 hb2 hc hs hd (fun q r => gx_perm gx_pp (kk q r _ rfl))
end GP
section GPC
variable {Γ : gx_T} {cc : ByteArray} {own : String} {Ts : List Cond} {d k n pc : Nat} {V rs st0 : List Value} {P rest r0 : va_W} {Wb : (Nat → Nat) → va_W} {y : MethodName} {bytes : ByteArray} {maxL ix na d' mc ms mc' ms' b : Nat} {As : List Value} {Us : List Cond} {e0 : va_E}
theorem gn_ctorP (C : gx_ok Γ cc own Ts d) (M : gx_mkr Γ mc ms) (hM : gx_mK (gx_l Γ) (gx_D Γ) (gx_cl Γ) (gx_ty Γ) y (.code y bytes maxL none :: Us) (gx_rmc d' mc' ms') (.ref b :: As) [(b, e0)] Wb b mc' ms') (hs : gx_sub Us Ts) (h1 : Cond.methodLink own ix y ∈ Ts) (h2 : Cond.instanceMethod y ∈ Ts) (h3 : Cond.initialized y.cls ∈ Ts) (h4 : Cond.code y bytes maxL none ∈ Ts) (hy : y.name = "<init>") (hy2 : y.cls ≠ "java/lang/invoke/MethodHandle" ∧ y.cls ≠ "java/lang/invoke/VarHandle" ∧ (parseMethodDescriptor y.desc).map (fun d => d.parameters.length) = some na) (hdd : d' < d) (hm : maxL ≤ 21) (hn : As.length = na) (hst : st0 = As.reverse ++ .ref b :: rs) (hW : (rs.map fun v => v.category).sum ≤ 8) (hc : k + mc' ≤ mc) (hsl : n + ms' ≤ ms) (hd : decode cc pc = .ok (.invokespecial ix, 3)) (hr : r0 = (b, e0) :: rest) {k2 n2 : Nat} (hk2 : k + mc' = k2) (hn2 : n + ms' = n2) (kk : ∀ (z : Nat → Nat) (r : va_W), z 0 = b → r = Wb z ++ rest → gx_G Γ k2 n2 (pc + 3) V rs (P ++ r)) : gx_G Γ k n pc V st0 (P ++ r0) := by
  subst hr
  subst hk2
  subst hn2
  have e := (gx_pp (P := P) (rest := rest) (c := [(b, e0)])).symm
  exact gx_perm e (gn_ctor C M hM hs h1 h2 h3 h4 hy hy2 hdd hm hn hst hW hc hsl hd (fun z hz => gx_perm gx_pp (kk z _ hz rfl)))
theorem gn_ctorNP (C : gx_ok Γ cc own Ts d) (M : gx_mkr Γ mc ms) {host : String} (hM : gx_mK (gx_l Γ) (gx_D Γ) (gx_cl Γ) (gx_ty Γ) y (.code y bytes maxL none :: Us) (gx_rmc d' mc' ms') (.ref b :: As) [(b, e0)] Wb b mc' ms') (hs : gx_sub Us Ts) (h1 : gx_xt (gx_s Γ) → va_Nw (.methodLinkNest own ix y host) (gx_s Γ)) (h2 : Cond.instanceMethod y ∈ Ts) (h3 : Cond.initialized y.cls ∈ Ts) (h4 : Cond.code y bytes maxL none ∈ Ts) (hy : y.name = "<init>") (hy2 : y.cls ≠ "java/lang/invoke/MethodHandle" ∧ y.cls ≠ "java/lang/invoke/VarHandle" ∧ (parseMethodDescriptor y.desc).map (fun d => d.parameters.length) = some na) (hdd : d' < d) (hm : maxL ≤ 21) (hn : As.length = na) (hst : st0 = As.reverse ++ .ref b :: rs) (hW : (rs.map fun v => v.category).sum ≤ 8) (hc : k + mc' ≤ mc) (hsl : n + ms' ≤ ms) (hd : decode cc pc = .ok (.invokespecial ix, 3)) (hr : r0 = (b, e0) :: rest) {k2 n2 : Nat} (hk2 : k + mc' = k2) (hn2 : n + ms' = n2) (kk : ∀ (z : Nat → Nat) (r : va_W), z 0 = b → r = Wb z ++ rest → gx_G Γ k2 n2 (pc + 3) V rs (P ++ r)) : gx_G Γ k n pc V st0 (P ++ r0) := by
  subst hr
  subst hk2
  subst hn2
  have e := (gx_pp (P := P) (rest := rest) (c := [(b, e0)])).symm
  exact gx_perm e (gn_ctorN C M hM hs h1 h2 h3 h4 hy hy2 hdd hm hn hst hW hc hsl hd (fun z hz => gx_perm gx_pp (kk z _ hz rfl)))
end GPC

theorem gn_alen {Γ : gx_T} {cc : ByteArray} {own : String} {Ts : List Cond} {d k n pc : Nat} {V st : List Value} {ws : va_W} (C : gx_ok Γ cc own Ts d) {q0 t0 b N : Nat} {c0 : ClassId} {ty : FieldType} {f : Nat → Option Nat} {v : Int32} (he : ws[q0]? = some (b, .inl (c0, N, .inr (.inr (.inr (.inr f)))))) (ht : (gx_ty Γ)[t0]? = some (c0, ty)) (hv : Int32.ofNat N = v) (hd : decode cc pc = .ok (.arraylength, 1)) (kk : gx_G Γ k n (pc + 1) V (.int v :: st) ws) : gx_G Γ k n pc V (.ref b :: st) ws := fun H locs ls hP hD hS hl =>
  va_alen C.1 C.2.1 C.2.2.2.2.2.1 hP q0 t0 he ht hv hd (kk H locs ls hP hD hS hl)
theorem gx_up4 (a b c d : Nat) : va_up (va_up (va_up (va_up (fun _ => none) 0 (some a)) 1 (some b)) 2 (some c)) 3 (some d) = fun j => ([some a, some b, some c, some d] : List (Option Nat)).getD j none := by
  funext j
  match j with
  | 0 => rfl
  | 1 => rfl
  | 2 => rfl
  | 3 => rfl
  | j + 4 => simp [va_up]
theorem gx_mk_0 : gx_mk 0 0 = 0 := by decide
theorem vn_obj : Cond.instanceMethod objectInit ∈ gx_U := gx_mu (gx_t_1 (List.mem_of_getElem? (i := 18) rfl)) rfl
theorem vc_obj : Cond.code objectInit ⟨#[0xb1]⟩ 1 none ∈ gx_U := gx_mu (gx_t_1 (List.mem_of_getElem? (i := 19) rfl)) rfl
theorem vi_X5 : Cond.initialized RX5 ∈ gx_U := gx_mu (gx_t_1 (List.mem_of_getElem? (i := 2) rfl)) rfl
theorem vn_X5_init : Cond.instanceMethod yX5_init ∈ gx_U := gx_mu (gx_t_1 (List.mem_of_getElem? (i := 23) rfl)) rfl
theorem vc_X5_init : Cond.code yX5_init cX5_init 1 none ∈ gx_U := gx_mu (gx_t_1 (List.mem_of_getElem? (i := 24) rfl)) rfl
theorem df_X5 : ∀ j, j < 14 → defaultValue (tyX5 j) = vp_V [.int 0, .int 0, .int 0, .null, .null, .null, .null, .null, .null, .null, .null, .null, .null, .null] j := fun j hj => match j, hj with
  | 0, _ => rfl
  | 1, _ => rfl
  | 2, _ => rfl
  | 3, _ => rfl
  | 4, _ => rfl
  | 5, _ => rfl
  | 6, _ => rfl
  | 7, _ => rfl
  | 8, _ => rfl
  | 9, _ => rfl
  | 10, _ => rfl
  | 11, _ => rfl
  | 12, _ => rfl
  | 13, _ => rfl
  | j + 14, hj => absurd hj (by omega)
theorem dX5_init_0 : decode cX5_init 0 = .ok (.aload_n 0, 1) := by decide +kernel
theorem dX5_init_1 : decode cX5_init 1 = .ok (.invokespecial 3, 3) := by decide +kernel
theorem dX5_init_4 : decode cX5_init 4 = .ok (.aload_n 0, 1) := by decide +kernel
theorem dX5_init_5 : decode cX5_init 5 = .ok (.bipush 6, 2) := by decide +kernel
theorem dX5_init_7 : decode cX5_init 7 = .ok (.newarray .int, 2) := by decide +kernel
theorem dX5_init_9 : decode cX5_init 9 = .ok (.putfield 9, 3) := by decide +kernel
theorem dX5_init_12 : decode cX5_init 12 = .ok (.aload_n 0, 1) := by decide +kernel
theorem dX5_init_13 : decode cX5_init 13 = .ok (.bipush 6, 2) := by decide +kernel
theorem dX5_init_15 : decode cX5_init 15 = .ok (.newarray .int, 2) := by decide +kernel
theorem dX5_init_17 : decode cX5_init 17 = .ok (.putfield 15, 3) := by decide +kernel
theorem dX5_init_20 : decode cX5_init 20 = .ok (.aload_n 0, 1) := by decide +kernel
theorem dX5_init_21 : decode cX5_init 21 = .ok (.bipush 6, 2) := by decide +kernel
theorem dX5_init_23 : decode cX5_init 23 = .ok (.newarray .int, 2) := by decide +kernel
theorem dX5_init_25 : decode cX5_init 25 = .ok (.putfield 18, 3) := by decide +kernel
theorem dX5_init_28 : decode cX5_init 28 = .ok (.aload_n 0, 1) := by decide +kernel
theorem dX5_init_29 : decode cX5_init 29 = .ok (.bipush 6, 2) := by decide +kernel
theorem dX5_init_31 : decode cX5_init 31 = .ok (.newarray .int, 2) := by decide +kernel
theorem dX5_init_33 : decode cX5_init 33 = .ok (.putfield 21, 3) := by decide +kernel
theorem dX5_init_36 : decode cX5_init 36 = .ok (.aload_n 0, 1) := by decide +kernel
theorem dX5_init_37 : decode cX5_init 37 = .ok (.bipush 8, 2) := by decide +kernel
theorem dX5_init_39 : decode cX5_init 39 = .ok (.newarray .int, 2) := by decide +kernel
theorem dX5_init_41 : decode cX5_init 41 = .ok (.putfield 24, 3) := by decide +kernel
theorem dX5_init_44 : decode cX5_init 44 = .ok (.aload_n 0, 1) := by decide +kernel
theorem dX5_init_45 : decode cX5_init 45 = .ok (.bipush 8, 2) := by decide +kernel
theorem dX5_init_47 : decode cX5_init 47 = .ok (.newarray .int, 2) := by decide +kernel
theorem dX5_init_49 : decode cX5_init 49 = .ok (.putfield 27, 3) := by decide +kernel
theorem dX5_init_52 : decode cX5_init 52 = .ok (.aload_n 0, 1) := by decide +kernel
theorem dX5_init_53 : decode cX5_init 53 = .ok (.bipush 8, 2) := by decide +kernel
theorem dX5_init_55 : decode cX5_init 55 = .ok (.newarray .int, 2) := by decide +kernel
theorem dX5_init_57 : decode cX5_init 57 = .ok (.putfield 30, 3) := by decide +kernel
theorem dX5_init_60 : decode cX5_init 60 = .ok (.aload_n 0, 1) := by decide +kernel
theorem dX5_init_61 : decode cX5_init 61 = .ok (.bipush 8, 2) := by decide +kernel
theorem dX5_init_63 : decode cX5_init 63 = .ok (.newarray .int, 2) := by decide +kernel
theorem dX5_init_65 : decode cX5_init 65 = .ok (.putfield 33, 3) := by decide +kernel
theorem dX5_init_68 : decode cX5_init 68 = .ok (.aload_n 0, 1) := by decide +kernel
theorem dX5_init_69 : decode cX5_init 69 = .ok (.bipush 8, 2) := by decide +kernel
theorem dX5_init_71 : decode cX5_init 71 = .ok (.newarray .int, 2) := by decide +kernel
theorem dX5_init_73 : decode cX5_init 73 = .ok (.putfield 36, 3) := by decide +kernel
theorem dX5_init_76 : decode cX5_init 76 = .ok (.aload_n 0, 1) := by decide +kernel
theorem dX5_init_77 : decode cX5_init 77 = .ok (.bipush 8, 2) := by decide +kernel
theorem dX5_init_79 : decode cX5_init 79 = .ok (.newarray .int, 2) := by decide +kernel
theorem dX5_init_81 : decode cX5_init 81 = .ok (.putfield 39, 3) := by decide +kernel
theorem dX5_init_84 : decode cX5_init 84 = .ok (.aload_n 0, 1) := by decide +kernel
theorem dX5_init_85 : decode cX5_init 85 = .ok (.bipush 8, 2) := by decide +kernel
theorem dX5_init_87 : decode cX5_init 87 = .ok (.bipush 6, 2) := by decide +kernel
theorem dX5_init_89 : decode cX5_init 89 = .ok (.multianewarray 42 2, 4) := by decide +kernel
theorem dX5_init_93 : decode cX5_init 93 = .ok (.putfield 44, 3) := by decide +kernel
theorem dX5_init_96 : decode cX5_init 96 = .ok (.return_, 1) := by decide +kernel


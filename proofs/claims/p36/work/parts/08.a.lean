-- ===== end of PART A; then your names; then what follows =====
/-! THE CLAIM OUT OF ONE WALK OF THE LAW'S BODY. Your part is whole_start (and what it stands on); all else here is the same for every law, but numbers. -/
def R_law : String := "ShopsAsOneLaw"
def lw_P (b : Addr) (xs : List Int32) (args : Array Value) (s : State) : Prop := args = #[.ref b] ∧ s.IntsAt b xs ∧ xs.length ≤ 260 ∧ (Jvm.Cond.and given_1 narrow_1).before args s = true
def lw_Q (_ : Array Value) (s : State) (o : Outcome) (t : State) : Prop := o = .returned (some (.int 1)) ∧ Framed s o t [] 600000 7302250
def lw_Z (below : List Frame) (a : Array Value) (s : State) : State → Prop := fun t => ∃ o, t.status = .running ∧ Ended t below o ∧ lw_Q a s o t
/-- the law's own end, with 1 on the stack, nothing written that was there before, its room as the claim has it -/
theorem lw_ret {p : Program} {l : Launch} {e : Env} {s : State} {m : MethodId} {below : List Frame} {meth : Method} {c : Code} {b : Nat} (hx : p.tables.exec = Jvm.exec) (hb : c.code = code) (hr : meth.sig.returnType = ret) (hlocks : meth.locks = false) {pc : Nat} {H : Heap} {ls : Array Slot} (hdg : decode code pc = .ok (.ireturn, 1)) : W p l e room_1 s m #[Value.ref b] below meth c H [] 600000 7302250 (lw_Z below #[Value.ref b] s) (F0 m pc ls [.int 1]) := by
  intro T hT X
  obtain ⟨fs, hret, hrun, hended, hW, hframe⟩ := X.leave (v := some (.int 1)) (hlocks := hlocks) (fun h => by rw [hr] at h; cases h)
  have hmeth' : T.vm.method? m = some meth := X.method'
  refine ⟨T.setFrames fs, ?_, .returned (some (.int 1)), hrun, hended, rfl, ⟨_, rfl⟩, hW, hframe⟩
  jvm_step X.here [X.here.top, hx, hb, hdg, hmeth', hr, ret, narrow_b1]
  (try refine ⟨rfl, ?_⟩); (try refine ⟨rfl, ?_⟩)
  first | (intro acts; rw [hret _ acts rfl rfl rfl]) | rw [hret _ _ rfl rfl rfl]
  exact Steps.refl _
/-- what holds at the law's entry: the machine, the code, the tables' words (any of lw_tbl by 'hts w (by decide +kernel)'), the script of L ints xs at the cell b, what the Statement gives of the start (any of its parts by flat_of_before) -/
def lw_At (p : Program) (s : State) (m : MethodId) (meth : Method) (c : Code) (b L : Nat) (xs : Nat → Int32) : Prop :=
  p.tables.exec = Jvm.exec ∧ c.code = code ∧ meth.sig.returnType = ret ∧ c.maxLocals = 12 ∧ s.vm.findClass R_law = some m.cls ∧ (∀ w ∈ lw_tbl, w.before #[Value.ref b] s = true) ∧ va_X b L xs s s.heap ∧ b < s.heap.size ∧ meth.locks = false ∧ (Jvm.Cond.and given_1 narrow_1).before #[Value.ref b] s = true

/-! the law: the script's row, two systems side by side, its end -/
def gx_scr (Γ : gx_T) (b0 L : Nat) (xs : Nat → Int32) : Prop := va_X b0 L xs (gx_s Γ) (gx_H0 Γ) ∧ b0 < (gx_H0 Γ).size ∧ ¬ gx_A Γ b0
section GL
variable {Γ : gx_T} {cc : ByteArray} {own : String} {Ts : List Cond} {d k n pc : Nat} {V st : List Value} {ws : va_W}
theorem gl_sld (C : gx_ok Γ cc own Ts d) {b0 L : Nat} {xs : Nat → Int32} (X : gx_scr Γ b0 L xs) {i : Int32} (hin : vp_in i L) (hd : decode cc pc = .ok (.iaload, 1)) (kk : gx_G Γ k n (pc + 1) V (.int (xs i.toNatClampNeg) :: st) ws) : gx_G Γ k n pc V (.int i :: .ref b0 :: st) ws := fun H locs ls hP hD hS hl =>
  va_sld C.1 C.2.1 X.1 X.2.1 X.2.2 hS hin hd (kk H locs ls hP hD hS hl)
theorem gl_slen (C : gx_ok Γ cc own Ts d) {b0 L : Nat} {xs : Nat → Int32} (X : gx_scr Γ b0 L xs) (hd : decode cc pc = .ok (.arraylength, 1)) (kk : gx_G Γ k n (pc + 1) V (.int (Int32.ofNat L) :: st) ws) : gx_G Γ k n pc V (.ref b0 :: st) ws := fun H locs ls hP hD hS hl =>
  va_slen C.1 C.2.1 X.1 X.2.1 X.2.2 hS hd (kk H locs ls hP hD hS hl)
def gl_fin (Γ : gx_T) (b0 : Nat) : Prop := gx_Q Γ = lw_Z (gx_below Γ) (gx_args Γ) (gx_s Γ) ∧ gx_args Γ = #[Value.ref b0] ∧ gx_A Γ = (fun q => (gx_s Γ).heap.size ≤ q) ∧ gx_H0 Γ = (gx_s Γ).heap ∧ gx_R Γ = room_1 ∧ (gx_meth Γ).sig.returnType = ret
theorem gl_ret (C : gx_ok Γ code own Ts d) {b0 : Nat} (F : gl_fin Γ b0) (hk : k ≤ 600000) (hn : n ≤ 7302250) (hd : decode code pc = .ok (.ireturn, 1)) : gx_G Γ k n pc V [.int 1] ws := fun H locs ls hP hD hS hl => by
  obtain ⟨hQ, ha, hA, hH, hR, hr⟩ := F
  rw [hA] at hS
  refine va_forget (fun q hq => hS.2.2 q hq) ?_
  refine W.widen hk hn ?_
  show W (gx_p Γ) (gx_l Γ) (gx_e Γ) (gx_R Γ) (gx_s Γ) (gx_m Γ) (gx_args Γ) (gx_below Γ) (gx_meth Γ) (gx_c Γ) H [] _ _ (gx_Q Γ) _
  rw [hQ, hR, ha]
  exact lw_ret C.1 C.2.1 hr C.2.2.2.2.2.2.2.1 hd
end GL


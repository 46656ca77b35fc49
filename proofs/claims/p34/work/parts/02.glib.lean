/-! G-layer: 'gx_G Γ k n pc V st ws': from every heap that holds the world ws, with locals V and operand stack st, the machine at pc comes to Γ's goal -/
abbrev gx_T : Type := (Program × Launch × Env × Room × State × MethodId × Array Value × List Frame × Method × Code) × (va_G × List vw_C × List (ClassId × FieldType)) × (Nat → Prop) × Heap × (State → Prop) × Nat
abbrev gx_p (Γ : gx_T) : Program := Γ.1.1
abbrev gx_l (Γ : gx_T) : Launch := Γ.1.2.1
abbrev gx_e (Γ : gx_T) : Env := Γ.1.2.2.1
abbrev gx_R (Γ : gx_T) : Room := Γ.1.2.2.2.1
abbrev gx_s (Γ : gx_T) : State := Γ.1.2.2.2.2.1
abbrev gx_m (Γ : gx_T) : MethodId := Γ.1.2.2.2.2.2.1
abbrev gx_args (Γ : gx_T) : Array Value := Γ.1.2.2.2.2.2.2.1
abbrev gx_below (Γ : gx_T) : List Frame := Γ.1.2.2.2.2.2.2.2.1
abbrev gx_meth (Γ : gx_T) : Method := Γ.1.2.2.2.2.2.2.2.2.1
abbrev gx_c (Γ : gx_T) : Code := Γ.1.2.2.2.2.2.2.2.2.2
abbrev gx_D (Γ : gx_T) : va_G := Γ.2.1.1
abbrev gx_cl (Γ : gx_T) : List vw_C := Γ.2.1.2.1
abbrev gx_ty (Γ : gx_T) : List (ClassId × FieldType) := Γ.2.1.2.2
abbrev gx_A (Γ : gx_T) : Nat → Prop := Γ.2.2.1
abbrev gx_H0 (Γ : gx_T) : Heap := Γ.2.2.2.1
abbrev gx_Q (Γ : gx_T) : State → Prop := Γ.2.2.2.2.1
abbrev gx_nL (Γ : gx_T) : Nat := Γ.2.2.2.2.2
/-- the goal W over Γ -/
abbrev gx_W (Γ : gx_T) (H : Heap) (locs : List Loc) (k n : Nat) (g : JFrame) : Prop := W (gx_p Γ) (gx_l Γ) (gx_e Γ) (gx_R Γ) (gx_s Γ) (gx_m Γ) (gx_args Γ) (gx_below Γ) (gx_meth Γ) (gx_c Γ) H locs k n (gx_Q Γ) g
/-- the locals: V's places, .null says nothing -/
def gx_L (ls : Array Slot) (nL : Nat) (V : List Value) : Prop := ∃ l, lv_has ls nL l ∧ ∀ (i : Nat) (v : Value), V[i]? = some v → v ≠ .null → (i, v) ∈ l
def gx_G (Γ : gx_T) (k n pc : Nat) (V st : List Value) (ws : va_W) : Prop := ∀ (H : Heap) (locs : List Loc) (ls : Array Slot), va_P (gx_D Γ) (gx_cl Γ) ws H → va_D (gx_A Γ) ws → va_S (gx_A Γ) (gx_H0 Γ) H locs → gx_L ls (gx_nL Γ) V → gx_W Γ H locs k n (F0 (gx_m Γ) pc ls st)
/-- what stays through a method's body -/
def gx_ok (Γ : gx_T) (cc : ByteArray) (own : String) (Ts : List Cond) (d : Nat) : Prop := (gx_p Γ).tables.exec = Jvm.exec ∧ (gx_c Γ).code = cc ∧ (gx_c Γ).maxLocals = gx_nL Γ ∧ (gx_s Γ).vm.findClass own = some (gx_m Γ).cls ∧ (∀ w ∈ Ts, w.before (gx_args Γ) (gx_s Γ) = true) ∧ va_K (gx_D Γ) (gx_cl Γ) (gx_ty Γ) (gx_s Γ) ∧ (∀ q, (gx_H0 Γ).size ≤ q → gx_A Γ q) ∧ (gx_meth Γ).locks = false ∧ d ≤ (gx_R Γ).frames ∧ 40 * d ≤ (gx_R Γ).locals
theorem gx_L_at {ls : Array Slot} {nL i : Nat} {V : List Value} {v : Value} (h : gx_L ls nL V) (hv : V[i]? = some v) (hn : v ≠ .null) : ls[i]? = some (.val v) := by
  obtain ⟨l, h1, h2⟩ := h
  exact h1.2.2 (i, v) (h2 i v hv hn)
theorem gx_L_size {ls : Array Slot} {nL : Nat} {V : List Value} (h : gx_L ls nL V) : ls.size = nL := by
  obtain ⟨l, h1, h2⟩ := h
  exact h1.1
/-- fewer known locals -/
def gx_le : List Value → List Value → Prop
  | [], _ => True
  | _ :: _, [] => False
  | v :: vs, w :: ws => (v = .null ∨ v = w) ∧ gx_le vs ws
theorem gx_le_0 {V : List Value} : gx_le [] V := trivial
theorem gx_le_k {v w : Value} {vs ws : List Value} (e : v = w) (h : gx_le vs ws) : gx_le (v :: vs) (w :: ws) := ⟨Or.inr e, h⟩
theorem gx_le_n {w : Value} {vs ws : List Value} (h : gx_le vs ws) : gx_le (.null :: vs) (w :: ws) := ⟨Or.inl rfl, h⟩
theorem gx_le_at : ∀ {V' V : List Value} {i : Nat} {v : Value}, gx_le V' V → V'[i]? = some v → v ≠ .null → V[i]? = some v
  | [], _, _, _, _, h, _ => by simp at h
  | _ :: _, [], _, _, h, _, _ => h.elim
  | a :: V', b :: V, 0, v, h, h1, h2 => by
    simp only [List.getElem?_cons_zero, Option.some.injEq] at h1 ⊢
    rcases h.1 with e | e
    · exact absurd (h1.symm.trans e) h2
    · rw [← e]; exact h1
  | a :: V', b :: V, i + 1, v, h, h1, h2 => by
    simp only [List.getElem?_cons_succ] at h1 ⊢
    exact gx_le_at h.2 h1 h2
theorem gx_L_le {ls : Array Slot} {nL : Nat} {V V' : List Value} (h : gx_L ls nL V) (hl : gx_le V' V) : gx_L ls nL V' := by
  obtain ⟨l, h1, h2⟩ := h
  exact ⟨l, h1, fun i v hv hn => h2 i v (gx_le_at hl hv hn) hn⟩
/-- no long lies just ahead of place i -/
def gx_nl (V : List Value) : Nat → Prop
  | 0 => True
  | i + 1 => match V[i]? with
    | some (.long _) => False
    | some (.double _) => False
    | _ => True
theorem gx_nl_cat {V : List Value} {i j : Nat} {v : Value} (h : gx_nl V i) (hj : j + 1 = i) (hv : V[j]? = some v) : v.category ≠ 2 := by
  subst hj
  simp only [gx_nl, hv] at h
  cases v <;> simp_all [Value.category]
theorem gx_L_set1 {ls ls' : Array Slot} {nL i : Nat} {V : List Value} {v : Value} {l : List (Nat × Value)} (h2 : ∀ (j : Nat) (w : Value), V[j]? = some w → w ≠ .null → (j, w) ∈ l) (hnl : gx_nl V i) (hl : lv_has ls' nL ((i, v) :: l.filter (fun q => !(q.1 == i) && !(q.1 + 1 == i && q.2.category == 2)))) : gx_L ls' nL (V.set i v) := by
  refine ⟨_, hl, fun j w hj hn => ?_⟩
  rw [List.getElem?_set] at hj
  by_cases e : i = j
  · subst e
    rw [if_pos rfl] at hj
    split at hj
    · cases hj; exact List.mem_cons_self
    · cases hj
  · rw [if_neg e] at hj
    refine List.mem_cons_of_mem _ (List.mem_filter.mpr ⟨h2 j w hj hn, ?_⟩)
    have h3 : j ≠ i := fun q => e q.symm
    by_cases e2 : j + 1 = i
    · have := gx_nl_cat hnl e2 hj
      simp [h3, this]
    · simp [h3, e2]
theorem gx_L_set2 {ls ls' : Array Slot} {nL i : Nat} {V : List Value} {v : Value} {l : List (Nat × Value)} (h2 : ∀ (j : Nat) (w : Value), V[j]? = some w → w ≠ .null → (j, w) ∈ l) (hnl : gx_nl V i) (hl : lv_has ls' nL ((i, v) :: l.filter (fun q => !(q.1 == i) && (!(q.1 == i + 1) && !(q.1 + 1 == i && q.2.category == 2))))) : gx_L ls' nL ((V.set i v).set (i + 1) .null) := by
  refine ⟨_, hl, fun j w hj hn => ?_⟩
  rw [List.getElem?_set] at hj
  by_cases e1 : i + 1 = j
  · rw [if_pos e1] at hj
    split at hj
    · cases hj; exact absurd rfl hn
    · cases hj
  · rw [if_neg e1, List.getElem?_set] at hj
    by_cases e : i = j
    · subst e
      rw [if_pos rfl] at hj
      split at hj
      · cases hj; exact List.mem_cons_self
      · cases hj
    · rw [if_neg e] at hj
      refine List.mem_cons_of_mem _ (List.mem_filter.mpr ⟨h2 j w hj hn, ?_⟩)
      have h3 : j ≠ i := fun q => e q.symm
      have h4 : j ≠ i + 1 := fun q => e1 q.symm
      by_cases e2 : j + 1 = i
      · have := gx_nl_cat hnl e2 hj
        simp [h3, h4, this]
      · simp [h3, h4, e2]
/-- the arguments as locals -/
def gx_V : List Value → List Value
  | [] => []
  | .long x :: vs => .long x :: .null :: gx_V vs
  | .double x :: vs => .double x :: .null :: gx_V vs
  | v :: vs => v :: gx_V vs
theorem gx_V_in : ∀ (vs : List Value) (k i : Nat) (v : Value), (gx_V vs)[i]? = some v → v ≠ .null → (k + i, v) ∈ lv_args k vs
  | [], k, i, v, h, _ => by simp [gx_V] at h
  | w :: vs, k, i, v, h, hn => by
    have one : ∀ (x : Value), gx_V (x :: vs) = x :: gx_V vs → x.category = 1 → (gx_V (x :: vs))[i]? = some v → (k + i, v) ∈ lv_args k (x :: vs) := by
      intro x e hc h
      rw [e] at h
      cases i with
      | zero => simp at h; subst h; exact List.mem_cons_self
      | succ i =>
        have h' : (gx_V vs)[i]? = some v := by simpa using h
        have := gx_V_in vs (k + 1) i v h' hn
        rw [show k + (i + 1) = k + 1 + i by omega]
        exact List.mem_cons_of_mem _ (by rw [if_neg (by rw [hc]; decide)]; exact this)
    have two : ∀ (x : Value), gx_V (x :: vs) = x :: .null :: gx_V vs → x.category = 2 → (gx_V (x :: vs))[i]? = some v → (k + i, v) ∈ lv_args k (x :: vs) := by
      intro x e hc h
      rw [e] at h
      match i, h with
      | 0, h => simp at h; subst h; exact List.mem_cons_self
      | 1, h => simp at h; exact absurd h.symm hn
      | i + 2, h =>
        have h' : (gx_V vs)[i]? = some v := by simpa using h
        have := gx_V_in vs (k + 2) i v h' hn
        rw [show k + (i + 2) = k + 2 + i by omega]
        exact List.mem_cons_of_mem _ (by rw [if_pos hc]; exact this)
    cases w with
    | long x => exact two _ rfl rfl h
    | double x => exact two _ rfl rfl h
    | _ => exact one _ rfl rfl h
theorem gx_L_entry {ls : Array Slot} {n : Nat} {vs V : List Value} (h : lv_has ls n (lv_args 0 vs)) (hV : ∀ (i : Nat) (v : Value), V[i]? = some v → v ≠ .null → (gx_V vs)[i]? = some v) : gx_L ls n V :=
  ⟨_, h, fun i v hv hn => by have := gx_V_in vs 0 i v (hV i v hv hn) hn; rwa [Nat.zero_add] at this⟩
theorem gx_L_pad {ls : Array Slot} {n : Nat} {vs : List Value} (h : lv_has ls n (lv_args 0 vs)) (k : Nat) : gx_L ls n (gx_V vs ++ List.replicate k .null) := by
  refine gx_L_entry h (fun i v hv hn => ?_)
  rcases Nat.lt_or_ge i (gx_V vs).length with q | q
  · rwa [List.getElem?_append_left q] at hv
  · rw [List.getElem?_append_right q] at hv
    have := List.mem_of_getElem? hv
    exact absurd (List.eq_of_mem_replicate this) hn
section GX
variable {Γ : gx_T} {cc : ByteArray} {own : String} {Ts : List Cond} {d k n pc : Nat} {V st : List Value} {ws : va_W}
theorem gx_weak {V' : List Value} (hl : gx_le V' V) (kk : gx_G Γ k n pc V' st ws) : gx_G Γ k n pc V st ws := fun H locs ls hP hD hS h => kk H locs ls hP hD hS (gx_L_le h hl)
theorem gx_world {ws' : va_W} (e : ws = ws') (kk : gx_G Γ k n pc V st ws') : gx_G Γ k n pc V st ws := e ▸ kk
theorem gx_Veq {V' : List Value} (e : V = V') (kk : gx_G Γ k n pc V' st ws) : gx_G Γ k n pc V st ws := e ▸ kk
theorem gx_widen {k' n' : Nat} (h1 : k ≤ k') (h2 : n ≤ n') (kk : gx_G Γ k' n' pc V st ws) : gx_G Γ k n pc V st ws := fun H locs ls hP hD hS h => W.widen h1 h2 (kk H locs ls hP hD hS h)

theorem gx_iconstm1 (C : gx_ok Γ cc own Ts d) (hd : decode cc pc = .ok (.iconst (-1), 1)) (kk : gx_G Γ k n (pc + 1) V (.int (-1) :: st) ws) : gx_G Γ k n pc V st ws := fun H locs ls hP hD hS hl => lv_iconst (v := (-1)) C.1 C.2.1 hd (by decide) (kk H locs ls hP hD hS hl)
theorem gx_iconst0 (C : gx_ok Γ cc own Ts d) (hd : decode cc pc = .ok (.iconst 0, 1)) (kk : gx_G Γ k n (pc + 1) V (.int 0 :: st) ws) : gx_G Γ k n pc V st ws := fun H locs ls hP hD hS hl => lv_iconst (v := 0) C.1 C.2.1 hd (by decide) (kk H locs ls hP hD hS hl)
theorem gx_iconst1 (C : gx_ok Γ cc own Ts d) (hd : decode cc pc = .ok (.iconst 1, 1)) (kk : gx_G Γ k n (pc + 1) V (.int 1 :: st) ws) : gx_G Γ k n pc V st ws := fun H locs ls hP hD hS hl => lv_iconst (v := 1) C.1 C.2.1 hd (by decide) (kk H locs ls hP hD hS hl)
theorem gx_iconst2 (C : gx_ok Γ cc own Ts d) (hd : decode cc pc = .ok (.iconst 2, 1)) (kk : gx_G Γ k n (pc + 1) V (.int 2 :: st) ws) : gx_G Γ k n pc V st ws := fun H locs ls hP hD hS hl => lv_iconst (v := 2) C.1 C.2.1 hd (by decide) (kk H locs ls hP hD hS hl)
theorem gx_iconst3 (C : gx_ok Γ cc own Ts d) (hd : decode cc pc = .ok (.iconst 3, 1)) (kk : gx_G Γ k n (pc + 1) V (.int 3 :: st) ws) : gx_G Γ k n pc V st ws := fun H locs ls hP hD hS hl => lv_iconst (v := 3) C.1 C.2.1 hd (by decide) (kk H locs ls hP hD hS hl)
theorem gx_iconst4 (C : gx_ok Γ cc own Ts d) (hd : decode cc pc = .ok (.iconst 4, 1)) (kk : gx_G Γ k n (pc + 1) V (.int 4 :: st) ws) : gx_G Γ k n pc V st ws := fun H locs ls hP hD hS hl => lv_iconst (v := 4) C.1 C.2.1 hd (by decide) (kk H locs ls hP hD hS hl)
theorem gx_iconst5 (C : gx_ok Γ cc own Ts d) (hd : decode cc pc = .ok (.iconst 5, 1)) (kk : gx_G Γ k n (pc + 1) V (.int 5 :: st) ws) : gx_G Γ k n pc V st ws := fun H locs ls hP hD hS hl => lv_iconst (v := 5) C.1 C.2.1 hd (by decide) (kk H locs ls hP hD hS hl)
theorem gx_bipush (C : gx_ok Γ cc own Ts d) {x : Int} {v : Int32} (hd : decode cc pc = .ok (.bipush x, 2)) (hv : (Int8.ofInt x).toInt32 = v) (kk : gx_G Γ k n (pc + 2) V (.int v :: st) ws) : gx_G Γ k n pc V st ws := fun H locs ls hP hD hS hl => lv_bipush C.1 C.2.1 hd hv (kk H locs ls hP hD hS hl)
theorem gx_sipush (C : gx_ok Γ cc own Ts d) {x : Int} {v : Int32} (hd : decode cc pc = .ok (.sipush x, 3)) (hv : (Int16.ofInt x).toInt32 = v) (kk : gx_G Γ k n (pc + 3) V (.int v :: st) ws) : gx_G Γ k n pc V st ws := fun H locs ls hP hD hS hl => lv_sipush C.1 C.2.1 hd hv (kk H locs ls hP hD hS hl)
theorem gx_lconst0 (C : gx_ok Γ cc own Ts d) (hd : decode cc pc = .ok (.lconst 0, 1)) (kk : gx_G Γ k n (pc + 1) V (.long 0 :: st) ws) : gx_G Γ k n pc V st ws := fun H locs ls hP hD hS hl => lv_lconst (v := 0) C.1 C.2.1 hd (by decide) (kk H locs ls hP hD hS hl)
theorem gx_lconst1 (C : gx_ok Γ cc own Ts d) (hd : decode cc pc = .ok (.lconst 1, 1)) (kk : gx_G Γ k n (pc + 1) V (.long 1 :: st) ws) : gx_G Γ k n pc V st ws := fun H locs ls hP hD hS hl => lv_lconst (v := 1) C.1 C.2.1 hd (by decide) (kk H locs ls hP hD hS hl)
theorem gx_ldc (C : gx_ok Γ cc own Ts d) {ix : Nat} {v : Int32} (hd : decode cc pc = .ok (.ldc ix, 2)) (hw : Cond.constant own ix v ∈ Ts) (kk : gx_G Γ k n (pc + 2) V (.int v :: st) ws) : gx_G Γ k n pc V st ws := fun H locs ls hP hD hS hl => lv_ldc C.1 C.2.1 C.2.2.2.1 (C.2.2.2.2.1 _ hw) hd (kk H locs ls hP hD hS hl)
theorem gx_ldc2 (C : gx_ok Γ cc own Ts d) {ix : Nat} {v : Int64} (hd : decode cc pc = .ok (.ldc2_w ix, 3)) (hw : Cond.constantLong own ix v ∈ Ts) (kk : gx_G Γ k n (pc + 3) V (.long v :: st) ws) : gx_G Γ k n pc V st ws := fun H locs ls hP hD hS hl => lv_ldc2 C.1 C.2.1 C.2.2.2.1 (C.2.2.2.2.1 _ hw) hd (kk H locs ls hP hD hS hl)
theorem gx_iload_0 (C : gx_ok Γ cc own Ts d) {x : Int32} (hd : decode cc pc = .ok (.iload_n 0, 1)) (hv : V[0]? = some (.int x)) (kk : gx_G Γ k n (pc + 1) V (.int x :: st) ws) : gx_G Γ k n pc V st ws := fun H locs ls hP hD hS hl => lv_iload_n C.1 C.2.1 hd rfl (gx_L_at hl hv (fun q => by cases q)) (kk H locs ls hP hD hS hl)
theorem gx_iload_1 (C : gx_ok Γ cc own Ts d) {x : Int32} (hd : decode cc pc = .ok (.iload_n 1, 1)) (hv : V[1]? = some (.int x)) (kk : gx_G Γ k n (pc + 1) V (.int x :: st) ws) : gx_G Γ k n pc V st ws := fun H locs ls hP hD hS hl => lv_iload_n C.1 C.2.1 hd rfl (gx_L_at hl hv (fun q => by cases q)) (kk H locs ls hP hD hS hl)
theorem gx_iload_2 (C : gx_ok Γ cc own Ts d) {x : Int32} (hd : decode cc pc = .ok (.iload_n 2, 1)) (hv : V[2]? = some (.int x)) (kk : gx_G Γ k n (pc + 1) V (.int x :: st) ws) : gx_G Γ k n pc V st ws := fun H locs ls hP hD hS hl => lv_iload_n C.1 C.2.1 hd rfl (gx_L_at hl hv (fun q => by cases q)) (kk H locs ls hP hD hS hl)
theorem gx_iload_3 (C : gx_ok Γ cc own Ts d) {x : Int32} (hd : decode cc pc = .ok (.iload_n 3, 1)) (hv : V[3]? = some (.int x)) (kk : gx_G Γ k n (pc + 1) V (.int x :: st) ws) : gx_G Γ k n pc V st ws := fun H locs ls hP hD hS hl => lv_iload_n C.1 C.2.1 hd rfl (gx_L_at hl hv (fun q => by cases q)) (kk H locs ls hP hD hS hl)
theorem gx_iload (C : gx_ok Γ cc own Ts d) {i : Nat} {x : Int32} (hd : decode cc pc = .ok (.iload i, 2)) (hv : V[i]? = some (.int x)) (kk : gx_G Γ k n (pc + 2) V (.int x :: st) ws) : gx_G Γ k n pc V st ws := fun H locs ls hP hD hS hl => lv_iload C.1 C.2.1 hd (gx_L_at hl hv (fun q => by cases q)) (kk H locs ls hP hD hS hl)
theorem gx_lload_0 (C : gx_ok Γ cc own Ts d) {x : Int64} (hd : decode cc pc = .ok (.lload_n 0, 1)) (hv : V[0]? = some (.long x)) (kk : gx_G Γ k n (pc + 1) V (.long x :: st) ws) : gx_G Γ k n pc V st ws := fun H locs ls hP hD hS hl => lv_lload_n C.1 C.2.1 hd rfl (gx_L_at hl hv (fun q => by cases q)) (kk H locs ls hP hD hS hl)
theorem gx_lload_1 (C : gx_ok Γ cc own Ts d) {x : Int64} (hd : decode cc pc = .ok (.lload_n 1, 1)) (hv : V[1]? = some (.long x)) (kk : gx_G Γ k n (pc + 1) V (.long x :: st) ws) : gx_G Γ k n pc V st ws := fun H locs ls hP hD hS hl => lv_lload_n C.1 C.2.1 hd rfl (gx_L_at hl hv (fun q => by cases q)) (kk H locs ls hP hD hS hl)
theorem gx_lload_2 (C : gx_ok Γ cc own Ts d) {x : Int64} (hd : decode cc pc = .ok (.lload_n 2, 1)) (hv : V[2]? = some (.long x)) (kk : gx_G Γ k n (pc + 1) V (.long x :: st) ws) : gx_G Γ k n pc V st ws := fun H locs ls hP hD hS hl => lv_lload_n C.1 C.2.1 hd rfl (gx_L_at hl hv (fun q => by cases q)) (kk H locs ls hP hD hS hl)
theorem gx_lload_3 (C : gx_ok Γ cc own Ts d) {x : Int64} (hd : decode cc pc = .ok (.lload_n 3, 1)) (hv : V[3]? = some (.long x)) (kk : gx_G Γ k n (pc + 1) V (.long x :: st) ws) : gx_G Γ k n pc V st ws := fun H locs ls hP hD hS hl => lv_lload_n C.1 C.2.1 hd rfl (gx_L_at hl hv (fun q => by cases q)) (kk H locs ls hP hD hS hl)
theorem gx_lload (C : gx_ok Γ cc own Ts d) {i : Nat} {x : Int64} (hd : decode cc pc = .ok (.lload i, 2)) (hv : V[i]? = some (.long x)) (kk : gx_G Γ k n (pc + 2) V (.long x :: st) ws) : gx_G Γ k n pc V st ws := fun H locs ls hP hD hS hl => lv_lload C.1 C.2.1 hd (gx_L_at hl hv (fun q => by cases q)) (kk H locs ls hP hD hS hl)
theorem gx_aload_0 (C : gx_ok Γ cc own Ts d) {x : Nat} (hd : decode cc pc = .ok (.aload_n 0, 1)) (hv : V[0]? = some (.ref x)) (kk : gx_G Γ k n (pc + 1) V (.ref x :: st) ws) : gx_G Γ k n pc V st ws := fun H locs ls hP hD hS hl => lv_aload_n C.1 C.2.1 hd rfl (gx_L_at hl hv (fun q => by cases q)) (kk H locs ls hP hD hS hl)
theorem gx_aload_1 (C : gx_ok Γ cc own Ts d) {x : Nat} (hd : decode cc pc = .ok (.aload_n 1, 1)) (hv : V[1]? = some (.ref x)) (kk : gx_G Γ k n (pc + 1) V (.ref x :: st) ws) : gx_G Γ k n pc V st ws := fun H locs ls hP hD hS hl => lv_aload_n C.1 C.2.1 hd rfl (gx_L_at hl hv (fun q => by cases q)) (kk H locs ls hP hD hS hl)
theorem gx_aload_2 (C : gx_ok Γ cc own Ts d) {x : Nat} (hd : decode cc pc = .ok (.aload_n 2, 1)) (hv : V[2]? = some (.ref x)) (kk : gx_G Γ k n (pc + 1) V (.ref x :: st) ws) : gx_G Γ k n pc V st ws := fun H locs ls hP hD hS hl => lv_aload_n C.1 C.2.1 hd rfl (gx_L_at hl hv (fun q => by cases q)) (kk H locs ls hP hD hS hl)
theorem gx_aload_3 (C : gx_ok Γ cc own Ts d) {x : Nat} (hd : decode cc pc = .ok (.aload_n 3, 1)) (hv : V[3]? = some (.ref x)) (kk : gx_G Γ k n (pc + 1) V (.ref x :: st) ws) : gx_G Γ k n pc V st ws := fun H locs ls hP hD hS hl => lv_aload_n C.1 C.2.1 hd rfl (gx_L_at hl hv (fun q => by cases q)) (kk H locs ls hP hD hS hl)
theorem gx_aload (C : gx_ok Γ cc own Ts d) {i : Nat} {x : Nat} (hd : decode cc pc = .ok (.aload i, 2)) (hv : V[i]? = some (.ref x)) (kk : gx_G Γ k n (pc + 2) V (.ref x :: st) ws) : gx_G Γ k n pc V st ws := fun H locs ls hP hD hS hl => lv_aload C.1 C.2.1 hd (gx_L_at hl hv (fun q => by cases q)) (kk H locs ls hP hD hS hl)
theorem gx_istore_0 (C : gx_ok Γ cc own Ts d) {x : Int32} (hd : decode cc pc = .ok (.istore_n 0, 1)) (hn : 0 < gx_nL Γ) (hnl : gx_nl V 0) (kk : gx_G Γ k n (pc + 1) (V.set 0 (.int x)) st ws) : gx_G Γ k n pc V (.int x :: st) ws := by
  intro H locs ls hP hD hS hl
  obtain ⟨l0, h1, h2⟩ := hl
  exact lv_istore_n (i := 0) C.1 C.2.1 hd rfl h1 hn rfl (fun ls' h => kk H locs ls' hP hD hS (gx_L_set1 (ls := ls) h2 hnl h))
theorem gx_istore_1 (C : gx_ok Γ cc own Ts d) {x : Int32} (hd : decode cc pc = .ok (.istore_n 1, 1)) (hn : 1 < gx_nL Γ) (hnl : gx_nl V 1) (kk : gx_G Γ k n (pc + 1) (V.set 1 (.int x)) st ws) : gx_G Γ k n pc V (.int x :: st) ws := by
  intro H locs ls hP hD hS hl
  obtain ⟨l0, h1, h2⟩ := hl
  exact lv_istore_n (i := 1) C.1 C.2.1 hd rfl h1 hn rfl (fun ls' h => kk H locs ls' hP hD hS (gx_L_set1 (ls := ls) h2 hnl h))
theorem gx_istore_2 (C : gx_ok Γ cc own Ts d) {x : Int32} (hd : decode cc pc = .ok (.istore_n 2, 1)) (hn : 2 < gx_nL Γ) (hnl : gx_nl V 2) (kk : gx_G Γ k n (pc + 1) (V.set 2 (.int x)) st ws) : gx_G Γ k n pc V (.int x :: st) ws := by
  intro H locs ls hP hD hS hl
  obtain ⟨l0, h1, h2⟩ := hl
  exact lv_istore_n (i := 2) C.1 C.2.1 hd rfl h1 hn rfl (fun ls' h => kk H locs ls' hP hD hS (gx_L_set1 (ls := ls) h2 hnl h))
theorem gx_istore_3 (C : gx_ok Γ cc own Ts d) {x : Int32} (hd : decode cc pc = .ok (.istore_n 3, 1)) (hn : 3 < gx_nL Γ) (hnl : gx_nl V 3) (kk : gx_G Γ k n (pc + 1) (V.set 3 (.int x)) st ws) : gx_G Γ k n pc V (.int x :: st) ws := by
  intro H locs ls hP hD hS hl
  obtain ⟨l0, h1, h2⟩ := hl
  exact lv_istore_n (i := 3) C.1 C.2.1 hd rfl h1 hn rfl (fun ls' h => kk H locs ls' hP hD hS (gx_L_set1 (ls := ls) h2 hnl h))
theorem gx_istore (C : gx_ok Γ cc own Ts d) {i : Nat} {x : Int32} (hd : decode cc pc = .ok (.istore i, 2)) (hn : i < gx_nL Γ) (hnl : gx_nl V i) (kk : gx_G Γ k n (pc + 2) (V.set i (.int x)) st ws) : gx_G Γ k n pc V (.int x :: st) ws := by
  intro H locs ls hP hD hS hl
  obtain ⟨l0, h1, h2⟩ := hl
  exact lv_istore C.1 C.2.1 hd h1 hn rfl (fun ls' h => kk H locs ls' hP hD hS (gx_L_set1 (ls := ls) h2 hnl h))
theorem gx_astore_0 (C : gx_ok Γ cc own Ts d) {x : Nat} (hd : decode cc pc = .ok (.astore_n 0, 1)) (hn : 0 < gx_nL Γ) (hnl : gx_nl V 0) (kk : gx_G Γ k n (pc + 1) (V.set 0 (.ref x)) st ws) : gx_G Γ k n pc V (.ref x :: st) ws := by
  intro H locs ls hP hD hS hl
  obtain ⟨l0, h1, h2⟩ := hl
  exact lv_astore_n (i := 0) C.1 C.2.1 hd rfl h1 hn rfl (fun ls' h => kk H locs ls' hP hD hS (gx_L_set1 (ls := ls) h2 hnl h))
theorem gx_astore_1 (C : gx_ok Γ cc own Ts d) {x : Nat} (hd : decode cc pc = .ok (.astore_n 1, 1)) (hn : 1 < gx_nL Γ) (hnl : gx_nl V 1) (kk : gx_G Γ k n (pc + 1) (V.set 1 (.ref x)) st ws) : gx_G Γ k n pc V (.ref x :: st) ws := by
  intro H locs ls hP hD hS hl
  obtain ⟨l0, h1, h2⟩ := hl
  exact lv_astore_n (i := 1) C.1 C.2.1 hd rfl h1 hn rfl (fun ls' h => kk H locs ls' hP hD hS (gx_L_set1 (ls := ls) h2 hnl h))
theorem gx_astore_2 (C : gx_ok Γ cc own Ts d) {x : Nat} (hd : decode cc pc = .ok (.astore_n 2, 1)) (hn : 2 < gx_nL Γ) (hnl : gx_nl V 2) (kk : gx_G Γ k n (pc + 1) (V.set 2 (.ref x)) st ws) : gx_G Γ k n pc V (.ref x :: st) ws := by
  intro H locs ls hP hD hS hl
  obtain ⟨l0, h1, h2⟩ := hl
  exact lv_astore_n (i := 2) C.1 C.2.1 hd rfl h1 hn rfl (fun ls' h => kk H locs ls' hP hD hS (gx_L_set1 (ls := ls) h2 hnl h))
theorem gx_astore_3 (C : gx_ok Γ cc own Ts d) {x : Nat} (hd : decode cc pc = .ok (.astore_n 3, 1)) (hn : 3 < gx_nL Γ) (hnl : gx_nl V 3) (kk : gx_G Γ k n (pc + 1) (V.set 3 (.ref x)) st ws) : gx_G Γ k n pc V (.ref x :: st) ws := by
  intro H locs ls hP hD hS hl
  obtain ⟨l0, h1, h2⟩ := hl
  exact lv_astore_n (i := 3) C.1 C.2.1 hd rfl h1 hn rfl (fun ls' h => kk H locs ls' hP hD hS (gx_L_set1 (ls := ls) h2 hnl h))
theorem gx_astore (C : gx_ok Γ cc own Ts d) {i : Nat} {x : Nat} (hd : decode cc pc = .ok (.astore i, 2)) (hn : i < gx_nL Γ) (hnl : gx_nl V i) (kk : gx_G Γ k n (pc + 2) (V.set i (.ref x)) st ws) : gx_G Γ k n pc V (.ref x :: st) ws := by
  intro H locs ls hP hD hS hl
  obtain ⟨l0, h1, h2⟩ := hl
  exact lv_astore C.1 C.2.1 hd h1 hn rfl (fun ls' h => kk H locs ls' hP hD hS (gx_L_set1 (ls := ls) h2 hnl h))
theorem gx_lstore_0 (C : gx_ok Γ cc own Ts d) {x : Int64} (hd : decode cc pc = .ok (.lstore_n 0, 1)) (hn : 0 + 1 < gx_nL Γ) (hnl : gx_nl V 0) (kk : gx_G Γ k n (pc + 1) ((V.set 0 (.long x)).set (0 + 1) .null) st ws) : gx_G Γ k n pc V (.long x :: st) ws := by
  intro H locs ls hP hD hS hl
  obtain ⟨l0, h1, h2⟩ := hl
  exact lv_lstore_n (i := 0) C.1 C.2.1 hd rfl h1 hn rfl (fun ls' h => kk H locs ls' hP hD hS (gx_L_set2 (ls := ls) h2 hnl h))
theorem gx_lstore_1 (C : gx_ok Γ cc own Ts d) {x : Int64} (hd : decode cc pc = .ok (.lstore_n 1, 1)) (hn : 1 + 1 < gx_nL Γ) (hnl : gx_nl V 1) (kk : gx_G Γ k n (pc + 1) ((V.set 1 (.long x)).set (1 + 1) .null) st ws) : gx_G Γ k n pc V (.long x :: st) ws := by
  intro H locs ls hP hD hS hl
  obtain ⟨l0, h1, h2⟩ := hl
  exact lv_lstore_n (i := 1) C.1 C.2.1 hd rfl h1 hn rfl (fun ls' h => kk H locs ls' hP hD hS (gx_L_set2 (ls := ls) h2 hnl h))
theorem gx_lstore_2 (C : gx_ok Γ cc own Ts d) {x : Int64} (hd : decode cc pc = .ok (.lstore_n 2, 1)) (hn : 2 + 1 < gx_nL Γ) (hnl : gx_nl V 2) (kk : gx_G Γ k n (pc + 1) ((V.set 2 (.long x)).set (2 + 1) .null) st ws) : gx_G Γ k n pc V (.long x :: st) ws := by
  intro H locs ls hP hD hS hl
  obtain ⟨l0, h1, h2⟩ := hl
  exact lv_lstore_n (i := 2) C.1 C.2.1 hd rfl h1 hn rfl (fun ls' h => kk H locs ls' hP hD hS (gx_L_set2 (ls := ls) h2 hnl h))
theorem gx_lstore_3 (C : gx_ok Γ cc own Ts d) {x : Int64} (hd : decode cc pc = .ok (.lstore_n 3, 1)) (hn : 3 + 1 < gx_nL Γ) (hnl : gx_nl V 3) (kk : gx_G Γ k n (pc + 1) ((V.set 3 (.long x)).set (3 + 1) .null) st ws) : gx_G Γ k n pc V (.long x :: st) ws := by
  intro H locs ls hP hD hS hl
  obtain ⟨l0, h1, h2⟩ := hl
  exact lv_lstore_n (i := 3) C.1 C.2.1 hd rfl h1 hn rfl (fun ls' h => kk H locs ls' hP hD hS (gx_L_set2 (ls := ls) h2 hnl h))
theorem gx_lstore (C : gx_ok Γ cc own Ts d) {i : Nat} {x : Int64} (hd : decode cc pc = .ok (.lstore i, 2)) (hn : i + 1 < gx_nL Γ) (hnl : gx_nl V i) (kk : gx_G Γ k n (pc + 2) ((V.set i (.long x)).set (i + 1) .null) st ws) : gx_G Γ k n pc V (.long x :: st) ws := by
  intro H locs ls hP hD hS hl
  obtain ⟨l0, h1, h2⟩ := hl
  exact lv_lstore C.1 C.2.1 hd h1 hn rfl (fun ls' h => kk H locs ls' hP hD hS (gx_L_set2 (ls := ls) h2 hnl h))
theorem gx_iinc (C : gx_ok Γ cc own Ts d) {i : Nat} {z : Int} {x v : Int32} (hd : decode cc pc = .ok (.iinc i z, 3)) (hv : V[i]? = some (.int x)) (he : x + Int32.ofInt z = v) (hn : i < gx_nL Γ) (hnl : gx_nl V i) (kk : gx_G Γ k n (pc + 3) (V.set i (.int v)) st ws) : gx_G Γ k n pc V st ws := by
  intro H locs ls hP hD hS hl
  obtain ⟨l0, h1, h2⟩ := hl
  obtain ⟨j, hj⟩ := List.getElem?_of_mem (h2 i _ hv (fun q => by cases q))
  exact lv_iinc C.1 C.2.1 hd h1 hj he hn rfl (fun ls' h => kk H locs ls' hP hD hS (gx_L_set1 (ls := ls) h2 hnl h))
theorem gx_iinc1 (C : gx_ok Γ cc own Ts d) {i : Nat} {x : Int32} (hd : decode cc pc = .ok (.iinc i 1, 3)) (hv : V[i]? = some (.int x)) (hn : i < gx_nL Γ) (hnl : gx_nl V i) (kk : gx_G Γ k n (pc + 3) (V.set i (.int (x + 1))) st ws) : gx_G Γ k n pc V st ws := gx_iinc C hd hv (by show x + Int32.ofInt 1 = x + 1; rfl) hn hnl kk
theorem gx_iadd (C : gx_ok Γ cc own Ts d) {x y : Int32} (hd : decode cc pc = .ok (.iadd, 1)) (kk : gx_G Γ k n (pc + 1) V (.int (x + y) :: st) ws) : gx_G Γ k n pc V (.int y :: .int x :: st) ws := fun H locs ls hP hD hS hl => lv_iadd C.1 C.2.1 hd (kk H locs ls hP hD hS hl)
theorem gx_isub (C : gx_ok Γ cc own Ts d) {x y : Int32} (hd : decode cc pc = .ok (.isub, 1)) (kk : gx_G Γ k n (pc + 1) V (.int (x - y) :: st) ws) : gx_G Γ k n pc V (.int y :: .int x :: st) ws := fun H locs ls hP hD hS hl => lv_isub C.1 C.2.1 hd (kk H locs ls hP hD hS hl)
theorem gx_imul (C : gx_ok Γ cc own Ts d) {x y : Int32} (hd : decode cc pc = .ok (.imul, 1)) (kk : gx_G Γ k n (pc + 1) V (.int (x * y) :: st) ws) : gx_G Γ k n pc V (.int y :: .int x :: st) ws := fun H locs ls hP hD hS hl => lv_imul C.1 C.2.1 hd (kk H locs ls hP hD hS hl)
theorem gx_iand (C : gx_ok Γ cc own Ts d) {x y : Int32} (hd : decode cc pc = .ok (.iand, 1)) (kk : gx_G Γ k n (pc + 1) V (.int (x &&& y) :: st) ws) : gx_G Γ k n pc V (.int y :: .int x :: st) ws := fun H locs ls hP hD hS hl => lv_iand C.1 C.2.1 hd (kk H locs ls hP hD hS hl)
theorem gx_ior (C : gx_ok Γ cc own Ts d) {x y : Int32} (hd : decode cc pc = .ok (.ior, 1)) (kk : gx_G Γ k n (pc + 1) V (.int (x ||| y) :: st) ws) : gx_G Γ k n pc V (.int y :: .int x :: st) ws := fun H locs ls hP hD hS hl => lv_ior C.1 C.2.1 hd (kk H locs ls hP hD hS hl)
theorem gx_ixor (C : gx_ok Γ cc own Ts d) {x y : Int32} (hd : decode cc pc = .ok (.ixor, 1)) (kk : gx_G Γ k n (pc + 1) V (.int (x ^^^ y) :: st) ws) : gx_G Γ k n pc V (.int y :: .int x :: st) ws := fun H locs ls hP hD hS hl => lv_ixor C.1 C.2.1 hd (kk H locs ls hP hD hS hl)
theorem gx_ishl (C : gx_ok Γ cc own Ts d) {x y : Int32} (hd : decode cc pc = .ok (.ishl, 1)) (kk : gx_G Γ k n (pc + 1) V (.int (x <<< (y &&& 31)) :: st) ws) : gx_G Γ k n pc V (.int y :: .int x :: st) ws := fun H locs ls hP hD hS hl => lv_ishl C.1 C.2.1 hd (kk H locs ls hP hD hS hl)
theorem gx_ishr (C : gx_ok Γ cc own Ts d) {x y : Int32} (hd : decode cc pc = .ok (.ishr, 1)) (kk : gx_G Γ k n (pc + 1) V (.int (x >>> (y &&& 31)) :: st) ws) : gx_G Γ k n pc V (.int y :: .int x :: st) ws := fun H locs ls hP hD hS hl => lv_ishr C.1 C.2.1 hd (kk H locs ls hP hD hS hl)
theorem gx_irem (C : gx_ok Γ cc own Ts d) {x y : Int32} (hd : decode cc pc = .ok (.irem, 1)) (hne : ¬ y = 0) (kk : gx_G Γ k n (pc + 1) V (.int (x - x / y * y) :: st) ws) : gx_G Γ k n pc V (.int y :: .int x :: st) ws := fun H locs ls hP hD hS hl => lv_irem C.1 C.2.1 hd hne (kk H locs ls hP hD hS hl)
theorem gx_idiv (C : gx_ok Γ cc own Ts d) {x y : Int32} (hd : decode cc pc = .ok (.idiv, 1)) (hne : ¬ y = 0) (kk : gx_G Γ k n (pc + 1) V (.int (x / y) :: st) ws) : gx_G Γ k n pc V (.int y :: .int x :: st) ws := fun H locs ls hP hD hS hl => lv_idiv C.1 C.2.1 hd hne (kk H locs ls hP hD hS hl)
theorem gx_ineg (C : gx_ok Γ cc own Ts d) {x : Int32} (hd : decode cc pc = .ok (.ineg, 1)) (kk : gx_G Γ k n (pc + 1) V (.int (-x) :: st) ws) : gx_G Γ k n pc V (.int x :: st) ws := fun H locs ls hP hD hS hl => lv_ineg C.1 C.2.1 hd (kk H locs ls hP hD hS hl)
theorem gx_ladd (C : gx_ok Γ cc own Ts d) {x y : Int64} (hd : decode cc pc = .ok (.ladd, 1)) (kk : gx_G Γ k n (pc + 1) V (.long (x + y) :: st) ws) : gx_G Γ k n pc V (.long y :: .long x :: st) ws := fun H locs ls hP hD hS hl => lv_ladd C.1 C.2.1 hd (kk H locs ls hP hD hS hl)
theorem gx_lsub (C : gx_ok Γ cc own Ts d) {x y : Int64} (hd : decode cc pc = .ok (.lsub, 1)) (kk : gx_G Γ k n (pc + 1) V (.long (x - y) :: st) ws) : gx_G Γ k n pc V (.long y :: .long x :: st) ws := fun H locs ls hP hD hS hl => lv_lsub C.1 C.2.1 hd (kk H locs ls hP hD hS hl)
theorem gx_lmul (C : gx_ok Γ cc own Ts d) {x y : Int64} (hd : decode cc pc = .ok (.lmul, 1)) (kk : gx_G Γ k n (pc + 1) V (.long (x * y) :: st) ws) : gx_G Γ k n pc V (.long y :: .long x :: st) ws := fun H locs ls hP hD hS hl => lv_lmul C.1 C.2.1 hd (kk H locs ls hP hD hS hl)
theorem gx_land (C : gx_ok Γ cc own Ts d) {x y : Int64} (hd : decode cc pc = .ok (.land, 1)) (kk : gx_G Γ k n (pc + 1) V (.long (x &&& y) :: st) ws) : gx_G Γ k n pc V (.long y :: .long x :: st) ws := fun H locs ls hP hD hS hl => lv_land C.1 C.2.1 hd (kk H locs ls hP hD hS hl)
theorem gx_lor (C : gx_ok Γ cc own Ts d) {x y : Int64} (hd : decode cc pc = .ok (.lor, 1)) (kk : gx_G Γ k n (pc + 1) V (.long (x ||| y) :: st) ws) : gx_G Γ k n pc V (.long y :: .long x :: st) ws := fun H locs ls hP hD hS hl => lv_lor C.1 C.2.1 hd (kk H locs ls hP hD hS hl)
theorem gx_i2l (C : gx_ok Γ cc own Ts d) {x : Int32} (hd : decode cc pc = .ok (.i2l, 1)) (kk : gx_G Γ k n (pc + 1) V (.long x.toInt64 :: st) ws) : gx_G Γ k n pc V (.int x :: st) ws := fun H locs ls hP hD hS hl => lv_i2l C.1 C.2.1 hd rfl (kk H locs ls hP hD hS hl)
theorem gx_l2i (C : gx_ok Γ cc own Ts d) {x : Int64} (hd : decode cc pc = .ok (.l2i, 1)) (kk : gx_G Γ k n (pc + 1) V (.int x.toInt32 :: st) ws) : gx_G Γ k n pc V (.long x :: st) ws := fun H locs ls hP hD hS hl => lv_l2i C.1 C.2.1 hd rfl (kk H locs ls hP hD hS hl)
theorem gx_i2b (C : gx_ok Γ cc own Ts d) {x : Int32} (hd : decode cc pc = .ok (.i2b, 1)) (kk : gx_G Γ k n (pc + 1) V (.int x.toInt8.toInt32 :: st) ws) : gx_G Γ k n pc V (.int x :: st) ws := fun H locs ls hP hD hS hl => lv_i2b C.1 C.2.1 hd rfl (kk H locs ls hP hD hS hl)
theorem gx_i2c (C : gx_ok Γ cc own Ts d) {x : Int32} (hd : decode cc pc = .ok (.i2c, 1)) (kk : gx_G Γ k n (pc + 1) V (.int (x.toUInt32 % 65536).toInt32 :: st) ws) : gx_G Γ k n pc V (.int x :: st) ws := fun H locs ls hP hD hS hl => lv_i2c C.1 C.2.1 hd rfl (kk H locs ls hP hD hS hl)
theorem gx_iushr (C : gx_ok Γ cc own Ts d) {x y : Int32} (hd : decode cc pc = .ok (.iushr, 1)) (kk : gx_G Γ k n (pc + 1) V (.int (x.toUInt32 >>> (y.toUInt32 &&& Int32.toUInt32 31)).toInt32 :: st) ws) : gx_G Γ k n pc V (.int y :: .int x :: st) ws := fun H locs ls hP hD hS hl => lv_iushr C.1 C.2.1 hd rfl (kk H locs ls hP hD hS hl)
theorem gx_ldcw (C : gx_ok Γ cc own Ts d) {ix : Nat} {v : Int32} (hd : decode cc pc = .ok (.ldc_w ix, 3)) (hw : Cond.constant own ix v ∈ Ts) (kk : gx_G Γ k n (pc + 3) V (.int v :: st) ws) : gx_G Γ k n pc V st ws := fun H locs ls hP hD hS hl => lv_ldcw C.1 C.2.1 C.2.2.2.1 (C.2.2.2.2.1 _ hw) hd (kk H locs ls hP hD hS hl)
theorem gx_lushr (C : gx_ok Γ cc own Ts d) {x : Int64} {y : Int32} (hd : decode cc pc = .ok (.lushr, 1)) (kk : gx_G Γ k n (pc + 1) V (.long (x.toUInt64 >>> (y.toInt64.toUInt64 &&& Int64.toUInt64 63)).toInt64 :: st) ws) : gx_G Γ k n pc V (.int y :: .long x :: st) ws := fun H locs ls hP hD hS hl => lv_lushr C.1 C.2.1 hd rfl (kk H locs ls hP hD hS hl)
theorem gx_lshl (C : gx_ok Γ cc own Ts d) {x : Int64} {y : Int32} (hd : decode cc pc = .ok (.lshl, 1)) (kk : gx_G Γ k n (pc + 1) V (.long (x <<< (y.toInt64 &&& 63)) :: st) ws) : gx_G Γ k n pc V (.int y :: .long x :: st) ws := fun H locs ls hP hD hS hl => lv_lshl C.1 C.2.1 hd rfl (kk H locs ls hP hD hS hl)
theorem gx_lshr (C : gx_ok Γ cc own Ts d) {x : Int64} {y : Int32} (hd : decode cc pc = .ok (.lshr, 1)) (kk : gx_G Γ k n (pc + 1) V (.long (x >>> (y.toInt64 &&& 63)) :: st) ws) : gx_G Γ k n pc V (.int y :: .long x :: st) ws := fun H locs ls hP hD hS hl => lv_lshr C.1 C.2.1 hd rfl (kk H locs ls hP hD hS hl)
theorem gx_lcmp (C : gx_ok Γ cc own Ts d) {x y : Int64} (hd : decode cc pc = .ok (.lcmp, 1)) (kk : gx_G Γ k n (pc + 1) V (.int (lg_cmp x y) :: st) ws) : gx_G Γ k n pc V (.long y :: .long x :: st) ws := fun H locs ls hP hD hS hl => W.lcmp C.1 C.2.1 hd (kk H locs ls hP hD hS hl)
theorem gx_dup (C : gx_ok Γ cc own Ts d) {va : Value} (hd : decode cc pc = .ok (.dup, 1)) (hc : va.category = 1) (kk : gx_G Γ k n (pc + 1) V (va :: va :: st) ws) : gx_G Γ k n pc V (va :: st) ws := fun H locs ls hP hD hS hl => lv_dup C.1 C.2.1 hd hc (kk H locs ls hP hD hS hl)
theorem gx_pop (C : gx_ok Γ cc own Ts d) {va : Value} (hd : decode cc pc = .ok (.pop, 1)) (hc : va.category = 1) (kk : gx_G Γ k n (pc + 1) V st ws) : gx_G Γ k n pc V (va :: st) ws := fun H locs ls hP hD hS hl => lv_pop C.1 C.2.1 hd hc (kk H locs ls hP hD hS hl)
theorem gx_dup2 (C : gx_ok Γ cc own Ts d) {va vb : Value} (hd : decode cc pc = .ok (.dup2, 1)) (hc : va.category = 1) (hc2 : vb.category = 1) (kk : gx_G Γ k n (pc + 1) V (va :: vb :: va :: vb :: st) ws) : gx_G Γ k n pc V (va :: vb :: st) ws := fun H locs ls hP hD hS hl => lv_dup2_11 C.1 C.2.1 hd hc hc2 (kk H locs ls hP hD hS hl)
theorem gx_pop2 (C : gx_ok Γ cc own Ts d) {va : Value} (hd : decode cc pc = .ok (.pop2, 1)) (hc : va.category = 2) (kk : gx_G Γ k n (pc + 1) V st ws) : gx_G Γ k n pc V (va :: st) ws := fun H locs ls hP hD hS hl => lv_pop2_2 C.1 C.2.1 hd hc (kk H locs ls hP hD hS hl)
theorem gx_if_eq (C : gx_ok Γ cc own Ts d) {x : Int32} {off : Int} {tgt : Nat} (hd : decode cc pc = .ok (.ifCond .eq off, 3)) (ht : (pc : Int) + off = (tgt : Int)) (kt : x = 0 → gx_G Γ k n tgt V st ws) (kf : ¬ (x = 0) → gx_G Γ k n (pc + 3) V st ws) : gx_G Γ k n pc V (.int x :: st) ws := fun H locs ls hP hD hS hl => lv_if_eq C.1 C.2.1 hd ht (fun q => kt q H locs ls hP hD hS hl) (fun q => kf q H locs ls hP hD hS hl)
theorem gx_icmp_eq (C : gx_ok Γ cc own Ts d) {x y : Int32} {off : Int} {tgt : Nat} (hd : decode cc pc = .ok (.if_icmp .eq off, 3)) (ht : (pc : Int) + off = (tgt : Int)) (kt : x = y → gx_G Γ k n tgt V st ws) (kf : ¬ (x = y) → gx_G Γ k n (pc + 3) V st ws) : gx_G Γ k n pc V (.int y :: .int x :: st) ws := fun H locs ls hP hD hS hl => lv_icmp_eq C.1 C.2.1 hd ht (fun q => kt q H locs ls hP hD hS hl) (fun q => kf q H locs ls hP hD hS hl)
theorem gx_if_ne (C : gx_ok Γ cc own Ts d) {x : Int32} {off : Int} {tgt : Nat} (hd : decode cc pc = .ok (.ifCond .ne off, 3)) (ht : (pc : Int) + off = (tgt : Int)) (kt : ¬ x = 0 → gx_G Γ k n tgt V st ws) (kf : x = 0 → gx_G Γ k n (pc + 3) V st ws) : gx_G Γ k n pc V (.int x :: st) ws := fun H locs ls hP hD hS hl => lv_if_ne C.1 C.2.1 hd ht (fun q => kt q H locs ls hP hD hS hl) (fun q => kf q H locs ls hP hD hS hl)
theorem gx_icmp_ne (C : gx_ok Γ cc own Ts d) {x y : Int32} {off : Int} {tgt : Nat} (hd : decode cc pc = .ok (.if_icmp .ne off, 3)) (ht : (pc : Int) + off = (tgt : Int)) (kt : ¬ x = y → gx_G Γ k n tgt V st ws) (kf : x = y → gx_G Γ k n (pc + 3) V st ws) : gx_G Γ k n pc V (.int y :: .int x :: st) ws := fun H locs ls hP hD hS hl => lv_icmp_ne C.1 C.2.1 hd ht (fun q => kt q H locs ls hP hD hS hl) (fun q => kf q H locs ls hP hD hS hl)
theorem gx_if_lt (C : gx_ok Γ cc own Ts d) {x : Int32} {off : Int} {tgt : Nat} (hd : decode cc pc = .ok (.ifCond .lt off, 3)) (ht : (pc : Int) + off = (tgt : Int)) (kt : x < 0 → gx_G Γ k n tgt V st ws) (kf : ¬ (x < 0) → gx_G Γ k n (pc + 3) V st ws) : gx_G Γ k n pc V (.int x :: st) ws := fun H locs ls hP hD hS hl => lv_if_lt C.1 C.2.1 hd ht (fun q => kt q H locs ls hP hD hS hl) (fun q => kf q H locs ls hP hD hS hl)
theorem gx_icmp_lt (C : gx_ok Γ cc own Ts d) {x y : Int32} {off : Int} {tgt : Nat} (hd : decode cc pc = .ok (.if_icmp .lt off, 3)) (ht : (pc : Int) + off = (tgt : Int)) (kt : x < y → gx_G Γ k n tgt V st ws) (kf : ¬ (x < y) → gx_G Γ k n (pc + 3) V st ws) : gx_G Γ k n pc V (.int y :: .int x :: st) ws := fun H locs ls hP hD hS hl => lv_icmp_lt C.1 C.2.1 hd ht (fun q => kt q H locs ls hP hD hS hl) (fun q => kf q H locs ls hP hD hS hl)
theorem gx_if_ge (C : gx_ok Γ cc own Ts d) {x : Int32} {off : Int} {tgt : Nat} (hd : decode cc pc = .ok (.ifCond .ge off, 3)) (ht : (pc : Int) + off = (tgt : Int)) (kt : 0 ≤ x → gx_G Γ k n tgt V st ws) (kf : ¬ (0 ≤ x) → gx_G Γ k n (pc + 3) V st ws) : gx_G Γ k n pc V (.int x :: st) ws := fun H locs ls hP hD hS hl => lv_if_ge C.1 C.2.1 hd ht (fun q => kt q H locs ls hP hD hS hl) (fun q => kf q H locs ls hP hD hS hl)
theorem gx_icmp_ge (C : gx_ok Γ cc own Ts d) {x y : Int32} {off : Int} {tgt : Nat} (hd : decode cc pc = .ok (.if_icmp .ge off, 3)) (ht : (pc : Int) + off = (tgt : Int)) (kt : y ≤ x → gx_G Γ k n tgt V st ws) (kf : ¬ (y ≤ x) → gx_G Γ k n (pc + 3) V st ws) : gx_G Γ k n pc V (.int y :: .int x :: st) ws := fun H locs ls hP hD hS hl => lv_icmp_ge C.1 C.2.1 hd ht (fun q => kt q H locs ls hP hD hS hl) (fun q => kf q H locs ls hP hD hS hl)
theorem gx_if_gt (C : gx_ok Γ cc own Ts d) {x : Int32} {off : Int} {tgt : Nat} (hd : decode cc pc = .ok (.ifCond .gt off, 3)) (ht : (pc : Int) + off = (tgt : Int)) (kt : 0 < x → gx_G Γ k n tgt V st ws) (kf : ¬ (0 < x) → gx_G Γ k n (pc + 3) V st ws) : gx_G Γ k n pc V (.int x :: st) ws := fun H locs ls hP hD hS hl => lv_if_gt C.1 C.2.1 hd ht (fun q => kt q H locs ls hP hD hS hl) (fun q => kf q H locs ls hP hD hS hl)
theorem gx_icmp_gt (C : gx_ok Γ cc own Ts d) {x y : Int32} {off : Int} {tgt : Nat} (hd : decode cc pc = .ok (.if_icmp .gt off, 3)) (ht : (pc : Int) + off = (tgt : Int)) (kt : y < x → gx_G Γ k n tgt V st ws) (kf : ¬ (y < x) → gx_G Γ k n (pc + 3) V st ws) : gx_G Γ k n pc V (.int y :: .int x :: st) ws := fun H locs ls hP hD hS hl => lv_icmp_gt C.1 C.2.1 hd ht (fun q => kt q H locs ls hP hD hS hl) (fun q => kf q H locs ls hP hD hS hl)
theorem gx_if_le (C : gx_ok Γ cc own Ts d) {x : Int32} {off : Int} {tgt : Nat} (hd : decode cc pc = .ok (.ifCond .le off, 3)) (ht : (pc : Int) + off = (tgt : Int)) (kt : x ≤ 0 → gx_G Γ k n tgt V st ws) (kf : ¬ (x ≤ 0) → gx_G Γ k n (pc + 3) V st ws) : gx_G Γ k n pc V (.int x :: st) ws := fun H locs ls hP hD hS hl => lv_if_le C.1 C.2.1 hd ht (fun q => kt q H locs ls hP hD hS hl) (fun q => kf q H locs ls hP hD hS hl)
theorem gx_icmp_le (C : gx_ok Γ cc own Ts d) {x y : Int32} {off : Int} {tgt : Nat} (hd : decode cc pc = .ok (.if_icmp .le off, 3)) (ht : (pc : Int) + off = (tgt : Int)) (kt : x ≤ y → gx_G Γ k n tgt V st ws) (kf : ¬ (x ≤ y) → gx_G Γ k n (pc + 3) V st ws) : gx_G Γ k n pc V (.int y :: .int x :: st) ws := fun H locs ls hP hD hS hl => lv_icmp_le C.1 C.2.1 hd ht (fun q => kt q H locs ls hP hD hS hl) (fun q => kf q H locs ls hP hD hS hl)
theorem gx_goto (C : gx_ok Γ cc own Ts d) {off : Int} {tgt : Nat} (hd : decode cc pc = .ok (.goto off, 3)) (ht : (pc : Int) + off = (tgt : Int)) (kk : gx_G Γ k n tgt V st ws) : gx_G Γ k n pc V st ws := fun H locs ls hP hD hS hl => lv_goto C.1 C.2.1 hd ht (kk H locs ls hP hD hS hl)
theorem gx_tout (C : gx_ok Γ cc own Ts d) {dflt lo hi : Int} {offs : Array Int} {len : Nat} {x : Int32} {tgt : Nat} (hd : decode cc pc = .ok (.tableswitch dflt lo hi offs, len)) (h : x.toInt < lo ∨ hi < x.toInt) (ht : (pc : Int) + dflt = (tgt : Int)) (kk : gx_G Γ k n tgt V st ws) : gx_G Γ k n pc V (.int x :: st) ws := fun H locs ls hP hD hS hl => lv_tableOut C.1 C.2.1 hd h ht (kk H locs ls hP hD hS hl)
theorem gx_tin (C : gx_ok Γ cc own Ts d) {dflt lo hi : Int} {offs : Array Int} {len : Nat} {x : Int32} {off : Int} {tgt : Nat} (hd : decode cc pc = .ok (.tableswitch dflt lo hi offs, len)) (h1 : ¬ x.toInt < lo) (h2 : ¬ hi < x.toInt) (ho : offs[(x.toInt - lo).toNat]? = some off) (ht : (pc : Int) + off = (tgt : Int)) (kk : gx_G Γ k n tgt V st ws) : gx_G Γ k n pc V (.int x :: st) ws := fun H locs ls hP hD hS hl => lv_tableIn C.1 C.2.1 hd h1 h2 ho ht (kk H locs ls hP hD hS hl)
theorem gx_look (C : gx_ok Γ cc own Ts d) {dflt : Int} {ps : Array (Int × Int)} {len : Nat} {x : Int32} {off : Int} {tgt : Nat} (hd : decode cc pc = .ok (.lookupswitch dflt ps, len)) (hp : (ps.toList.zip (ps.toList.drop 1)).all (fun (a, next) => a.1 < next.1) = true) (ho : Op.lookupswitch.offset ps.toList dflt x.toInt = off) (ht : (pc : Int) + off = (tgt : Int)) (kk : gx_G Γ k n tgt V st ws) : gx_G Γ k n pc V (.int x :: st) ws := fun H locs ls hP hD hS hl => lv_lookup C.1 C.2.1 hd hp ho ht (kk H locs ls hP hD hS hl)
def gx_lkmax (Ts : List Cond) (own : String) (ix : Nat) : Prop := Cond.methodLink own ix Lib.Math.max.name ∈ Ts ∧ Cond.static Lib.Math.max.name ∈ Ts ∧ Cond.initialized "java/lang/Math" ∈ Ts ∧ Cond.code Lib.Math.max.name Lib.Math.max.code 2 (some .int) ∈ Ts
theorem gx_mmax (C : gx_ok Γ cc own Ts d) {x y : Int32} {ix : Nat} (h1 : 0 < d) (lk : gx_lkmax Ts own ix) (hW : (st.map fun v => v.category).sum ≤ 8) (hb : k ≤ (gx_R Γ).cells ∧ n ≤ (gx_R Γ).slots) (hd : decode cc pc = .ok (.invokestatic ix, 3)) (kk : gx_G Γ k n (pc + 3) V (.int (if x < y then y else x) :: st) ws) : gx_G Γ k n pc V (.int y :: .int x :: st) ws := fun H locs ls hP hD hS hl => by
  have h2 := C.2.2.2.2.2.2.2.2.1
  have h3 := C.2.2.2.2.2.2.2.2.2
  have hts := C.2.2.2.2.1
  exact va_mmax C.1 C.2.1 (C.2.2.1.trans (gx_L_size hl).symm) C.2.2.2.1 (hts _ lk.1) (hts _ lk.2.1) (hts _ lk.2.2.1) (hts _ lk.2.2.2) (by omega) (by omega) hb.1 hb.2 hd (kk H locs ls hP hD hS hl)
def gx_lkmin (Ts : List Cond) (own : String) (ix : Nat) : Prop := Cond.methodLink own ix Lib.Math.min.name ∈ Ts ∧ Cond.static Lib.Math.min.name ∈ Ts ∧ Cond.initialized "java/lang/Math" ∈ Ts ∧ Cond.code Lib.Math.min.name Lib.Math.min.code 2 (some .int) ∈ Ts
theorem gx_mmin (C : gx_ok Γ cc own Ts d) {x y : Int32} {ix : Nat} (h1 : 0 < d) (lk : gx_lkmin Ts own ix) (hW : (st.map fun v => v.category).sum ≤ 8) (hb : k ≤ (gx_R Γ).cells ∧ n ≤ (gx_R Γ).slots) (hd : decode cc pc = .ok (.invokestatic ix, 3)) (kk : gx_G Γ k n (pc + 3) V (.int (if y < x then y else x) :: st) ws) : gx_G Γ k n pc V (.int y :: .int x :: st) ws := fun H locs ls hP hD hS hl => by
  have h2 := C.2.2.2.2.2.2.2.2.1
  have h3 := C.2.2.2.2.2.2.2.2.2
  have hts := C.2.2.2.2.1
  exact va_mmin C.1 C.2.1 (C.2.2.1.trans (gx_L_size hl).symm) C.2.2.2.1 (hts _ lk.1) (hts _ lk.2.1) (hts _ lk.2.2.1) (hts _ lk.2.2.2) (by omega) (by omega) hb.1 hb.2 hd (kk H locs ls hP hD hS hl)
def gx_lkabs (Ts : List Cond) (own : String) (ix : Nat) : Prop := Cond.methodLink own ix Lib.Math.abs.name ∈ Ts ∧ Cond.static Lib.Math.abs.name ∈ Ts ∧ Cond.initialized "java/lang/Math" ∈ Ts ∧ Cond.code Lib.Math.abs.name Lib.Math.abs.code 1 (some .int) ∈ Ts
theorem gx_mabs (C : gx_ok Γ cc own Ts d) {x : Int32} {ix : Nat} (h1 : 0 < d) (lk : gx_lkabs Ts own ix) (hW : (st.map fun v => v.category).sum ≤ 8) (hb : k ≤ (gx_R Γ).cells ∧ n ≤ (gx_R Γ).slots) (hd : decode cc pc = .ok (.invokestatic ix, 3)) (kk : gx_G Γ k n (pc + 3) V (.int (if 0 ≤ x then x else 0 - x) :: st) ws) : gx_G Γ k n pc V (.int x :: st) ws := fun H locs ls hP hD hS hl => by
  have h2 := C.2.2.2.2.2.2.2.2.1
  have h3 := C.2.2.2.2.2.2.2.2.2
  have hts := C.2.2.2.2.1
  exact va_mabs C.1 C.2.1 (C.2.2.1.trans (gx_L_size hl).symm) C.2.2.2.1 (hts _ lk.1) (hts _ lk.2.1) (hts _ lk.2.2.1) (hts _ lk.2.2.2) (by omega) (by omega) hb.1 hb.2 hd (kk H locs ls hP hD hS hl)
end GX
abbrev gx_S : Type := Nat → Nat → Int32
def gx_st (S : gx_S) (q j : Nat) (x : Int32) : gx_S := va_up S q (upd (S q) j x)
/-- a long in two places -/
def gx_mk (x y : Int32) : Int64 := Int64.ofBitVec ((x.toBitVec ++ y.toBitVec : BitVec (32 + 32)).cast rfl)
def gx_hi (v : Int64) : Int32 := Int32.ofBitVec (v.toBitVec.extractLsb' 32 32)
def gx_lo (v : Int64) : Int32 := Int32.ofBitVec (v.toBitVec.extractLsb' 0 32)
theorem gx_mk_hi (v : Int64) : gx_mk (gx_hi v) (gx_lo v) = v := by
  apply Int64.toBitVec_inj.mp
  unfold gx_mk gx_hi gx_lo
  apply BitVec.eq_of_getLsbD_eq
  intro i hi
  simp only [Int64.toBitVec_ofBitVec, Int32.toBitVec_ofBitVec, BitVec.getLsbD_cast, BitVec.getLsbD_append, BitVec.getLsbD_extractLsb']
  by_cases h : i < 32
  · simp [h]
  · have h2 : i - 32 < 32 := by omega
    have h3 : 32 + (i - 32) = i := by omega
    simp [h, h2, h3]
theorem gx_mk_up {f : Nat → Int32} {h0 : Nat} {v : Int64} : gx_mk (upd (upd f h0 (gx_hi v)) (h0 + 1) (gx_lo v) h0) (upd (upd f h0 (gx_hi v)) (h0 + 1) (gx_lo v) (h0 + 1)) = v := by
  simp [upd, gx_mk_hi]
def gx_stl (S : gx_S) (q h0 : Nat) (v : Int64) : gx_S := va_up S q (upd (upd (S q) h0 (gx_hi v)) (h0 + 1) (gx_lo v))
theorem gx_in_lt {i : Int32} {N : Nat} (h : vp_in i N) : i.toNatClampNeg < N := Nat.not_le.mp fun z => h (Or.inr z)
/-! static worlds: K cells at the addresses a, cell k holding cf k (S k) -/
def gx_w (K : Nat) (a : Nat → Nat) (cf : Nat → (Nat → Int32) → va_E) (S : Nat → Nat → Int32) : va_W := (List.range K).map (fun k => (a k, cf k (S k)))
theorem gx_w_get {K : Nat} {a : Nat → Nat} {cf : Nat → (Nat → Int32) → va_E} {S : Nat → Nat → Int32} {q : Nat} (h : q < K) : (gx_w K a cf S)[q]? = some (a q, cf q (S q)) := by
  simp [gx_w, h]
theorem gx_w_set {K : Nat} {a : Nat → Nat} {cf : Nat → (Nat → Int32) → va_E} {S : Nat → Nat → Int32} {q : Nat} (r : Nat → Int32) : (gx_w K a cf S).set q (a q, cf q r) = gx_w K a cf (va_up S q r) := by
  apply List.ext_getElem?
  intro i
  rw [List.getElem?_set]
  by_cases e : q = i
  · subst e
    by_cases h : q < K
    · simp [gx_w, h, va_up]
    · simp [gx_w, h]
  · rw [if_neg e]
    by_cases h : i < K
    · rw [gx_w_get h, gx_w_get h, va_up_ne _ _ (fun z => e z.symm)]
    · simp [gx_w, h]
/-- a field's words, by the class that uses it and its place there -/
def gx_fl (Ts : List Cond) (own : String) (ix : Nat) (C : String) (T : u_T) (N j : Nat) : Prop := (∀ w ∈ u_ws C T N, w ∈ Ts) ∧ j < N ∧ Cond.fieldLink own ix C (T j).2.1 (T j).2.2.1 ∈ Ts ∧ (T j).1 = C
/-- a class that the worlds hold: its fields' types, and their names are apart; it's the ci-th -/
def gx_cls (cl : List vw_C) (ci : Nat) (C : String) (T : u_T) (N : Nat) (ty : Nat → FieldType) : Prop := cl[ci]? = some (C, T, N) ∧ (∀ k, k < N → parseFieldDescriptor (T k).2.2.1 = some (ty k)) ∧ ∀ a, a < N → ∀ b, b < N → a ≠ b → (T a).2.1 ≠ (T b).2.1
def gx_arr (tys : List (ClassId × FieldType)) (cf : Nat → (Nat → Int32) → va_E) (q : Nat) (ty : FieldType) (N : Nat) : Prop := ∃ (t0 : Nat) (cA : ClassId), tys[t0]? = some (cA, ty) ∧ ∀ r, cf q r = .inl (cA, N, .inl r)
def gx_arrq (tys : List (ClassId × FieldType)) (cf : Nat → (Nat → Int32) → va_E) (q : Nat) (ty : FieldType) (N : Nat) (f : Nat → Option Nat) : Prop := ∃ (t0 : Nat) (cA : ClassId), tys[t0]? = some (cA, ty) ∧ ∀ r, cf q r = .inl (cA, N, .inr (.inr (.inr (.inr f))))
section GS
variable {Γ : gx_T} {cc : ByteArray} {own : String} {Ts : List Cond} {d k n pc : Nat} {V st : List Value} {K : Nat} {a : Nat → Nat} {cf : Nat → (Nat → Int32) → va_E} {S : Nat → Nat → Int32}
theorem gs_getf (C0 : gx_ok Γ cc own Ts d) {ix q ci N j : Nat} {C : String} {T : u_T} {ty : Nat → FieldType} {fs : List Value} {v : Value} (hf : gx_fl Ts own ix C T N j) (hcl : gx_cls (gx_cl Γ) ci C T N ty) (hk : q < K) (hc : cf q (S q) = .inr (ci, fs)) (hv : fs[j]? = some v) (hd : decode cc pc = .ok (.getfield ix, 3)) (kk : gx_G Γ k n (pc + 3) V (v :: st) (gx_w K a cf S)) : gx_G Γ k n pc V (.ref (a q) :: st) (gx_w K a cf S) := fun H locs ls hP hD hS hl =>
  va_get C0.1 C0.2.1 C0.2.2.2.2.1 hf.1 C0.2.2.2.1 C0.2.2.2.2.2.1 hP q (by rw [gx_w_get hk, hc]) hcl.1 j hf.2.1 (C0.2.2.2.2.1 _ hf.2.2.1) (by rw [hf.2.2.2]; exact fun _ h => h) hv hd (kk H locs ls hP hD hS hl)
theorem gs_putf (C0 : gx_ok Γ cc own Ts d) {ix q ci N j : Nat} {C : String} {T : u_T} {ty : Nat → FieldType} {fs : List Value} {v : Value} (r : Nat → Int32) (hf : gx_fl Ts own ix C T N j) (hcl : gx_cls (gx_cl Γ) ci C T N ty) (hk : q < K) (hc : cf q (S q) = .inr (ci, fs)) (hr : cf q r = .inr (ci, fs.set j v)) (hfin : (T j).2.2.2 = false) (hn : narrow (ty j) v = v) (hfit : fits (ty j) v = true) (hlen : j < fs.length) (hd : decode cc pc = .ok (.putfield ix, 3)) (kk : gx_G Γ k n (pc + 3) V st (gx_w K a cf (va_up S q r))) : gx_G Γ k n pc V (v :: .ref (a q) :: st) (gx_w K a cf S) := fun H locs ls hP hD hS hl =>
  va_put C0.1 C0.2.1 C0.2.2.2.2.1 hf.1 ty hcl.2.1 hcl.2.2 C0.2.2.2.1 C0.2.2.2.2.2.1 hP hD hS q (by rw [gx_w_get hk, hc]) hcl.1 j hf.2.1 (C0.2.2.2.2.1 _ hf.2.2.1) (by rw [hf.2.2.2]; exact fun _ h => h) hfin (hcl.2.1 j hf.2.1) hn hfit hlen hd (fun H1 locs1 hP hD hS => by
    rw [← hr, gx_w_set] at hP hD
    exact kk H1 locs1 ls hP hD hS hl)
theorem gs_aald (C0 : gx_ok Γ cc own Ts d) {q N : Nat} {ty : FieldType} {f : Nat → Option Nat} {i : Int32} {b : Nat} (ha : gx_arrq (gx_ty Γ) cf q ty N f) (hty : ty.isReference = true) (hk : q < K) (hin : vp_in i N) (hb : f i.toNatClampNeg = some b) (hd : decode cc pc = .ok (.aaload, 1)) (kk : gx_G Γ k n (pc + 1) V (.ref b :: st) (gx_w K a cf S)) : gx_G Γ k n pc V (.int i :: .ref (a q) :: st) (gx_w K a cf S) := fun H locs ls hP hD hS hl => by
  obtain ⟨t0, cA, ht, hc⟩ := ha
  have hlt : i.toNatClampNeg < N := Nat.not_le.mp fun z => hin (Or.inr z)
  have hcell := hP q (a q, .inl (cA, N, .inr (.inr (.inr (.inr f))))) (by rw [gx_w_get hk, hc])
  exact W.aald (v := .ref b) (ty := ty) C0.1 C0.2.1 hcell ((C0.2.2.2.2.2.1.2 t0 _ ht).1 N (fun j => va_rf (f j))) hty (fun z => by cases z) (by show ¬ (i < 0 ∨ (arrV _ _ _).slots.size ≤ _); rw [arrV_size]; exact hin) (by show (arrV _ _ _).slots[_]? = _; rw [arrV_read _ _ hlt, hb]; rfl) rfl rfl hd (kk H locs ls hP hD hS hl)
theorem gs_iald (C0 : gx_ok Γ cc own Ts d) {q N : Nat} {i : Int32} (ha : gx_arr (gx_ty Γ) cf q .int N) (hk : q < K) (hin : vp_in i N) (hd : decode cc pc = .ok (.iaload, 1)) (kk : gx_G Γ k n (pc + 1) V (.int (S q i.toNatClampNeg) :: st) (gx_w K a cf S)) : gx_G Γ k n pc V (.int i :: .ref (a q) :: st) (gx_w K a cf S) := fun H locs ls hP hD hS hl => by
  obtain ⟨t0, cA, ht, hc⟩ := ha
  exact va_iald C0.1 C0.2.1 C0.2.2.2.2.2.1 hP q t0 (by rw [gx_w_get hk, hc]) ht hin hd (kk H locs ls hP hD hS hl)
theorem gs_iast (C0 : gx_ok Γ cc own Ts d) {q N : Nat} {i x : Int32} (ha : gx_arr (gx_ty Γ) cf q .int N) (hk : q < K) (hin : vp_in i N) {S1 : gx_S} (hS1 : S1 = gx_st S q i.toNatClampNeg x) (hd : decode cc pc = .ok (.iastore, 1)) (kk : gx_G Γ k n (pc + 1) V st (gx_w K a cf S1)) : gx_G Γ k n pc V (.int x :: .int i :: .ref (a q) :: st) (gx_w K a cf S) := fun H locs ls hP hD hS hl => by
  obtain ⟨t0, cA, ht, hc⟩ := ha
  exact va_iast C0.1 C0.2.1 C0.2.2.2.2.2.1 hP hD hS q t0 (by rw [gx_w_get hk, hc]) ht hin hd (fun H1 locs1 hP hD hS => by
    rw [← hc, gx_w_set] at hP hD
    rw [hS1] at kk
    exact kk H1 locs1 ls hP hD hS hl)
theorem gs_zald (C0 : gx_ok Γ cc own Ts d) {q N : Nat} {i : Int32} (ha : gx_arr (gx_ty Γ) cf q .boolean N) (hk : q < K) (hin : vp_in i N) (hd : decode cc pc = .ok (.baload, 1)) (kk : gx_G Γ k n (pc + 1) V (.int (S q i.toNatClampNeg) :: st) (gx_w K a cf S)) : gx_G Γ k n pc V (.int i :: .ref (a q) :: st) (gx_w K a cf S) := fun H locs ls hP hD hS hl => by
  obtain ⟨t0, cA, ht, hc⟩ := ha
  exact va_zald C0.1 C0.2.1 C0.2.2.2.2.2.1 hP q t0 (by rw [gx_w_get hk, hc]) ht hin hd (kk H locs ls hP hD hS hl)
theorem gs_zast (C0 : gx_ok Γ cc own Ts d) {q N : Nat} {i x : Int32} (ha : gx_arr (gx_ty Γ) cf q .boolean N) (hk : q < K) (hin : vp_in i N) {S1 : gx_S} (hS1 : S1 = gx_st S q i.toNatClampNeg (vp_nar .boolean x)) (hd : decode cc pc = .ok (.bastore, 1)) (kk : gx_G Γ k n (pc + 1) V st (gx_w K a cf S1)) : gx_G Γ k n pc V (.int x :: .int i :: .ref (a q) :: st) (gx_w K a cf S) := fun H locs ls hP hD hS hl => by
  obtain ⟨t0, cA, ht, hc⟩ := ha
  exact va_zast C0.1 C0.2.1 C0.2.2.2.2.2.1 hP hD hS q t0 (by rw [gx_w_get hk, hc]) ht hin hd (fun H1 locs1 hP hD hS => by
    rw [← hc, gx_w_set] at hP hD
    rw [hS1] at kk
    exact kk H1 locs1 ls hP hD hS hl)
theorem gs_bald (C0 : gx_ok Γ cc own Ts d) {q N : Nat} {i : Int32} (ha : gx_arr (gx_ty Γ) cf q .byte N) (hk : q < K) (hin : vp_in i N) (hd : decode cc pc = .ok (.baload, 1)) (kk : gx_G Γ k n (pc + 1) V (.int (S q i.toNatClampNeg) :: st) (gx_w K a cf S)) : gx_G Γ k n pc V (.int i :: .ref (a q) :: st) (gx_w K a cf S) := fun H locs ls hP hD hS hl => by
  obtain ⟨t0, cA, ht, hc⟩ := ha
  exact va_bald C0.1 C0.2.1 C0.2.2.2.2.2.1 hP q t0 (by rw [gx_w_get hk, hc]) ht hin hd (kk H locs ls hP hD hS hl)
theorem gs_bast (C0 : gx_ok Γ cc own Ts d) {q N : Nat} {i x : Int32} (ha : gx_arr (gx_ty Γ) cf q .byte N) (hk : q < K) (hin : vp_in i N) {S1 : gx_S} (hS1 : S1 = gx_st S q i.toNatClampNeg (vp_nar .byte x)) (hd : decode cc pc = .ok (.bastore, 1)) (kk : gx_G Γ k n (pc + 1) V st (gx_w K a cf S1)) : gx_G Γ k n pc V (.int x :: .int i :: .ref (a q) :: st) (gx_w K a cf S) := fun H locs ls hP hD hS hl => by
  obtain ⟨t0, cA, ht, hc⟩ := ha
  exact va_bast C0.1 C0.2.1 C0.2.2.2.2.2.1 hP hD hS q t0 (by rw [gx_w_get hk, hc]) ht hin hd (fun H1 locs1 hP hD hS => by
    rw [← hc, gx_w_set] at hP hD
    rw [hS1] at kk
    exact kk H1 locs1 ls hP hD hS hl)
theorem gs_cald (C0 : gx_ok Γ cc own Ts d) {q N : Nat} {i : Int32} (ha : gx_arr (gx_ty Γ) cf q .char N) (hk : q < K) (hin : vp_in i N) (hd : decode cc pc = .ok (.caload, 1)) (kk : gx_G Γ k n (pc + 1) V (.int (S q i.toNatClampNeg) :: st) (gx_w K a cf S)) : gx_G Γ k n pc V (.int i :: .ref (a q) :: st) (gx_w K a cf S) := fun H locs ls hP hD hS hl => by
  obtain ⟨t0, cA, ht, hc⟩ := ha
  exact va_cald C0.1 C0.2.1 C0.2.2.2.2.2.1 hP q t0 (by rw [gx_w_get hk, hc]) ht hin hd (kk H locs ls hP hD hS hl)
theorem gs_cast (C0 : gx_ok Γ cc own Ts d) {q N : Nat} {i x : Int32} (ha : gx_arr (gx_ty Γ) cf q .char N) (hk : q < K) (hin : vp_in i N) {S1 : gx_S} (hS1 : S1 = gx_st S q i.toNatClampNeg (vp_nar .char x)) (hd : decode cc pc = .ok (.castore, 1)) (kk : gx_G Γ k n (pc + 1) V st (gx_w K a cf S1)) : gx_G Γ k n pc V (.int x :: .int i :: .ref (a q) :: st) (gx_w K a cf S) := fun H locs ls hP hD hS hl => by
  obtain ⟨t0, cA, ht, hc⟩ := ha
  exact va_cast C0.1 C0.2.1 C0.2.2.2.2.2.1 hP hD hS q t0 (by rw [gx_w_get hk, hc]) ht hin hd (fun H1 locs1 hP hD hS => by
    rw [← hc, gx_w_set] at hP hD
    rw [hS1] at kk
    exact kk H1 locs1 ls hP hD hS hl)
theorem gs_puti (C0 : gx_ok Γ cc own Ts d) {ix q ci N j : Nat} {C : String} {T : u_T} {ty : Nat → FieldType} {fs : List Value} {x : Int32} (hf : gx_fl Ts own ix C T N j) (hcl : gx_cls (gx_cl Γ) ci C T N ty) (hk : q < K) (hc : cf q (S q) = .inr (ci, fs)) (hr : cf q (upd (S q) j x) = .inr (ci, fs.set j (.int x))) (hfin : (T j).2.2.2 = false) (hn : narrow (ty j) (.int x) = .int x) (hfit : fits (ty j) (.int x) = true) (hlen : j < fs.length) {S1 : gx_S} (hS1 : S1 = gx_st S q j x) (hd : decode cc pc = .ok (.putfield ix, 3)) (kk : gx_G Γ k n (pc + 3) V st (gx_w K a cf S1)) : gx_G Γ k n pc V (.int x :: .ref (a q) :: st) (gx_w K a cf S) := by
  subst hS1
  exact gs_putf C0 (upd (S q) j x) hf hcl hk hc hr hfin hn hfit hlen hd kk
theorem gs_putl (C0 : gx_ok Γ cc own Ts d) {ix q ci N j h0 : Nat} {C : String} {T : u_T} {ty : Nat → FieldType} {fs : List Value} {v : Int64} (hf : gx_fl Ts own ix C T N j) (hcl : gx_cls (gx_cl Γ) ci C T N ty) (hk : q < K) (hc : cf q (S q) = .inr (ci, fs)) (hr : cf q (upd (upd (S q) h0 (gx_hi v)) (h0 + 1) (gx_lo v)) = .inr (ci, fs.set j (.long v))) (hfin : (T j).2.2.2 = false) (hn : narrow (ty j) (.long v) = .long v) (hfit : fits (ty j) (.long v) = true) (hlen : j < fs.length) {S1 : gx_S} (hS1 : S1 = gx_stl S q h0 v) (hd : decode cc pc = .ok (.putfield ix, 3)) (kk : gx_G Γ k n (pc + 3) V st (gx_w K a cf S1)) : gx_G Γ k n pc V (.long v :: .ref (a q) :: st) (gx_w K a cf S) := by
  subst hS1
  exact gs_putf C0 (upd (upd (S q) h0 (gx_hi v)) (h0 + 1) (gx_lo v)) hf hcl hk hc hr hfin hn hfit hlen hd kk
theorem gs_recv {q ci : Nat} {fs : List Value} (hk : q < K) (hc : cf q (S q) = .inr (ci, fs)) : (gx_w K a cf S)[q]? = some (a q, .inr (ci, fs)) := by rw [gx_w_get hk, hc]
theorem gs_alen (C0 : gx_ok Γ cc own Ts d) {q N : Nat} {ty : FieldType} {v : Int32} (ha : gx_arr (gx_ty Γ) cf q ty N) (hk : q < K) (hv : Int32.ofNat N = v) (hd : decode cc pc = .ok (.arraylength, 1)) (kk : gx_G Γ k n (pc + 1) V (.int v :: st) (gx_w K a cf S)) : gx_G Γ k n pc V (.ref (a q) :: st) (gx_w K a cf S) := fun H locs ls hP hD hS hl => by
  obtain ⟨t0, cA, ht, hc⟩ := ha
  exact va_alen C0.1 C0.2.1 C0.2.2.2.2.2.1 hP q t0 (by rw [gx_w_get hk, hc]) ht hv hd (kk H locs ls hP hD hS hl)
theorem gs_alenq (C0 : gx_ok Γ cc own Ts d) {q N : Nat} {ty : FieldType} {v : Int32} {f : Nat → Option Nat} (ha : gx_arrq (gx_ty Γ) cf q ty N f) (hk : q < K) (hv : Int32.ofNat N = v) (hd : decode cc pc = .ok (.arraylength, 1)) (kk : gx_G Γ k n (pc + 1) V (.int v :: st) (gx_w K a cf S)) : gx_G Γ k n pc V (.ref (a q) :: st) (gx_w K a cf S) := fun H locs ls hP hD hS hl => by
  obtain ⟨t0, cA, ht, hc⟩ := ha
  exact va_alen C0.1 C0.2.1 C0.2.2.2.2.2.1 hP q t0 (by rw [gx_w_get hk, hc]) ht hv hd (kk H locs ls hP hD hS hl)
end GS
/-! contracts: a method over a world w0, which leaves the world W1 of the state that it answers -/
def gx_rm (d : Nat) : Room := { frames := d, cells := 0, slots := 0, locals := 40 * d }
abbrev gx_Pre (D : va_G) (cl : List vw_C) (tys : List (ClassId × FieldType)) (av : List Value) (w0 : va_W) (sz : Nat) : Array Value → State → Prop := va_Pc av (fun U => U.heap.size = sz ∧ va_P D cl w0 U.heap ∧ va_K D cl tys U ∧ va_D (fun _ => True) w0)
abbrev gx_B (D : va_G) (cl : List vw_C) (tys : List (ClassId × FieldType)) (w0 : va_W) (W1 : gx_S → va_W) (sz : Nat) : gx_S → State → Prop := fun S' t => va_P D cl (W1 S') t.heap ∧ va_K D cl tys t ∧ va_D (va_A w0 sz) (W1 S')
def gx_mI (l : Launch) (D : va_G) (cl : List vw_C) (tys : List (ClassId × FieldType)) (y : MethodName) (ws : List Cond) (rm : Room) (av : List Value) (w0 : va_W) (W1 : gx_S → va_W) (o : Int32 × gx_S) : Prop := ∀ sz : Nat, Met l y ws rm (gx_Pre D cl tys av w0 sz) (va_Qi (fun r S' => (r, S') = o) (gx_B D cl tys w0 W1 sz) (va_A w0 sz)) 0 0 (va_A w0 sz)
def gx_mL (l : Launch) (D : va_G) (cl : List vw_C) (tys : List (ClassId × FieldType)) (y : MethodName) (ws : List Cond) (rm : Room) (av : List Value) (w0 : va_W) (W1 : gx_S → va_W) (o : Int64 × gx_S) : Prop := ∀ sz : Nat, Met l y ws rm (gx_Pre D cl tys av w0 sz) (va_Ql (fun r S' => (r, S') = o) (gx_B D cl tys w0 W1 sz) (va_A w0 sz)) 0 0 (va_A w0 sz)
def gx_mV (l : Launch) (D : va_G) (cl : List vw_C) (tys : List (ClassId × FieldType)) (y : MethodName) (ws : List Cond) (rm : Room) (av : List Value) (w0 : va_W) (W1 : gx_S → va_W) (o : gx_S) : Prop := ∀ sz : Nat, Met l y ws rm (gx_Pre D cl tys av w0 sz) (va_Qv (fun S' => S' = o) (gx_B D cl tys w0 W1 sz) (va_A w0 sz)) 0 0 (va_A w0 sz)
theorem gx_blind {D : va_G} {cl : List vw_C} {tys : List (ClassId × FieldType)} {av : List Value} {w0 : va_W} {sz : Nat} : FrameBlind (gx_Pre D cl tys av w0 sz) := fun a U g mk q => by
  obtain ⟨q0, q1, qP, qK, qD⟩ := q
  exact ⟨q0, q1, qP, va_K.moved (u := U) (U := U.calling g mk a) (Vm.Alike.refl U.vm) qK, qD⟩
/-- the cells of w1 beside those of w2: behind a call over w1 -/
theorem gx_fr {A : Nat → Prop} {D : va_G} {cl : List vw_C} {w1 w2 w1' : va_W} {H H1 : Heap} (hP : va_P D cl (w1 ++ w2) H) (hD : va_D A (w1 ++ w2)) (hk : ∀ q : Nat, q < H.size → ¬ va_A w1 H.size q → H1[q]? = H[q]?) (hF : ∀ q, va_A w1 H.size q → A q) (hP1 : va_P D cl w1' H1) (hD1 : va_D (va_A w1 H.size) w1') : va_P D cl (w1' ++ w2) H1 ∧ va_D A (w1' ++ w2) := by
  have at2 : ∀ (j : Nat) (q : Nat × va_E), w2[j]? = some q → (w1 ++ w2)[w1.length + j]? = some q := fun j q h => by rw [List.getElem?_append_right (by omega), Nat.add_sub_cancel_left]; exact h
  have at1 : ∀ (j : Nat) (q : Nat × va_E), w1[j]? = some q → j < w1.length ∧ (w1 ++ w2)[j]? = some q := fun j q h => by
    have := (List.getElem?_eq_some_iff.mp h).1
    exact ⟨this, by rw [List.getElem?_append_left this]; exact h⟩
  have no : ∀ (j : Nat) (q : Nat × va_E), w2[j]? = some q → ¬ va_A w1 H.size q.1 := fun j q h z => by
    rcases z with ⟨i, e, h1⟩ | z
    · obtain ⟨a1, a2⟩ := at1 i _ h1
      have := hD.1 _ _ _ _ a2 (at2 j q h) rfl
      omega
    · exact absurd (hP _ _ (at2 j q h)).lt (by omega)
  refine ⟨hP1.app (fun j q h => (hP _ _ (at2 j q h)).kept (hk _ (hP _ _ (at2 j q h)).lt (no j q h))), va_D.app (hD1.weaken (fun _ _ _ z => hF _ z)) ⟨fun i j p q hi hj e => ?_, fun j q h => hD.2 _ _ (at2 j q h)⟩ (fun i j p q hi hj e => ?_)⟩
  · have := hD.1 _ _ _ _ (at2 i p hi) (at2 j q hj) e
    omega
  · exact no j q hj (e ▸ hD1.2 i p hi)
theorem gx_fr2 {A : Nat → Prop} {D : va_G} {cl : List vw_C} {w1 w2 : va_W} {H : Heap} (hP : va_P D cl (w1 ++ w2) H) (hD : va_D A (w1 ++ w2)) : va_P D cl (w2 ++ w1) H ∧ va_D A (w2 ++ w1) := by
  have at2 : ∀ (j : Nat) (q : Nat × va_E), w2[j]? = some q → (w1 ++ w2)[w1.length + j]? = some q := fun j q h => by rw [List.getElem?_append_right (by omega), Nat.add_sub_cancel_left]; exact h
  have at1 : ∀ (j : Nat) (q : Nat × va_E), w1[j]? = some q → j < w1.length ∧ (w1 ++ w2)[j]? = some q := fun j q h => by
    have := (List.getElem?_eq_some_iff.mp h).1
    exact ⟨this, by rw [List.getElem?_append_left this]; exact h⟩
  refine ⟨va_P.app (fun j q h => hP _ _ (at2 j q h)) (fun j q h => hP _ _ (at1 j q h).2), va_D.app ⟨fun i j p q hi hj e => ?_, fun j q h => hD.2 _ _ (at2 j q h)⟩ ⟨fun i j p q hi hj e => ?_, fun j q h => hD.2 _ _ (at1 j q h).2⟩ (fun i j p q hi hj e => ?_)⟩
  · have := hD.1 _ _ _ _ (at2 i p hi) (at2 j q hj) e
    omega
  · exact hD.1 _ _ _ _ (at1 i p hi).2 (at1 j q hj).2 e
  · have := hD.1 _ _ _ _ (at2 i p hi) (at1 j q hj).2 e
    have := (at1 j q hj).1
    omega
theorem gx_left {A : Nat → Prop} {D : va_G} {cl : List vw_C} {w1 w2 : va_W} {H : Heap} (hP : va_P D cl (w1 ++ w2) H) (hD : va_D A (w1 ++ w2)) : va_P D cl w1 H ∧ va_D A w1 := by
  have at1 : ∀ (j : Nat) (q : Nat × va_E), w1[j]? = some q → j < w1.length ∧ (w1 ++ w2)[j]? = some q := fun j q h => by
    have := (List.getElem?_eq_some_iff.mp h).1
    exact ⟨this, by rw [List.getElem?_append_left this]; exact h⟩
  exact ⟨fun j q h => hP _ _ (at1 j q h).2, fun i j p q hi hj e => hD.1 _ _ _ _ (at1 i p hi).2 (at1 j q hj).2 e, fun j q h => hD.2 _ _ (at1 j q h).2⟩
theorem gx_own {A : Nat → Prop} {w : va_W} {H0 H : Heap} {locs : List Loc} (hD : va_D A w) (hS : va_S A H0 H locs) (hA : ∀ q, H0.size ≤ q → A q) : ∀ q, va_A w H.size q → A q := fun q z => by
  rcases z with ⟨k, e, h⟩ | z
  · exact hD.2 k _ h
  · exact hA q (Nat.le_trans hS.1 z)
section GC
variable {Γ : gx_T} {cc : ByteArray} {own : String} {Ts : List Cond} {d k n pc : Nat} {V rest st0 : List Value} {w w2 : va_W} {W1 : gx_S → va_W} {y : MethodName} {ws : List Cond} {rm : Room} {As : List Value} {ix maxL na : Nat} {bytes : ByteArray} {ret : Option FieldType} {b : Nat} {C : String}
/-- the call's link words, and that the callee's words are among Ts -/
def gx_lk (Ts : List Cond) (own : String) (ix : Nat) (C : String) (y : MethodName) (bytes : ByteArray) (maxL : Nat) (ret : Option FieldType) (na : Nat) : Prop := Cond.methodLink own ix y ∈ Ts ∧ Cond.instanceMethod y ∈ Ts ∧ Cond.selects C y y ∈ Ts ∧ Cond.initialized C ∈ Ts ∧ Cond.code y bytes maxL ret ∈ Ts ∧ y.cls = C ∧ y.cls ≠ "java/lang/invoke/MethodHandle" ∧ y.cls ≠ "java/lang/invoke/VarHandle" ∧ (parseMethodDescriptor y.desc).map (fun d => d.parameters.length) = some na
def gx_lkS (Ts : List Cond) (own : String) (ix : Nat) (y : MethodName) (bytes : ByteArray) (maxL : Nat) (ret : Option FieldType) (na : Nat) : Prop := Cond.methodLink own ix y ∈ Ts ∧ Cond.static y ∈ Ts ∧ Cond.initialized y.cls ∈ Ts ∧ Cond.code y bytes maxL ret ∈ Ts ∧ y.cls ≠ "java/lang/invoke/MethodHandle" ∧ y.cls ≠ "java/lang/invoke/VarHandle" ∧ (parseMethodDescriptor y.desc).map (fun d => d.parameters.length) = some na
/-- the classes and array classes of the claim -/
def gx_std (cl0 : List vw_C) (ty0 : List (ClassId × FieldType)) (cl : List vw_C) (tys : List (ClassId × FieldType)) : Prop := cl = cl0 ∧ tys = ty0
def gx_sub (Us Ts : List Cond) : Prop := ∀ w ∈ Us, w ∈ Ts ∧ ((w.onTables && w.keeps) = true ∨ ∃ ty, w = .arrayClass ty)
theorem gx_good {Us Ts : List Cond} (hs : gx_sub Us Ts) (hc : Cond.code y bytes maxL ret ∈ Ts) (hg : goodWord (Cond.code y bytes maxL ret) = true) : GoodIn Ts (.code y bytes maxL ret :: Us) := fun w h => by
  rcases List.mem_cons.mp h with e | h
  · subst e; exact ⟨hc, good_of_word hg⟩
  · exact hs w h
theorem gx_cw {Us : List Cond} {d' : Nat} (C0 : gx_ok Γ cc own Ts d) (hs : gx_sub Us Ts) (lk : gx_lk Ts own ix C y bytes maxL ret na) (hd : d' < d) (hm : maxL ≤ 21) : CallW (gx_R Γ) (gx_s Γ) (gx_args Γ) own C ix y bytes maxL ret (.code y bytes maxL ret :: Us) (gx_rm d') 0 0 na := by
  obtain ⟨h1, h2, h3, h4, h5, h6, h7, h8, h9⟩ := lk
  have ht := C0.2.2.2.2.1
  refine ⟨callB_of na ht (gx_good hs h5 rfl) rfl rfl rfl (by rw [h6]; exact ht _ h4) (ht _ h1) ⟨h7, h8, h9⟩ ⟨?_, ?_⟩, ht _ h2, ht _ h3⟩
  · have := C0.2.2.2.2.2.2.2.2.1
    simp only [gx_rm]; omega
  · have := C0.2.2.2.2.2.2.2.2.2
    simp only [gx_rm]; omega
theorem gx_cwS {Us : List Cond} {d' : Nat} (C0 : gx_ok Γ cc own Ts d) (hs : gx_sub Us Ts) (lk : gx_lkS Ts own ix y bytes maxL ret na) (hd : d' < d) (hm : maxL ≤ 21) : CallB (gx_R Γ) (gx_s Γ) (gx_args Γ) own ix y bytes maxL ret (.code y bytes maxL ret :: Us) (gx_rm d') 0 0 na ∧ (Cond.static y).before (gx_args Γ) (gx_s Γ) = true := by
  obtain ⟨h1, h2, h4, h5, h7, h8, h9⟩ := lk
  have ht := C0.2.2.2.2.1
  refine ⟨callB_of na ht (gx_good hs h5 rfl) rfl rfl rfl (ht _ h4) (ht _ h1) ⟨h7, h8, h9⟩ ⟨?_, ?_⟩, ht _ h2⟩
  · have := C0.2.2.2.2.2.2.2.2.1
    simp only [gx_rm]; omega
  · have := C0.2.2.2.2.2.2.2.2.2
    simp only [gx_rm]; omega
theorem gc_IV (C0 : gx_ok Γ cc own Ts d) {r1 : Int32} {S1 : gx_S} (hM : gx_mI (gx_l Γ) (gx_D Γ) (gx_cl Γ) (gx_ty Γ) y ws rm (.ref b :: As) w W1 (r1, S1)) (cw : CallW (gx_R Γ) (gx_s Γ) (gx_args Γ) own C ix y bytes maxL ret ws rm 0 0 na) {q ci N : Nat} {T : u_T} {fs : List Value} (hcl : (gx_cl Γ)[ci]? = some (C, T, N)) (he : w[q]? = some (b, .inr (ci, fs))) (hn : As.length = na) (hst : st0 = As.reverse ++ .ref b :: rest) (hW : (rest.map fun v => v.category).sum ≤ 8) (hb : k ≤ (gx_R Γ).cells ∧ n ≤ (gx_R Γ).slots) (hd : decode cc pc = .ok (.invokevirtual ix, 3)) (kk : gx_G Γ k n (pc + 3) V (.int r1 :: rest) (W1 S1)) : gx_G Γ k n pc V st0 w := fun H locs ls hP hD hS hl => by
  have hPa := hP
  have hDa := hD
  have hF := gx_own hDa hS C0.2.2.2.2.2.2.1
  refine va_calli (va_runV (As := As) (rest := rest) ⟨C0.1, C0.2.1, C0.2.2.1, C0.2.2.2.1, C0.2.2.2.2.1⟩ (hM H.size) cw ⟨gx_blind, va_recv C0.2.2.2.2.2.1 hPa hcl he, fun U hU hW => ⟨rfl, by rw [hU], by rw [hU]; exact hPa, va_K.moved hW.alike C0.2.2.2.2.2.1, hDa.weaken (fun _ _ _ _ => trivial)⟩⟩ rfl hn (gx_L_size hl) hst (lv_room hW) hd ⟨hb.1, hb.2⟩) hS (fun q _ z => hF q z) hF (fun r u t H1 locs1 ht hvm hw hB hz1 hk1 hS1 => ?_)
  · obtain ⟨hP1, hK1, hD1⟩ := hB
    rw [ht] at hP1
    cases hw
    exact kk H1 locs1 ls hP1 (hD1.weaken (fun _ _ _ z => hF _ z)) hS1 hl
theorem gc_IVf (C0 : gx_ok Γ cc own Ts d) {r1 : Int32} {S1 : gx_S} (hM : gx_mI (gx_l Γ) (gx_D Γ) (gx_cl Γ) (gx_ty Γ) y ws rm (.ref b :: As) w W1 (r1, S1)) (cw : CallW (gx_R Γ) (gx_s Γ) (gx_args Γ) own C ix y bytes maxL ret ws rm 0 0 na) {q ci N : Nat} {T : u_T} {fs : List Value} (hcl : (gx_cl Γ)[ci]? = some (C, T, N)) (he : w[q]? = some (b, .inr (ci, fs))) (hn : As.length = na) (hst : st0 = As.reverse ++ .ref b :: rest) (hW : (rest.map fun v => v.category).sum ≤ 8) (hb : k ≤ (gx_R Γ).cells ∧ n ≤ (gx_R Γ).slots) (hd : decode cc pc = .ok (.invokevirtual ix, 3)) (kk : gx_G Γ k n (pc + 3) V (.int r1 :: rest) (W1 S1 ++ w2)) : gx_G Γ k n pc V st0 (w ++ w2) := fun H locs ls hP hD hS hl => by
  obtain ⟨hPa, hDa⟩ := gx_left hP hD
  have hF := gx_own hDa hS C0.2.2.2.2.2.2.1
  refine va_calli (va_runV (As := As) (rest := rest) ⟨C0.1, C0.2.1, C0.2.2.1, C0.2.2.2.1, C0.2.2.2.2.1⟩ (hM H.size) cw ⟨gx_blind, va_recv C0.2.2.2.2.2.1 hPa hcl he, fun U hU hW => ⟨rfl, by rw [hU], by rw [hU]; exact hPa, va_K.moved hW.alike C0.2.2.2.2.2.1, hDa.weaken (fun _ _ _ _ => trivial)⟩⟩ rfl hn (gx_L_size hl) hst (lv_room hW) hd ⟨hb.1, hb.2⟩) hS (fun q _ z => hF q z) hF (fun r u t H1 locs1 ht hvm hw hB hz1 hk1 hS1 => ?_)
  · obtain ⟨hP1, hK1, hD1⟩ := hB
    rw [ht] at hP1
    cases hw
    obtain ⟨hP2, hD2⟩ := gx_fr hP hD hk1 hF hP1 hD1
    exact kk H1 locs1 ls hP2 hD2 hS1 hl
theorem gc_IS (C0 : gx_ok Γ cc own Ts d) {r1 : Int32} {S1 : gx_S} (hM : gx_mI (gx_l Γ) (gx_D Γ) (gx_cl Γ) (gx_ty Γ) y ws rm As w W1 (r1, S1)) (cw : CallB (gx_R Γ) (gx_s Γ) (gx_args Γ) own ix y bytes maxL ret ws rm 0 0 na ∧ (Cond.static y).before (gx_args Γ) (gx_s Γ) = true) (hn : As.length = na) (hst : st0 = As.reverse ++ rest) (hW : (rest.map fun v => v.category).sum ≤ 8) (hb : k ≤ (gx_R Γ).cells ∧ n ≤ (gx_R Γ).slots) (hd : decode cc pc = .ok (.invokestatic ix, 3)) (kk : gx_G Γ k n (pc + 3) V (.int r1 :: rest) (W1 S1)) : gx_G Γ k n pc V st0 w := fun H locs ls hP hD hS hl => by
  have hPa := hP
  have hDa := hD
  have hF := gx_own hDa hS C0.2.2.2.2.2.2.1
  refine va_calli (va_runS (As := As) (rest := rest) ⟨C0.1, C0.2.1, C0.2.2.1, C0.2.2.2.1, C0.2.2.2.2.1⟩ (hM H.size) cw ⟨gx_blind, fun U hU hW => ⟨rfl, by rw [hU], by rw [hU]; exact hPa, va_K.moved hW.alike C0.2.2.2.2.2.1, hDa.weaken (fun _ _ _ _ => trivial)⟩⟩ rfl hn (gx_L_size hl) hst (lv_room hW) hd ⟨hb.1, hb.2⟩) hS (fun q _ z => hF q z) hF (fun r u t H1 locs1 ht hvm hw hB hz1 hk1 hS1 => ?_)
  · obtain ⟨hP1, hK1, hD1⟩ := hB
    rw [ht] at hP1
    cases hw
    exact kk H1 locs1 ls hP1 (hD1.weaken (fun _ _ _ z => hF _ z)) hS1 hl
theorem gc_ISf (C0 : gx_ok Γ cc own Ts d) {r1 : Int32} {S1 : gx_S} (hM : gx_mI (gx_l Γ) (gx_D Γ) (gx_cl Γ) (gx_ty Γ) y ws rm As w W1 (r1, S1)) (cw : CallB (gx_R Γ) (gx_s Γ) (gx_args Γ) own ix y bytes maxL ret ws rm 0 0 na ∧ (Cond.static y).before (gx_args Γ) (gx_s Γ) = true) (hn : As.length = na) (hst : st0 = As.reverse ++ rest) (hW : (rest.map fun v => v.category).sum ≤ 8) (hb : k ≤ (gx_R Γ).cells ∧ n ≤ (gx_R Γ).slots) (hd : decode cc pc = .ok (.invokestatic ix, 3)) (kk : gx_G Γ k n (pc + 3) V (.int r1 :: rest) (W1 S1 ++ w2)) : gx_G Γ k n pc V st0 (w ++ w2) := fun H locs ls hP hD hS hl => by
  obtain ⟨hPa, hDa⟩ := gx_left hP hD
  have hF := gx_own hDa hS C0.2.2.2.2.2.2.1
  refine va_calli (va_runS (As := As) (rest := rest) ⟨C0.1, C0.2.1, C0.2.2.1, C0.2.2.2.1, C0.2.2.2.2.1⟩ (hM H.size) cw ⟨gx_blind, fun U hU hW => ⟨rfl, by rw [hU], by rw [hU]; exact hPa, va_K.moved hW.alike C0.2.2.2.2.2.1, hDa.weaken (fun _ _ _ _ => trivial)⟩⟩ rfl hn (gx_L_size hl) hst (lv_room hW) hd ⟨hb.1, hb.2⟩) hS (fun q _ z => hF q z) hF (fun r u t H1 locs1 ht hvm hw hB hz1 hk1 hS1 => ?_)
  · obtain ⟨hP1, hK1, hD1⟩ := hB
    rw [ht] at hP1
    cases hw
    obtain ⟨hP2, hD2⟩ := gx_fr hP hD hk1 hF hP1 hD1
    exact kk H1 locs1 ls hP2 hD2 hS1 hl
theorem gc_LV (C0 : gx_ok Γ cc own Ts d) {r1 : Int64} {S1 : gx_S} (hM : gx_mL (gx_l Γ) (gx_D Γ) (gx_cl Γ) (gx_ty Γ) y ws rm (.ref b :: As) w W1 (r1, S1)) (cw : CallW (gx_R Γ) (gx_s Γ) (gx_args Γ) own C ix y bytes maxL ret ws rm 0 0 na) {q ci N : Nat} {T : u_T} {fs : List Value} (hcl : (gx_cl Γ)[ci]? = some (C, T, N)) (he : w[q]? = some (b, .inr (ci, fs))) (hn : As.length = na) (hst : st0 = As.reverse ++ .ref b :: rest) (hW : (rest.map fun v => v.category).sum ≤ 8) (hb : k ≤ (gx_R Γ).cells ∧ n ≤ (gx_R Γ).slots) (hd : decode cc pc = .ok (.invokevirtual ix, 3)) (kk : gx_G Γ k n (pc + 3) V (.long r1 :: rest) (W1 S1)) : gx_G Γ k n pc V st0 w := fun H locs ls hP hD hS hl => by
  have hPa := hP
  have hDa := hD
  have hF := gx_own hDa hS C0.2.2.2.2.2.2.1
  refine va_calll (va_runV (As := As) (rest := rest) ⟨C0.1, C0.2.1, C0.2.2.1, C0.2.2.2.1, C0.2.2.2.2.1⟩ (hM H.size) cw ⟨gx_blind, va_recv C0.2.2.2.2.2.1 hPa hcl he, fun U hU hW => ⟨rfl, by rw [hU], by rw [hU]; exact hPa, va_K.moved hW.alike C0.2.2.2.2.2.1, hDa.weaken (fun _ _ _ _ => trivial)⟩⟩ rfl hn (gx_L_size hl) hst (lv_room hW) hd ⟨hb.1, hb.2⟩) hS (fun q _ z => hF q z) hF (fun r u t H1 locs1 ht hvm hw hB hz1 hk1 hS1 => ?_)
  · obtain ⟨hP1, hK1, hD1⟩ := hB
    rw [ht] at hP1
    cases hw
    exact kk H1 locs1 ls hP1 (hD1.weaken (fun _ _ _ z => hF _ z)) hS1 hl
theorem gc_LVf (C0 : gx_ok Γ cc own Ts d) {r1 : Int64} {S1 : gx_S} (hM : gx_mL (gx_l Γ) (gx_D Γ) (gx_cl Γ) (gx_ty Γ) y ws rm (.ref b :: As) w W1 (r1, S1)) (cw : CallW (gx_R Γ) (gx_s Γ) (gx_args Γ) own C ix y bytes maxL ret ws rm 0 0 na) {q ci N : Nat} {T : u_T} {fs : List Value} (hcl : (gx_cl Γ)[ci]? = some (C, T, N)) (he : w[q]? = some (b, .inr (ci, fs))) (hn : As.length = na) (hst : st0 = As.reverse ++ .ref b :: rest) (hW : (rest.map fun v => v.category).sum ≤ 8) (hb : k ≤ (gx_R Γ).cells ∧ n ≤ (gx_R Γ).slots) (hd : decode cc pc = .ok (.invokevirtual ix, 3)) (kk : gx_G Γ k n (pc + 3) V (.long r1 :: rest) (W1 S1 ++ w2)) : gx_G Γ k n pc V st0 (w ++ w2) := fun H locs ls hP hD hS hl => by
  obtain ⟨hPa, hDa⟩ := gx_left hP hD
  have hF := gx_own hDa hS C0.2.2.2.2.2.2.1
  refine va_calll (va_runV (As := As) (rest := rest) ⟨C0.1, C0.2.1, C0.2.2.1, C0.2.2.2.1, C0.2.2.2.2.1⟩ (hM H.size) cw ⟨gx_blind, va_recv C0.2.2.2.2.2.1 hPa hcl he, fun U hU hW => ⟨rfl, by rw [hU], by rw [hU]; exact hPa, va_K.moved hW.alike C0.2.2.2.2.2.1, hDa.weaken (fun _ _ _ _ => trivial)⟩⟩ rfl hn (gx_L_size hl) hst (lv_room hW) hd ⟨hb.1, hb.2⟩) hS (fun q _ z => hF q z) hF (fun r u t H1 locs1 ht hvm hw hB hz1 hk1 hS1 => ?_)
  · obtain ⟨hP1, hK1, hD1⟩ := hB
    rw [ht] at hP1
    cases hw
    obtain ⟨hP2, hD2⟩ := gx_fr hP hD hk1 hF hP1 hD1
    exact kk H1 locs1 ls hP2 hD2 hS1 hl
theorem gc_LS (C0 : gx_ok Γ cc own Ts d) {r1 : Int64} {S1 : gx_S} (hM : gx_mL (gx_l Γ) (gx_D Γ) (gx_cl Γ) (gx_ty Γ) y ws rm As w W1 (r1, S1)) (cw : CallB (gx_R Γ) (gx_s Γ) (gx_args Γ) own ix y bytes maxL ret ws rm 0 0 na ∧ (Cond.static y).before (gx_args Γ) (gx_s Γ) = true) (hn : As.length = na) (hst : st0 = As.reverse ++ rest) (hW : (rest.map fun v => v.category).sum ≤ 8) (hb : k ≤ (gx_R Γ).cells ∧ n ≤ (gx_R Γ).slots) (hd : decode cc pc = .ok (.invokestatic ix, 3)) (kk : gx_G Γ k n (pc + 3) V (.long r1 :: rest) (W1 S1)) : gx_G Γ k n pc V st0 w := fun H locs ls hP hD hS hl => by
  have hPa := hP
  have hDa := hD
  have hF := gx_own hDa hS C0.2.2.2.2.2.2.1
  refine va_calll (va_runS (As := As) (rest := rest) ⟨C0.1, C0.2.1, C0.2.2.1, C0.2.2.2.1, C0.2.2.2.2.1⟩ (hM H.size) cw ⟨gx_blind, fun U hU hW => ⟨rfl, by rw [hU], by rw [hU]; exact hPa, va_K.moved hW.alike C0.2.2.2.2.2.1, hDa.weaken (fun _ _ _ _ => trivial)⟩⟩ rfl hn (gx_L_size hl) hst (lv_room hW) hd ⟨hb.1, hb.2⟩) hS (fun q _ z => hF q z) hF (fun r u t H1 locs1 ht hvm hw hB hz1 hk1 hS1 => ?_)
  · obtain ⟨hP1, hK1, hD1⟩ := hB
    rw [ht] at hP1
    cases hw
    exact kk H1 locs1 ls hP1 (hD1.weaken (fun _ _ _ z => hF _ z)) hS1 hl
theorem gc_LSf (C0 : gx_ok Γ cc own Ts d) {r1 : Int64} {S1 : gx_S} (hM : gx_mL (gx_l Γ) (gx_D Γ) (gx_cl Γ) (gx_ty Γ) y ws rm As w W1 (r1, S1)) (cw : CallB (gx_R Γ) (gx_s Γ) (gx_args Γ) own ix y bytes maxL ret ws rm 0 0 na ∧ (Cond.static y).before (gx_args Γ) (gx_s Γ) = true) (hn : As.length = na) (hst : st0 = As.reverse ++ rest) (hW : (rest.map fun v => v.category).sum ≤ 8) (hb : k ≤ (gx_R Γ).cells ∧ n ≤ (gx_R Γ).slots) (hd : decode cc pc = .ok (.invokestatic ix, 3)) (kk : gx_G Γ k n (pc + 3) V (.long r1 :: rest) (W1 S1 ++ w2)) : gx_G Γ k n pc V st0 (w ++ w2) := fun H locs ls hP hD hS hl => by
  obtain ⟨hPa, hDa⟩ := gx_left hP hD
  have hF := gx_own hDa hS C0.2.2.2.2.2.2.1
  refine va_calll (va_runS (As := As) (rest := rest) ⟨C0.1, C0.2.1, C0.2.2.1, C0.2.2.2.1, C0.2.2.2.2.1⟩ (hM H.size) cw ⟨gx_blind, fun U hU hW => ⟨rfl, by rw [hU], by rw [hU]; exact hPa, va_K.moved hW.alike C0.2.2.2.2.2.1, hDa.weaken (fun _ _ _ _ => trivial)⟩⟩ rfl hn (gx_L_size hl) hst (lv_room hW) hd ⟨hb.1, hb.2⟩) hS (fun q _ z => hF q z) hF (fun r u t H1 locs1 ht hvm hw hB hz1 hk1 hS1 => ?_)
  · obtain ⟨hP1, hK1, hD1⟩ := hB
    rw [ht] at hP1
    cases hw
    obtain ⟨hP2, hD2⟩ := gx_fr hP hD hk1 hF hP1 hD1
    exact kk H1 locs1 ls hP2 hD2 hS1 hl
theorem gc_VV (C0 : gx_ok Γ cc own Ts d) {o : gx_S} (hM : gx_mV (gx_l Γ) (gx_D Γ) (gx_cl Γ) (gx_ty Γ) y ws rm (.ref b :: As) w W1 o) (cw : CallW (gx_R Γ) (gx_s Γ) (gx_args Γ) own C ix y bytes maxL ret ws rm 0 0 na) {q ci N : Nat} {T : u_T} {fs : List Value} (hcl : (gx_cl Γ)[ci]? = some (C, T, N)) (he : w[q]? = some (b, .inr (ci, fs))) (hn : As.length = na) (hst : st0 = As.reverse ++ .ref b :: rest) (hW : (rest.map fun v => v.category).sum ≤ 8) (hb : k ≤ (gx_R Γ).cells ∧ n ≤ (gx_R Γ).slots) (hd : decode cc pc = .ok (.invokevirtual ix, 3)) (kk : gx_G Γ k n (pc + 3) V (rest) (W1 o)) : gx_G Γ k n pc V st0 w := fun H locs ls hP hD hS hl => by
  have hPa := hP
  have hDa := hD
  have hF := gx_own hDa hS C0.2.2.2.2.2.2.1
  refine va_callv (va_runV (As := As) (rest := rest) ⟨C0.1, C0.2.1, C0.2.2.1, C0.2.2.2.1, C0.2.2.2.2.1⟩ (hM H.size) cw ⟨gx_blind, va_recv C0.2.2.2.2.2.1 hPa hcl he, fun U hU hW => ⟨rfl, by rw [hU], by rw [hU]; exact hPa, va_K.moved hW.alike C0.2.2.2.2.2.1, hDa.weaken (fun _ _ _ _ => trivial)⟩⟩ rfl hn (gx_L_size hl) hst (lv_room hW) hd ⟨hb.1, hb.2⟩) hS (fun q _ z => hF q z) hF (fun u t H1 locs1 ht hvm hw hB hz1 hk1 hS1 => ?_)
  · obtain ⟨hP1, hK1, hD1⟩ := hB
    rw [ht] at hP1
    subst hw
    exact kk H1 locs1 ls hP1 (hD1.weaken (fun _ _ _ z => hF _ z)) hS1 hl
theorem gc_VVf (C0 : gx_ok Γ cc own Ts d) {o : gx_S} (hM : gx_mV (gx_l Γ) (gx_D Γ) (gx_cl Γ) (gx_ty Γ) y ws rm (.ref b :: As) w W1 o) (cw : CallW (gx_R Γ) (gx_s Γ) (gx_args Γ) own C ix y bytes maxL ret ws rm 0 0 na) {q ci N : Nat} {T : u_T} {fs : List Value} (hcl : (gx_cl Γ)[ci]? = some (C, T, N)) (he : w[q]? = some (b, .inr (ci, fs))) (hn : As.length = na) (hst : st0 = As.reverse ++ .ref b :: rest) (hW : (rest.map fun v => v.category).sum ≤ 8) (hb : k ≤ (gx_R Γ).cells ∧ n ≤ (gx_R Γ).slots) (hd : decode cc pc = .ok (.invokevirtual ix, 3)) (kk : gx_G Γ k n (pc + 3) V (rest) (W1 o ++ w2)) : gx_G Γ k n pc V st0 (w ++ w2) := fun H locs ls hP hD hS hl => by
  obtain ⟨hPa, hDa⟩ := gx_left hP hD
  have hF := gx_own hDa hS C0.2.2.2.2.2.2.1
  refine va_callv (va_runV (As := As) (rest := rest) ⟨C0.1, C0.2.1, C0.2.2.1, C0.2.2.2.1, C0.2.2.2.2.1⟩ (hM H.size) cw ⟨gx_blind, va_recv C0.2.2.2.2.2.1 hPa hcl he, fun U hU hW => ⟨rfl, by rw [hU], by rw [hU]; exact hPa, va_K.moved hW.alike C0.2.2.2.2.2.1, hDa.weaken (fun _ _ _ _ => trivial)⟩⟩ rfl hn (gx_L_size hl) hst (lv_room hW) hd ⟨hb.1, hb.2⟩) hS (fun q _ z => hF q z) hF (fun u t H1 locs1 ht hvm hw hB hz1 hk1 hS1 => ?_)
  · obtain ⟨hP1, hK1, hD1⟩ := hB
    rw [ht] at hP1
    subst hw
    obtain ⟨hP2, hD2⟩ := gx_fr hP hD hk1 hF hP1 hD1
    exact kk H1 locs1 ls hP2 hD2 hS1 hl
theorem gc_VS (C0 : gx_ok Γ cc own Ts d) {o : gx_S} (hM : gx_mV (gx_l Γ) (gx_D Γ) (gx_cl Γ) (gx_ty Γ) y ws rm As w W1 o) (cw : CallB (gx_R Γ) (gx_s Γ) (gx_args Γ) own ix y bytes maxL ret ws rm 0 0 na ∧ (Cond.static y).before (gx_args Γ) (gx_s Γ) = true) (hn : As.length = na) (hst : st0 = As.reverse ++ rest) (hW : (rest.map fun v => v.category).sum ≤ 8) (hb : k ≤ (gx_R Γ).cells ∧ n ≤ (gx_R Γ).slots) (hd : decode cc pc = .ok (.invokestatic ix, 3)) (kk : gx_G Γ k n (pc + 3) V (rest) (W1 o)) : gx_G Γ k n pc V st0 w := fun H locs ls hP hD hS hl => by
  have hPa := hP
  have hDa := hD
  have hF := gx_own hDa hS C0.2.2.2.2.2.2.1
  refine va_callv (va_runS (As := As) (rest := rest) ⟨C0.1, C0.2.1, C0.2.2.1, C0.2.2.2.1, C0.2.2.2.2.1⟩ (hM H.size) cw ⟨gx_blind, fun U hU hW => ⟨rfl, by rw [hU], by rw [hU]; exact hPa, va_K.moved hW.alike C0.2.2.2.2.2.1, hDa.weaken (fun _ _ _ _ => trivial)⟩⟩ rfl hn (gx_L_size hl) hst (lv_room hW) hd ⟨hb.1, hb.2⟩) hS (fun q _ z => hF q z) hF (fun u t H1 locs1 ht hvm hw hB hz1 hk1 hS1 => ?_)
  · obtain ⟨hP1, hK1, hD1⟩ := hB
    rw [ht] at hP1
    subst hw
    exact kk H1 locs1 ls hP1 (hD1.weaken (fun _ _ _ z => hF _ z)) hS1 hl
theorem gc_VSf (C0 : gx_ok Γ cc own Ts d) {o : gx_S} (hM : gx_mV (gx_l Γ) (gx_D Γ) (gx_cl Γ) (gx_ty Γ) y ws rm As w W1 o) (cw : CallB (gx_R Γ) (gx_s Γ) (gx_args Γ) own ix y bytes maxL ret ws rm 0 0 na ∧ (Cond.static y).before (gx_args Γ) (gx_s Γ) = true) (hn : As.length = na) (hst : st0 = As.reverse ++ rest) (hW : (rest.map fun v => v.category).sum ≤ 8) (hb : k ≤ (gx_R Γ).cells ∧ n ≤ (gx_R Γ).slots) (hd : decode cc pc = .ok (.invokestatic ix, 3)) (kk : gx_G Γ k n (pc + 3) V (rest) (W1 o ++ w2)) : gx_G Γ k n pc V st0 (w ++ w2) := fun H locs ls hP hD hS hl => by
  obtain ⟨hPa, hDa⟩ := gx_left hP hD
  have hF := gx_own hDa hS C0.2.2.2.2.2.2.1
  refine va_callv (va_runS (As := As) (rest := rest) ⟨C0.1, C0.2.1, C0.2.2.1, C0.2.2.2.1, C0.2.2.2.2.1⟩ (hM H.size) cw ⟨gx_blind, fun U hU hW => ⟨rfl, by rw [hU], by rw [hU]; exact hPa, va_K.moved hW.alike C0.2.2.2.2.2.1, hDa.weaken (fun _ _ _ _ => trivial)⟩⟩ rfl hn (gx_L_size hl) hst (lv_room hW) hd ⟨hb.1, hb.2⟩) hS (fun q _ z => hF q z) hF (fun u t H1 locs1 ht hvm hw hB hz1 hk1 hS1 => ?_)
  · obtain ⟨hP1, hK1, hD1⟩ := hB
    rw [ht] at hP1
    subst hw
    obtain ⟨hP2, hD2⟩ := gx_fr hP hD hk1 hF hP1 hD1
    exact kk H1 locs1 ls hP2 hD2 hS1 hl
end GC
/-! a method's start and its ends -/
def gx_finI (Γ : gx_T) (ret : Option FieldType) (W1 : gx_S → va_W) (o : Int32 × gx_S) : Prop := ∃ w0 : va_W, gx_A Γ = va_A w0 (gx_s Γ).heap.size ∧ gx_H0 Γ = (gx_s Γ).heap ∧ (gx_meth Γ).sig.returnType = ret ∧ gx_Q Γ = MQ (gx_below Γ) (va_Qi (fun r S' => (r, S') = o) (gx_B (gx_D Γ) (gx_cl Γ) (gx_ty Γ) w0 W1 (gx_s Γ).heap.size) (va_A w0 (gx_s Γ).heap.size)) (gx_args Γ) (gx_s Γ) 0 0 (va_A w0 (gx_s Γ).heap.size)
theorem gx_startI {l : Launch} {D : va_G} {cl : List vw_C} {tys : List (ClassId × FieldType)} {y : MethodName} {b : ByteArray} {maxL : Nat} {ret : Option FieldType} {Us : List Cond} {d : Nat} {av V : List Value} {w0 : va_W} {W1 : gx_S → va_W} {o : Int32 × gx_S} (kn : Nat) (hy : plainName y.cls = true) (hlen : (lg_sl av).length ≤ maxL) (hV : gx_V av ++ List.replicate kn .null = V) (body : ∀ Γ : gx_T, gx_l Γ = l → gx_D Γ = D → gx_cl Γ = cl → gx_ty Γ = tys → gx_nL Γ = maxL → gx_ok Γ b y.cls Us d → gx_finI Γ ret W1 o → gx_G Γ 0 0 0 V [] w0) : gx_mI l D cl tys y (.code y b maxL ret :: Us) (gx_rm d) av w0 W1 o := by
  intro sz
  refine Met.ofW (cc := b) (maxL := maxL) (ret := ret) hy rfl ?_
  intro p e s m args below meth c s₁ B hml hv
  obtain ⟨rfl, hsz, hP, hK, hD0⟩ := hv
  subst hsz
  subst hV
  have hts := atoms_spec (ws := .code y b maxL ret :: Us) B.pre
  have hl := lv_entry av (n := maxL) hlen
  rw [lg_entry_eq]
  exact body ((p, l, e, (headSpec (.code y b maxL ret :: Us) (gx_rm d)).room, s, m, av.toArray, below, meth, c), (D, cl, tys), va_A w0 s.heap.size, s.heap, MQ below (va_Qi (fun r S' => (r, S') = o) (gx_B D cl tys w0 W1 s.heap.size) (va_A w0 s.heap.size)) av.toArray s 0 0 (va_A w0 s.heap.size), maxL) rfl rfl rfl rfl rfl
    ⟨B.exec, B.bytes, hml, findClass_of_methodNamed B.named, fun w hw => hts w (List.mem_cons_of_mem _ hw), hK, fun q h => Or.inr h, B.notSynchronized, Nat.le_refl _, Nat.le_refl _⟩ ⟨w0, rfl, rfl, B.returns, rfl⟩ s.heap [] _ hP hD0.self va_S.rf (gx_L_pad hl kn)
def gx_finL (Γ : gx_T) (ret : Option FieldType) (W1 : gx_S → va_W) (o : Int64 × gx_S) : Prop := ∃ w0 : va_W, gx_A Γ = va_A w0 (gx_s Γ).heap.size ∧ gx_H0 Γ = (gx_s Γ).heap ∧ (gx_meth Γ).sig.returnType = ret ∧ gx_Q Γ = MQ (gx_below Γ) (va_Ql (fun r S' => (r, S') = o) (gx_B (gx_D Γ) (gx_cl Γ) (gx_ty Γ) w0 W1 (gx_s Γ).heap.size) (va_A w0 (gx_s Γ).heap.size)) (gx_args Γ) (gx_s Γ) 0 0 (va_A w0 (gx_s Γ).heap.size)
theorem gx_startL {l : Launch} {D : va_G} {cl : List vw_C} {tys : List (ClassId × FieldType)} {y : MethodName} {b : ByteArray} {maxL : Nat} {ret : Option FieldType} {Us : List Cond} {d : Nat} {av V : List Value} {w0 : va_W} {W1 : gx_S → va_W} {o : Int64 × gx_S} (kn : Nat) (hy : plainName y.cls = true) (hlen : (lg_sl av).length ≤ maxL) (hV : gx_V av ++ List.replicate kn .null = V) (body : ∀ Γ : gx_T, gx_l Γ = l → gx_D Γ = D → gx_cl Γ = cl → gx_ty Γ = tys → gx_nL Γ = maxL → gx_ok Γ b y.cls Us d → gx_finL Γ ret W1 o → gx_G Γ 0 0 0 V [] w0) : gx_mL l D cl tys y (.code y b maxL ret :: Us) (gx_rm d) av w0 W1 o := by
  intro sz
  refine Met.ofW (cc := b) (maxL := maxL) (ret := ret) hy rfl ?_
  intro p e s m args below meth c s₁ B hml hv
  obtain ⟨rfl, hsz, hP, hK, hD0⟩ := hv
  subst hsz
  subst hV
  have hts := atoms_spec (ws := .code y b maxL ret :: Us) B.pre
  have hl := lv_entry av (n := maxL) hlen
  rw [lg_entry_eq]
  exact body ((p, l, e, (headSpec (.code y b maxL ret :: Us) (gx_rm d)).room, s, m, av.toArray, below, meth, c), (D, cl, tys), va_A w0 s.heap.size, s.heap, MQ below (va_Ql (fun r S' => (r, S') = o) (gx_B D cl tys w0 W1 s.heap.size) (va_A w0 s.heap.size)) av.toArray s 0 0 (va_A w0 s.heap.size), maxL) rfl rfl rfl rfl rfl
    ⟨B.exec, B.bytes, hml, findClass_of_methodNamed B.named, fun w hw => hts w (List.mem_cons_of_mem _ hw), hK, fun q h => Or.inr h, B.notSynchronized, Nat.le_refl _, Nat.le_refl _⟩ ⟨w0, rfl, rfl, B.returns, rfl⟩ s.heap [] _ hP hD0.self va_S.rf (gx_L_pad hl kn)
def gx_finV (Γ : gx_T) (ret : Option FieldType) (W1 : gx_S → va_W) (o : gx_S) : Prop := ∃ w0 : va_W, gx_A Γ = va_A w0 (gx_s Γ).heap.size ∧ gx_H0 Γ = (gx_s Γ).heap ∧ (gx_meth Γ).sig.returnType = ret ∧ gx_Q Γ = MQ (gx_below Γ) (va_Qv (fun S' => S' = o) (gx_B (gx_D Γ) (gx_cl Γ) (gx_ty Γ) w0 W1 (gx_s Γ).heap.size) (va_A w0 (gx_s Γ).heap.size)) (gx_args Γ) (gx_s Γ) 0 0 (va_A w0 (gx_s Γ).heap.size)
theorem gx_startV {l : Launch} {D : va_G} {cl : List vw_C} {tys : List (ClassId × FieldType)} {y : MethodName} {b : ByteArray} {maxL : Nat} {ret : Option FieldType} {Us : List Cond} {d : Nat} {av V : List Value} {w0 : va_W} {W1 : gx_S → va_W} {o : gx_S} (kn : Nat) (hy : plainName y.cls = true) (hlen : (lg_sl av).length ≤ maxL) (hV : gx_V av ++ List.replicate kn .null = V) (body : ∀ Γ : gx_T, gx_l Γ = l → gx_D Γ = D → gx_cl Γ = cl → gx_ty Γ = tys → gx_nL Γ = maxL → gx_ok Γ b y.cls Us d → gx_finV Γ ret W1 o → gx_G Γ 0 0 0 V [] w0) : gx_mV l D cl tys y (.code y b maxL ret :: Us) (gx_rm d) av w0 W1 o := by
  intro sz
  refine Met.ofW (cc := b) (maxL := maxL) (ret := ret) hy rfl ?_
  intro p e s m args below meth c s₁ B hml hv
  obtain ⟨rfl, hsz, hP, hK, hD0⟩ := hv
  subst hsz
  subst hV
  have hts := atoms_spec (ws := .code y b maxL ret :: Us) B.pre
  have hl := lv_entry av (n := maxL) hlen
  rw [lg_entry_eq]
  exact body ((p, l, e, (headSpec (.code y b maxL ret :: Us) (gx_rm d)).room, s, m, av.toArray, below, meth, c), (D, cl, tys), va_A w0 s.heap.size, s.heap, MQ below (va_Qv (fun S' => S' = o) (gx_B D cl tys w0 W1 s.heap.size) (va_A w0 s.heap.size)) av.toArray s 0 0 (va_A w0 s.heap.size), maxL) rfl rfl rfl rfl rfl
    ⟨B.exec, B.bytes, hml, findClass_of_methodNamed B.named, fun w hw => hts w (List.mem_cons_of_mem _ hw), hK, fun q h => Or.inr h, B.notSynchronized, Nat.le_refl _, Nat.le_refl _⟩ ⟨w0, rfl, rfl, B.returns, rfl⟩ s.heap [] _ hP hD0.self va_S.rf (gx_L_pad hl kn)
theorem gx_iret {Γ : gx_T} {cc : ByteArray} {own : String} {Ts : List Cond} {d pc : Nat} {V : List Value} {W1 : gx_S → va_W} {S : gx_S} {o : Int32 × gx_S} {v : Int32} {ty : FieldType} (C : gx_ok Γ cc own Ts d) (F : gx_finI Γ (some ty) W1 o) (hn : narrow ty (.int v) = .int v) (hd : decode cc pc = .ok (.ireturn, 1)) (e : (v, S) = o) : gx_G Γ 0 0 pc V [.int v] (W1 S) := by
  obtain ⟨w0, hA, hH, hr, hQ⟩ := F
  intro H locs ls hP hD hS hl
  rw [hA] at hD hS
  rw [hH] at hS
  unfold gx_W
  rw [hQ]
  exact W.zret C.1 C.2.1 hr hn (fun t ht hW => ⟨⟨v, S, rfl, e, by rw [ht]; exact hP, va_K.moved hW.alike C.2.2.2.2.2.1, hD⟩, hS.F ht⟩) hS.2.2 hd C.2.2.2.2.2.2.2.1
theorem gx_lret {Γ : gx_T} {cc : ByteArray} {own : String} {Ts : List Cond} {d pc : Nat} {V : List Value} {W1 : gx_S → va_W} {S : gx_S} {o : Int64 × gx_S} {v : Int64} (C : gx_ok Γ cc own Ts d) (F : gx_finL Γ (some .long) W1 o) (hd : decode cc pc = .ok (.lreturn, 1)) (e : (v, S) = o) : gx_G Γ 0 0 pc V [.long v] (W1 S) := by
  obtain ⟨w0, hA, hH, hr, hQ⟩ := F
  intro H locs ls hP hD hS hl
  rw [hA] at hD hS
  rw [hH] at hS
  unfold gx_W
  rw [hQ]
  exact W.lret C.1 C.2.1 hr (fun t ht hW => ⟨⟨v, S, rfl, e, by rw [ht]; exact hP, va_K.moved hW.alike C.2.2.2.2.2.1, hD⟩, hS.F ht⟩) hS.2.2 hd C.2.2.2.2.2.2.2.1
theorem gx_vret {Γ : gx_T} {cc : ByteArray} {own : String} {Ts : List Cond} {d pc : Nat} {V : List Value} {W1 : gx_S → va_W} {S : gx_S} {o : gx_S} (C : gx_ok Γ cc own Ts d) (F : gx_finV Γ none W1 o) (hd : decode cc pc = .ok (.return_, 1)) (e : S = o) : gx_G Γ 0 0 pc V [] (W1 S) := by
  obtain ⟨w0, hA, hH, hr, hQ⟩ := F
  intro H locs ls hP hD hS hl
  rw [hA] at hD hS
  rw [hH] at hS
  unfold gx_W
  rw [hQ]
  exact W.vret C.1 C.2.1 hr (fun t ht hW => ⟨⟨S, rfl, e, by rw [ht]; exact hP, va_K.moved hW.alike C.2.2.2.2.2.1, hD⟩, hS.F ht⟩) hS.2.2 hd C.2.2.2.2.2.2.2.1
/-! pure models: what fails is none -/
def gx_rd {R : Type} (f : Nat → Int32) (N : Nat) (i : Int32) (k : Int32 → Option R) : Option R := if i < 0 ∨ N ≤ i.toNatClampNeg then none else k (f i.toNatClampNeg)
/-- an index in its row -/
def gx_ck {R : Type} (N : Nat) (i : Int32) (k : Option R) : Option R := if i < 0 ∨ N ≤ i.toNatClampNeg then none else k
def gx_nz {R : Type} (y : Int32) (k : Option R) : Option R := if y = 0 then none else k
/-- a boolean, a char -/
def gx_bz {R : Type} (y : Int32) (k : Option R) : Option R := if y = 0 ∨ y = 1 then k else none
def gx_bc {R : Type} (y : Int32) (k : Option R) : Option R := if y.toUInt32.toUInt16.toUInt32.toInt32 = y then k else none
/-- a call that leaves the state; one that changes it -/
def gx_cp {A R : Type} (o : Option A) (k : A → Option R) : Option R := match o with
  | some v => k v
  | none => none
def gx_cs {A R : Type} (o : Option (A × gx_S)) (k : A → gx_S → Option R) : Option R := match o with
  | some v => k v.1 v.2
  | none => none
def gx_let {R : Type} (v : gx_S) (k : gx_S → Option R) : Option R := k v
def gx_loop {L R : Type} (body : L → (L → Option R) → Option R) : Nat → L → Option R
  | 0, _ => none
  | n + 1, t => body t (gx_loop body n)
theorem gi_rd {R : Type} {f : Nat → Int32} {N : Nat} {i : Int32} {k : Int32 → Option R} {o : R} (h : gx_rd f N i k = some o) : vp_in i N ∧ k (f i.toNatClampNeg) = some o := by
  unfold gx_rd at h
  split at h
  · cases h
  · exact ⟨by assumption, h⟩
theorem gi_ck {R : Type} {N : Nat} {i : Int32} {k : Option R} {o : R} (h : gx_ck N i k = some o) : vp_in i N ∧ k = some o := by
  unfold gx_ck at h
  split at h
  · cases h
  · exact ⟨by assumption, h⟩
theorem gi_nz {R : Type} {y : Int32} {k : Option R} {o : R} (h : gx_nz y k = some o) : ¬ y = 0 ∧ k = some o := by
  unfold gx_nz at h
  split at h
  · cases h
  · exact ⟨by assumption, h⟩
theorem gi_bz {R : Type} {y : Int32} {k : Option R} {o : R} (h : gx_bz y k = some o) : (narrow .boolean (.int y) = .int y ∧ fits .boolean (.int y) = true) ∧ k = some o := by
  unfold gx_bz at h
  split at h
  · rename_i hy
    rcases hy with rfl | rfl
    · exact ⟨⟨by decide, by decide⟩, h⟩
    · exact ⟨⟨by decide, by decide⟩, h⟩
  · cases h
theorem gi_bc {R : Type} {y : Int32} {k : Option R} {o : R} (h : gx_bc y k = some o) : narrow .char (.int y) = .int y ∧ k = some o := by
  unfold gx_bc at h
  split at h
  · rename_i hy
    exact ⟨by show Value.int _ = _; rw [hy], h⟩
  · cases h
theorem gi_let {R : Type} {v : gx_S} {k : gx_S → Option R} {o : R} (h : gx_let v k = some o) : ∃ w, w = v ∧ k w = some o := ⟨v, rfl, h⟩
theorem gi_cp {A R : Type} {o : Option A} {k : A → Option R} {z : R} (h : gx_cp o k = some z) : ∃ v, o = some v ∧ k v = some z := by
  cases o with
  | none => cases h
  | some v => exact ⟨v, rfl, h⟩
theorem gi_cs {A R : Type} {o : Option (A × gx_S)} {k : A → gx_S → Option R} {z : R} (h : gx_cs o k = some z) : ∃ v S', o = some (v, S') ∧ k v S' = some z := by
  cases o with
  | none => cases h
  | some v => exact ⟨v.1, v.2, rfl, h⟩
theorem gi_t {R : Type} {c : Prop} {inst : Decidable c} {A B : Option R} {o : R} (hc : c) (h : (if c then A else B) = some o) : A = some o := by rwa [if_pos hc] at h
theorem gi_f {R : Type} {c : Prop} {inst : Decidable c} {A B : Option R} {o : R} (hc : ¬ c) (h : (if c then A else B) = some o) : B = some o := by rwa [if_neg hc] at h
theorem gi_loop {L R : Type} {body : L → (L → Option R) → Option R} {P : L → Prop} {o : R} (hb : ∀ (kk : L → Option R) (t : L), (∀ t', kk t' = some o → P t') → body t kk = some o → P t) : ∀ (n : Nat) (t : L), gx_loop body n t = some o → P t
  | 0, t, h => by cases h
  | n + 1, t, h => hb (gx_loop body n) t (fun t' h' => gi_loop hb n t' h') h


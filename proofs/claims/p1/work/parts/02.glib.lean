/-! G-layer: 'gx_G Γ k n pc V st ws': from every heap that holds the world ws, with locals V and operand stack st, the machine at pc comes to Γ's goal -/
abbrev gx_T : Type := (Program × Launch × Env × Room × State × MethodId × Array Value × List Frame × Method × Code) × (va_G × List vw_C × List (ClassId × FieldType)) × (Nat → Prop) × Heap × (State → Prop) × Nat
abbrev gx_p (Γ : gx_T) : Program := Γ.1.1
abbrev gx_l (Γ : gx_T) : Launch := Γ.1.2.1
abbrev gx_e (Γ : gx_T) : Env := Γ.1.2.2.1
abbrev gx_R (Γ : gx_T) : Room := Γ.1.2.2.2.1
abbrev gx_s (Γ : gx_T) : State := Γ.1.2.2.2.2.1
abbrev gx_m (Γ : gx_T) : MethodId := Γ.1.2.2.2.2.2.1
abbrev gx_args (Γ : gx_T) : Array Value := Γ.1.2.2.2.2.2.2.1
abbrev gx_below (Γ : gx_T) : List Frame := Γ.1.2.2.2.2.2.2.2.1
abbrev gx_meth (Γ : gx_T) : Method := Γ.1.2.2.2.2.2.2.2.2.1
abbrev gx_c (Γ : gx_T) : Code := Γ.1.2.2.2.2.2.2.2.2.2
abbrev gx_D (Γ : gx_T) : va_G := Γ.2.1.1
abbrev gx_cl (Γ : gx_T) : List vw_C := Γ.2.1.2.1
abbrev gx_ty (Γ : gx_T) : List (ClassId × FieldType) := Γ.2.1.2.2
abbrev gx_A (Γ : gx_T) : Nat → Prop := Γ.2.2.1
abbrev gx_H0 (Γ : gx_T) : Heap := Γ.2.2.2.1
abbrev gx_Q (Γ : gx_T) : State → Prop := Γ.2.2.2.2.1
abbrev gx_nL (Γ : gx_T) : Nat := Γ.2.2.2.2.2
/-- the goal W over Γ -/
abbrev gx_W (Γ : gx_T) (H : Heap) (locs : List Loc) (k n : Nat) (g : JFrame) : Prop := W (gx_p Γ) (gx_l Γ) (gx_e Γ) (gx_R Γ) (gx_s Γ) (gx_m Γ) (gx_args Γ) (gx_below Γ) (gx_meth Γ) (gx_c Γ) H locs k n (gx_Q Γ) g
/-- the locals: V's places, .null says nothing -/
def gx_L (ls : Array Slot) (nL : Nat) (V : List Value) : Prop := ∃ l, lv_has ls nL l ∧ ∀ (i : Nat) (v : Value), V[i]? = some v → v ≠ .null → (i, v) ∈ l
def gx_G (Γ : gx_T) (k n pc : Nat) (V st : List Value) (ws : va_W) : Prop := ∀ (H : Heap) (locs : List Loc) (ls : Array Slot), va_P (gx_D Γ) (gx_cl Γ) ws H → va_D (gx_A Γ) ws → va_S (gx_A Γ) (gx_H0 Γ) H locs → gx_L ls (gx_nL Γ) V → gx_W Γ H locs k n (F0 (gx_m Γ) pc ls st)
/-- what stays through a method's body -/
def gx_ok (Γ : gx_T) (cc : ByteArray) (own : String) (Ts : List Cond) (d : Nat) : Prop := (gx_p Γ).tables.exec = Jvm.exec ∧ (gx_c Γ).code = cc ∧ (gx_c Γ).maxLocals = gx_nL Γ ∧ (gx_s Γ).vm.findClass own = some (gx_m Γ).cls ∧ (∀ w ∈ Ts, w.before (gx_args Γ) (gx_s Γ) = true) ∧ va_K (gx_D Γ) (gx_cl Γ) (gx_ty Γ) (gx_s Γ) ∧ (∀ q, (gx_H0 Γ).size ≤ q → gx_A Γ q) ∧ (gx_meth Γ).locks = false ∧ d ≤ (gx_R Γ).frames ∧ 40 * d ≤ (gx_R Γ).locals
theorem gx_L_at {ls : Array Slot} {nL i : Nat} {V : List Value} {v : Value} (h : gx_L ls nL V) (hv : V[i]? = some v) (hn : v ≠ .null) : ls[i]? = some (.val v) := by
  obtain ⟨l, h1, h2⟩ := h
  exact h1.2.2 (i, v) (h2 i v hv hn)
theorem gx_L_size {ls : Array Slot} {nL : Nat} {V : List Value} (h : gx_L ls nL V) : ls.size = nL := by
  obtain ⟨l, h1, h2⟩ := h
  exact h1.1
/-- fewer known locals -/
def gx_le : List Value → List Value → Prop
  | [], _ => True
  | _ :: _, [] => False
  | v :: vs, w :: ws => (v = .null ∨ v = w) ∧ gx_le vs ws
theorem gx_le_at : ∀ {V' V : List Value} {i : Nat} {v : Value}, gx_le V' V → V'[i]? = some v → v ≠ .null → V[i]? = some v
  | [], _, _, _, _, h, _ => by simp at h
  | _ :: _, [], _, _, h, _, _ => h.elim
  | a :: V', b :: V, 0, v, h, h1, h2 => by
    simp only [List.getElem?_cons_zero, Option.some.injEq] at h1 ⊢
    rcases h.1 with e | e
    · exact absurd (h1.symm.trans e) h2
    · rw [← e]; exact h1
  | a :: V', b :: V, i + 1, v, h, h1, h2 => by
    simp only [List.getElem?_cons_succ] at h1 ⊢
    exact gx_le_at h.2 h1 h2
theorem gx_L_le {ls : Array Slot} {nL : Nat} {V V' : List Value} (h : gx_L ls nL V) (hl : gx_le V' V) : gx_L ls nL V' := by
  obtain ⟨l, h1, h2⟩ := h
  exact ⟨l, h1, fun i v hv hn => h2 i v (gx_le_at hl hv hn) hn⟩
/-- no long lies just ahead of place i -/
def gx_nl (V : List Value) : Nat → Prop
  | 0 => True
  | i + 1 => match V[i]? with
    | some (.long _) => False
    | some (.double _) => False
    | _ => True
theorem gx_nl_cat {V : List Value} {i j : Nat} {v : Value} (h : gx_nl V i) (hj : j + 1 = i) (hv : V[j]? = some v) : v.category ≠ 2 := by
  subst hj
  simp only [gx_nl, hv] at h
  cases v <;> simp_all [Value.category]
theorem gx_L_set1 {ls ls' : Array Slot} {nL i : Nat} {V : List Value} {v : Value} {l : List (Nat × Value)} (h2 : ∀ (j : Nat) (w : Value), V[j]? = some w → w ≠ .null → (j, w) ∈ l) (hnl : gx_nl V i) (hl : lv_has ls' nL ((i, v) :: l.filter (fun q => !(q.1 == i) && !(q.1 + 1 == i && q.2.category == 2)))) : gx_L ls' nL (V.set i v) := by
  refine ⟨_, hl, fun j w hj hn => ?_⟩
  rw [List.getElem?_set] at hj
  by_cases e : i = j
  · subst e
    rw [if_pos rfl] at hj
    split at hj
    · cases hj; exact List.mem_cons_self
    · cases hj
  · rw [if_neg e] at hj
    refine List.mem_cons_of_mem _ (List.mem_filter.mpr ⟨h2 j w hj hn, ?_⟩)
    have h3 : j ≠ i := fun q => e q.symm
    by_cases e2 : j + 1 = i
    · have := gx_nl_cat hnl e2 hj
      simp [h3, this]
    · simp [h3, e2]
theorem gx_L_set2 {ls ls' : Array Slot} {nL i : Nat} {V : List Value} {v : Value} {l : List (Nat × Value)} (h2 : ∀ (j : Nat) (w : Value), V[j]? = some w → w ≠ .null → (j, w) ∈ l) (hnl : gx_nl V i) (hl : lv_has ls' nL ((i, v) :: l.filter (fun q => !(q.1 == i) && (!(q.1 == i + 1) && !(q.1 + 1 == i && q.2.category == 2))))) : gx_L ls' nL ((V.set i v).set (i + 1) .null) := by
  refine ⟨_, hl, fun j w hj hn => ?_⟩
  rw [List.getElem?_set] at hj
  by_cases e1 : i + 1 = j
  · rw [if_pos e1] at hj
    split at hj
    · cases hj; exact absurd rfl hn
    · cases hj
  · rw [if_neg e1, List.getElem?_set] at hj
    by_cases e : i = j
    · subst e
      rw [if_pos rfl] at hj
      split at hj
      · cases hj; exact List.mem_cons_self
      · cases hj
    · rw [if_neg e] at hj
      refine List.mem_cons_of_mem _ (List.mem_filter.mpr ⟨h2 j w hj hn, ?_⟩)
      have h3 : j ≠ i := fun q => e q.symm
      have h4 : j ≠ i + 1 := fun q => e1 q.symm
      by_cases e2 : j + 1 = i
      · have := gx_nl_cat hnl e2 hj
        simp [h3, h4, this]
      · simp [h3, h4, e2]
/-- the arguments as locals -/
def gx_V : List Value → List Value
  | [] => []
  | .long x :: vs => .long x :: .null :: gx_V vs
  | .double x :: vs => .double x :: .null :: gx_V vs
  | v :: vs => v :: gx_V vs
theorem gx_V_in : ∀ (vs : List Value) (k i : Nat) (v : Value), (gx_V vs)[i]? = some v → v ≠ .null → (k + i, v) ∈ lv_args k vs
  | [], k, i, v, h, _ => by simp [gx_V] at h
  | w :: vs, k, i, v, h, hn => by
    have one : ∀ (x : Value), gx_V (x :: vs) = x :: gx_V vs → x.category = 1 → (gx_V (x :: vs))[i]? = some v → (k + i, v) ∈ lv_args k (x :: vs) := by
      intro x e hc h
      rw [e] at h
      cases i with
      | zero => simp at h; subst h; exact List.mem_cons_self
      | succ i =>
        have h' : (gx_V vs)[i]? = some v := by simpa using h
        have := gx_V_in vs (k + 1) i v h' hn
        rw [show k + (i + 1) = k + 1 + i by omega]
        exact List.mem_cons_of_mem _ (by rw [if_neg (by rw [hc]; decide)]; exact this)
    have two : ∀ (x : Value), gx_V (x :: vs) = x :: .null :: gx_V vs → x.category = 2 → (gx_V (x :: vs))[i]? = some v → (k + i, v) ∈ lv_args k (x :: vs) := by
      intro x e hc h
      rw [e] at h
      match i, h with
      | 0, h => simp at h; subst h; exact List.mem_cons_self
      | 1, h => simp at h; exact absurd h.symm hn
      | i + 2, h =>
        have h' : (gx_V vs)[i]? = some v := by simpa using h
        have := gx_V_in vs (k + 2) i v h' hn
        rw [show k + (i + 2) = k + 2 + i by omega]
        exact List.mem_cons_of_mem _ (by rw [if_pos hc]; exact this)
    cases w with
    | long x => exact two _ rfl rfl h
    | double x => exact two _ rfl rfl h
    | _ => exact one _ rfl rfl h
theorem gx_L_entry {ls : Array Slot} {n : Nat} {vs V : List Value} (h : lv_has ls n (lv_args 0 vs)) (hV : ∀ (i : Nat) (v : Value), V[i]? = some v → v ≠ .null → (gx_V vs)[i]? = some v) : gx_L ls n V :=
  ⟨_, h, fun i v hv hn => by have := gx_V_in vs 0 i v (hV i v hv hn) hn; rwa [Nat.zero_add] at this⟩
theorem gx_L_pad {ls : Array Slot} {n : Nat} {vs : List Value} (h : lv_has ls n (lv_args 0 vs)) (k : Nat) : gx_L ls n (gx_V vs ++ List.replicate k .null) := by
  refine gx_L_entry h (fun i v hv hn => ?_)
  rcases Nat.lt_or_ge i (gx_V vs).length with q | q
  · rwa [List.getElem?_append_left q] at hv
  · rw [List.getElem?_append_right q] at hv
    have := List.mem_of_getElem? hv
    exact absurd (List.eq_of_mem_replicate this) hn
section GX
variable {Γ : gx_T} {cc : ByteArray} {own : String} {Ts : List Cond} {d k n pc : Nat} {V st : List Value} {ws : va_W}
theorem gx_weak {V' : List Value} (hl : gx_le V' V) (kk : gx_G Γ k n pc V' st ws) : gx_G Γ k n pc V st ws := fun H locs ls hP hD hS h => kk H locs ls hP hD hS (gx_L_le h hl)
theorem gx_world {ws' : va_W} (e : ws = ws') (kk : gx_G Γ k n pc V st ws') : gx_G Γ k n pc V st ws := e ▸ kk
theorem gx_widen {k' n' : Nat} (h1 : k ≤ k') (h2 : n ≤ n') (kk : gx_G Γ k' n' pc V st ws) : gx_G Γ k n pc V st ws := fun H locs ls hP hD hS h => W.widen h1 h2 (kk H locs ls hP hD hS h)

theorem gx_iconstm1 (C : gx_ok Γ cc own Ts d) (hd : decode cc pc = .ok (.iconst (-1), 1)) (kk : gx_G Γ k n (pc + 1) V (.int (-1) :: st) ws) : gx_G Γ k n pc V st ws := fun H locs ls hP hD hS hl => lv_iconst (v := (-1)) C.1 C.2.1 hd (by decide) (kk H locs ls hP hD hS hl)
theorem gx_iconst0 (C : gx_ok Γ cc own Ts d) (hd : decode cc pc = .ok (.iconst 0, 1)) (kk : gx_G Γ k n (pc + 1) V (.int 0 :: st) ws) : gx_G Γ k n pc V st ws := fun H locs ls hP hD hS hl => lv_iconst (v := 0) C.1 C.2.1 hd (by decide) (kk H locs ls hP hD hS hl)
theorem gx_iconst1 (C : gx_ok Γ cc own Ts d) (hd : decode cc pc = .ok (.iconst 1, 1)) (kk : gx_G Γ k n (pc + 1) V (.int 1 :: st) ws) : gx_G Γ k n pc V st ws := fun H locs ls hP hD hS hl => lv_iconst (v := 1) C.1 C.2.1 hd (by decide) (kk H locs ls hP hD hS hl)
theorem gx_iconst2 (C : gx_ok Γ cc own Ts d) (hd : decode cc pc = .ok (.iconst 2, 1)) (kk : gx_G Γ k n (pc + 1) V (.int 2 :: st) ws) : gx_G Γ k n pc V st ws := fun H locs ls hP hD hS hl => lv_iconst (v := 2) C.1 C.2.1 hd (by decide) (kk H locs ls hP hD hS hl)
theorem gx_iconst3 (C : gx_ok Γ cc own Ts d) (hd : decode cc pc = .ok (.iconst 3, 1)) (kk : gx_G Γ k n (pc + 1) V (.int 3 :: st) ws) : gx_G Γ k n pc V st ws := fun H locs ls hP hD hS hl => lv_iconst (v := 3) C.1 C.2.1 hd (by decide) (kk H locs ls hP hD hS hl)
theorem gx_iconst4 (C : gx_ok Γ cc own Ts d) (hd : decode cc pc = .ok (.iconst 4, 1)) (kk : gx_G Γ k n (pc + 1) V (.int 4 :: st) ws) : gx_G Γ k n pc V st ws := fun H locs ls hP hD hS hl => lv_iconst (v := 4) C.1 C.2.1 hd (by decide) (kk H locs ls hP hD hS hl)
theorem gx_iconst5 (C : gx_ok Γ cc own Ts d) (hd : decode cc pc = .ok (.iconst 5, 1)) (kk : gx_G Γ k n (pc + 1) V (.int 5 :: st) ws) : gx_G Γ k n pc V st ws := fun H locs ls hP hD hS hl => lv_iconst (v := 5) C.1 C.2.1 hd (by decide) (kk H locs ls hP hD hS hl)
theorem gx_bipush (C : gx_ok Γ cc own Ts d) {x : Int} {v : Int32} (hd : decode cc pc = .ok (.bipush x, 2)) (hv : (Int8.ofInt x).toInt32 = v) (kk : gx_G Γ k n (pc + 2) V (.int v :: st) ws) : gx_G Γ k n pc V st ws := fun H locs ls hP hD hS hl => lv_bipush C.1 C.2.1 hd hv (kk H locs ls hP hD hS hl)
theorem gx_sipush (C : gx_ok Γ cc own Ts d) {x : Int} {v : Int32} (hd : decode cc pc = .ok (.sipush x, 3)) (hv : (Int16.ofInt x).toInt32 = v) (kk : gx_G Γ k n (pc + 3) V (.int v :: st) ws) : gx_G Γ k n pc V st ws := fun H locs ls hP hD hS hl => lv_sipush C.1 C.2.1 hd hv (kk H locs ls hP hD hS hl)
theorem gx_lconst0 (C : gx_ok Γ cc own Ts d) (hd : decode cc pc = .ok (.lconst 0, 1)) (kk : gx_G Γ k n (pc + 1) V (.long 0 :: st) ws) : gx_G Γ k n pc V st ws := fun H locs ls hP hD hS hl => lv_lconst (v := 0) C.1 C.2.1 hd (by decide) (kk H locs ls hP hD hS hl)
theorem gx_lconst1 (C : gx_ok Γ cc own Ts d) (hd : decode cc pc = .ok (.lconst 1, 1)) (kk : gx_G Γ k n (pc + 1) V (.long 1 :: st) ws) : gx_G Γ k n pc V st ws := fun H locs ls hP hD hS hl => lv_lconst (v := 1) C.1 C.2.1 hd (by decide) (kk H locs ls hP hD hS hl)
theorem gx_ldc (C : gx_ok Γ cc own Ts d) {ix : Nat} {v : Int32} (hd : decode cc pc = .ok (.ldc ix, 2)) (hw : Cond.constant own ix v ∈ Ts) (kk : gx_G Γ k n (pc + 2) V (.int v :: st) ws) : gx_G Γ k n pc V st ws := fun H locs ls hP hD hS hl => lv_ldc C.1 C.2.1 C.2.2.2.1 (C.2.2.2.2.1 _ hw) hd (kk H locs ls hP hD hS hl)
theorem gx_ldc2 (C : gx_ok Γ cc own Ts d) {ix : Nat} {v : Int64} (hd : decode cc pc = .ok (.ldc2_w ix, 3)) (hw : Cond.constantLong own ix v ∈ Ts) (kk : gx_G Γ k n (pc + 3) V (.long v :: st) ws) : gx_G Γ k n pc V st ws := fun H locs ls hP hD hS hl => lv_ldc2 C.1 C.2.1 C.2.2.2.1 (C.2.2.2.2.1 _ hw) hd (kk H locs ls hP hD hS hl)
theorem gx_iload_0 (C : gx_ok Γ cc own Ts d) {x : Int32} (hd : decode cc pc = .ok (.iload_n 0, 1)) (hv : V[0]? = some (.int x)) (kk : gx_G Γ k n (pc + 1) V (.int x :: st) ws) : gx_G Γ k n pc V st ws := fun H locs ls hP hD hS hl => lv_iload_n C.1 C.2.1 hd rfl (gx_L_at hl hv (fun q => by cases q)) (kk H locs ls hP hD hS hl)
theorem gx_iload_1 (C : gx_ok Γ cc own Ts d) {x : Int32} (hd : decode cc pc = .ok (.iload_n 1, 1)) (hv : V[1]? = some (.int x)) (kk : gx_G Γ k n (pc + 1) V (.int x :: st) ws) : gx_G Γ k n pc V st ws := fun H locs ls hP hD hS hl => lv_iload_n C.1 C.2.1 hd rfl (gx_L_at hl hv (fun q => by cases q)) (kk H locs ls hP hD hS hl)
theorem gx_iload_2 (C : gx_ok Γ cc own Ts d) {x : Int32} (hd : decode cc pc = .ok (.iload_n 2, 1)) (hv : V[2]? = some (.int x)) (kk : gx_G Γ k n (pc + 1) V (.int x :: st) ws) : gx_G Γ k n pc V st ws := fun H locs ls hP hD hS hl => lv_iload_n C.1 C.2.1 hd rfl (gx_L_at hl hv (fun q => by cases q)) (kk H locs ls hP hD hS hl)
theorem gx_iload_3 (C : gx_ok Γ cc own Ts d) {x : Int32} (hd : decode cc pc = .ok (.iload_n 3, 1)) (hv : V[3]? = some (.int x)) (kk : gx_G Γ k n (pc + 1) V (.int x :: st) ws) : gx_G Γ k n pc V st ws := fun H locs ls hP hD hS hl => lv_iload_n C.1 C.2.1 hd rfl (gx_L_at hl hv (fun q => by cases q)) (kk H locs ls hP hD hS hl)
theorem gx_iload (C : gx_ok Γ cc own Ts d) {i : Nat} {x : Int32} (hd : decode cc pc = .ok (.iload i, 2)) (hv : V[i]? = some (.int x)) (kk : gx_G Γ k n (pc + 2) V (.int x :: st) ws) : gx_G Γ k n pc V st ws := fun H locs ls hP hD hS hl => lv_iload C.1 C.2.1 hd (gx_L_at hl hv (fun q => by cases q)) (kk H locs ls hP hD hS hl)
theorem gx_lload_0 (C : gx_ok Γ cc own Ts d) {x : Int64} (hd : decode cc pc = .ok (.lload_n 0, 1)) (hv : V[0]? = some (.long x)) (kk : gx_G Γ k n (pc + 1) V (.long x :: st) ws) : gx_G Γ k n pc V st ws := fun H locs ls hP hD hS hl => lv_lload_n C.1 C.2.1 hd rfl (gx_L_at hl hv (fun q => by cases q)) (kk H locs ls hP hD hS hl)
theorem gx_lload_1 (C : gx_ok Γ cc own Ts d) {x : Int64} (hd : decode cc pc = .ok (.lload_n 1, 1)) (hv : V[1]? = some (.long x)) (kk : gx_G Γ k n (pc + 1) V (.long x :: st) ws) : gx_G Γ k n pc V st ws := fun H locs ls hP hD hS hl => lv_lload_n C.1 C.2.1 hd rfl (gx_L_at hl hv (fun q => by cases q)) (kk H locs ls hP hD hS hl)
theorem gx_lload_2 (C : gx_ok Γ cc own Ts d) {x : Int64} (hd : decode cc pc = .ok (.lload_n 2, 1)) (hv : V[2]? = some (.long x)) (kk : gx_G Γ k n (pc + 1) V (.long x :: st) ws) : gx_G Γ k n pc V st ws := fun H locs ls hP hD hS hl => lv_lload_n C.1 C.2.1 hd rfl (gx_L_at hl hv (fun q => by cases q)) (kk H locs ls hP hD hS hl)
theorem gx_lload_3 (C : gx_ok Γ cc own Ts d) {x : Int64} (hd : decode cc pc = .ok (.lload_n 3, 1)) (hv : V[3]? = some (.long x)) (kk : gx_G Γ k n (pc + 1) V (.long x :: st) ws) : gx_G Γ k n pc V st ws := fun H locs ls hP hD hS hl => lv_lload_n C.1 C.2.1 hd rfl (gx_L_at hl hv (fun q => by cases q)) (kk H locs ls hP hD hS hl)
theorem gx_lload (C : gx_ok Γ cc own Ts d) {i : Nat} {x : Int64} (hd : decode cc pc = .ok (.lload i, 2)) (hv : V[i]? = some (.long x)) (kk : gx_G Γ k n (pc + 2) V (.long x :: st) ws) : gx_G Γ k n pc V st ws := fun H locs ls hP hD hS hl => lv_lload C.1 C.2.1 hd (gx_L_at hl hv (fun q => by cases q)) (kk H locs ls hP hD hS hl)
theorem gx_aload_0 (C : gx_ok Γ cc own Ts d) {x : Nat} (hd : decode cc pc = .ok (.aload_n 0, 1)) (hv : V[0]? = some (.ref x)) (kk : gx_G Γ k n (pc + 1) V (.ref x :: st) ws) : gx_G Γ k n pc V st ws := fun H locs ls hP hD hS hl => lv_aload_n C.1 C.2.1 hd rfl (gx_L_at hl hv (fun q => by cases q)) (kk H locs ls hP hD hS hl)
theorem gx_aload_1 (C : gx_ok Γ cc own Ts d) {x : Nat} (hd : decode cc pc = .ok (.aload_n 1, 1)) (hv : V[1]? = some (.ref x)) (kk : gx_G Γ k n (pc + 1) V (.ref x :: st) ws) : gx_G Γ k n pc V st ws := fun H locs ls hP hD hS hl => lv_aload_n C.1 C.2.1 hd rfl (gx_L_at hl hv (fun q => by cases q)) (kk H locs ls hP hD hS hl)
theorem gx_aload_2 (C : gx_ok Γ cc own Ts d) {x : Nat} (hd : decode cc pc = .ok (.aload_n 2, 1)) (hv : V[2]? = some (.ref x)) (kk : gx_G Γ k n (pc + 1) V (.ref x :: st) ws) : gx_G Γ k n pc V st ws := fun H locs ls hP hD hS hl => lv_aload_n C.1 C.2.1 hd rfl (gx_L_at hl hv (fun q => by cases q)) (kk H locs ls hP hD hS hl)
theorem gx_aload_3 (C : gx_ok Γ cc own Ts d) {x : Nat} (hd : decode cc pc = .ok (.aload_n 3, 1)) (hv : V[3]? = some (.ref x)) (kk : gx_G Γ k n (pc + 1) V (.ref x :: st) ws) : gx_G Γ k n pc V st ws := fun H locs ls hP hD hS hl => lv_aload_n C.1 C.2.1 hd rfl (gx_L_at hl hv (fun q => by cases q)) (kk H locs ls hP hD hS hl)
theorem gx_aload (C : gx_ok Γ cc own Ts d) {i : Nat} {x : Nat} (hd : decode cc pc = .ok (.aload i, 2)) (hv : V[i]? = some (.ref x)) (kk : gx_G Γ k n (pc + 2) V (.ref x :: st) ws) : gx_G Γ k n pc V st ws := fun H locs ls hP hD hS hl => lv_aload C.1 C.2.1 hd (gx_L_at hl hv (fun q => by cases q)) (kk H locs ls hP hD hS hl)
theorem gx_istore_0 (C : gx_ok Γ cc own Ts d) {x : Int32} (hd : decode cc pc = .ok (.istore_n 0, 1)) (hn : 0 < gx_nL Γ) (hnl : gx_nl V 0) (kk : gx_G Γ k n (pc + 1) (V.set 0 (.int x)) st ws) : gx_G Γ k n pc V (.int x :: st) ws := by
  intro H locs ls hP hD hS hl
  obtain ⟨l0, h1, h2⟩ := hl
  exact lv_istore_n (i := 0) C.1 C.2.1 hd rfl h1 hn rfl (fun ls' h => kk H locs ls' hP hD hS (gx_L_set1 (ls := ls) h2 hnl h))
theorem gx_istore_1 (C : gx_ok Γ cc own Ts d) {x : Int32} (hd : decode cc pc = .ok (.istore_n 1, 1)) (hn : 1 < gx_nL Γ) (hnl : gx_nl V 1) (kk : gx_G Γ k n (pc + 1) (V.set 1 (.int x)) st ws) : gx_G Γ k n pc V (.int x :: st) ws := by
  intro H locs ls hP hD hS hl
  obtain ⟨l0, h1, h2⟩ := hl
  exact lv_istore_n (i := 1) C.1 C.2.1 hd rfl h1 hn rfl (fun ls' h => kk H locs ls' hP hD hS (gx_L_set1 (ls := ls) h2 hnl h))
theorem gx_istore_2 (C : gx_ok Γ cc own Ts d) {x : Int32} (hd : decode cc pc = .ok (.istore_n 2, 1)) (hn : 2 < gx_nL Γ) (hnl : gx_nl V 2) (kk : gx_G Γ k n (pc + 1) (V.set 2 (.int x)) st ws) : gx_G Γ k n pc V (.int x :: st) ws := by
  intro H locs ls hP hD hS hl
  obtain ⟨l0, h1, h2⟩ := hl
  exact lv_istore_n (i := 2) C.1 C.2.1 hd rfl h1 hn rfl (fun ls' h => kk H locs ls' hP hD hS (gx_L_set1 (ls := ls) h2 hnl h))
theorem gx_istore_3 (C : gx_ok Γ cc own Ts d) {x : Int32} (hd : decode cc pc = .ok (.istore_n 3, 1)) (hn : 3 < gx_nL Γ) (hnl : gx_nl V 3) (kk : gx_G Γ k n (pc + 1) (V.set 3 (.int x)) st ws) : gx_G Γ k n pc V (.int x :: st) ws := by
  intro H locs ls hP hD hS hl
  obtain ⟨l0, h1, h2⟩ := hl
  exact lv_istore_n (i := 3) C.1 C.2.1 hd rfl h1 hn rfl (fun ls' h => kk H locs ls' hP hD hS (gx_L_set1 (ls := ls) h2 hnl h))
theorem gx_istore (C : gx_ok Γ cc own Ts d) {i : Nat} {x : Int32} (hd : decode cc pc = .ok (.istore i, 2)) (hn : i < gx_nL Γ) (hnl : gx_nl V i) (kk : gx_G Γ k n (pc + 2) (V.set i (.int x)) st ws) : gx_G Γ k n pc V (.int x :: st) ws := by
  intro H locs ls hP hD hS hl
  obtain ⟨l0, h1, h2⟩ := hl
  exact lv_istore C.1 C.2.1 hd h1 hn rfl (fun ls' h => kk H locs ls' hP hD hS (gx_L_set1 (ls := ls) h2 hnl h))
theorem gx_astore_0 (C : gx_ok Γ cc own Ts d) {x : Nat} (hd : decode cc pc = .ok (.astore_n 0, 1)) (hn : 0 < gx_nL Γ) (hnl : gx_nl V 0) (kk : gx_G Γ k n (pc + 1) (V.set 0 (.ref x)) st ws) : gx_G Γ k n pc V (.ref x :: st) ws := by
  intro H locs ls hP hD hS hl
  obtain ⟨l0, h1, h2⟩ := hl
  exact lv_astore_n (i := 0) C.1 C.2.1 hd rfl h1 hn rfl (fun ls' h => kk H locs ls' hP hD hS (gx_L_set1 (ls := ls) h2 hnl h))
theorem gx_astore_1 (C : gx_ok Γ cc own Ts d) {x : Nat} (hd : decode cc pc = .ok (.astore_n 1, 1)) (hn : 1 < gx_nL Γ) (hnl : gx_nl V 1) (kk : gx_G Γ k n (pc + 1) (V.set 1 (.ref x)) st ws) : gx_G Γ k n pc V (.ref x :: st) ws := by
  intro H locs ls hP hD hS hl
  obtain ⟨l0, h1, h2⟩ := hl
  exact lv_astore_n (i := 1) C.1 C.2.1 hd rfl h1 hn rfl (fun ls' h => kk H locs ls' hP hD hS (gx_L_set1 (ls := ls) h2 hnl h))
theorem gx_astore_2 (C : gx_ok Γ cc own Ts d) {x : Nat} (hd : decode cc pc = .ok (.astore_n 2, 1)) (hn : 2 < gx_nL Γ) (hnl : gx_nl V 2) (kk : gx_G Γ k n (pc + 1) (V.set 2 (.ref x)) st ws) : gx_G Γ k n pc V (.ref x :: st) ws := by
  intro H locs ls hP hD hS hl
  obtain ⟨l0, h1, h2⟩ := hl
  exact lv_astore_n (i := 2) C.1 C.2.1 hd rfl h1 hn rfl (fun ls' h => kk H locs ls' hP hD hS (gx_L_set1 (ls := ls) h2 hnl h))
theorem gx_astore_3 (C : gx_ok Γ cc own Ts d) {x : Nat} (hd : decode cc pc = .ok (.astore_n 3, 1)) (hn : 3 < gx_nL Γ) (hnl : gx_nl V 3) (kk : gx_G Γ k n (pc + 1) (V.set 3 (.ref x)) st ws) : gx_G Γ k n pc V (.ref x :: st) ws := by
  intro H locs ls hP hD hS hl
  obtain ⟨l0, h1, h2⟩ := hl
  exact lv_astore_n (i := 3) C.1 C.2.1 hd rfl h1 hn rfl (fun ls' h => kk H locs ls' hP hD hS (gx_L_set1 (ls := ls) h2 hnl h))
theorem gx_astore (C : gx_ok Γ cc own Ts d) {i : Nat} {x : Nat} (hd : decode cc pc = .ok (.astore i, 2)) (hn : i < gx_nL Γ) (hnl : gx_nl V i) (kk : gx_G Γ k n (pc + 2) (V.set i (.ref x)) st ws) : gx_G Γ k n pc V (.ref x :: st) ws := by
  intro H locs ls hP hD hS hl
  obtain ⟨l0, h1, h2⟩ := hl
  exact lv_astore C.1 C.2.1 hd h1 hn rfl (fun ls' h => kk H locs ls' hP hD hS (gx_L_set1 (ls := ls) h2 hnl h))
theorem gx_lstore_0 (C : gx_ok Γ cc own Ts d) {x : Int64} (hd : decode cc pc = .ok (.lstore_n 0, 1)) (hn : 0 + 1 < gx_nL Γ) (hnl : gx_nl V 0) (kk : gx_G Γ k n (pc + 1) ((V.set 0 (.long x)).set (0 + 1) .null) st ws) : gx_G Γ k n pc V (.long x :: st) ws := by
  intro H locs ls hP hD hS hl
  obtain ⟨l0, h1, h2⟩ := hl
  exact lv_lstore_n (i := 0) C.1 C.2.1 hd rfl h1 hn rfl (fun ls' h => kk H locs ls' hP hD hS (gx_L_set2 (ls := ls) h2 hnl h))
theorem gx_lstore_1 (C : gx_ok Γ cc own Ts d) {x : Int64} (hd : decode cc pc = .ok (.lstore_n 1, 1)) (hn : 1 + 1 < gx_nL Γ) (hnl : gx_nl V 1) (kk : gx_G Γ k n (pc + 1) ((V.set 1 (.long x)).set (1 + 1) .null) st ws) : gx_G Γ k n pc V (.long x :: st) ws := by
  intro H locs ls hP hD hS hl
  obtain ⟨l0, h1, h2⟩ := hl
  exact lv_lstore_n (i := 1) C.1 C.2.1 hd rfl h1 hn rfl (fun ls' h => kk H locs ls' hP hD hS (gx_L_set2 (ls := ls) h2 hnl h))
theorem gx_lstore_2 (C : gx_ok Γ cc own Ts d) {x : Int64} (hd : decode cc pc = .ok (.lstore_n 2, 1)) (hn : 2 + 1 < gx_nL Γ) (hnl : gx_nl V 2) (kk : gx_G Γ k n (pc + 1) ((V.set 2 (.long x)).set (2 + 1) .null) st ws) : gx_G Γ k n pc V (.long x :: st) ws := by
  intro H locs ls hP hD hS hl
  obtain ⟨l0, h1, h2⟩ := hl
  exact lv_lstore_n (i := 2) C.1 C.2.1 hd rfl h1 hn rfl (fun ls' h => kk H locs ls' hP hD hS (gx_L_set2 (ls := ls) h2 hnl h))
theorem gx_lstore_3 (C : gx_ok Γ cc own Ts d) {x : Int64} (hd : decode cc pc = .ok (.lstore_n 3, 1)) (hn : 3 + 1 < gx_nL Γ) (hnl : gx_nl V 3) (kk : gx_G Γ k n (pc + 1) ((V.set 3 (.long x)).set (3 + 1) .null) st ws) : gx_G Γ k n pc V (.long x :: st) ws := by
  intro H locs ls hP hD hS hl
  obtain ⟨l0, h1, h2⟩ := hl
  exact lv_lstore_n (i := 3) C.1 C.2.1 hd rfl h1 hn rfl (fun ls' h => kk H locs ls' hP hD hS (gx_L_set2 (ls := ls) h2 hnl h))
theorem gx_lstore (C : gx_ok Γ cc own Ts d) {i : Nat} {x : Int64} (hd : decode cc pc = .ok (.lstore i, 2)) (hn : i + 1 < gx_nL Γ) (hnl : gx_nl V i) (kk : gx_G Γ k n (pc + 2) ((V.set i (.long x)).set (i + 1) .null) st ws) : gx_G Γ k n pc V (.long x :: st) ws := by
  intro H locs ls hP hD hS hl
  obtain ⟨l0, h1, h2⟩ := hl
  exact lv_lstore C.1 C.2.1 hd h1 hn rfl (fun ls' h => kk H locs ls' hP hD hS (gx_L_set2 (ls := ls) h2 hnl h))
theorem gx_iinc (C : gx_ok Γ cc own Ts d) {i : Nat} {z : Int} {x v : Int32} (hd : decode cc pc = .ok (.iinc i z, 3)) (hv : V[i]? = some (.int x)) (he : x + Int32.ofInt z = v) (hn : i < gx_nL Γ) (hnl : gx_nl V i) (kk : gx_G Γ k n (pc + 3) (V.set i (.int v)) st ws) : gx_G Γ k n pc V st ws := by
  intro H locs ls hP hD hS hl
  obtain ⟨l0, h1, h2⟩ := hl
  obtain ⟨j, hj⟩ := List.getElem?_of_mem (h2 i _ hv (fun q => by cases q))
  exact lv_iinc C.1 C.2.1 hd h1 hj he hn rfl (fun ls' h => kk H locs ls' hP hD hS (gx_L_set1 (ls := ls) h2 hnl h))
theorem gx_iadd (C : gx_ok Γ cc own Ts d) {x y : Int32} (hd : decode cc pc = .ok (.iadd, 1)) (kk : gx_G Γ k n (pc + 1) V (.int (x + y) :: st) ws) : gx_G Γ k n pc V (.int y :: .int x :: st) ws := fun H locs ls hP hD hS hl => lv_iadd C.1 C.2.1 hd (kk H locs ls hP hD hS hl)
theorem gx_isub (C : gx_ok Γ cc own Ts d) {x y : Int32} (hd : decode cc pc = .ok (.isub, 1)) (kk : gx_G Γ k n (pc + 1) V (.int (x - y) :: st) ws) : gx_G Γ k n pc V (.int y :: .int x :: st) ws := fun H locs ls hP hD hS hl => lv_isub C.1 C.2.1 hd (kk H locs ls hP hD hS hl)
theorem gx_imul (C : gx_ok Γ cc own Ts d) {x y : Int32} (hd : decode cc pc = .ok (.imul, 1)) (kk : gx_G Γ k n (pc + 1) V (.int (x * y) :: st) ws) : gx_G Γ k n pc V (.int y :: .int x :: st) ws := fun H locs ls hP hD hS hl => lv_imul C.1 C.2.1 hd (kk H locs ls hP hD hS hl)
theorem gx_iand (C : gx_ok Γ cc own Ts d) {x y : Int32} (hd : decode cc pc = .ok (.iand, 1)) (kk : gx_G Γ k n (pc + 1) V (.int (x &&& y) :: st) ws) : gx_G Γ k n pc V (.int y :: .int x :: st) ws := fun H locs ls hP hD hS hl => lv_iand C.1 C.2.1 hd (kk H locs ls hP hD hS hl)
theorem gx_ior (C : gx_ok Γ cc own Ts d) {x y : Int32} (hd : decode cc pc = .ok (.ior, 1)) (kk : gx_G Γ k n (pc + 1) V (.int (x ||| y) :: st) ws) : gx_G Γ k n pc V (.int y :: .int x :: st) ws := fun H locs ls hP hD hS hl => lv_ior C.1 C.2.1 hd (kk H locs ls hP hD hS hl)
theorem gx_ixor (C : gx_ok Γ cc own Ts d) {x y : Int32} (hd : decode cc pc = .ok (.ixor, 1)) (kk : gx_G Γ k n (pc + 1) V (.int (x ^^^ y) :: st) ws) : gx_G Γ k n pc V (.int y :: .int x :: st) ws := fun H locs ls hP hD hS hl => lv_ixor C.1 C.2.1 hd (kk H locs ls hP hD hS hl)
theorem gx_ishl (C : gx_ok Γ cc own Ts d) {x y : Int32} (hd : decode cc pc = .ok (.ishl, 1)) (kk : gx_G Γ k n (pc + 1) V (.int (x <<< (y &&& 31)) :: st) ws) : gx_G Γ k n pc V (.int y :: .int x :: st) ws := fun H locs ls hP hD hS hl => lv_ishl C.1 C.2.1 hd (kk H locs ls hP hD hS hl)
theorem gx_ishr (C : gx_ok Γ cc own Ts d) {x y : Int32} (hd : decode cc pc = .ok (.ishr, 1)) (kk : gx_G Γ k n (pc + 1) V (.int (x >>> (y &&& 31)) :: st) ws) : gx_G Γ k n pc V (.int y :: .int x :: st) ws := fun H locs ls hP hD hS hl => lv_ishr C.1 C.2.1 hd (kk H locs ls hP hD hS hl)
theorem gx_idiv (C : gx_ok Γ cc own Ts d) {x y : Int32} (hd : decode cc pc = .ok (.idiv, 1)) (hne : ¬ y = 0) (kk : gx_G Γ k n (pc + 1) V (.int (x / y) :: st) ws) : gx_G Γ k n pc V (.int y :: .int x :: st) ws := fun H locs ls hP hD hS hl => lv_idiv C.1 C.2.1 hd hne (kk H locs ls hP hD hS hl)
theorem gx_ineg (C : gx_ok Γ cc own Ts d) {x : Int32} (hd : decode cc pc = .ok (.ineg, 1)) (kk : gx_G Γ k n (pc + 1) V (.int (-x) :: st) ws) : gx_G Γ k n pc V (.int x :: st) ws := fun H locs ls hP hD hS hl => lv_ineg C.1 C.2.1 hd (kk H locs ls hP hD hS hl)
theorem gx_ladd (C : gx_ok Γ cc own Ts d) {x y : Int64} (hd : decode cc pc = .ok (.ladd, 1)) (kk : gx_G Γ k n (pc + 1) V (.long (x + y) :: st) ws) : gx_G Γ k n pc V (.long y :: .long x :: st) ws := fun H locs ls hP hD hS hl => lv_ladd C.1 C.2.1 hd (kk H locs ls hP hD hS hl)
theorem gx_lsub (C : gx_ok Γ cc own Ts d) {x y : Int64} (hd : decode cc pc = .ok (.lsub, 1)) (kk : gx_G Γ k n (pc + 1) V (.long (x - y) :: st) ws) : gx_G Γ k n pc V (.long y :: .long x :: st) ws := fun H locs ls hP hD hS hl => lv_lsub C.1 C.2.1 hd (kk H locs ls hP hD hS hl)
theorem gx_lmul (C : gx_ok Γ cc own Ts d) {x y : Int64} (hd : decode cc pc = .ok (.lmul, 1)) (kk : gx_G Γ k n (pc + 1) V (.long (x * y) :: st) ws) : gx_G Γ k n pc V (.long y :: .long x :: st) ws := fun H locs ls hP hD hS hl => lv_lmul C.1 C.2.1 hd (kk H locs ls hP hD hS hl)
theorem gx_land (C : gx_ok Γ cc own Ts d) {x y : Int64} (hd : decode cc pc = .ok (.land, 1)) (kk : gx_G Γ k n (pc + 1) V (.long (x &&& y) :: st) ws) : gx_G Γ k n pc V (.long y :: .long x :: st) ws := fun H locs ls hP hD hS hl => lv_land C.1 C.2.1 hd (kk H locs ls hP hD hS hl)
theorem gx_lor (C : gx_ok Γ cc own Ts d) {x y : Int64} (hd : decode cc pc = .ok (.lor, 1)) (kk : gx_G Γ k n (pc + 1) V (.long (x ||| y) :: st) ws) : gx_G Γ k n pc V (.long y :: .long x :: st) ws := fun H locs ls hP hD hS hl => lv_lor C.1 C.2.1 hd (kk H locs ls hP hD hS hl)
theorem gx_i2l (C : gx_ok Γ cc own Ts d) {x : Int32} (hd : decode cc pc = .ok (.i2l, 1)) (kk : gx_G Γ k n (pc + 1) V (.long x.toInt64 :: st) ws) : gx_G Γ k n pc V (.int x :: st) ws := fun H locs ls hP hD hS hl => lv_i2l C.1 C.2.1 hd rfl (kk H locs ls hP hD hS hl)
theorem gx_l2i (C : gx_ok Γ cc own Ts d) {x : Int64} (hd : decode cc pc = .ok (.l2i, 1)) (kk : gx_G Γ k n (pc + 1) V (.int x.toInt32 :: st) ws) : gx_G Γ k n pc V (.long x :: st) ws := fun H locs ls hP hD hS hl => lv_l2i C.1 C.2.1 hd rfl (kk H locs ls hP hD hS hl)
theorem gx_i2b (C : gx_ok Γ cc own Ts d) {x : Int32} (hd : decode cc pc = .ok (.i2b, 1)) (kk : gx_G Γ k n (pc + 1) V (.int x.toInt8.toInt32 :: st) ws) : gx_G Γ k n pc V (.int x :: st) ws := fun H locs ls hP hD hS hl => lv_i2b C.1 C.2.1 hd rfl (kk H locs ls hP hD hS hl)
theorem gx_i2c (C : gx_ok Γ cc own Ts d) {x : Int32} (hd : decode cc pc = .ok (.i2c, 1)) (kk : gx_G Γ k n (pc + 1) V (.int (x.toUInt32 % 65536).toInt32 :: st) ws) : gx_G Γ k n pc V (.int x :: st) ws := fun H locs ls hP hD hS hl => lv_i2c C.1 C.2.1 hd rfl (kk H locs ls hP hD hS hl)
theorem gx_lushr (C : gx_ok Γ cc own Ts d) {x : Int64} {y : Int32} (hd : decode cc pc = .ok (.lushr, 1)) (kk : gx_G Γ k n (pc + 1) V (.long (x.toUInt64 >>> (y.toInt64.toUInt64 &&& Int64.toUInt64 63)).toInt64 :: st) ws) : gx_G Γ k n pc V (.int y :: .long x :: st) ws := fun H locs ls hP hD hS hl => lv_lushr C.1 C.2.1 hd rfl (kk H locs ls hP hD hS hl)
theorem gx_lshl (C : gx_ok Γ cc own Ts d) {x : Int64} {y : Int32} (hd : decode cc pc = .ok (.lshl, 1)) (kk : gx_G Γ k n (pc + 1) V (.long (x <<< (y.toInt64 &&& 63)) :: st) ws) : gx_G Γ k n pc V (.int y :: .long x :: st) ws := fun H locs ls hP hD hS hl => lv_lshl C.1 C.2.1 hd rfl (kk H locs ls hP hD hS hl)
theorem gx_lshr (C : gx_ok Γ cc own Ts d) {x : Int64} {y : Int32} (hd : decode cc pc = .ok (.lshr, 1)) (kk : gx_G Γ k n (pc + 1) V (.long (x >>> (y.toInt64 &&& 63)) :: st) ws) : gx_G Γ k n pc V (.int y :: .long x :: st) ws := fun H locs ls hP hD hS hl => lv_lshr C.1 C.2.1 hd rfl (kk H locs ls hP hD hS hl)
theorem gx_lcmp (C : gx_ok Γ cc own Ts d) {x y : Int64} (hd : decode cc pc = .ok (.lcmp, 1)) (kk : gx_G Γ k n (pc + 1) V (.int (lg_cmp x y) :: st) ws) : gx_G Γ k n pc V (.long y :: .long x :: st) ws := fun H locs ls hP hD hS hl => W.lcmp C.1 C.2.1 hd (kk H locs ls hP hD hS hl)
theorem gx_dup (C : gx_ok Γ cc own Ts d) {va : Value} (hd : decode cc pc = .ok (.dup, 1)) (hc : va.category = 1) (kk : gx_G Γ k n (pc + 1) V (va :: va :: st) ws) : gx_G Γ k n pc V (va :: st) ws := fun H locs ls hP hD hS hl => lv_dup C.1 C.2.1 hd hc (kk H locs ls hP hD hS hl)
theorem gx_pop (C : gx_ok Γ cc own Ts d) {va : Value} (hd : decode cc pc = .ok (.pop, 1)) (hc : va.category = 1) (kk : gx_G Γ k n (pc + 1) V st ws) : gx_G Γ k n pc V (va :: st) ws := fun H locs ls hP hD hS hl => lv_pop C.1 C.2.1 hd hc (kk H locs ls hP hD hS hl)
theorem gx_dup2 (C : gx_ok Γ cc own Ts d) {va vb : Value} (hd : decode cc pc = .ok (.dup2, 1)) (hc : va.category = 1) (hc2 : vb.category = 1) (kk : gx_G Γ k n (pc + 1) V (va :: vb :: va :: vb :: st) ws) : gx_G Γ k n pc V (va :: vb :: st) ws := fun H locs ls hP hD hS hl => lv_dup2_11 C.1 C.2.1 hd hc hc2 (kk H locs ls hP hD hS hl)
theorem gx_pop2 (C : gx_ok Γ cc own Ts d) {va : Value} (hd : decode cc pc = .ok (.pop2, 1)) (hc : va.category = 2) (kk : gx_G Γ k n (pc + 1) V st ws) : gx_G Γ k n pc V (va :: st) ws := fun H locs ls hP hD hS hl => lv_pop2_2 C.1 C.2.1 hd hc (kk H locs ls hP hD hS hl)
theorem gx_if_eq (C : gx_ok Γ cc own Ts d) {x : Int32} {off : Int} {tgt : Nat} (hd : decode cc pc = .ok (.ifCond .eq off, 3)) (ht : (pc : Int) + off = (tgt : Int)) (kt : x = 0 → gx_G Γ k n tgt V st ws) (kf : ¬ (x = 0) → gx_G Γ k n (pc + 3) V st ws) : gx_G Γ k n pc V (.int x :: st) ws := fun H locs ls hP hD hS hl => lv_if_eq C.1 C.2.1 hd ht (fun q => kt q H locs ls hP hD hS hl) (fun q => kf q H locs ls hP hD hS hl)
theorem gx_icmp_eq (C : gx_ok Γ cc own Ts d) {x y : Int32} {off : Int} {tgt : Nat} (hd : decode cc pc = .ok (.if_icmp .eq off, 3)) (ht : (pc : Int) + off = (tgt : Int)) (kt : x = y → gx_G Γ k n tgt V st ws) (kf : ¬ (x = y) → gx_G Γ k n (pc + 3) V st ws) : gx_G Γ k n pc V (.int y :: .int x :: st) ws := fun H locs ls hP hD hS hl => lv_icmp_eq C.1 C.2.1 hd ht (fun q => kt q H locs ls hP hD hS hl) (fun q => kf q H locs ls hP hD hS hl)
theorem gx_if_ne (C : gx_ok Γ cc own Ts d) {x : Int32} {off : Int} {tgt : Nat} (hd : decode cc pc = .ok (.ifCond .ne off, 3)) (ht : (pc : Int) + off = (tgt : Int)) (kt : ¬ x = 0 → gx_G Γ k n tgt V st ws) (kf : ¬ (¬ x = 0) → gx_G Γ k n (pc + 3) V st ws) : gx_G Γ k n pc V (.int x :: st) ws := fun H locs ls hP hD hS hl => lv_if_ne C.1 C.2.1 hd ht (fun q => kt q H locs ls hP hD hS hl) (fun q => kf q H locs ls hP hD hS hl)
theorem gx_icmp_ne (C : gx_ok Γ cc own Ts d) {x y : Int32} {off : Int} {tgt : Nat} (hd : decode cc pc = .ok (.if_icmp .ne off, 3)) (ht : (pc : Int) + off = (tgt : Int)) (kt : ¬ x = y → gx_G Γ k n tgt V st ws) (kf : ¬ (¬ x = y) → gx_G Γ k n (pc + 3) V st ws) : gx_G Γ k n pc V (.int y :: .int x :: st) ws := fun H locs ls hP hD hS hl => lv_icmp_ne C.1 C.2.1 hd ht (fun q => kt q H locs ls hP hD hS hl) (fun q => kf q H locs ls hP hD hS hl)
theorem gx_if_lt (C : gx_ok Γ cc own Ts d) {x : Int32} {off : Int} {tgt : Nat} (hd : decode cc pc = .ok (.ifCond .lt off, 3)) (ht : (pc : Int) + off = (tgt : Int)) (kt : x < 0 → gx_G Γ k n tgt V st ws) (kf : ¬ (x < 0) → gx_G Γ k n (pc + 3) V st ws) : gx_G Γ k n pc V (.int x :: st) ws := fun H locs ls hP hD hS hl => lv_if_lt C.1 C.2.1 hd ht (fun q => kt q H locs ls hP hD hS hl) (fun q => kf q H locs ls hP hD hS hl)
theorem gx_icmp_lt (C : gx_ok Γ cc own Ts d) {x y : Int32} {off : Int} {tgt : Nat} (hd : decode cc pc = .ok (.if_icmp .lt off, 3)) (ht : (pc : Int) + off = (tgt : Int)) (kt : x < y → gx_G Γ k n tgt V st ws) (kf : ¬ (x < y) → gx_G Γ k n (pc + 3) V st ws) : gx_G Γ k n pc V (.int y :: .int x :: st) ws := fun H locs ls hP hD hS hl => lv_icmp_lt C.1 C.2.1 hd ht (fun q => kt q H locs ls hP hD hS hl) (fun q => kf q H locs ls hP hD hS hl)
theorem gx_if_ge (C : gx_ok Γ cc own Ts d) {x : Int32} {off : Int} {tgt : Nat} (hd : decode cc pc = .ok (.ifCond .ge off, 3)) (ht : (pc : Int) + off = (tgt : Int)) (kt : 0 ≤ x → gx_G Γ k n tgt V st ws) (kf : ¬ (0 ≤ x) → gx_G Γ k n (pc + 3) V st ws) : gx_G Γ k n pc V (.int x :: st) ws := fun H locs ls hP hD hS hl => lv_if_ge C.1 C.2.1 hd ht (fun q => kt q H locs ls hP hD hS hl) (fun q => kf q H locs ls hP hD hS hl)
theorem gx_icmp_ge (C : gx_ok Γ cc own Ts d) {x y : Int32} {off : Int} {tgt : Nat} (hd : decode cc pc = .ok (.if_icmp .ge off, 3)) (ht : (pc : Int) + off = (tgt : Int)) (kt : y ≤ x → gx_G Γ k n tgt V st ws) (kf : ¬ (y ≤ x) → gx_G Γ k n (pc + 3) V st ws) : gx_G Γ k n pc V (.int y :: .int x :: st) ws := fun H locs ls hP hD hS hl => lv_icmp_ge C.1 C.2.1 hd ht (fun q => kt q H locs ls hP hD hS hl) (fun q => kf q H locs ls hP hD hS hl)
theorem gx_if_gt (C : gx_ok Γ cc own Ts d) {x : Int32} {off : Int} {tgt : Nat} (hd : decode cc pc = .ok (.ifCond .gt off, 3)) (ht : (pc : Int) + off = (tgt : Int)) (kt : 0 < x → gx_G Γ k n tgt V st ws) (kf : ¬ (0 < x) → gx_G Γ k n (pc + 3) V st ws) : gx_G Γ k n pc V (.int x :: st) ws := fun H locs ls hP hD hS hl => lv_if_gt C.1 C.2.1 hd ht (fun q => kt q H locs ls hP hD hS hl) (fun q => kf q H locs ls hP hD hS hl)
theorem gx_icmp_gt (C : gx_ok Γ cc own Ts d) {x y : Int32} {off : Int} {tgt : Nat} (hd : decode cc pc = .ok (.if_icmp .gt off, 3)) (ht : (pc : Int) + off = (tgt : Int)) (kt : y < x → gx_G Γ k n tgt V st ws) (kf : ¬ (y < x) → gx_G Γ k n (pc + 3) V st ws) : gx_G Γ k n pc V (.int y :: .int x :: st) ws := fun H locs ls hP hD hS hl => lv_icmp_gt C.1 C.2.1 hd ht (fun q => kt q H locs ls hP hD hS hl) (fun q => kf q H locs ls hP hD hS hl)
theorem gx_if_le (C : gx_ok Γ cc own Ts d) {x : Int32} {off : Int} {tgt : Nat} (hd : decode cc pc = .ok (.ifCond .le off, 3)) (ht : (pc : Int) + off = (tgt : Int)) (kt : x ≤ 0 → gx_G Γ k n tgt V st ws) (kf : ¬ (x ≤ 0) → gx_G Γ k n (pc + 3) V st ws) : gx_G Γ k n pc V (.int x :: st) ws := fun H locs ls hP hD hS hl => lv_if_le C.1 C.2.1 hd ht (fun q => kt q H locs ls hP hD hS hl) (fun q => kf q H locs ls hP hD hS hl)
theorem gx_icmp_le (C : gx_ok Γ cc own Ts d) {x y : Int32} {off : Int} {tgt : Nat} (hd : decode cc pc = .ok (.if_icmp .le off, 3)) (ht : (pc : Int) + off = (tgt : Int)) (kt : x ≤ y → gx_G Γ k n tgt V st ws) (kf : ¬ (x ≤ y) → gx_G Γ k n (pc + 3) V st ws) : gx_G Γ k n pc V (.int y :: .int x :: st) ws := fun H locs ls hP hD hS hl => lv_icmp_le C.1 C.2.1 hd ht (fun q => kt q H locs ls hP hD hS hl) (fun q => kf q H locs ls hP hD hS hl)
theorem gx_goto (C : gx_ok Γ cc own Ts d) {off : Int} {tgt : Nat} (hd : decode cc pc = .ok (.goto off, 3)) (ht : (pc : Int) + off = (tgt : Int)) (kk : gx_G Γ k n tgt V st ws) : gx_G Γ k n pc V st ws := fun H locs ls hP hD hS hl => lv_goto C.1 C.2.1 hd ht (kk H locs ls hP hD hS hl)
theorem gx_tout (C : gx_ok Γ cc own Ts d) {dflt lo hi : Int} {offs : Array Int} {len : Nat} {x : Int32} {tgt : Nat} (hd : decode cc pc = .ok (.tableswitch dflt lo hi offs, len)) (h : x.toInt < lo ∨ hi < x.toInt) (ht : (pc : Int) + dflt = (tgt : Int)) (kk : gx_G Γ k n tgt V st ws) : gx_G Γ k n pc V (.int x :: st) ws := fun H locs ls hP hD hS hl => lv_tableOut C.1 C.2.1 hd h ht (kk H locs ls hP hD hS hl)
theorem gx_tin (C : gx_ok Γ cc own Ts d) {dflt lo hi : Int} {offs : Array Int} {len : Nat} {x : Int32} {off : Int} {tgt : Nat} (hd : decode cc pc = .ok (.tableswitch dflt lo hi offs, len)) (h1 : ¬ x.toInt < lo) (h2 : ¬ hi < x.toInt) (ho : offs[(x.toInt - lo).toNat]? = some off) (ht : (pc : Int) + off = (tgt : Int)) (kk : gx_G Γ k n tgt V st ws) : gx_G Γ k n pc V (.int x :: st) ws := fun H locs ls hP hD hS hl => lv_tableIn C.1 C.2.1 hd h1 h2 ho ht (kk H locs ls hP hD hS hl)
theorem gx_look (C : gx_ok Γ cc own Ts d) {dflt : Int} {ps : Array (Int × Int)} {len : Nat} {x : Int32} {off : Int} {tgt : Nat} (hd : decode cc pc = .ok (.lookupswitch dflt ps, len)) (hp : (ps.toList.zip (ps.toList.drop 1)).all (fun (a, next) => a.1 < next.1) = true) (ho : Op.lookupswitch.offset ps.toList dflt x.toInt = off) (ht : (pc : Int) + off = (tgt : Int)) (kk : gx_G Γ k n tgt V st ws) : gx_G Γ k n pc V (.int x :: st) ws := fun H locs ls hP hD hS hl => lv_lookup C.1 C.2.1 hd hp ho ht (kk H locs ls hP hD hS hl)
end GX

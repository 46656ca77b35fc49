-- ===== end of PART A; then your names; then what follows =====
/-! THE CLAIM OUT OF ONE WALK OF THE LAW'S BODY. Your part is whole_start (and what it stands on); all else here is the same for every law, but numbers. -/
def R_law : String := "ShopsAsOneLaw"
def lw_P (b : Addr) (xs : List Int32) (args : Array Value) (s : State) : Prop := args = #[.ref b] ∧ s.IntsAt b xs ∧ xs.length ≤ 3584 ∧ (Jvm.Cond.and given_1 narrow_1).before args s = true
def lw_Q (_ : Array Value) (s : State) (o : Outcome) (t : State) : Prop := o = .returned (some (.int 1)) ∧ Framed s o t [] 600000 7302250
def lw_Z (below : List Frame) (a : Array Value) (s : State) : State → Prop := fun t => ∃ o, t.status = .running ∧ Ended t below o ∧ lw_Q a s o t
/-- the law's own end, with 1 on the stack, nothing written that was there before, its room as the claim has it -/
theorem lw_ret {p : Program} {l : Launch} {e : Env} {s : State} {m : MethodId} {below : List Frame} {meth : Method} {c : Code} {b : Nat} (hx : p.tables.exec = Jvm.exec) (hb : c.code = code) (hr : meth.sig.returnType = ret) (hlocks : meth.locks = false) {pc : Nat} {H : Heap} {ls : Array Slot} (hdg : decode code pc = .ok (.ireturn, 1)) : W p l e room_1 s m #[Value.ref b] below meth c H [] 600000 7302250 (lw_Z below #[Value.ref b] s) (F0 m pc ls [.int 1]) := by
  intro T hT X
  obtain ⟨fs, hret, hrun, hended, hW, hframe⟩ := X.leave (v := some (.int 1)) (hlocks := hlocks) (fun h => by rw [hr] at h; cases h)
  have hmeth' : T.vm.method? m = some meth := X.method'
  refine ⟨T.setFrames fs, ?_, .returned (some (.int 1)), hrun, hended, rfl, ⟨_, rfl⟩, hW, hframe⟩
  jvm_step X.here [X.here.top, hx, hb, hdg, hmeth', hr, ret, narrow_b1]
  (try refine ⟨rfl, ?_⟩); (try refine ⟨rfl, ?_⟩)
  first | (intro acts; rw [hret _ acts rfl rfl rfl]) | rw [hret _ _ rfl rfl rfl]
  exact Steps.refl _
/-- what holds at the law's entry: the machine, the code, the tables' words (any of lw_tbl by 'hts w (by decide +kernel)'), the script of L ints xs at the cell b, what the Statement gives of the start (any of its parts by flat_of_before) -/
def lw_At (p : Program) (s : State) (m : MethodId) (meth : Method) (c : Code) (b L : Nat) (xs : Nat → Int32) : Prop :=
  p.tables.exec = Jvm.exec ∧ c.code = code ∧ meth.sig.returnType = ret ∧ c.maxLocals = 4 ∧ s.vm.findClass R_law = some m.cls ∧ (∀ w ∈ lw_tbl, w.before #[Value.ref b] s = true) ∧ va_X b L xs s s.heap ∧ b < s.heap.size ∧ meth.locks = false ∧ (Jvm.Cond.and given_1 narrow_1).before #[Value.ref b] s = true

/-! the law: the script's row, two systems side by side, its end -/
def gx_scr (Γ : gx_T) (b0 L : Nat) (xs : Nat → Int32) : Prop := va_X b0 L xs (gx_s Γ) (gx_H0 Γ) ∧ b0 < (gx_H0 Γ).size ∧ ¬ gx_A Γ b0
section GL
variable {Γ : gx_T} {cc : ByteArray} {own : String} {Ts : List Cond} {d k n pc : Nat} {V st : List Value} {ws : va_W}
theorem gl_sld (C : gx_ok Γ cc own Ts d) {b0 L : Nat} {xs : Nat → Int32} (X : gx_scr Γ b0 L xs) {i : Int32} (hin : vp_in i L) (hd : decode cc pc = .ok (.iaload, 1)) (kk : gx_G Γ k n (pc + 1) V (.int (xs i.toNatClampNeg) :: st) ws) : gx_G Γ k n pc V (.int i :: .ref b0 :: st) ws := fun H locs ls hP hD hS hl =>
  va_sld C.1 C.2.1 X.1 X.2.1 X.2.2 hS hin hd (kk H locs ls hP hD hS hl)
theorem gl_slen (C : gx_ok Γ cc own Ts d) {b0 L : Nat} {xs : Nat → Int32} (X : gx_scr Γ b0 L xs) (hd : decode cc pc = .ok (.arraylength, 1)) (kk : gx_G Γ k n (pc + 1) V (.int (Int32.ofNat L) :: st) ws) : gx_G Γ k n pc V (.ref b0 :: st) ws := fun H locs ls hP hD hS hl =>
  va_slen C.1 C.2.1 X.1 X.2.1 X.2.2 hS hd (kk H locs ls hP hD hS hl)
def gl_fin (Γ : gx_T) (b0 : Nat) : Prop := gx_Q Γ = lw_Z (gx_below Γ) (gx_args Γ) (gx_s Γ) ∧ gx_args Γ = #[Value.ref b0] ∧ gx_A Γ = (fun q => (gx_s Γ).heap.size ≤ q) ∧ gx_H0 Γ = (gx_s Γ).heap ∧ gx_R Γ = room_1 ∧ (gx_meth Γ).sig.returnType = ret
theorem gl_ret (C : gx_ok Γ code own Ts d) {b0 : Nat} (F : gl_fin Γ b0) (hk : k ≤ 600000) (hn : n ≤ 7302250) (hd : decode code pc = .ok (.ireturn, 1)) : gx_G Γ k n pc V [.int 1] ws := fun H locs ls hP hD hS hl => by
  obtain ⟨hQ, ha, hA, hH, hR, hr⟩ := F
  rw [hA] at hS
  refine va_forget (fun q hq => hS.2.2 q hq) ?_
  refine W.widen hk hn ?_
  show W (gx_p Γ) (gx_l Γ) (gx_e Γ) (gx_R Γ) (gx_s Γ) (gx_m Γ) (gx_args Γ) (gx_below Γ) (gx_meth Γ) (gx_c Γ) H [] _ _ (gx_Q Γ) _
  rw [hQ, hR, ha]
  exact lw_ret C.1 C.2.1 hr C.2.2.2.2.2.2.2.1 hd
end GL
section GLC
variable {Γ : gx_T} {cc : ByteArray} {own : String} {Ts : List Cond} {d k n pc : Nat} {V rest st0 : List Value} {w w2 : va_W} {W1 : gx_S → va_W} {y : MethodName} {ws : List Cond} {rm : Room} {As : List Value} {ix maxL na : Nat} {bytes : ByteArray} {ret : Option FieldType} {b : Nat} {K : String}
theorem gcr_IV (C0 : gx_ok Γ cc own Ts d) {r1 : Int32} {S1 : gx_S} (hM : gx_mI (gx_l Γ) (gx_D Γ) (gx_cl Γ) (gx_ty Γ) y ws rm (.ref b :: As) w W1 (r1, S1)) (cw : CallW (gx_R Γ) (gx_s Γ) (gx_args Γ) own K ix y bytes maxL ret ws rm 0 0 na) {q ci N : Nat} {T : u_T} {fs : List Value} (hcl : (gx_cl Γ)[ci]? = some (K, T, N)) (he : w[q]? = some (b, .inr (ci, fs))) (hn : As.length = na) (hst : st0 = As.reverse ++ .ref b :: rest) (hW : (rest.map fun v => v.category).sum ≤ 8) (hb : k ≤ (gx_R Γ).cells ∧ n ≤ (gx_R Γ).slots) (hd : decode cc pc = .ok (.invokevirtual ix, 3)) (kk : gx_G Γ k n (pc + 3) V (.int r1 :: rest) (w2 ++ W1 S1)) : gx_G Γ k n pc V st0 (w2 ++ w) :=
  gx_perm List.perm_append_comm (gc_IVf C0 hM cw hcl he hn hst hW hb hd (gx_perm List.perm_append_comm kk))
theorem gcr_LV (C0 : gx_ok Γ cc own Ts d) {r1 : Int64} {S1 : gx_S} (hM : gx_mL (gx_l Γ) (gx_D Γ) (gx_cl Γ) (gx_ty Γ) y ws rm (.ref b :: As) w W1 (r1, S1)) (cw : CallW (gx_R Γ) (gx_s Γ) (gx_args Γ) own K ix y bytes maxL ret ws rm 0 0 na) {q ci N : Nat} {T : u_T} {fs : List Value} (hcl : (gx_cl Γ)[ci]? = some (K, T, N)) (he : w[q]? = some (b, .inr (ci, fs))) (hn : As.length = na) (hst : st0 = As.reverse ++ .ref b :: rest) (hW : (rest.map fun v => v.category).sum ≤ 8) (hb : k ≤ (gx_R Γ).cells ∧ n ≤ (gx_R Γ).slots) (hd : decode cc pc = .ok (.invokevirtual ix, 3)) (kk : gx_G Γ k n (pc + 3) V (.long r1 :: rest) (w2 ++ W1 S1)) : gx_G Γ k n pc V st0 (w2 ++ w) :=
  gx_perm List.perm_append_comm (gc_LVf C0 hM cw hcl he hn hst hW hb hd (gx_perm List.perm_append_comm kk))
theorem gl_len (xs : List Int32) : xs.length = xs.length := rfl
end GLC
theorem dL_law_0 : decode cL_law 0 = .ok (.new 7, 3) := by decide +kernel
theorem dL_law_3 : decode cL_law 3 = .ok (.dup, 1) := by decide +kernel
theorem dL_law_4 : decode cL_law 4 = .ok (.invokespecial 9, 3) := by decide +kernel
theorem dL_law_7 : decode cL_law 7 = .ok (.astore_n 1, 1) := by decide +kernel
theorem dL_law_8 : decode cL_law 8 = .ok (.new 10, 3) := by decide +kernel
theorem dL_law_11 : decode cL_law 11 = .ok (.dup, 1) := by decide +kernel
theorem dL_law_12 : decode cL_law 12 = .ok (.invokespecial 12, 3) := by decide +kernel
theorem dL_law_15 : decode cL_law 15 = .ok (.astore_n 2, 1) := by decide +kernel
theorem dL_law_16 : decode cL_law 16 = .ok (.iconst 0, 1) := by decide +kernel
theorem dL_law_17 : decode cL_law 17 = .ok (.istore_n 3, 1) := by decide +kernel
theorem dL_law_18 : decode cL_law 18 = .ok (.iload_n 3, 1) := by decide +kernel
theorem dL_law_19 : decode cL_law 19 = .ok (.aload_n 0, 1) := by decide +kernel
theorem dL_law_20 : decode cL_law 20 = .ok (.arraylength, 1) := by decide +kernel
theorem dL_law_21 : decode cL_law 21 = .ok (.bipush 7, 2) := by decide +kernel
theorem dL_law_23 : decode cL_law 23 = .ok (.isub, 1) := by decide +kernel
theorem dL_law_24 : decode cL_law 24 = .ok (.if_icmp .gt 1220, 3) := by decide +kernel
theorem dL_law_27 : decode cL_law 27 = .ok (.aload_n 0, 1) := by decide +kernel
theorem dL_law_28 : decode cL_law 28 = .ok (.iload_n 3, 1) := by decide +kernel
theorem dL_law_29 : decode cL_law 29 = .ok (.iaload, 1) := by decide +kernel
theorem dL_law_30 : decode cL_law 30 = .ok (.bipush 63, 2) := by decide +kernel
theorem dL_law_32 : decode cL_law 32 = .ok (.iand, 1) := by decide +kernel
theorem dL_law_33 : decode cL_law 33 = .ok (.tableswitch 1205 0 32 #[147, 180, 213, 266, 299, 332, 407, 440, 463, 486, 509, 542, 565, 578, 591, 614, 673, 706, 739, 772, 815, 858, 911, 974, 1027, 1040, 1053, 1066, 1109, 1142, 1155, 1168, 1191], 147) := by decide +kernel
theorem dL_law_180 : decode cL_law 180 = .ok (.aload_n 1, 1) := by decide +kernel
theorem dL_law_181 : decode cL_law 181 = .ok (.aload_n 0, 1) := by decide +kernel
theorem dL_law_182 : decode cL_law 182 = .ok (.iload_n 3, 1) := by decide +kernel
theorem dL_law_183 : decode cL_law 183 = .ok (.iconst 1, 1) := by decide +kernel
theorem dL_law_184 : decode cL_law 184 = .ok (.iadd, 1) := by decide +kernel
theorem dL_law_185 : decode cL_law 185 = .ok (.iaload, 1) := by decide +kernel
theorem dL_law_186 : decode cL_law 186 = .ok (.aload_n 0, 1) := by decide +kernel
theorem dL_law_187 : decode cL_law 187 = .ok (.iload_n 3, 1) := by decide +kernel
theorem dL_law_188 : decode cL_law 188 = .ok (.iconst 2, 1) := by decide +kernel
theorem dL_law_189 : decode cL_law 189 = .ok (.iadd, 1) := by decide +kernel
theorem dL_law_190 : decode cL_law 190 = .ok (.iaload, 1) := by decide +kernel
theorem dL_law_191 : decode cL_law 191 = .ok (.invokevirtual 13, 3) := by decide +kernel
theorem dL_law_194 : decode cL_law 194 = .ok (.pop, 1) := by decide +kernel
theorem dL_law_195 : decode cL_law 195 = .ok (.aload_n 2, 1) := by decide +kernel
theorem dL_law_196 : decode cL_law 196 = .ok (.aload_n 0, 1) := by decide +kernel
theorem dL_law_197 : decode cL_law 197 = .ok (.iload_n 3, 1) := by decide +kernel
theorem dL_law_198 : decode cL_law 198 = .ok (.iconst 1, 1) := by decide +kernel
theorem dL_law_199 : decode cL_law 199 = .ok (.iadd, 1) := by decide +kernel
theorem dL_law_200 : decode cL_law 200 = .ok (.iaload, 1) := by decide +kernel
theorem dL_law_201 : decode cL_law 201 = .ok (.aload_n 0, 1) := by decide +kernel
theorem dL_law_202 : decode cL_law 202 = .ok (.iload_n 3, 1) := by decide +kernel
theorem dL_law_203 : decode cL_law 203 = .ok (.iconst 2, 1) := by decide +kernel
theorem dL_law_204 : decode cL_law 204 = .ok (.iadd, 1) := by decide +kernel
theorem dL_law_205 : decode cL_law 205 = .ok (.iaload, 1) := by decide +kernel
theorem dL_law_206 : decode cL_law 206 = .ok (.invokevirtual 17, 3) := by decide +kernel
theorem dL_law_209 : decode cL_law 209 = .ok (.pop, 1) := by decide +kernel
theorem dL_law_210 : decode cL_law 210 = .ok (.goto 1028, 3) := by decide +kernel
theorem dL_law_213 : decode cL_law 213 = .ok (.aload_n 1, 1) := by decide +kernel
theorem dL_law_214 : decode cL_law 214 = .ok (.aload_n 0, 1) := by decide +kernel
theorem dL_law_215 : decode cL_law 215 = .ok (.iload_n 3, 1) := by decide +kernel
theorem dL_law_216 : decode cL_law 216 = .ok (.iconst 1, 1) := by decide +kernel
theorem dL_law_217 : decode cL_law 217 = .ok (.iadd, 1) := by decide +kernel
theorem dL_law_218 : decode cL_law 218 = .ok (.iaload, 1) := by decide +kernel
theorem dL_law_219 : decode cL_law 219 = .ok (.aload_n 0, 1) := by decide +kernel
theorem dL_law_220 : decode cL_law 220 = .ok (.iload_n 3, 1) := by decide +kernel
theorem dL_law_221 : decode cL_law 221 = .ok (.iconst 2, 1) := by decide +kernel
theorem dL_law_222 : decode cL_law 222 = .ok (.iadd, 1) := by decide +kernel
theorem dL_law_223 : decode cL_law 223 = .ok (.iaload, 1) := by decide +kernel
theorem dL_law_224 : decode cL_law 224 = .ok (.invokevirtual 18, 3) := by decide +kernel
theorem dL_law_227 : decode cL_law 227 = .ok (.pop, 1) := by decide +kernel
theorem dL_law_228 : decode cL_law 228 = .ok (.aload_n 2, 1) := by decide +kernel
theorem dL_law_229 : decode cL_law 229 = .ok (.aload_n 0, 1) := by decide +kernel
theorem dL_law_230 : decode cL_law 230 = .ok (.iload_n 3, 1) := by decide +kernel
theorem dL_law_231 : decode cL_law 231 = .ok (.iconst 1, 1) := by decide +kernel
theorem dL_law_232 : decode cL_law 232 = .ok (.iadd, 1) := by decide +kernel
theorem dL_law_233 : decode cL_law 233 = .ok (.iaload, 1) := by decide +kernel
theorem dL_law_234 : decode cL_law 234 = .ok (.aload_n 0, 1) := by decide +kernel
theorem dL_law_235 : decode cL_law 235 = .ok (.iload_n 3, 1) := by decide +kernel
theorem dL_law_236 : decode cL_law 236 = .ok (.iconst 2, 1) := by decide +kernel
theorem dL_law_237 : decode cL_law 237 = .ok (.iadd, 1) := by decide +kernel
theorem dL_law_238 : decode cL_law 238 = .ok (.iaload, 1) := by decide +kernel
theorem dL_law_239 : decode cL_law 239 = .ok (.invokevirtual 21, 3) := by decide +kernel
theorem dL_law_242 : decode cL_law 242 = .ok (.pop, 1) := by decide +kernel
theorem dL_law_243 : decode cL_law 243 = .ok (.goto 995, 3) := by decide +kernel
theorem dL_law_246 : decode cL_law 246 = .ok (.aload_n 1, 1) := by decide +kernel
theorem dL_law_247 : decode cL_law 247 = .ok (.aload_n 0, 1) := by decide +kernel
theorem dL_law_248 : decode cL_law 248 = .ok (.iload_n 3, 1) := by decide +kernel
theorem dL_law_249 : decode cL_law 249 = .ok (.iconst 1, 1) := by decide +kernel
theorem dL_law_250 : decode cL_law 250 = .ok (.iadd, 1) := by decide +kernel
theorem dL_law_251 : decode cL_law 251 = .ok (.iaload, 1) := by decide +kernel
theorem dL_law_252 : decode cL_law 252 = .ok (.aload_n 0, 1) := by decide +kernel
theorem dL_law_253 : decode cL_law 253 = .ok (.iload_n 3, 1) := by decide +kernel
theorem dL_law_254 : decode cL_law 254 = .ok (.iconst 2, 1) := by decide +kernel
theorem dL_law_255 : decode cL_law 255 = .ok (.iadd, 1) := by decide +kernel
theorem dL_law_256 : decode cL_law 256 = .ok (.iaload, 1) := by decide +kernel
theorem dL_law_257 : decode cL_law 257 = .ok (.aload_n 0, 1) := by decide +kernel
theorem dL_law_258 : decode cL_law 258 = .ok (.iload_n 3, 1) := by decide +kernel
theorem dL_law_259 : decode cL_law 259 = .ok (.iconst 3, 1) := by decide +kernel
theorem dL_law_260 : decode cL_law 260 = .ok (.iadd, 1) := by decide +kernel
theorem dL_law_261 : decode cL_law 261 = .ok (.iaload, 1) := by decide +kernel
theorem dL_law_262 : decode cL_law 262 = .ok (.aload_n 0, 1) := by decide +kernel
theorem dL_law_263 : decode cL_law 263 = .ok (.iload_n 3, 1) := by decide +kernel
theorem dL_law_264 : decode cL_law 264 = .ok (.iconst 4, 1) := by decide +kernel
theorem dL_law_265 : decode cL_law 265 = .ok (.iadd, 1) := by decide +kernel
theorem dL_law_266 : decode cL_law 266 = .ok (.iaload, 1) := by decide +kernel
theorem dL_law_267 : decode cL_law 267 = .ok (.invokevirtual 22, 3) := by decide +kernel
theorem dL_law_270 : decode cL_law 270 = .ok (.pop, 1) := by decide +kernel
theorem dL_law_271 : decode cL_law 271 = .ok (.aload_n 2, 1) := by decide +kernel
theorem dL_law_272 : decode cL_law 272 = .ok (.aload_n 0, 1) := by decide +kernel
theorem dL_law_273 : decode cL_law 273 = .ok (.iload_n 3, 1) := by decide +kernel
theorem dL_law_274 : decode cL_law 274 = .ok (.iconst 1, 1) := by decide +kernel
theorem dL_law_275 : decode cL_law 275 = .ok (.iadd, 1) := by decide +kernel
theorem dL_law_276 : decode cL_law 276 = .ok (.iaload, 1) := by decide +kernel
theorem dL_law_277 : decode cL_law 277 = .ok (.aload_n 0, 1) := by decide +kernel
theorem dL_law_278 : decode cL_law 278 = .ok (.iload_n 3, 1) := by decide +kernel
theorem dL_law_279 : decode cL_law 279 = .ok (.iconst 2, 1) := by decide +kernel
theorem dL_law_280 : decode cL_law 280 = .ok (.iadd, 1) := by decide +kernel
theorem dL_law_281 : decode cL_law 281 = .ok (.iaload, 1) := by decide +kernel
theorem dL_law_282 : decode cL_law 282 = .ok (.aload_n 0, 1) := by decide +kernel
theorem dL_law_283 : decode cL_law 283 = .ok (.iload_n 3, 1) := by decide +kernel
theorem dL_law_284 : decode cL_law 284 = .ok (.iconst 3, 1) := by decide +kernel
theorem dL_law_285 : decode cL_law 285 = .ok (.iadd, 1) := by decide +kernel
theorem dL_law_286 : decode cL_law 286 = .ok (.iaload, 1) := by decide +kernel
theorem dL_law_287 : decode cL_law 287 = .ok (.aload_n 0, 1) := by decide +kernel
theorem dL_law_288 : decode cL_law 288 = .ok (.iload_n 3, 1) := by decide +kernel
theorem dL_law_289 : decode cL_law 289 = .ok (.iconst 4, 1) := by decide +kernel
theorem dL_law_290 : decode cL_law 290 = .ok (.iadd, 1) := by decide +kernel
theorem dL_law_291 : decode cL_law 291 = .ok (.iaload, 1) := by decide +kernel
theorem dL_law_292 : decode cL_law 292 = .ok (.invokevirtual 26, 3) := by decide +kernel
theorem dL_law_295 : decode cL_law 295 = .ok (.pop, 1) := by decide +kernel
theorem dL_law_296 : decode cL_law 296 = .ok (.goto 942, 3) := by decide +kernel
theorem dL_law_299 : decode cL_law 299 = .ok (.aload_n 1, 1) := by decide +kernel
theorem dL_law_300 : decode cL_law 300 = .ok (.aload_n 0, 1) := by decide +kernel
theorem dL_law_301 : decode cL_law 301 = .ok (.iload_n 3, 1) := by decide +kernel
theorem dL_law_302 : decode cL_law 302 = .ok (.iconst 1, 1) := by decide +kernel
theorem dL_law_303 : decode cL_law 303 = .ok (.iadd, 1) := by decide +kernel
theorem dL_law_304 : decode cL_law 304 = .ok (.iaload, 1) := by decide +kernel
theorem dL_law_305 : decode cL_law 305 = .ok (.aload_n 0, 1) := by decide +kernel
theorem dL_law_306 : decode cL_law 306 = .ok (.iload_n 3, 1) := by decide +kernel
theorem dL_law_307 : decode cL_law 307 = .ok (.iconst 2, 1) := by decide +kernel
theorem dL_law_308 : decode cL_law 308 = .ok (.iadd, 1) := by decide +kernel
theorem dL_law_309 : decode cL_law 309 = .ok (.iaload, 1) := by decide +kernel
theorem dL_law_310 : decode cL_law 310 = .ok (.invokevirtual 27, 3) := by decide +kernel
theorem dL_law_313 : decode cL_law 313 = .ok (.pop, 1) := by decide +kernel
theorem dL_law_314 : decode cL_law 314 = .ok (.aload_n 2, 1) := by decide +kernel
theorem dL_law_315 : decode cL_law 315 = .ok (.aload_n 0, 1) := by decide +kernel
theorem dL_law_316 : decode cL_law 316 = .ok (.iload_n 3, 1) := by decide +kernel
theorem dL_law_317 : decode cL_law 317 = .ok (.iconst 1, 1) := by decide +kernel
theorem dL_law_318 : decode cL_law 318 = .ok (.iadd, 1) := by decide +kernel
theorem dL_law_319 : decode cL_law 319 = .ok (.iaload, 1) := by decide +kernel
theorem dL_law_320 : decode cL_law 320 = .ok (.aload_n 0, 1) := by decide +kernel
theorem dL_law_321 : decode cL_law 321 = .ok (.iload_n 3, 1) := by decide +kernel
theorem dL_law_322 : decode cL_law 322 = .ok (.iconst 2, 1) := by decide +kernel
theorem dL_law_323 : decode cL_law 323 = .ok (.iadd, 1) := by decide +kernel
theorem dL_law_324 : decode cL_law 324 = .ok (.iaload, 1) := by decide +kernel
theorem dL_law_325 : decode cL_law 325 = .ok (.invokevirtual 30, 3) := by decide +kernel
theorem dL_law_328 : decode cL_law 328 = .ok (.pop, 1) := by decide +kernel
theorem dL_law_329 : decode cL_law 329 = .ok (.goto 909, 3) := by decide +kernel
theorem dL_law_332 : decode cL_law 332 = .ok (.aload_n 1, 1) := by decide +kernel
theorem dL_law_333 : decode cL_law 333 = .ok (.aload_n 0, 1) := by decide +kernel
theorem dL_law_334 : decode cL_law 334 = .ok (.iload_n 3, 1) := by decide +kernel
theorem dL_law_335 : decode cL_law 335 = .ok (.iconst 1, 1) := by decide +kernel
theorem dL_law_336 : decode cL_law 336 = .ok (.iadd, 1) := by decide +kernel
theorem dL_law_337 : decode cL_law 337 = .ok (.iaload, 1) := by decide +kernel
theorem dL_law_338 : decode cL_law 338 = .ok (.aload_n 0, 1) := by decide +kernel
theorem dL_law_339 : decode cL_law 339 = .ok (.iload_n 3, 1) := by decide +kernel
theorem dL_law_340 : decode cL_law 340 = .ok (.iconst 2, 1) := by decide +kernel
theorem dL_law_341 : decode cL_law 341 = .ok (.iadd, 1) := by decide +kernel
theorem dL_law_342 : decode cL_law 342 = .ok (.iaload, 1) := by decide +kernel
theorem dL_law_343 : decode cL_law 343 = .ok (.invokevirtual 31, 3) := by decide +kernel
theorem dL_law_346 : decode cL_law 346 = .ok (.pop, 1) := by decide +kernel
theorem dL_law_347 : decode cL_law 347 = .ok (.aload_n 2, 1) := by decide +kernel
theorem dL_law_348 : decode cL_law 348 = .ok (.aload_n 0, 1) := by decide +kernel
theorem dL_law_349 : decode cL_law 349 = .ok (.iload_n 3, 1) := by decide +kernel
theorem dL_law_350 : decode cL_law 350 = .ok (.iconst 1, 1) := by decide +kernel
theorem dL_law_351 : decode cL_law 351 = .ok (.iadd, 1) := by decide +kernel
theorem dL_law_352 : decode cL_law 352 = .ok (.iaload, 1) := by decide +kernel
theorem dL_law_353 : decode cL_law 353 = .ok (.aload_n 0, 1) := by decide +kernel
theorem dL_law_354 : decode cL_law 354 = .ok (.iload_n 3, 1) := by decide +kernel
theorem dL_law_355 : decode cL_law 355 = .ok (.iconst 2, 1) := by decide +kernel
theorem dL_law_356 : decode cL_law 356 = .ok (.iadd, 1) := by decide +kernel
theorem dL_law_357 : decode cL_law 357 = .ok (.iaload, 1) := by decide +kernel
theorem dL_law_358 : decode cL_law 358 = .ok (.invokevirtual 34, 3) := by decide +kernel
theorem dL_law_361 : decode cL_law 361 = .ok (.pop, 1) := by decide +kernel
theorem dL_law_362 : decode cL_law 362 = .ok (.goto 876, 3) := by decide +kernel
theorem dL_law_365 : decode cL_law 365 = .ok (.aload_n 1, 1) := by decide +kernel
theorem dL_law_366 : decode cL_law 366 = .ok (.aload_n 0, 1) := by decide +kernel
theorem dL_law_367 : decode cL_law 367 = .ok (.iload_n 3, 1) := by decide +kernel
theorem dL_law_368 : decode cL_law 368 = .ok (.iconst 1, 1) := by decide +kernel
theorem dL_law_369 : decode cL_law 369 = .ok (.iadd, 1) := by decide +kernel
theorem dL_law_370 : decode cL_law 370 = .ok (.iaload, 1) := by decide +kernel
theorem dL_law_371 : decode cL_law 371 = .ok (.aload_n 0, 1) := by decide +kernel
theorem dL_law_372 : decode cL_law 372 = .ok (.iload_n 3, 1) := by decide +kernel
theorem dL_law_373 : decode cL_law 373 = .ok (.iconst 2, 1) := by decide +kernel
theorem dL_law_374 : decode cL_law 374 = .ok (.iadd, 1) := by decide +kernel
theorem dL_law_375 : decode cL_law 375 = .ok (.iaload, 1) := by decide +kernel
theorem dL_law_376 : decode cL_law 376 = .ok (.aload_n 0, 1) := by decide +kernel
theorem dL_law_377 : decode cL_law 377 = .ok (.iload_n 3, 1) := by decide +kernel
theorem dL_law_378 : decode cL_law 378 = .ok (.iconst 3, 1) := by decide +kernel
theorem dL_law_379 : decode cL_law 379 = .ok (.iadd, 1) := by decide +kernel
theorem dL_law_380 : decode cL_law 380 = .ok (.iaload, 1) := by decide +kernel
theorem dL_law_381 : decode cL_law 381 = .ok (.aload_n 0, 1) := by decide +kernel
theorem dL_law_382 : decode cL_law 382 = .ok (.iload_n 3, 1) := by decide +kernel
theorem dL_law_383 : decode cL_law 383 = .ok (.iconst 4, 1) := by decide +kernel
theorem dL_law_384 : decode cL_law 384 = .ok (.iadd, 1) := by decide +kernel
theorem dL_law_385 : decode cL_law 385 = .ok (.iaload, 1) := by decide +kernel
theorem dL_law_386 : decode cL_law 386 = .ok (.aload_n 0, 1) := by decide +kernel
theorem dL_law_387 : decode cL_law 387 = .ok (.iload_n 3, 1) := by decide +kernel
theorem dL_law_388 : decode cL_law 388 = .ok (.iconst 5, 1) := by decide +kernel
theorem dL_law_389 : decode cL_law 389 = .ok (.iadd, 1) := by decide +kernel
theorem dL_law_390 : decode cL_law 390 = .ok (.iaload, 1) := by decide +kernel
theorem dL_law_391 : decode cL_law 391 = .ok (.aload_n 0, 1) := by decide +kernel
theorem dL_law_392 : decode cL_law 392 = .ok (.iload_n 3, 1) := by decide +kernel
theorem dL_law_393 : decode cL_law 393 = .ok (.bipush 6, 2) := by decide +kernel
theorem dL_law_395 : decode cL_law 395 = .ok (.iadd, 1) := by decide +kernel
theorem dL_law_396 : decode cL_law 396 = .ok (.iaload, 1) := by decide +kernel
theorem dL_law_397 : decode cL_law 397 = .ok (.invokevirtual 35, 3) := by decide +kernel
theorem dL_law_400 : decode cL_law 400 = .ok (.pop, 1) := by decide +kernel
theorem dL_law_401 : decode cL_law 401 = .ok (.aload_n 2, 1) := by decide +kernel
theorem dL_law_402 : decode cL_law 402 = .ok (.aload_n 0, 1) := by decide +kernel
theorem dL_law_403 : decode cL_law 403 = .ok (.iload_n 3, 1) := by decide +kernel
theorem dL_law_404 : decode cL_law 404 = .ok (.iconst 1, 1) := by decide +kernel
theorem dL_law_405 : decode cL_law 405 = .ok (.iadd, 1) := by decide +kernel
theorem dL_law_406 : decode cL_law 406 = .ok (.iaload, 1) := by decide +kernel
theorem dL_law_407 : decode cL_law 407 = .ok (.aload_n 0, 1) := by decide +kernel
theorem dL_law_408 : decode cL_law 408 = .ok (.iload_n 3, 1) := by decide +kernel
theorem dL_law_409 : decode cL_law 409 = .ok (.iconst 2, 1) := by decide +kernel
theorem dL_law_410 : decode cL_law 410 = .ok (.iadd, 1) := by decide +kernel
theorem dL_law_411 : decode cL_law 411 = .ok (.iaload, 1) := by decide +kernel
theorem dL_law_412 : decode cL_law 412 = .ok (.aload_n 0, 1) := by decide +kernel
theorem dL_law_413 : decode cL_law 413 = .ok (.iload_n 3, 1) := by decide +kernel
theorem dL_law_414 : decode cL_law 414 = .ok (.iconst 3, 1) := by decide +kernel
theorem dL_law_415 : decode cL_law 415 = .ok (.iadd, 1) := by decide +kernel
theorem dL_law_416 : decode cL_law 416 = .ok (.iaload, 1) := by decide +kernel
theorem dL_law_417 : decode cL_law 417 = .ok (.aload_n 0, 1) := by decide +kernel
theorem dL_law_418 : decode cL_law 418 = .ok (.iload_n 3, 1) := by decide +kernel
theorem dL_law_419 : decode cL_law 419 = .ok (.iconst 4, 1) := by decide +kernel
theorem dL_law_420 : decode cL_law 420 = .ok (.iadd, 1) := by decide +kernel
theorem dL_law_421 : decode cL_law 421 = .ok (.iaload, 1) := by decide +kernel
theorem dL_law_422 : decode cL_law 422 = .ok (.aload_n 0, 1) := by decide +kernel
theorem dL_law_423 : decode cL_law 423 = .ok (.iload_n 3, 1) := by decide +kernel
theorem dL_law_424 : decode cL_law 424 = .ok (.iconst 5, 1) := by decide +kernel
theorem dL_law_425 : decode cL_law 425 = .ok (.iadd, 1) := by decide +kernel
theorem dL_law_426 : decode cL_law 426 = .ok (.iaload, 1) := by decide +kernel
theorem dL_law_427 : decode cL_law 427 = .ok (.aload_n 0, 1) := by decide +kernel
theorem dL_law_428 : decode cL_law 428 = .ok (.iload_n 3, 1) := by decide +kernel
theorem dL_law_429 : decode cL_law 429 = .ok (.bipush 6, 2) := by decide +kernel
theorem dL_law_431 : decode cL_law 431 = .ok (.iadd, 1) := by decide +kernel
theorem dL_law_432 : decode cL_law 432 = .ok (.iaload, 1) := by decide +kernel
theorem dL_law_433 : decode cL_law 433 = .ok (.invokevirtual 39, 3) := by decide +kernel
theorem dL_law_436 : decode cL_law 436 = .ok (.pop, 1) := by decide +kernel
theorem dL_law_437 : decode cL_law 437 = .ok (.goto 801, 3) := by decide +kernel
theorem dL_law_440 : decode cL_law 440 = .ok (.aload_n 1, 1) := by decide +kernel
theorem dL_law_441 : decode cL_law 441 = .ok (.aload_n 0, 1) := by decide +kernel
theorem dL_law_442 : decode cL_law 442 = .ok (.iload_n 3, 1) := by decide +kernel
theorem dL_law_443 : decode cL_law 443 = .ok (.iconst 1, 1) := by decide +kernel
theorem dL_law_444 : decode cL_law 444 = .ok (.iadd, 1) := by decide +kernel
theorem dL_law_445 : decode cL_law 445 = .ok (.iaload, 1) := by decide +kernel
theorem dL_law_446 : decode cL_law 446 = .ok (.aload_n 0, 1) := by decide +kernel
theorem dL_law_447 : decode cL_law 447 = .ok (.iload_n 3, 1) := by decide +kernel
theorem dL_law_448 : decode cL_law 448 = .ok (.iconst 2, 1) := by decide +kernel
theorem dL_law_449 : decode cL_law 449 = .ok (.iadd, 1) := by decide +kernel
theorem dL_law_450 : decode cL_law 450 = .ok (.iaload, 1) := by decide +kernel
theorem dL_law_451 : decode cL_law 451 = .ok (.invokevirtual 40, 3) := by decide +kernel
theorem dL_law_454 : decode cL_law 454 = .ok (.pop, 1) := by decide +kernel
theorem dL_law_455 : decode cL_law 455 = .ok (.aload_n 2, 1) := by decide +kernel
theorem dL_law_456 : decode cL_law 456 = .ok (.aload_n 0, 1) := by decide +kernel
theorem dL_law_457 : decode cL_law 457 = .ok (.iload_n 3, 1) := by decide +kernel
theorem dL_law_458 : decode cL_law 458 = .ok (.iconst 1, 1) := by decide +kernel
theorem dL_law_459 : decode cL_law 459 = .ok (.iadd, 1) := by decide +kernel
theorem dL_law_460 : decode cL_law 460 = .ok (.iaload, 1) := by decide +kernel
theorem dL_law_461 : decode cL_law 461 = .ok (.aload_n 0, 1) := by decide +kernel
theorem dL_law_462 : decode cL_law 462 = .ok (.iload_n 3, 1) := by decide +kernel
theorem dL_law_463 : decode cL_law 463 = .ok (.iconst 2, 1) := by decide +kernel
theorem dL_law_464 : decode cL_law 464 = .ok (.iadd, 1) := by decide +kernel
theorem dL_law_465 : decode cL_law 465 = .ok (.iaload, 1) := by decide +kernel
theorem dL_law_466 : decode cL_law 466 = .ok (.invokevirtual 43, 3) := by decide +kernel
theorem dL_law_469 : decode cL_law 469 = .ok (.pop, 1) := by decide +kernel
theorem dL_law_470 : decode cL_law 470 = .ok (.goto 768, 3) := by decide +kernel
theorem dL_law_473 : decode cL_law 473 = .ok (.aload_n 1, 1) := by decide +kernel
theorem dL_law_474 : decode cL_law 474 = .ok (.aload_n 0, 1) := by decide +kernel
theorem dL_law_475 : decode cL_law 475 = .ok (.iload_n 3, 1) := by decide +kernel
theorem dL_law_476 : decode cL_law 476 = .ok (.iconst 1, 1) := by decide +kernel
theorem dL_law_477 : decode cL_law 477 = .ok (.iadd, 1) := by decide +kernel
theorem dL_law_478 : decode cL_law 478 = .ok (.iaload, 1) := by decide +kernel
theorem dL_law_479 : decode cL_law 479 = .ok (.invokevirtual 44, 3) := by decide +kernel
theorem dL_law_482 : decode cL_law 482 = .ok (.pop, 1) := by decide +kernel
theorem dL_law_483 : decode cL_law 483 = .ok (.aload_n 2, 1) := by decide +kernel
theorem dL_law_484 : decode cL_law 484 = .ok (.aload_n 0, 1) := by decide +kernel
theorem dL_law_485 : decode cL_law 485 = .ok (.iload_n 3, 1) := by decide +kernel
theorem dL_law_486 : decode cL_law 486 = .ok (.iconst 1, 1) := by decide +kernel
theorem dL_law_487 : decode cL_law 487 = .ok (.iadd, 1) := by decide +kernel
theorem dL_law_488 : decode cL_law 488 = .ok (.iaload, 1) := by decide +kernel
theorem dL_law_489 : decode cL_law 489 = .ok (.invokevirtual 48, 3) := by decide +kernel
theorem dL_law_492 : decode cL_law 492 = .ok (.pop, 1) := by decide +kernel
theorem dL_law_493 : decode cL_law 493 = .ok (.goto 745, 3) := by decide +kernel
theorem dL_law_496 : decode cL_law 496 = .ok (.aload_n 1, 1) := by decide +kernel
theorem dL_law_497 : decode cL_law 497 = .ok (.aload_n 0, 1) := by decide +kernel
theorem dL_law_498 : decode cL_law 498 = .ok (.iload_n 3, 1) := by decide +kernel
theorem dL_law_499 : decode cL_law 499 = .ok (.iconst 1, 1) := by decide +kernel
theorem dL_law_500 : decode cL_law 500 = .ok (.iadd, 1) := by decide +kernel
theorem dL_law_501 : decode cL_law 501 = .ok (.iaload, 1) := by decide +kernel
theorem dL_law_502 : decode cL_law 502 = .ok (.invokevirtual 49, 3) := by decide +kernel
theorem dL_law_505 : decode cL_law 505 = .ok (.pop, 1) := by decide +kernel
theorem dL_law_506 : decode cL_law 506 = .ok (.aload_n 2, 1) := by decide +kernel
theorem dL_law_507 : decode cL_law 507 = .ok (.aload_n 0, 1) := by decide +kernel
theorem dL_law_508 : decode cL_law 508 = .ok (.iload_n 3, 1) := by decide +kernel
theorem dL_law_509 : decode cL_law 509 = .ok (.iconst 1, 1) := by decide +kernel
theorem dL_law_510 : decode cL_law 510 = .ok (.iadd, 1) := by decide +kernel
theorem dL_law_511 : decode cL_law 511 = .ok (.iaload, 1) := by decide +kernel
theorem dL_law_512 : decode cL_law 512 = .ok (.invokevirtual 52, 3) := by decide +kernel
theorem dL_law_515 : decode cL_law 515 = .ok (.pop, 1) := by decide +kernel
theorem dL_law_516 : decode cL_law 516 = .ok (.goto 722, 3) := by decide +kernel
theorem dL_law_519 : decode cL_law 519 = .ok (.aload_n 1, 1) := by decide +kernel
theorem dL_law_520 : decode cL_law 520 = .ok (.aload_n 0, 1) := by decide +kernel
theorem dL_law_521 : decode cL_law 521 = .ok (.iload_n 3, 1) := by decide +kernel
theorem dL_law_522 : decode cL_law 522 = .ok (.iconst 1, 1) := by decide +kernel
theorem dL_law_523 : decode cL_law 523 = .ok (.iadd, 1) := by decide +kernel
theorem dL_law_524 : decode cL_law 524 = .ok (.iaload, 1) := by decide +kernel
theorem dL_law_525 : decode cL_law 525 = .ok (.invokevirtual 53, 3) := by decide +kernel
theorem dL_law_528 : decode cL_law 528 = .ok (.pop, 1) := by decide +kernel
theorem dL_law_529 : decode cL_law 529 = .ok (.aload_n 2, 1) := by decide +kernel
theorem dL_law_530 : decode cL_law 530 = .ok (.aload_n 0, 1) := by decide +kernel
theorem dL_law_531 : decode cL_law 531 = .ok (.iload_n 3, 1) := by decide +kernel
theorem dL_law_532 : decode cL_law 532 = .ok (.iconst 1, 1) := by decide +kernel
theorem dL_law_533 : decode cL_law 533 = .ok (.iadd, 1) := by decide +kernel
theorem dL_law_534 : decode cL_law 534 = .ok (.iaload, 1) := by decide +kernel
theorem dL_law_535 : decode cL_law 535 = .ok (.invokevirtual 56, 3) := by decide +kernel
theorem dL_law_538 : decode cL_law 538 = .ok (.pop, 1) := by decide +kernel
theorem dL_law_539 : decode cL_law 539 = .ok (.goto 699, 3) := by decide +kernel
theorem dL_law_542 : decode cL_law 542 = .ok (.aload_n 1, 1) := by decide +kernel
theorem dL_law_543 : decode cL_law 543 = .ok (.aload_n 0, 1) := by decide +kernel
theorem dL_law_544 : decode cL_law 544 = .ok (.iload_n 3, 1) := by decide +kernel
theorem dL_law_545 : decode cL_law 545 = .ok (.iconst 1, 1) := by decide +kernel
theorem dL_law_546 : decode cL_law 546 = .ok (.iadd, 1) := by decide +kernel
theorem dL_law_547 : decode cL_law 547 = .ok (.iaload, 1) := by decide +kernel
theorem dL_law_548 : decode cL_law 548 = .ok (.aload_n 0, 1) := by decide +kernel
theorem dL_law_549 : decode cL_law 549 = .ok (.iload_n 3, 1) := by decide +kernel
theorem dL_law_550 : decode cL_law 550 = .ok (.iconst 2, 1) := by decide +kernel
theorem dL_law_551 : decode cL_law 551 = .ok (.iadd, 1) := by decide +kernel
theorem dL_law_552 : decode cL_law 552 = .ok (.iaload, 1) := by decide +kernel
theorem dL_law_553 : decode cL_law 553 = .ok (.invokevirtual 57, 3) := by decide +kernel
theorem dL_law_556 : decode cL_law 556 = .ok (.pop, 1) := by decide +kernel
theorem dL_law_557 : decode cL_law 557 = .ok (.aload_n 2, 1) := by decide +kernel
theorem dL_law_558 : decode cL_law 558 = .ok (.aload_n 0, 1) := by decide +kernel
theorem dL_law_559 : decode cL_law 559 = .ok (.iload_n 3, 1) := by decide +kernel
theorem dL_law_560 : decode cL_law 560 = .ok (.iconst 1, 1) := by decide +kernel
theorem dL_law_561 : decode cL_law 561 = .ok (.iadd, 1) := by decide +kernel
theorem dL_law_562 : decode cL_law 562 = .ok (.iaload, 1) := by decide +kernel
theorem dL_law_563 : decode cL_law 563 = .ok (.aload_n 0, 1) := by decide +kernel
theorem dL_law_564 : decode cL_law 564 = .ok (.iload_n 3, 1) := by decide +kernel
theorem dL_law_565 : decode cL_law 565 = .ok (.iconst 2, 1) := by decide +kernel
theorem dL_law_566 : decode cL_law 566 = .ok (.iadd, 1) := by decide +kernel
theorem dL_law_567 : decode cL_law 567 = .ok (.iaload, 1) := by decide +kernel
theorem dL_law_568 : decode cL_law 568 = .ok (.invokevirtual 60, 3) := by decide +kernel
theorem dL_law_571 : decode cL_law 571 = .ok (.pop, 1) := by decide +kernel
theorem dL_law_572 : decode cL_law 572 = .ok (.goto 666, 3) := by decide +kernel
theorem dL_law_575 : decode cL_law 575 = .ok (.aload_n 1, 1) := by decide +kernel
theorem dL_law_576 : decode cL_law 576 = .ok (.aload_n 0, 1) := by decide +kernel
theorem dL_law_577 : decode cL_law 577 = .ok (.iload_n 3, 1) := by decide +kernel
theorem dL_law_578 : decode cL_law 578 = .ok (.iconst 1, 1) := by decide +kernel
theorem dL_law_579 : decode cL_law 579 = .ok (.iadd, 1) := by decide +kernel
theorem dL_law_580 : decode cL_law 580 = .ok (.iaload, 1) := by decide +kernel
theorem dL_law_581 : decode cL_law 581 = .ok (.invokevirtual 61, 3) := by decide +kernel
theorem dL_law_584 : decode cL_law 584 = .ok (.pop, 1) := by decide +kernel
theorem dL_law_585 : decode cL_law 585 = .ok (.aload_n 2, 1) := by decide +kernel
theorem dL_law_586 : decode cL_law 586 = .ok (.aload_n 0, 1) := by decide +kernel
theorem dL_law_587 : decode cL_law 587 = .ok (.iload_n 3, 1) := by decide +kernel
theorem dL_law_588 : decode cL_law 588 = .ok (.iconst 1, 1) := by decide +kernel
theorem dL_law_589 : decode cL_law 589 = .ok (.iadd, 1) := by decide +kernel
theorem dL_law_590 : decode cL_law 590 = .ok (.iaload, 1) := by decide +kernel
theorem dL_law_591 : decode cL_law 591 = .ok (.invokevirtual 64, 3) := by decide +kernel
theorem dL_law_594 : decode cL_law 594 = .ok (.pop, 1) := by decide +kernel
theorem dL_law_595 : decode cL_law 595 = .ok (.goto 643, 3) := by decide +kernel
theorem dL_law_598 : decode cL_law 598 = .ok (.aload_n 1, 1) := by decide +kernel
theorem dL_law_599 : decode cL_law 599 = .ok (.invokevirtual 65, 3) := by decide +kernel
theorem dL_law_602 : decode cL_law 602 = .ok (.pop, 1) := by decide +kernel
theorem dL_law_603 : decode cL_law 603 = .ok (.aload_n 2, 1) := by decide +kernel
theorem dL_law_604 : decode cL_law 604 = .ok (.invokevirtual 69, 3) := by decide +kernel
theorem dL_law_607 : decode cL_law 607 = .ok (.pop, 1) := by decide +kernel
theorem dL_law_608 : decode cL_law 608 = .ok (.goto 630, 3) := by decide +kernel
theorem dL_law_611 : decode cL_law 611 = .ok (.aload_n 1, 1) := by decide +kernel
theorem dL_law_612 : decode cL_law 612 = .ok (.invokevirtual 70, 3) := by decide +kernel
theorem dL_law_615 : decode cL_law 615 = .ok (.pop, 1) := by decide +kernel
theorem dL_law_616 : decode cL_law 616 = .ok (.aload_n 2, 1) := by decide +kernel
theorem dL_law_617 : decode cL_law 617 = .ok (.invokevirtual 73, 3) := by decide +kernel
theorem dL_law_620 : decode cL_law 620 = .ok (.pop, 1) := by decide +kernel
theorem dL_law_621 : decode cL_law 621 = .ok (.goto 617, 3) := by decide +kernel
theorem dL_law_624 : decode cL_law 624 = .ok (.aload_n 1, 1) := by decide +kernel
theorem dL_law_625 : decode cL_law 625 = .ok (.aload_n 0, 1) := by decide +kernel
theorem dL_law_626 : decode cL_law 626 = .ok (.iload_n 3, 1) := by decide +kernel
theorem dL_law_627 : decode cL_law 627 = .ok (.iconst 1, 1) := by decide +kernel
theorem dL_law_628 : decode cL_law 628 = .ok (.iadd, 1) := by decide +kernel
theorem dL_law_629 : decode cL_law 629 = .ok (.iaload, 1) := by decide +kernel
theorem dL_law_630 : decode cL_law 630 = .ok (.invokevirtual 74, 3) := by decide +kernel
theorem dL_law_633 : decode cL_law 633 = .ok (.pop, 1) := by decide +kernel
theorem dL_law_634 : decode cL_law 634 = .ok (.aload_n 2, 1) := by decide +kernel
theorem dL_law_635 : decode cL_law 635 = .ok (.aload_n 0, 1) := by decide +kernel
theorem dL_law_636 : decode cL_law 636 = .ok (.iload_n 3, 1) := by decide +kernel
theorem dL_law_637 : decode cL_law 637 = .ok (.iconst 1, 1) := by decide +kernel
theorem dL_law_638 : decode cL_law 638 = .ok (.iadd, 1) := by decide +kernel
theorem dL_law_639 : decode cL_law 639 = .ok (.iaload, 1) := by decide +kernel
theorem dL_law_640 : decode cL_law 640 = .ok (.invokevirtual 77, 3) := by decide +kernel
theorem dL_law_643 : decode cL_law 643 = .ok (.pop, 1) := by decide +kernel
theorem dL_law_644 : decode cL_law 644 = .ok (.goto 594, 3) := by decide +kernel
theorem dL_law_647 : decode cL_law 647 = .ok (.aload_n 1, 1) := by decide +kernel
theorem dL_law_648 : decode cL_law 648 = .ok (.aload_n 0, 1) := by decide +kernel
theorem dL_law_649 : decode cL_law 649 = .ok (.iload_n 3, 1) := by decide +kernel
theorem dL_law_650 : decode cL_law 650 = .ok (.iconst 1, 1) := by decide +kernel
theorem dL_law_651 : decode cL_law 651 = .ok (.iadd, 1) := by decide +kernel
theorem dL_law_652 : decode cL_law 652 = .ok (.iaload, 1) := by decide +kernel
theorem dL_law_653 : decode cL_law 653 = .ok (.aload_n 0, 1) := by decide +kernel
theorem dL_law_654 : decode cL_law 654 = .ok (.iload_n 3, 1) := by decide +kernel
theorem dL_law_655 : decode cL_law 655 = .ok (.iconst 2, 1) := by decide +kernel
theorem dL_law_656 : decode cL_law 656 = .ok (.iadd, 1) := by decide +kernel
theorem dL_law_657 : decode cL_law 657 = .ok (.iaload, 1) := by decide +kernel
theorem dL_law_658 : decode cL_law 658 = .ok (.aload_n 0, 1) := by decide +kernel
theorem dL_law_659 : decode cL_law 659 = .ok (.iload_n 3, 1) := by decide +kernel
theorem dL_law_660 : decode cL_law 660 = .ok (.iconst 3, 1) := by decide +kernel
theorem dL_law_661 : decode cL_law 661 = .ok (.iadd, 1) := by decide +kernel
theorem dL_law_662 : decode cL_law 662 = .ok (.iaload, 1) := by decide +kernel
theorem dL_law_663 : decode cL_law 663 = .ok (.ifCond .eq 7, 3) := by decide +kernel
theorem dL_law_666 : decode cL_law 666 = .ok (.iconst 1, 1) := by decide +kernel
theorem dL_law_667 : decode cL_law 667 = .ok (.goto 4, 3) := by decide +kernel
theorem dL_law_670 : decode cL_law 670 = .ok (.iconst 0, 1) := by decide +kernel
theorem dL_law_671 : decode cL_law 671 = .ok (.invokevirtual 78, 3) := by decide +kernel
theorem dL_law_674 : decode cL_law 674 = .ok (.pop, 1) := by decide +kernel
theorem dL_law_675 : decode cL_law 675 = .ok (.aload_n 2, 1) := by decide +kernel
theorem dL_law_676 : decode cL_law 676 = .ok (.aload_n 0, 1) := by decide +kernel
theorem dL_law_677 : decode cL_law 677 = .ok (.iload_n 3, 1) := by decide +kernel
theorem dL_law_678 : decode cL_law 678 = .ok (.iconst 1, 1) := by decide +kernel
theorem dL_law_679 : decode cL_law 679 = .ok (.iadd, 1) := by decide +kernel
theorem dL_law_680 : decode cL_law 680 = .ok (.iaload, 1) := by decide +kernel
theorem dL_law_681 : decode cL_law 681 = .ok (.aload_n 0, 1) := by decide +kernel
theorem dL_law_682 : decode cL_law 682 = .ok (.iload_n 3, 1) := by decide +kernel
theorem dL_law_683 : decode cL_law 683 = .ok (.iconst 2, 1) := by decide +kernel
theorem dL_law_684 : decode cL_law 684 = .ok (.iadd, 1) := by decide +kernel
theorem dL_law_685 : decode cL_law 685 = .ok (.iaload, 1) := by decide +kernel
theorem dL_law_686 : decode cL_law 686 = .ok (.aload_n 0, 1) := by decide +kernel
theorem dL_law_687 : decode cL_law 687 = .ok (.iload_n 3, 1) := by decide +kernel
theorem dL_law_688 : decode cL_law 688 = .ok (.iconst 3, 1) := by decide +kernel
theorem dL_law_689 : decode cL_law 689 = .ok (.iadd, 1) := by decide +kernel
theorem dL_law_690 : decode cL_law 690 = .ok (.iaload, 1) := by decide +kernel
theorem dL_law_691 : decode cL_law 691 = .ok (.ifCond .eq 7, 3) := by decide +kernel
theorem dL_law_694 : decode cL_law 694 = .ok (.iconst 1, 1) := by decide +kernel
theorem dL_law_695 : decode cL_law 695 = .ok (.goto 4, 3) := by decide +kernel
theorem dL_law_698 : decode cL_law 698 = .ok (.iconst 0, 1) := by decide +kernel
theorem dL_law_699 : decode cL_law 699 = .ok (.invokevirtual 82, 3) := by decide +kernel
theorem dL_law_702 : decode cL_law 702 = .ok (.pop, 1) := by decide +kernel
theorem dL_law_703 : decode cL_law 703 = .ok (.goto 535, 3) := by decide +kernel
theorem dL_law_706 : decode cL_law 706 = .ok (.aload_n 1, 1) := by decide +kernel
theorem dL_law_707 : decode cL_law 707 = .ok (.aload_n 0, 1) := by decide +kernel
theorem dL_law_708 : decode cL_law 708 = .ok (.iload_n 3, 1) := by decide +kernel
theorem dL_law_709 : decode cL_law 709 = .ok (.iconst 1, 1) := by decide +kernel
theorem dL_law_710 : decode cL_law 710 = .ok (.iadd, 1) := by decide +kernel
theorem dL_law_711 : decode cL_law 711 = .ok (.iaload, 1) := by decide +kernel
theorem dL_law_712 : decode cL_law 712 = .ok (.aload_n 0, 1) := by decide +kernel
theorem dL_law_713 : decode cL_law 713 = .ok (.iload_n 3, 1) := by decide +kernel
theorem dL_law_714 : decode cL_law 714 = .ok (.iconst 2, 1) := by decide +kernel
theorem dL_law_715 : decode cL_law 715 = .ok (.iadd, 1) := by decide +kernel
theorem dL_law_716 : decode cL_law 716 = .ok (.iaload, 1) := by decide +kernel
theorem dL_law_717 : decode cL_law 717 = .ok (.invokevirtual 83, 3) := by decide +kernel
theorem dL_law_720 : decode cL_law 720 = .ok (.pop, 1) := by decide +kernel
theorem dL_law_721 : decode cL_law 721 = .ok (.aload_n 2, 1) := by decide +kernel
theorem dL_law_722 : decode cL_law 722 = .ok (.aload_n 0, 1) := by decide +kernel
theorem dL_law_723 : decode cL_law 723 = .ok (.iload_n 3, 1) := by decide +kernel
theorem dL_law_724 : decode cL_law 724 = .ok (.iconst 1, 1) := by decide +kernel
theorem dL_law_725 : decode cL_law 725 = .ok (.iadd, 1) := by decide +kernel
theorem dL_law_726 : decode cL_law 726 = .ok (.iaload, 1) := by decide +kernel
theorem dL_law_727 : decode cL_law 727 = .ok (.aload_n 0, 1) := by decide +kernel
theorem dL_law_728 : decode cL_law 728 = .ok (.iload_n 3, 1) := by decide +kernel
theorem dL_law_729 : decode cL_law 729 = .ok (.iconst 2, 1) := by decide +kernel
theorem dL_law_730 : decode cL_law 730 = .ok (.iadd, 1) := by decide +kernel
theorem dL_law_731 : decode cL_law 731 = .ok (.iaload, 1) := by decide +kernel
theorem dL_law_732 : decode cL_law 732 = .ok (.invokevirtual 86, 3) := by decide +kernel
theorem dL_law_735 : decode cL_law 735 = .ok (.pop, 1) := by decide +kernel
theorem dL_law_736 : decode cL_law 736 = .ok (.goto 502, 3) := by decide +kernel
theorem dL_law_739 : decode cL_law 739 = .ok (.aload_n 1, 1) := by decide +kernel
theorem dL_law_740 : decode cL_law 740 = .ok (.aload_n 0, 1) := by decide +kernel
theorem dL_law_741 : decode cL_law 741 = .ok (.iload_n 3, 1) := by decide +kernel
theorem dL_law_742 : decode cL_law 742 = .ok (.iconst 1, 1) := by decide +kernel
theorem dL_law_743 : decode cL_law 743 = .ok (.iadd, 1) := by decide +kernel
theorem dL_law_744 : decode cL_law 744 = .ok (.iaload, 1) := by decide +kernel
theorem dL_law_745 : decode cL_law 745 = .ok (.aload_n 0, 1) := by decide +kernel
theorem dL_law_746 : decode cL_law 746 = .ok (.iload_n 3, 1) := by decide +kernel
theorem dL_law_747 : decode cL_law 747 = .ok (.iconst 2, 1) := by decide +kernel
theorem dL_law_748 : decode cL_law 748 = .ok (.iadd, 1) := by decide +kernel
theorem dL_law_749 : decode cL_law 749 = .ok (.iaload, 1) := by decide +kernel
theorem dL_law_750 : decode cL_law 750 = .ok (.invokevirtual 87, 3) := by decide +kernel
theorem dL_law_753 : decode cL_law 753 = .ok (.pop, 1) := by decide +kernel
theorem dL_law_754 : decode cL_law 754 = .ok (.aload_n 2, 1) := by decide +kernel
theorem dL_law_755 : decode cL_law 755 = .ok (.aload_n 0, 1) := by decide +kernel
theorem dL_law_756 : decode cL_law 756 = .ok (.iload_n 3, 1) := by decide +kernel
theorem dL_law_757 : decode cL_law 757 = .ok (.iconst 1, 1) := by decide +kernel
theorem dL_law_758 : decode cL_law 758 = .ok (.iadd, 1) := by decide +kernel
theorem dL_law_759 : decode cL_law 759 = .ok (.iaload, 1) := by decide +kernel
theorem dL_law_760 : decode cL_law 760 = .ok (.aload_n 0, 1) := by decide +kernel
theorem dL_law_761 : decode cL_law 761 = .ok (.iload_n 3, 1) := by decide +kernel
theorem dL_law_762 : decode cL_law 762 = .ok (.iconst 2, 1) := by decide +kernel
theorem dL_law_763 : decode cL_law 763 = .ok (.iadd, 1) := by decide +kernel
theorem dL_law_764 : decode cL_law 764 = .ok (.iaload, 1) := by decide +kernel
theorem dL_law_765 : decode cL_law 765 = .ok (.invokevirtual 90, 3) := by decide +kernel
theorem dL_law_768 : decode cL_law 768 = .ok (.pop, 1) := by decide +kernel
theorem dL_law_769 : decode cL_law 769 = .ok (.goto 469, 3) := by decide +kernel
theorem dL_law_772 : decode cL_law 772 = .ok (.aload_n 1, 1) := by decide +kernel
theorem dL_law_773 : decode cL_law 773 = .ok (.aload_n 0, 1) := by decide +kernel
theorem dL_law_774 : decode cL_law 774 = .ok (.iload_n 3, 1) := by decide +kernel
theorem dL_law_775 : decode cL_law 775 = .ok (.iconst 1, 1) := by decide +kernel
theorem dL_law_776 : decode cL_law 776 = .ok (.iadd, 1) := by decide +kernel
theorem dL_law_777 : decode cL_law 777 = .ok (.iaload, 1) := by decide +kernel
theorem dL_law_778 : decode cL_law 778 = .ok (.aload_n 0, 1) := by decide +kernel
theorem dL_law_779 : decode cL_law 779 = .ok (.iload_n 3, 1) := by decide +kernel
theorem dL_law_780 : decode cL_law 780 = .ok (.iconst 2, 1) := by decide +kernel
theorem dL_law_781 : decode cL_law 781 = .ok (.iadd, 1) := by decide +kernel
theorem dL_law_782 : decode cL_law 782 = .ok (.iaload, 1) := by decide +kernel
theorem dL_law_783 : decode cL_law 783 = .ok (.invokevirtual 91, 3) := by decide +kernel
theorem dL_law_786 : decode cL_law 786 = .ok (.pop, 1) := by decide +kernel
theorem dL_law_787 : decode cL_law 787 = .ok (.aload_n 2, 1) := by decide +kernel
theorem dL_law_788 : decode cL_law 788 = .ok (.aload_n 0, 1) := by decide +kernel
theorem dL_law_789 : decode cL_law 789 = .ok (.iload_n 3, 1) := by decide +kernel
theorem dL_law_790 : decode cL_law 790 = .ok (.iconst 1, 1) := by decide +kernel
theorem dL_law_791 : decode cL_law 791 = .ok (.iadd, 1) := by decide +kernel
theorem dL_law_792 : decode cL_law 792 = .ok (.iaload, 1) := by decide +kernel
theorem dL_law_793 : decode cL_law 793 = .ok (.aload_n 0, 1) := by decide +kernel
theorem dL_law_794 : decode cL_law 794 = .ok (.iload_n 3, 1) := by decide +kernel
theorem dL_law_795 : decode cL_law 795 = .ok (.iconst 2, 1) := by decide +kernel
theorem dL_law_796 : decode cL_law 796 = .ok (.iadd, 1) := by decide +kernel
theorem dL_law_797 : decode cL_law 797 = .ok (.iaload, 1) := by decide +kernel
theorem dL_law_798 : decode cL_law 798 = .ok (.invokevirtual 94, 3) := by decide +kernel
theorem dL_law_801 : decode cL_law 801 = .ok (.pop, 1) := by decide +kernel
theorem dL_law_802 : decode cL_law 802 = .ok (.goto 436, 3) := by decide +kernel
theorem dL_law_805 : decode cL_law 805 = .ok (.aload_n 1, 1) := by decide +kernel
theorem dL_law_806 : decode cL_law 806 = .ok (.aload_n 0, 1) := by decide +kernel
theorem dL_law_807 : decode cL_law 807 = .ok (.iload_n 3, 1) := by decide +kernel
theorem dL_law_808 : decode cL_law 808 = .ok (.iconst 1, 1) := by decide +kernel
theorem dL_law_809 : decode cL_law 809 = .ok (.iadd, 1) := by decide +kernel
theorem dL_law_810 : decode cL_law 810 = .ok (.iaload, 1) := by decide +kernel
theorem dL_law_811 : decode cL_law 811 = .ok (.aload_n 0, 1) := by decide +kernel
theorem dL_law_812 : decode cL_law 812 = .ok (.iload_n 3, 1) := by decide +kernel
theorem dL_law_813 : decode cL_law 813 = .ok (.iconst 2, 1) := by decide +kernel
theorem dL_law_814 : decode cL_law 814 = .ok (.iadd, 1) := by decide +kernel
theorem dL_law_815 : decode cL_law 815 = .ok (.iaload, 1) := by decide +kernel
theorem dL_law_816 : decode cL_law 816 = .ok (.aload_n 0, 1) := by decide +kernel
theorem dL_law_817 : decode cL_law 817 = .ok (.iload_n 3, 1) := by decide +kernel
theorem dL_law_818 : decode cL_law 818 = .ok (.iconst 3, 1) := by decide +kernel
theorem dL_law_819 : decode cL_law 819 = .ok (.iadd, 1) := by decide +kernel
theorem dL_law_820 : decode cL_law 820 = .ok (.iaload, 1) := by decide +kernel
theorem dL_law_821 : decode cL_law 821 = .ok (.invokevirtual 95, 3) := by decide +kernel
theorem dL_law_824 : decode cL_law 824 = .ok (.pop, 1) := by decide +kernel
theorem dL_law_825 : decode cL_law 825 = .ok (.aload_n 2, 1) := by decide +kernel
theorem dL_law_826 : decode cL_law 826 = .ok (.aload_n 0, 1) := by decide +kernel
theorem dL_law_827 : decode cL_law 827 = .ok (.iload_n 3, 1) := by decide +kernel
theorem dL_law_828 : decode cL_law 828 = .ok (.iconst 1, 1) := by decide +kernel
theorem dL_law_829 : decode cL_law 829 = .ok (.iadd, 1) := by decide +kernel
theorem dL_law_830 : decode cL_law 830 = .ok (.iaload, 1) := by decide +kernel
theorem dL_law_831 : decode cL_law 831 = .ok (.aload_n 0, 1) := by decide +kernel
theorem dL_law_832 : decode cL_law 832 = .ok (.iload_n 3, 1) := by decide +kernel
theorem dL_law_833 : decode cL_law 833 = .ok (.iconst 2, 1) := by decide +kernel
theorem dL_law_834 : decode cL_law 834 = .ok (.iadd, 1) := by decide +kernel
theorem dL_law_835 : decode cL_law 835 = .ok (.iaload, 1) := by decide +kernel
theorem dL_law_836 : decode cL_law 836 = .ok (.aload_n 0, 1) := by decide +kernel
theorem dL_law_837 : decode cL_law 837 = .ok (.iload_n 3, 1) := by decide +kernel
theorem dL_law_838 : decode cL_law 838 = .ok (.iconst 3, 1) := by decide +kernel
theorem dL_law_839 : decode cL_law 839 = .ok (.iadd, 1) := by decide +kernel
theorem dL_law_840 : decode cL_law 840 = .ok (.iaload, 1) := by decide +kernel
theorem dL_law_841 : decode cL_law 841 = .ok (.invokevirtual 99, 3) := by decide +kernel
theorem dL_law_844 : decode cL_law 844 = .ok (.pop, 1) := by decide +kernel
theorem dL_law_845 : decode cL_law 845 = .ok (.goto 393, 3) := by decide +kernel
theorem dL_law_848 : decode cL_law 848 = .ok (.aload_n 1, 1) := by decide +kernel
theorem dL_law_849 : decode cL_law 849 = .ok (.aload_n 0, 1) := by decide +kernel
theorem dL_law_850 : decode cL_law 850 = .ok (.iload_n 3, 1) := by decide +kernel
theorem dL_law_851 : decode cL_law 851 = .ok (.iconst 1, 1) := by decide +kernel
theorem dL_law_852 : decode cL_law 852 = .ok (.iadd, 1) := by decide +kernel
theorem dL_law_853 : decode cL_law 853 = .ok (.iaload, 1) := by decide +kernel
theorem dL_law_854 : decode cL_law 854 = .ok (.aload_n 0, 1) := by decide +kernel
theorem dL_law_855 : decode cL_law 855 = .ok (.iload_n 3, 1) := by decide +kernel
theorem dL_law_856 : decode cL_law 856 = .ok (.iconst 2, 1) := by decide +kernel
theorem dL_law_857 : decode cL_law 857 = .ok (.iadd, 1) := by decide +kernel
theorem dL_law_858 : decode cL_law 858 = .ok (.iaload, 1) := by decide +kernel
theorem dL_law_859 : decode cL_law 859 = .ok (.aload_n 0, 1) := by decide +kernel
theorem dL_law_860 : decode cL_law 860 = .ok (.iload_n 3, 1) := by decide +kernel
theorem dL_law_861 : decode cL_law 861 = .ok (.iconst 3, 1) := by decide +kernel
theorem dL_law_862 : decode cL_law 862 = .ok (.iadd, 1) := by decide +kernel
theorem dL_law_863 : decode cL_law 863 = .ok (.iaload, 1) := by decide +kernel
theorem dL_law_864 : decode cL_law 864 = .ok (.invokevirtual 100, 3) := by decide +kernel
theorem dL_law_867 : decode cL_law 867 = .ok (.pop, 1) := by decide +kernel
theorem dL_law_868 : decode cL_law 868 = .ok (.aload_n 2, 1) := by decide +kernel
theorem dL_law_869 : decode cL_law 869 = .ok (.aload_n 0, 1) := by decide +kernel
theorem dL_law_870 : decode cL_law 870 = .ok (.iload_n 3, 1) := by decide +kernel
theorem dL_law_871 : decode cL_law 871 = .ok (.iconst 1, 1) := by decide +kernel
theorem dL_law_872 : decode cL_law 872 = .ok (.iadd, 1) := by decide +kernel
theorem dL_law_873 : decode cL_law 873 = .ok (.iaload, 1) := by decide +kernel
theorem dL_law_874 : decode cL_law 874 = .ok (.aload_n 0, 1) := by decide +kernel
theorem dL_law_875 : decode cL_law 875 = .ok (.iload_n 3, 1) := by decide +kernel
theorem dL_law_876 : decode cL_law 876 = .ok (.iconst 2, 1) := by decide +kernel
theorem dL_law_877 : decode cL_law 877 = .ok (.iadd, 1) := by decide +kernel
theorem dL_law_878 : decode cL_law 878 = .ok (.iaload, 1) := by decide +kernel
theorem dL_law_879 : decode cL_law 879 = .ok (.aload_n 0, 1) := by decide +kernel
theorem dL_law_880 : decode cL_law 880 = .ok (.iload_n 3, 1) := by decide +kernel
theorem dL_law_881 : decode cL_law 881 = .ok (.iconst 3, 1) := by decide +kernel
theorem dL_law_882 : decode cL_law 882 = .ok (.iadd, 1) := by decide +kernel
theorem dL_law_883 : decode cL_law 883 = .ok (.iaload, 1) := by decide +kernel
theorem dL_law_884 : decode cL_law 884 = .ok (.invokevirtual 103, 3) := by decide +kernel
theorem dL_law_887 : decode cL_law 887 = .ok (.pop, 1) := by decide +kernel
theorem dL_law_888 : decode cL_law 888 = .ok (.goto 350, 3) := by decide +kernel
theorem dL_law_891 : decode cL_law 891 = .ok (.aload_n 1, 1) := by decide +kernel
theorem dL_law_892 : decode cL_law 892 = .ok (.aload_n 0, 1) := by decide +kernel
theorem dL_law_893 : decode cL_law 893 = .ok (.iload_n 3, 1) := by decide +kernel
theorem dL_law_894 : decode cL_law 894 = .ok (.iconst 1, 1) := by decide +kernel
theorem dL_law_895 : decode cL_law 895 = .ok (.iadd, 1) := by decide +kernel
theorem dL_law_896 : decode cL_law 896 = .ok (.iaload, 1) := by decide +kernel
theorem dL_law_897 : decode cL_law 897 = .ok (.aload_n 0, 1) := by decide +kernel
theorem dL_law_898 : decode cL_law 898 = .ok (.iload_n 3, 1) := by decide +kernel
theorem dL_law_899 : decode cL_law 899 = .ok (.iconst 2, 1) := by decide +kernel
theorem dL_law_900 : decode cL_law 900 = .ok (.iadd, 1) := by decide +kernel
theorem dL_law_901 : decode cL_law 901 = .ok (.iaload, 1) := by decide +kernel
theorem dL_law_902 : decode cL_law 902 = .ok (.aload_n 0, 1) := by decide +kernel
theorem dL_law_903 : decode cL_law 903 = .ok (.iload_n 3, 1) := by decide +kernel
theorem dL_law_904 : decode cL_law 904 = .ok (.iconst 3, 1) := by decide +kernel
theorem dL_law_905 : decode cL_law 905 = .ok (.iadd, 1) := by decide +kernel
theorem dL_law_906 : decode cL_law 906 = .ok (.iaload, 1) := by decide +kernel
theorem dL_law_907 : decode cL_law 907 = .ok (.aload_n 0, 1) := by decide +kernel
theorem dL_law_908 : decode cL_law 908 = .ok (.iload_n 3, 1) := by decide +kernel
theorem dL_law_909 : decode cL_law 909 = .ok (.iconst 4, 1) := by decide +kernel
theorem dL_law_910 : decode cL_law 910 = .ok (.iadd, 1) := by decide +kernel
theorem dL_law_911 : decode cL_law 911 = .ok (.iaload, 1) := by decide +kernel
theorem dL_law_912 : decode cL_law 912 = .ok (.invokevirtual 104, 3) := by decide +kernel
theorem dL_law_915 : decode cL_law 915 = .ok (.pop, 1) := by decide +kernel
theorem dL_law_916 : decode cL_law 916 = .ok (.aload_n 2, 1) := by decide +kernel
theorem dL_law_917 : decode cL_law 917 = .ok (.aload_n 0, 1) := by decide +kernel
theorem dL_law_918 : decode cL_law 918 = .ok (.iload_n 3, 1) := by decide +kernel
theorem dL_law_919 : decode cL_law 919 = .ok (.iconst 1, 1) := by decide +kernel
theorem dL_law_920 : decode cL_law 920 = .ok (.iadd, 1) := by decide +kernel
theorem dL_law_921 : decode cL_law 921 = .ok (.iaload, 1) := by decide +kernel
theorem dL_law_922 : decode cL_law 922 = .ok (.aload_n 0, 1) := by decide +kernel
theorem dL_law_923 : decode cL_law 923 = .ok (.iload_n 3, 1) := by decide +kernel
theorem dL_law_924 : decode cL_law 924 = .ok (.iconst 2, 1) := by decide +kernel
theorem dL_law_925 : decode cL_law 925 = .ok (.iadd, 1) := by decide +kernel
theorem dL_law_926 : decode cL_law 926 = .ok (.iaload, 1) := by decide +kernel
theorem dL_law_927 : decode cL_law 927 = .ok (.aload_n 0, 1) := by decide +kernel
theorem dL_law_928 : decode cL_law 928 = .ok (.iload_n 3, 1) := by decide +kernel
theorem dL_law_929 : decode cL_law 929 = .ok (.iconst 3, 1) := by decide +kernel
theorem dL_law_930 : decode cL_law 930 = .ok (.iadd, 1) := by decide +kernel
theorem dL_law_931 : decode cL_law 931 = .ok (.iaload, 1) := by decide +kernel
theorem dL_law_932 : decode cL_law 932 = .ok (.aload_n 0, 1) := by decide +kernel
theorem dL_law_933 : decode cL_law 933 = .ok (.iload_n 3, 1) := by decide +kernel
theorem dL_law_934 : decode cL_law 934 = .ok (.iconst 4, 1) := by decide +kernel
theorem dL_law_935 : decode cL_law 935 = .ok (.iadd, 1) := by decide +kernel
theorem dL_law_936 : decode cL_law 936 = .ok (.iaload, 1) := by decide +kernel
theorem dL_law_937 : decode cL_law 937 = .ok (.invokevirtual 107, 3) := by decide +kernel
theorem dL_law_940 : decode cL_law 940 = .ok (.pop, 1) := by decide +kernel
theorem dL_law_941 : decode cL_law 941 = .ok (.goto 297, 3) := by decide +kernel
theorem dL_law_944 : decode cL_law 944 = .ok (.aload_n 1, 1) := by decide +kernel
theorem dL_law_945 : decode cL_law 945 = .ok (.aload_n 0, 1) := by decide +kernel
theorem dL_law_946 : decode cL_law 946 = .ok (.iload_n 3, 1) := by decide +kernel
theorem dL_law_947 : decode cL_law 947 = .ok (.iconst 1, 1) := by decide +kernel
theorem dL_law_948 : decode cL_law 948 = .ok (.iadd, 1) := by decide +kernel
theorem dL_law_949 : decode cL_law 949 = .ok (.iaload, 1) := by decide +kernel
theorem dL_law_950 : decode cL_law 950 = .ok (.aload_n 0, 1) := by decide +kernel
theorem dL_law_951 : decode cL_law 951 = .ok (.iload_n 3, 1) := by decide +kernel
theorem dL_law_952 : decode cL_law 952 = .ok (.iconst 2, 1) := by decide +kernel
theorem dL_law_953 : decode cL_law 953 = .ok (.iadd, 1) := by decide +kernel
theorem dL_law_954 : decode cL_law 954 = .ok (.iaload, 1) := by decide +kernel
theorem dL_law_955 : decode cL_law 955 = .ok (.aload_n 0, 1) := by decide +kernel
theorem dL_law_956 : decode cL_law 956 = .ok (.iload_n 3, 1) := by decide +kernel
theorem dL_law_957 : decode cL_law 957 = .ok (.iconst 3, 1) := by decide +kernel
theorem dL_law_958 : decode cL_law 958 = .ok (.iadd, 1) := by decide +kernel
theorem dL_law_959 : decode cL_law 959 = .ok (.iaload, 1) := by decide +kernel
theorem dL_law_960 : decode cL_law 960 = .ok (.aload_n 0, 1) := by decide +kernel
theorem dL_law_961 : decode cL_law 961 = .ok (.iload_n 3, 1) := by decide +kernel
theorem dL_law_962 : decode cL_law 962 = .ok (.iconst 4, 1) := by decide +kernel
theorem dL_law_963 : decode cL_law 963 = .ok (.iadd, 1) := by decide +kernel
theorem dL_law_964 : decode cL_law 964 = .ok (.iaload, 1) := by decide +kernel
theorem dL_law_965 : decode cL_law 965 = .ok (.aload_n 0, 1) := by decide +kernel
theorem dL_law_966 : decode cL_law 966 = .ok (.iload_n 3, 1) := by decide +kernel
theorem dL_law_967 : decode cL_law 967 = .ok (.iconst 5, 1) := by decide +kernel
theorem dL_law_968 : decode cL_law 968 = .ok (.iadd, 1) := by decide +kernel
theorem dL_law_969 : decode cL_law 969 = .ok (.iaload, 1) := by decide +kernel
theorem dL_law_970 : decode cL_law 970 = .ok (.invokevirtual 108, 3) := by decide +kernel
theorem dL_law_973 : decode cL_law 973 = .ok (.pop, 1) := by decide +kernel
theorem dL_law_974 : decode cL_law 974 = .ok (.aload_n 2, 1) := by decide +kernel
theorem dL_law_975 : decode cL_law 975 = .ok (.aload_n 0, 1) := by decide +kernel
theorem dL_law_976 : decode cL_law 976 = .ok (.iload_n 3, 1) := by decide +kernel
theorem dL_law_977 : decode cL_law 977 = .ok (.iconst 1, 1) := by decide +kernel
theorem dL_law_978 : decode cL_law 978 = .ok (.iadd, 1) := by decide +kernel
theorem dL_law_979 : decode cL_law 979 = .ok (.iaload, 1) := by decide +kernel
theorem dL_law_980 : decode cL_law 980 = .ok (.aload_n 0, 1) := by decide +kernel
theorem dL_law_981 : decode cL_law 981 = .ok (.iload_n 3, 1) := by decide +kernel
theorem dL_law_982 : decode cL_law 982 = .ok (.iconst 2, 1) := by decide +kernel
theorem dL_law_983 : decode cL_law 983 = .ok (.iadd, 1) := by decide +kernel
theorem dL_law_984 : decode cL_law 984 = .ok (.iaload, 1) := by decide +kernel
theorem dL_law_985 : decode cL_law 985 = .ok (.aload_n 0, 1) := by decide +kernel
theorem dL_law_986 : decode cL_law 986 = .ok (.iload_n 3, 1) := by decide +kernel
theorem dL_law_987 : decode cL_law 987 = .ok (.iconst 3, 1) := by decide +kernel
theorem dL_law_988 : decode cL_law 988 = .ok (.iadd, 1) := by decide +kernel
theorem dL_law_989 : decode cL_law 989 = .ok (.iaload, 1) := by decide +kernel
theorem dL_law_990 : decode cL_law 990 = .ok (.aload_n 0, 1) := by decide +kernel
theorem dL_law_991 : decode cL_law 991 = .ok (.iload_n 3, 1) := by decide +kernel
theorem dL_law_992 : decode cL_law 992 = .ok (.iconst 4, 1) := by decide +kernel
theorem dL_law_993 : decode cL_law 993 = .ok (.iadd, 1) := by decide +kernel
theorem dL_law_994 : decode cL_law 994 = .ok (.iaload, 1) := by decide +kernel
theorem dL_law_995 : decode cL_law 995 = .ok (.aload_n 0, 1) := by decide +kernel
theorem dL_law_996 : decode cL_law 996 = .ok (.iload_n 3, 1) := by decide +kernel
theorem dL_law_997 : decode cL_law 997 = .ok (.iconst 5, 1) := by decide +kernel
theorem dL_law_998 : decode cL_law 998 = .ok (.iadd, 1) := by decide +kernel
theorem dL_law_999 : decode cL_law 999 = .ok (.iaload, 1) := by decide +kernel
theorem dL_law_1000 : decode cL_law 1000 = .ok (.invokevirtual 112, 3) := by decide +kernel
theorem dL_law_1003 : decode cL_law 1003 = .ok (.pop, 1) := by decide +kernel
theorem dL_law_1004 : decode cL_law 1004 = .ok (.goto 234, 3) := by decide +kernel
theorem dL_law_1007 : decode cL_law 1007 = .ok (.aload_n 1, 1) := by decide +kernel
theorem dL_law_1008 : decode cL_law 1008 = .ok (.aload_n 0, 1) := by decide +kernel
theorem dL_law_1009 : decode cL_law 1009 = .ok (.iload_n 3, 1) := by decide +kernel
theorem dL_law_1010 : decode cL_law 1010 = .ok (.iconst 1, 1) := by decide +kernel
theorem dL_law_1011 : decode cL_law 1011 = .ok (.iadd, 1) := by decide +kernel
theorem dL_law_1012 : decode cL_law 1012 = .ok (.iaload, 1) := by decide +kernel
theorem dL_law_1013 : decode cL_law 1013 = .ok (.i2l, 1) := by decide +kernel
theorem dL_law_1014 : decode cL_law 1014 = .ok (.bipush 32, 2) := by decide +kernel
theorem dL_law_1016 : decode cL_law 1016 = .ok (.lshl, 1) := by decide +kernel
theorem dL_law_1017 : decode cL_law 1017 = .ok (.aload_n 0, 1) := by decide +kernel
theorem dL_law_1018 : decode cL_law 1018 = .ok (.iload_n 3, 1) := by decide +kernel
theorem dL_law_1019 : decode cL_law 1019 = .ok (.iconst 2, 1) := by decide +kernel
theorem dL_law_1020 : decode cL_law 1020 = .ok (.iadd, 1) := by decide +kernel
theorem dL_law_1021 : decode cL_law 1021 = .ok (.iaload, 1) := by decide +kernel
theorem dL_law_1022 : decode cL_law 1022 = .ok (.i2l, 1) := by decide +kernel
theorem dL_law_1023 : decode cL_law 1023 = .ok (.ldc2_w 113, 3) := by decide +kernel
theorem dL_law_1026 : decode cL_law 1026 = .ok (.land, 1) := by decide +kernel
theorem dL_law_1027 : decode cL_law 1027 = .ok (.lor, 1) := by decide +kernel
theorem dL_law_1028 : decode cL_law 1028 = .ok (.invokevirtual 115, 3) := by decide +kernel
theorem dL_law_1031 : decode cL_law 1031 = .ok (.pop, 1) := by decide +kernel
theorem dL_law_1032 : decode cL_law 1032 = .ok (.aload_n 2, 1) := by decide +kernel
theorem dL_law_1033 : decode cL_law 1033 = .ok (.aload_n 0, 1) := by decide +kernel
theorem dL_law_1034 : decode cL_law 1034 = .ok (.iload_n 3, 1) := by decide +kernel
theorem dL_law_1035 : decode cL_law 1035 = .ok (.iconst 1, 1) := by decide +kernel
theorem dL_law_1036 : decode cL_law 1036 = .ok (.iadd, 1) := by decide +kernel
theorem dL_law_1037 : decode cL_law 1037 = .ok (.iaload, 1) := by decide +kernel
theorem dL_law_1038 : decode cL_law 1038 = .ok (.i2l, 1) := by decide +kernel
theorem dL_law_1039 : decode cL_law 1039 = .ok (.bipush 32, 2) := by decide +kernel
theorem dL_law_1041 : decode cL_law 1041 = .ok (.lshl, 1) := by decide +kernel
theorem dL_law_1042 : decode cL_law 1042 = .ok (.aload_n 0, 1) := by decide +kernel
theorem dL_law_1043 : decode cL_law 1043 = .ok (.iload_n 3, 1) := by decide +kernel
theorem dL_law_1044 : decode cL_law 1044 = .ok (.iconst 2, 1) := by decide +kernel
theorem dL_law_1045 : decode cL_law 1045 = .ok (.iadd, 1) := by decide +kernel
theorem dL_law_1046 : decode cL_law 1046 = .ok (.iaload, 1) := by decide +kernel
theorem dL_law_1047 : decode cL_law 1047 = .ok (.i2l, 1) := by decide +kernel
theorem dL_law_1048 : decode cL_law 1048 = .ok (.ldc2_w 113, 3) := by decide +kernel
theorem dL_law_1051 : decode cL_law 1051 = .ok (.land, 1) := by decide +kernel
theorem dL_law_1052 : decode cL_law 1052 = .ok (.lor, 1) := by decide +kernel
theorem dL_law_1053 : decode cL_law 1053 = .ok (.invokevirtual 119, 3) := by decide +kernel
theorem dL_law_1056 : decode cL_law 1056 = .ok (.pop, 1) := by decide +kernel
theorem dL_law_1057 : decode cL_law 1057 = .ok (.goto 181, 3) := by decide +kernel
theorem dL_law_1060 : decode cL_law 1060 = .ok (.aload_n 1, 1) := by decide +kernel
theorem dL_law_1061 : decode cL_law 1061 = .ok (.invokevirtual 120, 3) := by decide +kernel
theorem dL_law_1064 : decode cL_law 1064 = .ok (.pop, 1) := by decide +kernel
theorem dL_law_1065 : decode cL_law 1065 = .ok (.aload_n 2, 1) := by decide +kernel
theorem dL_law_1066 : decode cL_law 1066 = .ok (.invokevirtual 123, 3) := by decide +kernel
theorem dL_law_1069 : decode cL_law 1069 = .ok (.pop, 1) := by decide +kernel
theorem dL_law_1070 : decode cL_law 1070 = .ok (.goto 168, 3) := by decide +kernel
theorem dL_law_1073 : decode cL_law 1073 = .ok (.aload_n 1, 1) := by decide +kernel
theorem dL_law_1074 : decode cL_law 1074 = .ok (.invokevirtual 124, 3) := by decide +kernel
theorem dL_law_1077 : decode cL_law 1077 = .ok (.pop, 1) := by decide +kernel
theorem dL_law_1078 : decode cL_law 1078 = .ok (.aload_n 2, 1) := by decide +kernel
theorem dL_law_1079 : decode cL_law 1079 = .ok (.invokevirtual 127, 3) := by decide +kernel
theorem dL_law_1082 : decode cL_law 1082 = .ok (.pop, 1) := by decide +kernel
theorem dL_law_1083 : decode cL_law 1083 = .ok (.goto 155, 3) := by decide +kernel
theorem dL_law_1086 : decode cL_law 1086 = .ok (.aload_n 1, 1) := by decide +kernel
theorem dL_law_1087 : decode cL_law 1087 = .ok (.invokevirtual 128, 3) := by decide +kernel
theorem dL_law_1090 : decode cL_law 1090 = .ok (.pop, 1) := by decide +kernel
theorem dL_law_1091 : decode cL_law 1091 = .ok (.aload_n 2, 1) := by decide +kernel
theorem dL_law_1092 : decode cL_law 1092 = .ok (.invokevirtual 131, 3) := by decide +kernel
theorem dL_law_1095 : decode cL_law 1095 = .ok (.pop, 1) := by decide +kernel
theorem dL_law_1096 : decode cL_law 1096 = .ok (.goto 142, 3) := by decide +kernel
theorem dL_law_1099 : decode cL_law 1099 = .ok (.aload_n 1, 1) := by decide +kernel
theorem dL_law_1100 : decode cL_law 1100 = .ok (.aload_n 0, 1) := by decide +kernel
theorem dL_law_1101 : decode cL_law 1101 = .ok (.iload_n 3, 1) := by decide +kernel
theorem dL_law_1102 : decode cL_law 1102 = .ok (.iconst 1, 1) := by decide +kernel
theorem dL_law_1103 : decode cL_law 1103 = .ok (.iadd, 1) := by decide +kernel
theorem dL_law_1104 : decode cL_law 1104 = .ok (.iaload, 1) := by decide +kernel
theorem dL_law_1105 : decode cL_law 1105 = .ok (.aload_n 0, 1) := by decide +kernel
theorem dL_law_1106 : decode cL_law 1106 = .ok (.iload_n 3, 1) := by decide +kernel
theorem dL_law_1107 : decode cL_law 1107 = .ok (.iconst 2, 1) := by decide +kernel
theorem dL_law_1108 : decode cL_law 1108 = .ok (.iadd, 1) := by decide +kernel
theorem dL_law_1109 : decode cL_law 1109 = .ok (.iaload, 1) := by decide +kernel
theorem dL_law_1110 : decode cL_law 1110 = .ok (.aload_n 0, 1) := by decide +kernel
theorem dL_law_1111 : decode cL_law 1111 = .ok (.iload_n 3, 1) := by decide +kernel
theorem dL_law_1112 : decode cL_law 1112 = .ok (.iconst 3, 1) := by decide +kernel
theorem dL_law_1113 : decode cL_law 1113 = .ok (.iadd, 1) := by decide +kernel
theorem dL_law_1114 : decode cL_law 1114 = .ok (.iaload, 1) := by decide +kernel
theorem dL_law_1115 : decode cL_law 1115 = .ok (.invokevirtual 132, 3) := by decide +kernel
theorem dL_law_1118 : decode cL_law 1118 = .ok (.pop, 1) := by decide +kernel
theorem dL_law_1119 : decode cL_law 1119 = .ok (.aload_n 2, 1) := by decide +kernel
theorem dL_law_1120 : decode cL_law 1120 = .ok (.aload_n 0, 1) := by decide +kernel
theorem dL_law_1121 : decode cL_law 1121 = .ok (.iload_n 3, 1) := by decide +kernel
theorem dL_law_1122 : decode cL_law 1122 = .ok (.iconst 1, 1) := by decide +kernel
theorem dL_law_1123 : decode cL_law 1123 = .ok (.iadd, 1) := by decide +kernel
theorem dL_law_1124 : decode cL_law 1124 = .ok (.iaload, 1) := by decide +kernel
theorem dL_law_1125 : decode cL_law 1125 = .ok (.aload_n 0, 1) := by decide +kernel
theorem dL_law_1126 : decode cL_law 1126 = .ok (.iload_n 3, 1) := by decide +kernel
theorem dL_law_1127 : decode cL_law 1127 = .ok (.iconst 2, 1) := by decide +kernel
theorem dL_law_1128 : decode cL_law 1128 = .ok (.iadd, 1) := by decide +kernel
theorem dL_law_1129 : decode cL_law 1129 = .ok (.iaload, 1) := by decide +kernel
theorem dL_law_1130 : decode cL_law 1130 = .ok (.aload_n 0, 1) := by decide +kernel
theorem dL_law_1131 : decode cL_law 1131 = .ok (.iload_n 3, 1) := by decide +kernel
theorem dL_law_1132 : decode cL_law 1132 = .ok (.iconst 3, 1) := by decide +kernel
theorem dL_law_1133 : decode cL_law 1133 = .ok (.iadd, 1) := by decide +kernel
theorem dL_law_1134 : decode cL_law 1134 = .ok (.iaload, 1) := by decide +kernel
theorem dL_law_1135 : decode cL_law 1135 = .ok (.invokevirtual 135, 3) := by decide +kernel
theorem dL_law_1138 : decode cL_law 1138 = .ok (.pop, 1) := by decide +kernel
theorem dL_law_1139 : decode cL_law 1139 = .ok (.goto 99, 3) := by decide +kernel
theorem dL_law_1142 : decode cL_law 1142 = .ok (.aload_n 1, 1) := by decide +kernel
theorem dL_law_1143 : decode cL_law 1143 = .ok (.aload_n 0, 1) := by decide +kernel
theorem dL_law_1144 : decode cL_law 1144 = .ok (.iload_n 3, 1) := by decide +kernel
theorem dL_law_1145 : decode cL_law 1145 = .ok (.iconst 1, 1) := by decide +kernel
theorem dL_law_1146 : decode cL_law 1146 = .ok (.iadd, 1) := by decide +kernel
theorem dL_law_1147 : decode cL_law 1147 = .ok (.iaload, 1) := by decide +kernel
theorem dL_law_1148 : decode cL_law 1148 = .ok (.aload_n 0, 1) := by decide +kernel
theorem dL_law_1149 : decode cL_law 1149 = .ok (.iload_n 3, 1) := by decide +kernel
theorem dL_law_1150 : decode cL_law 1150 = .ok (.iconst 2, 1) := by decide +kernel
theorem dL_law_1151 : decode cL_law 1151 = .ok (.iadd, 1) := by decide +kernel
theorem dL_law_1152 : decode cL_law 1152 = .ok (.iaload, 1) := by decide +kernel
theorem dL_law_1153 : decode cL_law 1153 = .ok (.invokevirtual 136, 3) := by decide +kernel
theorem dL_law_1156 : decode cL_law 1156 = .ok (.pop, 1) := by decide +kernel
theorem dL_law_1157 : decode cL_law 1157 = .ok (.aload_n 2, 1) := by decide +kernel
theorem dL_law_1158 : decode cL_law 1158 = .ok (.aload_n 0, 1) := by decide +kernel
theorem dL_law_1159 : decode cL_law 1159 = .ok (.iload_n 3, 1) := by decide +kernel
theorem dL_law_1160 : decode cL_law 1160 = .ok (.iconst 1, 1) := by decide +kernel
theorem dL_law_1161 : decode cL_law 1161 = .ok (.iadd, 1) := by decide +kernel
theorem dL_law_1162 : decode cL_law 1162 = .ok (.iaload, 1) := by decide +kernel
theorem dL_law_1163 : decode cL_law 1163 = .ok (.aload_n 0, 1) := by decide +kernel
theorem dL_law_1164 : decode cL_law 1164 = .ok (.iload_n 3, 1) := by decide +kernel
theorem dL_law_1165 : decode cL_law 1165 = .ok (.iconst 2, 1) := by decide +kernel
theorem dL_law_1166 : decode cL_law 1166 = .ok (.iadd, 1) := by decide +kernel
theorem dL_law_1167 : decode cL_law 1167 = .ok (.iaload, 1) := by decide +kernel
theorem dL_law_1168 : decode cL_law 1168 = .ok (.invokevirtual 139, 3) := by decide +kernel
theorem dL_law_1171 : decode cL_law 1171 = .ok (.pop, 1) := by decide +kernel
theorem dL_law_1172 : decode cL_law 1172 = .ok (.goto 66, 3) := by decide +kernel
theorem dL_law_1175 : decode cL_law 1175 = .ok (.aload_n 1, 1) := by decide +kernel
theorem dL_law_1176 : decode cL_law 1176 = .ok (.invokevirtual 140, 3) := by decide +kernel
theorem dL_law_1179 : decode cL_law 1179 = .ok (.pop, 1) := by decide +kernel
theorem dL_law_1180 : decode cL_law 1180 = .ok (.aload_n 2, 1) := by decide +kernel
theorem dL_law_1181 : decode cL_law 1181 = .ok (.invokevirtual 143, 3) := by decide +kernel
theorem dL_law_1184 : decode cL_law 1184 = .ok (.pop, 1) := by decide +kernel
theorem dL_law_1185 : decode cL_law 1185 = .ok (.goto 53, 3) := by decide +kernel
theorem dL_law_1188 : decode cL_law 1188 = .ok (.aload_n 1, 1) := by decide +kernel
theorem dL_law_1189 : decode cL_law 1189 = .ok (.invokevirtual 144, 3) := by decide +kernel
theorem dL_law_1192 : decode cL_law 1192 = .ok (.pop, 1) := by decide +kernel
theorem dL_law_1193 : decode cL_law 1193 = .ok (.aload_n 2, 1) := by decide +kernel
theorem dL_law_1194 : decode cL_law 1194 = .ok (.invokevirtual 147, 3) := by decide +kernel
theorem dL_law_1197 : decode cL_law 1197 = .ok (.pop, 1) := by decide +kernel
theorem dL_law_1198 : decode cL_law 1198 = .ok (.goto 40, 3) := by decide +kernel
theorem dL_law_1201 : decode cL_law 1201 = .ok (.aload_n 1, 1) := by decide +kernel
theorem dL_law_1202 : decode cL_law 1202 = .ok (.aload_n 0, 1) := by decide +kernel
theorem dL_law_1203 : decode cL_law 1203 = .ok (.iload_n 3, 1) := by decide +kernel
theorem dL_law_1204 : decode cL_law 1204 = .ok (.iconst 1, 1) := by decide +kernel
theorem dL_law_1205 : decode cL_law 1205 = .ok (.iadd, 1) := by decide +kernel
theorem dL_law_1206 : decode cL_law 1206 = .ok (.iaload, 1) := by decide +kernel
theorem dL_law_1207 : decode cL_law 1207 = .ok (.invokevirtual 148, 3) := by decide +kernel
theorem dL_law_1210 : decode cL_law 1210 = .ok (.pop, 1) := by decide +kernel
theorem dL_law_1211 : decode cL_law 1211 = .ok (.aload_n 2, 1) := by decide +kernel
theorem dL_law_1212 : decode cL_law 1212 = .ok (.aload_n 0, 1) := by decide +kernel
theorem dL_law_1213 : decode cL_law 1213 = .ok (.iload_n 3, 1) := by decide +kernel
theorem dL_law_1214 : decode cL_law 1214 = .ok (.iconst 1, 1) := by decide +kernel
theorem dL_law_1215 : decode cL_law 1215 = .ok (.iadd, 1) := by decide +kernel
theorem dL_law_1216 : decode cL_law 1216 = .ok (.iaload, 1) := by decide +kernel
theorem dL_law_1217 : decode cL_law 1217 = .ok (.invokevirtual 151, 3) := by decide +kernel
theorem dL_law_1220 : decode cL_law 1220 = .ok (.pop, 1) := by decide +kernel
theorem dL_law_1221 : decode cL_law 1221 = .ok (.goto 17, 3) := by decide +kernel
theorem dL_law_1224 : decode cL_law 1224 = .ok (.aload_n 1, 1) := by decide +kernel
theorem dL_law_1225 : decode cL_law 1225 = .ok (.invokevirtual 152, 3) := by decide +kernel
theorem dL_law_1228 : decode cL_law 1228 = .ok (.aload_n 2, 1) := by decide +kernel
theorem dL_law_1229 : decode cL_law 1229 = .ok (.invokevirtual 156, 3) := by decide +kernel
theorem dL_law_1232 : decode cL_law 1232 = .ok (.lcmp, 1) := by decide +kernel
theorem dL_law_1233 : decode cL_law 1233 = .ok (.ifCond .eq 5, 3) := by decide +kernel
theorem dL_law_1236 : decode cL_law 1236 = .ok (.iconst 0, 1) := by decide +kernel
theorem dL_law_1237 : decode cL_law 1237 = .ok (.ireturn, 1) := by decide +kernel
theorem dL_law_1238 : decode cL_law 1238 = .ok (.iinc 3 7, 3) := by decide +kernel
theorem dL_law_1241 : decode cL_law 1241 = .ok (.goto (-1223), 3) := by decide +kernel
theorem dL_law_1244 : decode cL_law 1244 = .ok (.iconst 1, 1) := by decide +kernel
theorem dL_law_1245 : decode cL_law 1245 = .ok (.ireturn, 1) := by decide +kernel
theorem uc_X7_owner : Cond.code yX7_owner cX7_owner 3 ((Option.some Jvm.ClassFile.FieldType.int)) ∈ gx_U := gx_mu (gx_t_2 (List.mem_of_getElem? (i := 91) rfl)) rfl
theorem ui_X7 : Cond.initialized RX7 ∈ gx_U := gx_mu (gx_t_1 (List.mem_of_getElem? (i := 1) rfl)) rfl
theorem un_X7_owner : Cond.instanceMethod yX7_owner ∈ gx_U := gx_mu (gx_t_2 (List.mem_of_getElem? (i := 89) rfl)) rfl
theorem us_X7_owner : Cond.selects RX7 yX7_owner yX7_owner ∈ gx_U := gx_mu (gx_t_2 (List.mem_of_getElem? (i := 90) rfl)) rfl
theorem lk_L_13 : gx_lk gx_U RL 13 RX7 yX7_owner cX7_owner 3 ((Option.some Jvm.ClassFile.FieldType.int)) 2 := ⟨gx_mu (gx_t_2 (List.mem_of_getElem? (i := 88) rfl)) rfl, un_X7_owner, us_X7_owner, ui_X7, uc_X7_owner, rfl, by decide +kernel, by decide +kernel, by decide +kernel⟩
theorem uc_X8_owner : Cond.code yX8_owner cX8_owner 3 ((Option.some Jvm.ClassFile.FieldType.int)) ∈ gx_U := gx_mu (gx_t_4 (List.mem_of_getElem? (i := 220) rfl)) rfl
theorem ui_X8 : Cond.initialized RX8 ∈ gx_U := gx_mu (gx_t_1 (List.mem_of_getElem? (i := 9) rfl)) rfl
theorem un_X8_owner : Cond.instanceMethod yX8_owner ∈ gx_U := gx_mu (gx_t_4 (List.mem_of_getElem? (i := 218) rfl)) rfl
theorem us_X8_owner : Cond.selects RX8 yX8_owner yX8_owner ∈ gx_U := gx_mu (gx_t_4 (List.mem_of_getElem? (i := 219) rfl)) rfl
theorem lk_L_17 : gx_lk gx_U RL 17 RX8 yX8_owner cX8_owner 3 ((Option.some Jvm.ClassFile.FieldType.int)) 2 := ⟨gx_mu (gx_t_4 (List.mem_of_getElem? (i := 217) rfl)) rfl, un_X8_owner, us_X8_owner, ui_X8, uc_X8_owner, rfl, by decide +kernel, by decide +kernel, by decide +kernel⟩
theorem uc_X7_as : Cond.code yX7_as cX7_as 5 ((Option.some Jvm.ClassFile.FieldType.int)) ∈ gx_U := gx_mu (gx_t_2 (List.mem_of_getElem? (i := 102) rfl)) rfl
theorem un_X7_as : Cond.instanceMethod yX7_as ∈ gx_U := gx_mu (gx_t_2 (List.mem_of_getElem? (i := 100) rfl)) rfl
theorem us_X7_as : Cond.selects RX7 yX7_as yX7_as ∈ gx_U := gx_mu (gx_t_2 (List.mem_of_getElem? (i := 101) rfl)) rfl
theorem lk_L_18 : gx_lk gx_U RL 18 RX7 yX7_as cX7_as 5 ((Option.some Jvm.ClassFile.FieldType.int)) 2 := ⟨gx_mu (gx_t_2 (List.mem_of_getElem? (i := 99) rfl)) rfl, un_X7_as, us_X7_as, ui_X7, uc_X7_as, rfl, by decide +kernel, by decide +kernel, by decide +kernel⟩
theorem uc_X8_as : Cond.code yX8_as cX8_as 3 ((Option.some Jvm.ClassFile.FieldType.int)) ∈ gx_U := gx_mu (gx_t_4 (List.mem_of_getElem? (i := 227) rfl)) rfl
theorem un_X8_as : Cond.instanceMethod yX8_as ∈ gx_U := gx_mu (gx_t_4 (List.mem_of_getElem? (i := 225) rfl)) rfl
theorem us_X8_as : Cond.selects RX8 yX8_as yX8_as ∈ gx_U := gx_mu (gx_t_4 (List.mem_of_getElem? (i := 226) rfl)) rfl
theorem lk_L_21 : gx_lk gx_U RL 21 RX8 yX8_as cX8_as 3 ((Option.some Jvm.ClassFile.FieldType.int)) 2 := ⟨gx_mu (gx_t_4 (List.mem_of_getElem? (i := 224) rfl)) rfl, un_X8_as, us_X8_as, ui_X8, uc_X8_as, rfl, by decide +kernel, by decide +kernel, by decide +kernel⟩
theorem uc_X7_shop : Cond.code yX7_shop cX7_shop 6 ((Option.some Jvm.ClassFile.FieldType.int)) ∈ gx_U := gx_mu (gx_t_2 (List.mem_of_getElem? (i := 110) rfl)) rfl
theorem un_X7_shop : Cond.instanceMethod yX7_shop ∈ gx_U := gx_mu (gx_t_2 (List.mem_of_getElem? (i := 108) rfl)) rfl
theorem us_X7_shop : Cond.selects RX7 yX7_shop yX7_shop ∈ gx_U := gx_mu (gx_t_2 (List.mem_of_getElem? (i := 109) rfl)) rfl
theorem lk_L_22 : gx_lk gx_U RL 22 RX7 yX7_shop cX7_shop 6 ((Option.some Jvm.ClassFile.FieldType.int)) 4 := ⟨gx_mu (gx_t_2 (List.mem_of_getElem? (i := 107) rfl)) rfl, un_X7_shop, us_X7_shop, ui_X7, uc_X7_shop, rfl, by decide +kernel, by decide +kernel, by decide +kernel⟩
theorem uc_X8_shop : Cond.code yX8_shop cX8_shop 5 ((Option.some Jvm.ClassFile.FieldType.int)) ∈ gx_U := gx_mu (gx_t_4 (List.mem_of_getElem? (i := 235) rfl)) rfl
theorem un_X8_shop : Cond.instanceMethod yX8_shop ∈ gx_U := gx_mu (gx_t_4 (List.mem_of_getElem? (i := 233) rfl)) rfl
theorem us_X8_shop : Cond.selects RX8 yX8_shop yX8_shop ∈ gx_U := gx_mu (gx_t_4 (List.mem_of_getElem? (i := 234) rfl)) rfl
theorem lk_L_26 : gx_lk gx_U RL 26 RX8 yX8_shop cX8_shop 5 ((Option.some Jvm.ClassFile.FieldType.int)) 4 := ⟨gx_mu (gx_t_4 (List.mem_of_getElem? (i := 232) rfl)) rfl, un_X8_shop, us_X8_shop, ui_X8, uc_X8_shop, rfl, by decide +kernel, by decide +kernel, by decide +kernel⟩
theorem uc_X7_about : Cond.code yX7_about cX7_about 3 ((Option.some Jvm.ClassFile.FieldType.int)) ∈ gx_U := gx_mu (gx_t_2 (List.mem_of_getElem? (i := 139) rfl)) rfl
theorem un_X7_about : Cond.instanceMethod yX7_about ∈ gx_U := gx_mu (gx_t_2 (List.mem_of_getElem? (i := 137) rfl)) rfl
theorem us_X7_about : Cond.selects RX7 yX7_about yX7_about ∈ gx_U := gx_mu (gx_t_2 (List.mem_of_getElem? (i := 138) rfl)) rfl
theorem lk_L_27 : gx_lk gx_U RL 27 RX7 yX7_about cX7_about 3 ((Option.some Jvm.ClassFile.FieldType.int)) 2 := ⟨gx_mu (gx_t_2 (List.mem_of_getElem? (i := 136) rfl)) rfl, un_X7_about, us_X7_about, ui_X7, uc_X7_about, rfl, by decide +kernel, by decide +kernel, by decide +kernel⟩
theorem uc_X8_about : Cond.code yX8_about cX8_about 3 ((Option.some Jvm.ClassFile.FieldType.int)) ∈ gx_U := gx_mu (gx_t_5 (List.mem_of_getElem? (i := 3) rfl)) rfl
theorem un_X8_about : Cond.instanceMethod yX8_about ∈ gx_U := gx_mu (gx_t_5 (List.mem_of_getElem? (i := 1) rfl)) rfl
theorem us_X8_about : Cond.selects RX8 yX8_about yX8_about ∈ gx_U := gx_mu (gx_t_5 (List.mem_of_getElem? (i := 2) rfl)) rfl
theorem lk_L_30 : gx_lk gx_U RL 30 RX8 yX8_about cX8_about 3 ((Option.some Jvm.ClassFile.FieldType.int)) 2 := ⟨gx_mu (gx_t_5 (List.mem_of_getElem? (i := 0) rfl)) rfl, un_X8_about, us_X8_about, ui_X8, uc_X8_about, rfl, by decide +kernel, by decide +kernel, by decide +kernel⟩
theorem uc_X7_price : Cond.code yX7_price cX7_price 4 ((Option.some Jvm.ClassFile.FieldType.int)) ∈ gx_U := gx_mu (gx_t_2 (List.mem_of_getElem? (i := 164) rfl)) rfl
theorem un_X7_price : Cond.instanceMethod yX7_price ∈ gx_U := gx_mu (gx_t_2 (List.mem_of_getElem? (i := 162) rfl)) rfl
theorem us_X7_price : Cond.selects RX7 yX7_price yX7_price ∈ gx_U := gx_mu (gx_t_2 (List.mem_of_getElem? (i := 163) rfl)) rfl
theorem lk_L_31 : gx_lk gx_U RL 31 RX7 yX7_price cX7_price 4 ((Option.some Jvm.ClassFile.FieldType.int)) 2 := ⟨gx_mu (gx_t_2 (List.mem_of_getElem? (i := 161) rfl)) rfl, un_X7_price, us_X7_price, ui_X7, uc_X7_price, rfl, by decide +kernel, by decide +kernel, by decide +kernel⟩
theorem uc_X8_price : Cond.code yX8_price cX8_price 4 ((Option.some Jvm.ClassFile.FieldType.int)) ∈ gx_U := gx_mu (gx_t_5 (List.mem_of_getElem? (i := 38) rfl)) rfl
theorem un_X8_price : Cond.instanceMethod yX8_price ∈ gx_U := gx_mu (gx_t_5 (List.mem_of_getElem? (i := 36) rfl)) rfl
theorem us_X8_price : Cond.selects RX8 yX8_price yX8_price ∈ gx_U := gx_mu (gx_t_5 (List.mem_of_getElem? (i := 37) rfl)) rfl
theorem lk_L_34 : gx_lk gx_U RL 34 RX8 yX8_price cX8_price 4 ((Option.some Jvm.ClassFile.FieldType.int)) 2 := ⟨gx_mu (gx_t_5 (List.mem_of_getElem? (i := 35) rfl)) rfl, un_X8_price, us_X8_price, ui_X8, uc_X8_price, rfl, by decide +kernel, by decide +kernel, by decide +kernel⟩
theorem uc_X7_sort : Cond.code yX7_sort cX7_sort 7 ((Option.some Jvm.ClassFile.FieldType.int)) ∈ gx_U := gx_mu (gx_t_2 (List.mem_of_getElem? (i := 168) rfl)) rfl
theorem un_X7_sort : Cond.instanceMethod yX7_sort ∈ gx_U := gx_mu (gx_t_2 (List.mem_of_getElem? (i := 166) rfl)) rfl
theorem us_X7_sort : Cond.selects RX7 yX7_sort yX7_sort ∈ gx_U := gx_mu (gx_t_2 (List.mem_of_getElem? (i := 167) rfl)) rfl
theorem lk_L_35 : gx_lk gx_U RL 35 RX7 yX7_sort cX7_sort 7 ((Option.some Jvm.ClassFile.FieldType.int)) 6 := ⟨gx_mu (gx_t_2 (List.mem_of_getElem? (i := 165) rfl)) rfl, un_X7_sort, us_X7_sort, ui_X7, uc_X7_sort, rfl, by decide +kernel, by decide +kernel, by decide +kernel⟩
theorem uc_X8_sort : Cond.code yX8_sort cX8_sort 7 ((Option.some Jvm.ClassFile.FieldType.int)) ∈ gx_U := gx_mu (gx_t_5 (List.mem_of_getElem? (i := 42) rfl)) rfl
theorem un_X8_sort : Cond.instanceMethod yX8_sort ∈ gx_U := gx_mu (gx_t_5 (List.mem_of_getElem? (i := 40) rfl)) rfl
theorem us_X8_sort : Cond.selects RX8 yX8_sort yX8_sort ∈ gx_U := gx_mu (gx_t_5 (List.mem_of_getElem? (i := 41) rfl)) rfl
theorem lk_L_39 : gx_lk gx_U RL 39 RX8 yX8_sort cX8_sort 7 ((Option.some Jvm.ClassFile.FieldType.int)) 6 := ⟨gx_mu (gx_t_5 (List.mem_of_getElem? (i := 39) rfl)) rfl, un_X8_sort, us_X8_sort, ui_X8, uc_X8_sort, rfl, by decide +kernel, by decide +kernel, by decide +kernel⟩
theorem uc_X7_is : Cond.code yX7_is cX7_is 3 ((Option.some Jvm.ClassFile.FieldType.int)) ∈ gx_U := gx_mu (gx_t_2 (List.mem_of_getElem? (i := 176) rfl)) rfl
theorem un_X7_is : Cond.instanceMethod yX7_is ∈ gx_U := gx_mu (gx_t_2 (List.mem_of_getElem? (i := 174) rfl)) rfl
theorem us_X7_is : Cond.selects RX7 yX7_is yX7_is ∈ gx_U := gx_mu (gx_t_2 (List.mem_of_getElem? (i := 175) rfl)) rfl
theorem lk_L_40 : gx_lk gx_U RL 40 RX7 yX7_is cX7_is 3 ((Option.some Jvm.ClassFile.FieldType.int)) 2 := ⟨gx_mu (gx_t_2 (List.mem_of_getElem? (i := 173) rfl)) rfl, un_X7_is, us_X7_is, ui_X7, uc_X7_is, rfl, by decide +kernel, by decide +kernel, by decide +kernel⟩
theorem uc_X8_is : Cond.code yX8_is cX8_is 3 ((Option.some Jvm.ClassFile.FieldType.int)) ∈ gx_U := gx_mu (gx_t_5 (List.mem_of_getElem? (i := 46) rfl)) rfl
theorem un_X8_is : Cond.instanceMethod yX8_is ∈ gx_U := gx_mu (gx_t_5 (List.mem_of_getElem? (i := 44) rfl)) rfl
theorem us_X8_is : Cond.selects RX8 yX8_is yX8_is ∈ gx_U := gx_mu (gx_t_5 (List.mem_of_getElem? (i := 45) rfl)) rfl
theorem lk_L_43 : gx_lk gx_U RL 43 RX8 yX8_is cX8_is 3 ((Option.some Jvm.ClassFile.FieldType.int)) 2 := ⟨gx_mu (gx_t_5 (List.mem_of_getElem? (i := 43) rfl)) rfl, un_X8_is, us_X8_is, ui_X8, uc_X8_is, rfl, by decide +kernel, by decide +kernel, by decide +kernel⟩
theorem uc_X7_goes : Cond.code yX7_goes cX7_goes 2 ((Option.some Jvm.ClassFile.FieldType.int)) ∈ gx_U := gx_mu (gx_t_2 (List.mem_of_getElem? (i := 185) rfl)) rfl
theorem un_X7_goes : Cond.instanceMethod yX7_goes ∈ gx_U := gx_mu (gx_t_2 (List.mem_of_getElem? (i := 183) rfl)) rfl
theorem us_X7_goes : Cond.selects RX7 yX7_goes yX7_goes ∈ gx_U := gx_mu (gx_t_2 (List.mem_of_getElem? (i := 184) rfl)) rfl
theorem lk_L_44 : gx_lk gx_U RL 44 RX7 yX7_goes cX7_goes 2 ((Option.some Jvm.ClassFile.FieldType.int)) 1 := ⟨gx_mu (gx_t_2 (List.mem_of_getElem? (i := 182) rfl)) rfl, un_X7_goes, us_X7_goes, ui_X7, uc_X7_goes, rfl, by decide +kernel, by decide +kernel, by decide +kernel⟩
theorem uc_X8_goes : Cond.code yX8_goes cX8_goes 2 ((Option.some Jvm.ClassFile.FieldType.int)) ∈ gx_U := gx_mu (gx_t_5 (List.mem_of_getElem? (i := 54) rfl)) rfl
theorem un_X8_goes : Cond.instanceMethod yX8_goes ∈ gx_U := gx_mu (gx_t_5 (List.mem_of_getElem? (i := 52) rfl)) rfl
theorem us_X8_goes : Cond.selects RX8 yX8_goes yX8_goes ∈ gx_U := gx_mu (gx_t_5 (List.mem_of_getElem? (i := 53) rfl)) rfl
theorem lk_L_48 : gx_lk gx_U RL 48 RX8 yX8_goes cX8_goes 2 ((Option.some Jvm.ClassFile.FieldType.int)) 1 := ⟨gx_mu (gx_t_5 (List.mem_of_getElem? (i := 51) rfl)) rfl, un_X8_goes, us_X8_goes, ui_X8, uc_X8_goes, rfl, by decide +kernel, by decide +kernel, by decide +kernel⟩
theorem uc_X7_spare : Cond.code yX7_spare cX7_spare 2 ((Option.some Jvm.ClassFile.FieldType.int)) ∈ gx_U := gx_mu (gx_t_2 (List.mem_of_getElem? (i := 190) rfl)) rfl
theorem un_X7_spare : Cond.instanceMethod yX7_spare ∈ gx_U := gx_mu (gx_t_2 (List.mem_of_getElem? (i := 188) rfl)) rfl
theorem us_X7_spare : Cond.selects RX7 yX7_spare yX7_spare ∈ gx_U := gx_mu (gx_t_2 (List.mem_of_getElem? (i := 189) rfl)) rfl
theorem lk_L_49 : gx_lk gx_U RL 49 RX7 yX7_spare cX7_spare 2 ((Option.some Jvm.ClassFile.FieldType.int)) 1 := ⟨gx_mu (gx_t_2 (List.mem_of_getElem? (i := 187) rfl)) rfl, un_X7_spare, us_X7_spare, ui_X7, uc_X7_spare, rfl, by decide +kernel, by decide +kernel, by decide +kernel⟩
theorem uc_X8_spare : Cond.code yX8_spare cX8_spare 2 ((Option.some Jvm.ClassFile.FieldType.int)) ∈ gx_U := gx_mu (gx_t_5 (List.mem_of_getElem? (i := 58) rfl)) rfl
theorem un_X8_spare : Cond.instanceMethod yX8_spare ∈ gx_U := gx_mu (gx_t_5 (List.mem_of_getElem? (i := 56) rfl)) rfl
theorem us_X8_spare : Cond.selects RX8 yX8_spare yX8_spare ∈ gx_U := gx_mu (gx_t_5 (List.mem_of_getElem? (i := 57) rfl)) rfl
theorem lk_L_52 : gx_lk gx_U RL 52 RX8 yX8_spare cX8_spare 2 ((Option.some Jvm.ClassFile.FieldType.int)) 1 := ⟨gx_mu (gx_t_5 (List.mem_of_getElem? (i := 55) rfl)) rfl, un_X8_spare, us_X8_spare, ui_X8, uc_X8_spare, rfl, by decide +kernel, by decide +kernel, by decide +kernel⟩
theorem uc_X7_profit : Cond.code yX7_profit cX7_profit 2 ((Option.some Jvm.ClassFile.FieldType.int)) ∈ gx_U := gx_mu (gx_t_2 (List.mem_of_getElem? (i := 198) rfl)) rfl
theorem un_X7_profit : Cond.instanceMethod yX7_profit ∈ gx_U := gx_mu (gx_t_2 (List.mem_of_getElem? (i := 196) rfl)) rfl
theorem us_X7_profit : Cond.selects RX7 yX7_profit yX7_profit ∈ gx_U := gx_mu (gx_t_2 (List.mem_of_getElem? (i := 197) rfl)) rfl
theorem lk_L_53 : gx_lk gx_U RL 53 RX7 yX7_profit cX7_profit 2 ((Option.some Jvm.ClassFile.FieldType.int)) 1 := ⟨gx_mu (gx_t_2 (List.mem_of_getElem? (i := 195) rfl)) rfl, un_X7_profit, us_X7_profit, ui_X7, uc_X7_profit, rfl, by decide +kernel, by decide +kernel, by decide +kernel⟩
theorem uc_X8_profit : Cond.code yX8_profit cX8_profit 2 ((Option.some Jvm.ClassFile.FieldType.int)) ∈ gx_U := gx_mu (gx_t_5 (List.mem_of_getElem? (i := 66) rfl)) rfl
theorem un_X8_profit : Cond.instanceMethod yX8_profit ∈ gx_U := gx_mu (gx_t_5 (List.mem_of_getElem? (i := 64) rfl)) rfl
theorem us_X8_profit : Cond.selects RX8 yX8_profit yX8_profit ∈ gx_U := gx_mu (gx_t_5 (List.mem_of_getElem? (i := 65) rfl)) rfl
theorem lk_L_56 : gx_lk gx_U RL 56 RX8 yX8_profit cX8_profit 2 ((Option.some Jvm.ClassFile.FieldType.int)) 1 := ⟨gx_mu (gx_t_5 (List.mem_of_getElem? (i := 63) rfl)) rfl, un_X8_profit, us_X8_profit, ui_X8, uc_X8_profit, rfl, by decide +kernel, by decide +kernel, by decide +kernel⟩
theorem uc_X7_best : Cond.code yX7_best cX7_best 4 ((Option.some Jvm.ClassFile.FieldType.int)) ∈ gx_U := gx_mu (gx_t_2 (List.mem_of_getElem? (i := 214) rfl)) rfl
theorem un_X7_best : Cond.instanceMethod yX7_best ∈ gx_U := gx_mu (gx_t_2 (List.mem_of_getElem? (i := 212) rfl)) rfl
theorem us_X7_best : Cond.selects RX7 yX7_best yX7_best ∈ gx_U := gx_mu (gx_t_2 (List.mem_of_getElem? (i := 213) rfl)) rfl
theorem lk_L_57 : gx_lk gx_U RL 57 RX7 yX7_best cX7_best 4 ((Option.some Jvm.ClassFile.FieldType.int)) 2 := ⟨gx_mu (gx_t_2 (List.mem_of_getElem? (i := 211) rfl)) rfl, un_X7_best, us_X7_best, ui_X7, uc_X7_best, rfl, by decide +kernel, by decide +kernel, by decide +kernel⟩
theorem uc_X8_best : Cond.code yX8_best cX8_best 4 ((Option.some Jvm.ClassFile.FieldType.int)) ∈ gx_U := gx_mu (gx_t_5 (List.mem_of_getElem? (i := 75) rfl)) rfl
theorem un_X8_best : Cond.instanceMethod yX8_best ∈ gx_U := gx_mu (gx_t_5 (List.mem_of_getElem? (i := 73) rfl)) rfl
theorem us_X8_best : Cond.selects RX8 yX8_best yX8_best ∈ gx_U := gx_mu (gx_t_5 (List.mem_of_getElem? (i := 74) rfl)) rfl
theorem lk_L_60 : gx_lk gx_U RL 60 RX8 yX8_best cX8_best 4 ((Option.some Jvm.ClassFile.FieldType.int)) 2 := ⟨gx_mu (gx_t_5 (List.mem_of_getElem? (i := 72) rfl)) rfl, un_X8_best, us_X8_best, ui_X8, uc_X8_best, rfl, by decide +kernel, by decide +kernel, by decide +kernel⟩
theorem uc_X7_turn : Cond.code yX7_turn cX7_turn 2 ((Option.some Jvm.ClassFile.FieldType.int)) ∈ gx_U := gx_mu (gx_t_3 (List.mem_of_getElem? (i := 26) rfl)) rfl
theorem un_X7_turn : Cond.instanceMethod yX7_turn ∈ gx_U := gx_mu (gx_t_3 (List.mem_of_getElem? (i := 24) rfl)) rfl
theorem us_X7_turn : Cond.selects RX7 yX7_turn yX7_turn ∈ gx_U := gx_mu (gx_t_3 (List.mem_of_getElem? (i := 25) rfl)) rfl
theorem lk_L_61 : gx_lk gx_U RL 61 RX7 yX7_turn cX7_turn 2 ((Option.some Jvm.ClassFile.FieldType.int)) 1 := ⟨gx_mu (gx_t_3 (List.mem_of_getElem? (i := 23) rfl)) rfl, un_X7_turn, us_X7_turn, ui_X7, uc_X7_turn, rfl, by decide +kernel, by decide +kernel, by decide +kernel⟩
theorem uc_X8_turn : Cond.code yX8_turn cX8_turn 2 ((Option.some Jvm.ClassFile.FieldType.int)) ∈ gx_U := gx_mu (gx_t_5 (List.mem_of_getElem? (i := 87) rfl)) rfl
theorem un_X8_turn : Cond.instanceMethod yX8_turn ∈ gx_U := gx_mu (gx_t_5 (List.mem_of_getElem? (i := 85) rfl)) rfl
theorem us_X8_turn : Cond.selects RX8 yX8_turn yX8_turn ∈ gx_U := gx_mu (gx_t_5 (List.mem_of_getElem? (i := 86) rfl)) rfl
theorem lk_L_64 : gx_lk gx_U RL 64 RX8 yX8_turn cX8_turn 2 ((Option.some Jvm.ClassFile.FieldType.int)) 1 := ⟨gx_mu (gx_t_5 (List.mem_of_getElem? (i := 84) rfl)) rfl, un_X8_turn, us_X8_turn, ui_X8, uc_X8_turn, rfl, by decide +kernel, by decide +kernel, by decide +kernel⟩
theorem uc_X7_rest : Cond.code yX7_rest cX7_rest 2 ((Option.some Jvm.ClassFile.FieldType.int)) ∈ gx_U := gx_mu (gx_t_3 (List.mem_of_getElem? (i := 34) rfl)) rfl
theorem un_X7_rest : Cond.instanceMethod yX7_rest ∈ gx_U := gx_mu (gx_t_3 (List.mem_of_getElem? (i := 32) rfl)) rfl
theorem us_X7_rest : Cond.selects RX7 yX7_rest yX7_rest ∈ gx_U := gx_mu (gx_t_3 (List.mem_of_getElem? (i := 33) rfl)) rfl
theorem lk_L_65 : gx_lk gx_U RL 65 RX7 yX7_rest cX7_rest 2 ((Option.some Jvm.ClassFile.FieldType.int)) 0 := ⟨gx_mu (gx_t_3 (List.mem_of_getElem? (i := 31) rfl)) rfl, un_X7_rest, us_X7_rest, ui_X7, uc_X7_rest, rfl, by decide +kernel, by decide +kernel, by decide +kernel⟩
theorem uc_X8_rest : Cond.code yX8_rest cX8_rest 2 ((Option.some Jvm.ClassFile.FieldType.int)) ∈ gx_U := gx_mu (gx_t_5 (List.mem_of_getElem? (i := 95) rfl)) rfl
theorem un_X8_rest : Cond.instanceMethod yX8_rest ∈ gx_U := gx_mu (gx_t_5 (List.mem_of_getElem? (i := 93) rfl)) rfl
theorem us_X8_rest : Cond.selects RX8 yX8_rest yX8_rest ∈ gx_U := gx_mu (gx_t_5 (List.mem_of_getElem? (i := 94) rfl)) rfl
theorem lk_L_69 : gx_lk gx_U RL 69 RX8 yX8_rest cX8_rest 2 ((Option.some Jvm.ClassFile.FieldType.int)) 0 := ⟨gx_mu (gx_t_5 (List.mem_of_getElem? (i := 92) rfl)) rfl, un_X8_rest, us_X8_rest, ui_X8, uc_X8_rest, rfl, by decide +kernel, by decide +kernel, by decide +kernel⟩
theorem uc_X7_otherwise : Cond.code yX7_otherwise cX7_otherwise 2 ((Option.some Jvm.ClassFile.FieldType.int)) ∈ gx_U := gx_mu (gx_t_3 (List.mem_of_getElem? (i := 48) rfl)) rfl
theorem un_X7_otherwise : Cond.instanceMethod yX7_otherwise ∈ gx_U := gx_mu (gx_t_3 (List.mem_of_getElem? (i := 46) rfl)) rfl
theorem us_X7_otherwise : Cond.selects RX7 yX7_otherwise yX7_otherwise ∈ gx_U := gx_mu (gx_t_3 (List.mem_of_getElem? (i := 47) rfl)) rfl
theorem lk_L_70 : gx_lk gx_U RL 70 RX7 yX7_otherwise cX7_otherwise 2 ((Option.some Jvm.ClassFile.FieldType.int)) 0 := ⟨gx_mu (gx_t_3 (List.mem_of_getElem? (i := 45) rfl)) rfl, un_X7_otherwise, us_X7_otherwise, ui_X7, uc_X7_otherwise, rfl, by decide +kernel, by decide +kernel, by decide +kernel⟩
theorem uc_X8_otherwise : Cond.code yX8_otherwise cX8_otherwise 2 ((Option.some Jvm.ClassFile.FieldType.int)) ∈ gx_U := gx_mu (gx_t_5 (List.mem_of_getElem? (i := 111) rfl)) rfl
theorem un_X8_otherwise : Cond.instanceMethod yX8_otherwise ∈ gx_U := gx_mu (gx_t_5 (List.mem_of_getElem? (i := 109) rfl)) rfl
theorem us_X8_otherwise : Cond.selects RX8 yX8_otherwise yX8_otherwise ∈ gx_U := gx_mu (gx_t_5 (List.mem_of_getElem? (i := 110) rfl)) rfl
theorem lk_L_73 : gx_lk gx_U RL 73 RX8 yX8_otherwise cX8_otherwise 2 ((Option.some Jvm.ClassFile.FieldType.int)) 0 := ⟨gx_mu (gx_t_5 (List.mem_of_getElem? (i := 108) rfl)) rfl, un_X8_otherwise, us_X8_otherwise, ui_X8, uc_X8_otherwise, rfl, by decide +kernel, by decide +kernel, by decide +kernel⟩
theorem uc_X7_gain : Cond.code yX7_gain cX7_gain 2 ((Option.some Jvm.ClassFile.FieldType.int)) ∈ gx_U := gx_mu (gx_t_3 (List.mem_of_getElem? (i := 56) rfl)) rfl
theorem un_X7_gain : Cond.instanceMethod yX7_gain ∈ gx_U := gx_mu (gx_t_3 (List.mem_of_getElem? (i := 54) rfl)) rfl
theorem us_X7_gain : Cond.selects RX7 yX7_gain yX7_gain ∈ gx_U := gx_mu (gx_t_3 (List.mem_of_getElem? (i := 55) rfl)) rfl
theorem lk_L_74 : gx_lk gx_U RL 74 RX7 yX7_gain cX7_gain 2 ((Option.some Jvm.ClassFile.FieldType.int)) 1 := ⟨gx_mu (gx_t_3 (List.mem_of_getElem? (i := 53) rfl)) rfl, un_X7_gain, us_X7_gain, ui_X7, uc_X7_gain, rfl, by decide +kernel, by decide +kernel, by decide +kernel⟩
theorem uc_X8_gain : Cond.code yX8_gain cX8_gain 2 ((Option.some Jvm.ClassFile.FieldType.int)) ∈ gx_U := gx_mu (gx_t_5 (List.mem_of_getElem? (i := 119) rfl)) rfl
theorem un_X8_gain : Cond.instanceMethod yX8_gain ∈ gx_U := gx_mu (gx_t_5 (List.mem_of_getElem? (i := 117) rfl)) rfl
theorem us_X8_gain : Cond.selects RX8 yX8_gain yX8_gain ∈ gx_U := gx_mu (gx_t_5 (List.mem_of_getElem? (i := 118) rfl)) rfl
theorem lk_L_77 : gx_lk gx_U RL 77 RX8 yX8_gain cX8_gain 2 ((Option.some Jvm.ClassFile.FieldType.int)) 1 := ⟨gx_mu (gx_t_5 (List.mem_of_getElem? (i := 116) rfl)) rfl, un_X8_gain, us_X8_gain, ui_X8, uc_X8_gain, rfl, by decide +kernel, by decide +kernel, by decide +kernel⟩
theorem uc_X7_market : Cond.code yX7_market cX7_market 4 ((Option.some Jvm.ClassFile.FieldType.int)) ∈ gx_U := gx_mu (gx_t_3 (List.mem_of_getElem? (i := 60) rfl)) rfl
theorem un_X7_market : Cond.instanceMethod yX7_market ∈ gx_U := gx_mu (gx_t_3 (List.mem_of_getElem? (i := 58) rfl)) rfl
theorem us_X7_market : Cond.selects RX7 yX7_market yX7_market ∈ gx_U := gx_mu (gx_t_3 (List.mem_of_getElem? (i := 59) rfl)) rfl
theorem lk_L_78 : gx_lk gx_U RL 78 RX7 yX7_market cX7_market 4 ((Option.some Jvm.ClassFile.FieldType.int)) 3 := ⟨gx_mu (gx_t_3 (List.mem_of_getElem? (i := 57) rfl)) rfl, un_X7_market, us_X7_market, ui_X7, uc_X7_market, rfl, by decide +kernel, by decide +kernel, by decide +kernel⟩
theorem uc_X8_market : Cond.code yX8_market cX8_market 4 ((Option.some Jvm.ClassFile.FieldType.int)) ∈ gx_U := gx_mu (gx_t_5 (List.mem_of_getElem? (i := 123) rfl)) rfl
theorem un_X8_market : Cond.instanceMethod yX8_market ∈ gx_U := gx_mu (gx_t_5 (List.mem_of_getElem? (i := 121) rfl)) rfl
theorem us_X8_market : Cond.selects RX8 yX8_market yX8_market ∈ gx_U := gx_mu (gx_t_5 (List.mem_of_getElem? (i := 122) rfl)) rfl
theorem lk_L_82 : gx_lk gx_U RL 82 RX8 yX8_market cX8_market 4 ((Option.some Jvm.ClassFile.FieldType.int)) 3 := ⟨gx_mu (gx_t_5 (List.mem_of_getElem? (i := 120) rfl)) rfl, un_X8_market, us_X8_market, ui_X8, uc_X8_market, rfl, by decide +kernel, by decide +kernel, by decide +kernel⟩
theorem uc_X7_instead : Cond.code yX7_instead cX7_instead 3 ((Option.some Jvm.ClassFile.FieldType.int)) ∈ gx_U := gx_mu (gx_t_3 (List.mem_of_getElem? (i := 91) rfl)) rfl
theorem un_X7_instead : Cond.instanceMethod yX7_instead ∈ gx_U := gx_mu (gx_t_3 (List.mem_of_getElem? (i := 89) rfl)) rfl
theorem us_X7_instead : Cond.selects RX7 yX7_instead yX7_instead ∈ gx_U := gx_mu (gx_t_3 (List.mem_of_getElem? (i := 90) rfl)) rfl
theorem lk_L_83 : gx_lk gx_U RL 83 RX7 yX7_instead cX7_instead 3 ((Option.some Jvm.ClassFile.FieldType.int)) 2 := ⟨gx_mu (gx_t_3 (List.mem_of_getElem? (i := 88) rfl)) rfl, un_X7_instead, us_X7_instead, ui_X7, uc_X7_instead, rfl, by decide +kernel, by decide +kernel, by decide +kernel⟩
theorem uc_X8_instead : Cond.code yX8_instead cX8_instead 3 ((Option.some Jvm.ClassFile.FieldType.int)) ∈ gx_U := gx_mu (gx_t_5 (List.mem_of_getElem? (i := 150) rfl)) rfl
theorem un_X8_instead : Cond.instanceMethod yX8_instead ∈ gx_U := gx_mu (gx_t_5 (List.mem_of_getElem? (i := 148) rfl)) rfl
theorem us_X8_instead : Cond.selects RX8 yX8_instead yX8_instead ∈ gx_U := gx_mu (gx_t_5 (List.mem_of_getElem? (i := 149) rfl)) rfl
theorem lk_L_86 : gx_lk gx_U RL 86 RX8 yX8_instead cX8_instead 3 ((Option.some Jvm.ClassFile.FieldType.int)) 2 := ⟨gx_mu (gx_t_5 (List.mem_of_getElem? (i := 147) rfl)) rfl, un_X8_instead, us_X8_instead, ui_X8, uc_X8_instead, rfl, by decide +kernel, by decide +kernel, by decide +kernel⟩
theorem uc_X7_from : Cond.code yX7_from cX7_from 5 ((Option.some Jvm.ClassFile.FieldType.int)) ∈ gx_U := gx_mu (gx_t_3 (List.mem_of_getElem? (i := 95) rfl)) rfl
theorem un_X7_from : Cond.instanceMethod yX7_from ∈ gx_U := gx_mu (gx_t_3 (List.mem_of_getElem? (i := 93) rfl)) rfl
theorem us_X7_from : Cond.selects RX7 yX7_from yX7_from ∈ gx_U := gx_mu (gx_t_3 (List.mem_of_getElem? (i := 94) rfl)) rfl
theorem lk_L_87 : gx_lk gx_U RL 87 RX7 yX7_from cX7_from 5 ((Option.some Jvm.ClassFile.FieldType.int)) 2 := ⟨gx_mu (gx_t_3 (List.mem_of_getElem? (i := 92) rfl)) rfl, un_X7_from, us_X7_from, ui_X7, uc_X7_from, rfl, by decide +kernel, by decide +kernel, by decide +kernel⟩
theorem uc_X8_from : Cond.code yX8_from cX8_from 5 ((Option.some Jvm.ClassFile.FieldType.int)) ∈ gx_U := gx_mu (gx_t_5 (List.mem_of_getElem? (i := 158) rfl)) rfl
theorem un_X8_from : Cond.instanceMethod yX8_from ∈ gx_U := gx_mu (gx_t_5 (List.mem_of_getElem? (i := 156) rfl)) rfl
theorem us_X8_from : Cond.selects RX8 yX8_from yX8_from ∈ gx_U := gx_mu (gx_t_5 (List.mem_of_getElem? (i := 157) rfl)) rfl
theorem lk_L_90 : gx_lk gx_U RL 90 RX8 yX8_from cX8_from 5 ((Option.some Jvm.ClassFile.FieldType.int)) 2 := ⟨gx_mu (gx_t_5 (List.mem_of_getElem? (i := 155) rfl)) rfl, un_X8_from, us_X8_from, ui_X8, uc_X8_from, rfl, by decide +kernel, by decide +kernel, by decide +kernel⟩
theorem uc_X7_merge : Cond.code yX7_merge cX7_merge 3 ((Option.some Jvm.ClassFile.FieldType.int)) ∈ gx_U := gx_mu (gx_t_3 (List.mem_of_getElem? (i := 99) rfl)) rfl
theorem un_X7_merge : Cond.instanceMethod yX7_merge ∈ gx_U := gx_mu (gx_t_3 (List.mem_of_getElem? (i := 97) rfl)) rfl
theorem us_X7_merge : Cond.selects RX7 yX7_merge yX7_merge ∈ gx_U := gx_mu (gx_t_3 (List.mem_of_getElem? (i := 98) rfl)) rfl
theorem lk_L_91 : gx_lk gx_U RL 91 RX7 yX7_merge cX7_merge 3 ((Option.some Jvm.ClassFile.FieldType.int)) 2 := ⟨gx_mu (gx_t_3 (List.mem_of_getElem? (i := 96) rfl)) rfl, un_X7_merge, us_X7_merge, ui_X7, uc_X7_merge, rfl, by decide +kernel, by decide +kernel, by decide +kernel⟩
theorem uc_X8_merge : Cond.code yX8_merge cX8_merge 3 ((Option.some Jvm.ClassFile.FieldType.int)) ∈ gx_U := gx_mu (gx_t_5 (List.mem_of_getElem? (i := 162) rfl)) rfl
theorem un_X8_merge : Cond.instanceMethod yX8_merge ∈ gx_U := gx_mu (gx_t_5 (List.mem_of_getElem? (i := 160) rfl)) rfl
theorem us_X8_merge : Cond.selects RX8 yX8_merge yX8_merge ∈ gx_U := gx_mu (gx_t_5 (List.mem_of_getElem? (i := 161) rfl)) rfl
theorem lk_L_94 : gx_lk gx_U RL 94 RX8 yX8_merge cX8_merge 3 ((Option.some Jvm.ClassFile.FieldType.int)) 2 := ⟨gx_mu (gx_t_5 (List.mem_of_getElem? (i := 159) rfl)) rfl, un_X8_merge, us_X8_merge, ui_X8, uc_X8_merge, rfl, by decide +kernel, by decide +kernel, by decide +kernel⟩
theorem uc_X7_dearer : Cond.code yX7_dearer cX7_dearer 4 ((Option.some Jvm.ClassFile.FieldType.int)) ∈ gx_U := gx_mu (gx_t_3 (List.mem_of_getElem? (i := 115) rfl)) rfl
theorem un_X7_dearer : Cond.instanceMethod yX7_dearer ∈ gx_U := gx_mu (gx_t_3 (List.mem_of_getElem? (i := 113) rfl)) rfl
theorem us_X7_dearer : Cond.selects RX7 yX7_dearer yX7_dearer ∈ gx_U := gx_mu (gx_t_3 (List.mem_of_getElem? (i := 114) rfl)) rfl
theorem lk_L_95 : gx_lk gx_U RL 95 RX7 yX7_dearer cX7_dearer 4 ((Option.some Jvm.ClassFile.FieldType.int)) 3 := ⟨gx_mu (gx_t_3 (List.mem_of_getElem? (i := 112) rfl)) rfl, un_X7_dearer, us_X7_dearer, ui_X7, uc_X7_dearer, rfl, by decide +kernel, by decide +kernel, by decide +kernel⟩
theorem uc_X8_dearer : Cond.code yX8_dearer cX8_dearer 5 ((Option.some Jvm.ClassFile.FieldType.int)) ∈ gx_U := gx_mu (gx_t_5 (List.mem_of_getElem? (i := 178) rfl)) rfl
theorem un_X8_dearer : Cond.instanceMethod yX8_dearer ∈ gx_U := gx_mu (gx_t_5 (List.mem_of_getElem? (i := 176) rfl)) rfl
theorem us_X8_dearer : Cond.selects RX8 yX8_dearer yX8_dearer ∈ gx_U := gx_mu (gx_t_5 (List.mem_of_getElem? (i := 177) rfl)) rfl
theorem lk_L_99 : gx_lk gx_U RL 99 RX8 yX8_dearer cX8_dearer 5 ((Option.some Jvm.ClassFile.FieldType.int)) 3 := ⟨gx_mu (gx_t_5 (List.mem_of_getElem? (i := 175) rfl)) rfl, un_X8_dearer, us_X8_dearer, ui_X8, uc_X8_dearer, rfl, by decide +kernel, by decide +kernel, by decide +kernel⟩
theorem uc_X7_harm : Cond.code yX7_harm cX7_harm 5 ((Option.some Jvm.ClassFile.FieldType.int)) ∈ gx_U := gx_mu (gx_t_3 (List.mem_of_getElem? (i := 135) rfl)) rfl
theorem un_X7_harm : Cond.instanceMethod yX7_harm ∈ gx_U := gx_mu (gx_t_3 (List.mem_of_getElem? (i := 133) rfl)) rfl
theorem us_X7_harm : Cond.selects RX7 yX7_harm yX7_harm ∈ gx_U := gx_mu (gx_t_3 (List.mem_of_getElem? (i := 134) rfl)) rfl
theorem lk_L_100 : gx_lk gx_U RL 100 RX7 yX7_harm cX7_harm 5 ((Option.some Jvm.ClassFile.FieldType.int)) 3 := ⟨gx_mu (gx_t_3 (List.mem_of_getElem? (i := 132) rfl)) rfl, un_X7_harm, us_X7_harm, ui_X7, uc_X7_harm, rfl, by decide +kernel, by decide +kernel, by decide +kernel⟩
theorem uc_X8_harm : Cond.code yX8_harm cX8_harm 4 ((Option.some Jvm.ClassFile.FieldType.int)) ∈ gx_U := gx_mu (gx_t_5 (List.mem_of_getElem? (i := 190) rfl)) rfl
theorem un_X8_harm : Cond.instanceMethod yX8_harm ∈ gx_U := gx_mu (gx_t_5 (List.mem_of_getElem? (i := 188) rfl)) rfl
theorem us_X8_harm : Cond.selects RX8 yX8_harm yX8_harm ∈ gx_U := gx_mu (gx_t_5 (List.mem_of_getElem? (i := 189) rfl)) rfl
theorem lk_L_103 : gx_lk gx_U RL 103 RX8 yX8_harm cX8_harm 4 ((Option.some Jvm.ClassFile.FieldType.int)) 3 := ⟨gx_mu (gx_t_5 (List.mem_of_getElem? (i := 187) rfl)) rfl, un_X8_harm, us_X8_harm, ui_X8, uc_X8_harm, rfl, by decide +kernel, by decide +kernel, by decide +kernel⟩
theorem uc_X7_soldOff : Cond.code yX7_soldOff cX7_soldOff 10 ((Option.some Jvm.ClassFile.FieldType.int)) ∈ gx_U := gx_mu (gx_t_3 (List.mem_of_getElem? (i := 149) rfl)) rfl
theorem un_X7_soldOff : Cond.instanceMethod yX7_soldOff ∈ gx_U := gx_mu (gx_t_3 (List.mem_of_getElem? (i := 147) rfl)) rfl
theorem us_X7_soldOff : Cond.selects RX7 yX7_soldOff yX7_soldOff ∈ gx_U := gx_mu (gx_t_3 (List.mem_of_getElem? (i := 148) rfl)) rfl
theorem lk_L_104 : gx_lk gx_U RL 104 RX7 yX7_soldOff cX7_soldOff 10 ((Option.some Jvm.ClassFile.FieldType.int)) 4 := ⟨gx_mu (gx_t_3 (List.mem_of_getElem? (i := 146) rfl)) rfl, un_X7_soldOff, us_X7_soldOff, ui_X7, uc_X7_soldOff, rfl, by decide +kernel, by decide +kernel, by decide +kernel⟩
theorem uc_X8_soldOff : Cond.code yX8_soldOff cX8_soldOff 9 ((Option.some Jvm.ClassFile.FieldType.int)) ∈ gx_U := gx_mu (gx_t_5 (List.mem_of_getElem? (i := 198) rfl)) rfl
theorem un_X8_soldOff : Cond.instanceMethod yX8_soldOff ∈ gx_U := gx_mu (gx_t_5 (List.mem_of_getElem? (i := 196) rfl)) rfl
theorem us_X8_soldOff : Cond.selects RX8 yX8_soldOff yX8_soldOff ∈ gx_U := gx_mu (gx_t_5 (List.mem_of_getElem? (i := 197) rfl)) rfl
theorem lk_L_107 : gx_lk gx_U RL 107 RX8 yX8_soldOff cX8_soldOff 9 ((Option.some Jvm.ClassFile.FieldType.int)) 4 := ⟨gx_mu (gx_t_5 (List.mem_of_getElem? (i := 195) rfl)) rfl, un_X8_soldOff, us_X8_soldOff, ui_X8, uc_X8_soldOff, rfl, by decide +kernel, by decide +kernel, by decide +kernel⟩
theorem uc_X7_twice : Cond.code yX7_twice cX7_twice 9 ((Option.some Jvm.ClassFile.FieldType.int)) ∈ gx_U := gx_mu (gx_t_3 (List.mem_of_getElem? (i := 159) rfl)) rfl
theorem un_X7_twice : Cond.instanceMethod yX7_twice ∈ gx_U := gx_mu (gx_t_3 (List.mem_of_getElem? (i := 157) rfl)) rfl
theorem us_X7_twice : Cond.selects RX7 yX7_twice yX7_twice ∈ gx_U := gx_mu (gx_t_3 (List.mem_of_getElem? (i := 158) rfl)) rfl
theorem lk_L_108 : gx_lk gx_U RL 108 RX7 yX7_twice cX7_twice 9 ((Option.some Jvm.ClassFile.FieldType.int)) 5 := ⟨gx_mu (gx_t_3 (List.mem_of_getElem? (i := 156) rfl)) rfl, un_X7_twice, us_X7_twice, ui_X7, uc_X7_twice, rfl, by decide +kernel, by decide +kernel, by decide +kernel⟩
theorem uc_X8_twice : Cond.code yX8_twice cX8_twice 7 ((Option.some Jvm.ClassFile.FieldType.int)) ∈ gx_U := gx_mu (gx_t_5 (List.mem_of_getElem? (i := 206) rfl)) rfl
theorem un_X8_twice : Cond.instanceMethod yX8_twice ∈ gx_U := gx_mu (gx_t_5 (List.mem_of_getElem? (i := 204) rfl)) rfl
theorem us_X8_twice : Cond.selects RX8 yX8_twice yX8_twice ∈ gx_U := gx_mu (gx_t_5 (List.mem_of_getElem? (i := 205) rfl)) rfl
theorem lk_L_112 : gx_lk gx_U RL 112 RX8 yX8_twice cX8_twice 7 ((Option.some Jvm.ClassFile.FieldType.int)) 5 := ⟨gx_mu (gx_t_5 (List.mem_of_getElem? (i := 203) rfl)) rfl, un_X8_twice, us_X8_twice, ui_X8, uc_X8_twice, rfl, by decide +kernel, by decide +kernel, by decide +kernel⟩
theorem uc_X7_letters : Cond.code yX7_letters cX7_letters 7 ((Option.some Jvm.ClassFile.FieldType.int)) ∈ gx_U := gx_mu (gx_t_3 (List.mem_of_getElem? (i := 168) rfl)) rfl
theorem un_X7_letters : Cond.instanceMethod yX7_letters ∈ gx_U := gx_mu (gx_t_3 (List.mem_of_getElem? (i := 166) rfl)) rfl
theorem us_X7_letters : Cond.selects RX7 yX7_letters yX7_letters ∈ gx_U := gx_mu (gx_t_3 (List.mem_of_getElem? (i := 167) rfl)) rfl
theorem lk_L_115 : gx_lk gx_U RL 115 RX7 yX7_letters cX7_letters 7 ((Option.some Jvm.ClassFile.FieldType.int)) 1 := ⟨gx_mu (gx_t_3 (List.mem_of_getElem? (i := 165) rfl)) rfl, un_X7_letters, us_X7_letters, ui_X7, uc_X7_letters, rfl, by decide +kernel, by decide +kernel, by decide +kernel⟩
theorem uc_X8_letters : Cond.code yX8_letters cX8_letters 7 ((Option.some Jvm.ClassFile.FieldType.int)) ∈ gx_U := gx_mu (gx_t_5 (List.mem_of_getElem? (i := 210) rfl)) rfl
theorem un_X8_letters : Cond.instanceMethod yX8_letters ∈ gx_U := gx_mu (gx_t_5 (List.mem_of_getElem? (i := 208) rfl)) rfl
theorem us_X8_letters : Cond.selects RX8 yX8_letters yX8_letters ∈ gx_U := gx_mu (gx_t_5 (List.mem_of_getElem? (i := 209) rfl)) rfl
theorem lk_L_119 : gx_lk gx_U RL 119 RX8 yX8_letters cX8_letters 7 ((Option.some Jvm.ClassFile.FieldType.int)) 1 := ⟨gx_mu (gx_t_5 (List.mem_of_getElem? (i := 207) rfl)) rfl, un_X8_letters, us_X8_letters, ui_X8, uc_X8_letters, rfl, by decide +kernel, by decide +kernel, by decide +kernel⟩
theorem uc_X7_blank : Cond.code yX7_blank cX7_blank 2 ((Option.some Jvm.ClassFile.FieldType.int)) ∈ gx_U := gx_mu (gx_t_3 (List.mem_of_getElem? (i := 180) rfl)) rfl
theorem un_X7_blank : Cond.instanceMethod yX7_blank ∈ gx_U := gx_mu (gx_t_3 (List.mem_of_getElem? (i := 178) rfl)) rfl
theorem us_X7_blank : Cond.selects RX7 yX7_blank yX7_blank ∈ gx_U := gx_mu (gx_t_3 (List.mem_of_getElem? (i := 179) rfl)) rfl
theorem lk_L_120 : gx_lk gx_U RL 120 RX7 yX7_blank cX7_blank 2 ((Option.some Jvm.ClassFile.FieldType.int)) 0 := ⟨gx_mu (gx_t_3 (List.mem_of_getElem? (i := 177) rfl)) rfl, un_X7_blank, us_X7_blank, ui_X7, uc_X7_blank, rfl, by decide +kernel, by decide +kernel, by decide +kernel⟩
theorem uc_X8_blank : Cond.code yX8_blank cX8_blank 2 ((Option.some Jvm.ClassFile.FieldType.int)) ∈ gx_U := gx_mu (gx_t_5 (List.mem_of_getElem? (i := 215) rfl)) rfl
theorem un_X8_blank : Cond.instanceMethod yX8_blank ∈ gx_U := gx_mu (gx_t_5 (List.mem_of_getElem? (i := 213) rfl)) rfl
theorem us_X8_blank : Cond.selects RX8 yX8_blank yX8_blank ∈ gx_U := gx_mu (gx_t_5 (List.mem_of_getElem? (i := 214) rfl)) rfl
theorem lk_L_123 : gx_lk gx_U RL 123 RX8 yX8_blank cX8_blank 2 ((Option.some Jvm.ClassFile.FieldType.int)) 0 := ⟨gx_mu (gx_t_5 (List.mem_of_getElem? (i := 212) rfl)) rfl, un_X8_blank, us_X8_blank, ui_X8, uc_X8_blank, rfl, by decide +kernel, by decide +kernel, by decide +kernel⟩
theorem uc_X7_fault : Cond.code yX7_fault cX7_fault 1 ((Option.some Jvm.ClassFile.FieldType.int)) ∈ gx_U := gx_mu (gx_t_3 (List.mem_of_getElem? (i := 184) rfl)) rfl
theorem un_X7_fault : Cond.instanceMethod yX7_fault ∈ gx_U := gx_mu (gx_t_3 (List.mem_of_getElem? (i := 182) rfl)) rfl
theorem us_X7_fault : Cond.selects RX7 yX7_fault yX7_fault ∈ gx_U := gx_mu (gx_t_3 (List.mem_of_getElem? (i := 183) rfl)) rfl
theorem lk_L_124 : gx_lk gx_U RL 124 RX7 yX7_fault cX7_fault 1 ((Option.some Jvm.ClassFile.FieldType.int)) 0 := ⟨gx_mu (gx_t_3 (List.mem_of_getElem? (i := 181) rfl)) rfl, un_X7_fault, us_X7_fault, ui_X7, uc_X7_fault, rfl, by decide +kernel, by decide +kernel, by decide +kernel⟩
theorem uc_X8_fault : Cond.code yX8_fault cX8_fault 1 ((Option.some Jvm.ClassFile.FieldType.int)) ∈ gx_U := gx_mu (gx_t_5 (List.mem_of_getElem? (i := 219) rfl)) rfl
theorem un_X8_fault : Cond.instanceMethod yX8_fault ∈ gx_U := gx_mu (gx_t_5 (List.mem_of_getElem? (i := 217) rfl)) rfl
theorem us_X8_fault : Cond.selects RX8 yX8_fault yX8_fault ∈ gx_U := gx_mu (gx_t_5 (List.mem_of_getElem? (i := 218) rfl)) rfl
theorem lk_L_127 : gx_lk gx_U RL 127 RX8 yX8_fault cX8_fault 1 ((Option.some Jvm.ClassFile.FieldType.int)) 0 := ⟨gx_mu (gx_t_5 (List.mem_of_getElem? (i := 216) rfl)) rfl, un_X8_fault, us_X8_fault, ui_X8, uc_X8_fault, rfl, by decide +kernel, by decide +kernel, by decide +kernel⟩
theorem uc_X7_test : Cond.code yX7_test cX7_test 1 ((Option.some Jvm.ClassFile.FieldType.int)) ∈ gx_U := gx_mu (gx_t_3 (List.mem_of_getElem? (i := 215) rfl)) rfl
theorem un_X7_test : Cond.instanceMethod yX7_test ∈ gx_U := gx_mu (gx_t_3 (List.mem_of_getElem? (i := 213) rfl)) rfl
theorem us_X7_test : Cond.selects RX7 yX7_test yX7_test ∈ gx_U := gx_mu (gx_t_3 (List.mem_of_getElem? (i := 214) rfl)) rfl
theorem lk_L_128 : gx_lk gx_U RL 128 RX7 yX7_test cX7_test 1 ((Option.some Jvm.ClassFile.FieldType.int)) 0 := ⟨gx_mu (gx_t_3 (List.mem_of_getElem? (i := 212) rfl)) rfl, un_X7_test, us_X7_test, ui_X7, uc_X7_test, rfl, by decide +kernel, by decide +kernel, by decide +kernel⟩
theorem uc_X8_test : Cond.code yX8_test cX8_test 2 ((Option.some Jvm.ClassFile.FieldType.int)) ∈ gx_U := gx_mu (gx_t_5 (List.mem_of_getElem? (i := 233) rfl)) rfl
theorem un_X8_test : Cond.instanceMethod yX8_test ∈ gx_U := gx_mu (gx_t_5 (List.mem_of_getElem? (i := 231) rfl)) rfl
theorem us_X8_test : Cond.selects RX8 yX8_test yX8_test ∈ gx_U := gx_mu (gx_t_5 (List.mem_of_getElem? (i := 232) rfl)) rfl
theorem lk_L_131 : gx_lk gx_U RL 131 RX8 yX8_test cX8_test 2 ((Option.some Jvm.ClassFile.FieldType.int)) 0 := ⟨gx_mu (gx_t_5 (List.mem_of_getElem? (i := 230) rfl)) rfl, un_X8_test, us_X8_test, ui_X8, uc_X8_test, rfl, by decide +kernel, by decide +kernel, by decide +kernel⟩
theorem uc_X7_bars : Cond.code yX7_bars cX7_bars 4 ((Option.some Jvm.ClassFile.FieldType.int)) ∈ gx_U := gx_mu (gx_t_3 (List.mem_of_getElem? (i := 228) rfl)) rfl
theorem un_X7_bars : Cond.instanceMethod yX7_bars ∈ gx_U := gx_mu (gx_t_3 (List.mem_of_getElem? (i := 226) rfl)) rfl
theorem us_X7_bars : Cond.selects RX7 yX7_bars yX7_bars ∈ gx_U := gx_mu (gx_t_3 (List.mem_of_getElem? (i := 227) rfl)) rfl
theorem lk_L_132 : gx_lk gx_U RL 132 RX7 yX7_bars cX7_bars 4 ((Option.some Jvm.ClassFile.FieldType.int)) 3 := ⟨gx_mu (gx_t_3 (List.mem_of_getElem? (i := 225) rfl)) rfl, un_X7_bars, us_X7_bars, ui_X7, uc_X7_bars, rfl, by decide +kernel, by decide +kernel, by decide +kernel⟩
theorem uc_X8_bars : Cond.code yX8_bars cX8_bars 4 ((Option.some Jvm.ClassFile.FieldType.int)) ∈ gx_U := gx_mu (gx_t_5 (List.mem_of_getElem? (i := 237) rfl)) rfl
theorem un_X8_bars : Cond.instanceMethod yX8_bars ∈ gx_U := gx_mu (gx_t_5 (List.mem_of_getElem? (i := 235) rfl)) rfl
theorem us_X8_bars : Cond.selects RX8 yX8_bars yX8_bars ∈ gx_U := gx_mu (gx_t_5 (List.mem_of_getElem? (i := 236) rfl)) rfl
theorem lk_L_135 : gx_lk gx_U RL 135 RX8 yX8_bars cX8_bars 4 ((Option.some Jvm.ClassFile.FieldType.int)) 3 := ⟨gx_mu (gx_t_5 (List.mem_of_getElem? (i := 234) rfl)) rfl, un_X8_bars, us_X8_bars, ui_X8, uc_X8_bars, rfl, by decide +kernel, by decide +kernel, by decide +kernel⟩
theorem uc_X7_wrong : Cond.code yX7_wrong cX7_wrong 6 ((Option.some Jvm.ClassFile.FieldType.int)) ∈ gx_U := gx_mu (gx_t_4 (List.mem_of_getElem? (i := 44) rfl)) rfl
theorem un_X7_wrong : Cond.instanceMethod yX7_wrong ∈ gx_U := gx_mu (gx_t_4 (List.mem_of_getElem? (i := 42) rfl)) rfl
theorem us_X7_wrong : Cond.selects RX7 yX7_wrong yX7_wrong ∈ gx_U := gx_mu (gx_t_4 (List.mem_of_getElem? (i := 43) rfl)) rfl
theorem lk_L_136 : gx_lk gx_U RL 136 RX7 yX7_wrong cX7_wrong 6 ((Option.some Jvm.ClassFile.FieldType.int)) 2 := ⟨gx_mu (gx_t_4 (List.mem_of_getElem? (i := 41) rfl)) rfl, un_X7_wrong, us_X7_wrong, ui_X7, uc_X7_wrong, rfl, by decide +kernel, by decide +kernel, by decide +kernel⟩
theorem uc_X8_wrong : Cond.code yX8_wrong cX8_wrong 8 ((Option.some Jvm.ClassFile.FieldType.int)) ∈ gx_U := gx_mu (gx_t_6 (List.mem_of_getElem? (i := 25) rfl)) rfl
theorem un_X8_wrong : Cond.instanceMethod yX8_wrong ∈ gx_U := gx_mu (gx_t_6 (List.mem_of_getElem? (i := 23) rfl)) rfl
theorem us_X8_wrong : Cond.selects RX8 yX8_wrong yX8_wrong ∈ gx_U := gx_mu (gx_t_6 (List.mem_of_getElem? (i := 24) rfl)) rfl
theorem lk_L_139 : gx_lk gx_U RL 139 RX8 yX8_wrong cX8_wrong 8 ((Option.some Jvm.ClassFile.FieldType.int)) 2 := ⟨gx_mu (gx_t_6 (List.mem_of_getElem? (i := 22) rfl)) rfl, un_X8_wrong, us_X8_wrong, ui_X8, uc_X8_wrong, rfl, by decide +kernel, by decide +kernel, by decide +kernel⟩
theorem uc_X7_image : Cond.code yX7_image cX7_image 1 ((Option.some Jvm.ClassFile.FieldType.int)) ∈ gx_U := gx_mu (gx_t_4 (List.mem_of_getElem? (i := 51) rfl)) rfl
theorem un_X7_image : Cond.instanceMethod yX7_image ∈ gx_U := gx_mu (gx_t_4 (List.mem_of_getElem? (i := 49) rfl)) rfl
theorem us_X7_image : Cond.selects RX7 yX7_image yX7_image ∈ gx_U := gx_mu (gx_t_4 (List.mem_of_getElem? (i := 50) rfl)) rfl
theorem lk_L_140 : gx_lk gx_U RL 140 RX7 yX7_image cX7_image 1 ((Option.some Jvm.ClassFile.FieldType.int)) 0 := ⟨gx_mu (gx_t_4 (List.mem_of_getElem? (i := 48) rfl)) rfl, un_X7_image, us_X7_image, ui_X7, uc_X7_image, rfl, by decide +kernel, by decide +kernel, by decide +kernel⟩
theorem uc_X8_image : Cond.code yX8_image cX8_image 2 ((Option.some Jvm.ClassFile.FieldType.int)) ∈ gx_U := gx_mu (gx_t_6 (List.mem_of_getElem? (i := 29) rfl)) rfl
theorem un_X8_image : Cond.instanceMethod yX8_image ∈ gx_U := gx_mu (gx_t_6 (List.mem_of_getElem? (i := 27) rfl)) rfl
theorem us_X8_image : Cond.selects RX8 yX8_image yX8_image ∈ gx_U := gx_mu (gx_t_6 (List.mem_of_getElem? (i := 28) rfl)) rfl
theorem lk_L_143 : gx_lk gx_U RL 143 RX8 yX8_image cX8_image 2 ((Option.some Jvm.ClassFile.FieldType.int)) 0 := ⟨gx_mu (gx_t_6 (List.mem_of_getElem? (i := 26) rfl)) rfl, un_X8_image, us_X8_image, ui_X8, uc_X8_image, rfl, by decide +kernel, by decide +kernel, by decide +kernel⟩
theorem uc_X7_restore : Cond.code yX7_restore cX7_restore 2 ((Option.some Jvm.ClassFile.FieldType.int)) ∈ gx_U := gx_mu (gx_t_4 (List.mem_of_getElem? (i := 55) rfl)) rfl
theorem un_X7_restore : Cond.instanceMethod yX7_restore ∈ gx_U := gx_mu (gx_t_4 (List.mem_of_getElem? (i := 53) rfl)) rfl
theorem us_X7_restore : Cond.selects RX7 yX7_restore yX7_restore ∈ gx_U := gx_mu (gx_t_4 (List.mem_of_getElem? (i := 54) rfl)) rfl
theorem lk_L_144 : gx_lk gx_U RL 144 RX7 yX7_restore cX7_restore 2 ((Option.some Jvm.ClassFile.FieldType.int)) 0 := ⟨gx_mu (gx_t_4 (List.mem_of_getElem? (i := 52) rfl)) rfl, un_X7_restore, us_X7_restore, ui_X7, uc_X7_restore, rfl, by decide +kernel, by decide +kernel, by decide +kernel⟩
theorem uc_X8_restore : Cond.code yX8_restore cX8_restore 2 ((Option.some Jvm.ClassFile.FieldType.int)) ∈ gx_U := gx_mu (gx_t_6 (List.mem_of_getElem? (i := 33) rfl)) rfl
theorem un_X8_restore : Cond.instanceMethod yX8_restore ∈ gx_U := gx_mu (gx_t_6 (List.mem_of_getElem? (i := 31) rfl)) rfl
theorem us_X8_restore : Cond.selects RX8 yX8_restore yX8_restore ∈ gx_U := gx_mu (gx_t_6 (List.mem_of_getElem? (i := 32) rfl)) rfl
theorem lk_L_147 : gx_lk gx_U RL 147 RX8 yX8_restore cX8_restore 2 ((Option.some Jvm.ClassFile.FieldType.int)) 0 := ⟨gx_mu (gx_t_6 (List.mem_of_getElem? (i := 30) rfl)) rfl, un_X8_restore, us_X8_restore, ui_X8, uc_X8_restore, rfl, by decide +kernel, by decide +kernel, by decide +kernel⟩
theorem uc_X7_count : Cond.code yX7_count cX7_count 2 ((Option.some Jvm.ClassFile.FieldType.int)) ∈ gx_U := gx_mu (gx_t_4 (List.mem_of_getElem? (i := 59) rfl)) rfl
theorem un_X7_count : Cond.instanceMethod yX7_count ∈ gx_U := gx_mu (gx_t_4 (List.mem_of_getElem? (i := 57) rfl)) rfl
theorem us_X7_count : Cond.selects RX7 yX7_count yX7_count ∈ gx_U := gx_mu (gx_t_4 (List.mem_of_getElem? (i := 58) rfl)) rfl
theorem lk_L_148 : gx_lk gx_U RL 148 RX7 yX7_count cX7_count 2 ((Option.some Jvm.ClassFile.FieldType.int)) 1 := ⟨gx_mu (gx_t_4 (List.mem_of_getElem? (i := 56) rfl)) rfl, un_X7_count, us_X7_count, ui_X7, uc_X7_count, rfl, by decide +kernel, by decide +kernel, by decide +kernel⟩
theorem uc_X8_count : Cond.code yX8_count cX8_count 2 ((Option.some Jvm.ClassFile.FieldType.int)) ∈ gx_U := gx_mu (gx_t_6 (List.mem_of_getElem? (i := 37) rfl)) rfl
theorem un_X8_count : Cond.instanceMethod yX8_count ∈ gx_U := gx_mu (gx_t_6 (List.mem_of_getElem? (i := 35) rfl)) rfl
theorem us_X8_count : Cond.selects RX8 yX8_count yX8_count ∈ gx_U := gx_mu (gx_t_6 (List.mem_of_getElem? (i := 36) rfl)) rfl
theorem lk_L_151 : gx_lk gx_U RL 151 RX8 yX8_count cX8_count 2 ((Option.some Jvm.ClassFile.FieldType.int)) 1 := ⟨gx_mu (gx_t_6 (List.mem_of_getElem? (i := 34) rfl)) rfl, un_X8_count, us_X8_count, ui_X8, uc_X8_count, rfl, by decide +kernel, by decide +kernel, by decide +kernel⟩
theorem uc_X7_digest : Cond.code yX7_digest cX7_digest 4 ((Option.some Jvm.ClassFile.FieldType.long)) ∈ gx_U := gx_mu (gx_t_4 (List.mem_of_getElem? (i := 63) rfl)) rfl
theorem un_X7_digest : Cond.instanceMethod yX7_digest ∈ gx_U := gx_mu (gx_t_4 (List.mem_of_getElem? (i := 61) rfl)) rfl
theorem us_X7_digest : Cond.selects RX7 yX7_digest yX7_digest ∈ gx_U := gx_mu (gx_t_4 (List.mem_of_getElem? (i := 62) rfl)) rfl
theorem lk_L_152 : gx_lk gx_U RL 152 RX7 yX7_digest cX7_digest 4 ((Option.some Jvm.ClassFile.FieldType.long)) 0 := ⟨gx_mu (gx_t_4 (List.mem_of_getElem? (i := 60) rfl)) rfl, un_X7_digest, us_X7_digest, ui_X7, uc_X7_digest, rfl, by decide +kernel, by decide +kernel, by decide +kernel⟩
theorem uc_X8_digest : Cond.code yX8_digest cX8_digest 4 ((Option.some Jvm.ClassFile.FieldType.long)) ∈ gx_U := gx_mu (gx_t_6 (List.mem_of_getElem? (i := 45) rfl)) rfl
theorem un_X8_digest : Cond.instanceMethod yX8_digest ∈ gx_U := gx_mu (gx_t_6 (List.mem_of_getElem? (i := 43) rfl)) rfl
theorem us_X8_digest : Cond.selects RX8 yX8_digest yX8_digest ∈ gx_U := gx_mu (gx_t_6 (List.mem_of_getElem? (i := 44) rfl)) rfl
theorem lk_L_156 : gx_lk gx_U RL 156 RX8 yX8_digest cX8_digest 4 ((Option.some Jvm.ClassFile.FieldType.long)) 0 := ⟨gx_mu (gx_t_6 (List.mem_of_getElem? (i := 42) rfl)) rfl, un_X8_digest, us_X8_digest, ui_X8, uc_X8_digest, rfl, by decide +kernel, by decide +kernel, by decide +kernel⟩
theorem kL_113 : Cond.constantLong RL 113 4294967295 ∈ gx_U := gx_mu (gx_t_6 (List.mem_of_getElem? (i := 52) rfl)) rfl
def ml_1238 (xs : Nat → Int32) (L : Nat) (k18 : Int32 × gx_S × gx_S → Option Unit) (x3 : Int32) (S T : gx_S) : Option Unit := k18 ((x3 + 7), S, T)
set_option maxRecDepth 20000 in
set_option maxHeartbeats 4000000 in
theorem bl_1238 {Γ : gx_T} {ι : Nat → ClassId} {a b : Nat → Nat} {b0 L : Nat} {xs : Nat → Int32} (hx : gx_std vwCl (gty ι) (gx_cl Γ) (gx_ty Γ)) (C : gx_ok Γ code RL gx_U 40) (F : gl_fin Γ b0 ∧ gx_nL Γ = 4) (X : gx_scr Γ b0 L xs) {k18 : Int32 × gx_S × gx_S → Option Unit} {x3 : Int32} {S : gx_S} {T : gx_S} (hk18 : ∀ (x37 : Int32) (S7 T7 : gx_S), k18 (x37, S7, T7) = some () → gx_G Γ 108 1478 18 [.ref b0, .ref (a 0), .ref (b 0), .int x37] [] (wX a ι S7 ++ wM b ι T7)) (h : ml_1238 xs L k18 x3 S T = some ()) : gx_G Γ 108 1478 1238 [.ref b0, .ref (a 0), .ref (b 0), .int x3] [] (wX a ι S ++ wM b ι T) := by
  have hb : 108 ≤ (gx_R Γ).cells ∧ 1478 ≤ (gx_R Γ).slots := by rw [F.1.2.2.2.2.1]; exact ⟨by decide, by decide⟩
  obtain ⟨F, hnL⟩ := F
  unfold ml_1238 at h
  refine gx_iinc C dL_law_1238 rfl rfl (by rw [hnL]; decide) trivial ?_
  refine gx_goto (tgt := 18) C dL_law_1241 (by decide) ?_
  exact gx_weak (gx_le_k rfl (gx_le_k rfl (gx_le_k rfl (gx_le_k rfl gx_le_0)))) (hk18 _ _ _ h)
def ml_699 (xs : Nat → Int32) (L : Nat) (k18 : Int32 × gx_S × gx_S → Option Unit) (x3 : Int32) (s1 : Int32) (s2 : Int32) (s3 : Int32) (S T : gx_S) : Option Unit := gx_cs (n_market s1 s2 s3 T) fun v2 T3 => ml_1238 xs L k18 x3 S T3
set_option maxRecDepth 20000 in
set_option maxHeartbeats 4000000 in
theorem bl_699 {Γ : gx_T} {ι : Nat → ClassId} {a b : Nat → Nat} {b0 L : Nat} {xs : Nat → Int32} (hx : gx_std vwCl (gty ι) (gx_cl Γ) (gx_ty Γ)) (C : gx_ok Γ code RL gx_U 40) (F : gl_fin Γ b0 ∧ gx_nL Γ = 4) (X : gx_scr Γ b0 L xs) {k18 : Int32 × gx_S × gx_S → Option Unit} {x3 : Int32} {s1 : Int32} {s2 : Int32} {s3 : Int32} {S : gx_S} {T : gx_S} (hk18 : ∀ (x37 : Int32) (S7 T7 : gx_S), k18 (x37, S7, T7) = some () → gx_G Γ 108 1478 18 [.ref b0, .ref (a 0), .ref (b 0), .int x37] [] (wX a ι S7 ++ wM b ι T7)) (h : ml_699 xs L k18 x3 s1 s2 s3 S T = some ()) : gx_G Γ 108 1478 699 [.ref b0, .ref (a 0), .ref (b 0), .int x3] [.int s3, .int s2, .int s1, .ref (b 0)] (wX a ι S ++ wM b ι T) := by
  have hb : 108 ≤ (gx_R Γ).cells ∧ 1478 ≤ (gx_R Γ).slots := by rw [F.1.2.2.2.2.1]; exact ⟨by decide, by decide⟩
  obtain ⟨F, hnL⟩ := F
  unfold ml_699 at h
  obtain ⟨v2, T3, e1, h⟩ := gi_cs h
  refine gcr_IV C (cn_market (gx_l Γ) (gx_D Γ) hx b _ _ _ _ e1) (gx_cw C gx_uu lk_L_82 (by decide) (by decide)) (cls_X8 hx).1 (gs_recv (q := 0) lt_M_Model (oc_M_Model b ι _)) rfl rfl (Nat.le_of_ble_eq_true rfl) hb dL_law_699 ?_
  refine gx_pop C dL_law_702 rfl ?_
  refine gx_goto (tgt := 1238) C dL_law_703 (by decide) ?_
  exact gx_weak (gx_le_k rfl (gx_le_k rfl (gx_le_k rfl (gx_le_k rfl gx_le_0)))) (bl_1238 hx C ⟨F, hnL⟩ X hk18 h)
def ml_671 (xs : Nat → Int32) (L : Nat) (k18 : Int32 × gx_S × gx_S → Option Unit) (x3 : Int32) (s1 : Int32) (s2 : Int32) (s3 : Int32) (S T : gx_S) : Option Unit := gx_cs (m_ShopsAsOne_market s1 s2 s3 S) fun v2 S3 => gx_ck L (x3 + (1 : Int32)) (gx_ck L (x3 + (2 : Int32)) (gx_ck L (x3 + (3 : Int32)) (if (xs (x3 + (3 : Int32)).toNatClampNeg) = 0 then ml_699 xs L k18 x3 (xs (x3 + (1 : Int32)).toNatClampNeg) (xs (x3 + (2 : Int32)).toNatClampNeg) 0 S3 T else ml_699 xs L k18 x3 (xs (x3 + (1 : Int32)).toNatClampNeg) (xs (x3 + (2 : Int32)).toNatClampNeg) 1 S3 T)))
set_option maxRecDepth 20000 in
set_option maxHeartbeats 4000000 in
theorem bl_671 {Γ : gx_T} {ι : Nat → ClassId} {a b : Nat → Nat} {b0 L : Nat} {xs : Nat → Int32} (hx : gx_std vwCl (gty ι) (gx_cl Γ) (gx_ty Γ)) (C : gx_ok Γ code RL gx_U 40) (F : gl_fin Γ b0 ∧ gx_nL Γ = 4) (X : gx_scr Γ b0 L xs) {k18 : Int32 × gx_S × gx_S → Option Unit} {x3 : Int32} {s1 : Int32} {s2 : Int32} {s3 : Int32} {S : gx_S} {T : gx_S} (hk18 : ∀ (x37 : Int32) (S7 T7 : gx_S), k18 (x37, S7, T7) = some () → gx_G Γ 108 1478 18 [.ref b0, .ref (a 0), .ref (b 0), .int x37] [] (wX a ι S7 ++ wM b ι T7)) (h : ml_671 xs L k18 x3 s1 s2 s3 S T = some ()) : gx_G Γ 108 1478 671 [.ref b0, .ref (a 0), .ref (b 0), .int x3] [.int s3, .int s2, .int s1, .ref (a 0)] (wX a ι S ++ wM b ι T) := by
  have hb : 108 ≤ (gx_R Γ).cells ∧ 1478 ≤ (gx_R Γ).slots := by rw [F.1.2.2.2.2.1]; exact ⟨by decide, by decide⟩
  obtain ⟨F, hnL⟩ := F
  unfold ml_671 at h
  obtain ⟨v2, S3, e1, h⟩ := gi_cs h
  refine gc_IVf C (c_ShopsAsOne_market (gx_l Γ) (gx_D Γ) hx a _ _ _ _ e1) (gx_cw C gx_uu lk_L_78 (by decide) (by decide)) (cls_X7 hx).1 (gs_recv (q := 0) lt_X_ShopsAsOne (oc_X_ShopsAsOne a ι _)) rfl rfl (Nat.le_of_ble_eq_true rfl) hb dL_law_671 ?_
  refine gx_pop C dL_law_674 rfl ?_
  refine gx_aload_2 C dL_law_675 rfl ?_
  refine gx_aload_0 C dL_law_676 rfl ?_
  refine gx_iload_3 C dL_law_677 rfl ?_
  refine gx_iconst1 C dL_law_678 ?_
  refine gx_iadd C dL_law_679 ?_
  obtain ⟨hi4, h⟩ := gi_ck h
  refine gl_sld C X hi4 dL_law_680 ?_
  refine gx_aload_0 C dL_law_681 rfl ?_
  refine gx_iload_3 C dL_law_682 rfl ?_
  refine gx_iconst2 C dL_law_683 ?_
  refine gx_iadd C dL_law_684 ?_
  obtain ⟨hi5, h⟩ := gi_ck h
  refine gl_sld C X hi5 dL_law_685 ?_
  refine gx_aload_0 C dL_law_686 rfl ?_
  refine gx_iload_3 C dL_law_687 rfl ?_
  refine gx_iconst3 C dL_law_688 ?_
  refine gx_iadd C dL_law_689 ?_
  obtain ⟨hi6, h⟩ := gi_ck h
  refine gl_sld C X hi6 dL_law_690 ?_
  refine gx_if_eq (tgt := 698) C dL_law_691 (by decide) (fun hc7 => ?_) (fun hc7 => ?_)
  · have h := gi_t hc7 h
    refine gx_iconst0 C dL_law_698 ?_
    exact gx_weak (gx_le_k rfl (gx_le_k rfl (gx_le_k rfl (gx_le_k rfl gx_le_0)))) (bl_699 hx C ⟨F, hnL⟩ X hk18 h)
  · have h := gi_f hc7 h
    refine gx_iconst1 C dL_law_694 ?_
    refine gx_goto (tgt := 699) C dL_law_695 (by decide) ?_
    exact gx_weak (gx_le_k rfl (gx_le_k rfl (gx_le_k rfl (gx_le_k rfl gx_le_0)))) (bl_699 hx C ⟨F, hnL⟩ X hk18 h)
def ml_18 (xs : Nat → Int32) (L : Nat) (t : Int32 × gx_S × gx_S) (k18 : Int32 × gx_S × gx_S → Option Unit) : Option Unit := match t with
  | (x3, S, T) => if ((Int32.ofNat L) - (7 : Int32)) < x3 then some () else gx_ck L x3 (if ((xs x3.toNatClampNeg) &&& (63 : Int32)) = 0 then gx_ck L (x3 + (1 : Int32)) (gx_ck L (x3 + (2 : Int32)) (gx_cs (m_ShopsAsOne_owner (xs (x3 + (1 : Int32)).toNatClampNeg) (xs (x3 + (2 : Int32)).toNatClampNeg) S) fun v510 S511 => gx_cs (n_owner (xs (x3 + (1 : Int32)).toNatClampNeg) (xs (x3 + (2 : Int32)).toNatClampNeg) T) fun v513 T514 => ml_1238 xs L k18 x3 S511 T514)) else if ((xs x3.toNatClampNeg) &&& (63 : Int32)) = 1 then gx_ck L (x3 + (1 : Int32)) (gx_ck L (x3 + (2 : Int32)) (gx_cp (m_ShopsAsOne_as (xs (x3 + (1 : Int32)).toNatClampNeg) (xs (x3 + (2 : Int32)).toNatClampNeg) S) fun v504 => gx_cp (n_as (xs (x3 + (1 : Int32)).toNatClampNeg) (xs (x3 + (2 : Int32)).toNatClampNeg) T) fun v506 => ml_1238 xs L k18 x3 S T)) else if ((xs x3.toNatClampNeg) &&& (63 : Int32)) = 2 then gx_ck L (x3 + (1 : Int32)) (gx_ck L (x3 + (2 : Int32)) (gx_ck L (x3 + (3 : Int32)) (gx_ck L (x3 + (4 : Int32)) (gx_cs (m_ShopsAsOne_shop (xs (x3 + (1 : Int32)).toNatClampNeg) (xs (x3 + (2 : Int32)).toNatClampNeg) (xs (x3 + (3 : Int32)).toNatClampNeg) (xs (x3 + (4 : Int32)).toNatClampNeg) S) fun v496 S497 => gx_cs (n_shop (xs (x3 + (1 : Int32)).toNatClampNeg) (xs (x3 + (2 : Int32)).toNatClampNeg) (xs (x3 + (3 : Int32)).toNatClampNeg) (xs (x3 + (4 : Int32)).toNatClampNeg) T) fun v499 T500 => ml_1238 xs L k18 x3 S497 T500)))) else if ((xs x3.toNatClampNeg) &&& (63 : Int32)) = 3 then gx_ck L (x3 + (1 : Int32)) (gx_ck L (x3 + (2 : Int32)) (gx_cp (m_ShopsAsOne_about (xs (x3 + (1 : Int32)).toNatClampNeg) (xs (x3 + (2 : Int32)).toNatClampNeg) S) fun v487 => gx_cs (n_about (xs (x3 + (1 : Int32)).toNatClampNeg) (xs (x3 + (2 : Int32)).toNatClampNeg) T) fun v489 T490 => ml_1238 xs L k18 x3 S T490)) else if ((xs x3.toNatClampNeg) &&& (63 : Int32)) = 4 then gx_ck L (x3 + (1 : Int32)) (gx_ck L (x3 + (2 : Int32)) (gx_cs (m_ShopsAsOne_price (xs (x3 + (1 : Int32)).toNatClampNeg) (xs (x3 + (2 : Int32)).toNatClampNeg) S) fun v479 S480 => gx_cs (n_price (xs (x3 + (1 : Int32)).toNatClampNeg) (xs (x3 + (2 : Int32)).toNatClampNeg) T) fun v482 T483 => ml_1238 xs L k18 x3 S480 T483)) else if ((xs x3.toNatClampNeg) &&& (63 : Int32)) = 5 then gx_ck L (x3 + (1 : Int32)) (gx_ck L (x3 + (2 : Int32)) (gx_ck L (x3 + (3 : Int32)) (gx_ck L (x3 + (4 : Int32)) (gx_ck L (x3 + (5 : Int32)) (gx_ck L (x3 + (6 : Int32)) (gx_cs (m_ShopsAsOne_sort (xs (x3 + (1 : Int32)).toNatClampNeg) (xs (x3 + (2 : Int32)).toNatClampNeg) (xs (x3 + (3 : Int32)).toNatClampNeg) (xs (x3 + (4 : Int32)).toNatClampNeg) (xs (x3 + (5 : Int32)).toNatClampNeg) (xs (x3 + (6 : Int32)).toNatClampNeg) S) fun v471 S472 => gx_cs (n_sort (xs (x3 + (1 : Int32)).toNatClampNeg) (xs (x3 + (2 : Int32)).toNatClampNeg) (xs (x3 + (3 : Int32)).toNatClampNeg) (xs (x3 + (4 : Int32)).toNatClampNeg) (xs (x3 + (5 : Int32)).toNatClampNeg) (xs (x3 + (6 : Int32)).toNatClampNeg) T) fun v474 T475 => ml_1238 xs L k18 x3 S472 T475)))))) else if ((xs x3.toNatClampNeg) &&& (63 : Int32)) = 6 then gx_ck L (x3 + (1 : Int32)) (gx_ck L (x3 + (2 : Int32)) (gx_cp (m_ShopsAsOne_is (xs (x3 + (1 : Int32)).toNatClampNeg) (xs (x3 + (2 : Int32)).toNatClampNeg) S) fun v461 => gx_cp (n_is (xs (x3 + (1 : Int32)).toNatClampNeg) (xs (x3 + (2 : Int32)).toNatClampNeg) T) fun v463 => ml_1238 xs L k18 x3 S T)) else if ((xs x3.toNatClampNeg) &&& (63 : Int32)) = 7 then gx_ck L (x3 + (1 : Int32)) (gx_cp (m_ShopsAsOne_goes (xs (x3 + (1 : Int32)).toNatClampNeg) S) fun v455 => gx_cp (n_goes (xs (x3 + (1 : Int32)).toNatClampNeg) T) fun v457 => ml_1238 xs L k18 x3 S T) else if ((xs x3.toNatClampNeg) &&& (63 : Int32)) = 8 then gx_ck L (x3 + (1 : Int32)) (gx_cp (m_ShopsAsOne_spare (xs (x3 + (1 : Int32)).toNatClampNeg) S) fun v450 => gx_cp (n_spare (xs (x3 + (1 : Int32)).toNatClampNeg) T) fun v452 => ml_1238 xs L k18 x3 S T) else if ((xs x3.toNatClampNeg) &&& (63 : Int32)) = 9 then gx_ck L (x3 + (1 : Int32)) (gx_cp (m_ShopsAsOne_profit (xs (x3 + (1 : Int32)).toNatClampNeg) S) fun v444 => gx_cs (n_profit (xs (x3 + (1 : Int32)).toNatClampNeg) T) fun v446 T447 => ml_1238 xs L k18 x3 S T447) else if ((xs x3.toNatClampNeg) &&& (63 : Int32)) = 10 then gx_ck L (x3 + (1 : Int32)) (gx_ck L (x3 + (2 : Int32)) (gx_cs (m_ShopsAsOne_best (xs (x3 + (1 : Int32)).toNatClampNeg) (xs (x3 + (2 : Int32)).toNatClampNeg) S) fun v437 S438 => gx_cs (n_best (xs (x3 + (1 : Int32)).toNatClampNeg) (xs (x3 + (2 : Int32)).toNatClampNeg) T) fun v440 T441 => ml_1238 xs L k18 x3 S438 T441)) else if ((xs x3.toNatClampNeg) &&& (63 : Int32)) = 11 then gx_ck L (x3 + (1 : Int32)) (gx_cs (m_ShopsAsOne_turn (xs (x3 + (1 : Int32)).toNatClampNeg) S) fun v429 S430 => gx_cs (n_turn (xs (x3 + (1 : Int32)).toNatClampNeg) T) fun v432 T433 => ml_1238 xs L k18 x3 S430 T433) else if ((xs x3.toNatClampNeg) &&& (63 : Int32)) = 12 then gx_cs (m_ShopsAsOne_rest S) fun v422 S423 => gx_cs (n_rest T) fun v425 T426 => ml_1238 xs L k18 x3 S423 T426 else if ((xs x3.toNatClampNeg) &&& (63 : Int32)) = 13 then gx_cs (m_ShopsAsOne_otherwise S) fun v416 S417 => gx_cs (n_otherwise T) fun v419 T420 => ml_1238 xs L k18 x3 S417 T420 else if ((xs x3.toNatClampNeg) &&& (63 : Int32)) = 14 then gx_ck L (x3 + (1 : Int32)) (gx_cs (m_ShopsAsOne_gain (xs (x3 + (1 : Int32)).toNatClampNeg) S) fun v410 S411 => gx_cs (n_gain (xs (x3 + (1 : Int32)).toNatClampNeg) T) fun v413 T414 => ml_1238 xs L k18 x3 S411 T414) else if ((xs x3.toNatClampNeg) &&& (63 : Int32)) = 15 then gx_ck L (x3 + (1 : Int32)) (gx_ck L (x3 + (2 : Int32)) (gx_ck L (x3 + (3 : Int32)) (if (xs (x3 + (3 : Int32)).toNatClampNeg) = 0 then ml_671 xs L k18 x3 (xs (x3 + (1 : Int32)).toNatClampNeg) (xs (x3 + (2 : Int32)).toNatClampNeg) 0 S T else ml_671 xs L k18 x3 (xs (x3 + (1 : Int32)).toNatClampNeg) (xs (x3 + (2 : Int32)).toNatClampNeg) 1 S T))) else if ((xs x3.toNatClampNeg) &&& (63 : Int32)) = 16 then gx_ck L (x3 + (1 : Int32)) (gx_ck L (x3 + (2 : Int32)) (gx_cp (m_ShopsAsOne_instead (xs (x3 + (1 : Int32)).toNatClampNeg) (xs (x3 + (2 : Int32)).toNatClampNeg) S) fun v400 => gx_cs (n_instead (xs (x3 + (1 : Int32)).toNatClampNeg) (xs (x3 + (2 : Int32)).toNatClampNeg) T) fun v402 T403 => ml_1238 xs L k18 x3 S T403)) else if ((xs x3.toNatClampNeg) &&& (63 : Int32)) = 17 then gx_ck L (x3 + (1 : Int32)) (gx_ck L (x3 + (2 : Int32)) (gx_cp (m_ShopsAsOne_from (xs (x3 + (1 : Int32)).toNatClampNeg) (xs (x3 + (2 : Int32)).toNatClampNeg) S) fun v393 => gx_cs (n_from (xs (x3 + (1 : Int32)).toNatClampNeg) (xs (x3 + (2 : Int32)).toNatClampNeg) T) fun v395 T396 => ml_1238 xs L k18 x3 S T396)) else if ((xs x3.toNatClampNeg) &&& (63 : Int32)) = 18 then gx_ck L (x3 + (1 : Int32)) (gx_ck L (x3 + (2 : Int32)) (gx_cs (m_ShopsAsOne_merge (xs (x3 + (1 : Int32)).toNatClampNeg) (xs (x3 + (2 : Int32)).toNatClampNeg) S) fun v385 S386 => gx_cs (n_merge (xs (x3 + (1 : Int32)).toNatClampNeg) (xs (x3 + (2 : Int32)).toNatClampNeg) T) fun v388 T389 => ml_1238 xs L k18 x3 S386 T389)) else if ((xs x3.toNatClampNeg) &&& (63 : Int32)) = 19 then gx_ck L (x3 + (1 : Int32)) (gx_ck L (x3 + (2 : Int32)) (gx_ck L (x3 + (3 : Int32)) (gx_cs (m_ShopsAsOne_dearer (xs (x3 + (1 : Int32)).toNatClampNeg) (xs (x3 + (2 : Int32)).toNatClampNeg) (xs (x3 + (3 : Int32)).toNatClampNeg) S) fun v377 S378 => gx_cs (n_dearer (xs (x3 + (1 : Int32)).toNatClampNeg) (xs (x3 + (2 : Int32)).toNatClampNeg) (xs (x3 + (3 : Int32)).toNatClampNeg) T) fun v380 T381 => ml_1238 xs L k18 x3 S378 T381))) else if ((xs x3.toNatClampNeg) &&& (63 : Int32)) = 20 then gx_ck L (x3 + (1 : Int32)) (gx_ck L (x3 + (2 : Int32)) (gx_ck L (x3 + (3 : Int32)) (gx_cs (m_ShopsAsOne_harm (xs (x3 + (1 : Int32)).toNatClampNeg) (xs (x3 + (2 : Int32)).toNatClampNeg) (xs (x3 + (3 : Int32)).toNatClampNeg) S) fun v368 S369 => gx_cs (n_harm (xs (x3 + (1 : Int32)).toNatClampNeg) (xs (x3 + (2 : Int32)).toNatClampNeg) (xs (x3 + (3 : Int32)).toNatClampNeg) T) fun v371 T372 => ml_1238 xs L k18 x3 S369 T372))) else if ((xs x3.toNatClampNeg) &&& (63 : Int32)) = 21 then gx_ck L (x3 + (1 : Int32)) (gx_ck L (x3 + (2 : Int32)) (gx_ck L (x3 + (3 : Int32)) (gx_ck L (x3 + (4 : Int32)) (gx_cs (m_ShopsAsOne_soldOff (xs (x3 + (1 : Int32)).toNatClampNeg) (xs (x3 + (2 : Int32)).toNatClampNeg) (xs (x3 + (3 : Int32)).toNatClampNeg) (xs (x3 + (4 : Int32)).toNatClampNeg) S) fun v359 S360 => gx_cs (n_soldOff (xs (x3 + (1 : Int32)).toNatClampNeg) (xs (x3 + (2 : Int32)).toNatClampNeg) (xs (x3 + (3 : Int32)).toNatClampNeg) (xs (x3 + (4 : Int32)).toNatClampNeg) T) fun v362 T363 => ml_1238 xs L k18 x3 S360 T363)))) else if ((xs x3.toNatClampNeg) &&& (63 : Int32)) = 22 then gx_ck L (x3 + (1 : Int32)) (gx_ck L (x3 + (2 : Int32)) (gx_ck L (x3 + (3 : Int32)) (gx_ck L (x3 + (4 : Int32)) (gx_ck L (x3 + (5 : Int32)) (gx_cs (m_ShopsAsOne_twice (xs (x3 + (1 : Int32)).toNatClampNeg) (xs (x3 + (2 : Int32)).toNatClampNeg) (xs (x3 + (3 : Int32)).toNatClampNeg) (xs (x3 + (4 : Int32)).toNatClampNeg) (xs (x3 + (5 : Int32)).toNatClampNeg) S) fun v349 S350 => gx_cs (n_twice (xs (x3 + (1 : Int32)).toNatClampNeg) (xs (x3 + (2 : Int32)).toNatClampNeg) (xs (x3 + (3 : Int32)).toNatClampNeg) (xs (x3 + (4 : Int32)).toNatClampNeg) (xs (x3 + (5 : Int32)).toNatClampNeg) T) fun v352 T353 => ml_1238 xs L k18 x3 S350 T353))))) else if ((xs x3.toNatClampNeg) &&& (63 : Int32)) = 23 then gx_ck L (x3 + (1 : Int32)) (gx_ck L (x3 + (2 : Int32)) (gx_cs (m_ShopsAsOne_letters ((((xs (x3 + (1 : Int32)).toNatClampNeg).toInt64) <<< ((32 : Int32).toInt64 &&& 63)) ||| (((xs (x3 + (2 : Int32)).toNatClampNeg).toInt64) &&& (4294967295 : Int64))) S) fun v338 S339 => gx_cs (n_letters ((((xs (x3 + (1 : Int32)).toNatClampNeg).toInt64) <<< ((32 : Int32).toInt64 &&& 63)) ||| (((xs (x3 + (2 : Int32)).toNatClampNeg).toInt64) &&& (4294967295 : Int64))) T) fun v341 T342 => ml_1238 xs L k18 x3 S339 T342)) else if ((xs x3.toNatClampNeg) &&& (63 : Int32)) = 24 then gx_cs (m_ShopsAsOne_blank S) fun v330 S331 => gx_cs (n_blank T) fun v333 T334 => ml_1238 xs L k18 x3 S331 T334 else if ((xs x3.toNatClampNeg) &&& (63 : Int32)) = 25 then gx_cs (m_ShopsAsOne_fault S) fun v324 S325 => gx_cs (n_fault T) fun v327 T328 => ml_1238 xs L k18 x3 S325 T328 else if ((xs x3.toNatClampNeg) &&& (63 : Int32)) = 26 then gx_cs (m_ShopsAsOne_test S) fun v318 S319 => gx_cs (n_test T) fun v321 T322 => ml_1238 xs L k18 x3 S319 T322 else if ((xs x3.toNatClampNeg) &&& (63 : Int32)) = 27 then gx_ck L (x3 + (1 : Int32)) (gx_ck L (x3 + (2 : Int32)) (gx_ck L (x3 + (3 : Int32)) (gx_cs (m_ShopsAsOne_bars (xs (x3 + (1 : Int32)).toNatClampNeg) (xs (x3 + (2 : Int32)).toNatClampNeg) (xs (x3 + (3 : Int32)).toNatClampNeg) S) fun v312 S313 => gx_cs (n_bars (xs (x3 + (1 : Int32)).toNatClampNeg) (xs (x3 + (2 : Int32)).toNatClampNeg) (xs (x3 + (3 : Int32)).toNatClampNeg) T) fun v315 T316 => ml_1238 xs L k18 x3 S313 T316))) else if ((xs x3.toNatClampNeg) &&& (63 : Int32)) = 28 then gx_ck L (x3 + (1 : Int32)) (gx_ck L (x3 + (2 : Int32)) (gx_cs (m_ShopsAsOne_wrong (xs (x3 + (1 : Int32)).toNatClampNeg) (xs (x3 + (2 : Int32)).toNatClampNeg) S) fun v303 S304 => gx_cs (n_wrong (xs (x3 + (1 : Int32)).toNatClampNeg) (xs (x3 + (2 : Int32)).toNatClampNeg) T) fun v306 T307 => ml_1238 xs L k18 x3 S304 T307)) else if ((xs x3.toNatClampNeg) &&& (63 : Int32)) = 29 then gx_cs (m_ShopsAsOne_image S) fun v295 S296 => gx_cs (n_image T) fun v298 T299 => ml_1238 xs L k18 x3 S296 T299 else if ((xs x3.toNatClampNeg) &&& (63 : Int32)) = 30 then gx_cs (m_ShopsAsOne_restore S) fun v289 S290 => gx_cs (n_restore T) fun v292 T293 => ml_1238 xs L k18 x3 S290 T293 else if ((xs x3.toNatClampNeg) &&& (63 : Int32)) = 31 then gx_ck L (x3 + (1 : Int32)) (gx_cp (m_ShopsAsOne_count (xs (x3 + (1 : Int32)).toNatClampNeg) S) fun v284 => gx_cs (n_count (xs (x3 + (1 : Int32)).toNatClampNeg) T) fun v286 T287 => ml_1238 xs L k18 x3 S T287) else if ((xs x3.toNatClampNeg) &&& (63 : Int32)) = 32 then gx_cs (m_ShopsAsOne_digest S) fun v276 S277 => gx_cs (n_digest T) fun v279 T280 => if (lg_cmp v276 v279) = 0 then ml_1238 xs L k18 x3 S277 T280 else none else ml_1238 xs L k18 x3 S T)
set_option maxRecDepth 20000 in
set_option maxHeartbeats 4000000 in
theorem bl_18 {Γ : gx_T} {ι : Nat → ClassId} {a b : Nat → Nat} {b0 L : Nat} {xs : Nat → Int32} (hx : gx_std vwCl (gty ι) (gx_cl Γ) (gx_ty Γ)) (C : gx_ok Γ code RL gx_U 40) (F : gl_fin Γ b0 ∧ gx_nL Γ = 4) (X : gx_scr Γ b0 L xs) {k18 : Int32 × gx_S × gx_S → Option Unit} {x3 : Int32} {S : gx_S} {T : gx_S} (hk18 : ∀ (x37 : Int32) (S7 T7 : gx_S), k18 (x37, S7, T7) = some () → gx_G Γ 108 1478 18 [.ref b0, .ref (a 0), .ref (b 0), .int x37] [] (wX a ι S7 ++ wM b ι T7)) (h : ml_18 xs L (x3, S, T) k18 = some ()) : gx_G Γ 108 1478 18 [.ref b0, .ref (a 0), .ref (b 0), .int x3] [] (wX a ι S ++ wM b ι T) := by
  have hb : 108 ≤ (gx_R Γ).cells ∧ 1478 ≤ (gx_R Γ).slots := by rw [F.1.2.2.2.2.1]; exact ⟨by decide, by decide⟩
  obtain ⟨F, hnL⟩ := F
  unfold ml_18 at h
  dsimp only at h
  refine gx_iload_3 C dL_law_18 rfl ?_
  refine gx_aload_0 C dL_law_19 rfl ?_
  refine gl_slen C X dL_law_20 ?_
  refine gx_bipush (v := 7) C dL_law_21 (by decide) ?_
  refine gx_isub C dL_law_23 ?_
  refine gx_icmp_gt (tgt := 1244) C dL_law_24 (by decide) (fun hc515 => ?_) (fun hc515 => ?_)
  · have h := gi_t hc515 h
    refine gx_iconst1 C dL_law_1244 ?_
    exact gl_ret C F (by decide) (by decide) dL_law_1245
  · have h := gi_f hc515 h
    refine gx_aload_0 C dL_law_27 rfl ?_
    refine gx_iload_3 C dL_law_28 rfl ?_
    obtain ⟨hi1, h⟩ := gi_ck h
    refine gl_sld C X hi1 dL_law_29 ?_
    refine gx_bipush (v := 63) C dL_law_30 (by decide) ?_
    refine gx_iand C dL_law_32 ?_
    by_cases hc2 : ((xs x3.toNatClampNeg) &&& (63 : Int32)) = 0
    · have h := gi_t hc2 h
      refine gx_tin (tgt := 180) C dL_law_33 (by rw [hc2]; decide) (by rw [hc2]; decide) (by rw [hc2]; rfl) (by decide) ?_
      refine gx_aload_1 C dL_law_180 rfl ?_
      refine gx_aload_0 C dL_law_181 rfl ?_
      refine gx_iload_3 C dL_law_182 rfl ?_
      refine gx_iconst1 C dL_law_183 ?_
      refine gx_iadd C dL_law_184 ?_
      obtain ⟨hi35, h⟩ := gi_ck h
      refine gl_sld C X hi35 dL_law_185 ?_
      refine gx_aload_0 C dL_law_186 rfl ?_
      refine gx_iload_3 C dL_law_187 rfl ?_
      refine gx_iconst2 C dL_law_188 ?_
      refine gx_iadd C dL_law_189 ?_
      obtain ⟨hi36, h⟩ := gi_ck h
      refine gl_sld C X hi36 dL_law_190 ?_
      obtain ⟨v38, S39, e37, h⟩ := gi_cs h
      refine gc_IVf C (c_ShopsAsOne_owner (gx_l Γ) (gx_D Γ) hx a _ _ _ e37) (gx_cw C gx_uu lk_L_13 (by decide) (by decide)) (cls_X7 hx).1 (gs_recv (q := 0) lt_X_ShopsAsOne (oc_X_ShopsAsOne a ι _)) rfl rfl (Nat.le_of_ble_eq_true rfl) hb dL_law_191 ?_
      refine gx_pop C dL_law_194 rfl ?_
      refine gx_aload_2 C dL_law_195 rfl ?_
      refine gx_aload_0 C dL_law_196 rfl ?_
      refine gx_iload_3 C dL_law_197 rfl ?_
      refine gx_iconst1 C dL_law_198 ?_
      refine gx_iadd C dL_law_199 ?_
      refine gl_sld C X hi35 dL_law_200 ?_
      refine gx_aload_0 C dL_law_201 rfl ?_
      refine gx_iload_3 C dL_law_202 rfl ?_
      refine gx_iconst2 C dL_law_203 ?_
      refine gx_iadd C dL_law_204 ?_
      refine gl_sld C X hi36 dL_law_205 ?_
      obtain ⟨v41, T42, e40, h⟩ := gi_cs h
      refine gcr_IV C (cn_owner (gx_l Γ) (gx_D Γ) hx b _ _ _ e40) (gx_cw C gx_uu lk_L_17 (by decide) (by decide)) (cls_X8 hx).1 (gs_recv (q := 0) lt_M_Model (oc_M_Model b ι _)) rfl rfl (Nat.le_of_ble_eq_true rfl) hb dL_law_206 ?_
      refine gx_pop C dL_law_209 rfl ?_
      refine gx_goto (tgt := 1238) C dL_law_210 (by decide) ?_
      exact gx_weak (gx_le_k rfl (gx_le_k rfl (gx_le_k rfl (gx_le_k rfl gx_le_0)))) (bl_1238 hx C ⟨F, hnL⟩ X hk18 h)
    · have h := gi_f hc2 h
      by_cases hc3 : ((xs x3.toNatClampNeg) &&& (63 : Int32)) = 1
      · have h := gi_t hc3 h
        refine gx_tin (tgt := 213) C dL_law_33 (by rw [hc3]; decide) (by rw [hc3]; decide) (by rw [hc3]; rfl) (by decide) ?_
        refine gx_aload_1 C dL_law_213 rfl ?_
        refine gx_aload_0 C dL_law_214 rfl ?_
        refine gx_iload_3 C dL_law_215 rfl ?_
        refine gx_iconst1 C dL_law_216 ?_
        refine gx_iadd C dL_law_217 ?_
        obtain ⟨hi43, h⟩ := gi_ck h
        refine gl_sld C X hi43 dL_law_218 ?_
        refine gx_aload_0 C dL_law_219 rfl ?_
        refine gx_iload_3 C dL_law_220 rfl ?_
        refine gx_iconst2 C dL_law_221 ?_
        refine gx_iadd C dL_law_222 ?_
        obtain ⟨hi44, h⟩ := gi_ck h
        refine gl_sld C X hi44 dL_law_223 ?_
        obtain ⟨v46, e45, h⟩ := gi_cp h
        refine gc_IVf C (c_ShopsAsOne_as (gx_l Γ) (gx_D Γ) hx a _ _ _ e45) (gx_cw C gx_uu lk_L_18 (by decide) (by decide)) (cls_X7 hx).1 (gs_recv (q := 0) lt_X_ShopsAsOne (oc_X_ShopsAsOne a ι _)) rfl rfl (Nat.le_of_ble_eq_true rfl) hb dL_law_224 ?_
        refine gx_pop C dL_law_227 rfl ?_
        refine gx_aload_2 C dL_law_228 rfl ?_
        refine gx_aload_0 C dL_law_229 rfl ?_
        refine gx_iload_3 C dL_law_230 rfl ?_
        refine gx_iconst1 C dL_law_231 ?_
        refine gx_iadd C dL_law_232 ?_
        refine gl_sld C X hi43 dL_law_233 ?_
        refine gx_aload_0 C dL_law_234 rfl ?_
        refine gx_iload_3 C dL_law_235 rfl ?_
        refine gx_iconst2 C dL_law_236 ?_
        refine gx_iadd C dL_law_237 ?_
        refine gl_sld C X hi44 dL_law_238 ?_
        obtain ⟨v48, e47, h⟩ := gi_cp h
        refine gcr_IV C (cn_as (gx_l Γ) (gx_D Γ) hx b _ _ _ e47) (gx_cw C gx_uu lk_L_21 (by decide) (by decide)) (cls_X8 hx).1 (gs_recv (q := 0) lt_M_Model (oc_M_Model b ι _)) rfl rfl (Nat.le_of_ble_eq_true rfl) hb dL_law_239 ?_
        refine gx_pop C dL_law_242 rfl ?_
        refine gx_goto (tgt := 1238) C dL_law_243 (by decide) ?_
        exact gx_weak (gx_le_k rfl (gx_le_k rfl (gx_le_k rfl (gx_le_k rfl gx_le_0)))) (bl_1238 hx C ⟨F, hnL⟩ X hk18 h)
      · have h := gi_f hc3 h
        by_cases hc4 : ((xs x3.toNatClampNeg) &&& (63 : Int32)) = 2
        · have h := gi_t hc4 h
          refine gx_tin (tgt := 246) C dL_law_33 (by rw [hc4]; decide) (by rw [hc4]; decide) (by rw [hc4]; rfl) (by decide) ?_
          refine gx_aload_1 C dL_law_246 rfl ?_
          refine gx_aload_0 C dL_law_247 rfl ?_
          refine gx_iload_3 C dL_law_248 rfl ?_
          refine gx_iconst1 C dL_law_249 ?_
          refine gx_iadd C dL_law_250 ?_
          obtain ⟨hi49, h⟩ := gi_ck h
          refine gl_sld C X hi49 dL_law_251 ?_
          refine gx_aload_0 C dL_law_252 rfl ?_
          refine gx_iload_3 C dL_law_253 rfl ?_
          refine gx_iconst2 C dL_law_254 ?_
          refine gx_iadd C dL_law_255 ?_
          obtain ⟨hi50, h⟩ := gi_ck h
          refine gl_sld C X hi50 dL_law_256 ?_
          refine gx_aload_0 C dL_law_257 rfl ?_
          refine gx_iload_3 C dL_law_258 rfl ?_
          refine gx_iconst3 C dL_law_259 ?_
          refine gx_iadd C dL_law_260 ?_
          obtain ⟨hi51, h⟩ := gi_ck h
          refine gl_sld C X hi51 dL_law_261 ?_
          refine gx_aload_0 C dL_law_262 rfl ?_
          refine gx_iload_3 C dL_law_263 rfl ?_
          refine gx_iconst4 C dL_law_264 ?_
          refine gx_iadd C dL_law_265 ?_
          obtain ⟨hi52, h⟩ := gi_ck h
          refine gl_sld C X hi52 dL_law_266 ?_
          obtain ⟨v54, S55, e53, h⟩ := gi_cs h
          refine gc_IVf C (c_ShopsAsOne_shop (gx_l Γ) (gx_D Γ) hx a _ _ _ _ _ e53) (gx_cw C gx_uu lk_L_22 (by decide) (by decide)) (cls_X7 hx).1 (gs_recv (q := 0) lt_X_ShopsAsOne (oc_X_ShopsAsOne a ι _)) rfl rfl (Nat.le_of_ble_eq_true rfl) hb dL_law_267 ?_
          refine gx_pop C dL_law_270 rfl ?_
          refine gx_aload_2 C dL_law_271 rfl ?_
          refine gx_aload_0 C dL_law_272 rfl ?_
          refine gx_iload_3 C dL_law_273 rfl ?_
          refine gx_iconst1 C dL_law_274 ?_
          refine gx_iadd C dL_law_275 ?_
          refine gl_sld C X hi49 dL_law_276 ?_
          refine gx_aload_0 C dL_law_277 rfl ?_
          refine gx_iload_3 C dL_law_278 rfl ?_
          refine gx_iconst2 C dL_law_279 ?_
          refine gx_iadd C dL_law_280 ?_
          refine gl_sld C X hi50 dL_law_281 ?_
          refine gx_aload_0 C dL_law_282 rfl ?_
          refine gx_iload_3 C dL_law_283 rfl ?_
          refine gx_iconst3 C dL_law_284 ?_
          refine gx_iadd C dL_law_285 ?_
          refine gl_sld C X hi51 dL_law_286 ?_
          refine gx_aload_0 C dL_law_287 rfl ?_
          refine gx_iload_3 C dL_law_288 rfl ?_
          refine gx_iconst4 C dL_law_289 ?_
          refine gx_iadd C dL_law_290 ?_
          refine gl_sld C X hi52 dL_law_291 ?_
          obtain ⟨v57, T58, e56, h⟩ := gi_cs h
          refine gcr_IV C (cn_shop (gx_l Γ) (gx_D Γ) hx b _ _ _ _ _ e56) (gx_cw C gx_uu lk_L_26 (by decide) (by decide)) (cls_X8 hx).1 (gs_recv (q := 0) lt_M_Model (oc_M_Model b ι _)) rfl rfl (Nat.le_of_ble_eq_true rfl) hb dL_law_292 ?_
          refine gx_pop C dL_law_295 rfl ?_
          refine gx_goto (tgt := 1238) C dL_law_296 (by decide) ?_
          exact gx_weak (gx_le_k rfl (gx_le_k rfl (gx_le_k rfl (gx_le_k rfl gx_le_0)))) (bl_1238 hx C ⟨F, hnL⟩ X hk18 h)
        · have h := gi_f hc4 h
          by_cases hc5 : ((xs x3.toNatClampNeg) &&& (63 : Int32)) = 3
          · have h := gi_t hc5 h
            refine gx_tin (tgt := 299) C dL_law_33 (by rw [hc5]; decide) (by rw [hc5]; decide) (by rw [hc5]; rfl) (by decide) ?_
            refine gx_aload_1 C dL_law_299 rfl ?_
            refine gx_aload_0 C dL_law_300 rfl ?_
            refine gx_iload_3 C dL_law_301 rfl ?_
            refine gx_iconst1 C dL_law_302 ?_
            refine gx_iadd C dL_law_303 ?_
            obtain ⟨hi59, h⟩ := gi_ck h
            refine gl_sld C X hi59 dL_law_304 ?_
            refine gx_aload_0 C dL_law_305 rfl ?_
            refine gx_iload_3 C dL_law_306 rfl ?_
            refine gx_iconst2 C dL_law_307 ?_
            refine gx_iadd C dL_law_308 ?_
            obtain ⟨hi60, h⟩ := gi_ck h
            refine gl_sld C X hi60 dL_law_309 ?_
            obtain ⟨v62, e61, h⟩ := gi_cp h
            refine gc_IVf C (c_ShopsAsOne_about (gx_l Γ) (gx_D Γ) hx a _ _ _ e61) (gx_cw C gx_uu lk_L_27 (by decide) (by decide)) (cls_X7 hx).1 (gs_recv (q := 0) lt_X_ShopsAsOne (oc_X_ShopsAsOne a ι _)) rfl rfl (Nat.le_of_ble_eq_true rfl) hb dL_law_310 ?_
            refine gx_pop C dL_law_313 rfl ?_
            refine gx_aload_2 C dL_law_314 rfl ?_
            refine gx_aload_0 C dL_law_315 rfl ?_
            refine gx_iload_3 C dL_law_316 rfl ?_
            refine gx_iconst1 C dL_law_317 ?_
            refine gx_iadd C dL_law_318 ?_
            refine gl_sld C X hi59 dL_law_319 ?_
            refine gx_aload_0 C dL_law_320 rfl ?_
            refine gx_iload_3 C dL_law_321 rfl ?_
            refine gx_iconst2 C dL_law_322 ?_
            refine gx_iadd C dL_law_323 ?_
            refine gl_sld C X hi60 dL_law_324 ?_
            obtain ⟨v64, T65, e63, h⟩ := gi_cs h
            refine gcr_IV C (cn_about (gx_l Γ) (gx_D Γ) hx b _ _ _ e63) (gx_cw C gx_uu lk_L_30 (by decide) (by decide)) (cls_X8 hx).1 (gs_recv (q := 0) lt_M_Model (oc_M_Model b ι _)) rfl rfl (Nat.le_of_ble_eq_true rfl) hb dL_law_325 ?_
            refine gx_pop C dL_law_328 rfl ?_
            refine gx_goto (tgt := 1238) C dL_law_329 (by decide) ?_
            exact gx_weak (gx_le_k rfl (gx_le_k rfl (gx_le_k rfl (gx_le_k rfl gx_le_0)))) (bl_1238 hx C ⟨F, hnL⟩ X hk18 h)
          · have h := gi_f hc5 h
            by_cases hc6 : ((xs x3.toNatClampNeg) &&& (63 : Int32)) = 4
            · have h := gi_t hc6 h
              refine gx_tin (tgt := 332) C dL_law_33 (by rw [hc6]; decide) (by rw [hc6]; decide) (by rw [hc6]; rfl) (by decide) ?_
              refine gx_aload_1 C dL_law_332 rfl ?_
              refine gx_aload_0 C dL_law_333 rfl ?_
              refine gx_iload_3 C dL_law_334 rfl ?_
              refine gx_iconst1 C dL_law_335 ?_
              refine gx_iadd C dL_law_336 ?_
              obtain ⟨hi66, h⟩ := gi_ck h
              refine gl_sld C X hi66 dL_law_337 ?_
              refine gx_aload_0 C dL_law_338 rfl ?_
              refine gx_iload_3 C dL_law_339 rfl ?_
              refine gx_iconst2 C dL_law_340 ?_
              refine gx_iadd C dL_law_341 ?_
              obtain ⟨hi67, h⟩ := gi_ck h
              refine gl_sld C X hi67 dL_law_342 ?_
              obtain ⟨v69, S70, e68, h⟩ := gi_cs h
              refine gc_IVf C (c_ShopsAsOne_price (gx_l Γ) (gx_D Γ) hx a _ _ _ e68) (gx_cw C gx_uu lk_L_31 (by decide) (by decide)) (cls_X7 hx).1 (gs_recv (q := 0) lt_X_ShopsAsOne (oc_X_ShopsAsOne a ι _)) rfl rfl (Nat.le_of_ble_eq_true rfl) hb dL_law_343 ?_
              refine gx_pop C dL_law_346 rfl ?_
              refine gx_aload_2 C dL_law_347 rfl ?_
              refine gx_aload_0 C dL_law_348 rfl ?_
              refine gx_iload_3 C dL_law_349 rfl ?_
              refine gx_iconst1 C dL_law_350 ?_
              refine gx_iadd C dL_law_351 ?_
              refine gl_sld C X hi66 dL_law_352 ?_
              refine gx_aload_0 C dL_law_353 rfl ?_
              refine gx_iload_3 C dL_law_354 rfl ?_
              refine gx_iconst2 C dL_law_355 ?_
              refine gx_iadd C dL_law_356 ?_
              refine gl_sld C X hi67 dL_law_357 ?_
              obtain ⟨v72, T73, e71, h⟩ := gi_cs h
              refine gcr_IV C (cn_price (gx_l Γ) (gx_D Γ) hx b _ _ _ e71) (gx_cw C gx_uu lk_L_34 (by decide) (by decide)) (cls_X8 hx).1 (gs_recv (q := 0) lt_M_Model (oc_M_Model b ι _)) rfl rfl (Nat.le_of_ble_eq_true rfl) hb dL_law_358 ?_
              refine gx_pop C dL_law_361 rfl ?_
              refine gx_goto (tgt := 1238) C dL_law_362 (by decide) ?_
              exact gx_weak (gx_le_k rfl (gx_le_k rfl (gx_le_k rfl (gx_le_k rfl gx_le_0)))) (bl_1238 hx C ⟨F, hnL⟩ X hk18 h)
            · have h := gi_f hc6 h
              by_cases hc7 : ((xs x3.toNatClampNeg) &&& (63 : Int32)) = 5
              · have h := gi_t hc7 h
                refine gx_tin (tgt := 365) C dL_law_33 (by rw [hc7]; decide) (by rw [hc7]; decide) (by rw [hc7]; rfl) (by decide) ?_
                refine gx_aload_1 C dL_law_365 rfl ?_
                refine gx_aload_0 C dL_law_366 rfl ?_
                refine gx_iload_3 C dL_law_367 rfl ?_
                refine gx_iconst1 C dL_law_368 ?_
                refine gx_iadd C dL_law_369 ?_
                obtain ⟨hi74, h⟩ := gi_ck h
                refine gl_sld C X hi74 dL_law_370 ?_
                refine gx_aload_0 C dL_law_371 rfl ?_
                refine gx_iload_3 C dL_law_372 rfl ?_
                refine gx_iconst2 C dL_law_373 ?_
                refine gx_iadd C dL_law_374 ?_
                obtain ⟨hi75, h⟩ := gi_ck h
                refine gl_sld C X hi75 dL_law_375 ?_
                refine gx_aload_0 C dL_law_376 rfl ?_
                refine gx_iload_3 C dL_law_377 rfl ?_
                refine gx_iconst3 C dL_law_378 ?_
                refine gx_iadd C dL_law_379 ?_
                obtain ⟨hi76, h⟩ := gi_ck h
                refine gl_sld C X hi76 dL_law_380 ?_
                refine gx_aload_0 C dL_law_381 rfl ?_
                refine gx_iload_3 C dL_law_382 rfl ?_
                refine gx_iconst4 C dL_law_383 ?_
                refine gx_iadd C dL_law_384 ?_
                obtain ⟨hi77, h⟩ := gi_ck h
                refine gl_sld C X hi77 dL_law_385 ?_
                refine gx_aload_0 C dL_law_386 rfl ?_
                refine gx_iload_3 C dL_law_387 rfl ?_
                refine gx_iconst5 C dL_law_388 ?_
                refine gx_iadd C dL_law_389 ?_
                obtain ⟨hi78, h⟩ := gi_ck h
                refine gl_sld C X hi78 dL_law_390 ?_
                refine gx_aload_0 C dL_law_391 rfl ?_
                refine gx_iload_3 C dL_law_392 rfl ?_
                refine gx_bipush (v := 6) C dL_law_393 (by decide) ?_
                refine gx_iadd C dL_law_395 ?_
                obtain ⟨hi79, h⟩ := gi_ck h
                refine gl_sld C X hi79 dL_law_396 ?_
                obtain ⟨v81, S82, e80, h⟩ := gi_cs h
                refine gc_IVf C (c_ShopsAsOne_sort (gx_l Γ) (gx_D Γ) hx a _ _ _ _ _ _ _ e80) (gx_cw C gx_uu lk_L_35 (by decide) (by decide)) (cls_X7 hx).1 (gs_recv (q := 0) lt_X_ShopsAsOne (oc_X_ShopsAsOne a ι _)) rfl rfl (Nat.le_of_ble_eq_true rfl) hb dL_law_397 ?_
                refine gx_pop C dL_law_400 rfl ?_
                refine gx_aload_2 C dL_law_401 rfl ?_
                refine gx_aload_0 C dL_law_402 rfl ?_
                refine gx_iload_3 C dL_law_403 rfl ?_
                refine gx_iconst1 C dL_law_404 ?_
                refine gx_iadd C dL_law_405 ?_
                refine gl_sld C X hi74 dL_law_406 ?_
                refine gx_aload_0 C dL_law_407 rfl ?_
                refine gx_iload_3 C dL_law_408 rfl ?_
                refine gx_iconst2 C dL_law_409 ?_
                refine gx_iadd C dL_law_410 ?_
                refine gl_sld C X hi75 dL_law_411 ?_
                refine gx_aload_0 C dL_law_412 rfl ?_
                refine gx_iload_3 C dL_law_413 rfl ?_
                refine gx_iconst3 C dL_law_414 ?_
                refine gx_iadd C dL_law_415 ?_
                refine gl_sld C X hi76 dL_law_416 ?_
                refine gx_aload_0 C dL_law_417 rfl ?_
                refine gx_iload_3 C dL_law_418 rfl ?_
                refine gx_iconst4 C dL_law_419 ?_
                refine gx_iadd C dL_law_420 ?_
                refine gl_sld C X hi77 dL_law_421 ?_
                refine gx_aload_0 C dL_law_422 rfl ?_
                refine gx_iload_3 C dL_law_423 rfl ?_
                refine gx_iconst5 C dL_law_424 ?_
                refine gx_iadd C dL_law_425 ?_
                refine gl_sld C X hi78 dL_law_426 ?_
                refine gx_aload_0 C dL_law_427 rfl ?_
                refine gx_iload_3 C dL_law_428 rfl ?_
                refine gx_bipush (v := 6) C dL_law_429 (by decide) ?_
                refine gx_iadd C dL_law_431 ?_
                refine gl_sld C X hi79 dL_law_432 ?_
                obtain ⟨v84, T85, e83, h⟩ := gi_cs h
                refine gcr_IV C (cn_sort (gx_l Γ) (gx_D Γ) hx b _ _ _ _ _ _ _ e83) (gx_cw C gx_uu lk_L_39 (by decide) (by decide)) (cls_X8 hx).1 (gs_recv (q := 0) lt_M_Model (oc_M_Model b ι _)) rfl rfl (Nat.le_of_ble_eq_true rfl) hb dL_law_433 ?_
                refine gx_pop C dL_law_436 rfl ?_
                refine gx_goto (tgt := 1238) C dL_law_437 (by decide) ?_
                exact gx_weak (gx_le_k rfl (gx_le_k rfl (gx_le_k rfl (gx_le_k rfl gx_le_0)))) (bl_1238 hx C ⟨F, hnL⟩ X hk18 h)
              · have h := gi_f hc7 h
                by_cases hc8 : ((xs x3.toNatClampNeg) &&& (63 : Int32)) = 6
                · have h := gi_t hc8 h
                  refine gx_tin (tgt := 440) C dL_law_33 (by rw [hc8]; decide) (by rw [hc8]; decide) (by rw [hc8]; rfl) (by decide) ?_
                  refine gx_aload_1 C dL_law_440 rfl ?_
                  refine gx_aload_0 C dL_law_441 rfl ?_
                  refine gx_iload_3 C dL_law_442 rfl ?_
                  refine gx_iconst1 C dL_law_443 ?_
                  refine gx_iadd C dL_law_444 ?_
                  obtain ⟨hi86, h⟩ := gi_ck h
                  refine gl_sld C X hi86 dL_law_445 ?_
                  refine gx_aload_0 C dL_law_446 rfl ?_
                  refine gx_iload_3 C dL_law_447 rfl ?_
                  refine gx_iconst2 C dL_law_448 ?_
                  refine gx_iadd C dL_law_449 ?_
                  obtain ⟨hi87, h⟩ := gi_ck h
                  refine gl_sld C X hi87 dL_law_450 ?_
                  obtain ⟨v89, e88, h⟩ := gi_cp h
                  refine gc_IVf C (c_ShopsAsOne_is (gx_l Γ) (gx_D Γ) hx a _ _ _ e88) (gx_cw C gx_uu lk_L_40 (by decide) (by decide)) (cls_X7 hx).1 (gs_recv (q := 0) lt_X_ShopsAsOne (oc_X_ShopsAsOne a ι _)) rfl rfl (Nat.le_of_ble_eq_true rfl) hb dL_law_451 ?_
                  refine gx_pop C dL_law_454 rfl ?_
                  refine gx_aload_2 C dL_law_455 rfl ?_
                  refine gx_aload_0 C dL_law_456 rfl ?_
                  refine gx_iload_3 C dL_law_457 rfl ?_
                  refine gx_iconst1 C dL_law_458 ?_
                  refine gx_iadd C dL_law_459 ?_
                  refine gl_sld C X hi86 dL_law_460 ?_
                  refine gx_aload_0 C dL_law_461 rfl ?_
                  refine gx_iload_3 C dL_law_462 rfl ?_
                  refine gx_iconst2 C dL_law_463 ?_
                  refine gx_iadd C dL_law_464 ?_
                  refine gl_sld C X hi87 dL_law_465 ?_
                  obtain ⟨v91, e90, h⟩ := gi_cp h
                  refine gcr_IV C (cn_is (gx_l Γ) (gx_D Γ) hx b _ _ _ e90) (gx_cw C gx_uu lk_L_43 (by decide) (by decide)) (cls_X8 hx).1 (gs_recv (q := 0) lt_M_Model (oc_M_Model b ι _)) rfl rfl (Nat.le_of_ble_eq_true rfl) hb dL_law_466 ?_
                  refine gx_pop C dL_law_469 rfl ?_
                  refine gx_goto (tgt := 1238) C dL_law_470 (by decide) ?_
                  exact gx_weak (gx_le_k rfl (gx_le_k rfl (gx_le_k rfl (gx_le_k rfl gx_le_0)))) (bl_1238 hx C ⟨F, hnL⟩ X hk18 h)
                · have h := gi_f hc8 h
                  by_cases hc9 : ((xs x3.toNatClampNeg) &&& (63 : Int32)) = 7
                  · have h := gi_t hc9 h
                    refine gx_tin (tgt := 473) C dL_law_33 (by rw [hc9]; decide) (by rw [hc9]; decide) (by rw [hc9]; rfl) (by decide) ?_
                    refine gx_aload_1 C dL_law_473 rfl ?_
                    refine gx_aload_0 C dL_law_474 rfl ?_
                    refine gx_iload_3 C dL_law_475 rfl ?_
                    refine gx_iconst1 C dL_law_476 ?_
                    refine gx_iadd C dL_law_477 ?_
                    obtain ⟨hi92, h⟩ := gi_ck h
                    refine gl_sld C X hi92 dL_law_478 ?_
                    obtain ⟨v94, e93, h⟩ := gi_cp h
                    refine gc_IVf C (c_ShopsAsOne_goes (gx_l Γ) (gx_D Γ) hx a _ _ e93) (gx_cw C gx_uu lk_L_44 (by decide) (by decide)) (cls_X7 hx).1 (gs_recv (q := 0) lt_X_ShopsAsOne (oc_X_ShopsAsOne a ι _)) rfl rfl (Nat.le_of_ble_eq_true rfl) hb dL_law_479 ?_
                    refine gx_pop C dL_law_482 rfl ?_
                    refine gx_aload_2 C dL_law_483 rfl ?_
                    refine gx_aload_0 C dL_law_484 rfl ?_
                    refine gx_iload_3 C dL_law_485 rfl ?_
                    refine gx_iconst1 C dL_law_486 ?_
                    refine gx_iadd C dL_law_487 ?_
                    refine gl_sld C X hi92 dL_law_488 ?_
                    obtain ⟨v96, e95, h⟩ := gi_cp h
                    refine gcr_IV C (cn_goes (gx_l Γ) (gx_D Γ) hx b _ _ e95) (gx_cw C gx_uu lk_L_48 (by decide) (by decide)) (cls_X8 hx).1 (gs_recv (q := 0) lt_M_Model (oc_M_Model b ι _)) rfl rfl (Nat.le_of_ble_eq_true rfl) hb dL_law_489 ?_
                    refine gx_pop C dL_law_492 rfl ?_
                    refine gx_goto (tgt := 1238) C dL_law_493 (by decide) ?_
                    exact gx_weak (gx_le_k rfl (gx_le_k rfl (gx_le_k rfl (gx_le_k rfl gx_le_0)))) (bl_1238 hx C ⟨F, hnL⟩ X hk18 h)
                  · have h := gi_f hc9 h
                    by_cases hc10 : ((xs x3.toNatClampNeg) &&& (63 : Int32)) = 8
                    · have h := gi_t hc10 h
                      refine gx_tin (tgt := 496) C dL_law_33 (by rw [hc10]; decide) (by rw [hc10]; decide) (by rw [hc10]; rfl) (by decide) ?_
                      refine gx_aload_1 C dL_law_496 rfl ?_
                      refine gx_aload_0 C dL_law_497 rfl ?_
                      refine gx_iload_3 C dL_law_498 rfl ?_
                      refine gx_iconst1 C dL_law_499 ?_
                      refine gx_iadd C dL_law_500 ?_
                      obtain ⟨hi97, h⟩ := gi_ck h
                      refine gl_sld C X hi97 dL_law_501 ?_
                      obtain ⟨v99, e98, h⟩ := gi_cp h
                      refine gc_IVf C (c_ShopsAsOne_spare (gx_l Γ) (gx_D Γ) hx a _ _ e98) (gx_cw C gx_uu lk_L_49 (by decide) (by decide)) (cls_X7 hx).1 (gs_recv (q := 0) lt_X_ShopsAsOne (oc_X_ShopsAsOne a ι _)) rfl rfl (Nat.le_of_ble_eq_true rfl) hb dL_law_502 ?_
                      refine gx_pop C dL_law_505 rfl ?_
                      refine gx_aload_2 C dL_law_506 rfl ?_
                      refine gx_aload_0 C dL_law_507 rfl ?_
                      refine gx_iload_3 C dL_law_508 rfl ?_
                      refine gx_iconst1 C dL_law_509 ?_
                      refine gx_iadd C dL_law_510 ?_
                      refine gl_sld C X hi97 dL_law_511 ?_
                      obtain ⟨v101, e100, h⟩ := gi_cp h
                      refine gcr_IV C (cn_spare (gx_l Γ) (gx_D Γ) hx b _ _ e100) (gx_cw C gx_uu lk_L_52 (by decide) (by decide)) (cls_X8 hx).1 (gs_recv (q := 0) lt_M_Model (oc_M_Model b ι _)) rfl rfl (Nat.le_of_ble_eq_true rfl) hb dL_law_512 ?_
                      refine gx_pop C dL_law_515 rfl ?_
                      refine gx_goto (tgt := 1238) C dL_law_516 (by decide) ?_
                      exact gx_weak (gx_le_k rfl (gx_le_k rfl (gx_le_k rfl (gx_le_k rfl gx_le_0)))) (bl_1238 hx C ⟨F, hnL⟩ X hk18 h)
                    · have h := gi_f hc10 h
                      by_cases hc11 : ((xs x3.toNatClampNeg) &&& (63 : Int32)) = 9
                      · have h := gi_t hc11 h
                        refine gx_tin (tgt := 519) C dL_law_33 (by rw [hc11]; decide) (by rw [hc11]; decide) (by rw [hc11]; rfl) (by decide) ?_
                        refine gx_aload_1 C dL_law_519 rfl ?_
                        refine gx_aload_0 C dL_law_520 rfl ?_
                        refine gx_iload_3 C dL_law_521 rfl ?_
                        refine gx_iconst1 C dL_law_522 ?_
                        refine gx_iadd C dL_law_523 ?_
                        obtain ⟨hi102, h⟩ := gi_ck h
                        refine gl_sld C X hi102 dL_law_524 ?_
                        obtain ⟨v104, e103, h⟩ := gi_cp h
                        refine gc_IVf C (c_ShopsAsOne_profit (gx_l Γ) (gx_D Γ) hx a _ _ e103) (gx_cw C gx_uu lk_L_53 (by decide) (by decide)) (cls_X7 hx).1 (gs_recv (q := 0) lt_X_ShopsAsOne (oc_X_ShopsAsOne a ι _)) rfl rfl (Nat.le_of_ble_eq_true rfl) hb dL_law_525 ?_
                        refine gx_pop C dL_law_528 rfl ?_
                        refine gx_aload_2 C dL_law_529 rfl ?_
                        refine gx_aload_0 C dL_law_530 rfl ?_
                        refine gx_iload_3 C dL_law_531 rfl ?_
                        refine gx_iconst1 C dL_law_532 ?_
                        refine gx_iadd C dL_law_533 ?_
                        refine gl_sld C X hi102 dL_law_534 ?_
                        obtain ⟨v106, T107, e105, h⟩ := gi_cs h
                        refine gcr_IV C (cn_profit (gx_l Γ) (gx_D Γ) hx b _ _ e105) (gx_cw C gx_uu lk_L_56 (by decide) (by decide)) (cls_X8 hx).1 (gs_recv (q := 0) lt_M_Model (oc_M_Model b ι _)) rfl rfl (Nat.le_of_ble_eq_true rfl) hb dL_law_535 ?_
                        refine gx_pop C dL_law_538 rfl ?_
                        refine gx_goto (tgt := 1238) C dL_law_539 (by decide) ?_
                        exact gx_weak (gx_le_k rfl (gx_le_k rfl (gx_le_k rfl (gx_le_k rfl gx_le_0)))) (bl_1238 hx C ⟨F, hnL⟩ X hk18 h)
                      · have h := gi_f hc11 h
                        by_cases hc12 : ((xs x3.toNatClampNeg) &&& (63 : Int32)) = 10
                        · have h := gi_t hc12 h
                          refine gx_tin (tgt := 542) C dL_law_33 (by rw [hc12]; decide) (by rw [hc12]; decide) (by rw [hc12]; rfl) (by decide) ?_
                          refine gx_aload_1 C dL_law_542 rfl ?_
                          refine gx_aload_0 C dL_law_543 rfl ?_
                          refine gx_iload_3 C dL_law_544 rfl ?_
                          refine gx_iconst1 C dL_law_545 ?_
                          refine gx_iadd C dL_law_546 ?_
                          obtain ⟨hi108, h⟩ := gi_ck h
                          refine gl_sld C X hi108 dL_law_547 ?_
                          refine gx_aload_0 C dL_law_548 rfl ?_
                          refine gx_iload_3 C dL_law_549 rfl ?_
                          refine gx_iconst2 C dL_law_550 ?_
                          refine gx_iadd C dL_law_551 ?_
                          obtain ⟨hi109, h⟩ := gi_ck h
                          refine gl_sld C X hi109 dL_law_552 ?_
                          obtain ⟨v111, S112, e110, h⟩ := gi_cs h
                          refine gc_IVf C (c_ShopsAsOne_best (gx_l Γ) (gx_D Γ) hx a _ _ _ e110) (gx_cw C gx_uu lk_L_57 (by decide) (by decide)) (cls_X7 hx).1 (gs_recv (q := 0) lt_X_ShopsAsOne (oc_X_ShopsAsOne a ι _)) rfl rfl (Nat.le_of_ble_eq_true rfl) hb dL_law_553 ?_
                          refine gx_pop C dL_law_556 rfl ?_
                          refine gx_aload_2 C dL_law_557 rfl ?_
                          refine gx_aload_0 C dL_law_558 rfl ?_
                          refine gx_iload_3 C dL_law_559 rfl ?_
                          refine gx_iconst1 C dL_law_560 ?_
                          refine gx_iadd C dL_law_561 ?_
                          refine gl_sld C X hi108 dL_law_562 ?_
                          refine gx_aload_0 C dL_law_563 rfl ?_
                          refine gx_iload_3 C dL_law_564 rfl ?_
                          refine gx_iconst2 C dL_law_565 ?_
                          refine gx_iadd C dL_law_566 ?_
                          refine gl_sld C X hi109 dL_law_567 ?_
                          obtain ⟨v114, T115, e113, h⟩ := gi_cs h
                          refine gcr_IV C (cn_best (gx_l Γ) (gx_D Γ) hx b _ _ _ e113) (gx_cw C gx_uu lk_L_60 (by decide) (by decide)) (cls_X8 hx).1 (gs_recv (q := 0) lt_M_Model (oc_M_Model b ι _)) rfl rfl (Nat.le_of_ble_eq_true rfl) hb dL_law_568 ?_
                          refine gx_pop C dL_law_571 rfl ?_
                          refine gx_goto (tgt := 1238) C dL_law_572 (by decide) ?_
                          exact gx_weak (gx_le_k rfl (gx_le_k rfl (gx_le_k rfl (gx_le_k rfl gx_le_0)))) (bl_1238 hx C ⟨F, hnL⟩ X hk18 h)
                        · have h := gi_f hc12 h
                          by_cases hc13 : ((xs x3.toNatClampNeg) &&& (63 : Int32)) = 11
                          · have h := gi_t hc13 h
                            refine gx_tin (tgt := 575) C dL_law_33 (by rw [hc13]; decide) (by rw [hc13]; decide) (by rw [hc13]; rfl) (by decide) ?_
                            refine gx_aload_1 C dL_law_575 rfl ?_
                            refine gx_aload_0 C dL_law_576 rfl ?_
                            refine gx_iload_3 C dL_law_577 rfl ?_
                            refine gx_iconst1 C dL_law_578 ?_
                            refine gx_iadd C dL_law_579 ?_
                            obtain ⟨hi116, h⟩ := gi_ck h
                            refine gl_sld C X hi116 dL_law_580 ?_
                            obtain ⟨v118, S119, e117, h⟩ := gi_cs h
                            refine gc_IVf C (c_ShopsAsOne_turn (gx_l Γ) (gx_D Γ) hx a _ _ e117) (gx_cw C gx_uu lk_L_61 (by decide) (by decide)) (cls_X7 hx).1 (gs_recv (q := 0) lt_X_ShopsAsOne (oc_X_ShopsAsOne a ι _)) rfl rfl (Nat.le_of_ble_eq_true rfl) hb dL_law_581 ?_
                            refine gx_pop C dL_law_584 rfl ?_
                            refine gx_aload_2 C dL_law_585 rfl ?_
                            refine gx_aload_0 C dL_law_586 rfl ?_
                            refine gx_iload_3 C dL_law_587 rfl ?_
                            refine gx_iconst1 C dL_law_588 ?_
                            refine gx_iadd C dL_law_589 ?_
                            refine gl_sld C X hi116 dL_law_590 ?_
                            obtain ⟨v121, T122, e120, h⟩ := gi_cs h
                            refine gcr_IV C (cn_turn (gx_l Γ) (gx_D Γ) hx b _ _ e120) (gx_cw C gx_uu lk_L_64 (by decide) (by decide)) (cls_X8 hx).1 (gs_recv (q := 0) lt_M_Model (oc_M_Model b ι _)) rfl rfl (Nat.le_of_ble_eq_true rfl) hb dL_law_591 ?_
                            refine gx_pop C dL_law_594 rfl ?_
                            refine gx_goto (tgt := 1238) C dL_law_595 (by decide) ?_
                            exact gx_weak (gx_le_k rfl (gx_le_k rfl (gx_le_k rfl (gx_le_k rfl gx_le_0)))) (bl_1238 hx C ⟨F, hnL⟩ X hk18 h)
                          · have h := gi_f hc13 h
                            by_cases hc14 : ((xs x3.toNatClampNeg) &&& (63 : Int32)) = 12
                            · have h := gi_t hc14 h
                              refine gx_tin (tgt := 598) C dL_law_33 (by rw [hc14]; decide) (by rw [hc14]; decide) (by rw [hc14]; rfl) (by decide) ?_
                              refine gx_aload_1 C dL_law_598 rfl ?_
                              obtain ⟨v124, S125, e123, h⟩ := gi_cs h
                              refine gc_IVf C (c_ShopsAsOne_rest (gx_l Γ) (gx_D Γ) hx a _ e123) (gx_cw C gx_uu lk_L_65 (by decide) (by decide)) (cls_X7 hx).1 (gs_recv (q := 0) lt_X_ShopsAsOne (oc_X_ShopsAsOne a ι _)) rfl rfl (Nat.le_of_ble_eq_true rfl) hb dL_law_599 ?_
                              refine gx_pop C dL_law_602 rfl ?_
                              refine gx_aload_2 C dL_law_603 rfl ?_
                              obtain ⟨v127, T128, e126, h⟩ := gi_cs h
                              refine gcr_IV C (cn_rest (gx_l Γ) (gx_D Γ) hx b _ e126) (gx_cw C gx_uu lk_L_69 (by decide) (by decide)) (cls_X8 hx).1 (gs_recv (q := 0) lt_M_Model (oc_M_Model b ι _)) rfl rfl (Nat.le_of_ble_eq_true rfl) hb dL_law_604 ?_
                              refine gx_pop C dL_law_607 rfl ?_
                              refine gx_goto (tgt := 1238) C dL_law_608 (by decide) ?_
                              exact gx_weak (gx_le_k rfl (gx_le_k rfl (gx_le_k rfl (gx_le_k rfl gx_le_0)))) (bl_1238 hx C ⟨F, hnL⟩ X hk18 h)
                            · have h := gi_f hc14 h
                              by_cases hc15 : ((xs x3.toNatClampNeg) &&& (63 : Int32)) = 13
                              · have h := gi_t hc15 h
                                refine gx_tin (tgt := 611) C dL_law_33 (by rw [hc15]; decide) (by rw [hc15]; decide) (by rw [hc15]; rfl) (by decide) ?_
                                refine gx_aload_1 C dL_law_611 rfl ?_
                                obtain ⟨v130, S131, e129, h⟩ := gi_cs h
                                refine gc_IVf C (c_ShopsAsOne_otherwise (gx_l Γ) (gx_D Γ) hx a _ e129) (gx_cw C gx_uu lk_L_70 (by decide) (by decide)) (cls_X7 hx).1 (gs_recv (q := 0) lt_X_ShopsAsOne (oc_X_ShopsAsOne a ι _)) rfl rfl (Nat.le_of_ble_eq_true rfl) hb dL_law_612 ?_
                                refine gx_pop C dL_law_615 rfl ?_
                                refine gx_aload_2 C dL_law_616 rfl ?_
                                obtain ⟨v133, T134, e132, h⟩ := gi_cs h
                                refine gcr_IV C (cn_otherwise (gx_l Γ) (gx_D Γ) hx b _ e132) (gx_cw C gx_uu lk_L_73 (by decide) (by decide)) (cls_X8 hx).1 (gs_recv (q := 0) lt_M_Model (oc_M_Model b ι _)) rfl rfl (Nat.le_of_ble_eq_true rfl) hb dL_law_617 ?_
                                refine gx_pop C dL_law_620 rfl ?_
                                refine gx_goto (tgt := 1238) C dL_law_621 (by decide) ?_
                                exact gx_weak (gx_le_k rfl (gx_le_k rfl (gx_le_k rfl (gx_le_k rfl gx_le_0)))) (bl_1238 hx C ⟨F, hnL⟩ X hk18 h)
                              · have h := gi_f hc15 h
                                by_cases hc16 : ((xs x3.toNatClampNeg) &&& (63 : Int32)) = 14
                                · have h := gi_t hc16 h
                                  refine gx_tin (tgt := 624) C dL_law_33 (by rw [hc16]; decide) (by rw [hc16]; decide) (by rw [hc16]; rfl) (by decide) ?_
                                  refine gx_aload_1 C dL_law_624 rfl ?_
                                  refine gx_aload_0 C dL_law_625 rfl ?_
                                  refine gx_iload_3 C dL_law_626 rfl ?_
                                  refine gx_iconst1 C dL_law_627 ?_
                                  refine gx_iadd C dL_law_628 ?_
                                  obtain ⟨hi135, h⟩ := gi_ck h
                                  refine gl_sld C X hi135 dL_law_629 ?_
                                  obtain ⟨v137, S138, e136, h⟩ := gi_cs h
                                  refine gc_IVf C (c_ShopsAsOne_gain (gx_l Γ) (gx_D Γ) hx a _ _ e136) (gx_cw C gx_uu lk_L_74 (by decide) (by decide)) (cls_X7 hx).1 (gs_recv (q := 0) lt_X_ShopsAsOne (oc_X_ShopsAsOne a ι _)) rfl rfl (Nat.le_of_ble_eq_true rfl) hb dL_law_630 ?_
                                  refine gx_pop C dL_law_633 rfl ?_
                                  refine gx_aload_2 C dL_law_634 rfl ?_
                                  refine gx_aload_0 C dL_law_635 rfl ?_
                                  refine gx_iload_3 C dL_law_636 rfl ?_
                                  refine gx_iconst1 C dL_law_637 ?_
                                  refine gx_iadd C dL_law_638 ?_
                                  refine gl_sld C X hi135 dL_law_639 ?_
                                  obtain ⟨v140, T141, e139, h⟩ := gi_cs h
                                  refine gcr_IV C (cn_gain (gx_l Γ) (gx_D Γ) hx b _ _ e139) (gx_cw C gx_uu lk_L_77 (by decide) (by decide)) (cls_X8 hx).1 (gs_recv (q := 0) lt_M_Model (oc_M_Model b ι _)) rfl rfl (Nat.le_of_ble_eq_true rfl) hb dL_law_640 ?_
                                  refine gx_pop C dL_law_643 rfl ?_
                                  refine gx_goto (tgt := 1238) C dL_law_644 (by decide) ?_
                                  exact gx_weak (gx_le_k rfl (gx_le_k rfl (gx_le_k rfl (gx_le_k rfl gx_le_0)))) (bl_1238 hx C ⟨F, hnL⟩ X hk18 h)
                                · have h := gi_f hc16 h
                                  by_cases hc17 : ((xs x3.toNatClampNeg) &&& (63 : Int32)) = 15
                                  · have h := gi_t hc17 h
                                    refine gx_tin (tgt := 647) C dL_law_33 (by rw [hc17]; decide) (by rw [hc17]; decide) (by rw [hc17]; rfl) (by decide) ?_
                                    refine gx_aload_1 C dL_law_647 rfl ?_
                                    refine gx_aload_0 C dL_law_648 rfl ?_
                                    refine gx_iload_3 C dL_law_649 rfl ?_
                                    refine gx_iconst1 C dL_law_650 ?_
                                    refine gx_iadd C dL_law_651 ?_
                                    obtain ⟨hi142, h⟩ := gi_ck h
                                    refine gl_sld C X hi142 dL_law_652 ?_
                                    refine gx_aload_0 C dL_law_653 rfl ?_
                                    refine gx_iload_3 C dL_law_654 rfl ?_
                                    refine gx_iconst2 C dL_law_655 ?_
                                    refine gx_iadd C dL_law_656 ?_
                                    obtain ⟨hi143, h⟩ := gi_ck h
                                    refine gl_sld C X hi143 dL_law_657 ?_
                                    refine gx_aload_0 C dL_law_658 rfl ?_
                                    refine gx_iload_3 C dL_law_659 rfl ?_
                                    refine gx_iconst3 C dL_law_660 ?_
                                    refine gx_iadd C dL_law_661 ?_
                                    obtain ⟨hi144, h⟩ := gi_ck h
                                    refine gl_sld C X hi144 dL_law_662 ?_
                                    refine gx_if_eq (tgt := 670) C dL_law_663 (by decide) (fun hc145 => ?_) (fun hc145 => ?_)
                                    · have h := gi_t hc145 h
                                      refine gx_iconst0 C dL_law_670 ?_
                                      exact gx_weak (gx_le_k rfl (gx_le_k rfl (gx_le_k rfl (gx_le_k rfl gx_le_0)))) (bl_671 hx C ⟨F, hnL⟩ X hk18 h)
                                    · have h := gi_f hc145 h
                                      refine gx_iconst1 C dL_law_666 ?_
                                      refine gx_goto (tgt := 671) C dL_law_667 (by decide) ?_
                                      exact gx_weak (gx_le_k rfl (gx_le_k rfl (gx_le_k rfl (gx_le_k rfl gx_le_0)))) (bl_671 hx C ⟨F, hnL⟩ X hk18 h)
                                  · have h := gi_f hc17 h
                                    by_cases hc18 : ((xs x3.toNatClampNeg) &&& (63 : Int32)) = 16
                                    · have h := gi_t hc18 h
                                      refine gx_tin (tgt := 706) C dL_law_33 (by rw [hc18]; decide) (by rw [hc18]; decide) (by rw [hc18]; rfl) (by decide) ?_
                                      refine gx_aload_1 C dL_law_706 rfl ?_
                                      refine gx_aload_0 C dL_law_707 rfl ?_
                                      refine gx_iload_3 C dL_law_708 rfl ?_
                                      refine gx_iconst1 C dL_law_709 ?_
                                      refine gx_iadd C dL_law_710 ?_
                                      obtain ⟨hi146, h⟩ := gi_ck h
                                      refine gl_sld C X hi146 dL_law_711 ?_
                                      refine gx_aload_0 C dL_law_712 rfl ?_
                                      refine gx_iload_3 C dL_law_713 rfl ?_
                                      refine gx_iconst2 C dL_law_714 ?_
                                      refine gx_iadd C dL_law_715 ?_
                                      obtain ⟨hi147, h⟩ := gi_ck h
                                      refine gl_sld C X hi147 dL_law_716 ?_
                                      obtain ⟨v149, e148, h⟩ := gi_cp h
                                      refine gc_IVf C (c_ShopsAsOne_instead (gx_l Γ) (gx_D Γ) hx a _ _ _ e148) (gx_cw C gx_uu lk_L_83 (by decide) (by decide)) (cls_X7 hx).1 (gs_recv (q := 0) lt_X_ShopsAsOne (oc_X_ShopsAsOne a ι _)) rfl rfl (Nat.le_of_ble_eq_true rfl) hb dL_law_717 ?_
                                      refine gx_pop C dL_law_720 rfl ?_
                                      refine gx_aload_2 C dL_law_721 rfl ?_
                                      refine gx_aload_0 C dL_law_722 rfl ?_
                                      refine gx_iload_3 C dL_law_723 rfl ?_
                                      refine gx_iconst1 C dL_law_724 ?_
                                      refine gx_iadd C dL_law_725 ?_
                                      refine gl_sld C X hi146 dL_law_726 ?_
                                      refine gx_aload_0 C dL_law_727 rfl ?_
                                      refine gx_iload_3 C dL_law_728 rfl ?_
                                      refine gx_iconst2 C dL_law_729 ?_
                                      refine gx_iadd C dL_law_730 ?_
                                      refine gl_sld C X hi147 dL_law_731 ?_
                                      obtain ⟨v151, T152, e150, h⟩ := gi_cs h
                                      refine gcr_IV C (cn_instead (gx_l Γ) (gx_D Γ) hx b _ _ _ e150) (gx_cw C gx_uu lk_L_86 (by decide) (by decide)) (cls_X8 hx).1 (gs_recv (q := 0) lt_M_Model (oc_M_Model b ι _)) rfl rfl (Nat.le_of_ble_eq_true rfl) hb dL_law_732 ?_
                                      refine gx_pop C dL_law_735 rfl ?_
                                      refine gx_goto (tgt := 1238) C dL_law_736 (by decide) ?_
                                      exact gx_weak (gx_le_k rfl (gx_le_k rfl (gx_le_k rfl (gx_le_k rfl gx_le_0)))) (bl_1238 hx C ⟨F, hnL⟩ X hk18 h)
                                    · have h := gi_f hc18 h
                                      by_cases hc19 : ((xs x3.toNatClampNeg) &&& (63 : Int32)) = 17
                                      · have h := gi_t hc19 h
                                        refine gx_tin (tgt := 739) C dL_law_33 (by rw [hc19]; decide) (by rw [hc19]; decide) (by rw [hc19]; rfl) (by decide) ?_
                                        refine gx_aload_1 C dL_law_739 rfl ?_
                                        refine gx_aload_0 C dL_law_740 rfl ?_
                                        refine gx_iload_3 C dL_law_741 rfl ?_
                                        refine gx_iconst1 C dL_law_742 ?_
                                        refine gx_iadd C dL_law_743 ?_
                                        obtain ⟨hi153, h⟩ := gi_ck h
                                        refine gl_sld C X hi153 dL_law_744 ?_
                                        refine gx_aload_0 C dL_law_745 rfl ?_
                                        refine gx_iload_3 C dL_law_746 rfl ?_
                                        refine gx_iconst2 C dL_law_747 ?_
                                        refine gx_iadd C dL_law_748 ?_
                                        obtain ⟨hi154, h⟩ := gi_ck h
                                        refine gl_sld C X hi154 dL_law_749 ?_
                                        obtain ⟨v156, e155, h⟩ := gi_cp h
                                        refine gc_IVf C (c_ShopsAsOne_from (gx_l Γ) (gx_D Γ) hx a _ _ _ e155) (gx_cw C gx_uu lk_L_87 (by decide) (by decide)) (cls_X7 hx).1 (gs_recv (q := 0) lt_X_ShopsAsOne (oc_X_ShopsAsOne a ι _)) rfl rfl (Nat.le_of_ble_eq_true rfl) hb dL_law_750 ?_
                                        refine gx_pop C dL_law_753 rfl ?_
                                        refine gx_aload_2 C dL_law_754 rfl ?_
                                        refine gx_aload_0 C dL_law_755 rfl ?_
                                        refine gx_iload_3 C dL_law_756 rfl ?_
                                        refine gx_iconst1 C dL_law_757 ?_
                                        refine gx_iadd C dL_law_758 ?_
                                        refine gl_sld C X hi153 dL_law_759 ?_
                                        refine gx_aload_0 C dL_law_760 rfl ?_
                                        refine gx_iload_3 C dL_law_761 rfl ?_
                                        refine gx_iconst2 C dL_law_762 ?_
                                        refine gx_iadd C dL_law_763 ?_
                                        refine gl_sld C X hi154 dL_law_764 ?_
                                        obtain ⟨v158, T159, e157, h⟩ := gi_cs h
                                        refine gcr_IV C (cn_from (gx_l Γ) (gx_D Γ) hx b _ _ _ e157) (gx_cw C gx_uu lk_L_90 (by decide) (by decide)) (cls_X8 hx).1 (gs_recv (q := 0) lt_M_Model (oc_M_Model b ι _)) rfl rfl (Nat.le_of_ble_eq_true rfl) hb dL_law_765 ?_
                                        refine gx_pop C dL_law_768 rfl ?_
                                        refine gx_goto (tgt := 1238) C dL_law_769 (by decide) ?_
                                        exact gx_weak (gx_le_k rfl (gx_le_k rfl (gx_le_k rfl (gx_le_k rfl gx_le_0)))) (bl_1238 hx C ⟨F, hnL⟩ X hk18 h)
                                      · have h := gi_f hc19 h
                                        by_cases hc20 : ((xs x3.toNatClampNeg) &&& (63 : Int32)) = 18
                                        · have h := gi_t hc20 h
                                          refine gx_tin (tgt := 772) C dL_law_33 (by rw [hc20]; decide) (by rw [hc20]; decide) (by rw [hc20]; rfl) (by decide) ?_
                                          refine gx_aload_1 C dL_law_772 rfl ?_
                                          refine gx_aload_0 C dL_law_773 rfl ?_
                                          refine gx_iload_3 C dL_law_774 rfl ?_
                                          refine gx_iconst1 C dL_law_775 ?_
                                          refine gx_iadd C dL_law_776 ?_
                                          obtain ⟨hi160, h⟩ := gi_ck h
                                          refine gl_sld C X hi160 dL_law_777 ?_
                                          refine gx_aload_0 C dL_law_778 rfl ?_
                                          refine gx_iload_3 C dL_law_779 rfl ?_
                                          refine gx_iconst2 C dL_law_780 ?_
                                          refine gx_iadd C dL_law_781 ?_
                                          obtain ⟨hi161, h⟩ := gi_ck h
                                          refine gl_sld C X hi161 dL_law_782 ?_
                                          obtain ⟨v163, S164, e162, h⟩ := gi_cs h
                                          refine gc_IVf C (c_ShopsAsOne_merge (gx_l Γ) (gx_D Γ) hx a _ _ _ e162) (gx_cw C gx_uu lk_L_91 (by decide) (by decide)) (cls_X7 hx).1 (gs_recv (q := 0) lt_X_ShopsAsOne (oc_X_ShopsAsOne a ι _)) rfl rfl (Nat.le_of_ble_eq_true rfl) hb dL_law_783 ?_
                                          refine gx_pop C dL_law_786 rfl ?_
                                          refine gx_aload_2 C dL_law_787 rfl ?_
                                          refine gx_aload_0 C dL_law_788 rfl ?_
                                          refine gx_iload_3 C dL_law_789 rfl ?_
                                          refine gx_iconst1 C dL_law_790 ?_
                                          refine gx_iadd C dL_law_791 ?_
                                          refine gl_sld C X hi160 dL_law_792 ?_
                                          refine gx_aload_0 C dL_law_793 rfl ?_
                                          refine gx_iload_3 C dL_law_794 rfl ?_
                                          refine gx_iconst2 C dL_law_795 ?_
                                          refine gx_iadd C dL_law_796 ?_
                                          refine gl_sld C X hi161 dL_law_797 ?_
                                          obtain ⟨v166, T167, e165, h⟩ := gi_cs h
                                          refine gcr_IV C (cn_merge (gx_l Γ) (gx_D Γ) hx b _ _ _ e165) (gx_cw C gx_uu lk_L_94 (by decide) (by decide)) (cls_X8 hx).1 (gs_recv (q := 0) lt_M_Model (oc_M_Model b ι _)) rfl rfl (Nat.le_of_ble_eq_true rfl) hb dL_law_798 ?_
                                          refine gx_pop C dL_law_801 rfl ?_
                                          refine gx_goto (tgt := 1238) C dL_law_802 (by decide) ?_
                                          exact gx_weak (gx_le_k rfl (gx_le_k rfl (gx_le_k rfl (gx_le_k rfl gx_le_0)))) (bl_1238 hx C ⟨F, hnL⟩ X hk18 h)
                                        · have h := gi_f hc20 h
                                          by_cases hc21 : ((xs x3.toNatClampNeg) &&& (63 : Int32)) = 19
                                          · have h := gi_t hc21 h
                                            refine gx_tin (tgt := 805) C dL_law_33 (by rw [hc21]; decide) (by rw [hc21]; decide) (by rw [hc21]; rfl) (by decide) ?_
                                            refine gx_aload_1 C dL_law_805 rfl ?_
                                            refine gx_aload_0 C dL_law_806 rfl ?_
                                            refine gx_iload_3 C dL_law_807 rfl ?_
                                            refine gx_iconst1 C dL_law_808 ?_
                                            refine gx_iadd C dL_law_809 ?_
                                            obtain ⟨hi168, h⟩ := gi_ck h
                                            refine gl_sld C X hi168 dL_law_810 ?_
                                            refine gx_aload_0 C dL_law_811 rfl ?_
                                            refine gx_iload_3 C dL_law_812 rfl ?_
                                            refine gx_iconst2 C dL_law_813 ?_
                                            refine gx_iadd C dL_law_814 ?_
                                            obtain ⟨hi169, h⟩ := gi_ck h
                                            refine gl_sld C X hi169 dL_law_815 ?_
                                            refine gx_aload_0 C dL_law_816 rfl ?_
                                            refine gx_iload_3 C dL_law_817 rfl ?_
                                            refine gx_iconst3 C dL_law_818 ?_
                                            refine gx_iadd C dL_law_819 ?_
                                            obtain ⟨hi170, h⟩ := gi_ck h
                                            refine gl_sld C X hi170 dL_law_820 ?_
                                            obtain ⟨v172, S173, e171, h⟩ := gi_cs h
                                            refine gc_IVf C (c_ShopsAsOne_dearer (gx_l Γ) (gx_D Γ) hx a _ _ _ _ e171) (gx_cw C gx_uu lk_L_95 (by decide) (by decide)) (cls_X7 hx).1 (gs_recv (q := 0) lt_X_ShopsAsOne (oc_X_ShopsAsOne a ι _)) rfl rfl (Nat.le_of_ble_eq_true rfl) hb dL_law_821 ?_
                                            refine gx_pop C dL_law_824 rfl ?_
                                            refine gx_aload_2 C dL_law_825 rfl ?_
                                            refine gx_aload_0 C dL_law_826 rfl ?_
                                            refine gx_iload_3 C dL_law_827 rfl ?_
                                            refine gx_iconst1 C dL_law_828 ?_
                                            refine gx_iadd C dL_law_829 ?_
                                            refine gl_sld C X hi168 dL_law_830 ?_
                                            refine gx_aload_0 C dL_law_831 rfl ?_
                                            refine gx_iload_3 C dL_law_832 rfl ?_
                                            refine gx_iconst2 C dL_law_833 ?_
                                            refine gx_iadd C dL_law_834 ?_
                                            refine gl_sld C X hi169 dL_law_835 ?_
                                            refine gx_aload_0 C dL_law_836 rfl ?_
                                            refine gx_iload_3 C dL_law_837 rfl ?_
                                            refine gx_iconst3 C dL_law_838 ?_
                                            refine gx_iadd C dL_law_839 ?_
                                            refine gl_sld C X hi170 dL_law_840 ?_
                                            obtain ⟨v175, T176, e174, h⟩ := gi_cs h
                                            refine gcr_IV C (cn_dearer (gx_l Γ) (gx_D Γ) hx b _ _ _ _ e174) (gx_cw C gx_uu lk_L_99 (by decide) (by decide)) (cls_X8 hx).1 (gs_recv (q := 0) lt_M_Model (oc_M_Model b ι _)) rfl rfl (Nat.le_of_ble_eq_true rfl) hb dL_law_841 ?_
                                            refine gx_pop C dL_law_844 rfl ?_
                                            refine gx_goto (tgt := 1238) C dL_law_845 (by decide) ?_
                                            exact gx_weak (gx_le_k rfl (gx_le_k rfl (gx_le_k rfl (gx_le_k rfl gx_le_0)))) (bl_1238 hx C ⟨F, hnL⟩ X hk18 h)
                                          · have h := gi_f hc21 h
                                            by_cases hc22 : ((xs x3.toNatClampNeg) &&& (63 : Int32)) = 20
                                            · have h := gi_t hc22 h
                                              refine gx_tin (tgt := 848) C dL_law_33 (by rw [hc22]; decide) (by rw [hc22]; decide) (by rw [hc22]; rfl) (by decide) ?_
                                              refine gx_aload_1 C dL_law_848 rfl ?_
                                              refine gx_aload_0 C dL_law_849 rfl ?_
                                              refine gx_iload_3 C dL_law_850 rfl ?_
                                              refine gx_iconst1 C dL_law_851 ?_
                                              refine gx_iadd C dL_law_852 ?_
                                              obtain ⟨hi177, h⟩ := gi_ck h
                                              refine gl_sld C X hi177 dL_law_853 ?_
                                              refine gx_aload_0 C dL_law_854 rfl ?_
                                              refine gx_iload_3 C dL_law_855 rfl ?_
                                              refine gx_iconst2 C dL_law_856 ?_
                                              refine gx_iadd C dL_law_857 ?_
                                              obtain ⟨hi178, h⟩ := gi_ck h
                                              refine gl_sld C X hi178 dL_law_858 ?_
                                              refine gx_aload_0 C dL_law_859 rfl ?_
                                              refine gx_iload_3 C dL_law_860 rfl ?_
                                              refine gx_iconst3 C dL_law_861 ?_
                                              refine gx_iadd C dL_law_862 ?_
                                              obtain ⟨hi179, h⟩ := gi_ck h
                                              refine gl_sld C X hi179 dL_law_863 ?_
                                              obtain ⟨v181, S182, e180, h⟩ := gi_cs h
                                              refine gc_IVf C (c_ShopsAsOne_harm (gx_l Γ) (gx_D Γ) hx a _ _ _ _ e180) (gx_cw C gx_uu lk_L_100 (by decide) (by decide)) (cls_X7 hx).1 (gs_recv (q := 0) lt_X_ShopsAsOne (oc_X_ShopsAsOne a ι _)) rfl rfl (Nat.le_of_ble_eq_true rfl) hb dL_law_864 ?_
                                              refine gx_pop C dL_law_867 rfl ?_
                                              refine gx_aload_2 C dL_law_868 rfl ?_
                                              refine gx_aload_0 C dL_law_869 rfl ?_
                                              refine gx_iload_3 C dL_law_870 rfl ?_
                                              refine gx_iconst1 C dL_law_871 ?_
                                              refine gx_iadd C dL_law_872 ?_
                                              refine gl_sld C X hi177 dL_law_873 ?_
                                              refine gx_aload_0 C dL_law_874 rfl ?_
                                              refine gx_iload_3 C dL_law_875 rfl ?_
                                              refine gx_iconst2 C dL_law_876 ?_
                                              refine gx_iadd C dL_law_877 ?_
                                              refine gl_sld C X hi178 dL_law_878 ?_
                                              refine gx_aload_0 C dL_law_879 rfl ?_
                                              refine gx_iload_3 C dL_law_880 rfl ?_
                                              refine gx_iconst3 C dL_law_881 ?_
                                              refine gx_iadd C dL_law_882 ?_
                                              refine gl_sld C X hi179 dL_law_883 ?_
                                              obtain ⟨v184, T185, e183, h⟩ := gi_cs h
                                              refine gcr_IV C (cn_harm (gx_l Γ) (gx_D Γ) hx b _ _ _ _ e183) (gx_cw C gx_uu lk_L_103 (by decide) (by decide)) (cls_X8 hx).1 (gs_recv (q := 0) lt_M_Model (oc_M_Model b ι _)) rfl rfl (Nat.le_of_ble_eq_true rfl) hb dL_law_884 ?_
                                              refine gx_pop C dL_law_887 rfl ?_
                                              refine gx_goto (tgt := 1238) C dL_law_888 (by decide) ?_
                                              exact gx_weak (gx_le_k rfl (gx_le_k rfl (gx_le_k rfl (gx_le_k rfl gx_le_0)))) (bl_1238 hx C ⟨F, hnL⟩ X hk18 h)
                                            · have h := gi_f hc22 h
                                              by_cases hc23 : ((xs x3.toNatClampNeg) &&& (63 : Int32)) = 21
                                              · have h := gi_t hc23 h
                                                refine gx_tin (tgt := 891) C dL_law_33 (by rw [hc23]; decide) (by rw [hc23]; decide) (by rw [hc23]; rfl) (by decide) ?_
                                                refine gx_aload_1 C dL_law_891 rfl ?_
                                                refine gx_aload_0 C dL_law_892 rfl ?_
                                                refine gx_iload_3 C dL_law_893 rfl ?_
                                                refine gx_iconst1 C dL_law_894 ?_
                                                refine gx_iadd C dL_law_895 ?_
                                                obtain ⟨hi186, h⟩ := gi_ck h
                                                refine gl_sld C X hi186 dL_law_896 ?_
                                                refine gx_aload_0 C dL_law_897 rfl ?_
                                                refine gx_iload_3 C dL_law_898 rfl ?_
                                                refine gx_iconst2 C dL_law_899 ?_
                                                refine gx_iadd C dL_law_900 ?_
                                                obtain ⟨hi187, h⟩ := gi_ck h
                                                refine gl_sld C X hi187 dL_law_901 ?_
                                                refine gx_aload_0 C dL_law_902 rfl ?_
                                                refine gx_iload_3 C dL_law_903 rfl ?_
                                                refine gx_iconst3 C dL_law_904 ?_
                                                refine gx_iadd C dL_law_905 ?_
                                                obtain ⟨hi188, h⟩ := gi_ck h
                                                refine gl_sld C X hi188 dL_law_906 ?_
                                                refine gx_aload_0 C dL_law_907 rfl ?_
                                                refine gx_iload_3 C dL_law_908 rfl ?_
                                                refine gx_iconst4 C dL_law_909 ?_
                                                refine gx_iadd C dL_law_910 ?_
                                                obtain ⟨hi189, h⟩ := gi_ck h
                                                refine gl_sld C X hi189 dL_law_911 ?_
                                                obtain ⟨v191, S192, e190, h⟩ := gi_cs h
                                                refine gc_IVf C (c_ShopsAsOne_soldOff (gx_l Γ) (gx_D Γ) hx a _ _ _ _ _ e190) (gx_cw C gx_uu lk_L_104 (by decide) (by decide)) (cls_X7 hx).1 (gs_recv (q := 0) lt_X_ShopsAsOne (oc_X_ShopsAsOne a ι _)) rfl rfl (Nat.le_of_ble_eq_true rfl) hb dL_law_912 ?_
                                                refine gx_pop C dL_law_915 rfl ?_
                                                refine gx_aload_2 C dL_law_916 rfl ?_
                                                refine gx_aload_0 C dL_law_917 rfl ?_
                                                refine gx_iload_3 C dL_law_918 rfl ?_
                                                refine gx_iconst1 C dL_law_919 ?_
                                                refine gx_iadd C dL_law_920 ?_
                                                refine gl_sld C X hi186 dL_law_921 ?_
                                                refine gx_aload_0 C dL_law_922 rfl ?_
                                                refine gx_iload_3 C dL_law_923 rfl ?_
                                                refine gx_iconst2 C dL_law_924 ?_
                                                refine gx_iadd C dL_law_925 ?_
                                                refine gl_sld C X hi187 dL_law_926 ?_
                                                refine gx_aload_0 C dL_law_927 rfl ?_
                                                refine gx_iload_3 C dL_law_928 rfl ?_
                                                refine gx_iconst3 C dL_law_929 ?_
                                                refine gx_iadd C dL_law_930 ?_
                                                refine gl_sld C X hi188 dL_law_931 ?_
                                                refine gx_aload_0 C dL_law_932 rfl ?_
                                                refine gx_iload_3 C dL_law_933 rfl ?_
                                                refine gx_iconst4 C dL_law_934 ?_
                                                refine gx_iadd C dL_law_935 ?_
                                                refine gl_sld C X hi189 dL_law_936 ?_
                                                obtain ⟨v194, T195, e193, h⟩ := gi_cs h
                                                refine gcr_IV C (cn_soldOff (gx_l Γ) (gx_D Γ) hx b _ _ _ _ _ e193) (gx_cw C gx_uu lk_L_107 (by decide) (by decide)) (cls_X8 hx).1 (gs_recv (q := 0) lt_M_Model (oc_M_Model b ι _)) rfl rfl (Nat.le_of_ble_eq_true rfl) hb dL_law_937 ?_
                                                refine gx_pop C dL_law_940 rfl ?_
                                                refine gx_goto (tgt := 1238) C dL_law_941 (by decide) ?_
                                                exact gx_weak (gx_le_k rfl (gx_le_k rfl (gx_le_k rfl (gx_le_k rfl gx_le_0)))) (bl_1238 hx C ⟨F, hnL⟩ X hk18 h)
                                              · have h := gi_f hc23 h
                                                by_cases hc24 : ((xs x3.toNatClampNeg) &&& (63 : Int32)) = 22
                                                · have h := gi_t hc24 h
                                                  refine gx_tin (tgt := 944) C dL_law_33 (by rw [hc24]; decide) (by rw [hc24]; decide) (by rw [hc24]; rfl) (by decide) ?_
                                                  refine gx_aload_1 C dL_law_944 rfl ?_
                                                  refine gx_aload_0 C dL_law_945 rfl ?_
                                                  refine gx_iload_3 C dL_law_946 rfl ?_
                                                  refine gx_iconst1 C dL_law_947 ?_
                                                  refine gx_iadd C dL_law_948 ?_
                                                  obtain ⟨hi196, h⟩ := gi_ck h
                                                  refine gl_sld C X hi196 dL_law_949 ?_
                                                  refine gx_aload_0 C dL_law_950 rfl ?_
                                                  refine gx_iload_3 C dL_law_951 rfl ?_
                                                  refine gx_iconst2 C dL_law_952 ?_
                                                  refine gx_iadd C dL_law_953 ?_
                                                  obtain ⟨hi197, h⟩ := gi_ck h
                                                  refine gl_sld C X hi197 dL_law_954 ?_
                                                  refine gx_aload_0 C dL_law_955 rfl ?_
                                                  refine gx_iload_3 C dL_law_956 rfl ?_
                                                  refine gx_iconst3 C dL_law_957 ?_
                                                  refine gx_iadd C dL_law_958 ?_
                                                  obtain ⟨hi198, h⟩ := gi_ck h
                                                  refine gl_sld C X hi198 dL_law_959 ?_
                                                  refine gx_aload_0 C dL_law_960 rfl ?_
                                                  refine gx_iload_3 C dL_law_961 rfl ?_
                                                  refine gx_iconst4 C dL_law_962 ?_
                                                  refine gx_iadd C dL_law_963 ?_
                                                  obtain ⟨hi199, h⟩ := gi_ck h
                                                  refine gl_sld C X hi199 dL_law_964 ?_
                                                  refine gx_aload_0 C dL_law_965 rfl ?_
                                                  refine gx_iload_3 C dL_law_966 rfl ?_
                                                  refine gx_iconst5 C dL_law_967 ?_
                                                  refine gx_iadd C dL_law_968 ?_
                                                  obtain ⟨hi200, h⟩ := gi_ck h
                                                  refine gl_sld C X hi200 dL_law_969 ?_
                                                  obtain ⟨v202, S203, e201, h⟩ := gi_cs h
                                                  refine gc_IVf C (c_ShopsAsOne_twice (gx_l Γ) (gx_D Γ) hx a _ _ _ _ _ _ e201) (gx_cw C gx_uu lk_L_108 (by decide) (by decide)) (cls_X7 hx).1 (gs_recv (q := 0) lt_X_ShopsAsOne (oc_X_ShopsAsOne a ι _)) rfl rfl (Nat.le_of_ble_eq_true rfl) hb dL_law_970 ?_
                                                  refine gx_pop C dL_law_973 rfl ?_
                                                  refine gx_aload_2 C dL_law_974 rfl ?_
                                                  refine gx_aload_0 C dL_law_975 rfl ?_
                                                  refine gx_iload_3 C dL_law_976 rfl ?_
                                                  refine gx_iconst1 C dL_law_977 ?_
                                                  refine gx_iadd C dL_law_978 ?_
                                                  refine gl_sld C X hi196 dL_law_979 ?_
                                                  refine gx_aload_0 C dL_law_980 rfl ?_
                                                  refine gx_iload_3 C dL_law_981 rfl ?_
                                                  refine gx_iconst2 C dL_law_982 ?_
                                                  refine gx_iadd C dL_law_983 ?_
                                                  refine gl_sld C X hi197 dL_law_984 ?_
                                                  refine gx_aload_0 C dL_law_985 rfl ?_
                                                  refine gx_iload_3 C dL_law_986 rfl ?_
                                                  refine gx_iconst3 C dL_law_987 ?_
                                                  refine gx_iadd C dL_law_988 ?_
                                                  refine gl_sld C X hi198 dL_law_989 ?_
                                                  refine gx_aload_0 C dL_law_990 rfl ?_
                                                  refine gx_iload_3 C dL_law_991 rfl ?_
                                                  refine gx_iconst4 C dL_law_992 ?_
                                                  refine gx_iadd C dL_law_993 ?_
                                                  refine gl_sld C X hi199 dL_law_994 ?_
                                                  refine gx_aload_0 C dL_law_995 rfl ?_
                                                  refine gx_iload_3 C dL_law_996 rfl ?_
                                                  refine gx_iconst5 C dL_law_997 ?_
                                                  refine gx_iadd C dL_law_998 ?_
                                                  refine gl_sld C X hi200 dL_law_999 ?_
                                                  obtain ⟨v205, T206, e204, h⟩ := gi_cs h
                                                  refine gcr_IV C (cn_twice (gx_l Γ) (gx_D Γ) hx b _ _ _ _ _ _ e204) (gx_cw C gx_uu lk_L_112 (by decide) (by decide)) (cls_X8 hx).1 (gs_recv (q := 0) lt_M_Model (oc_M_Model b ι _)) rfl rfl (Nat.le_of_ble_eq_true rfl) hb dL_law_1000 ?_
                                                  refine gx_pop C dL_law_1003 rfl ?_
                                                  refine gx_goto (tgt := 1238) C dL_law_1004 (by decide) ?_
                                                  exact gx_weak (gx_le_k rfl (gx_le_k rfl (gx_le_k rfl (gx_le_k rfl gx_le_0)))) (bl_1238 hx C ⟨F, hnL⟩ X hk18 h)
                                                · have h := gi_f hc24 h
                                                  by_cases hc25 : ((xs x3.toNatClampNeg) &&& (63 : Int32)) = 23
                                                  · have h := gi_t hc25 h
                                                    refine gx_tin (tgt := 1007) C dL_law_33 (by rw [hc25]; decide) (by rw [hc25]; decide) (by rw [hc25]; rfl) (by decide) ?_
                                                    refine gx_aload_1 C dL_law_1007 rfl ?_
                                                    refine gx_aload_0 C dL_law_1008 rfl ?_
                                                    refine gx_iload_3 C dL_law_1009 rfl ?_
                                                    refine gx_iconst1 C dL_law_1010 ?_
                                                    refine gx_iadd C dL_law_1011 ?_
                                                    obtain ⟨hi207, h⟩ := gi_ck h
                                                    refine gl_sld C X hi207 dL_law_1012 ?_
                                                    refine gx_i2l C dL_law_1013 ?_
                                                    refine gx_bipush (v := 32) C dL_law_1014 (by decide) ?_
                                                    refine gx_lshl C dL_law_1016 ?_
                                                    refine gx_aload_0 C dL_law_1017 rfl ?_
                                                    refine gx_iload_3 C dL_law_1018 rfl ?_
                                                    refine gx_iconst2 C dL_law_1019 ?_
                                                    refine gx_iadd C dL_law_1020 ?_
                                                    obtain ⟨hi208, h⟩ := gi_ck h
                                                    refine gl_sld C X hi208 dL_law_1021 ?_
                                                    refine gx_i2l C dL_law_1022 ?_
                                                    refine gx_ldc2 (v := 4294967295) C dL_law_1023 kL_113 ?_
                                                    refine gx_land C dL_law_1026 ?_
                                                    refine gx_lor C dL_law_1027 ?_
                                                    obtain ⟨v210, S211, e209, h⟩ := gi_cs h
                                                    refine gc_IVf C (c_ShopsAsOne_letters (gx_l Γ) (gx_D Γ) hx a _ _ e209) (gx_cw C gx_uu lk_L_115 (by decide) (by decide)) (cls_X7 hx).1 (gs_recv (q := 0) lt_X_ShopsAsOne (oc_X_ShopsAsOne a ι _)) rfl rfl (Nat.le_of_ble_eq_true rfl) hb dL_law_1028 ?_
                                                    refine gx_pop C dL_law_1031 rfl ?_
                                                    refine gx_aload_2 C dL_law_1032 rfl ?_
                                                    refine gx_aload_0 C dL_law_1033 rfl ?_
                                                    refine gx_iload_3 C dL_law_1034 rfl ?_
                                                    refine gx_iconst1 C dL_law_1035 ?_
                                                    refine gx_iadd C dL_law_1036 ?_
                                                    refine gl_sld C X hi207 dL_law_1037 ?_
                                                    refine gx_i2l C dL_law_1038 ?_
                                                    refine gx_bipush (v := 32) C dL_law_1039 (by decide) ?_
                                                    refine gx_lshl C dL_law_1041 ?_
                                                    refine gx_aload_0 C dL_law_1042 rfl ?_
                                                    refine gx_iload_3 C dL_law_1043 rfl ?_
                                                    refine gx_iconst2 C dL_law_1044 ?_
                                                    refine gx_iadd C dL_law_1045 ?_
                                                    refine gl_sld C X hi208 dL_law_1046 ?_
                                                    refine gx_i2l C dL_law_1047 ?_
                                                    refine gx_ldc2 (v := 4294967295) C dL_law_1048 kL_113 ?_
                                                    refine gx_land C dL_law_1051 ?_
                                                    refine gx_lor C dL_law_1052 ?_
                                                    obtain ⟨v213, T214, e212, h⟩ := gi_cs h
                                                    refine gcr_IV C (cn_letters (gx_l Γ) (gx_D Γ) hx b _ _ e212) (gx_cw C gx_uu lk_L_119 (by decide) (by decide)) (cls_X8 hx).1 (gs_recv (q := 0) lt_M_Model (oc_M_Model b ι _)) rfl rfl (Nat.le_of_ble_eq_true rfl) hb dL_law_1053 ?_
                                                    refine gx_pop C dL_law_1056 rfl ?_
                                                    refine gx_goto (tgt := 1238) C dL_law_1057 (by decide) ?_
                                                    exact gx_weak (gx_le_k rfl (gx_le_k rfl (gx_le_k rfl (gx_le_k rfl gx_le_0)))) (bl_1238 hx C ⟨F, hnL⟩ X hk18 h)
                                                  · have h := gi_f hc25 h
                                                    by_cases hc26 : ((xs x3.toNatClampNeg) &&& (63 : Int32)) = 24
                                                    · have h := gi_t hc26 h
                                                      refine gx_tin (tgt := 1060) C dL_law_33 (by rw [hc26]; decide) (by rw [hc26]; decide) (by rw [hc26]; rfl) (by decide) ?_
                                                      refine gx_aload_1 C dL_law_1060 rfl ?_
                                                      obtain ⟨v216, S217, e215, h⟩ := gi_cs h
                                                      refine gc_IVf C (c_ShopsAsOne_blank (gx_l Γ) (gx_D Γ) hx a _ e215) (gx_cw C gx_uu lk_L_120 (by decide) (by decide)) (cls_X7 hx).1 (gs_recv (q := 0) lt_X_ShopsAsOne (oc_X_ShopsAsOne a ι _)) rfl rfl (Nat.le_of_ble_eq_true rfl) hb dL_law_1061 ?_
                                                      refine gx_pop C dL_law_1064 rfl ?_
                                                      refine gx_aload_2 C dL_law_1065 rfl ?_
                                                      obtain ⟨v219, T220, e218, h⟩ := gi_cs h
                                                      refine gcr_IV C (cn_blank (gx_l Γ) (gx_D Γ) hx b _ e218) (gx_cw C gx_uu lk_L_123 (by decide) (by decide)) (cls_X8 hx).1 (gs_recv (q := 0) lt_M_Model (oc_M_Model b ι _)) rfl rfl (Nat.le_of_ble_eq_true rfl) hb dL_law_1066 ?_
                                                      refine gx_pop C dL_law_1069 rfl ?_
                                                      refine gx_goto (tgt := 1238) C dL_law_1070 (by decide) ?_
                                                      exact gx_weak (gx_le_k rfl (gx_le_k rfl (gx_le_k rfl (gx_le_k rfl gx_le_0)))) (bl_1238 hx C ⟨F, hnL⟩ X hk18 h)
                                                    · have h := gi_f hc26 h
                                                      by_cases hc27 : ((xs x3.toNatClampNeg) &&& (63 : Int32)) = 25
                                                      · have h := gi_t hc27 h
                                                        refine gx_tin (tgt := 1073) C dL_law_33 (by rw [hc27]; decide) (by rw [hc27]; decide) (by rw [hc27]; rfl) (by decide) ?_
                                                        refine gx_aload_1 C dL_law_1073 rfl ?_
                                                        obtain ⟨v222, S223, e221, h⟩ := gi_cs h
                                                        refine gc_IVf C (c_ShopsAsOne_fault (gx_l Γ) (gx_D Γ) hx a _ e221) (gx_cw C gx_uu lk_L_124 (by decide) (by decide)) (cls_X7 hx).1 (gs_recv (q := 0) lt_X_ShopsAsOne (oc_X_ShopsAsOne a ι _)) rfl rfl (Nat.le_of_ble_eq_true rfl) hb dL_law_1074 ?_
                                                        refine gx_pop C dL_law_1077 rfl ?_
                                                        refine gx_aload_2 C dL_law_1078 rfl ?_
                                                        obtain ⟨v225, T226, e224, h⟩ := gi_cs h
                                                        refine gcr_IV C (cn_fault (gx_l Γ) (gx_D Γ) hx b _ e224) (gx_cw C gx_uu lk_L_127 (by decide) (by decide)) (cls_X8 hx).1 (gs_recv (q := 0) lt_M_Model (oc_M_Model b ι _)) rfl rfl (Nat.le_of_ble_eq_true rfl) hb dL_law_1079 ?_
                                                        refine gx_pop C dL_law_1082 rfl ?_
                                                        refine gx_goto (tgt := 1238) C dL_law_1083 (by decide) ?_
                                                        exact gx_weak (gx_le_k rfl (gx_le_k rfl (gx_le_k rfl (gx_le_k rfl gx_le_0)))) (bl_1238 hx C ⟨F, hnL⟩ X hk18 h)
                                                      · have h := gi_f hc27 h
                                                        by_cases hc28 : ((xs x3.toNatClampNeg) &&& (63 : Int32)) = 26
                                                        · have h := gi_t hc28 h
                                                          refine gx_tin (tgt := 1086) C dL_law_33 (by rw [hc28]; decide) (by rw [hc28]; decide) (by rw [hc28]; rfl) (by decide) ?_
                                                          refine gx_aload_1 C dL_law_1086 rfl ?_
                                                          obtain ⟨v228, S229, e227, h⟩ := gi_cs h
                                                          refine gc_IVf C (c_ShopsAsOne_test (gx_l Γ) (gx_D Γ) hx a _ e227) (gx_cw C gx_uu lk_L_128 (by decide) (by decide)) (cls_X7 hx).1 (gs_recv (q := 0) lt_X_ShopsAsOne (oc_X_ShopsAsOne a ι _)) rfl rfl (Nat.le_of_ble_eq_true rfl) hb dL_law_1087 ?_
                                                          refine gx_pop C dL_law_1090 rfl ?_
                                                          refine gx_aload_2 C dL_law_1091 rfl ?_
                                                          obtain ⟨v231, T232, e230, h⟩ := gi_cs h
                                                          refine gcr_IV C (cn_test (gx_l Γ) (gx_D Γ) hx b _ e230) (gx_cw C gx_uu lk_L_131 (by decide) (by decide)) (cls_X8 hx).1 (gs_recv (q := 0) lt_M_Model (oc_M_Model b ι _)) rfl rfl (Nat.le_of_ble_eq_true rfl) hb dL_law_1092 ?_
                                                          refine gx_pop C dL_law_1095 rfl ?_
                                                          refine gx_goto (tgt := 1238) C dL_law_1096 (by decide) ?_
                                                          exact gx_weak (gx_le_k rfl (gx_le_k rfl (gx_le_k rfl (gx_le_k rfl gx_le_0)))) (bl_1238 hx C ⟨F, hnL⟩ X hk18 h)
                                                        · have h := gi_f hc28 h
                                                          by_cases hc29 : ((xs x3.toNatClampNeg) &&& (63 : Int32)) = 27
                                                          · have h := gi_t hc29 h
                                                            refine gx_tin (tgt := 1099) C dL_law_33 (by rw [hc29]; decide) (by rw [hc29]; decide) (by rw [hc29]; rfl) (by decide) ?_
                                                            refine gx_aload_1 C dL_law_1099 rfl ?_
                                                            refine gx_aload_0 C dL_law_1100 rfl ?_
                                                            refine gx_iload_3 C dL_law_1101 rfl ?_
                                                            refine gx_iconst1 C dL_law_1102 ?_
                                                            refine gx_iadd C dL_law_1103 ?_
                                                            obtain ⟨hi233, h⟩ := gi_ck h
                                                            refine gl_sld C X hi233 dL_law_1104 ?_
                                                            refine gx_aload_0 C dL_law_1105 rfl ?_
                                                            refine gx_iload_3 C dL_law_1106 rfl ?_
                                                            refine gx_iconst2 C dL_law_1107 ?_
                                                            refine gx_iadd C dL_law_1108 ?_
                                                            obtain ⟨hi234, h⟩ := gi_ck h
                                                            refine gl_sld C X hi234 dL_law_1109 ?_
                                                            refine gx_aload_0 C dL_law_1110 rfl ?_
                                                            refine gx_iload_3 C dL_law_1111 rfl ?_
                                                            refine gx_iconst3 C dL_law_1112 ?_
                                                            refine gx_iadd C dL_law_1113 ?_
                                                            obtain ⟨hi235, h⟩ := gi_ck h
                                                            refine gl_sld C X hi235 dL_law_1114 ?_
                                                            obtain ⟨v237, S238, e236, h⟩ := gi_cs h
                                                            refine gc_IVf C (c_ShopsAsOne_bars (gx_l Γ) (gx_D Γ) hx a _ _ _ _ e236) (gx_cw C gx_uu lk_L_132 (by decide) (by decide)) (cls_X7 hx).1 (gs_recv (q := 0) lt_X_ShopsAsOne (oc_X_ShopsAsOne a ι _)) rfl rfl (Nat.le_of_ble_eq_true rfl) hb dL_law_1115 ?_
                                                            refine gx_pop C dL_law_1118 rfl ?_
                                                            refine gx_aload_2 C dL_law_1119 rfl ?_
                                                            refine gx_aload_0 C dL_law_1120 rfl ?_
                                                            refine gx_iload_3 C dL_law_1121 rfl ?_
                                                            refine gx_iconst1 C dL_law_1122 ?_
                                                            refine gx_iadd C dL_law_1123 ?_
                                                            refine gl_sld C X hi233 dL_law_1124 ?_
                                                            refine gx_aload_0 C dL_law_1125 rfl ?_
                                                            refine gx_iload_3 C dL_law_1126 rfl ?_
                                                            refine gx_iconst2 C dL_law_1127 ?_
                                                            refine gx_iadd C dL_law_1128 ?_
                                                            refine gl_sld C X hi234 dL_law_1129 ?_
                                                            refine gx_aload_0 C dL_law_1130 rfl ?_
                                                            refine gx_iload_3 C dL_law_1131 rfl ?_
                                                            refine gx_iconst3 C dL_law_1132 ?_
                                                            refine gx_iadd C dL_law_1133 ?_
                                                            refine gl_sld C X hi235 dL_law_1134 ?_
                                                            obtain ⟨v240, T241, e239, h⟩ := gi_cs h
                                                            refine gcr_IV C (cn_bars (gx_l Γ) (gx_D Γ) hx b _ _ _ _ e239) (gx_cw C gx_uu lk_L_135 (by decide) (by decide)) (cls_X8 hx).1 (gs_recv (q := 0) lt_M_Model (oc_M_Model b ι _)) rfl rfl (Nat.le_of_ble_eq_true rfl) hb dL_law_1135 ?_
                                                            refine gx_pop C dL_law_1138 rfl ?_
                                                            refine gx_goto (tgt := 1238) C dL_law_1139 (by decide) ?_
                                                            exact gx_weak (gx_le_k rfl (gx_le_k rfl (gx_le_k rfl (gx_le_k rfl gx_le_0)))) (bl_1238 hx C ⟨F, hnL⟩ X hk18 h)
                                                          · have h := gi_f hc29 h
                                                            by_cases hc30 : ((xs x3.toNatClampNeg) &&& (63 : Int32)) = 28
                                                            · have h := gi_t hc30 h
                                                              refine gx_tin (tgt := 1142) C dL_law_33 (by rw [hc30]; decide) (by rw [hc30]; decide) (by rw [hc30]; rfl) (by decide) ?_
                                                              refine gx_aload_1 C dL_law_1142 rfl ?_
                                                              refine gx_aload_0 C dL_law_1143 rfl ?_
                                                              refine gx_iload_3 C dL_law_1144 rfl ?_
                                                              refine gx_iconst1 C dL_law_1145 ?_
                                                              refine gx_iadd C dL_law_1146 ?_
                                                              obtain ⟨hi242, h⟩ := gi_ck h
                                                              refine gl_sld C X hi242 dL_law_1147 ?_
                                                              refine gx_aload_0 C dL_law_1148 rfl ?_
                                                              refine gx_iload_3 C dL_law_1149 rfl ?_
                                                              refine gx_iconst2 C dL_law_1150 ?_
                                                              refine gx_iadd C dL_law_1151 ?_
                                                              obtain ⟨hi243, h⟩ := gi_ck h
                                                              refine gl_sld C X hi243 dL_law_1152 ?_
                                                              obtain ⟨v245, S246, e244, h⟩ := gi_cs h
                                                              refine gc_IVf C (c_ShopsAsOne_wrong (gx_l Γ) (gx_D Γ) hx a _ _ _ e244) (gx_cw C gx_uu lk_L_136 (by decide) (by decide)) (cls_X7 hx).1 (gs_recv (q := 0) lt_X_ShopsAsOne (oc_X_ShopsAsOne a ι _)) rfl rfl (Nat.le_of_ble_eq_true rfl) hb dL_law_1153 ?_
                                                              refine gx_pop C dL_law_1156 rfl ?_
                                                              refine gx_aload_2 C dL_law_1157 rfl ?_
                                                              refine gx_aload_0 C dL_law_1158 rfl ?_
                                                              refine gx_iload_3 C dL_law_1159 rfl ?_
                                                              refine gx_iconst1 C dL_law_1160 ?_
                                                              refine gx_iadd C dL_law_1161 ?_
                                                              refine gl_sld C X hi242 dL_law_1162 ?_
                                                              refine gx_aload_0 C dL_law_1163 rfl ?_
                                                              refine gx_iload_3 C dL_law_1164 rfl ?_
                                                              refine gx_iconst2 C dL_law_1165 ?_
                                                              refine gx_iadd C dL_law_1166 ?_
                                                              refine gl_sld C X hi243 dL_law_1167 ?_
                                                              obtain ⟨v248, T249, e247, h⟩ := gi_cs h
                                                              refine gcr_IV C (cn_wrong (gx_l Γ) (gx_D Γ) hx b _ _ _ e247) (gx_cw C gx_uu lk_L_139 (by decide) (by decide)) (cls_X8 hx).1 (gs_recv (q := 0) lt_M_Model (oc_M_Model b ι _)) rfl rfl (Nat.le_of_ble_eq_true rfl) hb dL_law_1168 ?_
                                                              refine gx_pop C dL_law_1171 rfl ?_
                                                              refine gx_goto (tgt := 1238) C dL_law_1172 (by decide) ?_
                                                              exact gx_weak (gx_le_k rfl (gx_le_k rfl (gx_le_k rfl (gx_le_k rfl gx_le_0)))) (bl_1238 hx C ⟨F, hnL⟩ X hk18 h)
                                                            · have h := gi_f hc30 h
                                                              by_cases hc31 : ((xs x3.toNatClampNeg) &&& (63 : Int32)) = 29
                                                              · have h := gi_t hc31 h
                                                                refine gx_tin (tgt := 1175) C dL_law_33 (by rw [hc31]; decide) (by rw [hc31]; decide) (by rw [hc31]; rfl) (by decide) ?_
                                                                refine gx_aload_1 C dL_law_1175 rfl ?_
                                                                obtain ⟨v251, S252, e250, h⟩ := gi_cs h
                                                                refine gc_IVf C (c_ShopsAsOne_image (gx_l Γ) (gx_D Γ) hx a _ e250) (gx_cw C gx_uu lk_L_140 (by decide) (by decide)) (cls_X7 hx).1 (gs_recv (q := 0) lt_X_ShopsAsOne (oc_X_ShopsAsOne a ι _)) rfl rfl (Nat.le_of_ble_eq_true rfl) hb dL_law_1176 ?_
                                                                refine gx_pop C dL_law_1179 rfl ?_
                                                                refine gx_aload_2 C dL_law_1180 rfl ?_
                                                                obtain ⟨v254, T255, e253, h⟩ := gi_cs h
                                                                refine gcr_IV C (cn_image (gx_l Γ) (gx_D Γ) hx b _ e253) (gx_cw C gx_uu lk_L_143 (by decide) (by decide)) (cls_X8 hx).1 (gs_recv (q := 0) lt_M_Model (oc_M_Model b ι _)) rfl rfl (Nat.le_of_ble_eq_true rfl) hb dL_law_1181 ?_
                                                                refine gx_pop C dL_law_1184 rfl ?_
                                                                refine gx_goto (tgt := 1238) C dL_law_1185 (by decide) ?_
                                                                exact gx_weak (gx_le_k rfl (gx_le_k rfl (gx_le_k rfl (gx_le_k rfl gx_le_0)))) (bl_1238 hx C ⟨F, hnL⟩ X hk18 h)
                                                              · have h := gi_f hc31 h
                                                                by_cases hc32 : ((xs x3.toNatClampNeg) &&& (63 : Int32)) = 30
                                                                · have h := gi_t hc32 h
                                                                  refine gx_tin (tgt := 1188) C dL_law_33 (by rw [hc32]; decide) (by rw [hc32]; decide) (by rw [hc32]; rfl) (by decide) ?_
                                                                  refine gx_aload_1 C dL_law_1188 rfl ?_
                                                                  obtain ⟨v257, S258, e256, h⟩ := gi_cs h
                                                                  refine gc_IVf C (c_ShopsAsOne_restore (gx_l Γ) (gx_D Γ) hx a _ e256) (gx_cw C gx_uu lk_L_144 (by decide) (by decide)) (cls_X7 hx).1 (gs_recv (q := 0) lt_X_ShopsAsOne (oc_X_ShopsAsOne a ι _)) rfl rfl (Nat.le_of_ble_eq_true rfl) hb dL_law_1189 ?_
                                                                  refine gx_pop C dL_law_1192 rfl ?_
                                                                  refine gx_aload_2 C dL_law_1193 rfl ?_
                                                                  obtain ⟨v260, T261, e259, h⟩ := gi_cs h
                                                                  refine gcr_IV C (cn_restore (gx_l Γ) (gx_D Γ) hx b _ e259) (gx_cw C gx_uu lk_L_147 (by decide) (by decide)) (cls_X8 hx).1 (gs_recv (q := 0) lt_M_Model (oc_M_Model b ι _)) rfl rfl (Nat.le_of_ble_eq_true rfl) hb dL_law_1194 ?_
                                                                  refine gx_pop C dL_law_1197 rfl ?_
                                                                  refine gx_goto (tgt := 1238) C dL_law_1198 (by decide) ?_
                                                                  exact gx_weak (gx_le_k rfl (gx_le_k rfl (gx_le_k rfl (gx_le_k rfl gx_le_0)))) (bl_1238 hx C ⟨F, hnL⟩ X hk18 h)
                                                                · have h := gi_f hc32 h
                                                                  by_cases hc33 : ((xs x3.toNatClampNeg) &&& (63 : Int32)) = 31
                                                                  · have h := gi_t hc33 h
                                                                    refine gx_tin (tgt := 1201) C dL_law_33 (by rw [hc33]; decide) (by rw [hc33]; decide) (by rw [hc33]; rfl) (by decide) ?_
                                                                    refine gx_aload_1 C dL_law_1201 rfl ?_
                                                                    refine gx_aload_0 C dL_law_1202 rfl ?_
                                                                    refine gx_iload_3 C dL_law_1203 rfl ?_
                                                                    refine gx_iconst1 C dL_law_1204 ?_
                                                                    refine gx_iadd C dL_law_1205 ?_
                                                                    obtain ⟨hi262, h⟩ := gi_ck h
                                                                    refine gl_sld C X hi262 dL_law_1206 ?_
                                                                    obtain ⟨v264, e263, h⟩ := gi_cp h
                                                                    refine gc_IVf C (c_ShopsAsOne_count (gx_l Γ) (gx_D Γ) hx a _ _ e263) (gx_cw C gx_uu lk_L_148 (by decide) (by decide)) (cls_X7 hx).1 (gs_recv (q := 0) lt_X_ShopsAsOne (oc_X_ShopsAsOne a ι _)) rfl rfl (Nat.le_of_ble_eq_true rfl) hb dL_law_1207 ?_
                                                                    refine gx_pop C dL_law_1210 rfl ?_
                                                                    refine gx_aload_2 C dL_law_1211 rfl ?_
                                                                    refine gx_aload_0 C dL_law_1212 rfl ?_
                                                                    refine gx_iload_3 C dL_law_1213 rfl ?_
                                                                    refine gx_iconst1 C dL_law_1214 ?_
                                                                    refine gx_iadd C dL_law_1215 ?_
                                                                    refine gl_sld C X hi262 dL_law_1216 ?_
                                                                    obtain ⟨v266, T267, e265, h⟩ := gi_cs h
                                                                    refine gcr_IV C (cn_count (gx_l Γ) (gx_D Γ) hx b _ _ e265) (gx_cw C gx_uu lk_L_151 (by decide) (by decide)) (cls_X8 hx).1 (gs_recv (q := 0) lt_M_Model (oc_M_Model b ι _)) rfl rfl (Nat.le_of_ble_eq_true rfl) hb dL_law_1217 ?_
                                                                    refine gx_pop C dL_law_1220 rfl ?_
                                                                    refine gx_goto (tgt := 1238) C dL_law_1221 (by decide) ?_
                                                                    exact gx_weak (gx_le_k rfl (gx_le_k rfl (gx_le_k rfl (gx_le_k rfl gx_le_0)))) (bl_1238 hx C ⟨F, hnL⟩ X hk18 h)
                                                                  · have h := gi_f hc33 h
                                                                    by_cases hc34 : ((xs x3.toNatClampNeg) &&& (63 : Int32)) = 32
                                                                    · have h := gi_t hc34 h
                                                                      refine gx_tin (tgt := 1224) C dL_law_33 (by rw [hc34]; decide) (by rw [hc34]; decide) (by rw [hc34]; rfl) (by decide) ?_
                                                                      refine gx_aload_1 C dL_law_1224 rfl ?_
                                                                      obtain ⟨v269, S270, e268, h⟩ := gi_cs h
                                                                      refine gc_LVf C (c_ShopsAsOne_digest (gx_l Γ) (gx_D Γ) hx a _ e268) (gx_cw C gx_uu lk_L_152 (by decide) (by decide)) (cls_X7 hx).1 (gs_recv (q := 0) lt_X_ShopsAsOne (oc_X_ShopsAsOne a ι _)) rfl rfl (Nat.le_of_ble_eq_true rfl) hb dL_law_1225 ?_
                                                                      refine gx_aload_2 C dL_law_1228 rfl ?_
                                                                      obtain ⟨v272, T273, e271, h⟩ := gi_cs h
                                                                      refine gcr_LV C (cn_digest (gx_l Γ) (gx_D Γ) hx b _ e271) (gx_cw C gx_uu lk_L_156 (by decide) (by decide)) (cls_X8 hx).1 (gs_recv (q := 0) lt_M_Model (oc_M_Model b ι _)) rfl rfl (Nat.le_of_ble_eq_true rfl) hb dL_law_1229 ?_
                                                                      refine gx_lcmp C dL_law_1232 ?_
                                                                      refine gx_if_eq (tgt := 1238) C dL_law_1233 (by decide) (fun hc274 => ?_) (fun hc274 => ?_)
                                                                      · have h := gi_t hc274 h
                                                                        exact gx_weak (gx_le_k rfl (gx_le_k rfl (gx_le_k rfl (gx_le_k rfl gx_le_0)))) (bl_1238 hx C ⟨F, hnL⟩ X hk18 h)
                                                                      · have h := gi_f hc274 h
                                                                        refine gx_iconst0 C dL_law_1236 ?_
                                                                        cases h
                                                                    · have h := gi_f hc34 h
                                                                      refine gx_tout (tgt := 1238) C dL_law_33 (by have := lv_neT hc2 (a := 0) (by decide); have := lv_neT hc3 (a := 1) (by decide); have := lv_neT hc4 (a := 2) (by decide); have := lv_neT hc5 (a := 3) (by decide); have := lv_neT hc6 (a := 4) (by decide); have := lv_neT hc7 (a := 5) (by decide); have := lv_neT hc8 (a := 6) (by decide); have := lv_neT hc9 (a := 7) (by decide); have := lv_neT hc10 (a := 8) (by decide); have := lv_neT hc11 (a := 9) (by decide); have := lv_neT hc12 (a := 10) (by decide); have := lv_neT hc13 (a := 11) (by decide); have := lv_neT hc14 (a := 12) (by decide); have := lv_neT hc15 (a := 13) (by decide); have := lv_neT hc16 (a := 14) (by decide); have := lv_neT hc17 (a := 15) (by decide); have := lv_neT hc18 (a := 16) (by decide); have := lv_neT hc19 (a := 17) (by decide); have := lv_neT hc20 (a := 18) (by decide); have := lv_neT hc21 (a := 19) (by decide); have := lv_neT hc22 (a := 20) (by decide); have := lv_neT hc23 (a := 21) (by decide); have := lv_neT hc24 (a := 22) (by decide); have := lv_neT hc25 (a := 23) (by decide); have := lv_neT hc26 (a := 24) (by decide); have := lv_neT hc27 (a := 25) (by decide); have := lv_neT hc28 (a := 26) (by decide); have := lv_neT hc29 (a := 27) (by decide); have := lv_neT hc30 (a := 28) (by decide); have := lv_neT hc31 (a := 29) (by decide); have := lv_neT hc32 (a := 30) (by decide); have := lv_neT hc33 (a := 31) (by decide); have := lv_neT hc34 (a := 32) (by decide); omega) (by decide) ?_
                                                                      exact gx_weak (gx_le_k rfl (gx_le_k rfl (gx_le_k rfl (gx_le_k rfl gx_le_0)))) (bl_1238 hx C ⟨F, hnL⟩ X hk18 h)
def ml (xs : Nat → Int32) (L : Nat) : Option Unit := gx_loop (ml_18 xs L) 5000 (0, (fun _ _ => 0), nT0)
set_option maxRecDepth 20000 in
set_option maxHeartbeats 4000000 in
theorem bl {Γ : gx_T} {ι : Nat → ClassId} {a b : Nat → Nat} {b0 L : Nat} {xs : Nat → Int32} (hx : gx_std vwCl (gty ι) (gx_cl Γ) (gx_ty Γ)) (C : gx_ok Γ code RL gx_U 40) (F : gl_fin Γ b0 ∧ gx_nL Γ = 4) (X : gx_scr Γ b0 L xs) (h : ml xs L = some ()) : gx_G Γ 108 1478 16 [.ref b0, .ref (a 0), .ref (b 0), .null] [] (wX a ι (fun _ _ => 0) ++ wM b ι nT0) := by
  obtain ⟨F, hnL⟩ := F
  unfold ml at h
  refine gx_iconst0 C dL_law_16 ?_
  refine gx_istore_3 C dL_law_17 (by rw [hnL]; decide) trivial ?_
  refine gx_weak (gx_le_k rfl (gx_le_k rfl (gx_le_k rfl (gx_le_k rfl gx_le_0)))) (gi_loop (P := fun t => gx_G Γ 108 1478 18 [.ref b0, .ref (a 0), .ref (b 0), .int t.1] [] (wX a ι t.2.1 ++ wM b ι t.2.2)) (fun kk t hk h => ?_) 5000 _ h)
  obtain ⟨x39, S9, T9⟩ := t
  exact bl_18 hx C ⟨F, hnL⟩ X (k18 := kk) (fun x38 S8 T8 h => hk (x38, S8, T8) h) h

def gx_U : List Cond := lw_tbl.filter goodWord
theorem gx_mu {w : Cond} (h : w ∈ lw_tbl) (hg : goodWord w = true) : w ∈ gx_U := List.mem_filter.mpr ⟨h, hg⟩
theorem gx_t_p {w : Cond} (h : w ∈ k2_sels lw_privs) : w ∈ lw_tbl := List.mem_append_left _ h
theorem gx_t_1 {w : Cond} (h : w ∈ tables_1_1) : w ∈ lw_tbl := List.mem_append_right _ (List.mem_append_left _ h)
theorem gx_t_2 {w : Cond} (h : w ∈ tables_1_2) : w ∈ lw_tbl := List.mem_append_right _ (List.mem_append_right _ (List.mem_append_left _ h))
theorem gx_t_3 {w : Cond} (h : w ∈ tables_1_3) : w ∈ lw_tbl := List.mem_append_right _ (List.mem_append_right _ (List.mem_append_right _ (h)))
theorem gx_uu : gx_sub gx_U gx_U := fun w hw => ⟨hw, good_of_word (List.mem_filter.mp hw).2⟩
def gty (ι : Nat → ClassId) : List (ClassId × FieldType) := [(ι 0, .int), (ι 1, .boolean), (ι 2, .char), (ι 3, .int), (ι 4, (.array .int)), (ι 5, (.object "ShopsAsOne$Text"))]
theorem iu_X0 : ∀ w ∈ u_ws RX0 TX0 13, w ∈ gx_U := by
  intro w hw
  obtain ⟨k, hk, rfl⟩ := List.mem_map.mp hw
  have hk := List.mem_range.mp hk
  match k, hk with
  | 0, _ => exact gx_mu (gx_t_1 (List.mem_of_getElem? (i := 139) rfl)) rfl
  | 1, _ => exact gx_mu (gx_t_1 (List.mem_of_getElem? (i := 141) rfl)) rfl
  | 2, _ => exact gx_mu (gx_t_1 (List.mem_of_getElem? (i := 143) rfl)) rfl
  | 3, _ => exact gx_mu (gx_t_1 (List.mem_of_getElem? (i := 145) rfl)) rfl
  | 4, _ => exact gx_mu (gx_t_1 (List.mem_of_getElem? (i := 147) rfl)) rfl
  | 5, _ => exact gx_mu (gx_t_1 (List.mem_of_getElem? (i := 149) rfl)) rfl
  | 6, _ => exact gx_mu (gx_t_1 (List.mem_of_getElem? (i := 151) rfl)) rfl
  | 7, _ => exact gx_mu (gx_t_1 (List.mem_of_getElem? (i := 153) rfl)) rfl
  | 8, _ => exact gx_mu (gx_t_1 (List.mem_of_getElem? (i := 155) rfl)) rfl
  | 9, _ => exact gx_mu (gx_t_1 (List.mem_of_getElem? (i := 157) rfl)) rfl
  | 10, _ => exact gx_mu (gx_t_1 (List.mem_of_getElem? (i := 159) rfl)) rfl
  | 11, _ => exact gx_mu (gx_t_1 (List.mem_of_getElem? (i := 161) rfl)) rfl
  | 12, _ => exact gx_mu (gx_t_1 (List.mem_of_getElem? (i := 163) rfl)) rfl
  | k + 13, hk => exact absurd hk (by omega)
theorem cls_X0 {ι : Nat → ClassId} {cl : List vw_C} {tys : List (ClassId × FieldType)} (hx : gx_std vwCl (gty ι) cl tys) : gx_cls cl 0 RX0 TX0 13 tyX0 := ⟨by rw [hx.1]; rfl, tyX0_ok, nmX0⟩
theorem iu_X1 : ∀ w ∈ u_ws RX1 TX1 3, w ∈ gx_U := by
  intro w hw
  obtain ⟨k, hk, rfl⟩ := List.mem_map.mp hw
  have hk := List.mem_range.mp hk
  match k, hk with
  | 0, _ => exact gx_mu (gx_t_1 (List.mem_of_getElem? (i := 211) rfl)) rfl
  | 1, _ => exact gx_mu (gx_t_1 (List.mem_of_getElem? (i := 213) rfl)) rfl
  | 2, _ => exact gx_mu (gx_t_1 (List.mem_of_getElem? (i := 215) rfl)) rfl
  | k + 3, hk => exact absurd hk (by omega)
theorem cls_X1 {ι : Nat → ClassId} {cl : List vw_C} {tys : List (ClassId × FieldType)} (hx : gx_std vwCl (gty ι) cl tys) : gx_cls cl 1 RX1 TX1 3 tyX1 := ⟨by rw [hx.1]; rfl, tyX1_ok, nmX1⟩
theorem iu_X2 : ∀ w ∈ u_ws RX2 TX2 5, w ∈ gx_U := by
  intro w hw
  obtain ⟨k, hk, rfl⟩ := List.mem_map.mp hw
  have hk := List.mem_range.mp hk
  match k, hk with
  | 0, _ => exact gx_mu (gx_t_1 (List.mem_of_getElem? (i := 179) rfl)) rfl
  | 1, _ => exact gx_mu (gx_t_1 (List.mem_of_getElem? (i := 181) rfl)) rfl
  | 2, _ => exact gx_mu (gx_t_1 (List.mem_of_getElem? (i := 183) rfl)) rfl
  | 3, _ => exact gx_mu (gx_t_1 (List.mem_of_getElem? (i := 185) rfl)) rfl
  | 4, _ => exact gx_mu (gx_t_1 (List.mem_of_getElem? (i := 187) rfl)) rfl
  | k + 5, hk => exact absurd hk (by omega)
theorem cls_X2 {ι : Nat → ClassId} {cl : List vw_C} {tys : List (ClassId × FieldType)} (hx : gx_std vwCl (gty ι) cl tys) : gx_cls cl 2 RX2 TX2 5 tyX2 := ⟨by rw [hx.1]; rfl, tyX2_ok, nmX2⟩
theorem iu_X3 : ∀ w ∈ u_ws RX3 TX3 10, w ∈ gx_U := by
  intro w hw
  obtain ⟨k, hk, rfl⟩ := List.mem_map.mp hw
  have hk := List.mem_range.mp hk
  match k, hk with
  | 0, _ => exact gx_mu (gx_t_1 (List.mem_of_getElem? (i := 229) rfl)) rfl
  | 1, _ => exact gx_mu (gx_t_1 (List.mem_of_getElem? (i := 231) rfl)) rfl
  | 2, _ => exact gx_mu (gx_t_1 (List.mem_of_getElem? (i := 233) rfl)) rfl
  | 3, _ => exact gx_mu (gx_t_1 (List.mem_of_getElem? (i := 235) rfl)) rfl
  | 4, _ => exact gx_mu (gx_t_1 (List.mem_of_getElem? (i := 237) rfl)) rfl
  | 5, _ => exact gx_mu (gx_t_1 (List.mem_of_getElem? (i := 239) rfl)) rfl
  | 6, _ => exact gx_mu (gx_t_2 (List.mem_of_getElem? (i := 1) rfl)) rfl
  | 7, _ => exact gx_mu (gx_t_2 (List.mem_of_getElem? (i := 3) rfl)) rfl
  | 8, _ => exact gx_mu (gx_t_2 (List.mem_of_getElem? (i := 5) rfl)) rfl
  | 9, _ => exact gx_mu (gx_t_2 (List.mem_of_getElem? (i := 7) rfl)) rfl
  | k + 10, hk => exact absurd hk (by omega)
theorem cls_X3 {ι : Nat → ClassId} {cl : List vw_C} {tys : List (ClassId × FieldType)} (hx : gx_std vwCl (gty ι) cl tys) : gx_cls cl 3 RX3 TX3 10 tyX3 := ⟨by rw [hx.1]; rfl, tyX3_ok, nmX3⟩
theorem iu_X4 : ∀ w ∈ u_ws RX4 TX4 4, w ∈ gx_U := by
  intro w hw
  obtain ⟨k, hk, rfl⟩ := List.mem_map.mp hw
  have hk := List.mem_range.mp hk
  match k, hk with
  | 0, _ => exact gx_mu (gx_t_1 (List.mem_of_getElem? (i := 107) rfl)) rfl
  | 1, _ => exact gx_mu (gx_t_1 (List.mem_of_getElem? (i := 109) rfl)) rfl
  | 2, _ => exact gx_mu (gx_t_1 (List.mem_of_getElem? (i := 111) rfl)) rfl
  | 3, _ => exact gx_mu (gx_t_1 (List.mem_of_getElem? (i := 113) rfl)) rfl
  | k + 4, hk => exact absurd hk (by omega)
theorem cls_X4 {ι : Nat → ClassId} {cl : List vw_C} {tys : List (ClassId × FieldType)} (hx : gx_std vwCl (gty ι) cl tys) : gx_cls cl 4 RX4 TX4 4 tyX4 := ⟨by rw [hx.1]; rfl, tyX4_ok, nmX4⟩
theorem iu_X5 : ∀ w ∈ u_ws RX5 TX5 14, w ∈ gx_U := by
  intro w hw
  obtain ⟨k, hk, rfl⟩ := List.mem_map.mp hw
  have hk := List.mem_range.mp hk
  match k, hk with
  | 0, _ => exact gx_mu (gx_t_1 (List.mem_of_getElem? (i := 62) rfl)) rfl
  | 1, _ => exact gx_mu (gx_t_1 (List.mem_of_getElem? (i := 64) rfl)) rfl
  | 2, _ => exact gx_mu (gx_t_1 (List.mem_of_getElem? (i := 66) rfl)) rfl
  | 3, _ => exact gx_mu (gx_t_1 (List.mem_of_getElem? (i := 68) rfl)) rfl
  | 4, _ => exact gx_mu (gx_t_1 (List.mem_of_getElem? (i := 70) rfl)) rfl
  | 5, _ => exact gx_mu (gx_t_1 (List.mem_of_getElem? (i := 72) rfl)) rfl
  | 6, _ => exact gx_mu (gx_t_1 (List.mem_of_getElem? (i := 74) rfl)) rfl
  | 7, _ => exact gx_mu (gx_t_1 (List.mem_of_getElem? (i := 76) rfl)) rfl
  | 8, _ => exact gx_mu (gx_t_1 (List.mem_of_getElem? (i := 78) rfl)) rfl
  | 9, _ => exact gx_mu (gx_t_1 (List.mem_of_getElem? (i := 80) rfl)) rfl
  | 10, _ => exact gx_mu (gx_t_1 (List.mem_of_getElem? (i := 82) rfl)) rfl
  | 11, _ => exact gx_mu (gx_t_1 (List.mem_of_getElem? (i := 84) rfl)) rfl
  | 12, _ => exact gx_mu (gx_t_1 (List.mem_of_getElem? (i := 86) rfl)) rfl
  | 13, _ => exact gx_mu (gx_t_1 (List.mem_of_getElem? (i := 88) rfl)) rfl
  | k + 14, hk => exact absurd hk (by omega)
theorem cls_X5 {ι : Nat → ClassId} {cl : List vw_C} {tys : List (ClassId × FieldType)} (hx : gx_std vwCl (gty ι) cl tys) : gx_cls cl 5 RX5 TX5 14 tyX5 := ⟨by rw [hx.1]; rfl, tyX5_ok, nmX5⟩
theorem iu_X6 : ∀ w ∈ u_ws RX6 TX6 2, w ∈ gx_U := by
  intro w hw
  obtain ⟨k, hk, rfl⟩ := List.mem_map.mp hw
  have hk := List.mem_range.mp hk
  match k, hk with
  | 0, _ => exact gx_mu (gx_t_1 (List.mem_of_getElem? (i := 198) rfl)) rfl
  | 1, _ => exact gx_mu (gx_t_1 (List.mem_of_getElem? (i := 200) rfl)) rfl
  | k + 2, hk => exact absurd hk (by omega)
theorem cls_X6 {ι : Nat → ClassId} {cl : List vw_C} {tys : List (ClassId × FieldType)} (hx : gx_std vwCl (gty ι) cl tys) : gx_cls cl 6 RX6 TX6 2 tyX6 := ⟨by rw [hx.1]; rfl, tyX6_ok, nmX6⟩
theorem iu_X7 : ∀ w ∈ u_ws RX7 TX7 15, w ∈ gx_U := by
  intro w hw
  obtain ⟨k, hk, rfl⟩ := List.mem_map.mp hw
  have hk := List.mem_range.mp hk
  match k, hk with
  | 0, _ => exact gx_mu (gx_t_2 (List.mem_of_getElem? (i := 22) rfl)) rfl
  | 1, _ => exact gx_mu (gx_t_2 (List.mem_of_getElem? (i := 24) rfl)) rfl
  | 2, _ => exact gx_mu (gx_t_2 (List.mem_of_getElem? (i := 26) rfl)) rfl
  | 3, _ => exact gx_mu (gx_t_2 (List.mem_of_getElem? (i := 28) rfl)) rfl
  | 4, _ => exact gx_mu (gx_t_2 (List.mem_of_getElem? (i := 30) rfl)) rfl
  | 5, _ => exact gx_mu (gx_t_2 (List.mem_of_getElem? (i := 32) rfl)) rfl
  | 6, _ => exact gx_mu (gx_t_2 (List.mem_of_getElem? (i := 34) rfl)) rfl
  | 7, _ => exact gx_mu (gx_t_2 (List.mem_of_getElem? (i := 36) rfl)) rfl
  | 8, _ => exact gx_mu (gx_t_2 (List.mem_of_getElem? (i := 38) rfl)) rfl
  | 9, _ => exact gx_mu (gx_t_2 (List.mem_of_getElem? (i := 40) rfl)) rfl
  | 10, _ => exact gx_mu (gx_t_2 (List.mem_of_getElem? (i := 42) rfl)) rfl
  | 11, _ => exact gx_mu (gx_t_2 (List.mem_of_getElem? (i := 44) rfl)) rfl
  | 12, _ => exact gx_mu (gx_t_2 (List.mem_of_getElem? (i := 46) rfl)) rfl
  | 13, _ => exact gx_mu (gx_t_2 (List.mem_of_getElem? (i := 48) rfl)) rfl
  | 14, _ => exact gx_mu (gx_t_2 (List.mem_of_getElem? (i := 50) rfl)) rfl
  | k + 15, hk => exact absurd hk (by omega)
theorem cls_X7 {ι : Nat → ClassId} {cl : List vw_C} {tys : List (ClassId × FieldType)} (hx : gx_std vwCl (gty ι) cl tys) : gx_cls cl 7 RX7 TX7 15 tyX7 := ⟨by rw [hx.1]; rfl, tyX7_ok, nmX7⟩
theorem fl_X5_9 : gx_fl gx_U RX5 9 RX5 TX5 14 3 := ⟨iu_X5, by decide, gx_mu (gx_t_1 (List.mem_of_getElem? (i := 38) rfl)) rfl, rfl⟩
theorem fl_X5_21 : gx_fl gx_U RX5 21 RX5 TX5 14 6 := ⟨iu_X5, by decide, gx_mu (gx_t_1 (List.mem_of_getElem? (i := 46) rfl)) rfl, rfl⟩
theorem fl_X5_15 : gx_fl gx_U RX5 15 RX5 TX5 14 4 := ⟨iu_X5, by decide, gx_mu (gx_t_1 (List.mem_of_getElem? (i := 42) rfl)) rfl, rfl⟩
theorem wt_Math_max : Cond.static Lib.Math.max.name ∈ gx_U := gx_mu (gx_t_2 (List.mem_of_getElem? (i := 125) rfl)) rfl
theorem wi_Math : Cond.initialized "java/lang/Math" ∈ gx_U := gx_mu (gx_t_1 (List.mem_of_getElem? (i := 10) rfl)) rfl
theorem wc_Math_max : Cond.code Lib.Math.max.name Lib.Math.max.code 2 (some .int) ∈ gx_U := gx_mu (gx_t_2 (List.mem_of_getElem? (i := 126) rfl)) rfl
theorem lk_X5_67 : gx_lkmax gx_U RX5 67 := ⟨gx_mu (gx_t_2 (List.mem_of_getElem? (i := 124) rfl)) rfl, wt_Math_max, wi_Math, wc_Math_max⟩
theorem fl_X0_59 : gx_fl gx_U RX0 59 RX0 TX0 13 5 := ⟨iu_X0, by decide, gx_mu (gx_t_1 (List.mem_of_getElem? (i := 129) rfl)) rfl, rfl⟩
theorem fl_X0_41 : gx_fl gx_U RX0 41 RX0 TX0 13 0 := ⟨iu_X0, by decide, gx_mu (gx_t_1 (List.mem_of_getElem? (i := 124) rfl)) rfl, rfl⟩
theorem fl_X0_102 : gx_fl gx_U RX0 102 RX5 TX5 14 1 := ⟨iu_X5, by decide, gx_mu (gx_t_1 (List.mem_of_getElem? (i := 32) rfl)) rfl, rfl⟩
theorem fl_X0_105 : gx_fl gx_U RX0 105 RX4 TX4 4 2 := ⟨iu_X4, by decide, gx_mu (gx_t_1 (List.mem_of_getElem? (i := 104) rfl)) rfl, rfl⟩
theorem fl_X0_9 : gx_fl gx_U RX0 9 RX0 TX0 13 1 := ⟨iu_X0, by decide, gx_mu (gx_t_1 (List.mem_of_getElem? (i := 125) rfl)) rfl, rfl⟩
theorem fl_X0_15 : gx_fl gx_U RX0 15 RX0 TX0 13 2 := ⟨iu_X0, by decide, gx_mu (gx_t_1 (List.mem_of_getElem? (i := 126) rfl)) rfl, rfl⟩
theorem wc_X5_costTo : Cond.code yX5_costTo cX5_costTo 3 ((Option.some Jvm.ClassFile.FieldType.int)) ∈ gx_U := gx_mu (gx_t_2 (List.mem_of_getElem? (i := 123) rfl)) rfl
theorem wi_X5 : Cond.initialized RX5 ∈ gx_U := gx_mu (gx_t_1 (List.mem_of_getElem? (i := 2) rfl)) rfl
theorem wn_X5_costTo : Cond.instanceMethod yX5_costTo ∈ gx_U := gx_mu (gx_t_2 (List.mem_of_getElem? (i := 121) rfl)) rfl
theorem ws_X5_costTo : Cond.selects RX5 yX5_costTo yX5_costTo ∈ gx_U := gx_mu (gx_t_2 (List.mem_of_getElem? (i := 122) rfl)) rfl
theorem lk_X0_108 : gx_lk gx_U RX0 108 RX5 yX5_costTo cX5_costTo 3 ((Option.some Jvm.ClassFile.FieldType.int)) 2 := ⟨gx_mu (gx_t_2 (List.mem_of_getElem? (i := 139) rfl)) rfl, wn_X5_costTo, ws_X5_costTo, wi_X5, wc_X5_costTo, rfl, by decide +kernel, by decide +kernel, by decide +kernel⟩
theorem fl_X0_21 : gx_fl gx_U RX0 21 RX0 TX0 13 4 := ⟨iu_X0, by decide, gx_mu (gx_t_1 (List.mem_of_getElem? (i := 128) rfl)) rfl, rfl⟩
theorem fl_X0_62 : gx_fl gx_U RX0 62 RX4 TX4 4 1 := ⟨iu_X4, by decide, gx_mu (gx_t_1 (List.mem_of_getElem? (i := 100) rfl)) rfl, rfl⟩
theorem fl_X4_9 : gx_fl gx_U RX4 9 RX4 TX4 4 1 := ⟨iu_X4, by decide, gx_mu (gx_t_1 (List.mem_of_getElem? (i := 99) rfl)) rfl, rfl⟩
theorem fl_X4_22 : gx_fl gx_U RX4 22 RX4 TX4 4 0 := ⟨iu_X4, by decide, gx_mu (gx_t_1 (List.mem_of_getElem? (i := 98) rfl)) rfl, rfl⟩
theorem fl_X4_56 : gx_fl gx_U RX4 56 RX5 TX5 14 13 := ⟨iu_X5, by decide, gx_mu (gx_t_1 (List.mem_of_getElem? (i := 60) rfl)) rfl, rfl⟩
theorem fl_X4_15 : gx_fl gx_U RX4 15 RX4 TX4 4 2 := ⟨iu_X4, by decide, gx_mu (gx_t_1 (List.mem_of_getElem? (i := 102) rfl)) rfl, rfl⟩
theorem fl_X4_41 : gx_fl gx_U RX4 41 RX5 TX5 14 3 := ⟨iu_X5, by decide, gx_mu (gx_t_1 (List.mem_of_getElem? (i := 40) rfl)) rfl, rfl⟩
theorem fl_X4_18 : gx_fl gx_U RX4 18 RX4 TX4 4 3 := ⟨iu_X4, by decide, gx_mu (gx_t_1 (List.mem_of_getElem? (i := 105) rfl)) rfl, rfl⟩
theorem fl_X4_60 : gx_fl gx_U RX4 60 RX5 TX5 14 10 := ⟨iu_X5, by decide, gx_mu (gx_t_1 (List.mem_of_getElem? (i := 56) rfl)) rfl, rfl⟩
theorem fl_X4_26 : gx_fl gx_U RX4 26 RX5 TX5 14 1 := ⟨iu_X5, by decide, gx_mu (gx_t_1 (List.mem_of_getElem? (i := 31) rfl)) rfl, rfl⟩
theorem wc_X4_whatIs : Cond.code yX4_whatIs cX4_whatIs 3 ((Option.some Jvm.ClassFile.FieldType.int)) ∈ gx_U := gx_mu (gx_t_2 (List.mem_of_getElem? (i := 79) rfl)) rfl
theorem wi_X4 : Cond.initialized RX4 ∈ gx_U := gx_mu (gx_t_1 (List.mem_of_getElem? (i := 3) rfl)) rfl
theorem wn_X4_whatIs : Cond.instanceMethod yX4_whatIs ∈ gx_U := gx_mu (gx_t_2 (List.mem_of_getElem? (i := 77) rfl)) rfl
theorem ws_X4_whatIs : Cond.selects RX4 yX4_whatIs yX4_whatIs ∈ gx_U := gx_mu (gx_t_2 (List.mem_of_getElem? (i := 78) rfl)) rfl
theorem lk_X4_63 : gx_lk gx_U RX4 63 RX4 yX4_whatIs cX4_whatIs 3 ((Option.some Jvm.ClassFile.FieldType.int)) 2 := ⟨gx_mu (gx_t_2 (List.mem_of_getElem? (i := 76) rfl)) rfl, wn_X4_whatIs, ws_X4_whatIs, wi_X4, wc_X4_whatIs, rfl, by decide +kernel, by decide +kernel, by decide +kernel⟩
theorem wc_X4_isOpen : Cond.code yX4_isOpen cX4_isOpen 3 ((Option.some Jvm.ClassFile.FieldType.boolean)) ∈ gx_U := gx_mu (gx_t_2 (List.mem_of_getElem? (i := 67) rfl)) rfl
theorem wn_X4_isOpen : Cond.instanceMethod yX4_isOpen ∈ gx_U := gx_mu (gx_t_2 (List.mem_of_getElem? (i := 65) rfl)) rfl
theorem ws_X4_isOpen : Cond.selects RX4 yX4_isOpen yX4_isOpen ∈ gx_U := gx_mu (gx_t_2 (List.mem_of_getElem? (i := 66) rfl)) rfl
theorem lk_X4_44 : gx_lk gx_U RX4 44 RX4 yX4_isOpen cX4_isOpen 3 ((Option.some Jvm.ClassFile.FieldType.boolean)) 1 := ⟨gx_mu (gx_t_2 (List.mem_of_getElem? (i := 80) rfl)) rfl, wn_X4_isOpen, ws_X4_isOpen, wi_X4, wc_X4_isOpen, rfl, by decide +kernel, by decide +kernel, by decide +kernel⟩
theorem fl_X4_70 : gx_fl gx_U RX4 70 RX5 TX5 14 2 := ⟨iu_X5, by decide, gx_mu (gx_t_1 (List.mem_of_getElem? (i := 36) rfl)) rfl, rfl⟩
theorem wc_X4_choice : Cond.code yX4_choice cX4_choice 7 ((Option.some Jvm.ClassFile.FieldType.int)) ∈ gx_U := gx_mu (gx_t_2 (List.mem_of_getElem? (i := 75) rfl)) rfl
theorem wn_X4_choice : Cond.instanceMethod yX4_choice ∈ gx_U := gx_mu (gx_t_2 (List.mem_of_getElem? (i := 73) rfl)) rfl
theorem ws_X4_choice : Cond.selects RX4 yX4_choice yX4_choice ∈ gx_U := gx_mu (gx_t_2 (List.mem_of_getElem? (i := 74) rfl)) rfl
theorem lk_X4_67 : gx_lk gx_U RX4 67 RX4 yX4_choice cX4_choice 7 ((Option.some Jvm.ClassFile.FieldType.int)) 2 := ⟨gx_mu (gx_t_2 (List.mem_of_getElem? (i := 72) rfl)) rfl, wn_X4_choice, ws_X4_choice, wi_X4, wc_X4_choice, rfl, by decide +kernel, by decide +kernel, by decide +kernel⟩
theorem fl_X4_73 : gx_fl gx_U RX4 73 RX5 TX5 14 8 := ⟨iu_X5, by decide, gx_mu (gx_t_1 (List.mem_of_getElem? (i := 51) rfl)) rfl, rfl⟩
theorem lk_X4_76 : gx_lk gx_U RX4 76 RX5 yX5_costTo cX5_costTo 3 ((Option.some Jvm.ClassFile.FieldType.int)) 2 := ⟨gx_mu (gx_t_2 (List.mem_of_getElem? (i := 120) rfl)) rfl, wn_X5_costTo, ws_X5_costTo, wi_X5, wc_X5_costTo, rfl, by decide +kernel, by decide +kernel, by decide +kernel⟩
theorem fl_X0_112 : gx_fl gx_U RX0 112 RX5 TX5 14 2 := ⟨iu_X5, by decide, gx_mu (gx_t_1 (List.mem_of_getElem? (i := 35) rfl)) rfl, rfl⟩
theorem fl_X0_26 : gx_fl gx_U RX0 26 RX0 TX0 13 6 := ⟨iu_X0, by decide, gx_mu (gx_t_1 (List.mem_of_getElem? (i := 130) rfl)) rfl, rfl⟩
theorem fl_X0_115 : gx_fl gx_U RX0 115 RX5 TX5 14 10 := ⟨iu_X5, by decide, gx_mu (gx_t_1 (List.mem_of_getElem? (i := 55) rfl)) rfl, rfl⟩
theorem fl_X0_29 : gx_fl gx_U RX0 29 RX0 TX0 13 7 := ⟨iu_X0, by decide, gx_mu (gx_t_1 (List.mem_of_getElem? (i := 131) rfl)) rfl, rfl⟩
theorem fl_X0_32 : gx_fl gx_U RX0 32 RX0 TX0 13 8 := ⟨iu_X0, by decide, gx_mu (gx_t_1 (List.mem_of_getElem? (i := 132) rfl)) rfl, rfl⟩
theorem lk_X0_118 : gx_lk gx_U RX0 118 RX4 yX4_whatIs cX4_whatIs 3 ((Option.some Jvm.ClassFile.FieldType.int)) 2 := ⟨gx_mu (gx_t_2 (List.mem_of_getElem? (i := 146) rfl)) rfl, wn_X4_whatIs, ws_X4_whatIs, wi_X4, wc_X4_whatIs, rfl, by decide +kernel, by decide +kernel, by decide +kernel⟩
theorem lk_X0_121 : gx_lk gx_U RX0 121 RX4 yX4_isOpen cX4_isOpen 3 ((Option.some Jvm.ClassFile.FieldType.boolean)) 1 := ⟨gx_mu (gx_t_2 (List.mem_of_getElem? (i := 147) rfl)) rfl, wn_X4_isOpen, ws_X4_isOpen, wi_X4, wc_X4_isOpen, rfl, by decide +kernel, by decide +kernel, by decide +kernel⟩
theorem fl_X0_141 : gx_fl gx_U RX0 141 RX5 TX5 14 13 := ⟨iu_X5, by decide, gx_mu (gx_t_1 (List.mem_of_getElem? (i := 61) rfl)) rfl, rfl⟩
theorem fl_X0_18 : gx_fl gx_U RX0 18 RX0 TX0 13 3 := ⟨iu_X0, by decide, gx_mu (gx_t_1 (List.mem_of_getElem? (i := 127) rfl)) rfl, rfl⟩
theorem wc_X0_highestFor : Cond.code yX0_highestFor cX0_highestFor 5 ((Option.some Jvm.ClassFile.FieldType.int)) ∈ gx_U := gx_mu (gx_t_2 (List.mem_of_getElem? (i := 159) rfl)) rfl
theorem wi_X0 : Cond.initialized RX0 ∈ gx_U := gx_mu (gx_t_1 (List.mem_of_getElem? (i := 4) rfl)) rfl
theorem wn_X0_highestFor : Cond.instanceMethod yX0_highestFor ∈ gx_U := gx_mu (gx_t_2 (List.mem_of_getElem? (i := 158) rfl)) rfl
theorem ws_X0_highestFor : Cond.selects RX0 yX0_highestFor yX0_highestFor ∈ gx_U := gx_mu (gx_t_p (List.mem_of_getElem? (i := 7) rfl)) rfl
theorem lk_X0_138 : gx_lk gx_U RX0 138 RX0 yX0_highestFor cX0_highestFor 5 ((Option.some Jvm.ClassFile.FieldType.int)) 2 := ⟨gx_mu (gx_t_2 (List.mem_of_getElem? (i := 156) rfl)) rfl, wn_X0_highestFor, ws_X0_highestFor, wi_X0, wc_X0_highestFor, rfl, by decide +kernel, by decide +kernel, by decide +kernel⟩
theorem fl_X0_85 : gx_fl gx_U RX0 85 RX0 TX0 13 11 := ⟨iu_X0, by decide, gx_mu (gx_t_1 (List.mem_of_getElem? (i := 135) rfl)) rfl, rfl⟩
theorem wc_X0_putPrice : Cond.code yX0_putPrice cX0_putPrice 6 ((Option.none : Option Jvm.ClassFile.FieldType)) ∈ gx_U := gx_mu (gx_t_2 (List.mem_of_getElem? (i := 155) rfl)) rfl
theorem wn_X0_putPrice : Cond.instanceMethod yX0_putPrice ∈ gx_U := gx_mu (gx_t_2 (List.mem_of_getElem? (i := 154) rfl)) rfl
theorem ws_X0_putPrice : Cond.selects RX0 yX0_putPrice yX0_putPrice ∈ gx_U := gx_mu (gx_t_p (List.mem_of_getElem? (i := 6) rfl)) rfl
theorem lk_X0_125 : gx_lk gx_U RX0 125 RX0 yX0_putPrice cX0_putPrice 6 ((Option.none : Option Jvm.ClassFile.FieldType)) 2 := ⟨gx_mu (gx_t_2 (List.mem_of_getElem? (i := 152) rfl)) rfl, wn_X0_putPrice, ws_X0_putPrice, wi_X0, wc_X0_putPrice, rfl, by decide +kernel, by decide +kernel, by decide +kernel⟩
theorem fl_X0_129 : gx_fl gx_U RX0 129 RX5 TX5 14 8 := ⟨iu_X5, by decide, gx_mu (gx_t_1 (List.mem_of_getElem? (i := 50) rfl)) rfl, rfl⟩
theorem wc_X0_keepIfBetter : Cond.code yX0_keepIfBetter cX0_keepIfBetter 3 ((Option.none : Option Jvm.ClassFile.FieldType)) ∈ gx_U := gx_mu (gx_t_2 (List.mem_of_getElem? (i := 163) rfl)) rfl
theorem wn_X0_keepIfBetter : Cond.instanceMethod yX0_keepIfBetter ∈ gx_U := gx_mu (gx_t_2 (List.mem_of_getElem? (i := 162) rfl)) rfl
theorem ws_X0_keepIfBetter : Cond.selects RX0 yX0_keepIfBetter yX0_keepIfBetter ∈ gx_U := gx_mu (gx_t_p (List.mem_of_getElem? (i := 8) rfl)) rfl
theorem lk_X0_132 : gx_lk gx_U RX0 132 RX0 yX0_keepIfBetter cX0_keepIfBetter 3 ((Option.none : Option Jvm.ClassFile.FieldType)) 1 := ⟨gx_mu (gx_t_2 (List.mem_of_getElem? (i := 160) rfl)) rfl, wn_X0_keepIfBetter, ws_X0_keepIfBetter, wi_X0, wc_X0_keepIfBetter, rfl, by decide +kernel, by decide +kernel, by decide +kernel⟩
theorem fl_X0_35 : gx_fl gx_U RX0 35 RX0 TX0 13 9 := ⟨iu_X0, by decide, gx_mu (gx_t_1 (List.mem_of_getElem? (i := 133) rfl)) rfl, rfl⟩
theorem fl_X0_38 : gx_fl gx_U RX0 38 RX0 TX0 13 10 := ⟨iu_X0, by decide, gx_mu (gx_t_1 (List.mem_of_getElem? (i := 134) rfl)) rfl, rfl⟩
theorem wt_Math_min : Cond.static Lib.Math.min.name ∈ gx_U := gx_mu (gx_t_2 (List.mem_of_getElem? (i := 173) rfl)) rfl
theorem wc_Math_min : Cond.code Lib.Math.min.name Lib.Math.min.code 2 (some .int) ∈ gx_U := gx_mu (gx_t_2 (List.mem_of_getElem? (i := 174) rfl)) rfl
theorem lk_X0_144 : gx_lkmin gx_U RX0 144 := ⟨gx_mu (gx_t_2 (List.mem_of_getElem? (i := 172) rfl)) rfl, wt_Math_min, wi_Math, wc_Math_min⟩
theorem wc_X0_tryLastPrice : Cond.code yX0_tryLastPrice cX0_tryLastPrice 7 ((Option.none : Option Jvm.ClassFile.FieldType)) ∈ gx_U := gx_mu (gx_t_2 (List.mem_of_getElem? (i := 171) rfl)) rfl
theorem wn_X0_tryLastPrice : Cond.instanceMethod yX0_tryLastPrice ∈ gx_U := gx_mu (gx_t_2 (List.mem_of_getElem? (i := 170) rfl)) rfl
theorem ws_X0_tryLastPrice : Cond.selects RX0 yX0_tryLastPrice yX0_tryLastPrice ∈ gx_U := gx_mu (gx_t_p (List.mem_of_getElem? (i := 10) rfl)) rfl
theorem lk_X0_135 : gx_lk gx_U RX0 135 RX0 yX0_tryLastPrice cX0_tryLastPrice 7 ((Option.none : Option Jvm.ClassFile.FieldType)) 1 := ⟨gx_mu (gx_t_2 (List.mem_of_getElem? (i := 168) rfl)) rfl, wn_X0_tryLastPrice, ws_X0_tryLastPrice, wi_X0, wc_X0_tryLastPrice, rfl, by decide +kernel, by decide +kernel, by decide +kernel⟩
theorem wc_X0_tryPrices : Cond.code yX0_tryPrices cX0_tryPrices 3 ((Option.none : Option Jvm.ClassFile.FieldType)) ∈ gx_U := gx_mu (gx_t_2 (List.mem_of_getElem? (i := 167) rfl)) rfl
theorem wn_X0_tryPrices : Cond.instanceMethod yX0_tryPrices ∈ gx_U := gx_mu (gx_t_2 (List.mem_of_getElem? (i := 166) rfl)) rfl
theorem ws_X0_tryPrices : Cond.selects RX0 yX0_tryPrices yX0_tryPrices ∈ gx_U := gx_mu (gx_t_p (List.mem_of_getElem? (i := 9) rfl)) rfl
theorem lk_X0_95 : gx_lk gx_U RX0 95 RX0 yX0_tryPrices cX0_tryPrices 3 ((Option.none : Option Jvm.ClassFile.FieldType)) 1 := ⟨gx_mu (gx_t_2 (List.mem_of_getElem? (i := 164) rfl)) rfl, wn_X0_tryPrices, ws_X0_tryPrices, wi_X0, wc_X0_tryPrices, rfl, by decide +kernel, by decide +kernel, by decide +kernel⟩
theorem wc_X0_listShops : Cond.code yX0_listShops cX0_listShops 4 ((Option.none : Option Jvm.ClassFile.FieldType)) ∈ gx_U := gx_mu (gx_t_2 (List.mem_of_getElem? (i := 138) rfl)) rfl
theorem wn_X0_listShops : Cond.instanceMethod yX0_listShops ∈ gx_U := gx_mu (gx_t_2 (List.mem_of_getElem? (i := 137) rfl)) rfl
theorem ws_X0_listShops : Cond.selects RX0 yX0_listShops yX0_listShops ∈ gx_U := gx_mu (gx_t_p (List.mem_of_getElem? (i := 3) rfl)) rfl
theorem lk_X0_75 : gx_lk gx_U RX0 75 RX0 yX0_listShops cX0_listShops 4 ((Option.none : Option Jvm.ClassFile.FieldType)) 2 := ⟨gx_mu (gx_t_2 (List.mem_of_getElem? (i := 135) rfl)) rfl, wn_X0_listShops, ws_X0_listShops, wi_X0, wc_X0_listShops, rfl, by decide +kernel, by decide +kernel, by decide +kernel⟩
theorem fl_X0_78 : gx_fl gx_U RX0 78 RX5 TX5 14 3 := ⟨iu_X5, by decide, gx_mu (gx_t_1 (List.mem_of_getElem? (i := 39) rfl)) rfl, rfl⟩
theorem fl_X0_71 : gx_fl gx_U RX0 71 RX0 TX0 13 12 := ⟨iu_X0, by decide, gx_mu (gx_t_1 (List.mem_of_getElem? (i := 137) rfl)) rfl, rfl⟩
theorem wc_X4_profitOf : Cond.code yX4_profitOf cX4_profitOf 5 ((Option.some Jvm.ClassFile.FieldType.int)) ∈ gx_U := gx_mu (gx_t_2 (List.mem_of_getElem? (i := 119) rfl)) rfl
theorem wn_X4_profitOf : Cond.instanceMethod yX4_profitOf ∈ gx_U := gx_mu (gx_t_2 (List.mem_of_getElem? (i := 117) rfl)) rfl
theorem ws_X4_profitOf : Cond.selects RX4 yX4_profitOf yX4_profitOf ∈ gx_U := gx_mu (gx_t_2 (List.mem_of_getElem? (i := 118) rfl)) rfl
theorem lk_X0_81 : gx_lk gx_U RX0 81 RX4 yX4_profitOf cX4_profitOf 5 ((Option.some Jvm.ClassFile.FieldType.int)) 1 := ⟨gx_mu (gx_t_2 (List.mem_of_getElem? (i := 140) rfl)) rfl, wn_X4_profitOf, ws_X4_profitOf, wi_X4, wc_X4_profitOf, rfl, by decide +kernel, by decide +kernel, by decide +kernel⟩
theorem kX0_88 : Cond.constant RX0 88 (-1000000) ∈ gx_U := gx_mu (gx_t_2 (List.mem_of_getElem? (i := 141) rfl)) rfl
theorem wc_X0_layOthers : Cond.code yX0_layOthers cX0_layOthers 6 ((Option.none : Option Jvm.ClassFile.FieldType)) ∈ gx_U := gx_mu (gx_t_2 (List.mem_of_getElem? (i := 145) rfl)) rfl
theorem wn_X0_layOthers : Cond.instanceMethod yX0_layOthers ∈ gx_U := gx_mu (gx_t_2 (List.mem_of_getElem? (i := 144) rfl)) rfl
theorem ws_X0_layOthers : Cond.selects RX0 yX0_layOthers yX0_layOthers ∈ gx_U := gx_mu (gx_t_p (List.mem_of_getElem? (i := 4) rfl)) rfl
theorem lk_X0_89 : gx_lk gx_U RX0 89 RX0 yX0_layOthers cX0_layOthers 6 ((Option.none : Option Jvm.ClassFile.FieldType)) 2 := ⟨gx_mu (gx_t_2 (List.mem_of_getElem? (i := 142) rfl)) rfl, wn_X0_layOthers, ws_X0_layOthers, wi_X0, wc_X0_layOthers, rfl, by decide +kernel, by decide +kernel, by decide +kernel⟩
theorem wc_X0_tryOnePrice : Cond.code yX0_tryOnePrice cX0_tryOnePrice 4 ((Option.none : Option Jvm.ClassFile.FieldType)) ∈ gx_U := gx_mu (gx_t_2 (List.mem_of_getElem? (i := 151) rfl)) rfl
theorem wn_X0_tryOnePrice : Cond.instanceMethod yX0_tryOnePrice ∈ gx_U := gx_mu (gx_t_2 (List.mem_of_getElem? (i := 150) rfl)) rfl
theorem ws_X0_tryOnePrice : Cond.selects RX0 yX0_tryOnePrice yX0_tryOnePrice ∈ gx_U := gx_mu (gx_t_p (List.mem_of_getElem? (i := 5) rfl)) rfl
theorem lk_X0_92 : gx_lk gx_U RX0 92 RX0 yX0_tryOnePrice cX0_tryOnePrice 4 ((Option.none : Option Jvm.ClassFile.FieldType)) 0 := ⟨gx_mu (gx_t_2 (List.mem_of_getElem? (i := 148) rfl)) rfl, wn_X0_tryOnePrice, ws_X0_tryOnePrice, wi_X0, wc_X0_tryOnePrice, rfl, by decide +kernel, by decide +kernel, by decide +kernel⟩
theorem fl_X0_99 : gx_fl gx_U RX0 99 RX5 TX5 14 4 := ⟨iu_X5, by decide, gx_mu (gx_t_1 (List.mem_of_getElem? (i := 43) rfl)) rfl, rfl⟩
theorem fl_X0_67 : gx_fl gx_U RX0 67 RX4 TX4 4 3 := ⟨iu_X4, by decide, gx_mu (gx_t_1 (List.mem_of_getElem? (i := 106) rfl)) rfl, rfl⟩
theorem fl_X0_45 : gx_fl gx_U RX0 45 RX5 TX5 14 0 := ⟨iu_X5, by decide, gx_mu (gx_t_1 (List.mem_of_getElem? (i := 28) rfl)) rfl, rfl⟩
theorem wc_X0_look : Cond.code yX0_look cX0_look 4 ((Option.none : Option Jvm.ClassFile.FieldType)) ∈ gx_U := gx_mu (gx_t_2 (List.mem_of_getElem? (i := 134) rfl)) rfl
theorem wn_X0_look : Cond.instanceMethod yX0_look ∈ gx_U := gx_mu (gx_t_2 (List.mem_of_getElem? (i := 132) rfl)) rfl
theorem ws_X0_look : Cond.selects RX0 yX0_look yX0_look ∈ gx_U := gx_mu (gx_t_2 (List.mem_of_getElem? (i := 133) rfl)) rfl
theorem lk_X0_51 : gx_lk gx_U RX0 51 RX0 yX0_look cX0_look 4 ((Option.none : Option Jvm.ClassFile.FieldType)) 2 := ⟨gx_mu (gx_t_2 (List.mem_of_getElem? (i := 199) rfl)) rfl, wn_X0_look, ws_X0_look, wi_X0, wc_X0_look, rfl, by decide +kernel, by decide +kernel, by decide +kernel⟩
theorem wc_X0_take : Cond.code yX0_take cX0_take 5 ((Option.some Jvm.ClassFile.FieldType.int)) ∈ gx_U := gx_mu (gx_t_2 (List.mem_of_getElem? (i := 186) rfl)) rfl
theorem wn_X0_take : Cond.instanceMethod yX0_take ∈ gx_U := gx_mu (gx_t_2 (List.mem_of_getElem? (i := 184) rfl)) rfl
theorem ws_X0_take : Cond.selects RX0 yX0_take yX0_take ∈ gx_U := gx_mu (gx_t_2 (List.mem_of_getElem? (i := 185) rfl)) rfl
theorem lk_X0_55 : gx_lk gx_U RX0 55 RX0 yX0_take cX0_take 5 ((Option.some Jvm.ClassFile.FieldType.int)) 2 := ⟨gx_mu (gx_t_2 (List.mem_of_getElem? (i := 200) rfl)) rfl, wn_X0_take, ws_X0_take, wi_X0, wc_X0_take, rfl, by decide +kernel, by decide +kernel, by decide +kernel⟩
theorem kJ6_265 : Cond.constant RJ6 265 1431655765 ∈ gx_U := gx_mu (gx_t_3 (List.mem_of_getElem? (i := 15) rfl)) rfl
theorem kJ6_266 : Cond.constant RJ6 266 858993459 ∈ gx_U := gx_mu (gx_t_3 (List.mem_of_getElem? (i := 16) rfl)) rfl
theorem kJ6_267 : Cond.constant RJ6 267 252645135 ∈ gx_U := gx_mu (gx_t_3 (List.mem_of_getElem? (i := 17) rfl)) rfl
theorem wc_X4_setOf : Cond.code yX4_setOf cX4_setOf 4 ((Option.some Jvm.ClassFile.FieldType.int)) ∈ gx_U := gx_mu (gx_t_3 (List.mem_of_getElem? (i := 11) rfl)) rfl
theorem wn_X4_setOf : Cond.instanceMethod yX4_setOf ∈ gx_U := gx_mu (gx_t_3 (List.mem_of_getElem? (i := 9) rfl)) rfl
theorem ws_X4_setOf : Cond.selects RX4 yX4_setOf yX4_setOf ∈ gx_U := gx_mu (gx_t_3 (List.mem_of_getElem? (i := 10) rfl)) rfl
theorem lk_X4_32 : gx_lk gx_U RX4 32 RX4 yX4_setOf cX4_setOf 4 ((Option.some Jvm.ClassFile.FieldType.int)) 1 := ⟨gx_mu (gx_t_3 (List.mem_of_getElem? (i := 8) rfl)) rfl, wn_X4_setOf, ws_X4_setOf, wi_X4, wc_X4_setOf, rfl, by decide +kernel, by decide +kernel, by decide +kernel⟩
theorem wc_J6_bitCount_0f7a4 : Cond.code yJ6_bitCount_0f7a4 cJ6_bitCount_0f7a4 1 ((Option.some Jvm.ClassFile.FieldType.int)) ∈ gx_U := gx_mu (gx_t_3 (List.mem_of_getElem? (i := 14) rfl)) rfl
theorem wi_J6 : Cond.initialized RJ6 ∈ gx_U := gx_mu (gx_t_1 (List.mem_of_getElem? (i := 9) rfl)) rfl
theorem wt_J6_bitCount_0f7a4 : Cond.static yJ6_bitCount_0f7a4 ∈ gx_U := gx_mu (gx_t_3 (List.mem_of_getElem? (i := 13) rfl)) rfl
theorem lk_X4_36 : gx_lkS gx_U RX4 36 yJ6_bitCount_0f7a4 cJ6_bitCount_0f7a4 1 ((Option.some Jvm.ClassFile.FieldType.int)) 1 := ⟨gx_mu (gx_t_3 (List.mem_of_getElem? (i := 12) rfl)) rfl, wt_J6_bitCount_0f7a4, wi_J6, wc_J6_bitCount_0f7a4, by decide +kernel, by decide +kernel, by decide +kernel⟩
theorem fl_X5_47 : gx_fl gx_U RX5 47 RX5 TX5 14 0 := ⟨iu_X5, by decide, gx_mu (gx_t_1 (List.mem_of_getElem? (i := 27) rfl)) rfl, rfl⟩
theorem fl_X5_24 : gx_fl gx_U RX5 24 RX5 TX5 14 7 := ⟨iu_X5, by decide, gx_mu (gx_t_1 (List.mem_of_getElem? (i := 48) rfl)) rfl, rfl⟩
theorem fl_X5_18 : gx_fl gx_U RX5 18 RX5 TX5 14 5 := ⟨iu_X5, by decide, gx_mu (gx_t_1 (List.mem_of_getElem? (i := 44) rfl)) rfl, rfl⟩
theorem wt_Math_abs : Cond.static Lib.Math.abs.name ∈ gx_U := gx_mu (gx_t_3 (List.mem_of_getElem? (i := 27) rfl)) rfl
theorem wc_Math_abs : Cond.code Lib.Math.abs.name Lib.Math.abs.code 1 (some .int) ∈ gx_U := gx_mu (gx_t_3 (List.mem_of_getElem? (i := 28) rfl)) rfl
theorem lk_X5_61 : gx_lkabs gx_U RX5 61 := ⟨gx_mu (gx_t_3 (List.mem_of_getElem? (i := 26) rfl)) rfl, wt_Math_abs, wi_Math, wc_Math_abs⟩
theorem fl_X5_44 : gx_fl gx_U RX5 44 RX5 TX5 14 13 := ⟨iu_X5, by decide, gx_mu (gx_t_1 (List.mem_of_getElem? (i := 59) rfl)) rfl, rfl⟩
theorem fl_X5_30 : gx_fl gx_U RX5 30 RX5 TX5 14 9 := ⟨iu_X5, by decide, gx_mu (gx_t_1 (List.mem_of_getElem? (i := 53) rfl)) rfl, rfl⟩
theorem fl_X5_36 : gx_fl gx_U RX5 36 RX5 TX5 14 11 := ⟨iu_X5, by decide, gx_mu (gx_t_1 (List.mem_of_getElem? (i := 57) rfl)) rfl, rfl⟩
theorem fl_X5_39 : gx_fl gx_U RX5 39 RX5 TX5 14 12 := ⟨iu_X5, by decide, gx_mu (gx_t_1 (List.mem_of_getElem? (i := 58) rfl)) rfl, rfl⟩
theorem fl_X5_51 : gx_fl gx_U RX5 51 RX5 TX5 14 1 := ⟨iu_X5, by decide, gx_mu (gx_t_1 (List.mem_of_getElem? (i := 30) rfl)) rfl, rfl⟩
theorem fl_X5_54 : gx_fl gx_U RX5 54 RX5 TX5 14 2 := ⟨iu_X5, by decide, gx_mu (gx_t_1 (List.mem_of_getElem? (i := 34) rfl)) rfl, rfl⟩
theorem wc_X5_measure : Cond.code yX5_measure cX5_measure 4 ((Option.none : Option Jvm.ClassFile.FieldType)) ∈ gx_U := gx_mu (gx_t_3 (List.mem_of_getElem? (i := 25) rfl)) rfl
theorem wn_X5_measure : Cond.instanceMethod yX5_measure ∈ gx_U := gx_mu (gx_t_3 (List.mem_of_getElem? (i := 24) rfl)) rfl
theorem ws_X5_measure : Cond.selects RX5 yX5_measure yX5_measure ∈ gx_U := gx_mu (gx_t_p (List.mem_of_getElem? (i := 12) rfl)) rfl
theorem lk_X5_57 : gx_lk gx_U RX5 57 RX5 yX5_measure cX5_measure 4 ((Option.none : Option Jvm.ClassFile.FieldType)) 2 := ⟨gx_mu (gx_t_3 (List.mem_of_getElem? (i := 22) rfl)) rfl, wn_X5_measure, ws_X5_measure, wi_X5, wc_X5_measure, rfl, by decide +kernel, by decide +kernel, by decide +kernel⟩
theorem fl_X5_27 : gx_fl gx_U RX5 27 RX5 TX5 14 8 := ⟨iu_X5, by decide, gx_mu (gx_t_1 (List.mem_of_getElem? (i := 49) rfl)) rfl, rfl⟩
theorem fl_X5_33 : gx_fl gx_U RX5 33 RX5 TX5 14 10 := ⟨iu_X5, by decide, gx_mu (gx_t_1 (List.mem_of_getElem? (i := 54) rfl)) rfl, rfl⟩
theorem wc_X7_isNot : Cond.code yX7_isNot cX7_isNot 3 ((Option.some Jvm.ClassFile.FieldType.boolean)) ∈ gx_U := gx_mu (gx_t_2 (List.mem_of_getElem? (i := 63) rfl)) rfl
theorem wi_X7 : Cond.initialized RX7 ∈ gx_U := gx_mu (gx_t_1 (List.mem_of_getElem? (i := 1) rfl)) rfl
theorem wt_X7_isNot : Cond.static yX7_isNot ∈ gx_U := gx_mu (gx_t_2 (List.mem_of_getElem? (i := 62) rfl)) rfl
theorem lk_X7_72 : gx_lkS gx_U RX7 72 yX7_isNot cX7_isNot 3 ((Option.some Jvm.ClassFile.FieldType.boolean)) 3 := ⟨gx_mu (gx_t_2 (List.mem_of_getElem? (i := 61) rfl)) rfl, wt_X7_isNot, wi_X7, wc_X7_isNot, by decide +kernel, by decide +kernel, by decide +kernel⟩
theorem fl_X7_10 : gx_fl gx_U RX7 10 RX7 TX7 15 0 := ⟨iu_X7, by decide, gx_mu (gx_t_2 (List.mem_of_getElem? (i := 10) rfl)) rfl, rfl⟩
theorem wc_X5_addOwner : Cond.code yX5_addOwner cX5_addOwner 3 ((Option.some Jvm.ClassFile.FieldType.int)) ∈ gx_U := gx_mu (gx_t_2 (List.mem_of_getElem? (i := 239) rfl)) rfl
theorem wn_X5_addOwner : Cond.instanceMethod yX5_addOwner ∈ gx_U := gx_mu (gx_t_2 (List.mem_of_getElem? (i := 237) rfl)) rfl
theorem ws_X5_addOwner : Cond.selects RX5 yX5_addOwner yX5_addOwner ∈ gx_U := gx_mu (gx_t_2 (List.mem_of_getElem? (i := 238) rfl)) rfl
theorem lk_X7_76 : gx_lk gx_U RX7 76 RX5 yX5_addOwner cX5_addOwner 3 ((Option.some Jvm.ClassFile.FieldType.int)) 2 := ⟨gx_mu (gx_t_2 (List.mem_of_getElem? (i := 236) rfl)) rfl, wn_X5_addOwner, ws_X5_addOwner, wi_X5, wc_X5_addOwner, rfl, by decide +kernel, by decide +kernel, by decide +kernel⟩
theorem fl_X7_159 : gx_fl gx_U RX7 159 RX5 TX5 14 0 := ⟨iu_X5, by decide, gx_mu (gx_t_1 (List.mem_of_getElem? (i := 29) rfl)) rfl, rfl⟩
theorem wc_X7_isNoOwner : Cond.code yX7_isNoOwner cX7_isNoOwner 2 ((Option.some Jvm.ClassFile.FieldType.boolean)) ∈ gx_U := gx_mu (gx_t_2 (List.mem_of_getElem? (i := 114) rfl)) rfl
theorem wn_X7_isNoOwner : Cond.instanceMethod yX7_isNoOwner ∈ gx_U := gx_mu (gx_t_2 (List.mem_of_getElem? (i := 113) rfl)) rfl
theorem ws_X7_isNoOwner : Cond.selects RX7 yX7_isNoOwner yX7_isNoOwner ∈ gx_U := gx_mu (gx_t_p (List.mem_of_getElem? (i := 2) rfl)) rfl
theorem lk_X7_80 : gx_lk gx_U RX7 80 RX7 yX7_isNoOwner cX7_isNoOwner 2 ((Option.some Jvm.ClassFile.FieldType.boolean)) 1 := ⟨gx_mu (gx_t_2 (List.mem_of_getElem? (i := 111) rfl)) rfl, wn_X7_isNoOwner, ws_X7_isNoOwner, wi_X7, wc_X7_isNoOwner, rfl, by decide +kernel, by decide +kernel, by decide +kernel⟩
theorem fl_X7_21 : gx_fl gx_U RX7 21 RX7 TX7 15 1 := ⟨iu_X7, by decide, gx_mu (gx_t_2 (List.mem_of_getElem? (i := 11) rfl)) rfl, rfl⟩
theorem wc_X4_shopsOf : Cond.code yX4_shopsOf cX4_shopsOf 2 ((Option.some Jvm.ClassFile.FieldType.int)) ∈ gx_U := gx_mu (gx_t_3 (List.mem_of_getElem? (i := 7) rfl)) rfl
theorem wn_X4_shopsOf : Cond.instanceMethod yX4_shopsOf ∈ gx_U := gx_mu (gx_t_3 (List.mem_of_getElem? (i := 5) rfl)) rfl
theorem ws_X4_shopsOf : Cond.selects RX4 yX4_shopsOf yX4_shopsOf ∈ gx_U := gx_mu (gx_t_3 (List.mem_of_getElem? (i := 6) rfl)) rfl
theorem lk_X7_88 : gx_lk gx_U RX7 88 RX4 yX4_shopsOf cX4_shopsOf 2 ((Option.some Jvm.ClassFile.FieldType.int)) 1 := ⟨gx_mu (gx_t_3 (List.mem_of_getElem? (i := 4) rfl)) rfl, wn_X4_shopsOf, ws_X4_shopsOf, wi_X4, wc_X4_shopsOf, rfl, by decide +kernel, by decide +kernel, by decide +kernel⟩
theorem wc_X5_addShop : Cond.code yX5_addShop cX5_addShop 4 ((Option.some Jvm.ClassFile.FieldType.int)) ∈ gx_U := gx_mu (gx_t_3 (List.mem_of_getElem? (i := 21) rfl)) rfl
theorem wn_X5_addShop : Cond.instanceMethod yX5_addShop ∈ gx_U := gx_mu (gx_t_3 (List.mem_of_getElem? (i := 19) rfl)) rfl
theorem ws_X5_addShop : Cond.selects RX5 yX5_addShop yX5_addShop ∈ gx_U := gx_mu (gx_t_3 (List.mem_of_getElem? (i := 20) rfl)) rfl
theorem lk_X7_92 : gx_lk gx_U RX7 92 RX5 yX5_addShop cX5_addShop 4 ((Option.some Jvm.ClassFile.FieldType.int)) 2 := ⟨gx_mu (gx_t_3 (List.mem_of_getElem? (i := 18) rfl)) rfl, wn_X5_addShop, ws_X5_addShop, wi_X5, wc_X5_addShop, rfl, by decide +kernel, by decide +kernel, by decide +kernel⟩
theorem fl_X7_95 : gx_fl gx_U RX7 95 RX4 TX4 4 2 := ⟨iu_X4, by decide, gx_mu (gx_t_1 (List.mem_of_getElem? (i := 103) rfl)) rfl, rfl⟩
theorem fl_X7_98 : gx_fl gx_U RX7 98 RX4 TX4 4 1 := ⟨iu_X4, by decide, gx_mu (gx_t_1 (List.mem_of_getElem? (i := 101) rfl)) rfl, rfl⟩
theorem fl_X7_175 : gx_fl gx_U RX7 175 RX5 TX5 14 1 := ⟨iu_X5, by decide, gx_mu (gx_t_1 (List.mem_of_getElem? (i := 33) rfl)) rfl, rfl⟩
theorem wc_X7_isNoShop : Cond.code yX7_isNoShop cX7_isNoShop 2 ((Option.some Jvm.ClassFile.FieldType.boolean)) ∈ gx_U := gx_mu (gx_t_2 (List.mem_of_getElem? (i := 60) rfl)) rfl
theorem wn_X7_isNoShop : Cond.instanceMethod yX7_isNoShop ∈ gx_U := gx_mu (gx_t_2 (List.mem_of_getElem? (i := 59) rfl)) rfl
theorem ws_X7_isNoShop : Cond.selects RX7 yX7_isNoShop yX7_isNoShop ∈ gx_U := gx_mu (gx_t_p (List.mem_of_getElem? (i := 0) rfl)) rfl
theorem lk_X7_101 : gx_lk gx_U RX7 101 RX7 yX7_isNoShop cX7_isNoShop 2 ((Option.some Jvm.ClassFile.FieldType.boolean)) 1 := ⟨gx_mu (gx_t_2 (List.mem_of_getElem? (i := 57) rfl)) rfl, wn_X7_isNoShop, ws_X7_isNoShop, wi_X7, wc_X7_isNoShop, rfl, by decide +kernel, by decide +kernel, by decide +kernel⟩
theorem fl_X7_104 : gx_fl gx_U RX7 104 RX5 TX5 14 5 := ⟨iu_X5, by decide, gx_mu (gx_t_1 (List.mem_of_getElem? (i := 45) rfl)) rfl, rfl⟩
theorem fl_X7_107 : gx_fl gx_U RX7 107 RX5 TX5 14 6 := ⟨iu_X5, by decide, gx_mu (gx_t_1 (List.mem_of_getElem? (i := 47) rfl)) rfl, rfl⟩
theorem lk_X7_110 : gx_lk gx_U RX7 110 RX4 yX4_isOpen cX4_isOpen 3 ((Option.some Jvm.ClassFile.FieldType.boolean)) 1 := ⟨gx_mu (gx_t_2 (List.mem_of_getElem? (i := 64) rfl)) rfl, wn_X4_isOpen, ws_X4_isOpen, wi_X4, wc_X4_isOpen, rfl, by decide +kernel, by decide +kernel, by decide +kernel⟩
theorem wc_X4_soldBy : Cond.code yX4_soldBy cX4_soldBy 5 ((Option.some Jvm.ClassFile.FieldType.int)) ∈ gx_U := gx_mu (gx_t_2 (List.mem_of_getElem? (i := 71) rfl)) rfl
theorem wn_X4_soldBy : Cond.instanceMethod yX4_soldBy ∈ gx_U := gx_mu (gx_t_2 (List.mem_of_getElem? (i := 69) rfl)) rfl
theorem ws_X4_soldBy : Cond.selects RX4 yX4_soldBy yX4_soldBy ∈ gx_U := gx_mu (gx_t_2 (List.mem_of_getElem? (i := 70) rfl)) rfl
theorem lk_X7_113 : gx_lk gx_U RX7 113 RX4 yX4_soldBy cX4_soldBy 5 ((Option.some Jvm.ClassFile.FieldType.int)) 1 := ⟨gx_mu (gx_t_2 (List.mem_of_getElem? (i := 68) rfl)) rfl, wn_X4_soldBy, ws_X4_soldBy, wi_X4, wc_X4_soldBy, rfl, by decide +kernel, by decide +kernel, by decide +kernel⟩
theorem wc_X5_addSort : Cond.code yX5_addSort cX5_addSort 8 ((Option.some Jvm.ClassFile.FieldType.int)) ∈ gx_U := gx_mu (gx_t_3 (List.mem_of_getElem? (i := 39) rfl)) rfl
theorem wn_X5_addSort : Cond.instanceMethod yX5_addSort ∈ gx_U := gx_mu (gx_t_3 (List.mem_of_getElem? (i := 37) rfl)) rfl
theorem ws_X5_addSort : Cond.selects RX5 yX5_addSort yX5_addSort ∈ gx_U := gx_mu (gx_t_3 (List.mem_of_getElem? (i := 38) rfl)) rfl
theorem lk_X7_116 : gx_lk gx_U RX7 116 RX5 yX5_addSort cX5_addSort 8 ((Option.some Jvm.ClassFile.FieldType.int)) 6 := ⟨gx_mu (gx_t_3 (List.mem_of_getElem? (i := 36) rfl)) rfl, wn_X5_addSort, ws_X5_addSort, wi_X5, wc_X5_addSort, rfl, by decide +kernel, by decide +kernel, by decide +kernel⟩
theorem fl_X7_202 : gx_fl gx_U RX7 202 RX5 TX5 14 2 := ⟨iu_X5, by decide, gx_mu (gx_t_1 (List.mem_of_getElem? (i := 37) rfl)) rfl, rfl⟩
theorem wc_X7_isNoSort : Cond.code yX7_isNoSort cX7_isNoSort 2 ((Option.some Jvm.ClassFile.FieldType.boolean)) ∈ gx_U := gx_mu (gx_t_2 (List.mem_of_getElem? (i := 92) rfl)) rfl
theorem wn_X7_isNoSort : Cond.instanceMethod yX7_isNoSort ∈ gx_U := gx_mu (gx_t_2 (List.mem_of_getElem? (i := 91) rfl)) rfl
theorem ws_X7_isNoSort : Cond.selects RX7 yX7_isNoSort yX7_isNoSort ∈ gx_U := gx_mu (gx_t_p (List.mem_of_getElem? (i := 1) rfl)) rfl
theorem lk_X7_120 : gx_lk gx_U RX7 120 RX7 yX7_isNoSort cX7_isNoSort 2 ((Option.some Jvm.ClassFile.FieldType.boolean)) 1 := ⟨gx_mu (gx_t_2 (List.mem_of_getElem? (i := 89) rfl)) rfl, wn_X7_isNoSort, ws_X7_isNoSort, wi_X7, wc_X7_isNoSort, rfl, by decide +kernel, by decide +kernel, by decide +kernel⟩
theorem lk_X7_123 : gx_lk gx_U RX7 123 RX4 yX4_whatIs cX4_whatIs 3 ((Option.some Jvm.ClassFile.FieldType.int)) 2 := ⟨gx_mu (gx_t_2 (List.mem_of_getElem? (i := 93) rfl)) rfl, wn_X4_whatIs, ws_X4_whatIs, wi_X4, wc_X4_whatIs, rfl, by decide +kernel, by decide +kernel, by decide +kernel⟩
theorem lk_X7_126 : gx_lk gx_U RX7 126 RX4 yX4_choice cX4_choice 7 ((Option.some Jvm.ClassFile.FieldType.int)) 2 := ⟨gx_mu (gx_t_2 (List.mem_of_getElem? (i := 98) rfl)) rfl, wn_X4_choice, ws_X4_choice, wi_X4, wc_X4_choice, rfl, by decide +kernel, by decide +kernel, by decide +kernel⟩
theorem wc_X4_spareOf : Cond.code yX4_spareOf cX4_spareOf 3 ((Option.some Jvm.ClassFile.FieldType.int)) ∈ gx_U := gx_mu (gx_t_2 (List.mem_of_getElem? (i := 106) rfl)) rfl
theorem wn_X4_spareOf : Cond.instanceMethod yX4_spareOf ∈ gx_U := gx_mu (gx_t_2 (List.mem_of_getElem? (i := 104) rfl)) rfl
theorem ws_X4_spareOf : Cond.selects RX4 yX4_spareOf yX4_spareOf ∈ gx_U := gx_mu (gx_t_2 (List.mem_of_getElem? (i := 105) rfl)) rfl
theorem lk_X7_129 : gx_lk gx_U RX7 129 RX4 yX4_spareOf cX4_spareOf 3 ((Option.some Jvm.ClassFile.FieldType.int)) 1 := ⟨gx_mu (gx_t_2 (List.mem_of_getElem? (i := 103) rfl)) rfl, wn_X4_spareOf, ws_X4_spareOf, wi_X4, wc_X4_spareOf, rfl, by decide +kernel, by decide +kernel, by decide +kernel⟩
theorem kX7_132 : Cond.constant RX7 132 (-1000001) ∈ gx_U := gx_mu (gx_t_2 (List.mem_of_getElem? (i := 115) rfl)) rfl
theorem lk_X7_133 : gx_lk gx_U RX7 133 RX4 yX4_profitOf cX4_profitOf 5 ((Option.some Jvm.ClassFile.FieldType.int)) 1 := ⟨gx_mu (gx_t_2 (List.mem_of_getElem? (i := 116) rfl)) rfl, wn_X4_profitOf, ws_X4_profitOf, wi_X4, wc_X4_profitOf, rfl, by decide +kernel, by decide +kernel, by decide +kernel⟩
theorem fl_X7_34 : gx_fl gx_U RX7 34 RX7 TX7 15 4 := ⟨iu_X7, by decide, gx_mu (gx_t_2 (List.mem_of_getElem? (i := 14) rfl)) rfl, rfl⟩
theorem lk_X7_136 : gx_lk gx_U RX7 136 RX0 yX0_look cX0_look 4 ((Option.none : Option Jvm.ClassFile.FieldType)) 2 := ⟨gx_mu (gx_t_2 (List.mem_of_getElem? (i := 131) rfl)) rfl, wn_X0_look, ws_X0_look, wi_X0, wc_X0_look, rfl, by decide +kernel, by decide +kernel, by decide +kernel⟩
theorem wc_X0_priceOf : Cond.code yX0_priceOf cX0_priceOf 3 ((Option.some Jvm.ClassFile.FieldType.int)) ∈ gx_U := gx_mu (gx_t_2 (List.mem_of_getElem? (i := 178) rfl)) rfl
theorem wn_X0_priceOf : Cond.instanceMethod yX0_priceOf ∈ gx_U := gx_mu (gx_t_2 (List.mem_of_getElem? (i := 176) rfl)) rfl
theorem ws_X0_priceOf : Cond.selects RX0 yX0_priceOf yX0_priceOf ∈ gx_U := gx_mu (gx_t_2 (List.mem_of_getElem? (i := 177) rfl)) rfl
theorem lk_X7_140 : gx_lk gx_U RX7 140 RX0 yX0_priceOf cX0_priceOf 3 ((Option.some Jvm.ClassFile.FieldType.int)) 1 := ⟨gx_mu (gx_t_2 (List.mem_of_getElem? (i := 175) rfl)) rfl, wn_X0_priceOf, ws_X0_priceOf, wi_X0, wc_X0_priceOf, rfl, by decide +kernel, by decide +kernel, by decide +kernel⟩
theorem fl_X7_84 : gx_fl gx_U RX7 84 RX5 TX5 14 3 := ⟨iu_X5, by decide, gx_mu (gx_t_1 (List.mem_of_getElem? (i := 41) rfl)) rfl, rfl⟩
theorem fl_X7_143 : gx_fl gx_U RX7 143 RX0 TX0 13 12 := ⟨iu_X0, by decide, gx_mu (gx_t_1 (List.mem_of_getElem? (i := 138) rfl)) rfl, rfl⟩
theorem lk_X7_147 : gx_lk gx_U RX7 147 RX0 yX0_take cX0_take 5 ((Option.some Jvm.ClassFile.FieldType.int)) 2 := ⟨gx_mu (gx_t_2 (List.mem_of_getElem? (i := 183) rfl)) rfl, wn_X0_take, ws_X0_take, wi_X0, wc_X0_take, rfl, by decide +kernel, by decide +kernel, by decide +kernel⟩
theorem fl_X7_25 : gx_fl gx_U RX7 25 RX7 TX7 15 2 := ⟨iu_X7, by decide, gx_mu (gx_t_2 (List.mem_of_getElem? (i := 12) rfl)) rfl, rfl⟩
theorem wc_X4_become : Cond.code yX4_become cX4_become 3 ((Option.none : Option Jvm.ClassFile.FieldType)) ∈ gx_U := gx_mu (gx_t_2 (List.mem_of_getElem? (i := 194) rfl)) rfl
theorem wn_X4_become : Cond.instanceMethod yX4_become ∈ gx_U := gx_mu (gx_t_2 (List.mem_of_getElem? (i := 192) rfl)) rfl
theorem ws_X4_become : Cond.selects RX4 yX4_become yX4_become ∈ gx_U := gx_mu (gx_t_2 (List.mem_of_getElem? (i := 193) rfl)) rfl
theorem lk_X7_151 : gx_lk gx_U RX7 151 RX4 yX4_become cX4_become 3 ((Option.none : Option Jvm.ClassFile.FieldType)) 1 := ⟨gx_mu (gx_t_2 (List.mem_of_getElem? (i := 191) rfl)) rfl, wn_X4_become, ws_X4_become, wi_X4, wc_X4_become, rfl, by decide +kernel, by decide +kernel, by decide +kernel⟩
theorem wc_X0_settle : Cond.code yX0_settle cX0_settle 5 ((Option.some Jvm.ClassFile.FieldType.int)) ∈ gx_U := gx_mu (gx_t_2 (List.mem_of_getElem? (i := 198) rfl)) rfl
theorem wn_X0_settle : Cond.instanceMethod yX0_settle ∈ gx_U := gx_mu (gx_t_2 (List.mem_of_getElem? (i := 196) rfl)) rfl
theorem ws_X0_settle : Cond.selects RX0 yX0_settle yX0_settle ∈ gx_U := gx_mu (gx_t_2 (List.mem_of_getElem? (i := 197) rfl)) rfl
theorem lk_X7_155 : gx_lk gx_U RX7 155 RX0 yX0_settle cX0_settle 5 ((Option.some Jvm.ClassFile.FieldType.int)) 1 := ⟨gx_mu (gx_t_2 (List.mem_of_getElem? (i := 195) rfl)) rfl, wn_X0_settle, ws_X0_settle, wi_X0, wc_X0_settle, rfl, by decide +kernel, by decide +kernel, by decide +kernel⟩
theorem fl_X7_166 : gx_fl gx_U RX7 166 RX0 TX0 13 11 := ⟨iu_X0, by decide, gx_mu (gx_t_1 (List.mem_of_getElem? (i := 136) rfl)) rfl, rfl⟩
theorem wc_X7_gainOf : Cond.code yX7_gainOf cX7_gainOf 2 ((Option.some Jvm.ClassFile.FieldType.int)) ∈ gx_U := gx_mu (gx_t_2 (List.mem_of_getElem? (i := 208) rfl)) rfl
theorem wn_X7_gainOf : Cond.instanceMethod yX7_gainOf ∈ gx_U := gx_mu (gx_t_2 (List.mem_of_getElem? (i := 207) rfl)) rfl
theorem ws_X7_gainOf : Cond.selects RX7 yX7_gainOf yX7_gainOf ∈ gx_U := gx_mu (gx_t_p (List.mem_of_getElem? (i := 11) rfl)) rfl
theorem lk_X7_163 : gx_lk gx_U RX7 163 RX7 yX7_gainOf cX7_gainOf 2 ((Option.some Jvm.ClassFile.FieldType.int)) 1 := ⟨gx_mu (gx_t_2 (List.mem_of_getElem? (i := 205) rfl)) rfl, wn_X7_gainOf, ws_X7_gainOf, wi_X7, wc_X7_gainOf, rfl, by decide +kernel, by decide +kernel, by decide +kernel⟩
theorem fl_X7_205 : gx_fl gx_U RX7 205 RX5 TX5 14 8 := ⟨iu_X5, by decide, gx_mu (gx_t_1 (List.mem_of_getElem? (i := 52) rfl)) rfl, rfl⟩
theorem fl_X7_266 : gx_fl gx_U RX7 266 RX7 TX7 15 10 := ⟨iu_X7, by decide, gx_mu (gx_t_2 (List.mem_of_getElem? (i := 20) rfl)) rfl, rfl⟩
theorem fl_X7_50 : gx_fl gx_U RX7 50 RX7 TX7 15 6 := ⟨iu_X7, by decide, gx_mu (gx_t_2 (List.mem_of_getElem? (i := 16) rfl)) rfl, rfl⟩
theorem fl_X7_249 : gx_fl gx_U RX7 249 RX6 TX6 2 1 := ⟨iu_X6, by decide, gx_mu (gx_t_1 (List.mem_of_getElem? (i := 197) rfl)) rfl, rfl⟩
theorem fl_X7_285 : gx_fl gx_U RX7 285 RX7 TX7 15 11 := ⟨iu_X7, by decide, gx_mu (gx_t_2 (List.mem_of_getElem? (i := 21) rfl)) rfl, rfl⟩
theorem kL_7 : Cond.constant RL 7 2147483647 ∈ gx_U := gx_mu (gx_t_2 (List.mem_of_getElem? (i := 228) rfl)) rfl
theorem wc_L_cell : Cond.code yL_cell cL_cell 2 ((Option.some Jvm.ClassFile.FieldType.int)) ∈ gx_U := gx_mu (gx_t_2 (List.mem_of_getElem? (i := 227) rfl)) rfl
theorem wi_L : Cond.initialized RL ∈ gx_U := gx_mu (gx_t_1 (List.mem_of_getElem? (i := 0) rfl)) rfl
theorem wt_L_cell : Cond.static yL_cell ∈ gx_U := gx_mu (gx_t_2 (List.mem_of_getElem? (i := 226) rfl)) rfl
theorem lk_L_14 : gx_lkS gx_U RL 14 yL_cell cL_cell 2 ((Option.some Jvm.ClassFile.FieldType.int)) 2 := ⟨gx_mu (gx_t_2 (List.mem_of_getElem? (i := 225) rfl)) rfl, wt_L_cell, wi_L, wc_L_cell, by decide +kernel, by decide +kernel, by decide +kernel⟩
theorem wc_X7_owner : Cond.code yX7_owner cX7_owner 3 ((Option.some Jvm.ClassFile.FieldType.int)) ∈ gx_U := gx_mu (gx_t_2 (List.mem_of_getElem? (i := 235) rfl)) rfl
theorem wn_X7_owner : Cond.instanceMethod yX7_owner ∈ gx_U := gx_mu (gx_t_2 (List.mem_of_getElem? (i := 233) rfl)) rfl
theorem ws_X7_owner : Cond.selects RX7 yX7_owner yX7_owner ∈ gx_U := gx_mu (gx_t_2 (List.mem_of_getElem? (i := 234) rfl)) rfl
theorem lk_L_20 : gx_lk gx_U RL 20 RX7 yX7_owner cX7_owner 3 ((Option.some Jvm.ClassFile.FieldType.int)) 2 := ⟨gx_mu (gx_t_2 (List.mem_of_getElem? (i := 232) rfl)) rfl, wn_X7_owner, ws_X7_owner, wi_X7, wc_X7_owner, rfl, by decide +kernel, by decide +kernel, by decide +kernel⟩
theorem wc_X7_shop : Cond.code yX7_shop cX7_shop 6 ((Option.some Jvm.ClassFile.FieldType.int)) ∈ gx_U := gx_mu (gx_t_3 (List.mem_of_getElem? (i := 3) rfl)) rfl
theorem wn_X7_shop : Cond.instanceMethod yX7_shop ∈ gx_U := gx_mu (gx_t_3 (List.mem_of_getElem? (i := 1) rfl)) rfl
theorem ws_X7_shop : Cond.selects RX7 yX7_shop yX7_shop ∈ gx_U := gx_mu (gx_t_3 (List.mem_of_getElem? (i := 2) rfl)) rfl
theorem lk_L_24 : gx_lk gx_U RL 24 RX7 yX7_shop cX7_shop 6 ((Option.some Jvm.ClassFile.FieldType.int)) 4 := ⟨gx_mu (gx_t_3 (List.mem_of_getElem? (i := 0) rfl)) rfl, wn_X7_shop, ws_X7_shop, wi_X7, wc_X7_shop, rfl, by decide +kernel, by decide +kernel, by decide +kernel⟩
theorem kL_28 : Cond.constant RL 28 131072 ∈ gx_U := gx_mu (gx_t_3 (List.mem_of_getElem? (i := 29) rfl)) rfl
theorem kL_29 : Cond.constant RL 29 262144 ∈ gx_U := gx_mu (gx_t_3 (List.mem_of_getElem? (i := 30) rfl)) rfl
theorem kL_30 : Cond.constant RL 30 2097152 ∈ gx_U := gx_mu (gx_t_3 (List.mem_of_getElem? (i := 31) rfl)) rfl
theorem wc_X7_sort : Cond.code yX7_sort cX7_sort 7 ((Option.some Jvm.ClassFile.FieldType.int)) ∈ gx_U := gx_mu (gx_t_3 (List.mem_of_getElem? (i := 35) rfl)) rfl
theorem wn_X7_sort : Cond.instanceMethod yX7_sort ∈ gx_U := gx_mu (gx_t_3 (List.mem_of_getElem? (i := 33) rfl)) rfl
theorem ws_X7_sort : Cond.selects RX7 yX7_sort yX7_sort ∈ gx_U := gx_mu (gx_t_3 (List.mem_of_getElem? (i := 34) rfl)) rfl
theorem lk_L_31 : gx_lk gx_U RL 31 RX7 yX7_sort cX7_sort 7 ((Option.some Jvm.ClassFile.FieldType.int)) 6 := ⟨gx_mu (gx_t_3 (List.mem_of_getElem? (i := 32) rfl)) rfl, wn_X7_sort, ws_X7_sort, wi_X7, wc_X7_sort, rfl, by decide +kernel, by decide +kernel, by decide +kernel⟩
theorem wc_L_open : Cond.code yL_open cL_open 3 ((Option.some Jvm.ClassFile.FieldType.boolean)) ∈ gx_U := gx_mu (gx_t_3 (List.mem_of_getElem? (i := 42) rfl)) rfl
theorem wt_L_open : Cond.static yL_open ∈ gx_U := gx_mu (gx_t_3 (List.mem_of_getElem? (i := 41) rfl)) rfl
theorem lk_L_35 : gx_lkS gx_U RL 35 yL_open cL_open 3 ((Option.some Jvm.ClassFile.FieldType.boolean)) 2 := ⟨gx_mu (gx_t_3 (List.mem_of_getElem? (i := 40) rfl)) rfl, wt_L_open, wi_L, wc_L_open, by decide +kernel, by decide +kernel, by decide +kernel⟩
theorem wc_L_is : Cond.code yL_is cL_is 5 ((Option.some Jvm.ClassFile.FieldType.int)) ∈ gx_U := gx_mu (gx_t_3 (List.mem_of_getElem? (i := 45) rfl)) rfl
theorem wt_L_is : Cond.static yL_is ∈ gx_U := gx_mu (gx_t_3 (List.mem_of_getElem? (i := 44) rfl)) rfl
theorem lk_L_39 : gx_lkS gx_U RL 39 yL_is cL_is 5 ((Option.some Jvm.ClassFile.FieldType.int)) 4 := ⟨gx_mu (gx_t_3 (List.mem_of_getElem? (i := 43) rfl)) rfl, wt_L_is, wi_L, wc_L_is, by decide +kernel, by decide +kernel, by decide +kernel⟩
theorem wc_L_goes : Cond.code yL_goes cL_goes 7 ((Option.some Jvm.ClassFile.FieldType.int)) ∈ gx_U := gx_mu (gx_t_3 (List.mem_of_getElem? (i := 48) rfl)) rfl
theorem wt_L_goes : Cond.static yL_goes ∈ gx_U := gx_mu (gx_t_3 (List.mem_of_getElem? (i := 47) rfl)) rfl
theorem lk_L_43 : gx_lkS gx_U RL 43 yL_goes cL_goes 7 ((Option.some Jvm.ClassFile.FieldType.int)) 4 := ⟨gx_mu (gx_t_3 (List.mem_of_getElem? (i := 46) rfl)) rfl, wt_L_goes, wi_L, wc_L_goes, by decide +kernel, by decide +kernel, by decide +kernel⟩
theorem wc_L_sold : Cond.code yL_sold cL_sold 5 ((Option.some Jvm.ClassFile.FieldType.int)) ∈ gx_U := gx_mu (gx_t_3 (List.mem_of_getElem? (i := 54) rfl)) rfl
theorem wt_L_sold : Cond.static yL_sold ∈ gx_U := gx_mu (gx_t_3 (List.mem_of_getElem? (i := 53) rfl)) rfl
theorem lk_L_46 : gx_lkS gx_U RL 46 yL_sold cL_sold 5 ((Option.some Jvm.ClassFile.FieldType.int)) 3 := ⟨gx_mu (gx_t_3 (List.mem_of_getElem? (i := 52) rfl)) rfl, wt_L_sold, wi_L, wc_L_sold, by decide +kernel, by decide +kernel, by decide +kernel⟩
theorem kL_50 : Cond.constant RL 50 (-1000000) ∈ gx_U := gx_mu (gx_t_3 (List.mem_of_getElem? (i := 61) rfl)) rfl
theorem wc_L_profit : Cond.code yL_profit cL_profit 7 ((Option.some Jvm.ClassFile.FieldType.int)) ∈ gx_U := gx_mu (gx_t_3 (List.mem_of_getElem? (i := 57) rfl)) rfl
theorem wt_L_profit : Cond.static yL_profit ∈ gx_U := gx_mu (gx_t_3 (List.mem_of_getElem? (i := 56) rfl)) rfl
theorem lk_L_51 : gx_lkS gx_U RL 51 yL_profit cL_profit 7 ((Option.some Jvm.ClassFile.FieldType.int)) 3 := ⟨gx_mu (gx_t_3 (List.mem_of_getElem? (i := 55) rfl)) rfl, wt_L_profit, wi_L, wc_L_profit, by decide +kernel, by decide +kernel, by decide +kernel⟩
theorem wc_L_turn : Cond.code yL_turn cL_turn 15 ((Option.some Jvm.ClassFile.FieldType.int)) ∈ gx_U := gx_mu (gx_t_3 (List.mem_of_getElem? (i := 60) rfl)) rfl
theorem wt_L_turn : Cond.static yL_turn ∈ gx_U := gx_mu (gx_t_3 (List.mem_of_getElem? (i := 59) rfl)) rfl
theorem lk_L_54 : gx_lkS gx_U RL 54 yL_turn cL_turn 15 ((Option.some Jvm.ClassFile.FieldType.int)) 3 := ⟨gx_mu (gx_t_3 (List.mem_of_getElem? (i := 58) rfl)) rfl, wt_L_turn, wi_L, wc_L_turn, by decide +kernel, by decide +kernel, by decide +kernel⟩
theorem wc_L_tell : Cond.code yL_tell cL_tell 11 ((Option.some Jvm.ClassFile.FieldType.boolean)) ∈ gx_U := gx_mu (gx_t_2 (List.mem_of_getElem? (i := 231) rfl)) rfl
theorem wt_L_tell : Cond.static yL_tell ∈ gx_U := gx_mu (gx_t_2 (List.mem_of_getElem? (i := 230) rfl)) rfl
theorem lk_L_58 : gx_lkS gx_U RL 58 yL_tell cL_tell 11 ((Option.some Jvm.ClassFile.FieldType.boolean)) 4 := ⟨gx_mu (gx_t_2 (List.mem_of_getElem? (i := 229) rfl)) rfl, wt_L_tell, wi_L, wc_L_tell, by decide +kernel, by decide +kernel, by decide +kernel⟩
theorem wc_X7_about : Cond.code yX7_about cX7_about 3 ((Option.some Jvm.ClassFile.FieldType.int)) ∈ gx_U := gx_mu (gx_t_2 (List.mem_of_getElem? (i := 56) rfl)) rfl
theorem wn_X7_about : Cond.instanceMethod yX7_about ∈ gx_U := gx_mu (gx_t_2 (List.mem_of_getElem? (i := 54) rfl)) rfl
theorem ws_X7_about : Cond.selects RX7 yX7_about yX7_about ∈ gx_U := gx_mu (gx_t_2 (List.mem_of_getElem? (i := 55) rfl)) rfl
theorem lk_L_62 : gx_lk gx_U RL 62 RX7 yX7_about cX7_about 3 ((Option.some Jvm.ClassFile.FieldType.int)) 2 := ⟨gx_mu (gx_t_2 (List.mem_of_getElem? (i := 53) rfl)) rfl, wn_X7_about, ws_X7_about, wi_X7, wc_X7_about, rfl, by decide +kernel, by decide +kernel, by decide +kernel⟩
theorem wc_X7_is : Cond.code yX7_is cX7_is 3 ((Option.some Jvm.ClassFile.FieldType.int)) ∈ gx_U := gx_mu (gx_t_2 (List.mem_of_getElem? (i := 88) rfl)) rfl
theorem wn_X7_is : Cond.instanceMethod yX7_is ∈ gx_U := gx_mu (gx_t_2 (List.mem_of_getElem? (i := 86) rfl)) rfl
theorem ws_X7_is : Cond.selects RX7 yX7_is yX7_is ∈ gx_U := gx_mu (gx_t_2 (List.mem_of_getElem? (i := 87) rfl)) rfl
theorem lk_L_65 : gx_lk gx_U RL 65 RX7 yX7_is cX7_is 3 ((Option.some Jvm.ClassFile.FieldType.int)) 2 := ⟨gx_mu (gx_t_2 (List.mem_of_getElem? (i := 85) rfl)) rfl, wn_X7_is, ws_X7_is, wi_X7, wc_X7_is, rfl, by decide +kernel, by decide +kernel, by decide +kernel⟩
theorem wc_X7_instead : Cond.code yX7_instead cX7_instead 3 ((Option.some Jvm.ClassFile.FieldType.int)) ∈ gx_U := gx_mu (gx_t_2 (List.mem_of_getElem? (i := 216) rfl)) rfl
theorem wn_X7_instead : Cond.instanceMethod yX7_instead ∈ gx_U := gx_mu (gx_t_2 (List.mem_of_getElem? (i := 214) rfl)) rfl
theorem ws_X7_instead : Cond.selects RX7 yX7_instead yX7_instead ∈ gx_U := gx_mu (gx_t_2 (List.mem_of_getElem? (i := 215) rfl)) rfl
theorem lk_L_67 : gx_lk gx_U RL 67 RX7 yX7_instead cX7_instead 3 ((Option.some Jvm.ClassFile.FieldType.int)) 2 := ⟨gx_mu (gx_t_2 (List.mem_of_getElem? (i := 213) rfl)) rfl, wn_X7_instead, ws_X7_instead, wi_X7, wc_X7_instead, rfl, by decide +kernel, by decide +kernel, by decide +kernel⟩
theorem wc_X7_goes : Cond.code yX7_goes cX7_goes 2 ((Option.some Jvm.ClassFile.FieldType.int)) ∈ gx_U := gx_mu (gx_t_2 (List.mem_of_getElem? (i := 97) rfl)) rfl
theorem wn_X7_goes : Cond.instanceMethod yX7_goes ∈ gx_U := gx_mu (gx_t_2 (List.mem_of_getElem? (i := 95) rfl)) rfl
theorem ws_X7_goes : Cond.selects RX7 yX7_goes yX7_goes ∈ gx_U := gx_mu (gx_t_2 (List.mem_of_getElem? (i := 96) rfl)) rfl
theorem lk_L_70 : gx_lk gx_U RL 70 RX7 yX7_goes cX7_goes 2 ((Option.some Jvm.ClassFile.FieldType.int)) 1 := ⟨gx_mu (gx_t_2 (List.mem_of_getElem? (i := 94) rfl)) rfl, wn_X7_goes, ws_X7_goes, wi_X7, wc_X7_goes, rfl, by decide +kernel, by decide +kernel, by decide +kernel⟩
theorem wc_X7_spare : Cond.code yX7_spare cX7_spare 2 ((Option.some Jvm.ClassFile.FieldType.int)) ∈ gx_U := gx_mu (gx_t_2 (List.mem_of_getElem? (i := 102) rfl)) rfl
theorem wn_X7_spare : Cond.instanceMethod yX7_spare ∈ gx_U := gx_mu (gx_t_2 (List.mem_of_getElem? (i := 100) rfl)) rfl
theorem ws_X7_spare : Cond.selects RX7 yX7_spare yX7_spare ∈ gx_U := gx_mu (gx_t_2 (List.mem_of_getElem? (i := 101) rfl)) rfl
theorem lk_L_73 : gx_lk gx_U RL 73 RX7 yX7_spare cX7_spare 2 ((Option.some Jvm.ClassFile.FieldType.int)) 1 := ⟨gx_mu (gx_t_2 (List.mem_of_getElem? (i := 99) rfl)) rfl, wn_X7_spare, ws_X7_spare, wi_X7, wc_X7_spare, rfl, by decide +kernel, by decide +kernel, by decide +kernel⟩
theorem wc_L_spare : Cond.code yL_spare cL_spare 4 ((Option.some Jvm.ClassFile.FieldType.int)) ∈ gx_U := gx_mu (gx_t_3 (List.mem_of_getElem? (i := 51) rfl)) rfl
theorem wt_L_spare : Cond.static yL_spare ∈ gx_U := gx_mu (gx_t_3 (List.mem_of_getElem? (i := 50) rfl)) rfl
theorem lk_L_76 : gx_lkS gx_U RL 76 yL_spare cL_spare 4 ((Option.some Jvm.ClassFile.FieldType.int)) 3 := ⟨gx_mu (gx_t_3 (List.mem_of_getElem? (i := 49) rfl)) rfl, wt_L_spare, wi_L, wc_L_spare, by decide +kernel, by decide +kernel, by decide +kernel⟩
theorem wc_X7_count : Cond.code yX7_count cX7_count 2 ((Option.some Jvm.ClassFile.FieldType.int)) ∈ gx_U := gx_mu (gx_t_2 (List.mem_of_getElem? (i := 224) rfl)) rfl
theorem wn_X7_count : Cond.instanceMethod yX7_count ∈ gx_U := gx_mu (gx_t_2 (List.mem_of_getElem? (i := 222) rfl)) rfl
theorem ws_X7_count : Cond.selects RX7 yX7_count yX7_count ∈ gx_U := gx_mu (gx_t_2 (List.mem_of_getElem? (i := 223) rfl)) rfl
theorem lk_L_78 : gx_lk gx_U RL 78 RX7 yX7_count cX7_count 2 ((Option.some Jvm.ClassFile.FieldType.int)) 1 := ⟨gx_mu (gx_t_2 (List.mem_of_getElem? (i := 221) rfl)) rfl, wn_X7_count, ws_X7_count, wi_X7, wc_X7_count, rfl, by decide +kernel, by decide +kernel, by decide +kernel⟩
theorem wc_L_copy : Cond.code yL_copy cL_copy 3 ((Option.none : Option Jvm.ClassFile.FieldType)) ∈ gx_U := gx_mu (gx_t_3 (List.mem_of_getElem? (i := 67) rfl)) rfl
theorem wt_L_copy : Cond.static yL_copy ∈ gx_U := gx_mu (gx_t_3 (List.mem_of_getElem? (i := 66) rfl)) rfl
theorem lk_L_81 : gx_lkS gx_U RL 81 yL_copy cL_copy 3 ((Option.none : Option Jvm.ClassFile.FieldType)) 2 := ⟨gx_mu (gx_t_3 (List.mem_of_getElem? (i := 65) rfl)) rfl, wt_L_copy, wi_L, wc_L_copy, by decide +kernel, by decide +kernel, by decide +kernel⟩
theorem wc_X7_profit : Cond.code yX7_profit cX7_profit 2 ((Option.some Jvm.ClassFile.FieldType.int)) ∈ gx_U := gx_mu (gx_t_2 (List.mem_of_getElem? (i := 110) rfl)) rfl
theorem wn_X7_profit : Cond.instanceMethod yX7_profit ∈ gx_U := gx_mu (gx_t_2 (List.mem_of_getElem? (i := 108) rfl)) rfl
theorem ws_X7_profit : Cond.selects RX7 yX7_profit yX7_profit ∈ gx_U := gx_mu (gx_t_2 (List.mem_of_getElem? (i := 109) rfl)) rfl
theorem lk_L_85 : gx_lk gx_U RL 85 RX7 yX7_profit cX7_profit 2 ((Option.some Jvm.ClassFile.FieldType.int)) 1 := ⟨gx_mu (gx_t_2 (List.mem_of_getElem? (i := 107) rfl)) rfl, wn_X7_profit, ws_X7_profit, wi_X7, wc_X7_profit, rfl, by decide +kernel, by decide +kernel, by decide +kernel⟩
theorem wc_X7_gain : Cond.code yX7_gain cX7_gain 2 ((Option.some Jvm.ClassFile.FieldType.int)) ∈ gx_U := gx_mu (gx_t_2 (List.mem_of_getElem? (i := 212) rfl)) rfl
theorem wn_X7_gain : Cond.instanceMethod yX7_gain ∈ gx_U := gx_mu (gx_t_2 (List.mem_of_getElem? (i := 210) rfl)) rfl
theorem ws_X7_gain : Cond.selects RX7 yX7_gain yX7_gain ∈ gx_U := gx_mu (gx_t_2 (List.mem_of_getElem? (i := 211) rfl)) rfl
theorem lk_L_87 : gx_lk gx_U RL 87 RX7 yX7_gain cX7_gain 2 ((Option.some Jvm.ClassFile.FieldType.int)) 1 := ⟨gx_mu (gx_t_2 (List.mem_of_getElem? (i := 209) rfl)) rfl, wn_X7_gain, ws_X7_gain, wi_X7, wc_X7_gain, rfl, by decide +kernel, by decide +kernel, by decide +kernel⟩
theorem wc_X7_best : Cond.code yX7_best cX7_best 4 ((Option.some Jvm.ClassFile.FieldType.int)) ∈ gx_U := gx_mu (gx_t_2 (List.mem_of_getElem? (i := 130) rfl)) rfl
theorem wn_X7_best : Cond.instanceMethod yX7_best ∈ gx_U := gx_mu (gx_t_2 (List.mem_of_getElem? (i := 128) rfl)) rfl
theorem ws_X7_best : Cond.selects RX7 yX7_best yX7_best ∈ gx_U := gx_mu (gx_t_2 (List.mem_of_getElem? (i := 129) rfl)) rfl
theorem lk_L_90 : gx_lk gx_U RL 90 RX7 yX7_best cX7_best 4 ((Option.some Jvm.ClassFile.FieldType.int)) 2 := ⟨gx_mu (gx_t_2 (List.mem_of_getElem? (i := 127) rfl)) rfl, wn_X7_best, ws_X7_best, wi_X7, wc_X7_best, rfl, by decide +kernel, by decide +kernel, by decide +kernel⟩
theorem wc_X7_otherwise : Cond.code yX7_otherwise cX7_otherwise 2 ((Option.some Jvm.ClassFile.FieldType.int)) ∈ gx_U := gx_mu (gx_t_2 (List.mem_of_getElem? (i := 204) rfl)) rfl
theorem wn_X7_otherwise : Cond.instanceMethod yX7_otherwise ∈ gx_U := gx_mu (gx_t_2 (List.mem_of_getElem? (i := 202) rfl)) rfl
theorem ws_X7_otherwise : Cond.selects RX7 yX7_otherwise yX7_otherwise ∈ gx_U := gx_mu (gx_t_2 (List.mem_of_getElem? (i := 203) rfl)) rfl
theorem lk_L_93 : gx_lk gx_U RL 93 RX7 yX7_otherwise cX7_otherwise 2 ((Option.some Jvm.ClassFile.FieldType.int)) 0 := ⟨gx_mu (gx_t_2 (List.mem_of_getElem? (i := 201) rfl)) rfl, wn_X7_otherwise, ws_X7_otherwise, wi_X7, wc_X7_otherwise, rfl, by decide +kernel, by decide +kernel, by decide +kernel⟩
theorem wc_X7_price : Cond.code yX7_price cX7_price 4 ((Option.some Jvm.ClassFile.FieldType.int)) ∈ gx_U := gx_mu (gx_t_2 (List.mem_of_getElem? (i := 84) rfl)) rfl
theorem wn_X7_price : Cond.instanceMethod yX7_price ∈ gx_U := gx_mu (gx_t_2 (List.mem_of_getElem? (i := 82) rfl)) rfl
theorem ws_X7_price : Cond.selects RX7 yX7_price yX7_price ∈ gx_U := gx_mu (gx_t_2 (List.mem_of_getElem? (i := 83) rfl)) rfl
theorem lk_L_97 : gx_lk gx_U RL 97 RX7 yX7_price cX7_price 4 ((Option.some Jvm.ClassFile.FieldType.int)) 2 := ⟨gx_mu (gx_t_2 (List.mem_of_getElem? (i := 81) rfl)) rfl, wn_X7_price, ws_X7_price, wi_X7, wc_X7_price, rfl, by decide +kernel, by decide +kernel, by decide +kernel⟩
theorem wc_X7_turn : Cond.code yX7_turn cX7_turn 2 ((Option.some Jvm.ClassFile.FieldType.int)) ∈ gx_U := gx_mu (gx_t_2 (List.mem_of_getElem? (i := 182) rfl)) rfl
theorem wn_X7_turn : Cond.instanceMethod yX7_turn ∈ gx_U := gx_mu (gx_t_2 (List.mem_of_getElem? (i := 180) rfl)) rfl
theorem ws_X7_turn : Cond.selects RX7 yX7_turn yX7_turn ∈ gx_U := gx_mu (gx_t_2 (List.mem_of_getElem? (i := 181) rfl)) rfl
theorem lk_L_100 : gx_lk gx_U RL 100 RX7 yX7_turn cX7_turn 2 ((Option.some Jvm.ClassFile.FieldType.int)) 1 := ⟨gx_mu (gx_t_2 (List.mem_of_getElem? (i := 179) rfl)) rfl, wn_X7_turn, ws_X7_turn, wi_X7, wc_X7_turn, rfl, by decide +kernel, by decide +kernel, by decide +kernel⟩
theorem wc_L_rest : Cond.code yL_rest cL_rest 5 ((Option.some Jvm.ClassFile.FieldType.int)) ∈ gx_U := gx_mu (gx_t_3 (List.mem_of_getElem? (i := 64) rfl)) rfl
theorem wt_L_rest : Cond.static yL_rest ∈ gx_U := gx_mu (gx_t_3 (List.mem_of_getElem? (i := 63) rfl)) rfl
theorem lk_L_102 : gx_lkS gx_U RL 102 yL_rest cL_rest 5 ((Option.some Jvm.ClassFile.FieldType.int)) 2 := ⟨gx_mu (gx_t_3 (List.mem_of_getElem? (i := 62) rfl)) rfl, wt_L_rest, wi_L, wc_L_rest, by decide +kernel, by decide +kernel, by decide +kernel⟩
theorem wc_X7_rest : Cond.code yX7_rest cX7_rest 2 ((Option.some Jvm.ClassFile.FieldType.int)) ∈ gx_U := gx_mu (gx_t_2 (List.mem_of_getElem? (i := 190) rfl)) rfl
theorem wn_X7_rest : Cond.instanceMethod yX7_rest ∈ gx_U := gx_mu (gx_t_2 (List.mem_of_getElem? (i := 188) rfl)) rfl
theorem ws_X7_rest : Cond.selects RX7 yX7_rest yX7_rest ∈ gx_U := gx_mu (gx_t_2 (List.mem_of_getElem? (i := 189) rfl)) rfl
theorem lk_L_106 : gx_lk gx_U RL 106 RX7 yX7_rest cX7_rest 2 ((Option.some Jvm.ClassFile.FieldType.int)) 0 := ⟨gx_mu (gx_t_2 (List.mem_of_getElem? (i := 187) rfl)) rfl, wn_X7_rest, ws_X7_rest, wi_X7, wc_X7_rest, rfl, by decide +kernel, by decide +kernel, by decide +kernel⟩
theorem wc_X7_from : Cond.code yX7_from cX7_from 5 ((Option.some Jvm.ClassFile.FieldType.int)) ∈ gx_U := gx_mu (gx_t_2 (List.mem_of_getElem? (i := 220) rfl)) rfl
theorem wn_X7_from : Cond.instanceMethod yX7_from ∈ gx_U := gx_mu (gx_t_2 (List.mem_of_getElem? (i := 218) rfl)) rfl
theorem ws_X7_from : Cond.selects RX7 yX7_from yX7_from ∈ gx_U := gx_mu (gx_t_2 (List.mem_of_getElem? (i := 219) rfl)) rfl
theorem lk_L_108 : gx_lk gx_U RL 108 RX7 yX7_from cX7_from 5 ((Option.some Jvm.ClassFile.FieldType.int)) 2 := ⟨gx_mu (gx_t_2 (List.mem_of_getElem? (i := 217) rfl)) rfl, wn_X7_from, ws_X7_from, wi_X7, wc_X7_from, rfl, by decide +kernel, by decide +kernel, by decide +kernel⟩
theorem kL_111 : Cond.constant RL 111 (-1000001) ∈ gx_U := gx_mu (gx_t_3 (List.mem_of_getElem? (i := 68) rfl)) rfl
def xX_L (a : Nat → Nat) (ι : Nat → ClassId) : List ((Nat → Int32) → va_E) := [
  fun r => .inr (7, [.ref (a 1), .ref (a 21), .ref (a 25), .ref (a 29), .ref (a 41), .ref (a 63), .ref (a 66), .ref (a 65), .ref (a 76), .ref (a 77), .int (r 10), .int (r 11), .int (r 12), .int (r 13), .int (r 14)]),
  fun r => .inr (5, [.int (r 0), .int (r 1), .int (r 2), .ref (a 2), .ref (a 3), .ref (a 4), .ref (a 5), .ref (a 6), .ref (a 7), .ref (a 8), .ref (a 9), .ref (a 10), .ref (a 11), .ref (a 12)]),
  fun r => .inl (ι 0, 6, .inl r),
  fun r => .inl (ι 0, 6, .inl r),
  fun r => .inl (ι 0, 6, .inl r),
  fun r => .inl (ι 0, 6, .inl r),
  fun r => .inl (ι 0, 8, .inl r),
  fun r => .inl (ι 0, 8, .inl r),
  fun r => .inl (ι 0, 8, .inl r),
  fun r => .inl (ι 0, 8, .inl r),
  fun r => .inl (ι 0, 8, .inl r),
  fun r => .inl (ι 0, 8, .inl r),
  fun _ => .inl (ι 4, 8, .inr (.inr (.inr (.inr (fun j => ([some (a 13), some (a 14), some (a 15), some (a 16), some (a 17), some (a 18), some (a 19), some (a 20)] : List (Option Nat)).getD j none))))),
  fun r => .inl (ι 0, 6, .inl r),
  fun r => .inl (ι 0, 6, .inl r),
  fun r => .inl (ι 0, 6, .inl r),
  fun r => .inl (ι 0, 6, .inl r),
  fun r => .inl (ι 0, 6, .inl r),
  fun r => .inl (ι 0, 6, .inl r),
  fun r => .inl (ι 0, 6, .inl r),
  fun r => .inl (ι 0, 6, .inl r),
  fun r => .inr (4, [.ref (a 1), .ref (a 22), .ref (a 23), .ref (a 24)]),
  fun r => .inl (ι 0, 6, .inl r),
  fun r => .inl (ι 0, 6, .inl r),
  fun r => .inl (ι 1, 6, .inl r),
  fun r => .inr (4, [.ref (a 1), .ref (a 26), .ref (a 27), .ref (a 28)]),
  fun r => .inl (ι 0, 6, .inl r),
  fun r => .inl (ι 0, 6, .inl r),
  fun r => .inl (ι 1, 6, .inl r),
  fun r => .inr (4, [.ref (a 1), .ref (a 30), .ref (a 31), .ref (a 32)]),
  fun r => .inl (ι 0, 6, .inl r),
  fun r => .inl (ι 0, 6, .inl r),
  fun r => .inl (ι 1, 6, .inl r),
  fun r => .inr (4, [.ref (a 1), .ref (a 34), .ref (a 35), .ref (a 36)]),
  fun r => .inl (ι 0, 6, .inl r),
  fun r => .inl (ι 0, 6, .inl r),
  fun r => .inl (ι 1, 6, .inl r),
  fun r => .inr (4, [.ref (a 1), .ref (a 38), .ref (a 39), .ref (a 40)]),
  fun r => .inl (ι 0, 6, .inl r),
  fun r => .inl (ι 0, 6, .inl r),
  fun r => .inl (ι 1, 6, .inl r),
  fun r => .inr (0, [.ref (a 1), .ref (a 42), .ref (a 43), .ref (a 44), .ref (a 45), .int (r 5), .ref (a 46), .ref (a 51), .ref (a 56), .ref (a 61), .ref (a 62), .int (r 11), .int (r 12)]),
  fun r => .inl (ι 0, 3, .inl r),
  fun r => .inl (ι 0, 3, .inl r),
  fun r => .inl (ι 0, 3, .inl r),
  fun r => .inl (ι 0, 3, .inl r),
  fun _ => .inl (ι 4, 4, .inr (.inr (.inr (.inr (fun j => ([some (a 47), some (a 48), some (a 49), some (a 50)] : List (Option Nat)).getD j none))))),
  fun r => .inl (ι 0, 8, .inl r),
  fun r => .inl (ι 0, 8, .inl r),
  fun r => .inl (ι 0, 8, .inl r),
  fun r => .inl (ι 0, 8, .inl r),
  fun _ => .inl (ι 4, 4, .inr (.inr (.inr (.inr (fun j => ([some (a 52), some (a 53), some (a 54), some (a 55)] : List (Option Nat)).getD j none))))),
  fun r => .inl (ι 0, 8, .inl r),
  fun r => .inl (ι 0, 8, .inl r),
  fun r => .inl (ι 0, 8, .inl r),
  fun r => .inl (ι 0, 8, .inl r),
  fun _ => .inl (ι 4, 4, .inr (.inr (.inr (.inr (fun j => ([some (a 57), some (a 58), some (a 59), some (a 60)] : List (Option Nat)).getD j none))))),
  fun r => .inl (ι 0, 8, .inl r),
  fun r => .inl (ι 0, 8, .inl r),
  fun r => .inl (ι 0, 8, .inl r),
  fun r => .inl (ι 0, 8, .inl r),
  fun r => .inl (ι 0, 10, .inl r),
  fun r => .inl (ι 0, 10, .inl r),
  fun r => .inr (2, [.ref (a 1), .ref (a 41), .ref (a 33), .ref (a 37), .ref (a 64)]),
  fun r => .inl (ι 0, 8, .inl r),
  fun _ => .inl (ι 5, 4, .inr (.inr (.inr (.inr (fun j => ([some (a 68), some (a 70), some (a 72), some (a 74)] : List (Option Nat)).getD j none))))),
  fun r => .inr (6, [.ref (a 67), .int (r 1)]),
  fun r => .inl (ι 2, 50, .inl r),
  fun r => .inr (6, [.ref (a 69), .int (r 1)]),
  fun r => .inl (ι 2, 50, .inl r),
  fun r => .inr (6, [.ref (a 71), .int (r 1)]),
  fun r => .inl (ι 2, 50, .inl r),
  fun r => .inr (6, [.ref (a 73), .int (r 1)]),
  fun r => .inl (ι 2, 50, .inl r),
  fun r => .inr (6, [.ref (a 75), .int (r 1)]),
  fun r => .inl (ι 2, 50, .inl r),
  fun r => .inr (1, [.int (r 0), .int (r 1), .int (r 2)]),
  fun r => .inr (3, [.ref (a 1), .ref (a 78), .ref (a 79), .ref (a 80), .ref (a 81), .int (r 5), .int (r 6), .int (r 7), .int (r 8), .int (r 9)]),
  fun r => .inl (ι 0, 6, .inl r),
  fun r => .inl (ι 1, 51, .inl r),
  fun r => .inl (ι 1, 51, .inl r),
  fun r => .inl (ι 1, 51, .inl r)]
def xX (a : Nat → Nat) (ι : Nat → ClassId) (k : Nat) (r : Nat → Int32) : va_E := ((xX_L a ι).getD k (fun _ => .inr (0, []))) r
abbrev wX (a : Nat → Nat) (ι : Nat → ClassId) : gx_S → va_W := gx_w 82 a (xX a ι)
theorem lt_X_ShopsAsOne : 0 < 82 := by decide
theorem oc_X_ShopsAsOne (a : Nat → Nat) (ι : Nat → ClassId) (r : Nat → Int32) : xX a ι (0) r = .inr (7, [.ref (a 1), .ref (a 21), .ref (a 25), .ref (a 29), .ref (a 41), .ref (a 63), .ref (a 66), .ref (a 65), .ref (a 76), .ref (a 77), .int (r 10), .int (r 11), .int (r 12), .int (r 13), .int (r 14)]) := rfl
theorem lt_X_Street : 1 < 82 := by decide
theorem oc_X_Street (a : Nat → Nat) (ι : Nat → ClassId) (r : Nat → Int32) : xX a ι (1) r = .inr (5, [.int (r 0), .int (r 1), .int (r 2), .ref (a 2), .ref (a 3), .ref (a 4), .ref (a 5), .ref (a 6), .ref (a 7), .ref (a 8), .ref (a 9), .ref (a 10), .ref (a 11), .ref (a 12)]) := rfl
theorem lt_X_Street_kind : 2 < 82 := by decide
theorem ac0_X_Street_kind (a : Nat → Nat) (ι : Nat → ClassId) (r : Nat → Int32) : xX a ι (2) r = .inl (ι 0, 6, .inl r) := rfl
theorem ac_X_Street_kind {cl : List vw_C} {tys : List (ClassId × FieldType)} {ι : Nat → ClassId} (hx : gx_std vwCl (gty ι) cl tys) (a : Nat → Nat) : gx_arr tys (xX a ι) (2) .int 6 := ⟨0, ι 0, by rw [hx.2]; rfl, fun r => ac0_X_Street_kind a ι r⟩
theorem lt_X_Street_n : 3 < 82 := by decide
theorem ac0_X_Street_n (a : Nat → Nat) (ι : Nat → ClassId) (r : Nat → Int32) : xX a ι (3) r = .inl (ι 0, 6, .inl r) := rfl
theorem ac_X_Street_n {cl : List vw_C} {tys : List (ClassId × FieldType)} {ι : Nat → ClassId} (hx : gx_std vwCl (gty ι) cl tys) (a : Nat → Nat) : gx_arr tys (xX a ι) (3) .int 6 := ⟨0, ι 0, by rw [hx.2]; rfl, fun r => ac0_X_Street_n a ι r⟩
theorem lt_X_Street_place : 4 < 82 := by decide
theorem ac0_X_Street_place (a : Nat → Nat) (ι : Nat → ClassId) (r : Nat → Int32) : xX a ι (4) r = .inl (ι 0, 6, .inl r) := rfl
theorem ac_X_Street_place {cl : List vw_C} {tys : List (ClassId × FieldType)} {ι : Nat → ClassId} (hx : gx_std vwCl (gty ι) cl tys) (a : Nat → Nat) : gx_arr tys (xX a ι) (4) .int 6 := ⟨0, ι 0, by rw [hx.2]; rfl, fun r => ac0_X_Street_place a ι r⟩
theorem lt_X_Street_cost : 5 < 82 := by decide
theorem ac0_X_Street_cost (a : Nat → Nat) (ι : Nat → ClassId) (r : Nat → Int32) : xX a ι (5) r = .inl (ι 0, 6, .inl r) := rfl
theorem ac_X_Street_cost {cl : List vw_C} {tys : List (ClassId × FieldType)} {ι : Nat → ClassId} (hx : gx_std vwCl (gty ι) cl tys) (a : Nat → Nat) : gx_arr tys (xX a ι) (5) .int 6 := ⟨0, ι 0, by rw [hx.2]; rfl, fun r => ac0_X_Street_cost a ι r⟩
theorem lt_X_Street_home : 6 < 82 := by decide
theorem ac0_X_Street_home (a : Nat → Nat) (ι : Nat → ClassId) (r : Nat → Int32) : xX a ι (6) r = .inl (ι 0, 8, .inl r) := rfl
theorem ac_X_Street_home {cl : List vw_C} {tys : List (ClassId × FieldType)} {ι : Nat → ClassId} (hx : gx_std vwCl (gty ι) cl tys) (a : Nat → Nat) : gx_arr tys (xX a ι) (6) .int 8 := ⟨0, ι 0, by rw [hx.2]; rfl, fun r => ac0_X_Street_home a ι r⟩
theorem lt_X_Street_many : 7 < 82 := by decide
theorem ac0_X_Street_many (a : Nat → Nat) (ι : Nat → ClassId) (r : Nat → Int32) : xX a ι (7) r = .inl (ι 0, 8, .inl r) := rfl
theorem ac_X_Street_many {cl : List vw_C} {tys : List (ClassId × FieldType)} {ι : Nat → ClassId} (hx : gx_std vwCl (gty ι) cl tys) (a : Nat → Nat) : gx_arr tys (xX a ι) (7) .int 8 := ⟨0, ι 0, by rw [hx.2]; rfl, fun r => ac0_X_Street_many a ι r⟩
theorem lt_X_Street_way : 8 < 82 := by decide
theorem ac0_X_Street_way (a : Nat → Nat) (ι : Nat → ClassId) (r : Nat → Int32) : xX a ι (8) r = .inl (ι 0, 8, .inl r) := rfl
theorem ac_X_Street_way {cl : List vw_C} {tys : List (ClassId × FieldType)} {ι : Nat → ClassId} (hx : gx_std vwCl (gty ι) cl tys) (a : Nat → Nat) : gx_arr tys (xX a ι) (8) .int 8 := ⟨0, ι 0, by rw [hx.2]; rfl, fun r => ac0_X_Street_way a ι r⟩
theorem lt_X_Street_worth : 9 < 82 := by decide
theorem ac0_X_Street_worth (a : Nat → Nat) (ι : Nat → ClassId) (r : Nat → Int32) : xX a ι (9) r = .inl (ι 0, 8, .inl r) := rfl
theorem ac_X_Street_worth {cl : List vw_C} {tys : List (ClassId × FieldType)} {ι : Nat → ClassId} (hx : gx_std vwCl (gty ι) cl tys) (a : Nat → Nat) : gx_arr tys (xX a ι) (9) .int 8 := ⟨0, ι 0, by rw [hx.2]; rfl, fun r => ac0_X_Street_worth a ι r⟩
theorem lt_X_Street_liked : 10 < 82 := by decide
theorem ac0_X_Street_liked (a : Nat → Nat) (ι : Nat → ClassId) (r : Nat → Int32) : xX a ι (10) r = .inl (ι 0, 8, .inl r) := rfl
theorem ac_X_Street_liked {cl : List vw_C} {tys : List (ClassId × FieldType)} {ι : Nat → ClassId} (hx : gx_std vwCl (gty ι) cl tys) (a : Nat → Nat) : gx_arr tys (xX a ι) (10) .int 8 := ⟨0, ι 0, by rw [hx.2]; rfl, fun r => ac0_X_Street_liked a ι r⟩
theorem lt_X_Street_liking : 11 < 82 := by decide
theorem ac0_X_Street_liking (a : Nat → Nat) (ι : Nat → ClassId) (r : Nat → Int32) : xX a ι (11) r = .inl (ι 0, 8, .inl r) := rfl
theorem ac_X_Street_liking {cl : List vw_C} {tys : List (ClassId × FieldType)} {ι : Nat → ClassId} (hx : gx_std vwCl (gty ι) cl tys) (a : Nat → Nat) : gx_arr tys (xX a ι) (11) .int 8 := ⟨0, ι 0, by rw [hx.2]; rfl, fun r => ac0_X_Street_liking a ι r⟩
theorem lt_X_Street_beside : 12 < 82 := by decide
theorem aqf_X_Street_beside (a : Nat → Nat) {i : Nat} (hi : i < 8) : (fun j => ([some (a 13), some (a 14), some (a 15), some (a 16), some (a 17), some (a 18), some (a 19), some (a 20)] : List (Option Nat)).getD j none) i = some (a (13 + i)) := match i, hi with
  | 0, _ => rfl
  | 1, _ => rfl
  | 2, _ => rfl
  | 3, _ => rfl
  | 4, _ => rfl
  | 5, _ => rfl
  | 6, _ => rfl
  | 7, _ => rfl
  | i + 8, hi => absurd hi (by omega)
theorem aq_X_Street_beside {cl : List vw_C} {tys : List (ClassId × FieldType)} {ι : Nat → ClassId} (hx : gx_std vwCl (gty ι) cl tys) (a : Nat → Nat) : gx_arrq tys (xX a ι) (12) (.array .int) 8 (fun j => ([some (a 13), some (a 14), some (a 15), some (a 16), some (a 17), some (a 18), some (a 19), some (a 20)] : List (Option Nat)).getD j none) := ⟨4, ι 4, by rw [hx.2]; rfl, fun _ => rfl⟩
theorem lt_X_Street_beside_row {q : Nat} (hq : q < 8) : 13 + q < 82 := by omega
theorem ac0_X_Street_beside_row (a : Nat → Nat) (ι : Nat → ClassId) (r : Nat → Int32) {q : Nat} (hq : q < 8) : xX a ι (13 + q) r = .inl (ι 0, 6, .inl r) := match q, hq with
  | 0, _ => rfl
  | 1, _ => rfl
  | 2, _ => rfl
  | 3, _ => rfl
  | 4, _ => rfl
  | 5, _ => rfl
  | 6, _ => rfl
  | 7, _ => rfl
  | q + 8, hq => absurd hq (by omega)
theorem ac_X_Street_beside_row {cl : List vw_C} {tys : List (ClassId × FieldType)} {ι : Nat → ClassId} (hx : gx_std vwCl (gty ι) cl tys) (a : Nat → Nat) {q : Nat} (hq : q < 8) : gx_arr tys (xX a ι) (13 + q) .int 6 := ⟨0, ι 0, by rw [hx.2]; rfl, fun r => ac0_X_Street_beside_row a ι r hq⟩
theorem lt_X_Standing {q : Nat} (hq : q < 5) : 21 + 4 * q < 82 := by omega
theorem oc_X_Standing (a : Nat → Nat) (ι : Nat → ClassId) (r : Nat → Int32) {q : Nat} (hq : q < 5) : xX a ι (21 + 4 * q) r = .inr (4, [.ref (a 1), .ref (a (21 + 4 * q + 1)), .ref (a (21 + 4 * q + 2)), .ref (a (21 + 4 * q + 3))]) := match q, hq with
  | 0, _ => rfl
  | 1, _ => rfl
  | 2, _ => rfl
  | 3, _ => rfl
  | 4, _ => rfl
  | q + 5, hq => absurd hq (by omega)
theorem lt_X_Standing_price {q : Nat} (hq : q < 5) : 21 + 4 * q + 1 < 82 := by omega
theorem ac0_X_Standing_price (a : Nat → Nat) (ι : Nat → ClassId) (r : Nat → Int32) {q : Nat} (hq : q < 5) : xX a ι (21 + 4 * q + 1) r = .inl (ι 0, 6, .inl r) := match q, hq with
  | 0, _ => rfl
  | 1, _ => rfl
  | 2, _ => rfl
  | 3, _ => rfl
  | 4, _ => rfl
  | q + 5, hq => absurd hq (by omega)
theorem ac_X_Standing_price {cl : List vw_C} {tys : List (ClassId × FieldType)} {ι : Nat → ClassId} (hx : gx_std vwCl (gty ι) cl tys) (a : Nat → Nat) {q : Nat} (hq : q < 5) : gx_arr tys (xX a ι) (21 + 4 * q + 1) .int 6 := ⟨0, ι 0, by rw [hx.2]; rfl, fun r => ac0_X_Standing_price a ι r hq⟩
theorem lt_X_Standing_whose {q : Nat} (hq : q < 5) : 21 + 4 * q + 2 < 82 := by omega
theorem ac0_X_Standing_whose (a : Nat → Nat) (ι : Nat → ClassId) (r : Nat → Int32) {q : Nat} (hq : q < 5) : xX a ι (21 + 4 * q + 2) r = .inl (ι 0, 6, .inl r) := match q, hq with
  | 0, _ => rfl
  | 1, _ => rfl
  | 2, _ => rfl
  | 3, _ => rfl
  | 4, _ => rfl
  | q + 5, hq => absurd hq (by omega)
theorem ac_X_Standing_whose {cl : List vw_C} {tys : List (ClassId × FieldType)} {ι : Nat → ClassId} (hx : gx_std vwCl (gty ι) cl tys) (a : Nat → Nat) {q : Nat} (hq : q < 5) : gx_arr tys (xX a ι) (21 + 4 * q + 2) .int 6 := ⟨0, ι 0, by rw [hx.2]; rfl, fun r => ac0_X_Standing_whose a ι r hq⟩
theorem lt_X_Standing_in {q : Nat} (hq : q < 5) : 21 + 4 * q + 3 < 82 := by omega
theorem ac0_X_Standing_in (a : Nat → Nat) (ι : Nat → ClassId) (r : Nat → Int32) {q : Nat} (hq : q < 5) : xX a ι (21 + 4 * q + 3) r = .inl (ι 1, 6, .inl r) := match q, hq with
  | 0, _ => rfl
  | 1, _ => rfl
  | 2, _ => rfl
  | 3, _ => rfl
  | 4, _ => rfl
  | q + 5, hq => absurd hq (by omega)
theorem ac_X_Standing_in {cl : List vw_C} {tys : List (ClassId × FieldType)} {ι : Nat → ClassId} (hx : gx_std vwCl (gty ι) cl tys) (a : Nat → Nat) {q : Nat} (hq : q < 5) : gx_arr tys (xX a ι) (21 + 4 * q + 3) .boolean 6 := ⟨1, ι 1, by rw [hx.2]; rfl, fun r => ac0_X_Standing_in a ι r hq⟩
theorem lt_X_Bests : 41 < 82 := by decide
theorem oc_X_Bests (a : Nat → Nat) (ι : Nat → ClassId) (r : Nat → Int32) : xX a ι (41) r = .inr (0, [.ref (a 1), .ref (a 42), .ref (a 43), .ref (a 44), .ref (a 45), .int (r 5), .ref (a 46), .ref (a 51), .ref (a 56), .ref (a 61), .ref (a 62), .int (r 11), .int (r 12)]) := rfl
theorem lt_X_Bests_own : 42 < 82 := by decide
theorem ac0_X_Bests_own (a : Nat → Nat) (ι : Nat → ClassId) (r : Nat → Int32) : xX a ι (42) r = .inl (ι 0, 3, .inl r) := rfl
theorem ac_X_Bests_own {cl : List vw_C} {tys : List (ClassId × FieldType)} {ι : Nat → ClassId} (hx : gx_std vwCl (gty ι) cl tys) (a : Nat → Nat) : gx_arr tys (xX a ι) (42) .int 3 := ⟨0, ι 0, by rw [hx.2]; rfl, fun r => ac0_X_Bests_own a ι r⟩
theorem lt_X_Bests_ownCost : 43 < 82 := by decide
theorem ac0_X_Bests_ownCost (a : Nat → Nat) (ι : Nat → ClassId) (r : Nat → Int32) : xX a ι (43) r = .inl (ι 0, 3, .inl r) := rfl
theorem ac_X_Bests_ownCost {cl : List vw_C} {tys : List (ClassId × FieldType)} {ι : Nat → ClassId} (hx : gx_std vwCl (gty ι) cl tys) (a : Nat → Nat) : gx_arr tys (xX a ι) (43) .int 3 := ⟨0, ι 0, by rw [hx.2]; rfl, fun r => ac0_X_Bests_ownCost a ι r⟩
theorem lt_X_Bests_tried : 44 < 82 := by decide
theorem ac0_X_Bests_tried (a : Nat → Nat) (ι : Nat → ClassId) (r : Nat → Int32) : xX a ι (44) r = .inl (ι 0, 3, .inl r) := rfl
theorem ac_X_Bests_tried {cl : List vw_C} {tys : List (ClassId × FieldType)} {ι : Nat → ClassId} (hx : gx_std vwCl (gty ι) cl tys) (a : Nat → Nat) : gx_arr tys (xX a ι) (44) .int 3 := ⟨0, ι 0, by rw [hx.2]; rfl, fun r => ac0_X_Bests_tried a ι r⟩
theorem lt_X_Bests_chosen : 45 < 82 := by decide
theorem ac0_X_Bests_chosen (a : Nat → Nat) (ι : Nat → ClassId) (r : Nat → Int32) : xX a ι (45) r = .inl (ι 0, 3, .inl r) := rfl
theorem ac_X_Bests_chosen {cl : List vw_C} {tys : List (ClassId × FieldType)} {ι : Nat → ClassId} (hx : gx_std vwCl (gty ι) cl tys) (a : Nat → Nat) : gx_arr tys (xX a ι) (45) .int 3 := ⟨0, ι 0, by rw [hx.2]; rfl, fun r => ac0_X_Bests_chosen a ι r⟩
theorem lt_X_Bests_least : 46 < 82 := by decide
theorem aqf_X_Bests_least (a : Nat → Nat) {i : Nat} (hi : i < 4) : (fun j => ([some (a 47), some (a 48), some (a 49), some (a 50)] : List (Option Nat)).getD j none) i = some (a (47 + i)) := match i, hi with
  | 0, _ => rfl
  | 1, _ => rfl
  | 2, _ => rfl
  | 3, _ => rfl
  | i + 4, hi => absurd hi (by omega)
theorem aq_X_Bests_least {cl : List vw_C} {tys : List (ClassId × FieldType)} {ι : Nat → ClassId} (hx : gx_std vwCl (gty ι) cl tys) (a : Nat → Nat) : gx_arrq tys (xX a ι) (46) (.array .int) 4 (fun j => ([some (a 47), some (a 48), some (a 49), some (a 50)] : List (Option Nat)).getD j none) := ⟨4, ι 4, by rw [hx.2]; rfl, fun _ => rfl⟩
theorem lt_X_Bests_least_row {q : Nat} (hq : q < 4) : 47 + q < 82 := by omega
theorem ac0_X_Bests_least_row (a : Nat → Nat) (ι : Nat → ClassId) (r : Nat → Int32) {q : Nat} (hq : q < 4) : xX a ι (47 + q) r = .inl (ι 0, 8, .inl r) := match q, hq with
  | 0, _ => rfl
  | 1, _ => rfl
  | 2, _ => rfl
  | 3, _ => rfl
  | q + 4, hq => absurd hq (by omega)
theorem ac_X_Bests_least_row {cl : List vw_C} {tys : List (ClassId × FieldType)} {ι : Nat → ClassId} (hx : gx_std vwCl (gty ι) cl tys) (a : Nat → Nat) {q : Nat} (hq : q < 4) : gx_arr tys (xX a ι) (47 + q) .int 8 := ⟨0, ι 0, by rw [hx.2]; rfl, fun r => ac0_X_Bests_least_row a ι r hq⟩
theorem lt_X_Bests_choice : 51 < 82 := by decide
theorem aqf_X_Bests_choice (a : Nat → Nat) {i : Nat} (hi : i < 4) : (fun j => ([some (a 52), some (a 53), some (a 54), some (a 55)] : List (Option Nat)).getD j none) i = some (a (52 + i)) := match i, hi with
  | 0, _ => rfl
  | 1, _ => rfl
  | 2, _ => rfl
  | 3, _ => rfl
  | i + 4, hi => absurd hi (by omega)
theorem aq_X_Bests_choice {cl : List vw_C} {tys : List (ClassId × FieldType)} {ι : Nat → ClassId} (hx : gx_std vwCl (gty ι) cl tys) (a : Nat → Nat) : gx_arrq tys (xX a ι) (51) (.array .int) 4 (fun j => ([some (a 52), some (a 53), some (a 54), some (a 55)] : List (Option Nat)).getD j none) := ⟨4, ι 4, by rw [hx.2]; rfl, fun _ => rfl⟩
theorem lt_X_Bests_choice_row {q : Nat} (hq : q < 4) : 52 + q < 82 := by omega
theorem ac0_X_Bests_choice_row (a : Nat → Nat) (ι : Nat → ClassId) (r : Nat → Int32) {q : Nat} (hq : q < 4) : xX a ι (52 + q) r = .inl (ι 0, 8, .inl r) := match q, hq with
  | 0, _ => rfl
  | 1, _ => rfl
  | 2, _ => rfl
  | 3, _ => rfl
  | q + 4, hq => absurd hq (by omega)
theorem ac_X_Bests_choice_row {cl : List vw_C} {tys : List (ClassId × FieldType)} {ι : Nat → ClassId} (hx : gx_std vwCl (gty ι) cl tys) (a : Nat → Nat) {q : Nat} (hq : q < 4) : gx_arr tys (xX a ι) (52 + q) .int 8 := ⟨0, ι 0, by rw [hx.2]; rfl, fun r => ac0_X_Bests_choice_row a ι r hq⟩
theorem lt_X_Bests_earns : 56 < 82 := by decide
theorem aqf_X_Bests_earns (a : Nat → Nat) {i : Nat} (hi : i < 4) : (fun j => ([some (a 57), some (a 58), some (a 59), some (a 60)] : List (Option Nat)).getD j none) i = some (a (57 + i)) := match i, hi with
  | 0, _ => rfl
  | 1, _ => rfl
  | 2, _ => rfl
  | 3, _ => rfl
  | i + 4, hi => absurd hi (by omega)
theorem aq_X_Bests_earns {cl : List vw_C} {tys : List (ClassId × FieldType)} {ι : Nat → ClassId} (hx : gx_std vwCl (gty ι) cl tys) (a : Nat → Nat) : gx_arrq tys (xX a ι) (56) (.array .int) 4 (fun j => ([some (a 57), some (a 58), some (a 59), some (a 60)] : List (Option Nat)).getD j none) := ⟨4, ι 4, by rw [hx.2]; rfl, fun _ => rfl⟩
theorem lt_X_Bests_earns_row {q : Nat} (hq : q < 4) : 57 + q < 82 := by omega
theorem ac0_X_Bests_earns_row (a : Nat → Nat) (ι : Nat → ClassId) (r : Nat → Int32) {q : Nat} (hq : q < 4) : xX a ι (57 + q) r = .inl (ι 0, 8, .inl r) := match q, hq with
  | 0, _ => rfl
  | 1, _ => rfl
  | 2, _ => rfl
  | 3, _ => rfl
  | q + 4, hq => absurd hq (by omega)
theorem ac_X_Bests_earns_row {cl : List vw_C} {tys : List (ClassId × FieldType)} {ι : Nat → ClassId} (hx : gx_std vwCl (gty ι) cl tys) (a : Nat → Nat) {q : Nat} (hq : q < 4) : gx_arr tys (xX a ι) (57 + q) .int 8 := ⟨0, ι 0, by rw [hx.2]; rfl, fun r => ac0_X_Bests_earns_row a ι r hq⟩
theorem lt_X_Bests_comers : 61 < 82 := by decide
theorem ac0_X_Bests_comers (a : Nat → Nat) (ι : Nat → ClassId) (r : Nat → Int32) : xX a ι (61) r = .inl (ι 0, 10, .inl r) := rfl
theorem ac_X_Bests_comers {cl : List vw_C} {tys : List (ClassId × FieldType)} {ι : Nat → ClassId} (hx : gx_std vwCl (gty ι) cl tys) (a : Nat → Nat) : gx_arr tys (xX a ι) (61) .int 10 := ⟨0, ι 0, by rw [hx.2]; rfl, fun r => ac0_X_Bests_comers a ι r⟩
theorem lt_X_Bests_elsewhere : 62 < 82 := by decide
theorem ac0_X_Bests_elsewhere (a : Nat → Nat) (ι : Nat → ClassId) (r : Nat → Int32) : xX a ι (62) r = .inl (ι 0, 10, .inl r) := rfl
theorem ac_X_Bests_elsewhere {cl : List vw_C} {tys : List (ClassId × FieldType)} {ι : Nat → ClassId} (hx : gx_std vwCl (gty ι) cl tys) (a : Nat → Nat) : gx_arr tys (xX a ι) (62) .int 10 := ⟨0, ι 0, by rw [hx.2]; rfl, fun r => ac0_X_Bests_elsewhere a ι r⟩
theorem lt_X_Joining : 63 < 82 := by decide
theorem oc_X_Joining (a : Nat → Nat) (ι : Nat → ClassId) (r : Nat → Int32) : xX a ι (63) r = .inr (2, [.ref (a 1), .ref (a 41), .ref (a 33), .ref (a 37), .ref (a 64)]) := rfl
theorem lt_X_Joining_spareBefore : 64 < 82 := by decide
theorem ac0_X_Joining_spareBefore (a : Nat → Nat) (ι : Nat → ClassId) (r : Nat → Int32) : xX a ι (64) r = .inl (ι 0, 8, .inl r) := rfl
theorem ac_X_Joining_spareBefore {cl : List vw_C} {tys : List (ClassId × FieldType)} {ι : Nat → ClassId} (hx : gx_std vwCl (gty ι) cl tys) (a : Nat → Nat) : gx_arr tys (xX a ι) (64) .int 8 := ⟨0, ι 0, by rw [hx.2]; rfl, fun r => ac0_X_Joining_spareBefore a ι r⟩
theorem lt_X_tests : 65 < 82 := by decide
theorem aqf_X_tests (a : Nat → Nat) {i : Nat} (hi : i < 4) : (fun j => ([some (a 68), some (a 70), some (a 72), some (a 74)] : List (Option Nat)).getD j none) i = some (a (66 + 2 * (1 + i))) := match i, hi with
  | 0, _ => rfl
  | 1, _ => rfl
  | 2, _ => rfl
  | 3, _ => rfl
  | i + 4, hi => absurd hi (by omega)
theorem aq_X_tests {cl : List vw_C} {tys : List (ClassId × FieldType)} {ι : Nat → ClassId} (hx : gx_std vwCl (gty ι) cl tys) (a : Nat → Nat) : gx_arrq tys (xX a ι) (65) (.object "ShopsAsOne$Text") 4 (fun j => ([some (a 68), some (a 70), some (a 72), some (a 74)] : List (Option Nat)).getD j none) := ⟨5, ι 5, by rw [hx.2]; rfl, fun _ => rfl⟩
theorem lt_X_Text {q : Nat} (hq : q < 5) : 66 + 2 * q < 82 := by omega
theorem oc_X_Text (a : Nat → Nat) (ι : Nat → ClassId) (r : Nat → Int32) {q : Nat} (hq : q < 5) : xX a ι (66 + 2 * q) r = .inr (6, [.ref (a (66 + 2 * q + 1)), .int (r 1)]) := match q, hq with
  | 0, _ => rfl
  | 1, _ => rfl
  | 2, _ => rfl
  | 3, _ => rfl
  | 4, _ => rfl
  | q + 5, hq => absurd hq (by omega)
theorem lt_X_Text_letter {q : Nat} (hq : q < 5) : 66 + 2 * q + 1 < 82 := by omega
theorem ac0_X_Text_letter (a : Nat → Nat) (ι : Nat → ClassId) (r : Nat → Int32) {q : Nat} (hq : q < 5) : xX a ι (66 + 2 * q + 1) r = .inl (ι 2, 50, .inl r) := match q, hq with
  | 0, _ => rfl
  | 1, _ => rfl
  | 2, _ => rfl
  | 3, _ => rfl
  | 4, _ => rfl
  | q + 5, hq => absurd hq (by omega)
theorem ac_X_Text_letter {cl : List vw_C} {tys : List (ClassId × FieldType)} {ι : Nat → ClassId} (hx : gx_std vwCl (gty ι) cl tys) (a : Nat → Nat) {q : Nat} (hq : q < 5) : gx_arr tys (xX a ι) (66 + 2 * q + 1) .char 50 := ⟨2, ι 2, by rw [hx.2]; rfl, fun r => ac0_X_Text_letter a ι r hq⟩
theorem lt_X_Grammar : 76 < 82 := by decide
theorem oc_X_Grammar (a : Nat → Nat) (ι : Nat → ClassId) (r : Nat → Int32) : xX a ι (76) r = .inr (1, [.int (r 0), .int (r 1), .int (r 2)]) := rfl
theorem lt_X_Judge : 77 < 82 := by decide
theorem oc_X_Judge (a : Nat → Nat) (ι : Nat → ClassId) (r : Nat → Int32) : xX a ι (77) r = .inr (3, [.ref (a 1), .ref (a 78), .ref (a 79), .ref (a 80), .ref (a 81), .int (r 5), .int (r 6), .int (r 7), .int (r 8), .int (r 9)]) := rfl
theorem lt_X_Judge_sold : 78 < 82 := by decide
theorem ac0_X_Judge_sold (a : Nat → Nat) (ι : Nat → ClassId) (r : Nat → Int32) : xX a ι (78) r = .inl (ι 0, 6, .inl r) := rfl
theorem ac_X_Judge_sold {cl : List vw_C} {tys : List (ClassId × FieldType)} {ι : Nat → ClassId} (hx : gx_std vwCl (gty ι) cl tys) (a : Nat → Nat) : gx_arr tys (xX a ι) (78) .int 6 := ⟨0, ι 0, by rw [hx.2]; rfl, fun r => ac0_X_Judge_sold a ι r⟩
theorem lt_X_Judge_any : 79 < 82 := by decide
theorem ac0_X_Judge_any (a : Nat → Nat) (ι : Nat → ClassId) (r : Nat → Int32) : xX a ι (79) r = .inl (ι 1, 51, .inl r) := rfl
theorem ac_X_Judge_any {cl : List vw_C} {tys : List (ClassId × FieldType)} {ι : Nat → ClassId} (hx : gx_std vwCl (gty ι) cl tys) (a : Nat → Nat) : gx_arr tys (xX a ι) (79) .boolean 51 := ⟨1, ι 1, by rw [hx.2]; rfl, fun r => ac0_X_Judge_any a ι r⟩
theorem lt_X_Judge_all : 80 < 82 := by decide
theorem ac0_X_Judge_all (a : Nat → Nat) (ι : Nat → ClassId) (r : Nat → Int32) : xX a ι (80) r = .inl (ι 1, 51, .inl r) := rfl
theorem ac_X_Judge_all {cl : List vw_C} {tys : List (ClassId × FieldType)} {ι : Nat → ClassId} (hx : gx_std vwCl (gty ι) cl tys) (a : Nat → Nat) : gx_arr tys (xX a ι) (80) .boolean 51 := ⟨1, ι 1, by rw [hx.2]; rfl, fun r => ac0_X_Judge_all a ι r⟩
theorem lt_X_Judge_turned : 81 < 82 := by decide
theorem ac0_X_Judge_turned (a : Nat → Nat) (ι : Nat → ClassId) (r : Nat → Int32) : xX a ι (81) r = .inl (ι 1, 51, .inl r) := rfl
theorem ac_X_Judge_turned {cl : List vw_C} {tys : List (ClassId × FieldType)} {ι : Nat → ClassId} (hx : gx_std vwCl (gty ι) cl tys) (a : Nat → Nat) : gx_arr tys (xX a ι) (81) .boolean 51 := ⟨1, ι 1, by rw [hx.2]; rfl, fun r => ac0_X_Judge_turned a ι r⟩

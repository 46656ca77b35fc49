def gx_U : List Cond := lw_tbl.filter goodWord
theorem gx_mu {w : Cond} (h : w ∈ lw_tbl) (hg : goodWord w = true) : w ∈ gx_U := List.mem_filter.mpr ⟨h, hg⟩
theorem gx_t_p {w : Cond} (h : w ∈ k2_sels lw_privs) : w ∈ lw_tbl := List.mem_append_left _ h
theorem gx_t_1 {w : Cond} (h : w ∈ tables_1_1) : w ∈ lw_tbl := List.mem_append_right _ (List.mem_append_left _ h)
theorem gx_t_2 {w : Cond} (h : w ∈ tables_1_2) : w ∈ lw_tbl := List.mem_append_right _ (List.mem_append_right _ (List.mem_append_left _ h))
theorem gx_t_3 {w : Cond} (h : w ∈ tables_1_3) : w ∈ lw_tbl := List.mem_append_right _ (List.mem_append_right _ (List.mem_append_right _ (List.mem_append_left _ h)))
theorem gx_t_4 {w : Cond} (h : w ∈ tables_1_4) : w ∈ lw_tbl := List.mem_append_right _ (List.mem_append_right _ (List.mem_append_right _ (List.mem_append_right _ (List.mem_append_left _ h))))
theorem gx_t_5 {w : Cond} (h : w ∈ tables_1_5) : w ∈ lw_tbl := List.mem_append_right _ (List.mem_append_right _ (List.mem_append_right _ (List.mem_append_right _ (List.mem_append_right _ (List.mem_append_left _ h)))))
theorem gx_t_6 {w : Cond} (h : w ∈ tables_1_6) : w ∈ lw_tbl := List.mem_append_right _ (List.mem_append_right _ (List.mem_append_right _ (List.mem_append_right _ (List.mem_append_right _ (List.mem_append_right _ (h))))))
theorem gx_uu : gx_sub gx_U gx_U := fun w hw => ⟨hw, good_of_word (List.mem_filter.mp hw).2⟩
def gty (ι : Nat → ClassId) : List (ClassId × FieldType) := [(ι 0, .int), (ι 1, .boolean), (ι 2, .char), (ι 3, .byte), (ι 4, (.array .int)), (ι 5, (.object "ShopsAsOne$Text"))]
theorem iu_X0 : ∀ w ∈ u_ws RX0 TX0 13, w ∈ gx_U := by
  intro w hw
  obtain ⟨k, hk, rfl⟩ := List.mem_map.mp hw
  have hk := List.mem_range.mp hk
  match k, hk with
  | 0, _ => exact gx_mu (gx_t_1 (List.mem_of_getElem? (i := 159) rfl)) rfl
  | 1, _ => exact gx_mu (gx_t_1 (List.mem_of_getElem? (i := 161) rfl)) rfl
  | 2, _ => exact gx_mu (gx_t_1 (List.mem_of_getElem? (i := 163) rfl)) rfl
  | 3, _ => exact gx_mu (gx_t_1 (List.mem_of_getElem? (i := 165) rfl)) rfl
  | 4, _ => exact gx_mu (gx_t_1 (List.mem_of_getElem? (i := 167) rfl)) rfl
  | 5, _ => exact gx_mu (gx_t_1 (List.mem_of_getElem? (i := 169) rfl)) rfl
  | 6, _ => exact gx_mu (gx_t_1 (List.mem_of_getElem? (i := 171) rfl)) rfl
  | 7, _ => exact gx_mu (gx_t_1 (List.mem_of_getElem? (i := 173) rfl)) rfl
  | 8, _ => exact gx_mu (gx_t_1 (List.mem_of_getElem? (i := 175) rfl)) rfl
  | 9, _ => exact gx_mu (gx_t_1 (List.mem_of_getElem? (i := 177) rfl)) rfl
  | 10, _ => exact gx_mu (gx_t_1 (List.mem_of_getElem? (i := 179) rfl)) rfl
  | 11, _ => exact gx_mu (gx_t_1 (List.mem_of_getElem? (i := 181) rfl)) rfl
  | 12, _ => exact gx_mu (gx_t_1 (List.mem_of_getElem? (i := 183) rfl)) rfl
  | k + 13, hk => exact absurd hk (by omega)
theorem cls_X0 {ι : Nat → ClassId} {cl : List vw_C} {tys : List (ClassId × FieldType)} (hx : gx_std vwCl (gty ι) cl tys) : gx_cls cl 0 RX0 TX0 13 tyX0 := ⟨by rw [hx.1]; rfl, tyX0_ok, nmX0⟩
theorem iu_X1 : ∀ w ∈ u_ws RX1 TX1 3, w ∈ gx_U := by
  intro w hw
  obtain ⟨k, hk, rfl⟩ := List.mem_map.mp hw
  have hk := List.mem_range.mp hk
  match k, hk with
  | 0, _ => exact gx_mu (gx_t_1 (List.mem_of_getElem? (i := 238) rfl)) rfl
  | 1, _ => exact gx_mu (gx_t_2 (List.mem_of_getElem? (i := 0) rfl)) rfl
  | 2, _ => exact gx_mu (gx_t_2 (List.mem_of_getElem? (i := 2) rfl)) rfl
  | k + 3, hk => exact absurd hk (by omega)
theorem cls_X1 {ι : Nat → ClassId} {cl : List vw_C} {tys : List (ClassId × FieldType)} (hx : gx_std vwCl (gty ι) cl tys) : gx_cls cl 1 RX1 TX1 3 tyX1 := ⟨by rw [hx.1]; rfl, tyX1_ok, nmX1⟩
theorem iu_X2 : ∀ w ∈ u_ws RX2 TX2 5, w ∈ gx_U := by
  intro w hw
  obtain ⟨k, hk, rfl⟩ := List.mem_map.mp hw
  have hk := List.mem_range.mp hk
  match k, hk with
  | 0, _ => exact gx_mu (gx_t_1 (List.mem_of_getElem? (i := 199) rfl)) rfl
  | 1, _ => exact gx_mu (gx_t_1 (List.mem_of_getElem? (i := 201) rfl)) rfl
  | 2, _ => exact gx_mu (gx_t_1 (List.mem_of_getElem? (i := 203) rfl)) rfl
  | 3, _ => exact gx_mu (gx_t_1 (List.mem_of_getElem? (i := 205) rfl)) rfl
  | 4, _ => exact gx_mu (gx_t_1 (List.mem_of_getElem? (i := 207) rfl)) rfl
  | k + 5, hk => exact absurd hk (by omega)
theorem cls_X2 {ι : Nat → ClassId} {cl : List vw_C} {tys : List (ClassId × FieldType)} (hx : gx_std vwCl (gty ι) cl tys) : gx_cls cl 2 RX2 TX2 5 tyX2 := ⟨by rw [hx.1]; rfl, tyX2_ok, nmX2⟩
theorem iu_X3 : ∀ w ∈ u_ws RX3 TX3 10, w ∈ gx_U := by
  intro w hw
  obtain ⟨k, hk, rfl⟩ := List.mem_map.mp hw
  have hk := List.mem_range.mp hk
  match k, hk with
  | 0, _ => exact gx_mu (gx_t_2 (List.mem_of_getElem? (i := 21) rfl)) rfl
  | 1, _ => exact gx_mu (gx_t_2 (List.mem_of_getElem? (i := 23) rfl)) rfl
  | 2, _ => exact gx_mu (gx_t_2 (List.mem_of_getElem? (i := 25) rfl)) rfl
  | 3, _ => exact gx_mu (gx_t_2 (List.mem_of_getElem? (i := 27) rfl)) rfl
  | 4, _ => exact gx_mu (gx_t_2 (List.mem_of_getElem? (i := 29) rfl)) rfl
  | 5, _ => exact gx_mu (gx_t_2 (List.mem_of_getElem? (i := 31) rfl)) rfl
  | 6, _ => exact gx_mu (gx_t_2 (List.mem_of_getElem? (i := 33) rfl)) rfl
  | 7, _ => exact gx_mu (gx_t_2 (List.mem_of_getElem? (i := 35) rfl)) rfl
  | 8, _ => exact gx_mu (gx_t_2 (List.mem_of_getElem? (i := 37) rfl)) rfl
  | 9, _ => exact gx_mu (gx_t_2 (List.mem_of_getElem? (i := 39) rfl)) rfl
  | k + 10, hk => exact absurd hk (by omega)
theorem cls_X3 {ι : Nat → ClassId} {cl : List vw_C} {tys : List (ClassId × FieldType)} (hx : gx_std vwCl (gty ι) cl tys) : gx_cls cl 3 RX3 TX3 10 tyX3 := ⟨by rw [hx.1]; rfl, tyX3_ok, nmX3⟩
theorem iu_X4 : ∀ w ∈ u_ws RX4 TX4 4, w ∈ gx_U := by
  intro w hw
  obtain ⟨k, hk, rfl⟩ := List.mem_map.mp hw
  have hk := List.mem_range.mp hk
  match k, hk with
  | 0, _ => exact gx_mu (gx_t_1 (List.mem_of_getElem? (i := 127) rfl)) rfl
  | 1, _ => exact gx_mu (gx_t_1 (List.mem_of_getElem? (i := 129) rfl)) rfl
  | 2, _ => exact gx_mu (gx_t_1 (List.mem_of_getElem? (i := 131) rfl)) rfl
  | 3, _ => exact gx_mu (gx_t_1 (List.mem_of_getElem? (i := 133) rfl)) rfl
  | k + 4, hk => exact absurd hk (by omega)
theorem cls_X4 {ι : Nat → ClassId} {cl : List vw_C} {tys : List (ClassId × FieldType)} (hx : gx_std vwCl (gty ι) cl tys) : gx_cls cl 4 RX4 TX4 4 tyX4 := ⟨by rw [hx.1]; rfl, tyX4_ok, nmX4⟩
theorem iu_X5 : ∀ w ∈ u_ws RX5 TX5 14, w ∈ gx_U := by
  intro w hw
  obtain ⟨k, hk, rfl⟩ := List.mem_map.mp hw
  have hk := List.mem_range.mp hk
  match k, hk with
  | 0, _ => exact gx_mu (gx_t_1 (List.mem_of_getElem? (i := 79) rfl)) rfl
  | 1, _ => exact gx_mu (gx_t_1 (List.mem_of_getElem? (i := 81) rfl)) rfl
  | 2, _ => exact gx_mu (gx_t_1 (List.mem_of_getElem? (i := 83) rfl)) rfl
  | 3, _ => exact gx_mu (gx_t_1 (List.mem_of_getElem? (i := 85) rfl)) rfl
  | 4, _ => exact gx_mu (gx_t_1 (List.mem_of_getElem? (i := 87) rfl)) rfl
  | 5, _ => exact gx_mu (gx_t_1 (List.mem_of_getElem? (i := 89) rfl)) rfl
  | 6, _ => exact gx_mu (gx_t_1 (List.mem_of_getElem? (i := 91) rfl)) rfl
  | 7, _ => exact gx_mu (gx_t_1 (List.mem_of_getElem? (i := 93) rfl)) rfl
  | 8, _ => exact gx_mu (gx_t_1 (List.mem_of_getElem? (i := 95) rfl)) rfl
  | 9, _ => exact gx_mu (gx_t_1 (List.mem_of_getElem? (i := 97) rfl)) rfl
  | 10, _ => exact gx_mu (gx_t_1 (List.mem_of_getElem? (i := 99) rfl)) rfl
  | 11, _ => exact gx_mu (gx_t_1 (List.mem_of_getElem? (i := 101) rfl)) rfl
  | 12, _ => exact gx_mu (gx_t_1 (List.mem_of_getElem? (i := 103) rfl)) rfl
  | 13, _ => exact gx_mu (gx_t_1 (List.mem_of_getElem? (i := 105) rfl)) rfl
  | k + 14, hk => exact absurd hk (by omega)
theorem cls_X5 {ι : Nat → ClassId} {cl : List vw_C} {tys : List (ClassId × FieldType)} (hx : gx_std vwCl (gty ι) cl tys) : gx_cls cl 5 RX5 TX5 14 tyX5 := ⟨by rw [hx.1]; rfl, tyX5_ok, nmX5⟩
theorem iu_X6 : ∀ w ∈ u_ws RX6 TX6 2, w ∈ gx_U := by
  intro w hw
  obtain ⟨k, hk, rfl⟩ := List.mem_map.mp hw
  have hk := List.mem_range.mp hk
  match k, hk with
  | 0, _ => exact gx_mu (gx_t_1 (List.mem_of_getElem? (i := 222) rfl)) rfl
  | 1, _ => exact gx_mu (gx_t_1 (List.mem_of_getElem? (i := 224) rfl)) rfl
  | k + 2, hk => exact absurd hk (by omega)
theorem cls_X6 {ι : Nat → ClassId} {cl : List vw_C} {tys : List (ClassId × FieldType)} (hx : gx_std vwCl (gty ι) cl tys) : gx_cls cl 6 RX6 TX6 2 tyX6 := ⟨by rw [hx.1]; rfl, tyX6_ok, nmX6⟩
theorem iu_X7 : ∀ w ∈ u_ws RX7 TX7 15, w ∈ gx_U := by
  intro w hw
  obtain ⟨k, hk, rfl⟩ := List.mem_map.mp hw
  have hk := List.mem_range.mp hk
  match k, hk with
  | 0, _ => exact gx_mu (gx_t_2 (List.mem_of_getElem? (i := 57) rfl)) rfl
  | 1, _ => exact gx_mu (gx_t_2 (List.mem_of_getElem? (i := 59) rfl)) rfl
  | 2, _ => exact gx_mu (gx_t_2 (List.mem_of_getElem? (i := 61) rfl)) rfl
  | 3, _ => exact gx_mu (gx_t_2 (List.mem_of_getElem? (i := 63) rfl)) rfl
  | 4, _ => exact gx_mu (gx_t_2 (List.mem_of_getElem? (i := 65) rfl)) rfl
  | 5, _ => exact gx_mu (gx_t_2 (List.mem_of_getElem? (i := 67) rfl)) rfl
  | 6, _ => exact gx_mu (gx_t_2 (List.mem_of_getElem? (i := 69) rfl)) rfl
  | 7, _ => exact gx_mu (gx_t_2 (List.mem_of_getElem? (i := 71) rfl)) rfl
  | 8, _ => exact gx_mu (gx_t_2 (List.mem_of_getElem? (i := 73) rfl)) rfl
  | 9, _ => exact gx_mu (gx_t_2 (List.mem_of_getElem? (i := 75) rfl)) rfl
  | 10, _ => exact gx_mu (gx_t_2 (List.mem_of_getElem? (i := 77) rfl)) rfl
  | 11, _ => exact gx_mu (gx_t_2 (List.mem_of_getElem? (i := 79) rfl)) rfl
  | 12, _ => exact gx_mu (gx_t_2 (List.mem_of_getElem? (i := 81) rfl)) rfl
  | 13, _ => exact gx_mu (gx_t_2 (List.mem_of_getElem? (i := 83) rfl)) rfl
  | 14, _ => exact gx_mu (gx_t_2 (List.mem_of_getElem? (i := 85) rfl)) rfl
  | k + 15, hk => exact absurd hk (by omega)
theorem cls_X7 {ι : Nat → ClassId} {cl : List vw_C} {tys : List (ClassId × FieldType)} (hx : gx_std vwCl (gty ι) cl tys) : gx_cls cl 7 RX7 TX7 15 tyX7 := ⟨by rw [hx.1]; rfl, tyX7_ok, nmX7⟩
theorem iu_X8 : ∀ w ∈ u_ws RX8 TX8 42, w ∈ gx_U := by
  intro w hw
  obtain ⟨k, hk, rfl⟩ := List.mem_map.mp hw
  have hk := List.mem_range.mp hk
  match k, hk with
  | 0, _ => exact gx_mu (gx_t_4 (List.mem_of_getElem? (i := 131) rfl)) rfl
  | 1, _ => exact gx_mu (gx_t_4 (List.mem_of_getElem? (i := 133) rfl)) rfl
  | 2, _ => exact gx_mu (gx_t_4 (List.mem_of_getElem? (i := 135) rfl)) rfl
  | 3, _ => exact gx_mu (gx_t_4 (List.mem_of_getElem? (i := 137) rfl)) rfl
  | 4, _ => exact gx_mu (gx_t_4 (List.mem_of_getElem? (i := 139) rfl)) rfl
  | 5, _ => exact gx_mu (gx_t_4 (List.mem_of_getElem? (i := 141) rfl)) rfl
  | 6, _ => exact gx_mu (gx_t_4 (List.mem_of_getElem? (i := 143) rfl)) rfl
  | 7, _ => exact gx_mu (gx_t_4 (List.mem_of_getElem? (i := 145) rfl)) rfl
  | 8, _ => exact gx_mu (gx_t_4 (List.mem_of_getElem? (i := 147) rfl)) rfl
  | 9, _ => exact gx_mu (gx_t_4 (List.mem_of_getElem? (i := 149) rfl)) rfl
  | 10, _ => exact gx_mu (gx_t_4 (List.mem_of_getElem? (i := 151) rfl)) rfl
  | 11, _ => exact gx_mu (gx_t_4 (List.mem_of_getElem? (i := 153) rfl)) rfl
  | 12, _ => exact gx_mu (gx_t_4 (List.mem_of_getElem? (i := 155) rfl)) rfl
  | 13, _ => exact gx_mu (gx_t_4 (List.mem_of_getElem? (i := 157) rfl)) rfl
  | 14, _ => exact gx_mu (gx_t_4 (List.mem_of_getElem? (i := 159) rfl)) rfl
  | 15, _ => exact gx_mu (gx_t_4 (List.mem_of_getElem? (i := 161) rfl)) rfl
  | 16, _ => exact gx_mu (gx_t_4 (List.mem_of_getElem? (i := 163) rfl)) rfl
  | 17, _ => exact gx_mu (gx_t_4 (List.mem_of_getElem? (i := 165) rfl)) rfl
  | 18, _ => exact gx_mu (gx_t_4 (List.mem_of_getElem? (i := 167) rfl)) rfl
  | 19, _ => exact gx_mu (gx_t_4 (List.mem_of_getElem? (i := 169) rfl)) rfl
  | 20, _ => exact gx_mu (gx_t_4 (List.mem_of_getElem? (i := 171) rfl)) rfl
  | 21, _ => exact gx_mu (gx_t_4 (List.mem_of_getElem? (i := 173) rfl)) rfl
  | 22, _ => exact gx_mu (gx_t_4 (List.mem_of_getElem? (i := 175) rfl)) rfl
  | 23, _ => exact gx_mu (gx_t_4 (List.mem_of_getElem? (i := 177) rfl)) rfl
  | 24, _ => exact gx_mu (gx_t_4 (List.mem_of_getElem? (i := 179) rfl)) rfl
  | 25, _ => exact gx_mu (gx_t_4 (List.mem_of_getElem? (i := 181) rfl)) rfl
  | 26, _ => exact gx_mu (gx_t_4 (List.mem_of_getElem? (i := 183) rfl)) rfl
  | 27, _ => exact gx_mu (gx_t_4 (List.mem_of_getElem? (i := 185) rfl)) rfl
  | 28, _ => exact gx_mu (gx_t_4 (List.mem_of_getElem? (i := 187) rfl)) rfl
  | 29, _ => exact gx_mu (gx_t_4 (List.mem_of_getElem? (i := 189) rfl)) rfl
  | 30, _ => exact gx_mu (gx_t_4 (List.mem_of_getElem? (i := 191) rfl)) rfl
  | 31, _ => exact gx_mu (gx_t_4 (List.mem_of_getElem? (i := 193) rfl)) rfl
  | 32, _ => exact gx_mu (gx_t_4 (List.mem_of_getElem? (i := 195) rfl)) rfl
  | 33, _ => exact gx_mu (gx_t_4 (List.mem_of_getElem? (i := 197) rfl)) rfl
  | 34, _ => exact gx_mu (gx_t_4 (List.mem_of_getElem? (i := 199) rfl)) rfl
  | 35, _ => exact gx_mu (gx_t_4 (List.mem_of_getElem? (i := 201) rfl)) rfl
  | 36, _ => exact gx_mu (gx_t_4 (List.mem_of_getElem? (i := 203) rfl)) rfl
  | 37, _ => exact gx_mu (gx_t_4 (List.mem_of_getElem? (i := 205) rfl)) rfl
  | 38, _ => exact gx_mu (gx_t_4 (List.mem_of_getElem? (i := 207) rfl)) rfl
  | 39, _ => exact gx_mu (gx_t_4 (List.mem_of_getElem? (i := 209) rfl)) rfl
  | 40, _ => exact gx_mu (gx_t_4 (List.mem_of_getElem? (i := 211) rfl)) rfl
  | 41, _ => exact gx_mu (gx_t_4 (List.mem_of_getElem? (i := 213) rfl)) rfl
  | k + 42, hk => exact absurd hk (by omega)
theorem cls_X8 {ι : Nat → ClassId} {cl : List vw_C} {tys : List (ClassId × FieldType)} (hx : gx_std vwCl (gty ι) cl tys) : gx_cls cl 8 RX8 TX8 42 tyX8 := ⟨by rw [hx.1]; rfl, tyX8_ok, nmX8⟩
theorem fl_X5_9 : gx_fl gx_U RX5 9 RX5 TX5 14 3 := ⟨iu_X5, by decide, gx_mu (gx_t_1 (List.mem_of_getElem? (i := 44) rfl)) rfl, rfl⟩
theorem fl_X5_21 : gx_fl gx_U RX5 21 RX5 TX5 14 6 := ⟨iu_X5, by decide, gx_mu (gx_t_1 (List.mem_of_getElem? (i := 55) rfl)) rfl, rfl⟩
theorem fl_X5_15 : gx_fl gx_U RX5 15 RX5 TX5 14 4 := ⟨iu_X5, by decide, gx_mu (gx_t_1 (List.mem_of_getElem? (i := 48) rfl)) rfl, rfl⟩
theorem wt_Math_max : Cond.static Lib.Math.max.name ∈ gx_U := gx_mu (gx_t_2 (List.mem_of_getElem? (i := 209) rfl)) rfl
theorem wi_Math : Cond.initialized "java/lang/Math" ∈ gx_U := gx_mu (gx_t_1 (List.mem_of_getElem? (i := 11) rfl)) rfl
theorem wc_Math_max : Cond.code Lib.Math.max.name Lib.Math.max.code 2 (some .int) ∈ gx_U := gx_mu (gx_t_2 (List.mem_of_getElem? (i := 210) rfl)) rfl
theorem lk_X5_67 : gx_lkmax gx_U RX5 67 := ⟨gx_mu (gx_t_2 (List.mem_of_getElem? (i := 208) rfl)) rfl, wt_Math_max, wi_Math, wc_Math_max⟩
theorem fl_X0_59 : gx_fl gx_U RX0 59 RX0 TX0 13 5 := ⟨iu_X0, by decide, gx_mu (gx_t_1 (List.mem_of_getElem? (i := 149) rfl)) rfl, rfl⟩
theorem fl_X0_41 : gx_fl gx_U RX0 41 RX0 TX0 13 0 := ⟨iu_X0, by decide, gx_mu (gx_t_1 (List.mem_of_getElem? (i := 144) rfl)) rfl, rfl⟩
theorem fl_X0_102 : gx_fl gx_U RX0 102 RX5 TX5 14 1 := ⟨iu_X5, by decide, gx_mu (gx_t_1 (List.mem_of_getElem? (i := 35) rfl)) rfl, rfl⟩
theorem fl_X0_105 : gx_fl gx_U RX0 105 RX4 TX4 4 2 := ⟨iu_X4, by decide, gx_mu (gx_t_1 (List.mem_of_getElem? (i := 122) rfl)) rfl, rfl⟩
theorem fl_X0_9 : gx_fl gx_U RX0 9 RX0 TX0 13 1 := ⟨iu_X0, by decide, gx_mu (gx_t_1 (List.mem_of_getElem? (i := 145) rfl)) rfl, rfl⟩
theorem fl_X0_15 : gx_fl gx_U RX0 15 RX0 TX0 13 2 := ⟨iu_X0, by decide, gx_mu (gx_t_1 (List.mem_of_getElem? (i := 146) rfl)) rfl, rfl⟩
theorem wc_X5_costTo : Cond.code yX5_costTo cX5_costTo 3 ((Option.some Jvm.ClassFile.FieldType.int)) ∈ gx_U := gx_mu (gx_t_2 (List.mem_of_getElem? (i := 207) rfl)) rfl
theorem wi_X5 : Cond.initialized RX5 ∈ gx_U := gx_mu (gx_t_1 (List.mem_of_getElem? (i := 2) rfl)) rfl
theorem wn_X5_costTo : Cond.instanceMethod yX5_costTo ∈ gx_U := gx_mu (gx_t_2 (List.mem_of_getElem? (i := 205) rfl)) rfl
theorem ws_X5_costTo : Cond.selects RX5 yX5_costTo yX5_costTo ∈ gx_U := gx_mu (gx_t_2 (List.mem_of_getElem? (i := 206) rfl)) rfl
theorem lk_X0_108 : gx_lk gx_U RX0 108 RX5 yX5_costTo cX5_costTo 3 ((Option.some Jvm.ClassFile.FieldType.int)) 2 := ⟨gx_mu (gx_t_2 (List.mem_of_getElem? (i := 223) rfl)) rfl, wn_X5_costTo, ws_X5_costTo, wi_X5, wc_X5_costTo, rfl, by decide +kernel, by decide +kernel, by decide +kernel⟩
theorem fl_X0_21 : gx_fl gx_U RX0 21 RX0 TX0 13 4 := ⟨iu_X0, by decide, gx_mu (gx_t_1 (List.mem_of_getElem? (i := 148) rfl)) rfl, rfl⟩
theorem fl_X0_62 : gx_fl gx_U RX0 62 RX4 TX4 4 1 := ⟨iu_X4, by decide, gx_mu (gx_t_1 (List.mem_of_getElem? (i := 117) rfl)) rfl, rfl⟩
theorem fl_X4_9 : gx_fl gx_U RX4 9 RX4 TX4 4 1 := ⟨iu_X4, by decide, gx_mu (gx_t_1 (List.mem_of_getElem? (i := 116) rfl)) rfl, rfl⟩
theorem fl_X4_22 : gx_fl gx_U RX4 22 RX4 TX4 4 0 := ⟨iu_X4, by decide, gx_mu (gx_t_1 (List.mem_of_getElem? (i := 115) rfl)) rfl, rfl⟩
theorem fl_X4_56 : gx_fl gx_U RX4 56 RX5 TX5 14 13 := ⟨iu_X5, by decide, gx_mu (gx_t_1 (List.mem_of_getElem? (i := 77) rfl)) rfl, rfl⟩
theorem fl_X4_15 : gx_fl gx_U RX4 15 RX4 TX4 4 2 := ⟨iu_X4, by decide, gx_mu (gx_t_1 (List.mem_of_getElem? (i := 119) rfl)) rfl, rfl⟩
theorem fl_X4_41 : gx_fl gx_U RX4 41 RX5 TX5 14 3 := ⟨iu_X5, by decide, gx_mu (gx_t_1 (List.mem_of_getElem? (i := 47) rfl)) rfl, rfl⟩
theorem fl_X4_18 : gx_fl gx_U RX4 18 RX4 TX4 4 3 := ⟨iu_X4, by decide, gx_mu (gx_t_1 (List.mem_of_getElem? (i := 124) rfl)) rfl, rfl⟩
theorem fl_X4_60 : gx_fl gx_U RX4 60 RX5 TX5 14 10 := ⟨iu_X5, by decide, gx_mu (gx_t_1 (List.mem_of_getElem? (i := 70) rfl)) rfl, rfl⟩
theorem fl_X4_26 : gx_fl gx_U RX4 26 RX5 TX5 14 1 := ⟨iu_X5, by decide, gx_mu (gx_t_1 (List.mem_of_getElem? (i := 33) rfl)) rfl, rfl⟩
theorem wc_X4_whatIs : Cond.code yX4_whatIs cX4_whatIs 3 ((Option.some Jvm.ClassFile.FieldType.int)) ∈ gx_U := gx_mu (gx_t_2 (List.mem_of_getElem? (i := 159) rfl)) rfl
theorem wi_X4 : Cond.initialized RX4 ∈ gx_U := gx_mu (gx_t_1 (List.mem_of_getElem? (i := 3) rfl)) rfl
theorem wn_X4_whatIs : Cond.instanceMethod yX4_whatIs ∈ gx_U := gx_mu (gx_t_2 (List.mem_of_getElem? (i := 157) rfl)) rfl
theorem ws_X4_whatIs : Cond.selects RX4 yX4_whatIs yX4_whatIs ∈ gx_U := gx_mu (gx_t_2 (List.mem_of_getElem? (i := 158) rfl)) rfl
theorem lk_X4_63 : gx_lk gx_U RX4 63 RX4 yX4_whatIs cX4_whatIs 3 ((Option.some Jvm.ClassFile.FieldType.int)) 2 := ⟨gx_mu (gx_t_2 (List.mem_of_getElem? (i := 156) rfl)) rfl, wn_X4_whatIs, ws_X4_whatIs, wi_X4, wc_X4_whatIs, rfl, by decide +kernel, by decide +kernel, by decide +kernel⟩
theorem wc_X4_isOpen : Cond.code yX4_isOpen cX4_isOpen 3 ((Option.some Jvm.ClassFile.FieldType.boolean)) ∈ gx_U := gx_mu (gx_t_2 (List.mem_of_getElem? (i := 147) rfl)) rfl
theorem wn_X4_isOpen : Cond.instanceMethod yX4_isOpen ∈ gx_U := gx_mu (gx_t_2 (List.mem_of_getElem? (i := 145) rfl)) rfl
theorem ws_X4_isOpen : Cond.selects RX4 yX4_isOpen yX4_isOpen ∈ gx_U := gx_mu (gx_t_2 (List.mem_of_getElem? (i := 146) rfl)) rfl
theorem lk_X4_44 : gx_lk gx_U RX4 44 RX4 yX4_isOpen cX4_isOpen 3 ((Option.some Jvm.ClassFile.FieldType.boolean)) 1 := ⟨gx_mu (gx_t_2 (List.mem_of_getElem? (i := 160) rfl)) rfl, wn_X4_isOpen, ws_X4_isOpen, wi_X4, wc_X4_isOpen, rfl, by decide +kernel, by decide +kernel, by decide +kernel⟩
theorem fl_X4_70 : gx_fl gx_U RX4 70 RX5 TX5 14 2 := ⟨iu_X5, by decide, gx_mu (gx_t_1 (List.mem_of_getElem? (i := 42) rfl)) rfl, rfl⟩
theorem wc_X4_choice : Cond.code yX4_choice cX4_choice 7 ((Option.some Jvm.ClassFile.FieldType.int)) ∈ gx_U := gx_mu (gx_t_2 (List.mem_of_getElem? (i := 155) rfl)) rfl
theorem wn_X4_choice : Cond.instanceMethod yX4_choice ∈ gx_U := gx_mu (gx_t_2 (List.mem_of_getElem? (i := 153) rfl)) rfl
theorem ws_X4_choice : Cond.selects RX4 yX4_choice yX4_choice ∈ gx_U := gx_mu (gx_t_2 (List.mem_of_getElem? (i := 154) rfl)) rfl
theorem lk_X4_67 : gx_lk gx_U RX4 67 RX4 yX4_choice cX4_choice 7 ((Option.some Jvm.ClassFile.FieldType.int)) 2 := ⟨gx_mu (gx_t_2 (List.mem_of_getElem? (i := 152) rfl)) rfl, wn_X4_choice, ws_X4_choice, wi_X4, wc_X4_choice, rfl, by decide +kernel, by decide +kernel, by decide +kernel⟩
theorem fl_X4_73 : gx_fl gx_U RX4 73 RX5 TX5 14 8 := ⟨iu_X5, by decide, gx_mu (gx_t_1 (List.mem_of_getElem? (i := 64) rfl)) rfl, rfl⟩
theorem lk_X4_76 : gx_lk gx_U RX4 76 RX5 yX5_costTo cX5_costTo 3 ((Option.some Jvm.ClassFile.FieldType.int)) 2 := ⟨gx_mu (gx_t_2 (List.mem_of_getElem? (i := 204) rfl)) rfl, wn_X5_costTo, ws_X5_costTo, wi_X5, wc_X5_costTo, rfl, by decide +kernel, by decide +kernel, by decide +kernel⟩
theorem fl_X0_112 : gx_fl gx_U RX0 112 RX5 TX5 14 2 := ⟨iu_X5, by decide, gx_mu (gx_t_1 (List.mem_of_getElem? (i := 41) rfl)) rfl, rfl⟩
theorem fl_X0_26 : gx_fl gx_U RX0 26 RX0 TX0 13 6 := ⟨iu_X0, by decide, gx_mu (gx_t_1 (List.mem_of_getElem? (i := 150) rfl)) rfl, rfl⟩
theorem fl_X0_115 : gx_fl gx_U RX0 115 RX5 TX5 14 10 := ⟨iu_X5, by decide, gx_mu (gx_t_1 (List.mem_of_getElem? (i := 69) rfl)) rfl, rfl⟩
theorem fl_X0_29 : gx_fl gx_U RX0 29 RX0 TX0 13 7 := ⟨iu_X0, by decide, gx_mu (gx_t_1 (List.mem_of_getElem? (i := 151) rfl)) rfl, rfl⟩
theorem fl_X0_32 : gx_fl gx_U RX0 32 RX0 TX0 13 8 := ⟨iu_X0, by decide, gx_mu (gx_t_1 (List.mem_of_getElem? (i := 152) rfl)) rfl, rfl⟩
theorem lk_X0_118 : gx_lk gx_U RX0 118 RX4 yX4_whatIs cX4_whatIs 3 ((Option.some Jvm.ClassFile.FieldType.int)) 2 := ⟨gx_mu (gx_t_2 (List.mem_of_getElem? (i := 230) rfl)) rfl, wn_X4_whatIs, ws_X4_whatIs, wi_X4, wc_X4_whatIs, rfl, by decide +kernel, by decide +kernel, by decide +kernel⟩
theorem lk_X0_121 : gx_lk gx_U RX0 121 RX4 yX4_isOpen cX4_isOpen 3 ((Option.some Jvm.ClassFile.FieldType.boolean)) 1 := ⟨gx_mu (gx_t_2 (List.mem_of_getElem? (i := 231) rfl)) rfl, wn_X4_isOpen, ws_X4_isOpen, wi_X4, wc_X4_isOpen, rfl, by decide +kernel, by decide +kernel, by decide +kernel⟩
theorem fl_X0_141 : gx_fl gx_U RX0 141 RX5 TX5 14 13 := ⟨iu_X5, by decide, gx_mu (gx_t_1 (List.mem_of_getElem? (i := 78) rfl)) rfl, rfl⟩
theorem fl_X0_18 : gx_fl gx_U RX0 18 RX0 TX0 13 3 := ⟨iu_X0, by decide, gx_mu (gx_t_1 (List.mem_of_getElem? (i := 147) rfl)) rfl, rfl⟩
theorem wc_X0_highestFor : Cond.code yX0_highestFor cX0_highestFor 5 ((Option.some Jvm.ClassFile.FieldType.int)) ∈ gx_U := gx_mu (gx_t_3 (List.mem_of_getElem? (i := 3) rfl)) rfl
theorem wi_X0 : Cond.initialized RX0 ∈ gx_U := gx_mu (gx_t_1 (List.mem_of_getElem? (i := 4) rfl)) rfl
theorem wn_X0_highestFor : Cond.instanceMethod yX0_highestFor ∈ gx_U := gx_mu (gx_t_3 (List.mem_of_getElem? (i := 2) rfl)) rfl
theorem ws_X0_highestFor : Cond.selects RX0 yX0_highestFor yX0_highestFor ∈ gx_U := gx_mu (gx_t_p (List.mem_of_getElem? (i := 8) rfl)) rfl
theorem lk_X0_138 : gx_lk gx_U RX0 138 RX0 yX0_highestFor cX0_highestFor 5 ((Option.some Jvm.ClassFile.FieldType.int)) 2 := ⟨gx_mu (gx_t_3 (List.mem_of_getElem? (i := 0) rfl)) rfl, wn_X0_highestFor, ws_X0_highestFor, wi_X0, wc_X0_highestFor, rfl, by decide +kernel, by decide +kernel, by decide +kernel⟩
theorem fl_X0_85 : gx_fl gx_U RX0 85 RX0 TX0 13 11 := ⟨iu_X0, by decide, gx_mu (gx_t_1 (List.mem_of_getElem? (i := 155) rfl)) rfl, rfl⟩
theorem wc_X0_putPrice : Cond.code yX0_putPrice cX0_putPrice 6 ((Option.none : Option Jvm.ClassFile.FieldType)) ∈ gx_U := gx_mu (gx_t_2 (List.mem_of_getElem? (i := 239) rfl)) rfl
theorem wn_X0_putPrice : Cond.instanceMethod yX0_putPrice ∈ gx_U := gx_mu (gx_t_2 (List.mem_of_getElem? (i := 238) rfl)) rfl
theorem ws_X0_putPrice : Cond.selects RX0 yX0_putPrice yX0_putPrice ∈ gx_U := gx_mu (gx_t_p (List.mem_of_getElem? (i := 7) rfl)) rfl
theorem lk_X0_125 : gx_lk gx_U RX0 125 RX0 yX0_putPrice cX0_putPrice 6 ((Option.none : Option Jvm.ClassFile.FieldType)) 2 := ⟨gx_mu (gx_t_2 (List.mem_of_getElem? (i := 236) rfl)) rfl, wn_X0_putPrice, ws_X0_putPrice, wi_X0, wc_X0_putPrice, rfl, by decide +kernel, by decide +kernel, by decide +kernel⟩
theorem fl_X0_129 : gx_fl gx_U RX0 129 RX5 TX5 14 8 := ⟨iu_X5, by decide, gx_mu (gx_t_1 (List.mem_of_getElem? (i := 63) rfl)) rfl, rfl⟩
theorem wc_X0_keepIfBetter : Cond.code yX0_keepIfBetter cX0_keepIfBetter 3 ((Option.none : Option Jvm.ClassFile.FieldType)) ∈ gx_U := gx_mu (gx_t_3 (List.mem_of_getElem? (i := 7) rfl)) rfl
theorem wn_X0_keepIfBetter : Cond.instanceMethod yX0_keepIfBetter ∈ gx_U := gx_mu (gx_t_3 (List.mem_of_getElem? (i := 6) rfl)) rfl
theorem ws_X0_keepIfBetter : Cond.selects RX0 yX0_keepIfBetter yX0_keepIfBetter ∈ gx_U := gx_mu (gx_t_p (List.mem_of_getElem? (i := 9) rfl)) rfl
theorem lk_X0_132 : gx_lk gx_U RX0 132 RX0 yX0_keepIfBetter cX0_keepIfBetter 3 ((Option.none : Option Jvm.ClassFile.FieldType)) 1 := ⟨gx_mu (gx_t_3 (List.mem_of_getElem? (i := 4) rfl)) rfl, wn_X0_keepIfBetter, ws_X0_keepIfBetter, wi_X0, wc_X0_keepIfBetter, rfl, by decide +kernel, by decide +kernel, by decide +kernel⟩
theorem fl_X0_35 : gx_fl gx_U RX0 35 RX0 TX0 13 9 := ⟨iu_X0, by decide, gx_mu (gx_t_1 (List.mem_of_getElem? (i := 153) rfl)) rfl, rfl⟩
theorem fl_X0_38 : gx_fl gx_U RX0 38 RX0 TX0 13 10 := ⟨iu_X0, by decide, gx_mu (gx_t_1 (List.mem_of_getElem? (i := 154) rfl)) rfl, rfl⟩
theorem wt_Math_min : Cond.static Lib.Math.min.name ∈ gx_U := gx_mu (gx_t_3 (List.mem_of_getElem? (i := 17) rfl)) rfl
theorem wc_Math_min : Cond.code Lib.Math.min.name Lib.Math.min.code 2 (some .int) ∈ gx_U := gx_mu (gx_t_3 (List.mem_of_getElem? (i := 18) rfl)) rfl
theorem lk_X0_144 : gx_lkmin gx_U RX0 144 := ⟨gx_mu (gx_t_3 (List.mem_of_getElem? (i := 16) rfl)) rfl, wt_Math_min, wi_Math, wc_Math_min⟩
theorem wc_X0_tryLastPrice : Cond.code yX0_tryLastPrice cX0_tryLastPrice 7 ((Option.none : Option Jvm.ClassFile.FieldType)) ∈ gx_U := gx_mu (gx_t_3 (List.mem_of_getElem? (i := 15) rfl)) rfl
theorem wn_X0_tryLastPrice : Cond.instanceMethod yX0_tryLastPrice ∈ gx_U := gx_mu (gx_t_3 (List.mem_of_getElem? (i := 14) rfl)) rfl
theorem ws_X0_tryLastPrice : Cond.selects RX0 yX0_tryLastPrice yX0_tryLastPrice ∈ gx_U := gx_mu (gx_t_p (List.mem_of_getElem? (i := 11) rfl)) rfl
theorem lk_X0_135 : gx_lk gx_U RX0 135 RX0 yX0_tryLastPrice cX0_tryLastPrice 7 ((Option.none : Option Jvm.ClassFile.FieldType)) 1 := ⟨gx_mu (gx_t_3 (List.mem_of_getElem? (i := 12) rfl)) rfl, wn_X0_tryLastPrice, ws_X0_tryLastPrice, wi_X0, wc_X0_tryLastPrice, rfl, by decide +kernel, by decide +kernel, by decide +kernel⟩
theorem wc_X0_tryPrices : Cond.code yX0_tryPrices cX0_tryPrices 3 ((Option.none : Option Jvm.ClassFile.FieldType)) ∈ gx_U := gx_mu (gx_t_3 (List.mem_of_getElem? (i := 11) rfl)) rfl
theorem wn_X0_tryPrices : Cond.instanceMethod yX0_tryPrices ∈ gx_U := gx_mu (gx_t_3 (List.mem_of_getElem? (i := 10) rfl)) rfl
theorem ws_X0_tryPrices : Cond.selects RX0 yX0_tryPrices yX0_tryPrices ∈ gx_U := gx_mu (gx_t_p (List.mem_of_getElem? (i := 10) rfl)) rfl
theorem lk_X0_95 : gx_lk gx_U RX0 95 RX0 yX0_tryPrices cX0_tryPrices 3 ((Option.none : Option Jvm.ClassFile.FieldType)) 1 := ⟨gx_mu (gx_t_3 (List.mem_of_getElem? (i := 8) rfl)) rfl, wn_X0_tryPrices, ws_X0_tryPrices, wi_X0, wc_X0_tryPrices, rfl, by decide +kernel, by decide +kernel, by decide +kernel⟩
theorem wc_X0_listShops : Cond.code yX0_listShops cX0_listShops 4 ((Option.none : Option Jvm.ClassFile.FieldType)) ∈ gx_U := gx_mu (gx_t_2 (List.mem_of_getElem? (i := 222) rfl)) rfl
theorem wn_X0_listShops : Cond.instanceMethod yX0_listShops ∈ gx_U := gx_mu (gx_t_2 (List.mem_of_getElem? (i := 221) rfl)) rfl
theorem ws_X0_listShops : Cond.selects RX0 yX0_listShops yX0_listShops ∈ gx_U := gx_mu (gx_t_p (List.mem_of_getElem? (i := 4) rfl)) rfl
theorem lk_X0_75 : gx_lk gx_U RX0 75 RX0 yX0_listShops cX0_listShops 4 ((Option.none : Option Jvm.ClassFile.FieldType)) 2 := ⟨gx_mu (gx_t_2 (List.mem_of_getElem? (i := 219) rfl)) rfl, wn_X0_listShops, ws_X0_listShops, wi_X0, wc_X0_listShops, rfl, by decide +kernel, by decide +kernel, by decide +kernel⟩
theorem fl_X0_78 : gx_fl gx_U RX0 78 RX5 TX5 14 3 := ⟨iu_X5, by decide, gx_mu (gx_t_1 (List.mem_of_getElem? (i := 46) rfl)) rfl, rfl⟩
theorem fl_X0_71 : gx_fl gx_U RX0 71 RX0 TX0 13 12 := ⟨iu_X0, by decide, gx_mu (gx_t_1 (List.mem_of_getElem? (i := 157) rfl)) rfl, rfl⟩
theorem wc_X4_profitOf : Cond.code yX4_profitOf cX4_profitOf 5 ((Option.some Jvm.ClassFile.FieldType.int)) ∈ gx_U := gx_mu (gx_t_2 (List.mem_of_getElem? (i := 203) rfl)) rfl
theorem wn_X4_profitOf : Cond.instanceMethod yX4_profitOf ∈ gx_U := gx_mu (gx_t_2 (List.mem_of_getElem? (i := 201) rfl)) rfl
theorem ws_X4_profitOf : Cond.selects RX4 yX4_profitOf yX4_profitOf ∈ gx_U := gx_mu (gx_t_2 (List.mem_of_getElem? (i := 202) rfl)) rfl
theorem lk_X0_81 : gx_lk gx_U RX0 81 RX4 yX4_profitOf cX4_profitOf 5 ((Option.some Jvm.ClassFile.FieldType.int)) 1 := ⟨gx_mu (gx_t_2 (List.mem_of_getElem? (i := 224) rfl)) rfl, wn_X4_profitOf, ws_X4_profitOf, wi_X4, wc_X4_profitOf, rfl, by decide +kernel, by decide +kernel, by decide +kernel⟩
theorem kX0_88 : Cond.constant RX0 88 (-1000000) ∈ gx_U := gx_mu (gx_t_2 (List.mem_of_getElem? (i := 225) rfl)) rfl
theorem wc_X0_layOthers : Cond.code yX0_layOthers cX0_layOthers 6 ((Option.none : Option Jvm.ClassFile.FieldType)) ∈ gx_U := gx_mu (gx_t_2 (List.mem_of_getElem? (i := 229) rfl)) rfl
theorem wn_X0_layOthers : Cond.instanceMethod yX0_layOthers ∈ gx_U := gx_mu (gx_t_2 (List.mem_of_getElem? (i := 228) rfl)) rfl
theorem ws_X0_layOthers : Cond.selects RX0 yX0_layOthers yX0_layOthers ∈ gx_U := gx_mu (gx_t_p (List.mem_of_getElem? (i := 5) rfl)) rfl
theorem lk_X0_89 : gx_lk gx_U RX0 89 RX0 yX0_layOthers cX0_layOthers 6 ((Option.none : Option Jvm.ClassFile.FieldType)) 2 := ⟨gx_mu (gx_t_2 (List.mem_of_getElem? (i := 226) rfl)) rfl, wn_X0_layOthers, ws_X0_layOthers, wi_X0, wc_X0_layOthers, rfl, by decide +kernel, by decide +kernel, by decide +kernel⟩
theorem wc_X0_tryOnePrice : Cond.code yX0_tryOnePrice cX0_tryOnePrice 4 ((Option.none : Option Jvm.ClassFile.FieldType)) ∈ gx_U := gx_mu (gx_t_2 (List.mem_of_getElem? (i := 235) rfl)) rfl
theorem wn_X0_tryOnePrice : Cond.instanceMethod yX0_tryOnePrice ∈ gx_U := gx_mu (gx_t_2 (List.mem_of_getElem? (i := 234) rfl)) rfl
theorem ws_X0_tryOnePrice : Cond.selects RX0 yX0_tryOnePrice yX0_tryOnePrice ∈ gx_U := gx_mu (gx_t_p (List.mem_of_getElem? (i := 6) rfl)) rfl
theorem lk_X0_92 : gx_lk gx_U RX0 92 RX0 yX0_tryOnePrice cX0_tryOnePrice 4 ((Option.none : Option Jvm.ClassFile.FieldType)) 0 := ⟨gx_mu (gx_t_2 (List.mem_of_getElem? (i := 232) rfl)) rfl, wn_X0_tryOnePrice, ws_X0_tryOnePrice, wi_X0, wc_X0_tryOnePrice, rfl, by decide +kernel, by decide +kernel, by decide +kernel⟩
theorem fl_X0_99 : gx_fl gx_U RX0 99 RX5 TX5 14 4 := ⟨iu_X5, by decide, gx_mu (gx_t_1 (List.mem_of_getElem? (i := 49) rfl)) rfl, rfl⟩
theorem fl_X0_67 : gx_fl gx_U RX0 67 RX4 TX4 4 3 := ⟨iu_X4, by decide, gx_mu (gx_t_1 (List.mem_of_getElem? (i := 125) rfl)) rfl, rfl⟩
theorem fl_X0_45 : gx_fl gx_U RX0 45 RX5 TX5 14 0 := ⟨iu_X5, by decide, gx_mu (gx_t_1 (List.mem_of_getElem? (i := 29) rfl)) rfl, rfl⟩
theorem wc_X0_look : Cond.code yX0_look cX0_look 4 ((Option.none : Option Jvm.ClassFile.FieldType)) ∈ gx_U := gx_mu (gx_t_2 (List.mem_of_getElem? (i := 218) rfl)) rfl
theorem wn_X0_look : Cond.instanceMethod yX0_look ∈ gx_U := gx_mu (gx_t_2 (List.mem_of_getElem? (i := 216) rfl)) rfl
theorem ws_X0_look : Cond.selects RX0 yX0_look yX0_look ∈ gx_U := gx_mu (gx_t_2 (List.mem_of_getElem? (i := 217) rfl)) rfl
theorem lk_X0_51 : gx_lk gx_U RX0 51 RX0 yX0_look cX0_look 4 ((Option.none : Option Jvm.ClassFile.FieldType)) 2 := ⟨gx_mu (gx_t_3 (List.mem_of_getElem? (i := 43) rfl)) rfl, wn_X0_look, ws_X0_look, wi_X0, wc_X0_look, rfl, by decide +kernel, by decide +kernel, by decide +kernel⟩
theorem wc_X0_take : Cond.code yX0_take cX0_take 5 ((Option.some Jvm.ClassFile.FieldType.int)) ∈ gx_U := gx_mu (gx_t_3 (List.mem_of_getElem? (i := 30) rfl)) rfl
theorem wn_X0_take : Cond.instanceMethod yX0_take ∈ gx_U := gx_mu (gx_t_3 (List.mem_of_getElem? (i := 28) rfl)) rfl
theorem ws_X0_take : Cond.selects RX0 yX0_take yX0_take ∈ gx_U := gx_mu (gx_t_3 (List.mem_of_getElem? (i := 29) rfl)) rfl
theorem lk_X0_55 : gx_lk gx_U RX0 55 RX0 yX0_take cX0_take 5 ((Option.some Jvm.ClassFile.FieldType.int)) 2 := ⟨gx_mu (gx_t_3 (List.mem_of_getElem? (i := 44) rfl)) rfl, wn_X0_take, ws_X0_take, wi_X0, wc_X0_take, rfl, by decide +kernel, by decide +kernel, by decide +kernel⟩
theorem fl_X6_15 : gx_fl gx_U RX6 15 RX6 TX6 2 1 := ⟨iu_X6, by decide, gx_mu (gx_t_1 (List.mem_of_getElem? (i := 218) rfl)) rfl, rfl⟩
theorem fl_X6_9 : gx_fl gx_U RX6 9 RX6 TX6 2 0 := ⟨iu_X6, by decide, gx_mu (gx_t_1 (List.mem_of_getElem? (i := 216) rfl)) rfl, rfl⟩
theorem fl_X1_13 : gx_fl gx_U RX1 13 RX1 TX1 3 1 := ⟨iu_X1, by decide, gx_mu (gx_t_1 (List.mem_of_getElem? (i := 236) rfl)) rfl, rfl⟩
theorem fl_X1_9 : gx_fl gx_U RX1 9 RX1 TX1 3 0 := ⟨iu_X1, by decide, gx_mu (gx_t_1 (List.mem_of_getElem? (i := 235) rfl)) rfl, rfl⟩
theorem wc_X6_isDigit : Cond.code yX6_isDigit cX6_isDigit 1 ((Option.some Jvm.ClassFile.FieldType.boolean)) ∈ gx_U := gx_mu (gx_t_3 (List.mem_of_getElem? (i := 207) rfl)) rfl
theorem wi_X6 : Cond.initialized RX6 ∈ gx_U := gx_mu (gx_t_1 (List.mem_of_getElem? (i := 6) rfl)) rfl
theorem wt_X6_isDigit : Cond.static yX6_isDigit ∈ gx_U := gx_mu (gx_t_3 (List.mem_of_getElem? (i := 206) rfl)) rfl
theorem lk_X1_45 : gx_lkS gx_U RX1 45 yX6_isDigit cX6_isDigit 1 ((Option.some Jvm.ClassFile.FieldType.boolean)) 1 := ⟨gx_mu (gx_t_3 (List.mem_of_getElem? (i := 205) rfl)) rfl, wt_X6_isDigit, wi_X6, wc_X6_isDigit, by decide +kernel, by decide +kernel, by decide +kernel⟩
theorem fl_X1_36 : gx_fl gx_U RX1 36 RX1 TX1 3 2 := ⟨iu_X1, by decide, gx_mu (gx_t_1 (List.mem_of_getElem? (i := 237) rfl)) rfl, rfl⟩
theorem wc_X1_takesFactor : Cond.code yX1_takesFactor cX1_takesFactor 2 ((Option.some Jvm.ClassFile.FieldType.boolean)) ∈ gx_U := gx_mu (gx_t_3 (List.mem_of_getElem? (i := 200) rfl)) rfl
theorem wi_X1 : Cond.initialized RX1 ∈ gx_U := gx_mu (gx_t_1 (List.mem_of_getElem? (i := 7) rfl)) rfl
theorem wn_X1_takesFactor : Cond.instanceMethod yX1_takesFactor ∈ gx_U := gx_mu (gx_t_3 (List.mem_of_getElem? (i := 199) rfl)) rfl
theorem ws_X1_takesFactor : Cond.selects RX1 yX1_takesFactor yX1_takesFactor ∈ gx_U := gx_mu (gx_t_p (List.mem_of_getElem? (i := 19) rfl)) rfl
theorem lk_X1_33 : gx_lk gx_U RX1 33 RX1 yX1_takesFactor cX1_takesFactor 2 ((Option.some Jvm.ClassFile.FieldType.boolean)) 1 := ⟨gx_mu (gx_t_3 (List.mem_of_getElem? (i := 197) rfl)) rfl, wn_X1_takesFactor, ws_X1_takesFactor, wi_X1, wc_X1_takesFactor, rfl, by decide +kernel, by decide +kernel, by decide +kernel⟩
theorem wc_X1_takesDigit : Cond.code yX1_takesDigit cX1_takesDigit 2 ((Option.some Jvm.ClassFile.FieldType.boolean)) ∈ gx_U := gx_mu (gx_t_3 (List.mem_of_getElem? (i := 204) rfl)) rfl
theorem wn_X1_takesDigit : Cond.instanceMethod yX1_takesDigit ∈ gx_U := gx_mu (gx_t_3 (List.mem_of_getElem? (i := 203) rfl)) rfl
theorem ws_X1_takesDigit : Cond.selects RX1 yX1_takesDigit yX1_takesDigit ∈ gx_U := gx_mu (gx_t_p (List.mem_of_getElem? (i := 20) rfl)) rfl
theorem lk_X1_39 : gx_lk gx_U RX1 39 RX1 yX1_takesDigit cX1_takesDigit 2 ((Option.some Jvm.ClassFile.FieldType.boolean)) 1 := ⟨gx_mu (gx_t_3 (List.mem_of_getElem? (i := 201) rfl)) rfl, wn_X1_takesDigit, ws_X1_takesDigit, wi_X1, wc_X1_takesDigit, rfl, by decide +kernel, by decide +kernel, by decide +kernel⟩
theorem wc_X1_takesBehind : Cond.code yX1_takesBehind cX1_takesBehind 2 ((Option.some Jvm.ClassFile.FieldType.boolean)) ∈ gx_U := gx_mu (gx_t_3 (List.mem_of_getElem? (i := 211) rfl)) rfl
theorem wn_X1_takesBehind : Cond.instanceMethod yX1_takesBehind ∈ gx_U := gx_mu (gx_t_3 (List.mem_of_getElem? (i := 210) rfl)) rfl
theorem ws_X1_takesBehind : Cond.selects RX1 yX1_takesBehind yX1_takesBehind ∈ gx_U := gx_mu (gx_t_p (List.mem_of_getElem? (i := 21) rfl)) rfl
theorem lk_X1_42 : gx_lk gx_U RX1 42 RX1 yX1_takesBehind cX1_takesBehind 2 ((Option.some Jvm.ClassFile.FieldType.boolean)) 1 := ⟨gx_mu (gx_t_3 (List.mem_of_getElem? (i := 208) rfl)) rfl, wn_X1_takesBehind, ws_X1_takesBehind, wi_X1, wc_X1_takesBehind, rfl, by decide +kernel, by decide +kernel, by decide +kernel⟩
theorem fl_X1_16 : gx_fl gx_U RX1 16 RX6 TX6 2 1 := ⟨iu_X6, by decide, gx_mu (gx_t_1 (List.mem_of_getElem? (i := 219) rfl)) rfl, rfl⟩
theorem wc_X6_at : Cond.code yX6_at cX6_at 2 ((Option.some Jvm.ClassFile.FieldType.char)) ∈ gx_U := gx_mu (gx_t_3 (List.mem_of_getElem? (i := 192) rfl)) rfl
theorem wn_X6_at : Cond.instanceMethod yX6_at ∈ gx_U := gx_mu (gx_t_3 (List.mem_of_getElem? (i := 190) rfl)) rfl
theorem ws_X6_at : Cond.selects RX6 yX6_at yX6_at ∈ gx_U := gx_mu (gx_t_3 (List.mem_of_getElem? (i := 191) rfl)) rfl
theorem lk_X1_21 : gx_lk gx_U RX1 21 RX6 yX6_at cX6_at 2 ((Option.some Jvm.ClassFile.FieldType.char)) 1 := ⟨gx_mu (gx_t_3 (List.mem_of_getElem? (i := 189) rfl)) rfl, wn_X6_at, ws_X6_at, wi_X6, wc_X6_at, rfl, by decide +kernel, by decide +kernel, by decide +kernel⟩
theorem wc_X1_takes : Cond.code yX1_takes cX1_takes 2 ((Option.some Jvm.ClassFile.FieldType.boolean)) ∈ gx_U := gx_mu (gx_t_3 (List.mem_of_getElem? (i := 196) rfl)) rfl
theorem wn_X1_takes : Cond.instanceMethod yX1_takes ∈ gx_U := gx_mu (gx_t_3 (List.mem_of_getElem? (i := 195) rfl)) rfl
theorem ws_X1_takes : Cond.selects RX1 yX1_takes yX1_takes ∈ gx_U := gx_mu (gx_t_p (List.mem_of_getElem? (i := 18) rfl)) rfl
theorem lk_X1_25 : gx_lk gx_U RX1 25 RX1 yX1_takes cX1_takes 2 ((Option.some Jvm.ClassFile.FieldType.boolean)) 1 := ⟨gx_mu (gx_t_3 (List.mem_of_getElem? (i := 193) rfl)) rfl, wn_X1_takes, ws_X1_takes, wi_X1, wc_X1_takes, rfl, by decide +kernel, by decide +kernel, by decide +kernel⟩
theorem wc_X1_firstFault : Cond.code yX1_firstFault cX1_firstFault 3 ((Option.some Jvm.ClassFile.FieldType.int)) ∈ gx_U := gx_mu (gx_t_3 (List.mem_of_getElem? (i := 188) rfl)) rfl
theorem wn_X1_firstFault : Cond.instanceMethod yX1_firstFault ∈ gx_U := gx_mu (gx_t_3 (List.mem_of_getElem? (i := 186) rfl)) rfl
theorem ws_X1_firstFault : Cond.selects RX1 yX1_firstFault yX1_firstFault ∈ gx_U := gx_mu (gx_t_3 (List.mem_of_getElem? (i := 187) rfl)) rfl
theorem lk_X1_29 : gx_lk gx_U RX1 29 RX1 yX1_firstFault cX1_firstFault 3 ((Option.some Jvm.ClassFile.FieldType.int)) 1 := ⟨gx_mu (gx_t_3 (List.mem_of_getElem? (i := 220) rfl)) rfl, wn_X1_firstFault, ws_X1_firstFault, wi_X1, wc_X1_firstFault, rfl, by decide +kernel, by decide +kernel, by decide +kernel⟩
theorem fl_X2_28 : gx_fl gx_U RX2 28 RX2 TX2 5 2 := ⟨iu_X2, by decide, gx_mu (gx_t_1 (List.mem_of_getElem? (i := 196) rfl)) rfl, rfl⟩
theorem wc_X4_become : Cond.code yX4_become cX4_become 3 ((Option.none : Option Jvm.ClassFile.FieldType)) ∈ gx_U := gx_mu (gx_t_3 (List.mem_of_getElem? (i := 38) rfl)) rfl
theorem wn_X4_become : Cond.instanceMethod yX4_become ∈ gx_U := gx_mu (gx_t_3 (List.mem_of_getElem? (i := 36) rfl)) rfl
theorem ws_X4_become : Cond.selects RX4 yX4_become yX4_become ∈ gx_U := gx_mu (gx_t_3 (List.mem_of_getElem? (i := 37) rfl)) rfl
theorem lk_X2_35 : gx_lk gx_U RX2 35 RX4 yX4_become cX4_become 3 ((Option.none : Option Jvm.ClassFile.FieldType)) 1 := ⟨gx_mu (gx_t_3 (List.mem_of_getElem? (i := 120) rfl)) rfl, wn_X4_become, ws_X4_become, wi_X4, wc_X4_become, rfl, by decide +kernel, by decide +kernel, by decide +kernel⟩
theorem fl_X2_19 : gx_fl gx_U RX2 19 RX2 TX2 5 1 := ⟨iu_X2, by decide, gx_mu (gx_t_1 (List.mem_of_getElem? (i := 195) rfl)) rfl, rfl⟩
theorem wc_X0_settle : Cond.code yX0_settle cX0_settle 5 ((Option.some Jvm.ClassFile.FieldType.int)) ∈ gx_U := gx_mu (gx_t_3 (List.mem_of_getElem? (i := 42) rfl)) rfl
theorem wn_X0_settle : Cond.instanceMethod yX0_settle ∈ gx_U := gx_mu (gx_t_3 (List.mem_of_getElem? (i := 40) rfl)) rfl
theorem ws_X0_settle : Cond.selects RX0 yX0_settle yX0_settle ∈ gx_U := gx_mu (gx_t_3 (List.mem_of_getElem? (i := 41) rfl)) rfl
theorem lk_X2_39 : gx_lk gx_U RX2 39 RX0 yX0_settle cX0_settle 5 ((Option.some Jvm.ClassFile.FieldType.int)) 1 := ⟨gx_mu (gx_t_3 (List.mem_of_getElem? (i := 121) rfl)) rfl, wn_X0_settle, ws_X0_settle, wi_X0, wc_X0_settle, rfl, by decide +kernel, by decide +kernel, by decide +kernel⟩
theorem fl_X2_15 : gx_fl gx_U RX2 15 RX2 TX2 5 0 := ⟨iu_X2, by decide, gx_mu (gx_t_1 (List.mem_of_getElem? (i := 194) rfl)) rfl, rfl⟩
theorem fl_X2_45 : gx_fl gx_U RX2 45 RX5 TX5 14 2 := ⟨iu_X5, by decide, gx_mu (gx_t_1 (List.mem_of_getElem? (i := 38) rfl)) rfl, rfl⟩
theorem fl_X2_9 : gx_fl gx_U RX2 9 RX2 TX2 5 4 := ⟨iu_X2, by decide, gx_mu (gx_t_1 (List.mem_of_getElem? (i := 198) rfl)) rfl, rfl⟩
theorem wc_X4_spareOf : Cond.code yX4_spareOf cX4_spareOf 3 ((Option.some Jvm.ClassFile.FieldType.int)) ∈ gx_U := gx_mu (gx_t_2 (List.mem_of_getElem? (i := 194) rfl)) rfl
theorem wn_X4_spareOf : Cond.instanceMethod yX4_spareOf ∈ gx_U := gx_mu (gx_t_2 (List.mem_of_getElem? (i := 192) rfl)) rfl
theorem ws_X4_spareOf : Cond.selects RX4 yX4_spareOf yX4_spareOf ∈ gx_U := gx_mu (gx_t_2 (List.mem_of_getElem? (i := 193) rfl)) rfl
theorem lk_X2_51 : gx_lk gx_U RX2 51 RX4 yX4_spareOf cX4_spareOf 3 ((Option.some Jvm.ClassFile.FieldType.int)) 1 := ⟨gx_mu (gx_t_3 (List.mem_of_getElem? (i := 122) rfl)) rfl, wn_X4_spareOf, ws_X4_spareOf, wi_X4, wc_X4_spareOf, rfl, by decide +kernel, by decide +kernel, by decide +kernel⟩
theorem fl_X2_32 : gx_fl gx_U RX2 32 RX2 TX2 5 3 := ⟨iu_X2, by decide, gx_mu (gx_t_1 (List.mem_of_getElem? (i := 197) rfl)) rfl, rfl⟩
theorem wc_X4_give : Cond.code yX4_give cX4_give 4 ((Option.none : Option Jvm.ClassFile.FieldType)) ∈ gx_U := gx_mu (gx_t_3 (List.mem_of_getElem? (i := 111) rfl)) rfl
theorem wn_X4_give : Cond.instanceMethod yX4_give ∈ gx_U := gx_mu (gx_t_3 (List.mem_of_getElem? (i := 109) rfl)) rfl
theorem ws_X4_give : Cond.selects RX4 yX4_give yX4_give ∈ gx_U := gx_mu (gx_t_3 (List.mem_of_getElem? (i := 110) rfl)) rfl
theorem lk_X2_55 : gx_lk gx_U RX2 55 RX4 yX4_give cX4_give 4 ((Option.none : Option Jvm.ClassFile.FieldType)) 2 := ⟨gx_mu (gx_t_3 (List.mem_of_getElem? (i := 127) rfl)) rfl, wn_X4_give, ws_X4_give, wi_X4, wc_X4_give, rfl, by decide +kernel, by decide +kernel, by decide +kernel⟩
theorem wc_X2_dearerFor : Cond.code yX2_dearerFor cX2_dearerFor 2 ((Option.some Jvm.ClassFile.FieldType.int)) ∈ gx_U := gx_mu (gx_t_3 (List.mem_of_getElem? (i := 131) rfl)) rfl
theorem wi_X2 : Cond.initialized RX2 ∈ gx_U := gx_mu (gx_t_1 (List.mem_of_getElem? (i := 5) rfl)) rfl
theorem wn_X2_dearerFor : Cond.instanceMethod yX2_dearerFor ∈ gx_U := gx_mu (gx_t_3 (List.mem_of_getElem? (i := 129) rfl)) rfl
theorem ws_X2_dearerFor : Cond.selects RX2 yX2_dearerFor yX2_dearerFor ∈ gx_U := gx_mu (gx_t_3 (List.mem_of_getElem? (i := 130) rfl)) rfl
theorem lk_X2_59 : gx_lk gx_U RX2 59 RX2 yX2_dearerFor cX2_dearerFor 2 ((Option.some Jvm.ClassFile.FieldType.int)) 1 := ⟨gx_mu (gx_t_3 (List.mem_of_getElem? (i := 140) rfl)) rfl, wn_X2_dearerFor, ws_X2_dearerFor, wi_X2, wc_X2_dearerFor, rfl, by decide +kernel, by decide +kernel, by decide +kernel⟩
theorem lk_X2_62 : gx_lkmax gx_U RX2 62 := ⟨gx_mu (gx_t_3 (List.mem_of_getElem? (i := 141) rfl)) rfl, wt_Math_max, wi_Math, wc_Math_max⟩
theorem fl_X2_68 : gx_fl gx_U RX2 68 RX5 TX5 14 8 := ⟨iu_X5, by decide, gx_mu (gx_t_1 (List.mem_of_getElem? (i := 62) rfl)) rfl, rfl⟩
theorem wc_X2_harmInAll : Cond.code yX2_harmInAll cX2_harmInAll 3 ((Option.some Jvm.ClassFile.FieldType.int)) ∈ gx_U := gx_mu (gx_t_3 (List.mem_of_getElem? (i := 139) rfl)) rfl
theorem wn_X2_harmInAll : Cond.instanceMethod yX2_harmInAll ∈ gx_U := gx_mu (gx_t_3 (List.mem_of_getElem? (i := 137) rfl)) rfl
theorem ws_X2_harmInAll : Cond.selects RX2 yX2_harmInAll yX2_harmInAll ∈ gx_U := gx_mu (gx_t_3 (List.mem_of_getElem? (i := 138) rfl)) rfl
theorem lk_X2_71 : gx_lk gx_U RX2 71 RX2 yX2_harmInAll cX2_harmInAll 3 ((Option.some Jvm.ClassFile.FieldType.int)) 0 := ⟨gx_mu (gx_t_3 (List.mem_of_getElem? (i := 164) rfl)) rfl, wn_X2_harmInAll, ws_X2_harmInAll, wi_X2, wc_X2_harmInAll, rfl, by decide +kernel, by decide +kernel, by decide +kernel⟩
theorem fl_X2_75 : gx_fl gx_U RX2 75 RX5 TX5 14 1 := ⟨iu_X5, by decide, gx_mu (gx_t_1 (List.mem_of_getElem? (i := 36) rfl)) rfl, rfl⟩
theorem fl_X2_78 : gx_fl gx_U RX2 78 RX4 TX4 4 2 := ⟨iu_X4, by decide, gx_mu (gx_t_1 (List.mem_of_getElem? (i := 123) rfl)) rfl, rfl⟩
theorem kX2_81 : Cond.constant RX2 81 1000000 ∈ gx_U := gx_mu (gx_t_3 (List.mem_of_getElem? (i := 155) rfl)) rfl
theorem fl_X3_9 : gx_fl gx_U RX3 9 RX3 TX3 10 1 := ⟨iu_X3, by decide, gx_mu (gx_t_2 (List.mem_of_getElem? (i := 12) rfl)) rfl, rfl⟩
theorem fl_X3_25 : gx_fl gx_U RX3 25 RX3 TX3 10 0 := ⟨iu_X3, by decide, gx_mu (gx_t_2 (List.mem_of_getElem? (i := 11) rfl)) rfl, rfl⟩
theorem fl_X3_59 : gx_fl gx_U RX3 59 RX5 TX5 14 2 := ⟨iu_X5, by decide, gx_mu (gx_t_1 (List.mem_of_getElem? (i := 39) rfl)) rfl, rfl⟩
theorem lk_X3_62 : gx_lk gx_U RX3 62 RX4 yX4_choice cX4_choice 7 ((Option.some Jvm.ClassFile.FieldType.int)) 2 := ⟨gx_mu (gx_t_4 (List.mem_of_getElem? (i := 5) rfl)) rfl, wn_X4_choice, ws_X4_choice, wi_X4, wc_X4_choice, rfl, by decide +kernel, by decide +kernel, by decide +kernel⟩
theorem fl_X3_67 : gx_fl gx_U RX3 67 RX4 TX4 4 2 := ⟨iu_X4, by decide, gx_mu (gx_t_1 (List.mem_of_getElem? (i := 120) rfl)) rfl, rfl⟩
theorem fl_X3_70 : gx_fl gx_U RX3 70 RX5 TX5 14 8 := ⟨iu_X5, by decide, gx_mu (gx_t_1 (List.mem_of_getElem? (i := 61) rfl)) rfl, rfl⟩
theorem fl_X3_73 : gx_fl gx_U RX3 73 RX5 TX5 14 1 := ⟨iu_X5, by decide, gx_mu (gx_t_1 (List.mem_of_getElem? (i := 34) rfl)) rfl, rfl⟩
theorem lk_X3_76 : gx_lk gx_U RX3 76 RX4 yX4_isOpen cX4_isOpen 3 ((Option.some Jvm.ClassFile.FieldType.boolean)) 1 := ⟨gx_mu (gx_t_4 (List.mem_of_getElem? (i := 13) rfl)) rfl, wn_X4_isOpen, ws_X4_isOpen, wi_X4, wc_X4_isOpen, rfl, by decide +kernel, by decide +kernel, by decide +kernel⟩
theorem fl_X3_80 : gx_fl gx_U RX3 80 RX5 TX5 14 5 := ⟨iu_X5, by decide, gx_mu (gx_t_1 (List.mem_of_getElem? (i := 53) rfl)) rfl, rfl⟩
theorem wt_Math_abs : Cond.static Lib.Math.abs.name ∈ gx_U := gx_mu (gx_t_2 (List.mem_of_getElem? (i := 134) rfl)) rfl
theorem wc_Math_abs : Cond.code Lib.Math.abs.name Lib.Math.abs.code 1 (some .int) ∈ gx_U := gx_mu (gx_t_2 (List.mem_of_getElem? (i := 135) rfl)) rfl
theorem lk_X3_83 : gx_lkabs gx_U RX3 83 := ⟨gx_mu (gx_t_4 (List.mem_of_getElem? (i := 14) rfl)) rfl, wt_Math_abs, wi_Math, wc_Math_abs⟩
theorem lk_X3_89 : gx_lkmin gx_U RX3 89 := ⟨gx_mu (gx_t_4 (List.mem_of_getElem? (i := 15) rfl)) rfl, wt_Math_min, wi_Math, wc_Math_min⟩
theorem wc_X3_countSold : Cond.code yX3_countSold cX3_countSold 4 ((Option.none : Option Jvm.ClassFile.FieldType)) ∈ gx_U := gx_mu (gx_t_4 (List.mem_of_getElem? (i := 4) rfl)) rfl
theorem wi_X3 : Cond.initialized RX3 ∈ gx_U := gx_mu (gx_t_1 (List.mem_of_getElem? (i := 8) rfl)) rfl
theorem wn_X3_countSold : Cond.instanceMethod yX3_countSold ∈ gx_U := gx_mu (gx_t_4 (List.mem_of_getElem? (i := 3) rfl)) rfl
theorem ws_X3_countSold : Cond.selects RX3 yX3_countSold yX3_countSold ∈ gx_U := gx_mu (gx_t_p (List.mem_of_getElem? (i := 24) rfl)) rfl
theorem lk_X3_29 : gx_lk gx_U RX3 29 RX3 yX3_countSold cX3_countSold 4 ((Option.none : Option Jvm.ClassFile.FieldType)) 1 := ⟨gx_mu (gx_t_4 (List.mem_of_getElem? (i := 1) rfl)) rfl, wn_X3_countSold, ws_X3_countSold, wi_X3, wc_X3_countSold, rfl, by decide +kernel, by decide +kernel, by decide +kernel⟩
theorem fl_X3_33 : gx_fl gx_U RX3 33 RX3 TX3 10 7 := ⟨iu_X3, by decide, gx_mu (gx_t_2 (List.mem_of_getElem? (i := 18) rfl)) rfl, rfl⟩
theorem fl_X3_37 : gx_fl gx_U RX3 37 RX5 TX5 14 0 := ⟨iu_X5, by decide, gx_mu (gx_t_1 (List.mem_of_getElem? (i := 30) rfl)) rfl, rfl⟩
theorem wc_X3_hundredths : Cond.code yX3_hundredths cX3_hundredths 2 ((Option.some Jvm.ClassFile.FieldType.int)) ∈ gx_U := gx_mu (gx_t_4 (List.mem_of_getElem? (i := 8) rfl)) rfl
theorem wt_X3_hundredths : Cond.static yX3_hundredths ∈ gx_U := gx_mu (gx_t_4 (List.mem_of_getElem? (i := 7) rfl)) rfl
theorem lk_X3_42 : gx_lkS gx_U RX3 42 yX3_hundredths cX3_hundredths 2 ((Option.some Jvm.ClassFile.FieldType.int)) 2 := ⟨gx_mu (gx_t_4 (List.mem_of_getElem? (i := 6) rfl)) rfl, wt_X3_hundredths, wi_X3, wc_X3_hundredths, by decide +kernel, by decide +kernel, by decide +kernel⟩
theorem fl_X3_46 : gx_fl gx_U RX3 46 RX3 TX3 10 6 := ⟨iu_X3, by decide, gx_mu (gx_t_2 (List.mem_of_getElem? (i := 17) rfl)) rfl, rfl⟩
theorem fl_X3_49 : gx_fl gx_U RX3 49 RX3 TX3 10 8 := ⟨iu_X3, by decide, gx_mu (gx_t_2 (List.mem_of_getElem? (i := 19) rfl)) rfl, rfl⟩
theorem wc_X3_leastDistance : Cond.code yX3_leastDistance cX3_leastDistance 8 ((Option.some Jvm.ClassFile.FieldType.int)) ∈ gx_U := gx_mu (gx_t_4 (List.mem_of_getElem? (i := 12) rfl)) rfl
theorem wn_X3_leastDistance : Cond.instanceMethod yX3_leastDistance ∈ gx_U := gx_mu (gx_t_4 (List.mem_of_getElem? (i := 11) rfl)) rfl
theorem ws_X3_leastDistance : Cond.selects RX3 yX3_leastDistance yX3_leastDistance ∈ gx_U := gx_mu (gx_t_p (List.mem_of_getElem? (i := 25) rfl)) rfl
theorem lk_X3_52 : gx_lk gx_U RX3 52 RX3 yX3_leastDistance cX3_leastDistance 8 ((Option.some Jvm.ClassFile.FieldType.int)) 3 := ⟨gx_mu (gx_t_4 (List.mem_of_getElem? (i := 9) rfl)) rfl, wn_X3_leastDistance, ws_X3_leastDistance, wi_X3, wc_X3_leastDistance, rfl, by decide +kernel, by decide +kernel, by decide +kernel⟩
theorem fl_X3_56 : gx_fl gx_U RX3 56 RX3 TX3 10 9 := ⟨iu_X3, by decide, gx_mu (gx_t_2 (List.mem_of_getElem? (i := 20) rfl)) rfl, rfl⟩
theorem fl_X3_15 : gx_fl gx_U RX3 15 RX3 TX3 10 2 := ⟨iu_X3, by decide, gx_mu (gx_t_2 (List.mem_of_getElem? (i := 13) rfl)) rfl, rfl⟩
theorem fl_X3_92 : gx_fl gx_U RX3 92 RX3 TX3 10 5 := ⟨iu_X3, by decide, gx_mu (gx_t_2 (List.mem_of_getElem? (i := 16) rfl)) rfl, rfl⟩
theorem fl_X3_19 : gx_fl gx_U RX3 19 RX3 TX3 10 3 := ⟨iu_X3, by decide, gx_mu (gx_t_2 (List.mem_of_getElem? (i := 14) rfl)) rfl, rfl⟩
theorem fl_X3_22 : gx_fl gx_U RX3 22 RX3 TX3 10 4 := ⟨iu_X3, by decide, gx_mu (gx_t_2 (List.mem_of_getElem? (i := 15) rfl)) rfl, rfl⟩
theorem fl_X3_98 : gx_fl gx_U RX3 98 RX6 TX6 2 1 := ⟨iu_X6, by decide, gx_mu (gx_t_1 (List.mem_of_getElem? (i := 220) rfl)) rfl, rfl⟩
theorem lk_X3_111 : gx_lk gx_U RX3 111 RX6 yX6_at cX6_at 2 ((Option.some Jvm.ClassFile.FieldType.char)) 1 := ⟨gx_mu (gx_t_4 (List.mem_of_getElem? (i := 28) rfl)) rfl, wn_X6_at, ws_X6_at, wi_X6, wc_X6_at, rfl, by decide +kernel, by decide +kernel, by decide +kernel⟩
theorem lk_X3_123 : gx_lkS gx_U RX3 123 yX6_isDigit cX6_isDigit 1 ((Option.some Jvm.ClassFile.FieldType.boolean)) 1 := ⟨gx_mu (gx_t_4 (List.mem_of_getElem? (i := 40) rfl)) rfl, wt_X6_isDigit, wi_X6, wc_X6_isDigit, by decide +kernel, by decide +kernel, by decide +kernel⟩
theorem wc_X3_startTerms : Cond.code yX3_startTerms cX3_startTerms 1 ((Option.none : Option Jvm.ClassFile.FieldType)) ∈ gx_U := gx_mu (gx_t_4 (List.mem_of_getElem? (i := 23) rfl)) rfl
theorem wn_X3_startTerms : Cond.instanceMethod yX3_startTerms ∈ gx_U := gx_mu (gx_t_4 (List.mem_of_getElem? (i := 22) rfl)) rfl
theorem ws_X3_startTerms : Cond.selects RX3 yX3_startTerms yX3_startTerms ∈ gx_U := gx_mu (gx_t_p (List.mem_of_getElem? (i := 26) rfl)) rfl
theorem lk_X3_95 : gx_lk gx_U RX3 95 RX3 yX3_startTerms cX3_startTerms 1 ((Option.none : Option Jvm.ClassFile.FieldType)) 0 := ⟨gx_mu (gx_t_4 (List.mem_of_getElem? (i := 20) rfl)) rfl, wn_X3_startTerms, ws_X3_startTerms, wi_X3, wc_X3_startTerms, rfl, by decide +kernel, by decide +kernel, by decide +kernel⟩
theorem wc_X3_termsHold : Cond.code yX3_termsHold cX3_termsHold 1 ((Option.some Jvm.ClassFile.FieldType.boolean)) ∈ gx_U := gx_mu (gx_t_4 (List.mem_of_getElem? (i := 32) rfl)) rfl
theorem wn_X3_termsHold : Cond.instanceMethod yX3_termsHold ∈ gx_U := gx_mu (gx_t_4 (List.mem_of_getElem? (i := 31) rfl)) rfl
theorem ws_X3_termsHold : Cond.selects RX3 yX3_termsHold yX3_termsHold ∈ gx_U := gx_mu (gx_t_p (List.mem_of_getElem? (i := 28) rfl)) rfl
theorem lk_X3_107 : gx_lk gx_U RX3 107 RX3 yX3_termsHold cX3_termsHold 1 ((Option.some Jvm.ClassFile.FieldType.boolean)) 0 := ⟨gx_mu (gx_t_4 (List.mem_of_getElem? (i := 29) rfl)) rfl, wn_X3_termsHold, ws_X3_termsHold, wi_X3, wc_X3_termsHold, rfl, by decide +kernel, by decide +kernel, by decide +kernel⟩
theorem wc_X3_takeFactor : Cond.code yX3_takeFactor cX3_takeFactor 2 ((Option.none : Option Jvm.ClassFile.FieldType)) ∈ gx_U := gx_mu (gx_t_4 (List.mem_of_getElem? (i := 36) rfl)) rfl
theorem wn_X3_takeFactor : Cond.instanceMethod yX3_takeFactor ∈ gx_U := gx_mu (gx_t_4 (List.mem_of_getElem? (i := 35) rfl)) rfl
theorem ws_X3_takeFactor : Cond.selects RX3 yX3_takeFactor yX3_takeFactor ∈ gx_U := gx_mu (gx_t_p (List.mem_of_getElem? (i := 29) rfl)) rfl
theorem lk_X3_115 : gx_lk gx_U RX3 115 RX3 yX3_takeFactor cX3_takeFactor 2 ((Option.none : Option Jvm.ClassFile.FieldType)) 1 := ⟨gx_mu (gx_t_4 (List.mem_of_getElem? (i := 33) rfl)) rfl, wn_X3_takeFactor, ws_X3_takeFactor, wi_X3, wc_X3_takeFactor, rfl, by decide +kernel, by decide +kernel, by decide +kernel⟩
theorem wc_X3_comparisonHolds : Cond.code yX3_comparisonHolds cX3_comparisonHolds 5 ((Option.some Jvm.ClassFile.FieldType.boolean)) ∈ gx_U := gx_mu (gx_t_4 (List.mem_of_getElem? (i := 39) rfl)) rfl
theorem wt_X3_comparisonHolds : Cond.static yX3_comparisonHolds ∈ gx_U := gx_mu (gx_t_4 (List.mem_of_getElem? (i := 38) rfl)) rfl
theorem lk_X3_119 : gx_lkS gx_U RX3 119 yX3_comparisonHolds cX3_comparisonHolds 5 ((Option.some Jvm.ClassFile.FieldType.boolean)) 3 := ⟨gx_mu (gx_t_4 (List.mem_of_getElem? (i := 37) rfl)) rfl, wt_X3_comparisonHolds, wi_X3, wc_X3_comparisonHolds, by decide +kernel, by decide +kernel, by decide +kernel⟩
theorem wc_X3_readLetter : Cond.code yX3_readLetter cX3_readLetter 4 ((Option.none : Option Jvm.ClassFile.FieldType)) ∈ gx_U := gx_mu (gx_t_4 (List.mem_of_getElem? (i := 27) rfl)) rfl
theorem wn_X3_readLetter : Cond.instanceMethod yX3_readLetter ∈ gx_U := gx_mu (gx_t_4 (List.mem_of_getElem? (i := 26) rfl)) rfl
theorem ws_X3_readLetter : Cond.selects RX3 yX3_readLetter yX3_readLetter ∈ gx_U := gx_mu (gx_t_p (List.mem_of_getElem? (i := 27) rfl)) rfl
theorem lk_X3_103 : gx_lk gx_U RX3 103 RX3 yX3_readLetter cX3_readLetter 4 ((Option.none : Option Jvm.ClassFile.FieldType)) 2 := ⟨gx_mu (gx_t_4 (List.mem_of_getElem? (i := 24) rfl)) rfl, wn_X3_readLetter, ws_X3_readLetter, wi_X3, wc_X3_readLetter, rfl, by decide +kernel, by decide +kernel, by decide +kernel⟩
theorem kJ6_265 : Cond.constant RJ6 265 1431655765 ∈ gx_U := gx_mu (gx_t_2 (List.mem_of_getElem? (i := 122) rfl)) rfl
theorem kJ6_266 : Cond.constant RJ6 266 858993459 ∈ gx_U := gx_mu (gx_t_2 (List.mem_of_getElem? (i := 123) rfl)) rfl
theorem kJ6_267 : Cond.constant RJ6 267 252645135 ∈ gx_U := gx_mu (gx_t_2 (List.mem_of_getElem? (i := 124) rfl)) rfl
theorem wc_X4_setOf : Cond.code yX4_setOf cX4_setOf 4 ((Option.some Jvm.ClassFile.FieldType.int)) ∈ gx_U := gx_mu (gx_t_2 (List.mem_of_getElem? (i := 118) rfl)) rfl
theorem wn_X4_setOf : Cond.instanceMethod yX4_setOf ∈ gx_U := gx_mu (gx_t_2 (List.mem_of_getElem? (i := 116) rfl)) rfl
theorem ws_X4_setOf : Cond.selects RX4 yX4_setOf yX4_setOf ∈ gx_U := gx_mu (gx_t_2 (List.mem_of_getElem? (i := 117) rfl)) rfl
theorem lk_X4_32 : gx_lk gx_U RX4 32 RX4 yX4_setOf cX4_setOf 4 ((Option.some Jvm.ClassFile.FieldType.int)) 1 := ⟨gx_mu (gx_t_2 (List.mem_of_getElem? (i := 115) rfl)) rfl, wn_X4_setOf, ws_X4_setOf, wi_X4, wc_X4_setOf, rfl, by decide +kernel, by decide +kernel, by decide +kernel⟩
theorem wc_J6_bitCount_0f7a4 : Cond.code yJ6_bitCount_0f7a4 cJ6_bitCount_0f7a4 1 ((Option.some Jvm.ClassFile.FieldType.int)) ∈ gx_U := gx_mu (gx_t_2 (List.mem_of_getElem? (i := 121) rfl)) rfl
theorem wi_J6 : Cond.initialized RJ6 ∈ gx_U := gx_mu (gx_t_1 (List.mem_of_getElem? (i := 10) rfl)) rfl
theorem wt_J6_bitCount_0f7a4 : Cond.static yJ6_bitCount_0f7a4 ∈ gx_U := gx_mu (gx_t_2 (List.mem_of_getElem? (i := 120) rfl)) rfl
theorem lk_X4_36 : gx_lkS gx_U RX4 36 yJ6_bitCount_0f7a4 cJ6_bitCount_0f7a4 1 ((Option.some Jvm.ClassFile.FieldType.int)) 1 := ⟨gx_mu (gx_t_2 (List.mem_of_getElem? (i := 119) rfl)) rfl, wt_J6_bitCount_0f7a4, wi_J6, wc_J6_bitCount_0f7a4, by decide +kernel, by decide +kernel, by decide +kernel⟩
theorem fl_X4_48 : gx_fl gx_U RX4 48 RX5 TX5 14 5 := ⟨iu_X5, by decide, gx_mu (gx_t_1 (List.mem_of_getElem? (i := 54) rfl)) rfl, rfl⟩
theorem lk_X4_51 : gx_lkabs gx_U RX4 51 := ⟨gx_mu (gx_t_3 (List.mem_of_getElem? (i := 87) rfl)) rfl, wt_Math_abs, wi_Math, wc_Math_abs⟩
theorem fl_X4_79 : gx_fl gx_U RX4 79 RX5 TX5 14 6 := ⟨iu_X5, by decide, gx_mu (gx_t_1 (List.mem_of_getElem? (i := 57) rfl)) rfl, rfl⟩
theorem fl_X5_47 : gx_fl gx_U RX5 47 RX5 TX5 14 0 := ⟨iu_X5, by decide, gx_mu (gx_t_1 (List.mem_of_getElem? (i := 28) rfl)) rfl, rfl⟩
theorem fl_X5_24 : gx_fl gx_U RX5 24 RX5 TX5 14 7 := ⟨iu_X5, by decide, gx_mu (gx_t_1 (List.mem_of_getElem? (i := 58) rfl)) rfl, rfl⟩
theorem fl_X5_18 : gx_fl gx_U RX5 18 RX5 TX5 14 5 := ⟨iu_X5, by decide, gx_mu (gx_t_1 (List.mem_of_getElem? (i := 51) rfl)) rfl, rfl⟩
theorem lk_X5_61 : gx_lkabs gx_U RX5 61 := ⟨gx_mu (gx_t_2 (List.mem_of_getElem? (i := 133) rfl)) rfl, wt_Math_abs, wi_Math, wc_Math_abs⟩
theorem fl_X5_44 : gx_fl gx_U RX5 44 RX5 TX5 14 13 := ⟨iu_X5, by decide, gx_mu (gx_t_1 (List.mem_of_getElem? (i := 76) rfl)) rfl, rfl⟩
theorem fl_X5_30 : gx_fl gx_U RX5 30 RX5 TX5 14 9 := ⟨iu_X5, by decide, gx_mu (gx_t_1 (List.mem_of_getElem? (i := 66) rfl)) rfl, rfl⟩
theorem fl_X5_36 : gx_fl gx_U RX5 36 RX5 TX5 14 11 := ⟨iu_X5, by decide, gx_mu (gx_t_1 (List.mem_of_getElem? (i := 72) rfl)) rfl, rfl⟩
theorem fl_X5_39 : gx_fl gx_U RX5 39 RX5 TX5 14 12 := ⟨iu_X5, by decide, gx_mu (gx_t_1 (List.mem_of_getElem? (i := 74) rfl)) rfl, rfl⟩
theorem fl_X5_51 : gx_fl gx_U RX5 51 RX5 TX5 14 1 := ⟨iu_X5, by decide, gx_mu (gx_t_1 (List.mem_of_getElem? (i := 32) rfl)) rfl, rfl⟩
theorem fl_X5_54 : gx_fl gx_U RX5 54 RX5 TX5 14 2 := ⟨iu_X5, by decide, gx_mu (gx_t_1 (List.mem_of_getElem? (i := 40) rfl)) rfl, rfl⟩
theorem wc_X5_measure : Cond.code yX5_measure cX5_measure 4 ((Option.none : Option Jvm.ClassFile.FieldType)) ∈ gx_U := gx_mu (gx_t_2 (List.mem_of_getElem? (i := 132) rfl)) rfl
theorem wn_X5_measure : Cond.instanceMethod yX5_measure ∈ gx_U := gx_mu (gx_t_2 (List.mem_of_getElem? (i := 131) rfl)) rfl
theorem ws_X5_measure : Cond.selects RX5 yX5_measure yX5_measure ∈ gx_U := gx_mu (gx_t_p (List.mem_of_getElem? (i := 1) rfl)) rfl
theorem lk_X5_57 : gx_lk gx_U RX5 57 RX5 yX5_measure cX5_measure 4 ((Option.none : Option Jvm.ClassFile.FieldType)) 2 := ⟨gx_mu (gx_t_2 (List.mem_of_getElem? (i := 129) rfl)) rfl, wn_X5_measure, ws_X5_measure, wi_X5, wc_X5_measure, rfl, by decide +kernel, by decide +kernel, by decide +kernel⟩
theorem fl_X5_27 : gx_fl gx_U RX5 27 RX5 TX5 14 8 := ⟨iu_X5, by decide, gx_mu (gx_t_1 (List.mem_of_getElem? (i := 60) rfl)) rfl, rfl⟩
theorem fl_X5_33 : gx_fl gx_U RX5 33 RX5 TX5 14 10 := ⟨iu_X5, by decide, gx_mu (gx_t_1 (List.mem_of_getElem? (i := 68) rfl)) rfl, rfl⟩
theorem wc_X7_isNot : Cond.code yX7_isNot cX7_isNot 3 ((Option.some Jvm.ClassFile.FieldType.boolean)) ∈ gx_U := gx_mu (gx_t_2 (List.mem_of_getElem? (i := 94) rfl)) rfl
theorem wi_X7 : Cond.initialized RX7 ∈ gx_U := gx_mu (gx_t_1 (List.mem_of_getElem? (i := 1) rfl)) rfl
theorem wt_X7_isNot : Cond.static yX7_isNot ∈ gx_U := gx_mu (gx_t_2 (List.mem_of_getElem? (i := 93) rfl)) rfl
theorem lk_X7_72 : gx_lkS gx_U RX7 72 yX7_isNot cX7_isNot 3 ((Option.some Jvm.ClassFile.FieldType.boolean)) 3 := ⟨gx_mu (gx_t_2 (List.mem_of_getElem? (i := 92) rfl)) rfl, wt_X7_isNot, wi_X7, wc_X7_isNot, by decide +kernel, by decide +kernel, by decide +kernel⟩
theorem fl_X7_10 : gx_fl gx_U RX7 10 RX7 TX7 15 0 := ⟨iu_X7, by decide, gx_mu (gx_t_2 (List.mem_of_getElem? (i := 42) rfl)) rfl, rfl⟩
theorem wc_X5_addOwner : Cond.code yX5_addOwner cX5_addOwner 3 ((Option.some Jvm.ClassFile.FieldType.int)) ∈ gx_U := gx_mu (gx_t_2 (List.mem_of_getElem? (i := 98) rfl)) rfl
theorem wn_X5_addOwner : Cond.instanceMethod yX5_addOwner ∈ gx_U := gx_mu (gx_t_2 (List.mem_of_getElem? (i := 96) rfl)) rfl
theorem ws_X5_addOwner : Cond.selects RX5 yX5_addOwner yX5_addOwner ∈ gx_U := gx_mu (gx_t_2 (List.mem_of_getElem? (i := 97) rfl)) rfl
theorem lk_X7_76 : gx_lk gx_U RX7 76 RX5 yX5_addOwner cX5_addOwner 3 ((Option.some Jvm.ClassFile.FieldType.int)) 2 := ⟨gx_mu (gx_t_2 (List.mem_of_getElem? (i := 95) rfl)) rfl, wn_X5_addOwner, ws_X5_addOwner, wi_X5, wc_X5_addOwner, rfl, by decide +kernel, by decide +kernel, by decide +kernel⟩
theorem fl_X7_159 : gx_fl gx_U RX7 159 RX5 TX5 14 0 := ⟨iu_X5, by decide, gx_mu (gx_t_1 (List.mem_of_getElem? (i := 31) rfl)) rfl, rfl⟩
theorem wc_X7_isNoOwner : Cond.code yX7_isNoOwner cX7_isNoOwner 2 ((Option.some Jvm.ClassFile.FieldType.boolean)) ∈ gx_U := gx_mu (gx_t_2 (List.mem_of_getElem? (i := 106) rfl)) rfl
theorem wn_X7_isNoOwner : Cond.instanceMethod yX7_isNoOwner ∈ gx_U := gx_mu (gx_t_2 (List.mem_of_getElem? (i := 105) rfl)) rfl
theorem ws_X7_isNoOwner : Cond.selects RX7 yX7_isNoOwner yX7_isNoOwner ∈ gx_U := gx_mu (gx_t_p (List.mem_of_getElem? (i := 0) rfl)) rfl
theorem lk_X7_80 : gx_lk gx_U RX7 80 RX7 yX7_isNoOwner cX7_isNoOwner 2 ((Option.some Jvm.ClassFile.FieldType.boolean)) 1 := ⟨gx_mu (gx_t_2 (List.mem_of_getElem? (i := 103) rfl)) rfl, wn_X7_isNoOwner, ws_X7_isNoOwner, wi_X7, wc_X7_isNoOwner, rfl, by decide +kernel, by decide +kernel, by decide +kernel⟩
theorem fl_X7_84 : gx_fl gx_U RX7 84 RX5 TX5 14 3 := ⟨iu_X5, by decide, gx_mu (gx_t_1 (List.mem_of_getElem? (i := 45) rfl)) rfl, rfl⟩
theorem fl_X7_21 : gx_fl gx_U RX7 21 RX7 TX7 15 1 := ⟨iu_X7, by decide, gx_mu (gx_t_2 (List.mem_of_getElem? (i := 43) rfl)) rfl, rfl⟩
theorem wc_X4_shopsOf : Cond.code yX4_shopsOf cX4_shopsOf 2 ((Option.some Jvm.ClassFile.FieldType.int)) ∈ gx_U := gx_mu (gx_t_2 (List.mem_of_getElem? (i := 114) rfl)) rfl
theorem wn_X4_shopsOf : Cond.instanceMethod yX4_shopsOf ∈ gx_U := gx_mu (gx_t_2 (List.mem_of_getElem? (i := 112) rfl)) rfl
theorem ws_X4_shopsOf : Cond.selects RX4 yX4_shopsOf yX4_shopsOf ∈ gx_U := gx_mu (gx_t_2 (List.mem_of_getElem? (i := 113) rfl)) rfl
theorem lk_X7_88 : gx_lk gx_U RX7 88 RX4 yX4_shopsOf cX4_shopsOf 2 ((Option.some Jvm.ClassFile.FieldType.int)) 1 := ⟨gx_mu (gx_t_2 (List.mem_of_getElem? (i := 111) rfl)) rfl, wn_X4_shopsOf, ws_X4_shopsOf, wi_X4, wc_X4_shopsOf, rfl, by decide +kernel, by decide +kernel, by decide +kernel⟩
theorem wc_X5_addShop : Cond.code yX5_addShop cX5_addShop 4 ((Option.some Jvm.ClassFile.FieldType.int)) ∈ gx_U := gx_mu (gx_t_2 (List.mem_of_getElem? (i := 128) rfl)) rfl
theorem wn_X5_addShop : Cond.instanceMethod yX5_addShop ∈ gx_U := gx_mu (gx_t_2 (List.mem_of_getElem? (i := 126) rfl)) rfl
theorem ws_X5_addShop : Cond.selects RX5 yX5_addShop yX5_addShop ∈ gx_U := gx_mu (gx_t_2 (List.mem_of_getElem? (i := 127) rfl)) rfl
theorem lk_X7_92 : gx_lk gx_U RX7 92 RX5 yX5_addShop cX5_addShop 4 ((Option.some Jvm.ClassFile.FieldType.int)) 2 := ⟨gx_mu (gx_t_2 (List.mem_of_getElem? (i := 125) rfl)) rfl, wn_X5_addShop, ws_X5_addShop, wi_X5, wc_X5_addShop, rfl, by decide +kernel, by decide +kernel, by decide +kernel⟩
theorem fl_X7_95 : gx_fl gx_U RX7 95 RX4 TX4 4 2 := ⟨iu_X4, by decide, gx_mu (gx_t_1 (List.mem_of_getElem? (i := 121) rfl)) rfl, rfl⟩
theorem fl_X7_98 : gx_fl gx_U RX7 98 RX4 TX4 4 1 := ⟨iu_X4, by decide, gx_mu (gx_t_1 (List.mem_of_getElem? (i := 118) rfl)) rfl, rfl⟩
theorem fl_X7_175 : gx_fl gx_U RX7 175 RX5 TX5 14 1 := ⟨iu_X5, by decide, gx_mu (gx_t_1 (List.mem_of_getElem? (i := 37) rfl)) rfl, rfl⟩
theorem wc_X7_isNoShop : Cond.code yX7_isNoShop cX7_isNoShop 2 ((Option.some Jvm.ClassFile.FieldType.boolean)) ∈ gx_U := gx_mu (gx_t_2 (List.mem_of_getElem? (i := 143) rfl)) rfl
theorem wn_X7_isNoShop : Cond.instanceMethod yX7_isNoShop ∈ gx_U := gx_mu (gx_t_2 (List.mem_of_getElem? (i := 142) rfl)) rfl
theorem ws_X7_isNoShop : Cond.selects RX7 yX7_isNoShop yX7_isNoShop ∈ gx_U := gx_mu (gx_t_p (List.mem_of_getElem? (i := 2) rfl)) rfl
theorem lk_X7_101 : gx_lk gx_U RX7 101 RX7 yX7_isNoShop cX7_isNoShop 2 ((Option.some Jvm.ClassFile.FieldType.boolean)) 1 := ⟨gx_mu (gx_t_2 (List.mem_of_getElem? (i := 140) rfl)) rfl, wn_X7_isNoShop, ws_X7_isNoShop, wi_X7, wc_X7_isNoShop, rfl, by decide +kernel, by decide +kernel, by decide +kernel⟩
theorem fl_X7_104 : gx_fl gx_U RX7 104 RX5 TX5 14 5 := ⟨iu_X5, by decide, gx_mu (gx_t_1 (List.mem_of_getElem? (i := 52) rfl)) rfl, rfl⟩
theorem fl_X7_107 : gx_fl gx_U RX7 107 RX5 TX5 14 6 := ⟨iu_X5, by decide, gx_mu (gx_t_1 (List.mem_of_getElem? (i := 56) rfl)) rfl, rfl⟩
theorem lk_X7_110 : gx_lk gx_U RX7 110 RX4 yX4_isOpen cX4_isOpen 3 ((Option.some Jvm.ClassFile.FieldType.boolean)) 1 := ⟨gx_mu (gx_t_2 (List.mem_of_getElem? (i := 144) rfl)) rfl, wn_X4_isOpen, ws_X4_isOpen, wi_X4, wc_X4_isOpen, rfl, by decide +kernel, by decide +kernel, by decide +kernel⟩
theorem wc_X4_soldBy : Cond.code yX4_soldBy cX4_soldBy 5 ((Option.some Jvm.ClassFile.FieldType.int)) ∈ gx_U := gx_mu (gx_t_2 (List.mem_of_getElem? (i := 151) rfl)) rfl
theorem wn_X4_soldBy : Cond.instanceMethod yX4_soldBy ∈ gx_U := gx_mu (gx_t_2 (List.mem_of_getElem? (i := 149) rfl)) rfl
theorem ws_X4_soldBy : Cond.selects RX4 yX4_soldBy yX4_soldBy ∈ gx_U := gx_mu (gx_t_2 (List.mem_of_getElem? (i := 150) rfl)) rfl
theorem lk_X7_113 : gx_lk gx_U RX7 113 RX4 yX4_soldBy cX4_soldBy 5 ((Option.some Jvm.ClassFile.FieldType.int)) 1 := ⟨gx_mu (gx_t_2 (List.mem_of_getElem? (i := 148) rfl)) rfl, wn_X4_soldBy, ws_X4_soldBy, wi_X4, wc_X4_soldBy, rfl, by decide +kernel, by decide +kernel, by decide +kernel⟩
theorem wc_X5_addSort : Cond.code yX5_addSort cX5_addSort 8 ((Option.some Jvm.ClassFile.FieldType.int)) ∈ gx_U := gx_mu (gx_t_2 (List.mem_of_getElem? (i := 172) rfl)) rfl
theorem wn_X5_addSort : Cond.instanceMethod yX5_addSort ∈ gx_U := gx_mu (gx_t_2 (List.mem_of_getElem? (i := 170) rfl)) rfl
theorem ws_X5_addSort : Cond.selects RX5 yX5_addSort yX5_addSort ∈ gx_U := gx_mu (gx_t_2 (List.mem_of_getElem? (i := 171) rfl)) rfl
theorem lk_X7_116 : gx_lk gx_U RX7 116 RX5 yX5_addSort cX5_addSort 8 ((Option.some Jvm.ClassFile.FieldType.int)) 6 := ⟨gx_mu (gx_t_2 (List.mem_of_getElem? (i := 169) rfl)) rfl, wn_X5_addSort, ws_X5_addSort, wi_X5, wc_X5_addSort, rfl, by decide +kernel, by decide +kernel, by decide +kernel⟩
theorem fl_X7_202 : gx_fl gx_U RX7 202 RX5 TX5 14 2 := ⟨iu_X5, by decide, gx_mu (gx_t_1 (List.mem_of_getElem? (i := 43) rfl)) rfl, rfl⟩
theorem wc_X7_isNoSort : Cond.code yX7_isNoSort cX7_isNoSort 2 ((Option.some Jvm.ClassFile.FieldType.boolean)) ∈ gx_U := gx_mu (gx_t_2 (List.mem_of_getElem? (i := 180) rfl)) rfl
theorem wn_X7_isNoSort : Cond.instanceMethod yX7_isNoSort ∈ gx_U := gx_mu (gx_t_2 (List.mem_of_getElem? (i := 179) rfl)) rfl
theorem ws_X7_isNoSort : Cond.selects RX7 yX7_isNoSort yX7_isNoSort ∈ gx_U := gx_mu (gx_t_p (List.mem_of_getElem? (i := 3) rfl)) rfl
theorem lk_X7_120 : gx_lk gx_U RX7 120 RX7 yX7_isNoSort cX7_isNoSort 2 ((Option.some Jvm.ClassFile.FieldType.boolean)) 1 := ⟨gx_mu (gx_t_2 (List.mem_of_getElem? (i := 177) rfl)) rfl, wn_X7_isNoSort, ws_X7_isNoSort, wi_X7, wc_X7_isNoSort, rfl, by decide +kernel, by decide +kernel, by decide +kernel⟩
theorem lk_X7_123 : gx_lk gx_U RX7 123 RX4 yX4_whatIs cX4_whatIs 3 ((Option.some Jvm.ClassFile.FieldType.int)) 2 := ⟨gx_mu (gx_t_2 (List.mem_of_getElem? (i := 181) rfl)) rfl, wn_X4_whatIs, ws_X4_whatIs, wi_X4, wc_X4_whatIs, rfl, by decide +kernel, by decide +kernel, by decide +kernel⟩
theorem lk_X7_126 : gx_lk gx_U RX7 126 RX4 yX4_choice cX4_choice 7 ((Option.some Jvm.ClassFile.FieldType.int)) 2 := ⟨gx_mu (gx_t_2 (List.mem_of_getElem? (i := 186) rfl)) rfl, wn_X4_choice, ws_X4_choice, wi_X4, wc_X4_choice, rfl, by decide +kernel, by decide +kernel, by decide +kernel⟩
theorem lk_X7_129 : gx_lk gx_U RX7 129 RX4 yX4_spareOf cX4_spareOf 3 ((Option.some Jvm.ClassFile.FieldType.int)) 1 := ⟨gx_mu (gx_t_2 (List.mem_of_getElem? (i := 191) rfl)) rfl, wn_X4_spareOf, ws_X4_spareOf, wi_X4, wc_X4_spareOf, rfl, by decide +kernel, by decide +kernel, by decide +kernel⟩
theorem kX7_132 : Cond.constant RX7 132 (-1000001) ∈ gx_U := gx_mu (gx_t_2 (List.mem_of_getElem? (i := 199) rfl)) rfl
theorem lk_X7_133 : gx_lk gx_U RX7 133 RX4 yX4_profitOf cX4_profitOf 5 ((Option.some Jvm.ClassFile.FieldType.int)) 1 := ⟨gx_mu (gx_t_2 (List.mem_of_getElem? (i := 200) rfl)) rfl, wn_X4_profitOf, ws_X4_profitOf, wi_X4, wc_X4_profitOf, rfl, by decide +kernel, by decide +kernel, by decide +kernel⟩
theorem fl_X7_34 : gx_fl gx_U RX7 34 RX7 TX7 15 4 := ⟨iu_X7, by decide, gx_mu (gx_t_2 (List.mem_of_getElem? (i := 46) rfl)) rfl, rfl⟩
theorem lk_X7_136 : gx_lk gx_U RX7 136 RX0 yX0_look cX0_look 4 ((Option.none : Option Jvm.ClassFile.FieldType)) 2 := ⟨gx_mu (gx_t_2 (List.mem_of_getElem? (i := 215) rfl)) rfl, wn_X0_look, ws_X0_look, wi_X0, wc_X0_look, rfl, by decide +kernel, by decide +kernel, by decide +kernel⟩
theorem wc_X0_priceOf : Cond.code yX0_priceOf cX0_priceOf 3 ((Option.some Jvm.ClassFile.FieldType.int)) ∈ gx_U := gx_mu (gx_t_3 (List.mem_of_getElem? (i := 22) rfl)) rfl
theorem wn_X0_priceOf : Cond.instanceMethod yX0_priceOf ∈ gx_U := gx_mu (gx_t_3 (List.mem_of_getElem? (i := 20) rfl)) rfl
theorem ws_X0_priceOf : Cond.selects RX0 yX0_priceOf yX0_priceOf ∈ gx_U := gx_mu (gx_t_3 (List.mem_of_getElem? (i := 21) rfl)) rfl
theorem lk_X7_140 : gx_lk gx_U RX7 140 RX0 yX0_priceOf cX0_priceOf 3 ((Option.some Jvm.ClassFile.FieldType.int)) 1 := ⟨gx_mu (gx_t_3 (List.mem_of_getElem? (i := 19) rfl)) rfl, wn_X0_priceOf, ws_X0_priceOf, wi_X0, wc_X0_priceOf, rfl, by decide +kernel, by decide +kernel, by decide +kernel⟩
theorem fl_X7_143 : gx_fl gx_U RX7 143 RX0 TX0 13 12 := ⟨iu_X0, by decide, gx_mu (gx_t_1 (List.mem_of_getElem? (i := 158) rfl)) rfl, rfl⟩
theorem lk_X7_147 : gx_lk gx_U RX7 147 RX0 yX0_take cX0_take 5 ((Option.some Jvm.ClassFile.FieldType.int)) 2 := ⟨gx_mu (gx_t_3 (List.mem_of_getElem? (i := 27) rfl)) rfl, wn_X0_take, ws_X0_take, wi_X0, wc_X0_take, rfl, by decide +kernel, by decide +kernel, by decide +kernel⟩
theorem fl_X7_25 : gx_fl gx_U RX7 25 RX7 TX7 15 2 := ⟨iu_X7, by decide, gx_mu (gx_t_2 (List.mem_of_getElem? (i := 44) rfl)) rfl, rfl⟩
theorem lk_X7_151 : gx_lk gx_U RX7 151 RX4 yX4_become cX4_become 3 ((Option.none : Option Jvm.ClassFile.FieldType)) 1 := ⟨gx_mu (gx_t_3 (List.mem_of_getElem? (i := 35) rfl)) rfl, wn_X4_become, ws_X4_become, wi_X4, wc_X4_become, rfl, by decide +kernel, by decide +kernel, by decide +kernel⟩
theorem lk_X7_155 : gx_lk gx_U RX7 155 RX0 yX0_settle cX0_settle 5 ((Option.some Jvm.ClassFile.FieldType.int)) 1 := ⟨gx_mu (gx_t_3 (List.mem_of_getElem? (i := 39) rfl)) rfl, wn_X0_settle, ws_X0_settle, wi_X0, wc_X0_settle, rfl, by decide +kernel, by decide +kernel, by decide +kernel⟩
theorem fl_X7_166 : gx_fl gx_U RX7 166 RX0 TX0 13 11 := ⟨iu_X0, by decide, gx_mu (gx_t_1 (List.mem_of_getElem? (i := 156) rfl)) rfl, rfl⟩
theorem wc_X7_gainOf : Cond.code yX7_gainOf cX7_gainOf 2 ((Option.some Jvm.ClassFile.FieldType.int)) ∈ gx_U := gx_mu (gx_t_3 (List.mem_of_getElem? (i := 52) rfl)) rfl
theorem wn_X7_gainOf : Cond.instanceMethod yX7_gainOf ∈ gx_U := gx_mu (gx_t_3 (List.mem_of_getElem? (i := 51) rfl)) rfl
theorem ws_X7_gainOf : Cond.selects RX7 yX7_gainOf yX7_gainOf ∈ gx_U := gx_mu (gx_t_p (List.mem_of_getElem? (i := 12) rfl)) rfl
theorem lk_X7_163 : gx_lk gx_U RX7 163 RX7 yX7_gainOf cX7_gainOf 2 ((Option.some Jvm.ClassFile.FieldType.int)) 1 := ⟨gx_mu (gx_t_3 (List.mem_of_getElem? (i := 49) rfl)) rfl, wn_X7_gainOf, ws_X7_gainOf, wi_X7, wc_X7_gainOf, rfl, by decide +kernel, by decide +kernel, by decide +kernel⟩
theorem lk_X7_194 : gx_lkmin gx_U RX7 194 := ⟨gx_mu (gx_t_3 (List.mem_of_getElem? (i := 74) rfl)) rfl, wt_Math_min, wi_Math, wc_Math_min⟩
theorem wc_X4_marginOf : Cond.code yX4_marginOf cX4_marginOf 5 ((Option.some Jvm.ClassFile.FieldType.int)) ∈ gx_U := gx_mu (gx_t_3 (List.mem_of_getElem? (i := 78) rfl)) rfl
theorem wn_X4_marginOf : Cond.instanceMethod yX4_marginOf ∈ gx_U := gx_mu (gx_t_3 (List.mem_of_getElem? (i := 76) rfl)) rfl
theorem ws_X4_marginOf : Cond.selects RX4 yX4_marginOf yX4_marginOf ∈ gx_U := gx_mu (gx_t_3 (List.mem_of_getElem? (i := 77) rfl)) rfl
theorem lk_X7_199 : gx_lk gx_U RX7 199 RX4 yX4_marginOf cX4_marginOf 5 ((Option.some Jvm.ClassFile.FieldType.int)) 1 := ⟨gx_mu (gx_t_3 (List.mem_of_getElem? (i := 75) rfl)) rfl, wn_X4_marginOf, ws_X4_marginOf, wi_X4, wc_X4_marginOf, rfl, by decide +kernel, by decide +kernel, by decide +kernel⟩
theorem wc_X4_openShops : Cond.code yX4_openShops cX4_openShops 3 ((Option.some Jvm.ClassFile.FieldType.int)) ∈ gx_U := gx_mu (gx_t_3 (List.mem_of_getElem? (i := 68) rfl)) rfl
theorem wn_X4_openShops : Cond.instanceMethod yX4_openShops ∈ gx_U := gx_mu (gx_t_3 (List.mem_of_getElem? (i := 66) rfl)) rfl
theorem ws_X4_openShops : Cond.selects RX4 yX4_openShops yX4_openShops ∈ gx_U := gx_mu (gx_t_3 (List.mem_of_getElem? (i := 67) rfl)) rfl
theorem lk_X7_185 : gx_lk gx_U RX7 185 RX4 yX4_openShops cX4_openShops 3 ((Option.some Jvm.ClassFile.FieldType.int)) 0 := ⟨gx_mu (gx_t_3 (List.mem_of_getElem? (i := 65) rfl)) rfl, wn_X4_openShops, ws_X4_openShops, wi_X4, wc_X4_openShops, rfl, by decide +kernel, by decide +kernel, by decide +kernel⟩
theorem lk_X7_189 : gx_lkS gx_U RX7 189 yJ6_bitCount_0f7a4 cJ6_bitCount_0f7a4 1 ((Option.some Jvm.ClassFile.FieldType.int)) 1 := ⟨gx_mu (gx_t_3 (List.mem_of_getElem? (i := 69) rfl)) rfl, wt_J6_bitCount_0f7a4, wi_J6, wc_J6_bitCount_0f7a4, by decide +kernel, by decide +kernel, by decide +kernel⟩
theorem wc_X7_wouldPay : Cond.code yX7_wouldPay cX7_wouldPay 4 ((Option.some Jvm.ClassFile.FieldType.boolean)) ∈ gx_U := gx_mu (gx_t_3 (List.mem_of_getElem? (i := 73) rfl)) rfl
theorem wn_X7_wouldPay : Cond.instanceMethod yX7_wouldPay ∈ gx_U := gx_mu (gx_t_3 (List.mem_of_getElem? (i := 72) rfl)) rfl
theorem ws_X7_wouldPay : Cond.selects RX7 yX7_wouldPay yX7_wouldPay ∈ gx_U := gx_mu (gx_t_p (List.mem_of_getElem? (i := 14) rfl)) rfl
theorem lk_X7_178 : gx_lk gx_U RX7 178 RX7 yX7_wouldPay cX7_wouldPay 4 ((Option.some Jvm.ClassFile.FieldType.boolean)) 2 := ⟨gx_mu (gx_t_3 (List.mem_of_getElem? (i := 70) rfl)) rfl, wn_X7_wouldPay, ws_X7_wouldPay, wi_X7, wc_X7_wouldPay, rfl, by decide +kernel, by decide +kernel, by decide +kernel⟩
theorem wc_X4_nearestOpen : Cond.code yX4_nearestOpen cX4_nearestOpen 7 ((Option.some Jvm.ClassFile.FieldType.int)) ∈ gx_U := gx_mu (gx_t_3 (List.mem_of_getElem? (i := 86) rfl)) rfl
theorem wn_X4_nearestOpen : Cond.instanceMethod yX4_nearestOpen ∈ gx_U := gx_mu (gx_t_3 (List.mem_of_getElem? (i := 84) rfl)) rfl
theorem ws_X4_nearestOpen : Cond.selects RX4 yX4_nearestOpen yX4_nearestOpen ∈ gx_U := gx_mu (gx_t_3 (List.mem_of_getElem? (i := 85) rfl)) rfl
theorem lk_X7_182 : gx_lk gx_U RX7 182 RX4 yX4_nearestOpen cX4_nearestOpen 7 ((Option.some Jvm.ClassFile.FieldType.int)) 2 := ⟨gx_mu (gx_t_3 (List.mem_of_getElem? (i := 83) rfl)) rfl, wn_X4_nearestOpen, ws_X4_nearestOpen, wi_X4, wc_X4_nearestOpen, rfl, by decide +kernel, by decide +kernel, by decide +kernel⟩
theorem wc_X7_leastMarket : Cond.code yX7_leastMarket cX7_leastMarket 7 ((Option.some Jvm.ClassFile.FieldType.int)) ∈ gx_U := gx_mu (gx_t_3 (List.mem_of_getElem? (i := 64) rfl)) rfl
theorem wn_X7_leastMarket : Cond.instanceMethod yX7_leastMarket ∈ gx_U := gx_mu (gx_t_3 (List.mem_of_getElem? (i := 63) rfl)) rfl
theorem ws_X7_leastMarket : Cond.selects RX7 yX7_leastMarket yX7_leastMarket ∈ gx_U := gx_mu (gx_t_p (List.mem_of_getElem? (i := 13) rfl)) rfl
theorem lk_X7_169 : gx_lk gx_U RX7 169 RX7 yX7_leastMarket cX7_leastMarket 7 ((Option.some Jvm.ClassFile.FieldType.int)) 2 := ⟨gx_mu (gx_t_3 (List.mem_of_getElem? (i := 61) rfl)) rfl, wn_X7_leastMarket, ws_X7_leastMarket, wi_X7, wc_X7_leastMarket, rfl, by decide +kernel, by decide +kernel, by decide +kernel⟩
theorem wc_X7_nearMarket : Cond.code yX7_nearMarket cX7_nearMarket 6 ((Option.some Jvm.ClassFile.FieldType.int)) ∈ gx_U := gx_mu (gx_t_3 (List.mem_of_getElem? (i := 82) rfl)) rfl
theorem wn_X7_nearMarket : Cond.instanceMethod yX7_nearMarket ∈ gx_U := gx_mu (gx_t_3 (List.mem_of_getElem? (i := 81) rfl)) rfl
theorem ws_X7_nearMarket : Cond.selects RX7 yX7_nearMarket yX7_nearMarket ∈ gx_U := gx_mu (gx_t_p (List.mem_of_getElem? (i := 15) rfl)) rfl
theorem lk_X7_172 : gx_lk gx_U RX7 172 RX7 yX7_nearMarket cX7_nearMarket 6 ((Option.some Jvm.ClassFile.FieldType.int)) 2 := ⟨gx_mu (gx_t_3 (List.mem_of_getElem? (i := 79) rfl)) rfl, wn_X7_nearMarket, ws_X7_nearMarket, wi_X7, wc_X7_nearMarket, rfl, by decide +kernel, by decide +kernel, by decide +kernel⟩
theorem fl_X7_205 : gx_fl gx_U RX7 205 RX5 TX5 14 8 := ⟨iu_X5, by decide, gx_mu (gx_t_1 (List.mem_of_getElem? (i := 65) rfl)) rfl, rfl⟩
theorem wc_X7_areNotTwo : Cond.code yX7_areNotTwo cX7_areNotTwo 3 ((Option.some Jvm.ClassFile.FieldType.boolean)) ∈ gx_U := gx_mu (gx_t_3 (List.mem_of_getElem? (i := 103) rfl)) rfl
theorem wn_X7_areNotTwo : Cond.instanceMethod yX7_areNotTwo ∈ gx_U := gx_mu (gx_t_3 (List.mem_of_getElem? (i := 102) rfl)) rfl
theorem ws_X7_areNotTwo : Cond.selects RX7 yX7_areNotTwo yX7_areNotTwo ∈ gx_U := gx_mu (gx_t_p (List.mem_of_getElem? (i := 16) rfl)) rfl
theorem lk_X7_208 : gx_lk gx_U RX7 208 RX7 yX7_areNotTwo cX7_areNotTwo 3 ((Option.some Jvm.ClassFile.FieldType.boolean)) 2 := ⟨gx_mu (gx_t_3 (List.mem_of_getElem? (i := 100) rfl)) rfl, wn_X7_areNotTwo, ws_X7_areNotTwo, wi_X7, wc_X7_areNotTwo, rfl, by decide +kernel, by decide +kernel, by decide +kernel⟩
theorem wc_X7_areTooMany : Cond.code yX7_areTooMany cX7_areTooMany 3 ((Option.some Jvm.ClassFile.FieldType.boolean)) ∈ gx_U := gx_mu (gx_t_3 (List.mem_of_getElem? (i := 107) rfl)) rfl
theorem wn_X7_areTooMany : Cond.instanceMethod yX7_areTooMany ∈ gx_U := gx_mu (gx_t_3 (List.mem_of_getElem? (i := 106) rfl)) rfl
theorem ws_X7_areTooMany : Cond.selects RX7 yX7_areTooMany yX7_areTooMany ∈ gx_U := gx_mu (gx_t_p (List.mem_of_getElem? (i := 17) rfl)) rfl
theorem lk_X7_211 : gx_lk gx_U RX7 211 RX7 yX7_areTooMany cX7_areTooMany 3 ((Option.some Jvm.ClassFile.FieldType.boolean)) 2 := ⟨gx_mu (gx_t_3 (List.mem_of_getElem? (i := 104) rfl)) rfl, wn_X7_areTooMany, ws_X7_areTooMany, wi_X7, wc_X7_areTooMany, rfl, by decide +kernel, by decide +kernel, by decide +kernel⟩
theorem lk_X7_214 : gx_lk gx_U RX7 214 RX4 yX4_give cX4_give 4 ((Option.none : Option Jvm.ClassFile.FieldType)) 2 := ⟨gx_mu (gx_t_3 (List.mem_of_getElem? (i := 108) rfl)) rfl, wn_X4_give, ws_X4_give, wi_X4, wc_X4_give, rfl, by decide +kernel, by decide +kernel, by decide +kernel⟩
theorem fl_X7_43 : gx_fl gx_U RX7 43 RX7 TX7 15 5 := ⟨iu_X7, by decide, gx_mu (gx_t_2 (List.mem_of_getElem? (i := 47) rfl)) rfl, rfl⟩
theorem wc_X2_restsBefore : Cond.code yX2_restsBefore cX2_restsBefore 3 ((Option.some Jvm.ClassFile.FieldType.boolean)) ∈ gx_U := gx_mu (gx_t_3 (List.mem_of_getElem? (i := 119) rfl)) rfl
theorem wn_X2_restsBefore : Cond.instanceMethod yX2_restsBefore ∈ gx_U := gx_mu (gx_t_3 (List.mem_of_getElem? (i := 117) rfl)) rfl
theorem ws_X2_restsBefore : Cond.selects RX2 yX2_restsBefore yX2_restsBefore ∈ gx_U := gx_mu (gx_t_3 (List.mem_of_getElem? (i := 118) rfl)) rfl
theorem lk_X7_218 : gx_lk gx_U RX7 218 RX2 yX2_restsBefore cX2_restsBefore 3 ((Option.some Jvm.ClassFile.FieldType.boolean)) 1 := ⟨gx_mu (gx_t_3 (List.mem_of_getElem? (i := 116) rfl)) rfl, wn_X2_restsBefore, ws_X2_restsBefore, wi_X2, wc_X2_restsBefore, rfl, by decide +kernel, by decide +kernel, by decide +kernel⟩
theorem wc_X2_roundsBehind : Cond.code yX2_roundsBehind cX2_roundsBehind 4 ((Option.some Jvm.ClassFile.FieldType.int)) ∈ gx_U := gx_mu (gx_t_3 (List.mem_of_getElem? (i := 126) rfl)) rfl
theorem wn_X2_roundsBehind : Cond.instanceMethod yX2_roundsBehind ∈ gx_U := gx_mu (gx_t_3 (List.mem_of_getElem? (i := 124) rfl)) rfl
theorem ws_X2_roundsBehind : Cond.selects RX2 yX2_roundsBehind yX2_roundsBehind ∈ gx_U := gx_mu (gx_t_3 (List.mem_of_getElem? (i := 125) rfl)) rfl
theorem lk_X7_222 : gx_lk gx_U RX7 222 RX2 yX2_roundsBehind cX2_roundsBehind 4 ((Option.some Jvm.ClassFile.FieldType.int)) 3 := ⟨gx_mu (gx_t_3 (List.mem_of_getElem? (i := 123) rfl)) rfl, wn_X2_roundsBehind, ws_X2_roundsBehind, wi_X2, wc_X2_roundsBehind, rfl, by decide +kernel, by decide +kernel, by decide +kernel⟩
theorem lk_X7_226 : gx_lk gx_U RX7 226 RX2 yX2_dearerFor cX2_dearerFor 2 ((Option.some Jvm.ClassFile.FieldType.int)) 1 := ⟨gx_mu (gx_t_3 (List.mem_of_getElem? (i := 128) rfl)) rfl, wn_X2_dearerFor, ws_X2_dearerFor, wi_X2, wc_X2_dearerFor, rfl, by decide +kernel, by decide +kernel, by decide +kernel⟩
theorem lk_X7_229 : gx_lk gx_U RX7 229 RX2 yX2_harmInAll cX2_harmInAll 3 ((Option.some Jvm.ClassFile.FieldType.int)) 0 := ⟨gx_mu (gx_t_3 (List.mem_of_getElem? (i := 136) rfl)) rfl, wn_X2_harmInAll, ws_X2_harmInAll, wi_X2, wc_X2_harmInAll, rfl, by decide +kernel, by decide +kernel, by decide +kernel⟩
theorem wc_X2_sortsHarmed : Cond.code yX2_sortsHarmed cX2_sortsHarmed 3 ((Option.some Jvm.ClassFile.FieldType.int)) ∈ gx_U := gx_mu (gx_t_3 (List.mem_of_getElem? (i := 145) rfl)) rfl
theorem wn_X2_sortsHarmed : Cond.instanceMethod yX2_sortsHarmed ∈ gx_U := gx_mu (gx_t_3 (List.mem_of_getElem? (i := 143) rfl)) rfl
theorem ws_X2_sortsHarmed : Cond.selects RX2 yX2_sortsHarmed yX2_sortsHarmed ∈ gx_U := gx_mu (gx_t_3 (List.mem_of_getElem? (i := 144) rfl)) rfl
theorem lk_X7_232 : gx_lk gx_U RX7 232 RX2 yX2_sortsHarmed cX2_sortsHarmed 3 ((Option.some Jvm.ClassFile.FieldType.int)) 0 := ⟨gx_mu (gx_t_3 (List.mem_of_getElem? (i := 142) rfl)) rfl, wn_X2_sortsHarmed, ws_X2_sortsHarmed, wi_X2, wc_X2_sortsHarmed, rfl, by decide +kernel, by decide +kernel, by decide +kernel⟩
theorem lk_X7_235 : gx_lk gx_U RX7 235 RX4 yX4_setOf cX4_setOf 4 ((Option.some Jvm.ClassFile.FieldType.int)) 1 := ⟨gx_mu (gx_t_3 (List.mem_of_getElem? (i := 150) rfl)) rfl, wn_X4_setOf, ws_X4_setOf, wi_X4, wc_X4_setOf, rfl, by decide +kernel, by decide +kernel, by decide +kernel⟩
theorem wc_X2_dearestWhenSold : Cond.code yX2_dearestWhenSold cX2_dearestWhenSold 8 ((Option.some Jvm.ClassFile.FieldType.int)) ∈ gx_U := gx_mu (gx_t_3 (List.mem_of_getElem? (i := 154) rfl)) rfl
theorem wn_X2_dearestWhenSold : Cond.instanceMethod yX2_dearestWhenSold ∈ gx_U := gx_mu (gx_t_3 (List.mem_of_getElem? (i := 152) rfl)) rfl
theorem ws_X2_dearestWhenSold : Cond.selects RX2 yX2_dearestWhenSold yX2_dearestWhenSold ∈ gx_U := gx_mu (gx_t_3 (List.mem_of_getElem? (i := 153) rfl)) rfl
theorem lk_X7_238 : gx_lk gx_U RX7 238 RX2 yX2_dearestWhenSold cX2_dearestWhenSold 8 ((Option.some Jvm.ClassFile.FieldType.int)) 5 := ⟨gx_mu (gx_t_3 (List.mem_of_getElem? (i := 151) rfl)) rfl, wn_X2_dearestWhenSold, ws_X2_dearestWhenSold, wi_X2, wc_X2_dearestWhenSold, rfl, by decide +kernel, by decide +kernel, by decide +kernel⟩
theorem wc_X2_harmOf : Cond.code yX2_harmOf cX2_harmOf 4 ((Option.some Jvm.ClassFile.FieldType.int)) ∈ gx_U := gx_mu (gx_t_3 (List.mem_of_getElem? (i := 163) rfl)) rfl
theorem wn_X2_harmOf : Cond.instanceMethod yX2_harmOf ∈ gx_U := gx_mu (gx_t_3 (List.mem_of_getElem? (i := 161) rfl)) rfl
theorem ws_X2_harmOf : Cond.selects RX2 yX2_harmOf yX2_harmOf ∈ gx_U := gx_mu (gx_t_3 (List.mem_of_getElem? (i := 162) rfl)) rfl
theorem lk_X7_242 : gx_lk gx_U RX7 242 RX2 yX2_harmOf cX2_harmOf 4 ((Option.some Jvm.ClassFile.FieldType.int)) 3 := ⟨gx_mu (gx_t_3 (List.mem_of_getElem? (i := 160) rfl)) rfl, wn_X2_harmOf, ws_X2_harmOf, wi_X2, wc_X2_harmOf, rfl, by decide +kernel, by decide +kernel, by decide +kernel⟩
theorem kX7_256 : Cond.constantLong RX7 256 255 ∈ gx_U := gx_mu (gx_t_3 (List.mem_of_getElem? (i := 172) rfl)) rfl
theorem wc_X7_codeAt : Cond.code yX7_codeAt cX7_codeAt 3 ((Option.some Jvm.ClassFile.FieldType.int)) ∈ gx_U := gx_mu (gx_t_3 (List.mem_of_getElem? (i := 171) rfl)) rfl
theorem wt_X7_codeAt : Cond.static yX7_codeAt ∈ gx_U := gx_mu (gx_t_3 (List.mem_of_getElem? (i := 170) rfl)) rfl
theorem lk_X7_245 : gx_lkS gx_U RX7 245 yX7_codeAt cX7_codeAt 3 ((Option.some Jvm.ClassFile.FieldType.int)) 2 := ⟨gx_mu (gx_t_3 (List.mem_of_getElem? (i := 169) rfl)) rfl, wt_X7_codeAt, wi_X7, wc_X7_codeAt, by decide +kernel, by decide +kernel, by decide +kernel⟩
theorem fl_X7_50 : gx_fl gx_U RX7 50 RX7 TX7 15 6 := ⟨iu_X7, by decide, gx_mu (gx_t_2 (List.mem_of_getElem? (i := 48) rfl)) rfl, rfl⟩
theorem fl_X7_249 : gx_fl gx_U RX7 249 RX6 TX6 2 1 := ⟨iu_X6, by decide, gx_mu (gx_t_1 (List.mem_of_getElem? (i := 221) rfl)) rfl, rfl⟩
theorem wc_X6_append : Cond.code yX6_append cX6_append 2 ((Option.none : Option Jvm.ClassFile.FieldType)) ∈ gx_U := gx_mu (gx_t_3 (List.mem_of_getElem? (i := 176) rfl)) rfl
theorem wn_X6_append : Cond.instanceMethod yX6_append ∈ gx_U := gx_mu (gx_t_3 (List.mem_of_getElem? (i := 174) rfl)) rfl
theorem ws_X6_append : Cond.selects RX6 yX6_append yX6_append ∈ gx_U := gx_mu (gx_t_3 (List.mem_of_getElem? (i := 175) rfl)) rfl
theorem lk_X7_252 : gx_lk gx_U RX7 252 RX6 yX6_append cX6_append 2 ((Option.none : Option Jvm.ClassFile.FieldType)) 1 := ⟨gx_mu (gx_t_3 (List.mem_of_getElem? (i := 173) rfl)) rfl, wn_X6_append, ws_X6_append, wi_X6, wc_X6_append, rfl, by decide +kernel, by decide +kernel, by decide +kernel⟩
theorem fl_X7_61 : gx_fl gx_U RX7 61 RX7 TX7 15 8 := ⟨iu_X7, by decide, gx_mu (gx_t_2 (List.mem_of_getElem? (i := 50) rfl)) rfl, rfl⟩
theorem lk_X7_258 : gx_lk gx_U RX7 258 RX1 yX1_firstFault cX1_firstFault 3 ((Option.some Jvm.ClassFile.FieldType.int)) 1 := ⟨gx_mu (gx_t_3 (List.mem_of_getElem? (i := 185) rfl)) rfl, wn_X1_firstFault, ws_X1_firstFault, wi_X1, wc_X1_firstFault, rfl, by decide +kernel, by decide +kernel, by decide +kernel⟩
theorem wc_X1_isTest : Cond.code yX1_isTest cX1_isTest 2 ((Option.some Jvm.ClassFile.FieldType.boolean)) ∈ gx_U := gx_mu (gx_t_3 (List.mem_of_getElem? (i := 219) rfl)) rfl
theorem wn_X1_isTest : Cond.instanceMethod yX1_isTest ∈ gx_U := gx_mu (gx_t_3 (List.mem_of_getElem? (i := 217) rfl)) rfl
theorem ws_X1_isTest : Cond.selects RX1 yX1_isTest yX1_isTest ∈ gx_U := gx_mu (gx_t_3 (List.mem_of_getElem? (i := 218) rfl)) rfl
theorem lk_X7_262 : gx_lk gx_U RX7 262 RX1 yX1_isTest cX1_isTest 2 ((Option.some Jvm.ClassFile.FieldType.boolean)) 1 := ⟨gx_mu (gx_t_3 (List.mem_of_getElem? (i := 216) rfl)) rfl, wn_X1_isTest, ws_X1_isTest, wi_X1, wc_X1_isTest, rfl, by decide +kernel, by decide +kernel, by decide +kernel⟩
theorem fl_X7_266 : gx_fl gx_U RX7 266 RX7 TX7 15 10 := ⟨iu_X7, by decide, gx_mu (gx_t_2 (List.mem_of_getElem? (i := 52) rfl)) rfl, rfl⟩
theorem fl_X7_54 : gx_fl gx_U RX7 54 RX7 TX7 15 7 := ⟨iu_X7, by decide, gx_mu (gx_t_2 (List.mem_of_getElem? (i := 49) rfl)) rfl, rfl⟩
theorem wc_X6_become : Cond.code yX6_become cX6_become 3 ((Option.none : Option Jvm.ClassFile.FieldType)) ∈ gx_U := gx_mu (gx_t_3 (List.mem_of_getElem? (i := 224) rfl)) rfl
theorem wn_X6_become : Cond.instanceMethod yX6_become ∈ gx_U := gx_mu (gx_t_3 (List.mem_of_getElem? (i := 222) rfl)) rfl
theorem ws_X6_become : Cond.selects RX6 yX6_become yX6_become ∈ gx_U := gx_mu (gx_t_3 (List.mem_of_getElem? (i := 223) rfl)) rfl
theorem lk_X7_269 : gx_lk gx_U RX7 269 RX6 yX6_become cX6_become 3 ((Option.none : Option Jvm.ClassFile.FieldType)) 1 := ⟨gx_mu (gx_t_3 (List.mem_of_getElem? (i := 221) rfl)) rfl, wn_X6_become, ws_X6_become, wi_X6, wc_X6_become, rfl, by decide +kernel, by decide +kernel, by decide +kernel⟩
theorem fl_X7_68 : gx_fl gx_U RX7 68 RX7 TX7 15 9 := ⟨iu_X7, by decide, gx_mu (gx_t_2 (List.mem_of_getElem? (i := 51) rfl)) rfl, rfl⟩
theorem wc_X3_weigh : Cond.code yX3_weigh cX3_weigh 6 ((Option.none : Option Jvm.ClassFile.FieldType)) ∈ gx_U := gx_mu (gx_t_4 (List.mem_of_getElem? (i := 0) rfl)) rfl
theorem wn_X3_weigh : Cond.instanceMethod yX3_weigh ∈ gx_U := gx_mu (gx_t_3 (List.mem_of_getElem? (i := 238) rfl)) rfl
theorem ws_X3_weigh : Cond.selects RX3 yX3_weigh yX3_weigh ∈ gx_U := gx_mu (gx_t_3 (List.mem_of_getElem? (i := 239) rfl)) rfl
theorem lk_X7_278 : gx_lk gx_U RX7 278 RX3 yX3_weigh cX3_weigh 6 ((Option.none : Option Jvm.ClassFile.FieldType)) 3 := ⟨gx_mu (gx_t_3 (List.mem_of_getElem? (i := 237) rfl)) rfl, wn_X3_weigh, ws_X3_weigh, wi_X3, wc_X3_weigh, rfl, by decide +kernel, by decide +kernel, by decide +kernel⟩
theorem wc_X3_holds : Cond.code yX3_holds cX3_holds 3 ((Option.some Jvm.ClassFile.FieldType.boolean)) ∈ gx_U := gx_mu (gx_t_4 (List.mem_of_getElem? (i := 19) rfl)) rfl
theorem wn_X3_holds : Cond.instanceMethod yX3_holds ∈ gx_U := gx_mu (gx_t_4 (List.mem_of_getElem? (i := 17) rfl)) rfl
theorem ws_X3_holds : Cond.selects RX3 yX3_holds yX3_holds ∈ gx_U := gx_mu (gx_t_4 (List.mem_of_getElem? (i := 18) rfl)) rfl
theorem lk_X7_282 : gx_lk gx_U RX7 282 RX3 yX3_holds cX3_holds 3 ((Option.some Jvm.ClassFile.FieldType.boolean)) 1 := ⟨gx_mu (gx_t_4 (List.mem_of_getElem? (i := 16) rfl)) rfl, wn_X3_holds, ws_X3_holds, wi_X3, wc_X3_holds, rfl, by decide +kernel, by decide +kernel, by decide +kernel⟩
theorem wc_X7_isNoTest : Cond.code yX7_isNoTest cX7_isNoTest 2 ((Option.some Jvm.ClassFile.FieldType.boolean)) ∈ gx_U := gx_mu (gx_t_3 (List.mem_of_getElem? (i := 232) rfl)) rfl
theorem wn_X7_isNoTest : Cond.instanceMethod yX7_isNoTest ∈ gx_U := gx_mu (gx_t_3 (List.mem_of_getElem? (i := 231) rfl)) rfl
theorem ws_X7_isNoTest : Cond.selects RX7 yX7_isNoTest yX7_isNoTest ∈ gx_U := gx_mu (gx_t_p (List.mem_of_getElem? (i := 22) rfl)) rfl
theorem lk_X7_272 : gx_lk gx_U RX7 272 RX7 yX7_isNoTest cX7_isNoTest 2 ((Option.some Jvm.ClassFile.FieldType.boolean)) 1 := ⟨gx_mu (gx_t_3 (List.mem_of_getElem? (i := 229) rfl)) rfl, wn_X7_isNoTest, ws_X7_isNoTest, wi_X7, wc_X7_isNoTest, rfl, by decide +kernel, by decide +kernel, by decide +kernel⟩
theorem wc_X7_isBarred : Cond.code yX7_isBarred cX7_isBarred 4 ((Option.some Jvm.ClassFile.FieldType.boolean)) ∈ gx_U := gx_mu (gx_t_3 (List.mem_of_getElem? (i := 236) rfl)) rfl
theorem wn_X7_isBarred : Cond.instanceMethod yX7_isBarred ∈ gx_U := gx_mu (gx_t_3 (List.mem_of_getElem? (i := 235) rfl)) rfl
theorem ws_X7_isBarred : Cond.selects RX7 yX7_isBarred yX7_isBarred ∈ gx_U := gx_mu (gx_t_p (List.mem_of_getElem? (i := 23) rfl)) rfl
theorem lk_X7_275 : gx_lk gx_U RX7 275 RX7 yX7_isBarred cX7_isBarred 4 ((Option.some Jvm.ClassFile.FieldType.boolean)) 3 := ⟨gx_mu (gx_t_3 (List.mem_of_getElem? (i := 233) rfl)) rfl, wn_X7_isBarred, ws_X7_isBarred, wi_X7, wc_X7_isBarred, rfl, by decide +kernel, by decide +kernel, by decide +kernel⟩
theorem fl_X7_285 : gx_fl gx_U RX7 285 RX7 TX7 15 11 := ⟨iu_X7, by decide, gx_mu (gx_t_2 (List.mem_of_getElem? (i := 53) rfl)) rfl, rfl⟩
theorem wc_X7_isWrong : Cond.code yX7_isWrong cX7_isWrong 3 ((Option.some Jvm.ClassFile.FieldType.boolean)) ∈ gx_U := gx_mu (gx_t_4 (List.mem_of_getElem? (i := 47) rfl)) rfl
theorem wt_X7_isWrong : Cond.static yX7_isWrong ∈ gx_U := gx_mu (gx_t_4 (List.mem_of_getElem? (i := 46) rfl)) rfl
theorem lk_X7_288 : gx_lkS gx_U RX7 288 yX7_isWrong cX7_isWrong 3 ((Option.some Jvm.ClassFile.FieldType.boolean)) 3 := ⟨gx_mu (gx_t_4 (List.mem_of_getElem? (i := 45) rfl)) rfl, wt_X7_isWrong, wi_X7, wc_X7_isWrong, by decide +kernel, by decide +kernel, by decide +kernel⟩
theorem fl_X7_28 : gx_fl gx_U RX7 28 RX7 TX7 15 3 := ⟨iu_X7, by decide, gx_mu (gx_t_2 (List.mem_of_getElem? (i := 45) rfl)) rfl, rfl⟩
theorem fl_X7_292 : gx_fl gx_U RX7 292 RX7 TX7 15 12 := ⟨iu_X7, by decide, gx_mu (gx_t_2 (List.mem_of_getElem? (i := 54) rfl)) rfl, rfl⟩
theorem fl_X7_295 : gx_fl gx_U RX7 295 RX7 TX7 15 13 := ⟨iu_X7, by decide, gx_mu (gx_t_2 (List.mem_of_getElem? (i := 55) rfl)) rfl, rfl⟩
theorem fl_X7_298 : gx_fl gx_U RX7 298 RX7 TX7 15 14 := ⟨iu_X7, by decide, gx_mu (gx_t_2 (List.mem_of_getElem? (i := 56) rfl)) rfl, rfl⟩
theorem fl_X7_301 : gx_fl gx_U RX7 301 RX4 TX4 4 3 := ⟨iu_X4, by decide, gx_mu (gx_t_1 (List.mem_of_getElem? (i := 126) rfl)) rfl, rfl⟩
theorem kX7_328 : Cond.constantLong RX7 328 31 ∈ gx_U := gx_mu (gx_t_4 (List.mem_of_getElem? (i := 72) rfl)) rfl
theorem wc_X7_mix : Cond.code yX7_mix cX7_mix 4 ((Option.some Jvm.ClassFile.FieldType.long)) ∈ gx_U := gx_mu (gx_t_4 (List.mem_of_getElem? (i := 71) rfl)) rfl
theorem wt_X7_mix : Cond.static yX7_mix ∈ gx_U := gx_mu (gx_t_4 (List.mem_of_getElem? (i := 70) rfl)) rfl
theorem lk_X7_321 : gx_lkS gx_U RX7 321 yX7_mix cX7_mix 4 ((Option.some Jvm.ClassFile.FieldType.long)) 2 := ⟨gx_mu (gx_t_4 (List.mem_of_getElem? (i := 69) rfl)) rfl, wt_X7_mix, wi_X7, wc_X7_mix, by decide +kernel, by decide +kernel, by decide +kernel⟩
theorem fl_X7_330 : gx_fl gx_U RX7 330 RX5 TX5 14 4 := ⟨iu_X5, by decide, gx_mu (gx_t_1 (List.mem_of_getElem? (i := 50) rfl)) rfl, rfl⟩
theorem wc_X7_about : Cond.code yX7_about cX7_about 3 ((Option.some Jvm.ClassFile.FieldType.int)) ∈ gx_U := gx_mu (gx_t_2 (List.mem_of_getElem? (i := 139) rfl)) rfl
theorem wn_X7_about : Cond.instanceMethod yX7_about ∈ gx_U := gx_mu (gx_t_2 (List.mem_of_getElem? (i := 137) rfl)) rfl
theorem ws_X7_about : Cond.selects RX7 yX7_about yX7_about ∈ gx_U := gx_mu (gx_t_2 (List.mem_of_getElem? (i := 138) rfl)) rfl
theorem lk_X7_333 : gx_lk gx_U RX7 333 RX7 yX7_about cX7_about 3 ((Option.some Jvm.ClassFile.FieldType.int)) 2 := ⟨gx_mu (gx_t_4 (List.mem_of_getElem? (i := 73) rfl)) rfl, wn_X7_about, ws_X7_about, wi_X7, wc_X7_about, rfl, by decide +kernel, by decide +kernel, by decide +kernel⟩
theorem fl_X7_336 : gx_fl gx_U RX7 336 RX5 TX5 14 7 := ⟨iu_X5, by decide, gx_mu (gx_t_1 (List.mem_of_getElem? (i := 59) rfl)) rfl, rfl⟩
theorem fl_X7_339 : gx_fl gx_U RX7 339 RX5 TX5 14 9 := ⟨iu_X5, by decide, gx_mu (gx_t_1 (List.mem_of_getElem? (i := 67) rfl)) rfl, rfl⟩
theorem fl_X7_342 : gx_fl gx_U RX7 342 RX5 TX5 14 10 := ⟨iu_X5, by decide, gx_mu (gx_t_1 (List.mem_of_getElem? (i := 71) rfl)) rfl, rfl⟩
theorem fl_X7_345 : gx_fl gx_U RX7 345 RX5 TX5 14 11 := ⟨iu_X5, by decide, gx_mu (gx_t_1 (List.mem_of_getElem? (i := 73) rfl)) rfl, rfl⟩
theorem fl_X7_348 : gx_fl gx_U RX7 348 RX5 TX5 14 12 := ⟨iu_X5, by decide, gx_mu (gx_t_1 (List.mem_of_getElem? (i := 75) rfl)) rfl, rfl⟩
theorem kX7_305 : Cond.constantLong RX7 305 373 ∈ gx_U := gx_mu (gx_t_4 (List.mem_of_getElem? (i := 64) rfl)) rfl
theorem wc_X7_mixStreet : Cond.code yX7_mixStreet cX7_mixStreet 7 ((Option.some Jvm.ClassFile.FieldType.long)) ∈ gx_U := gx_mu (gx_t_4 (List.mem_of_getElem? (i := 68) rfl)) rfl
theorem wn_X7_mixStreet : Cond.instanceMethod yX7_mixStreet ∈ gx_U := gx_mu (gx_t_4 (List.mem_of_getElem? (i := 67) rfl)) rfl
theorem ws_X7_mixStreet : Cond.selects RX7 yX7_mixStreet yX7_mixStreet ∈ gx_U := gx_mu (gx_t_p (List.mem_of_getElem? (i := 30) rfl)) rfl
theorem lk_X7_307 : gx_lk gx_U RX7 307 RX7 yX7_mixStreet cX7_mixStreet 7 ((Option.some Jvm.ClassFile.FieldType.long)) 1 := ⟨gx_mu (gx_t_4 (List.mem_of_getElem? (i := 65) rfl)) rfl, wn_X7_mixStreet, ws_X7_mixStreet, wi_X7, wc_X7_mixStreet, rfl, by decide +kernel, by decide +kernel, by decide +kernel⟩
theorem wc_X7_mixSorts : Cond.code yX7_mixSorts cX7_mixSorts 6 ((Option.some Jvm.ClassFile.FieldType.long)) ∈ gx_U := gx_mu (gx_t_4 (List.mem_of_getElem? (i := 77) rfl)) rfl
theorem wn_X7_mixSorts : Cond.instanceMethod yX7_mixSorts ∈ gx_U := gx_mu (gx_t_4 (List.mem_of_getElem? (i := 76) rfl)) rfl
theorem ws_X7_mixSorts : Cond.selects RX7 yX7_mixSorts yX7_mixSorts ∈ gx_U := gx_mu (gx_t_p (List.mem_of_getElem? (i := 31) rfl)) rfl
theorem lk_X7_311 : gx_lk gx_U RX7 311 RX7 yX7_mixSorts cX7_mixSorts 6 ((Option.some Jvm.ClassFile.FieldType.long)) 1 := ⟨gx_mu (gx_t_4 (List.mem_of_getElem? (i := 74) rfl)) rfl, wn_X7_mixSorts, ws_X7_mixSorts, wi_X7, wc_X7_mixSorts, rfl, by decide +kernel, by decide +kernel, by decide +kernel⟩
theorem wc_X7_mixTests : Cond.code yX7_mixTests cX7_mixTests 8 ((Option.some Jvm.ClassFile.FieldType.long)) ∈ gx_U := gx_mu (gx_t_4 (List.mem_of_getElem? (i := 81) rfl)) rfl
theorem wn_X7_mixTests : Cond.instanceMethod yX7_mixTests ∈ gx_U := gx_mu (gx_t_4 (List.mem_of_getElem? (i := 80) rfl)) rfl
theorem ws_X7_mixTests : Cond.selects RX7 yX7_mixTests yX7_mixTests ∈ gx_U := gx_mu (gx_t_p (List.mem_of_getElem? (i := 32) rfl)) rfl
theorem lk_X7_314 : gx_lk gx_U RX7 314 RX7 yX7_mixTests cX7_mixTests 8 ((Option.some Jvm.ClassFile.FieldType.long)) 1 := ⟨gx_mu (gx_t_4 (List.mem_of_getElem? (i := 78) rfl)) rfl, wn_X7_mixTests, ws_X7_mixTests, wi_X7, wc_X7_mixTests, rfl, by decide +kernel, by decide +kernel, by decide +kernel⟩
theorem fl_X7_317 : gx_fl gx_U RX7 317 RX6 TX6 2 0 := ⟨iu_X6, by decide, gx_mu (gx_t_1 (List.mem_of_getElem? (i := 217) rfl)) rfl, rfl⟩
theorem wc_X7_count : Cond.code yX7_count cX7_count 2 ((Option.some Jvm.ClassFile.FieldType.int)) ∈ gx_U := gx_mu (gx_t_4 (List.mem_of_getElem? (i := 59) rfl)) rfl
theorem wn_X7_count : Cond.instanceMethod yX7_count ∈ gx_U := gx_mu (gx_t_4 (List.mem_of_getElem? (i := 57) rfl)) rfl
theorem ws_X7_count : Cond.selects RX7 yX7_count yX7_count ∈ gx_U := gx_mu (gx_t_4 (List.mem_of_getElem? (i := 58) rfl)) rfl
theorem lk_X7_325 : gx_lk gx_U RX7 325 RX7 yX7_count cX7_count 2 ((Option.some Jvm.ClassFile.FieldType.int)) 1 := ⟨gx_mu (gx_t_4 (List.mem_of_getElem? (i := 82) rfl)) rfl, wn_X7_count, ws_X7_count, wi_X7, wc_X7_count, rfl, by decide +kernel, by decide +kernel, by decide +kernel⟩
theorem fl_X8_91 : gx_fl gx_U RX8 91 RX8 TX8 42 0 := ⟨iu_X8, by decide, gx_mu (gx_t_4 (List.mem_of_getElem? (i := 89) rfl)) rfl, rfl⟩
theorem wc_X8_within : Cond.code yX8_within cX8_within 3 ((Option.some Jvm.ClassFile.FieldType.boolean)) ∈ gx_U := gx_mu (gx_t_4 (List.mem_of_getElem? (i := 223) rfl)) rfl
theorem wi_X8 : Cond.initialized RX8 ∈ gx_U := gx_mu (gx_t_1 (List.mem_of_getElem? (i := 9) rfl)) rfl
theorem wt_X8_within : Cond.static yX8_within ∈ gx_U := gx_mu (gx_t_4 (List.mem_of_getElem? (i := 222) rfl)) rfl
theorem lk_X8_94 : gx_lkS gx_U RX8 94 yX8_within cX8_within 3 ((Option.some Jvm.ClassFile.FieldType.boolean)) 3 := ⟨gx_mu (gx_t_4 (List.mem_of_getElem? (i := 221) rfl)) rfl, wt_X8_within, wi_X8, wc_X8_within, by decide +kernel, by decide +kernel, by decide +kernel⟩
theorem fl_X8_98 : gx_fl gx_U RX8 98 RX8 TX8 42 4 := ⟨iu_X8, by decide, gx_mu (gx_t_4 (List.mem_of_getElem? (i := 93) rfl)) rfl, rfl⟩
theorem fl_X8_101 : gx_fl gx_U RX8 101 RX8 TX8 42 9 := ⟨iu_X8, by decide, gx_mu (gx_t_4 (List.mem_of_getElem? (i := 98) rfl)) rfl, rfl⟩
theorem fl_X8_7 : gx_fl gx_U RX8 7 RX8 TX8 42 1 := ⟨iu_X8, by decide, gx_mu (gx_t_4 (List.mem_of_getElem? (i := 90) rfl)) rfl, rfl⟩
theorem fl_X8_13 : gx_fl gx_U RX8 13 RX8 TX8 42 2 := ⟨iu_X8, by decide, gx_mu (gx_t_4 (List.mem_of_getElem? (i := 91) rfl)) rfl, rfl⟩
theorem fl_X8_16 : gx_fl gx_U RX8 16 RX8 TX8 42 3 := ⟨iu_X8, by decide, gx_mu (gx_t_4 (List.mem_of_getElem? (i := 92) rfl)) rfl, rfl⟩
theorem wc_X8_isOwner : Cond.code yX8_isOwner cX8_isOwner 2 ((Option.some Jvm.ClassFile.FieldType.boolean)) ∈ gx_U := gx_mu (gx_t_4 (List.mem_of_getElem? (i := 231) rfl)) rfl
theorem wn_X8_isOwner : Cond.instanceMethod yX8_isOwner ∈ gx_U := gx_mu (gx_t_4 (List.mem_of_getElem? (i := 230) rfl)) rfl
theorem ws_X8_isOwner : Cond.selects RX8 yX8_isOwner yX8_isOwner ∈ gx_U := gx_mu (gx_t_p (List.mem_of_getElem? (i := 33) rfl)) rfl
theorem lk_X8_104 : gx_lk gx_U RX8 104 RX8 yX8_isOwner cX8_isOwner 2 ((Option.some Jvm.ClassFile.FieldType.boolean)) 1 := ⟨gx_mu (gx_t_4 (List.mem_of_getElem? (i := 228) rfl)) rfl, wn_X8_isOwner, ws_X8_isOwner, wi_X8, wc_X8_isOwner, rfl, by decide +kernel, by decide +kernel, by decide +kernel⟩
theorem fl_X8_20 : gx_fl gx_U RX8 20 RX8 TX8 42 5 := ⟨iu_X8, by decide, gx_mu (gx_t_4 (List.mem_of_getElem? (i := 94) rfl)) rfl, rfl⟩
theorem wc_X8_shopsOf : Cond.code yX8_shopsOf cX8_shopsOf 4 ((Option.some Jvm.ClassFile.FieldType.int)) ∈ gx_U := gx_mu (gx_t_4 (List.mem_of_getElem? (i := 239) rfl)) rfl
theorem wn_X8_shopsOf : Cond.instanceMethod yX8_shopsOf ∈ gx_U := gx_mu (gx_t_4 (List.mem_of_getElem? (i := 238) rfl)) rfl
theorem ws_X8_shopsOf : Cond.selects RX8 yX8_shopsOf yX8_shopsOf ∈ gx_U := gx_mu (gx_t_p (List.mem_of_getElem? (i := 34) rfl)) rfl
theorem lk_X8_108 : gx_lk gx_U RX8 108 RX8 yX8_shopsOf cX8_shopsOf 4 ((Option.some Jvm.ClassFile.FieldType.int)) 1 := ⟨gx_mu (gx_t_4 (List.mem_of_getElem? (i := 236) rfl)) rfl, wn_X8_shopsOf, ws_X8_shopsOf, wi_X8, wc_X8_shopsOf, rfl, by decide +kernel, by decide +kernel, by decide +kernel⟩
theorem fl_X8_23 : gx_fl gx_U RX8 23 RX8 TX8 42 6 := ⟨iu_X8, by decide, gx_mu (gx_t_4 (List.mem_of_getElem? (i := 95) rfl)) rfl, rfl⟩
theorem fl_X8_26 : gx_fl gx_U RX8 26 RX8 TX8 42 7 := ⟨iu_X8, by decide, gx_mu (gx_t_4 (List.mem_of_getElem? (i := 96) rfl)) rfl, rfl⟩
theorem fl_X8_29 : gx_fl gx_U RX8 29 RX8 TX8 42 8 := ⟨iu_X8, by decide, gx_mu (gx_t_4 (List.mem_of_getElem? (i := 97) rfl)) rfl, rfl⟩
theorem fl_X8_54 : gx_fl gx_U RX8 54 RX8 TX8 42 23 := ⟨iu_X8, by decide, gx_mu (gx_t_4 (List.mem_of_getElem? (i := 112) rfl)) rfl, rfl⟩
theorem fl_X8_32 : gx_fl gx_U RX8 32 RX8 TX8 42 10 := ⟨iu_X8, by decide, gx_mu (gx_t_4 (List.mem_of_getElem? (i := 99) rfl)) rfl, rfl⟩
theorem wc_X8_told : Cond.code yX8_told cX8_told 3 ((Option.some Jvm.ClassFile.FieldType.int)) ∈ gx_U := gx_mu (gx_t_5 (List.mem_of_getElem? (i := 31) rfl)) rfl
theorem wn_X8_told : Cond.instanceMethod yX8_told ∈ gx_U := gx_mu (gx_t_5 (List.mem_of_getElem? (i := 30) rfl)) rfl
theorem ws_X8_told : Cond.selects RX8 yX8_told yX8_told ∈ gx_U := gx_mu (gx_t_p (List.mem_of_getElem? (i := 41) rfl)) rfl
theorem lk_X8_112 : gx_lk gx_U RX8 112 RX8 yX8_told cX8_told 3 ((Option.some Jvm.ClassFile.FieldType.int)) 2 := ⟨gx_mu (gx_t_5 (List.mem_of_getElem? (i := 28) rfl)) rfl, wn_X8_told, ws_X8_told, wi_X8, wc_X8_told, rfl, by decide +kernel, by decide +kernel, by decide +kernel⟩
theorem wc_X8_size : Cond.code yX8_size cX8_size 1 ((Option.some Jvm.ClassFile.FieldType.int)) ∈ gx_U := gx_mu (gx_t_5 (List.mem_of_getElem? (i := 34) rfl)) rfl
theorem wt_X8_size : Cond.static yX8_size ∈ gx_U := gx_mu (gx_t_5 (List.mem_of_getElem? (i := 33) rfl)) rfl
theorem lk_X8_116 : gx_lkS gx_U RX8 116 yX8_size cX8_size 1 ((Option.some Jvm.ClassFile.FieldType.int)) 1 := ⟨gx_mu (gx_t_5 (List.mem_of_getElem? (i := 32) rfl)) rfl, wt_X8_size, wi_X8, wc_X8_size, by decide +kernel, by decide +kernel, by decide +kernel⟩
theorem wc_X8_isOpen : Cond.code yX8_isOpen cX8_isOpen 2 ((Option.some Jvm.ClassFile.FieldType.boolean)) ∈ gx_U := gx_mu (gx_t_5 (List.mem_of_getElem? (i := 15) rfl)) rfl
theorem wn_X8_isOpen : Cond.instanceMethod yX8_isOpen ∈ gx_U := gx_mu (gx_t_5 (List.mem_of_getElem? (i := 14) rfl)) rfl
theorem ws_X8_isOpen : Cond.selects RX8 yX8_isOpen yX8_isOpen ∈ gx_U := gx_mu (gx_t_p (List.mem_of_getElem? (i := 37) rfl)) rfl
theorem lk_X8_119 : gx_lk gx_U RX8 119 RX8 yX8_isOpen cX8_isOpen 2 ((Option.some Jvm.ClassFile.FieldType.boolean)) 1 := ⟨gx_mu (gx_t_5 (List.mem_of_getElem? (i := 12) rfl)) rfl, wn_X8_isOpen, ws_X8_isOpen, wi_X8, wc_X8_isOpen, rfl, by decide +kernel, by decide +kernel, by decide +kernel⟩
theorem wc_X8_isTo : Cond.code yX8_isTo cX8_isTo 4 ((Option.some Jvm.ClassFile.FieldType.int)) ∈ gx_U := gx_mu (gx_t_5 (List.mem_of_getElem? (i := 27) rfl)) rfl
theorem wn_X8_isTo : Cond.instanceMethod yX8_isTo ∈ gx_U := gx_mu (gx_t_5 (List.mem_of_getElem? (i := 26) rfl)) rfl
theorem ws_X8_isTo : Cond.selects RX8 yX8_isTo yX8_isTo ∈ gx_U := gx_mu (gx_t_p (List.mem_of_getElem? (i := 40) rfl)) rfl
theorem lk_X8_122 : gx_lk gx_U RX8 122 RX8 yX8_isTo cX8_isTo 4 ((Option.some Jvm.ClassFile.FieldType.int)) 2 := ⟨gx_mu (gx_t_5 (List.mem_of_getElem? (i := 24) rfl)) rfl, wn_X8_isTo, ws_X8_isTo, wi_X8, wc_X8_isTo, rfl, by decide +kernel, by decide +kernel, by decide +kernel⟩
theorem wc_X8_goesTo : Cond.code yX8_goesTo cX8_goesTo 4 ((Option.some Jvm.ClassFile.FieldType.int)) ∈ gx_U := gx_mu (gx_t_5 (List.mem_of_getElem? (i := 23) rfl)) rfl
theorem wn_X8_goesTo : Cond.instanceMethod yX8_goesTo ∈ gx_U := gx_mu (gx_t_5 (List.mem_of_getElem? (i := 22) rfl)) rfl
theorem ws_X8_goesTo : Cond.selects RX8 yX8_goesTo yX8_goesTo ∈ gx_U := gx_mu (gx_t_p (List.mem_of_getElem? (i := 39) rfl)) rfl
theorem lk_X8_125 : gx_lk gx_U RX8 125 RX8 yX8_goesTo cX8_goesTo 4 ((Option.some Jvm.ClassFile.FieldType.int)) 1 := ⟨gx_mu (gx_t_5 (List.mem_of_getElem? (i := 20) rfl)) rfl, wn_X8_goesTo, ws_X8_goesTo, wi_X8, wc_X8_goesTo, rfl, by decide +kernel, by decide +kernel, by decide +kernel⟩
theorem fl_X8_58 : gx_fl gx_U RX8 58 RX8 TX8 42 24 := ⟨iu_X8, by decide, gx_mu (gx_t_4 (List.mem_of_getElem? (i := 113) rfl)) rfl, rfl⟩
theorem wc_X8_laySold : Cond.code yX8_laySold cX8_laySold 4 ((Option.some Jvm.ClassFile.FieldType.int)) ∈ gx_U := gx_mu (gx_t_5 (List.mem_of_getElem? (i := 19) rfl)) rfl
theorem wn_X8_laySold : Cond.instanceMethod yX8_laySold ∈ gx_U := gx_mu (gx_t_5 (List.mem_of_getElem? (i := 18) rfl)) rfl
theorem ws_X8_laySold : Cond.selects RX8 yX8_laySold yX8_laySold ∈ gx_U := gx_mu (gx_t_p (List.mem_of_getElem? (i := 38) rfl)) rfl
theorem lk_X8_128 : gx_lk gx_U RX8 128 RX8 yX8_laySold cX8_laySold 4 ((Option.some Jvm.ClassFile.FieldType.int)) 0 := ⟨gx_mu (gx_t_5 (List.mem_of_getElem? (i := 16) rfl)) rfl, wn_X8_laySold, ws_X8_laySold, wi_X8, wc_X8_laySold, rfl, by decide +kernel, by decide +kernel, by decide +kernel⟩
theorem wc_X8_isShop : Cond.code yX8_isShop cX8_isShop 2 ((Option.some Jvm.ClassFile.FieldType.boolean)) ∈ gx_U := gx_mu (gx_t_5 (List.mem_of_getElem? (i := 7) rfl)) rfl
theorem wn_X8_isShop : Cond.instanceMethod yX8_isShop ∈ gx_U := gx_mu (gx_t_5 (List.mem_of_getElem? (i := 6) rfl)) rfl
theorem ws_X8_isShop : Cond.selects RX8 yX8_isShop yX8_isShop ∈ gx_U := gx_mu (gx_t_p (List.mem_of_getElem? (i := 35) rfl)) rfl
theorem lk_X8_132 : gx_lk gx_U RX8 132 RX8 yX8_isShop cX8_isShop 2 ((Option.some Jvm.ClassFile.FieldType.boolean)) 1 := ⟨gx_mu (gx_t_5 (List.mem_of_getElem? (i := 4) rfl)) rfl, wn_X8_isShop, ws_X8_isShop, wi_X8, wc_X8_isShop, rfl, by decide +kernel, by decide +kernel, by decide +kernel⟩
theorem wc_X8_aboutOf : Cond.code yX8_aboutOf cX8_aboutOf 3 ((Option.some Jvm.ClassFile.FieldType.int)) ∈ gx_U := gx_mu (gx_t_5 (List.mem_of_getElem? (i := 11) rfl)) rfl
theorem wn_X8_aboutOf : Cond.instanceMethod yX8_aboutOf ∈ gx_U := gx_mu (gx_t_5 (List.mem_of_getElem? (i := 10) rfl)) rfl
theorem ws_X8_aboutOf : Cond.selects RX8 yX8_aboutOf yX8_aboutOf ∈ gx_U := gx_mu (gx_t_p (List.mem_of_getElem? (i := 36) rfl)) rfl
theorem lk_X8_135 : gx_lk gx_U RX8 135 RX8 yX8_aboutOf cX8_aboutOf 3 ((Option.some Jvm.ClassFile.FieldType.int)) 2 := ⟨gx_mu (gx_t_5 (List.mem_of_getElem? (i := 8) rfl)) rfl, wn_X8_aboutOf, ws_X8_aboutOf, wi_X8, wc_X8_aboutOf, rfl, by decide +kernel, by decide +kernel, by decide +kernel⟩
theorem wc_X8_isSort : Cond.code yX8_isSort cX8_isSort 2 ((Option.some Jvm.ClassFile.FieldType.boolean)) ∈ gx_U := gx_mu (gx_t_5 (List.mem_of_getElem? (i := 50) rfl)) rfl
theorem wn_X8_isSort : Cond.instanceMethod yX8_isSort ∈ gx_U := gx_mu (gx_t_5 (List.mem_of_getElem? (i := 49) rfl)) rfl
theorem ws_X8_isSort : Cond.selects RX8 yX8_isSort yX8_isSort ∈ gx_U := gx_mu (gx_t_p (List.mem_of_getElem? (i := 42) rfl)) rfl
theorem lk_X8_138 : gx_lk gx_U RX8 138 RX8 yX8_isSort cX8_isSort 2 ((Option.some Jvm.ClassFile.FieldType.boolean)) 1 := ⟨gx_mu (gx_t_5 (List.mem_of_getElem? (i := 47) rfl)) rfl, wn_X8_isSort, ws_X8_isSort, wi_X8, wc_X8_isSort, rfl, by decide +kernel, by decide +kernel, by decide +kernel⟩
theorem wc_X8_spareOf : Cond.code yX8_spareOf cX8_spareOf 3 ((Option.some Jvm.ClassFile.FieldType.int)) ∈ gx_U := gx_mu (gx_t_5 (List.mem_of_getElem? (i := 62) rfl)) rfl
theorem wn_X8_spareOf : Cond.instanceMethod yX8_spareOf ∈ gx_U := gx_mu (gx_t_5 (List.mem_of_getElem? (i := 61) rfl)) rfl
theorem ws_X8_spareOf : Cond.selects RX8 yX8_spareOf yX8_spareOf ∈ gx_U := gx_mu (gx_t_p (List.mem_of_getElem? (i := 43) rfl)) rfl
theorem lk_X8_141 : gx_lk gx_U RX8 141 RX8 yX8_spareOf cX8_spareOf 3 ((Option.some Jvm.ClassFile.FieldType.int)) 1 := ⟨gx_mu (gx_t_5 (List.mem_of_getElem? (i := 59) rfl)) rfl, wn_X8_spareOf, ws_X8_spareOf, wi_X8, wc_X8_spareOf, rfl, by decide +kernel, by decide +kernel, by decide +kernel⟩
theorem wc_X8_profitOf : Cond.code yX8_profitOf cX8_profitOf 5 ((Option.some Jvm.ClassFile.FieldType.int)) ∈ gx_U := gx_mu (gx_t_5 (List.mem_of_getElem? (i := 70) rfl)) rfl
theorem wn_X8_profitOf : Cond.instanceMethod yX8_profitOf ∈ gx_U := gx_mu (gx_t_5 (List.mem_of_getElem? (i := 69) rfl)) rfl
theorem ws_X8_profitOf : Cond.selects RX8 yX8_profitOf yX8_profitOf ∈ gx_U := gx_mu (gx_t_p (List.mem_of_getElem? (i := 44) rfl)) rfl
theorem lk_X8_144 : gx_lk gx_U RX8 144 RX8 yX8_profitOf cX8_profitOf 5 ((Option.some Jvm.ClassFile.FieldType.int)) 1 := ⟨gx_mu (gx_t_5 (List.mem_of_getElem? (i := 67) rfl)) rfl, wn_X8_profitOf, ws_X8_profitOf, wi_X8, wc_X8_profitOf, rfl, by decide +kernel, by decide +kernel, by decide +kernel⟩
theorem kX8_147 : Cond.constant RX8 147 (-1000001) ∈ gx_U := gx_mu (gx_t_5 (List.mem_of_getElem? (i := 71) rfl)) rfl
theorem fl_X8_64 : gx_fl gx_U RX8 64 RX8 TX8 42 28 := ⟨iu_X8, by decide, gx_mu (gx_t_4 (List.mem_of_getElem? (i := 117) rfl)) rfl, rfl⟩
theorem fl_X8_61 : gx_fl gx_U RX8 61 RX8 TX8 42 25 := ⟨iu_X8, by decide, gx_mu (gx_t_4 (List.mem_of_getElem? (i := 114) rfl)) rfl, rfl⟩
theorem wc_X8_layCode : Cond.code yX8_layCode cX8_layCode 7 ((Option.none : Option Jvm.ClassFile.FieldType)) ∈ gx_U := gx_mu (gx_t_5 (List.mem_of_getElem? (i := 83) rfl)) rfl
theorem wn_X8_layCode : Cond.instanceMethod yX8_layCode ∈ gx_U := gx_mu (gx_t_5 (List.mem_of_getElem? (i := 82) rfl)) rfl
theorem ws_X8_layCode : Cond.selects RX8 yX8_layCode yX8_layCode ∈ gx_U := gx_mu (gx_t_p (List.mem_of_getElem? (i := 46) rfl)) rfl
theorem lk_X8_148 : gx_lk gx_U RX8 148 RX8 yX8_layCode cX8_layCode 7 ((Option.none : Option Jvm.ClassFile.FieldType)) 4 := ⟨gx_mu (gx_t_5 (List.mem_of_getElem? (i := 80) rfl)) rfl, wn_X8_layCode, ws_X8_layCode, wi_X8, wc_X8_layCode, rfl, by decide +kernel, by decide +kernel, by decide +kernel⟩
theorem fl_X8_152 : gx_fl gx_U RX8 152 RX8 TX8 42 27 := ⟨iu_X8, by decide, gx_mu (gx_t_4 (List.mem_of_getElem? (i := 116) rfl)) rfl, rfl⟩
theorem fl_X8_155 : gx_fl gx_U RX8 155 RX8 TX8 42 26 := ⟨iu_X8, by decide, gx_mu (gx_t_4 (List.mem_of_getElem? (i := 115) rfl)) rfl, rfl⟩
theorem wc_X8_layBest : Cond.code yX8_layBest cX8_layBest 9 ((Option.none : Option Jvm.ClassFile.FieldType)) ∈ gx_U := gx_mu (gx_t_5 (List.mem_of_getElem? (i := 79) rfl)) rfl
theorem wn_X8_layBest : Cond.instanceMethod yX8_layBest ∈ gx_U := gx_mu (gx_t_5 (List.mem_of_getElem? (i := 78) rfl)) rfl
theorem ws_X8_layBest : Cond.selects RX8 yX8_layBest yX8_layBest ∈ gx_U := gx_mu (gx_t_p (List.mem_of_getElem? (i := 45) rfl)) rfl
theorem lk_X8_159 : gx_lk gx_U RX8 159 RX8 yX8_layBest cX8_layBest 9 ((Option.none : Option Jvm.ClassFile.FieldType)) 1 := ⟨gx_mu (gx_t_5 (List.mem_of_getElem? (i := 76) rfl)) rfl, wn_X8_layBest, ws_X8_layBest, wi_X8, wc_X8_layBest, rfl, by decide +kernel, by decide +kernel, by decide +kernel⟩
theorem wc_X8_turnOf : Cond.code yX8_turnOf cX8_turnOf 4 ((Option.some Jvm.ClassFile.FieldType.int)) ∈ gx_U := gx_mu (gx_t_5 (List.mem_of_getElem? (i := 91) rfl)) rfl
theorem wn_X8_turnOf : Cond.instanceMethod yX8_turnOf ∈ gx_U := gx_mu (gx_t_5 (List.mem_of_getElem? (i := 90) rfl)) rfl
theorem ws_X8_turnOf : Cond.selects RX8 yX8_turnOf yX8_turnOf ∈ gx_U := gx_mu (gx_t_p (List.mem_of_getElem? (i := 47) rfl)) rfl
theorem lk_X8_163 : gx_lk gx_U RX8 163 RX8 yX8_turnOf cX8_turnOf 4 ((Option.some Jvm.ClassFile.FieldType.int)) 1 := ⟨gx_mu (gx_t_5 (List.mem_of_getElem? (i := 88) rfl)) rfl, wn_X8_turnOf, ws_X8_turnOf, wi_X8, wc_X8_turnOf, rfl, by decide +kernel, by decide +kernel, by decide +kernel⟩
theorem fl_X8_67 : gx_fl gx_U RX8 67 RX8 TX8 42 29 := ⟨iu_X8, by decide, gx_mu (gx_t_4 (List.mem_of_getElem? (i := 118) rfl)) rfl, rfl⟩
theorem fl_X8_70 : gx_fl gx_U RX8 70 RX8 TX8 42 30 := ⟨iu_X8, by decide, gx_mu (gx_t_4 (List.mem_of_getElem? (i := 119) rfl)) rfl, rfl⟩
theorem fl_X8_73 : gx_fl gx_U RX8 73 RX8 TX8 42 31 := ⟨iu_X8, by decide, gx_mu (gx_t_4 (List.mem_of_getElem? (i := 120) rfl)) rfl, rfl⟩
theorem wc_X8_hold : Cond.code yX8_hold cX8_hold 2 ((Option.none : Option Jvm.ClassFile.FieldType)) ∈ gx_U := gx_mu (gx_t_5 (List.mem_of_getElem? (i := 99) rfl)) rfl
theorem wn_X8_hold : Cond.instanceMethod yX8_hold ∈ gx_U := gx_mu (gx_t_5 (List.mem_of_getElem? (i := 98) rfl)) rfl
theorem ws_X8_hold : Cond.selects RX8 yX8_hold yX8_hold ∈ gx_U := gx_mu (gx_t_p (List.mem_of_getElem? (i := 48) rfl)) rfl
theorem lk_X8_166 : gx_lk gx_U RX8 166 RX8 yX8_hold cX8_hold 2 ((Option.none : Option Jvm.ClassFile.FieldType)) 0 := ⟨gx_mu (gx_t_5 (List.mem_of_getElem? (i := 96) rfl)) rfl, wn_X8_hold, ws_X8_hold, wi_X8, wc_X8_hold, rfl, by decide +kernel, by decide +kernel, by decide +kernel⟩
theorem wc_X8_goOn : Cond.code yX8_goOn cX8_goOn 4 ((Option.some Jvm.ClassFile.FieldType.int)) ∈ gx_U := gx_mu (gx_t_5 (List.mem_of_getElem? (i := 103) rfl)) rfl
theorem wn_X8_goOn : Cond.instanceMethod yX8_goOn ∈ gx_U := gx_mu (gx_t_5 (List.mem_of_getElem? (i := 102) rfl)) rfl
theorem ws_X8_goOn : Cond.selects RX8 yX8_goOn yX8_goOn ∈ gx_U := gx_mu (gx_t_p (List.mem_of_getElem? (i := 49) rfl)) rfl
theorem lk_X8_169 : gx_lk gx_U RX8 169 RX8 yX8_goOn cX8_goOn 4 ((Option.some Jvm.ClassFile.FieldType.int)) 0 := ⟨gx_mu (gx_t_5 (List.mem_of_getElem? (i := 100) rfl)) rfl, wn_X8_goOn, ws_X8_goOn, wi_X8, wc_X8_goOn, rfl, by decide +kernel, by decide +kernel, by decide +kernel⟩
theorem wc_X8_back : Cond.code yX8_back cX8_back 2 ((Option.none : Option Jvm.ClassFile.FieldType)) ∈ gx_U := gx_mu (gx_t_5 (List.mem_of_getElem? (i := 107) rfl)) rfl
theorem wn_X8_back : Cond.instanceMethod yX8_back ∈ gx_U := gx_mu (gx_t_5 (List.mem_of_getElem? (i := 106) rfl)) rfl
theorem ws_X8_back : Cond.selects RX8 yX8_back yX8_back ∈ gx_U := gx_mu (gx_t_p (List.mem_of_getElem? (i := 50) rfl)) rfl
theorem lk_X8_172 : gx_lk gx_U RX8 172 RX8 yX8_back cX8_back 2 ((Option.none : Option Jvm.ClassFile.FieldType)) 0 := ⟨gx_mu (gx_t_5 (List.mem_of_getElem? (i := 104) rfl)) rfl, wn_X8_back, ws_X8_back, wi_X8, wc_X8_back, rfl, by decide +kernel, by decide +kernel, by decide +kernel⟩
theorem wc_X8_gainOf : Cond.code yX8_gainOf cX8_gainOf 3 ((Option.some Jvm.ClassFile.FieldType.int)) ∈ gx_U := gx_mu (gx_t_5 (List.mem_of_getElem? (i := 115) rfl)) rfl
theorem wn_X8_gainOf : Cond.instanceMethod yX8_gainOf ∈ gx_U := gx_mu (gx_t_5 (List.mem_of_getElem? (i := 114) rfl)) rfl
theorem ws_X8_gainOf : Cond.selects RX8 yX8_gainOf yX8_gainOf ∈ gx_U := gx_mu (gx_t_p (List.mem_of_getElem? (i := 51) rfl)) rfl
theorem lk_X8_175 : gx_lk gx_U RX8 175 RX8 yX8_gainOf cX8_gainOf 3 ((Option.some Jvm.ClassFile.FieldType.int)) 1 := ⟨gx_mu (gx_t_5 (List.mem_of_getElem? (i := 112) rfl)) rfl, wn_X8_gainOf, ws_X8_gainOf, wi_X8, wc_X8_gainOf, rfl, by decide +kernel, by decide +kernel, by decide +kernel⟩
theorem wc_X8_profitOfSet : Cond.code yX8_profitOfSet cX8_profitOfSet 4 ((Option.some Jvm.ClassFile.FieldType.int)) ∈ gx_U := gx_mu (gx_t_5 (List.mem_of_getElem? (i := 142) rfl)) rfl
theorem wn_X8_profitOfSet : Cond.instanceMethod yX8_profitOfSet ∈ gx_U := gx_mu (gx_t_5 (List.mem_of_getElem? (i := 141) rfl)) rfl
theorem ws_X8_profitOfSet : Cond.selects RX8 yX8_profitOfSet yX8_profitOfSet ∈ gx_U := gx_mu (gx_t_p (List.mem_of_getElem? (i := 55) rfl)) rfl
theorem lk_X8_178 : gx_lk gx_U RX8 178 RX8 yX8_profitOfSet cX8_profitOfSet 4 ((Option.some Jvm.ClassFile.FieldType.int)) 1 := ⟨gx_mu (gx_t_5 (List.mem_of_getElem? (i := 139) rfl)) rfl, wn_X8_profitOfSet, ws_X8_profitOfSet, wi_X8, wc_X8_profitOfSet, rfl, by decide +kernel, by decide +kernel, by decide +kernel⟩
theorem wc_X8_openSet : Cond.code yX8_openSet cX8_openSet 3 ((Option.some Jvm.ClassFile.FieldType.int)) ∈ gx_U := gx_mu (gx_t_5 (List.mem_of_getElem? (i := 131) rfl)) rfl
theorem wn_X8_openSet : Cond.instanceMethod yX8_openSet ∈ gx_U := gx_mu (gx_t_5 (List.mem_of_getElem? (i := 130) rfl)) rfl
theorem ws_X8_openSet : Cond.selects RX8 yX8_openSet yX8_openSet ∈ gx_U := gx_mu (gx_t_p (List.mem_of_getElem? (i := 53) rfl)) rfl
theorem lk_X8_181 : gx_lk gx_U RX8 181 RX8 yX8_openSet cX8_openSet 3 ((Option.some Jvm.ClassFile.FieldType.int)) 0 := ⟨gx_mu (gx_t_5 (List.mem_of_getElem? (i := 128) rfl)) rfl, wn_X8_openSet, ws_X8_openSet, wi_X8, wc_X8_openSet, rfl, by decide +kernel, by decide +kernel, by decide +kernel⟩
theorem wc_X8_pays : Cond.code yX8_pays cX8_pays 6 ((Option.some Jvm.ClassFile.FieldType.boolean)) ∈ gx_U := gx_mu (gx_t_5 (List.mem_of_getElem? (i := 138) rfl)) rfl
theorem wn_X8_pays : Cond.instanceMethod yX8_pays ∈ gx_U := gx_mu (gx_t_5 (List.mem_of_getElem? (i := 137) rfl)) rfl
theorem ws_X8_pays : Cond.selects RX8 yX8_pays yX8_pays ∈ gx_U := gx_mu (gx_t_p (List.mem_of_getElem? (i := 54) rfl)) rfl
theorem lk_X8_184 : gx_lk gx_U RX8 184 RX8 yX8_pays cX8_pays 6 ((Option.some Jvm.ClassFile.FieldType.boolean)) 2 := ⟨gx_mu (gx_t_5 (List.mem_of_getElem? (i := 135) rfl)) rfl, wn_X8_pays, ws_X8_pays, wi_X8, wc_X8_pays, rfl, by decide +kernel, by decide +kernel, by decide +kernel⟩
theorem wc_X8_ones : Cond.code yX8_ones cX8_ones 3 ((Option.some Jvm.ClassFile.FieldType.int)) ∈ gx_U := gx_mu (gx_t_5 (List.mem_of_getElem? (i := 134) rfl)) rfl
theorem wt_X8_ones : Cond.static yX8_ones ∈ gx_U := gx_mu (gx_t_5 (List.mem_of_getElem? (i := 133) rfl)) rfl
theorem lk_X8_188 : gx_lkS gx_U RX8 188 yX8_ones cX8_ones 3 ((Option.some Jvm.ClassFile.FieldType.int)) 1 := ⟨gx_mu (gx_t_5 (List.mem_of_getElem? (i := 132) rfl)) rfl, wt_X8_ones, wi_X8, wc_X8_ones, by decide +kernel, by decide +kernel, by decide +kernel⟩
theorem wc_X8_leastMarket : Cond.code yX8_leastMarket cX8_leastMarket 7 ((Option.some Jvm.ClassFile.FieldType.int)) ∈ gx_U := gx_mu (gx_t_5 (List.mem_of_getElem? (i := 127) rfl)) rfl
theorem wn_X8_leastMarket : Cond.instanceMethod yX8_leastMarket ∈ gx_U := gx_mu (gx_t_5 (List.mem_of_getElem? (i := 126) rfl)) rfl
theorem ws_X8_leastMarket : Cond.selects RX8 yX8_leastMarket yX8_leastMarket ∈ gx_U := gx_mu (gx_t_p (List.mem_of_getElem? (i := 52) rfl)) rfl
theorem lk_X8_191 : gx_lk gx_U RX8 191 RX8 yX8_leastMarket cX8_leastMarket 7 ((Option.some Jvm.ClassFile.FieldType.int)) 2 := ⟨gx_mu (gx_t_5 (List.mem_of_getElem? (i := 124) rfl)) rfl, wn_X8_leastMarket, ws_X8_leastMarket, wi_X8, wc_X8_leastMarket, rfl, by decide +kernel, by decide +kernel, by decide +kernel⟩
theorem wc_X8_nearestMarket : Cond.code yX8_nearestMarket cX8_nearestMarket 8 ((Option.some Jvm.ClassFile.FieldType.int)) ∈ gx_U := gx_mu (gx_t_5 (List.mem_of_getElem? (i := 146) rfl)) rfl
theorem wn_X8_nearestMarket : Cond.instanceMethod yX8_nearestMarket ∈ gx_U := gx_mu (gx_t_5 (List.mem_of_getElem? (i := 145) rfl)) rfl
theorem ws_X8_nearestMarket : Cond.selects RX8 yX8_nearestMarket yX8_nearestMarket ∈ gx_U := gx_mu (gx_t_p (List.mem_of_getElem? (i := 56) rfl)) rfl
theorem lk_X8_194 : gx_lk gx_U RX8 194 RX8 yX8_nearestMarket cX8_nearestMarket 8 ((Option.some Jvm.ClassFile.FieldType.int)) 2 := ⟨gx_mu (gx_t_5 (List.mem_of_getElem? (i := 143) rfl)) rfl, wn_X8_nearestMarket, ws_X8_nearestMarket, wi_X8, wc_X8_nearestMarket, rfl, by decide +kernel, by decide +kernel, by decide +kernel⟩
theorem wc_X8_insteadOf : Cond.code yX8_insteadOf cX8_insteadOf 4 ((Option.some Jvm.ClassFile.FieldType.int)) ∈ gx_U := gx_mu (gx_t_5 (List.mem_of_getElem? (i := 154) rfl)) rfl
theorem wn_X8_insteadOf : Cond.instanceMethod yX8_insteadOf ∈ gx_U := gx_mu (gx_t_5 (List.mem_of_getElem? (i := 153) rfl)) rfl
theorem ws_X8_insteadOf : Cond.selects RX8 yX8_insteadOf yX8_insteadOf ∈ gx_U := gx_mu (gx_t_p (List.mem_of_getElem? (i := 57) rfl)) rfl
theorem lk_X8_197 : gx_lk gx_U RX8 197 RX8 yX8_insteadOf cX8_insteadOf 4 ((Option.some Jvm.ClassFile.FieldType.int)) 2 := ⟨gx_mu (gx_t_5 (List.mem_of_getElem? (i := 151) rfl)) rfl, wn_X8_insteadOf, ws_X8_insteadOf, wi_X8, wc_X8_insteadOf, rfl, by decide +kernel, by decide +kernel, by decide +kernel⟩
theorem wc_X8_areTwo : Cond.code yX8_areTwo cX8_areTwo 3 ((Option.some Jvm.ClassFile.FieldType.boolean)) ∈ gx_U := gx_mu (gx_t_5 (List.mem_of_getElem? (i := 166) rfl)) rfl
theorem wn_X8_areTwo : Cond.instanceMethod yX8_areTwo ∈ gx_U := gx_mu (gx_t_5 (List.mem_of_getElem? (i := 165) rfl)) rfl
theorem ws_X8_areTwo : Cond.selects RX8 yX8_areTwo yX8_areTwo ∈ gx_U := gx_mu (gx_t_p (List.mem_of_getElem? (i := 58) rfl)) rfl
theorem lk_X8_200 : gx_lk gx_U RX8 200 RX8 yX8_areTwo cX8_areTwo 3 ((Option.some Jvm.ClassFile.FieldType.boolean)) 2 := ⟨gx_mu (gx_t_5 (List.mem_of_getElem? (i := 163) rfl)) rfl, wn_X8_areTwo, ws_X8_areTwo, wi_X8, wc_X8_areTwo, rfl, by decide +kernel, by decide +kernel, by decide +kernel⟩
theorem wc_X8_fits : Cond.code yX8_fits cX8_fits 3 ((Option.some Jvm.ClassFile.FieldType.boolean)) ∈ gx_U := gx_mu (gx_t_5 (List.mem_of_getElem? (i := 170) rfl)) rfl
theorem wn_X8_fits : Cond.instanceMethod yX8_fits ∈ gx_U := gx_mu (gx_t_5 (List.mem_of_getElem? (i := 169) rfl)) rfl
theorem ws_X8_fits : Cond.selects RX8 yX8_fits yX8_fits ∈ gx_U := gx_mu (gx_t_p (List.mem_of_getElem? (i := 59) rfl)) rfl
theorem lk_X8_203 : gx_lk gx_U RX8 203 RX8 yX8_fits cX8_fits 3 ((Option.some Jvm.ClassFile.FieldType.boolean)) 2 := ⟨gx_mu (gx_t_5 (List.mem_of_getElem? (i := 167) rfl)) rfl, wn_X8_fits, ws_X8_fits, wi_X8, wc_X8_fits, rfl, by decide +kernel, by decide +kernel, by decide +kernel⟩
theorem wc_X8_mergeNow : Cond.code yX8_mergeNow cX8_mergeNow 4 ((Option.none : Option Jvm.ClassFile.FieldType)) ∈ gx_U := gx_mu (gx_t_5 (List.mem_of_getElem? (i := 174) rfl)) rfl
theorem wn_X8_mergeNow : Cond.instanceMethod yX8_mergeNow ∈ gx_U := gx_mu (gx_t_5 (List.mem_of_getElem? (i := 173) rfl)) rfl
theorem ws_X8_mergeNow : Cond.selects RX8 yX8_mergeNow yX8_mergeNow ∈ gx_U := gx_mu (gx_t_p (List.mem_of_getElem? (i := 60) rfl)) rfl
theorem lk_X8_206 : gx_lk gx_U RX8 206 RX8 yX8_mergeNow cX8_mergeNow 4 ((Option.none : Option Jvm.ClassFile.FieldType)) 2 := ⟨gx_mu (gx_t_5 (List.mem_of_getElem? (i := 171) rfl)) rfl, wn_X8_mergeNow, ws_X8_mergeNow, wi_X8, wc_X8_mergeNow, rfl, by decide +kernel, by decide +kernel, by decide +kernel⟩
theorem fl_X8_76 : gx_fl gx_U RX8 76 RX8 TX8 42 32 := ⟨iu_X8, by decide, gx_mu (gx_t_4 (List.mem_of_getElem? (i := 121) rfl)) rfl, rfl⟩
theorem fl_X8_210 : gx_fl gx_U RX8 210 RX8 TX8 42 34 := ⟨iu_X8, by decide, gx_mu (gx_t_4 (List.mem_of_getElem? (i := 123) rfl)) rfl, rfl⟩
theorem fl_X8_79 : gx_fl gx_U RX8 79 RX8 TX8 42 33 := ⟨iu_X8, by decide, gx_mu (gx_t_4 (List.mem_of_getElem? (i := 122) rfl)) rfl, rfl⟩
theorem wc_X8_layBefore : Cond.code yX8_layBefore cX8_layBefore 3 ((Option.some Jvm.ClassFile.FieldType.boolean)) ∈ gx_U := gx_mu (gx_t_5 (List.mem_of_getElem? (i := 182) rfl)) rfl
theorem wn_X8_layBefore : Cond.instanceMethod yX8_layBefore ∈ gx_U := gx_mu (gx_t_5 (List.mem_of_getElem? (i := 181) rfl)) rfl
theorem ws_X8_layBefore : Cond.selects RX8 yX8_layBefore yX8_layBefore ∈ gx_U := gx_mu (gx_t_p (List.mem_of_getElem? (i := 61) rfl)) rfl
theorem lk_X8_213 : gx_lk gx_U RX8 213 RX8 yX8_layBefore cX8_layBefore 3 ((Option.some Jvm.ClassFile.FieldType.boolean)) 0 := ⟨gx_mu (gx_t_5 (List.mem_of_getElem? (i := 179) rfl)) rfl, wn_X8_layBefore, ws_X8_layBefore, wi_X8, wc_X8_layBefore, rfl, by decide +kernel, by decide +kernel, by decide +kernel⟩
theorem wc_X8_layBehind : Cond.code yX8_layBehind cX8_layBehind 8 ((Option.some Jvm.ClassFile.FieldType.boolean)) ∈ gx_U := gx_mu (gx_t_5 (List.mem_of_getElem? (i := 186) rfl)) rfl
theorem wn_X8_layBehind : Cond.instanceMethod yX8_layBehind ∈ gx_U := gx_mu (gx_t_5 (List.mem_of_getElem? (i := 185) rfl)) rfl
theorem ws_X8_layBehind : Cond.selects RX8 yX8_layBehind yX8_layBehind ∈ gx_U := gx_mu (gx_t_p (List.mem_of_getElem? (i := 62) rfl)) rfl
theorem lk_X8_217 : gx_lk gx_U RX8 217 RX8 yX8_layBehind cX8_layBehind 8 ((Option.some Jvm.ClassFile.FieldType.boolean)) 6 := ⟨gx_mu (gx_t_5 (List.mem_of_getElem? (i := 183) rfl)) rfl, wn_X8_layBehind, ws_X8_layBehind, wi_X8, wc_X8_layBehind, rfl, by decide +kernel, by decide +kernel, by decide +kernel⟩
theorem wc_X8_harmNow : Cond.code yX8_harmNow cX8_harmNow 6 ((Option.some Jvm.ClassFile.FieldType.int)) ∈ gx_U := gx_mu (gx_t_5 (List.mem_of_getElem? (i := 194) rfl)) rfl
theorem wn_X8_harmNow : Cond.instanceMethod yX8_harmNow ∈ gx_U := gx_mu (gx_t_5 (List.mem_of_getElem? (i := 193) rfl)) rfl
theorem ws_X8_harmNow : Cond.selects RX8 yX8_harmNow yX8_harmNow ∈ gx_U := gx_mu (gx_t_p (List.mem_of_getElem? (i := 63) rfl)) rfl
theorem lk_X8_221 : gx_lk gx_U RX8 221 RX8 yX8_harmNow cX8_harmNow 6 ((Option.some Jvm.ClassFile.FieldType.int)) 1 := ⟨gx_mu (gx_t_5 (List.mem_of_getElem? (i := 191) rfl)) rfl, wn_X8_harmNow, ws_X8_harmNow, wi_X8, wc_X8_harmNow, rfl, by decide +kernel, by decide +kernel, by decide +kernel⟩
theorem wc_X8_isBelow : Cond.code yX8_isBelow cX8_isBelow 4 ((Option.some Jvm.ClassFile.FieldType.boolean)) ∈ gx_U := gx_mu (gx_t_5 (List.mem_of_getElem? (i := 202) rfl)) rfl
theorem wn_X8_isBelow : Cond.instanceMethod yX8_isBelow ∈ gx_U := gx_mu (gx_t_5 (List.mem_of_getElem? (i := 201) rfl)) rfl
theorem ws_X8_isBelow : Cond.selects RX8 yX8_isBelow yX8_isBelow ∈ gx_U := gx_mu (gx_t_p (List.mem_of_getElem? (i := 64) rfl)) rfl
theorem lk_X8_225 : gx_lk gx_U RX8 225 RX8 yX8_isBelow cX8_isBelow 4 ((Option.some Jvm.ClassFile.FieldType.boolean)) 1 := ⟨gx_mu (gx_t_5 (List.mem_of_getElem? (i := 199) rfl)) rfl, wn_X8_isBelow, ws_X8_isBelow, wi_X8, wc_X8_isBelow, rfl, by decide +kernel, by decide +kernel, by decide +kernel⟩
theorem kX8_228 : Cond.constantLong RX8 228 255 ∈ gx_U := gx_mu (gx_t_5 (List.mem_of_getElem? (i := 211) rfl)) rfl
theorem fl_X8_230 : gx_fl gx_U RX8 230 RX8 TX8 42 14 := ⟨iu_X8, by decide, gx_mu (gx_t_4 (List.mem_of_getElem? (i := 103) rfl)) rfl, rfl⟩
theorem fl_X8_42 : gx_fl gx_U RX8 42 RX8 TX8 42 15 := ⟨iu_X8, by decide, gx_mu (gx_t_4 (List.mem_of_getElem? (i := 104) rfl)) rfl, rfl⟩
theorem wc_X8_isName : Cond.code yX8_isName cX8_isName 1 ((Option.some Jvm.ClassFile.FieldType.boolean)) ∈ gx_U := gx_mu (gx_t_5 (List.mem_of_getElem? (i := 226) rfl)) rfl
theorem wt_X8_isName : Cond.static yX8_isName ∈ gx_U := gx_mu (gx_t_5 (List.mem_of_getElem? (i := 225) rfl)) rfl
theorem lk_X8_233 : gx_lkS gx_U RX8 233 yX8_isName cX8_isName 1 ((Option.some Jvm.ClassFile.FieldType.boolean)) 1 := ⟨gx_mu (gx_t_5 (List.mem_of_getElem? (i := 224) rfl)) rfl, wt_X8_isName, wi_X8, wc_X8_isName, by decide +kernel, by decide +kernel, by decide +kernel⟩
theorem wc_X8_isDigit : Cond.code yX8_isDigit cX8_isDigit 1 ((Option.some Jvm.ClassFile.FieldType.boolean)) ∈ gx_U := gx_mu (gx_t_5 (List.mem_of_getElem? (i := 229) rfl)) rfl
theorem wt_X8_isDigit : Cond.static yX8_isDigit ∈ gx_U := gx_mu (gx_t_5 (List.mem_of_getElem? (i := 228) rfl)) rfl
theorem lk_X8_236 : gx_lkS gx_U RX8 236 yX8_isDigit cX8_isDigit 1 ((Option.some Jvm.ClassFile.FieldType.boolean)) 1 := ⟨gx_mu (gx_t_5 (List.mem_of_getElem? (i := 227) rfl)) rfl, wt_X8_isDigit, wi_X8, wc_X8_isDigit, by decide +kernel, by decide +kernel, by decide +kernel⟩
theorem fl_X8_239 : gx_fl gx_U RX8 239 RX8 TX8 42 35 := ⟨iu_X8, by decide, gx_mu (gx_t_4 (List.mem_of_getElem? (i := 124) rfl)) rfl, rfl⟩
theorem fl_X8_242 : gx_fl gx_U RX8 242 RX8 TX8 42 36 := ⟨iu_X8, by decide, gx_mu (gx_t_4 (List.mem_of_getElem? (i := 125) rfl)) rfl, rfl⟩
theorem wc_X8_readPage : Cond.code yX8_readPage cX8_readPage 7 ((Option.none : Option Jvm.ClassFile.FieldType)) ∈ gx_U := gx_mu (gx_t_5 (List.mem_of_getElem? (i := 223) rfl)) rfl
theorem wn_X8_readPage : Cond.instanceMethod yX8_readPage ∈ gx_U := gx_mu (gx_t_5 (List.mem_of_getElem? (i := 222) rfl)) rfl
theorem ws_X8_readPage : Cond.selects RX8 yX8_readPage yX8_readPage ∈ gx_U := gx_mu (gx_t_p (List.mem_of_getElem? (i := 65) rfl)) rfl
theorem lk_X8_245 : gx_lk gx_U RX8 245 RX8 yX8_readPage cX8_readPage 7 ((Option.none : Option Jvm.ClassFile.FieldType)) 0 := ⟨gx_mu (gx_t_5 (List.mem_of_getElem? (i := 220) rfl)) rfl, wn_X8_readPage, ws_X8_readPage, wi_X8, wc_X8_readPage, rfl, by decide +kernel, by decide +kernel, by decide +kernel⟩
theorem fl_X8_248 : gx_fl gx_U RX8 248 RX8 TX8 42 11 := ⟨iu_X8, by decide, gx_mu (gx_t_4 (List.mem_of_getElem? (i := 100) rfl)) rfl, rfl⟩
theorem fl_X8_35 : gx_fl gx_U RX8 35 RX8 TX8 42 12 := ⟨iu_X8, by decide, gx_mu (gx_t_4 (List.mem_of_getElem? (i := 101) rfl)) rfl, rfl⟩
theorem fl_X8_39 : gx_fl gx_U RX8 39 RX8 TX8 42 13 := ⟨iu_X8, by decide, gx_mu (gx_t_4 (List.mem_of_getElem? (i := 102) rfl)) rfl, rfl⟩
theorem wc_X8_soldBy : Cond.code yX8_soldBy cX8_soldBy 4 ((Option.some Jvm.ClassFile.FieldType.int)) ∈ gx_U := gx_mu (gx_t_6 (List.mem_of_getElem? (i := 21) rfl)) rfl
theorem wn_X8_soldBy : Cond.instanceMethod yX8_soldBy ∈ gx_U := gx_mu (gx_t_6 (List.mem_of_getElem? (i := 20) rfl)) rfl
theorem ws_X8_soldBy : Cond.selects RX8 yX8_soldBy yX8_soldBy ∈ gx_U := gx_mu (gx_t_p (List.mem_of_getElem? (i := 71) rfl)) rfl
theorem lk_X8_251 : gx_lk gx_U RX8 251 RX8 yX8_soldBy cX8_soldBy 4 ((Option.some Jvm.ClassFile.FieldType.int)) 1 := ⟨gx_mu (gx_t_6 (List.mem_of_getElem? (i := 18) rfl)) rfl, wn_X8_soldBy, ws_X8_soldBy, wi_X8, wc_X8_soldBy, rfl, by decide +kernel, by decide +kernel, by decide +kernel⟩
theorem fl_X8_254 : gx_fl gx_U RX8 254 RX8 TX8 42 40 := ⟨iu_X8, by decide, gx_mu (gx_t_4 (List.mem_of_getElem? (i := 129) rfl)) rfl, rfl⟩
theorem fl_X8_82 : gx_fl gx_U RX8 82 RX8 TX8 42 37 := ⟨iu_X8, by decide, gx_mu (gx_t_4 (List.mem_of_getElem? (i := 126) rfl)) rfl, rfl⟩
theorem fl_X8_85 : gx_fl gx_U RX8 85 RX8 TX8 42 38 := ⟨iu_X8, by decide, gx_mu (gx_t_4 (List.mem_of_getElem? (i := 127) rfl)) rfl, rfl⟩
theorem fl_X8_88 : gx_fl gx_U RX8 88 RX8 TX8 42 39 := ⟨iu_X8, by decide, gx_mu (gx_t_4 (List.mem_of_getElem? (i := 128) rfl)) rfl, rfl⟩
theorem wc_X8_openGroup : Cond.code yX8_openGroup cX8_openGroup 1 ((Option.none : Option Jvm.ClassFile.FieldType)) ∈ gx_U := gx_mu (gx_t_6 (List.mem_of_getElem? (i := 9) rfl)) rfl
theorem wn_X8_openGroup : Cond.instanceMethod yX8_openGroup ∈ gx_U := gx_mu (gx_t_6 (List.mem_of_getElem? (i := 8) rfl)) rfl
theorem ws_X8_openGroup : Cond.selects RX8 yX8_openGroup yX8_openGroup ∈ gx_U := gx_mu (gx_t_p (List.mem_of_getElem? (i := 68) rfl)) rfl
theorem lk_X8_257 : gx_lk gx_U RX8 257 RX8 yX8_openGroup cX8_openGroup 1 ((Option.none : Option Jvm.ClassFile.FieldType)) 0 := ⟨gx_mu (gx_t_6 (List.mem_of_getElem? (i := 6) rfl)) rfl, wn_X8_openGroup, ws_X8_openGroup, wi_X8, wc_X8_openGroup, rfl, by decide +kernel, by decide +kernel, by decide +kernel⟩
theorem wc_X8_factor : Cond.code yX8_factor cX8_factor 2 ((Option.none : Option Jvm.ClassFile.FieldType)) ∈ gx_U := gx_mu (gx_t_6 (List.mem_of_getElem? (i := 13) rfl)) rfl
theorem wn_X8_factor : Cond.instanceMethod yX8_factor ∈ gx_U := gx_mu (gx_t_6 (List.mem_of_getElem? (i := 12) rfl)) rfl
theorem ws_X8_factor : Cond.selects RX8 yX8_factor yX8_factor ∈ gx_U := gx_mu (gx_t_p (List.mem_of_getElem? (i := 69) rfl)) rfl
theorem lk_X8_260 : gx_lk gx_U RX8 260 RX8 yX8_factor cX8_factor 2 ((Option.none : Option Jvm.ClassFile.FieldType)) 1 := ⟨gx_mu (gx_t_6 (List.mem_of_getElem? (i := 10) rfl)) rfl, wn_X8_factor, ws_X8_factor, wi_X8, wc_X8_factor, rfl, by decide +kernel, by decide +kernel, by decide +kernel⟩
theorem wc_X8_valueOf : Cond.code yX8_valueOf cX8_valueOf 12 ((Option.some Jvm.ClassFile.FieldType.int)) ∈ gx_U := gx_mu (gx_t_6 (List.mem_of_getElem? (i := 17) rfl)) rfl
theorem wn_X8_valueOf : Cond.instanceMethod yX8_valueOf ∈ gx_U := gx_mu (gx_t_6 (List.mem_of_getElem? (i := 16) rfl)) rfl
theorem ws_X8_valueOf : Cond.selects RX8 yX8_valueOf yX8_valueOf ∈ gx_U := gx_mu (gx_t_p (List.mem_of_getElem? (i := 70) rfl)) rfl
theorem lk_X8_264 : gx_lk gx_U RX8 264 RX8 yX8_valueOf cX8_valueOf 12 ((Option.some Jvm.ClassFile.FieldType.int)) 3 := ⟨gx_mu (gx_t_6 (List.mem_of_getElem? (i := 14) rfl)) rfl, wn_X8_valueOf, ws_X8_valueOf, wi_X8, wc_X8_valueOf, rfl, by decide +kernel, by decide +kernel, by decide +kernel⟩
theorem wc_X8_isTest : Cond.code yX8_isTest cX8_isTest 2 ((Option.some Jvm.ClassFile.FieldType.boolean)) ∈ gx_U := gx_mu (gx_t_6 (List.mem_of_getElem? (i := 1) rfl)) rfl
theorem wn_X8_isTest : Cond.instanceMethod yX8_isTest ∈ gx_U := gx_mu (gx_t_6 (List.mem_of_getElem? (i := 0) rfl)) rfl
theorem ws_X8_isTest : Cond.selects RX8 yX8_isTest yX8_isTest ∈ gx_U := gx_mu (gx_t_p (List.mem_of_getElem? (i := 66) rfl)) rfl
theorem lk_X8_268 : gx_lk gx_U RX8 268 RX8 yX8_isTest cX8_isTest 2 ((Option.some Jvm.ClassFile.FieldType.boolean)) 1 := ⟨gx_mu (gx_t_5 (List.mem_of_getElem? (i := 238) rfl)) rfl, wn_X8_isTest, ws_X8_isTest, wi_X8, wc_X8_isTest, rfl, by decide +kernel, by decide +kernel, by decide +kernel⟩
theorem wc_X8_barsNow : Cond.code yX8_barsNow cX8_barsNow 9 ((Option.some Jvm.ClassFile.FieldType.boolean)) ∈ gx_U := gx_mu (gx_t_6 (List.mem_of_getElem? (i := 5) rfl)) rfl
theorem wn_X8_barsNow : Cond.instanceMethod yX8_barsNow ∈ gx_U := gx_mu (gx_t_6 (List.mem_of_getElem? (i := 4) rfl)) rfl
theorem ws_X8_barsNow : Cond.selects RX8 yX8_barsNow yX8_barsNow ∈ gx_U := gx_mu (gx_t_p (List.mem_of_getElem? (i := 67) rfl)) rfl
theorem lk_X8_271 : gx_lk gx_U RX8 271 RX8 yX8_barsNow cX8_barsNow 9 ((Option.some Jvm.ClassFile.FieldType.boolean)) 3 := ⟨gx_mu (gx_t_6 (List.mem_of_getElem? (i := 2) rfl)) rfl, wn_X8_barsNow, ws_X8_barsNow, wi_X8, wc_X8_barsNow, rfl, by decide +kernel, by decide +kernel, by decide +kernel⟩
theorem fl_X8_274 : gx_fl gx_U RX8 274 RX8 TX8 42 16 := ⟨iu_X8, by decide, gx_mu (gx_t_4 (List.mem_of_getElem? (i := 105) rfl)) rfl, rfl⟩
theorem fl_X8_277 : gx_fl gx_U RX8 277 RX8 TX8 42 17 := ⟨iu_X8, by decide, gx_mu (gx_t_4 (List.mem_of_getElem? (i := 106) rfl)) rfl, rfl⟩
theorem fl_X8_280 : gx_fl gx_U RX8 280 RX8 TX8 42 18 := ⟨iu_X8, by decide, gx_mu (gx_t_4 (List.mem_of_getElem? (i := 107) rfl)) rfl, rfl⟩
theorem fl_X8_283 : gx_fl gx_U RX8 283 RX8 TX8 42 19 := ⟨iu_X8, by decide, gx_mu (gx_t_4 (List.mem_of_getElem? (i := 108) rfl)) rfl, rfl⟩
theorem fl_X8_45 : gx_fl gx_U RX8 45 RX8 TX8 42 20 := ⟨iu_X8, by decide, gx_mu (gx_t_4 (List.mem_of_getElem? (i := 109) rfl)) rfl, rfl⟩
theorem fl_X8_48 : gx_fl gx_U RX8 48 RX8 TX8 42 21 := ⟨iu_X8, by decide, gx_mu (gx_t_4 (List.mem_of_getElem? (i := 110) rfl)) rfl, rfl⟩
theorem fl_X8_51 : gx_fl gx_U RX8 51 RX8 TX8 42 22 := ⟨iu_X8, by decide, gx_mu (gx_t_4 (List.mem_of_getElem? (i := 111) rfl)) rfl, rfl⟩
theorem wc_X8_howMany : Cond.code yX8_howMany cX8_howMany 2 ((Option.some Jvm.ClassFile.FieldType.int)) ∈ gx_U := gx_mu (gx_t_6 (List.mem_of_getElem? (i := 41) rfl)) rfl
theorem wn_X8_howMany : Cond.instanceMethod yX8_howMany ∈ gx_U := gx_mu (gx_t_6 (List.mem_of_getElem? (i := 40) rfl)) rfl
theorem ws_X8_howMany : Cond.selects RX8 yX8_howMany yX8_howMany ∈ gx_U := gx_mu (gx_t_p (List.mem_of_getElem? (i := 72) rfl)) rfl
theorem lk_X8_286 : gx_lk gx_U RX8 286 RX8 yX8_howMany cX8_howMany 2 ((Option.some Jvm.ClassFile.FieldType.int)) 1 := ⟨gx_mu (gx_t_6 (List.mem_of_getElem? (i := 38) rfl)) rfl, wn_X8_howMany, ws_X8_howMany, wi_X8, wc_X8_howMany, rfl, by decide +kernel, by decide +kernel, by decide +kernel⟩
theorem kX8_289 : Cond.constantLong RX8 289 31 ∈ gx_U := gx_mu (gx_t_6 (List.mem_of_getElem? (i := 51) rfl)) rfl
theorem fl_X8_291 : gx_fl gx_U RX8 291 RX8 TX8 42 41 := ⟨iu_X8, by decide, gx_mu (gx_t_4 (List.mem_of_getElem? (i := 130) rfl)) rfl, rfl⟩
theorem kX8_295 : Cond.constantLong RX8 295 373 ∈ gx_U := gx_mu (gx_t_6 (List.mem_of_getElem? (i := 46) rfl)) rfl
theorem wc_X8_mix : Cond.code yX8_mix cX8_mix 3 ((Option.none : Option Jvm.ClassFile.FieldType)) ∈ gx_U := gx_mu (gx_t_6 (List.mem_of_getElem? (i := 50) rfl)) rfl
theorem wn_X8_mix : Cond.instanceMethod yX8_mix ∈ gx_U := gx_mu (gx_t_6 (List.mem_of_getElem? (i := 49) rfl)) rfl
theorem ws_X8_mix : Cond.selects RX8 yX8_mix yX8_mix ∈ gx_U := gx_mu (gx_t_p (List.mem_of_getElem? (i := 73) rfl)) rfl
theorem lk_X8_297 : gx_lk gx_U RX8 297 RX8 yX8_mix cX8_mix 3 ((Option.none : Option Jvm.ClassFile.FieldType)) 1 := ⟨gx_mu (gx_t_6 (List.mem_of_getElem? (i := 47) rfl)) rfl, wn_X8_mix, ws_X8_mix, wi_X8, wc_X8_mix, rfl, by decide +kernel, by decide +kernel, by decide +kernel⟩
def xX_L (a : Nat → Nat) (ι : Nat → ClassId) : List ((Nat → Int32) → va_E) := [
  fun r => .inr (7, [.ref (a 1), .ref (a 21), .ref (a 25), .ref (a 29), .ref (a 41), .ref (a 63), .ref (a 66), .ref (a 65), .ref (a 76), .ref (a 77), .int (r 10), .int (r 11), .int (r 12), .int (r 13), .int (r 14)]),
  fun r => .inr (5, [.int (r 0), .int (r 1), .int (r 2), .ref (a 2), .ref (a 3), .ref (a 4), .ref (a 5), .ref (a 6), .ref (a 7), .ref (a 8), .ref (a 9), .ref (a 10), .ref (a 11), .ref (a 12)]),
  fun r => .inl (ι 0, 6, .inl r),
  fun r => .inl (ι 0, 6, .inl r),
  fun r => .inl (ι 0, 6, .inl r),
  fun r => .inl (ι 0, 6, .inl r),
  fun r => .inl (ι 0, 8, .inl r),
  fun r => .inl (ι 0, 8, .inl r),
  fun r => .inl (ι 0, 8, .inl r),
  fun r => .inl (ι 0, 8, .inl r),
  fun r => .inl (ι 0, 8, .inl r),
  fun r => .inl (ι 0, 8, .inl r),
  fun _ => .inl (ι 4, 8, .inr (.inr (.inr (.inr (fun j => ([some (a 13), some (a 14), some (a 15), some (a 16), some (a 17), some (a 18), some (a 19), some (a 20)] : List (Option Nat)).getD j none))))),
  fun r => .inl (ι 0, 6, .inl r),
  fun r => .inl (ι 0, 6, .inl r),
  fun r => .inl (ι 0, 6, .inl r),
  fun r => .inl (ι 0, 6, .inl r),
  fun r => .inl (ι 0, 6, .inl r),
  fun r => .inl (ι 0, 6, .inl r),
  fun r => .inl (ι 0, 6, .inl r),
  fun r => .inl (ι 0, 6, .inl r),
  fun r => .inr (4, [.ref (a 1), .ref (a 22), .ref (a 23), .ref (a 24)]),
  fun r => .inl (ι 0, 6, .inl r),
  fun r => .inl (ι 0, 6, .inl r),
  fun r => .inl (ι 1, 6, .inl r),
  fun r => .inr (4, [.ref (a 1), .ref (a 26), .ref (a 27), .ref (a 28)]),
  fun r => .inl (ι 0, 6, .inl r),
  fun r => .inl (ι 0, 6, .inl r),
  fun r => .inl (ι 1, 6, .inl r),
  fun r => .inr (4, [.ref (a 1), .ref (a 30), .ref (a 31), .ref (a 32)]),
  fun r => .inl (ι 0, 6, .inl r),
  fun r => .inl (ι 0, 6, .inl r),
  fun r => .inl (ι 1, 6, .inl r),
  fun r => .inr (4, [.ref (a 1), .ref (a 34), .ref (a 35), .ref (a 36)]),
  fun r => .inl (ι 0, 6, .inl r),
  fun r => .inl (ι 0, 6, .inl r),
  fun r => .inl (ι 1, 6, .inl r),
  fun r => .inr (4, [.ref (a 1), .ref (a 38), .ref (a 39), .ref (a 40)]),
  fun r => .inl (ι 0, 6, .inl r),
  fun r => .inl (ι 0, 6, .inl r),
  fun r => .inl (ι 1, 6, .inl r),
  fun r => .inr (0, [.ref (a 1), .ref (a 42), .ref (a 43), .ref (a 44), .ref (a 45), .int (r 5), .ref (a 46), .ref (a 51), .ref (a 56), .ref (a 61), .ref (a 62), .int (r 11), .int (r 12)]),
  fun r => .inl (ι 0, 3, .inl r),
  fun r => .inl (ι 0, 3, .inl r),
  fun r => .inl (ι 0, 3, .inl r),
  fun r => .inl (ι 0, 3, .inl r),
  fun _ => .inl (ι 4, 4, .inr (.inr (.inr (.inr (fun j => ([some (a 47), some (a 48), some (a 49), some (a 50)] : List (Option Nat)).getD j none))))),
  fun r => .inl (ι 0, 8, .inl r),
  fun r => .inl (ι 0, 8, .inl r),
  fun r => .inl (ι 0, 8, .inl r),
  fun r => .inl (ι 0, 8, .inl r),
  fun _ => .inl (ι 4, 4, .inr (.inr (.inr (.inr (fun j => ([some (a 52), some (a 53), some (a 54), some (a 55)] : List (Option Nat)).getD j none))))),
  fun r => .inl (ι 0, 8, .inl r),
  fun r => .inl (ι 0, 8, .inl r),
  fun r => .inl (ι 0, 8, .inl r),
  fun r => .inl (ι 0, 8, .inl r),
  fun _ => .inl (ι 4, 4, .inr (.inr (.inr (.inr (fun j => ([some (a 57), some (a 58), some (a 59), some (a 60)] : List (Option Nat)).getD j none))))),
  fun r => .inl (ι 0, 8, .inl r),
  fun r => .inl (ι 0, 8, .inl r),
  fun r => .inl (ι 0, 8, .inl r),
  fun r => .inl (ι 0, 8, .inl r),
  fun r => .inl (ι 0, 10, .inl r),
  fun r => .inl (ι 0, 10, .inl r),
  fun r => .inr (2, [.ref (a 1), .ref (a 41), .ref (a 33), .ref (a 37), .ref (a 64)]),
  fun r => .inl (ι 0, 8, .inl r),
  fun _ => .inl (ι 5, 4, .inr (.inr (.inr (.inr (fun j => ([some (a 68), some (a 70), some (a 72), some (a 74)] : List (Option Nat)).getD j none))))),
  fun r => .inr (6, [.ref (a 67), .int (r 1)]),
  fun r => .inl (ι 2, 50, .inl r),
  fun r => .inr (6, [.ref (a 69), .int (r 1)]),
  fun r => .inl (ι 2, 50, .inl r),
  fun r => .inr (6, [.ref (a 71), .int (r 1)]),
  fun r => .inl (ι 2, 50, .inl r),
  fun r => .inr (6, [.ref (a 73), .int (r 1)]),
  fun r => .inl (ι 2, 50, .inl r),
  fun r => .inr (6, [.ref (a 75), .int (r 1)]),
  fun r => .inl (ι 2, 50, .inl r),
  fun r => .inr (1, [.int (r 0), .int (r 1), .int (r 2)]),
  fun r => .inr (3, [.ref (a 1), .ref (a 78), .ref (a 79), .ref (a 80), .ref (a 81), .int (r 5), .int (r 6), .int (r 7), .int (r 8), .int (r 9)]),
  fun r => .inl (ι 0, 6, .inl r),
  fun r => .inl (ι 1, 51, .inl r),
  fun r => .inl (ι 1, 51, .inl r),
  fun r => .inl (ι 1, 51, .inl r)]
def xX (a : Nat → Nat) (ι : Nat → ClassId) (k : Nat) (r : Nat → Int32) : va_E := ((xX_L a ι).getD k (fun _ => .inr (0, []))) r
abbrev wX (a : Nat → Nat) (ι : Nat → ClassId) : gx_S → va_W := gx_w 82 a (xX a ι)
theorem lt_X_ShopsAsOne : 0 < 82 := by decide
theorem oc_X_ShopsAsOne (a : Nat → Nat) (ι : Nat → ClassId) (r : Nat → Int32) : xX a ι (0) r = .inr (7, [.ref (a 1), .ref (a 21), .ref (a 25), .ref (a 29), .ref (a 41), .ref (a 63), .ref (a 66), .ref (a 65), .ref (a 76), .ref (a 77), .int (r 10), .int (r 11), .int (r 12), .int (r 13), .int (r 14)]) := rfl
theorem lt_X_Street : 1 < 82 := by decide
theorem oc_X_Street (a : Nat → Nat) (ι : Nat → ClassId) (r : Nat → Int32) : xX a ι (1) r = .inr (5, [.int (r 0), .int (r 1), .int (r 2), .ref (a 2), .ref (a 3), .ref (a 4), .ref (a 5), .ref (a 6), .ref (a 7), .ref (a 8), .ref (a 9), .ref (a 10), .ref (a 11), .ref (a 12)]) := rfl
theorem lt_X_Street_kind : 2 < 82 := by decide
theorem ac0_X_Street_kind (a : Nat → Nat) (ι : Nat → ClassId) (r : Nat → Int32) : xX a ι (2) r = .inl (ι 0, 6, .inl r) := rfl
theorem ac_X_Street_kind {cl : List vw_C} {tys : List (ClassId × FieldType)} {ι : Nat → ClassId} (hx : gx_std vwCl (gty ι) cl tys) (a : Nat → Nat) : gx_arr tys (xX a ι) (2) .int 6 := ⟨0, ι 0, by rw [hx.2]; rfl, fun r => ac0_X_Street_kind a ι r⟩
theorem lt_X_Street_n : 3 < 82 := by decide
theorem ac0_X_Street_n (a : Nat → Nat) (ι : Nat → ClassId) (r : Nat → Int32) : xX a ι (3) r = .inl (ι 0, 6, .inl r) := rfl
theorem ac_X_Street_n {cl : List vw_C} {tys : List (ClassId × FieldType)} {ι : Nat → ClassId} (hx : gx_std vwCl (gty ι) cl tys) (a : Nat → Nat) : gx_arr tys (xX a ι) (3) .int 6 := ⟨0, ι 0, by rw [hx.2]; rfl, fun r => ac0_X_Street_n a ι r⟩
theorem lt_X_Street_place : 4 < 82 := by decide
theorem ac0_X_Street_place (a : Nat → Nat) (ι : Nat → ClassId) (r : Nat → Int32) : xX a ι (4) r = .inl (ι 0, 6, .inl r) := rfl
theorem ac_X_Street_place {cl : List vw_C} {tys : List (ClassId × FieldType)} {ι : Nat → ClassId} (hx : gx_std vwCl (gty ι) cl tys) (a : Nat → Nat) : gx_arr tys (xX a ι) (4) .int 6 := ⟨0, ι 0, by rw [hx.2]; rfl, fun r => ac0_X_Street_place a ι r⟩
theorem lt_X_Street_cost : 5 < 82 := by decide
theorem ac0_X_Street_cost (a : Nat → Nat) (ι : Nat → ClassId) (r : Nat → Int32) : xX a ι (5) r = .inl (ι 0, 6, .inl r) := rfl
theorem ac_X_Street_cost {cl : List vw_C} {tys : List (ClassId × FieldType)} {ι : Nat → ClassId} (hx : gx_std vwCl (gty ι) cl tys) (a : Nat → Nat) : gx_arr tys (xX a ι) (5) .int 6 := ⟨0, ι 0, by rw [hx.2]; rfl, fun r => ac0_X_Street_cost a ι r⟩
theorem lt_X_Street_home : 6 < 82 := by decide
theorem ac0_X_Street_home (a : Nat → Nat) (ι : Nat → ClassId) (r : Nat → Int32) : xX a ι (6) r = .inl (ι 0, 8, .inl r) := rfl
theorem ac_X_Street_home {cl : List vw_C} {tys : List (ClassId × FieldType)} {ι : Nat → ClassId} (hx : gx_std vwCl (gty ι) cl tys) (a : Nat → Nat) : gx_arr tys (xX a ι) (6) .int 8 := ⟨0, ι 0, by rw [hx.2]; rfl, fun r => ac0_X_Street_home a ι r⟩
theorem lt_X_Street_many : 7 < 82 := by decide
theorem ac0_X_Street_many (a : Nat → Nat) (ι : Nat → ClassId) (r : Nat → Int32) : xX a ι (7) r = .inl (ι 0, 8, .inl r) := rfl
theorem ac_X_Street_many {cl : List vw_C} {tys : List (ClassId × FieldType)} {ι : Nat → ClassId} (hx : gx_std vwCl (gty ι) cl tys) (a : Nat → Nat) : gx_arr tys (xX a ι) (7) .int 8 := ⟨0, ι 0, by rw [hx.2]; rfl, fun r => ac0_X_Street_many a ι r⟩
theorem lt_X_Street_way : 8 < 82 := by decide
theorem ac0_X_Street_way (a : Nat → Nat) (ι : Nat → ClassId) (r : Nat → Int32) : xX a ι (8) r = .inl (ι 0, 8, .inl r) := rfl
theorem ac_X_Street_way {cl : List vw_C} {tys : List (ClassId × FieldType)} {ι : Nat → ClassId} (hx : gx_std vwCl (gty ι) cl tys) (a : Nat → Nat) : gx_arr tys (xX a ι) (8) .int 8 := ⟨0, ι 0, by rw [hx.2]; rfl, fun r => ac0_X_Street_way a ι r⟩
theorem lt_X_Street_worth : 9 < 82 := by decide
theorem ac0_X_Street_worth (a : Nat → Nat) (ι : Nat → ClassId) (r : Nat → Int32) : xX a ι (9) r = .inl (ι 0, 8, .inl r) := rfl
theorem ac_X_Street_worth {cl : List vw_C} {tys : List (ClassId × FieldType)} {ι : Nat → ClassId} (hx : gx_std vwCl (gty ι) cl tys) (a : Nat → Nat) : gx_arr tys (xX a ι) (9) .int 8 := ⟨0, ι 0, by rw [hx.2]; rfl, fun r => ac0_X_Street_worth a ι r⟩
theorem lt_X_Street_liked : 10 < 82 := by decide
theorem ac0_X_Street_liked (a : Nat → Nat) (ι : Nat → ClassId) (r : Nat → Int32) : xX a ι (10) r = .inl (ι 0, 8, .inl r) := rfl
theorem ac_X_Street_liked {cl : List vw_C} {tys : List (ClassId × FieldType)} {ι : Nat → ClassId} (hx : gx_std vwCl (gty ι) cl tys) (a : Nat → Nat) : gx_arr tys (xX a ι) (10) .int 8 := ⟨0, ι 0, by rw [hx.2]; rfl, fun r => ac0_X_Street_liked a ι r⟩
theorem lt_X_Street_liking : 11 < 82 := by decide
theorem ac0_X_Street_liking (a : Nat → Nat) (ι : Nat → ClassId) (r : Nat → Int32) : xX a ι (11) r = .inl (ι 0, 8, .inl r) := rfl
theorem ac_X_Street_liking {cl : List vw_C} {tys : List (ClassId × FieldType)} {ι : Nat → ClassId} (hx : gx_std vwCl (gty ι) cl tys) (a : Nat → Nat) : gx_arr tys (xX a ι) (11) .int 8 := ⟨0, ι 0, by rw [hx.2]; rfl, fun r => ac0_X_Street_liking a ι r⟩
theorem lt_X_Street_beside : 12 < 82 := by decide
theorem aqf_X_Street_beside (a : Nat → Nat) {i : Nat} (hi : i < 8) : (fun j => ([some (a 13), some (a 14), some (a 15), some (a 16), some (a 17), some (a 18), some (a 19), some (a 20)] : List (Option Nat)).getD j none) i = some (a (13 + i)) := match i, hi with
  | 0, _ => rfl
  | 1, _ => rfl
  | 2, _ => rfl
  | 3, _ => rfl
  | 4, _ => rfl
  | 5, _ => rfl
  | 6, _ => rfl
  | 7, _ => rfl
  | i + 8, hi => absurd hi (by omega)
theorem aq_X_Street_beside {cl : List vw_C} {tys : List (ClassId × FieldType)} {ι : Nat → ClassId} (hx : gx_std vwCl (gty ι) cl tys) (a : Nat → Nat) : gx_arrq tys (xX a ι) (12) (.array .int) 8 (fun j => ([some (a 13), some (a 14), some (a 15), some (a 16), some (a 17), some (a 18), some (a 19), some (a 20)] : List (Option Nat)).getD j none) := ⟨4, ι 4, by rw [hx.2]; rfl, fun _ => rfl⟩
theorem lt_X_Street_beside_row {q : Nat} (hq : q < 8) : 13 + q < 82 := by omega
theorem ac0_X_Street_beside_row (a : Nat → Nat) (ι : Nat → ClassId) (r : Nat → Int32) {q : Nat} (hq : q < 8) : xX a ι (13 + q) r = .inl (ι 0, 6, .inl r) := match q, hq with
  | 0, _ => rfl
  | 1, _ => rfl
  | 2, _ => rfl
  | 3, _ => rfl
  | 4, _ => rfl
  | 5, _ => rfl
  | 6, _ => rfl
  | 7, _ => rfl
  | q + 8, hq => absurd hq (by omega)
theorem ac_X_Street_beside_row {cl : List vw_C} {tys : List (ClassId × FieldType)} {ι : Nat → ClassId} (hx : gx_std vwCl (gty ι) cl tys) (a : Nat → Nat) {q : Nat} (hq : q < 8) : gx_arr tys (xX a ι) (13 + q) .int 6 := ⟨0, ι 0, by rw [hx.2]; rfl, fun r => ac0_X_Street_beside_row a ι r hq⟩
theorem lt_X_Standing {q : Nat} (hq : q < 5) : 21 + 4 * q < 82 := by omega
theorem oc_X_Standing (a : Nat → Nat) (ι : Nat → ClassId) (r : Nat → Int32) {q : Nat} (hq : q < 5) : xX a ι (21 + 4 * q) r = .inr (4, [.ref (a 1), .ref (a (21 + 4 * q + 1)), .ref (a (21 + 4 * q + 2)), .ref (a (21 + 4 * q + 3))]) := match q, hq with
  | 0, _ => rfl
  | 1, _ => rfl
  | 2, _ => rfl
  | 3, _ => rfl
  | 4, _ => rfl
  | q + 5, hq => absurd hq (by omega)
theorem lt_X_Standing_price {q : Nat} (hq : q < 5) : 21 + 4 * q + 1 < 82 := by omega
theorem ac0_X_Standing_price (a : Nat → Nat) (ι : Nat → ClassId) (r : Nat → Int32) {q : Nat} (hq : q < 5) : xX a ι (21 + 4 * q + 1) r = .inl (ι 0, 6, .inl r) := match q, hq with
  | 0, _ => rfl
  | 1, _ => rfl
  | 2, _ => rfl
  | 3, _ => rfl
  | 4, _ => rfl
  | q + 5, hq => absurd hq (by omega)
theorem ac_X_Standing_price {cl : List vw_C} {tys : List (ClassId × FieldType)} {ι : Nat → ClassId} (hx : gx_std vwCl (gty ι) cl tys) (a : Nat → Nat) {q : Nat} (hq : q < 5) : gx_arr tys (xX a ι) (21 + 4 * q + 1) .int 6 := ⟨0, ι 0, by rw [hx.2]; rfl, fun r => ac0_X_Standing_price a ι r hq⟩
theorem lt_X_Standing_whose {q : Nat} (hq : q < 5) : 21 + 4 * q + 2 < 82 := by omega
theorem ac0_X_Standing_whose (a : Nat → Nat) (ι : Nat → ClassId) (r : Nat → Int32) {q : Nat} (hq : q < 5) : xX a ι (21 + 4 * q + 2) r = .inl (ι 0, 6, .inl r) := match q, hq with
  | 0, _ => rfl
  | 1, _ => rfl
  | 2, _ => rfl
  | 3, _ => rfl
  | 4, _ => rfl
  | q + 5, hq => absurd hq (by omega)
theorem ac_X_Standing_whose {cl : List vw_C} {tys : List (ClassId × FieldType)} {ι : Nat → ClassId} (hx : gx_std vwCl (gty ι) cl tys) (a : Nat → Nat) {q : Nat} (hq : q < 5) : gx_arr tys (xX a ι) (21 + 4 * q + 2) .int 6 := ⟨0, ι 0, by rw [hx.2]; rfl, fun r => ac0_X_Standing_whose a ι r hq⟩
theorem lt_X_Standing_in {q : Nat} (hq : q < 5) : 21 + 4 * q + 3 < 82 := by omega
theorem ac0_X_Standing_in (a : Nat → Nat) (ι : Nat → ClassId) (r : Nat → Int32) {q : Nat} (hq : q < 5) : xX a ι (21 + 4 * q + 3) r = .inl (ι 1, 6, .inl r) := match q, hq with
  | 0, _ => rfl
  | 1, _ => rfl
  | 2, _ => rfl
  | 3, _ => rfl
  | 4, _ => rfl
  | q + 5, hq => absurd hq (by omega)
theorem ac_X_Standing_in {cl : List vw_C} {tys : List (ClassId × FieldType)} {ι : Nat → ClassId} (hx : gx_std vwCl (gty ι) cl tys) (a : Nat → Nat) {q : Nat} (hq : q < 5) : gx_arr tys (xX a ι) (21 + 4 * q + 3) .boolean 6 := ⟨1, ι 1, by rw [hx.2]; rfl, fun r => ac0_X_Standing_in a ι r hq⟩
theorem lt_X_Bests : 41 < 82 := by decide
theorem oc_X_Bests (a : Nat → Nat) (ι : Nat → ClassId) (r : Nat → Int32) : xX a ι (41) r = .inr (0, [.ref (a 1), .ref (a 42), .ref (a 43), .ref (a 44), .ref (a 45), .int (r 5), .ref (a 46), .ref (a 51), .ref (a 56), .ref (a 61), .ref (a 62), .int (r 11), .int (r 12)]) := rfl
theorem lt_X_Bests_own : 42 < 82 := by decide
theorem ac0_X_Bests_own (a : Nat → Nat) (ι : Nat → ClassId) (r : Nat → Int32) : xX a ι (42) r = .inl (ι 0, 3, .inl r) := rfl
theorem ac_X_Bests_own {cl : List vw_C} {tys : List (ClassId × FieldType)} {ι : Nat → ClassId} (hx : gx_std vwCl (gty ι) cl tys) (a : Nat → Nat) : gx_arr tys (xX a ι) (42) .int 3 := ⟨0, ι 0, by rw [hx.2]; rfl, fun r => ac0_X_Bests_own a ι r⟩
theorem lt_X_Bests_ownCost : 43 < 82 := by decide
theorem ac0_X_Bests_ownCost (a : Nat → Nat) (ι : Nat → ClassId) (r : Nat → Int32) : xX a ι (43) r = .inl (ι 0, 3, .inl r) := rfl
theorem ac_X_Bests_ownCost {cl : List vw_C} {tys : List (ClassId × FieldType)} {ι : Nat → ClassId} (hx : gx_std vwCl (gty ι) cl tys) (a : Nat → Nat) : gx_arr tys (xX a ι) (43) .int 3 := ⟨0, ι 0, by rw [hx.2]; rfl, fun r => ac0_X_Bests_ownCost a ι r⟩
theorem lt_X_Bests_tried : 44 < 82 := by decide
theorem ac0_X_Bests_tried (a : Nat → Nat) (ι : Nat → ClassId) (r : Nat → Int32) : xX a ι (44) r = .inl (ι 0, 3, .inl r) := rfl
theorem ac_X_Bests_tried {cl : List vw_C} {tys : List (ClassId × FieldType)} {ι : Nat → ClassId} (hx : gx_std vwCl (gty ι) cl tys) (a : Nat → Nat) : gx_arr tys (xX a ι) (44) .int 3 := ⟨0, ι 0, by rw [hx.2]; rfl, fun r => ac0_X_Bests_tried a ι r⟩
theorem lt_X_Bests_chosen : 45 < 82 := by decide
theorem ac0_X_Bests_chosen (a : Nat → Nat) (ι : Nat → ClassId) (r : Nat → Int32) : xX a ι (45) r = .inl (ι 0, 3, .inl r) := rfl
theorem ac_X_Bests_chosen {cl : List vw_C} {tys : List (ClassId × FieldType)} {ι : Nat → ClassId} (hx : gx_std vwCl (gty ι) cl tys) (a : Nat → Nat) : gx_arr tys (xX a ι) (45) .int 3 := ⟨0, ι 0, by rw [hx.2]; rfl, fun r => ac0_X_Bests_chosen a ι r⟩
theorem lt_X_Bests_least : 46 < 82 := by decide
theorem aqf_X_Bests_least (a : Nat → Nat) {i : Nat} (hi : i < 4) : (fun j => ([some (a 47), some (a 48), some (a 49), some (a 50)] : List (Option Nat)).getD j none) i = some (a (47 + i)) := match i, hi with
  | 0, _ => rfl
  | 1, _ => rfl
  | 2, _ => rfl
  | 3, _ => rfl
  | i + 4, hi => absurd hi (by omega)
theorem aq_X_Bests_least {cl : List vw_C} {tys : List (ClassId × FieldType)} {ι : Nat → ClassId} (hx : gx_std vwCl (gty ι) cl tys) (a : Nat → Nat) : gx_arrq tys (xX a ι) (46) (.array .int) 4 (fun j => ([some (a 47), some (a 48), some (a 49), some (a 50)] : List (Option Nat)).getD j none) := ⟨4, ι 4, by rw [hx.2]; rfl, fun _ => rfl⟩
theorem lt_X_Bests_least_row {q : Nat} (hq : q < 4) : 47 + q < 82 := by omega
theorem ac0_X_Bests_least_row (a : Nat → Nat) (ι : Nat → ClassId) (r : Nat → Int32) {q : Nat} (hq : q < 4) : xX a ι (47 + q) r = .inl (ι 0, 8, .inl r) := match q, hq with
  | 0, _ => rfl
  | 1, _ => rfl
  | 2, _ => rfl
  | 3, _ => rfl
  | q + 4, hq => absurd hq (by omega)
theorem ac_X_Bests_least_row {cl : List vw_C} {tys : List (ClassId × FieldType)} {ι : Nat → ClassId} (hx : gx_std vwCl (gty ι) cl tys) (a : Nat → Nat) {q : Nat} (hq : q < 4) : gx_arr tys (xX a ι) (47 + q) .int 8 := ⟨0, ι 0, by rw [hx.2]; rfl, fun r => ac0_X_Bests_least_row a ι r hq⟩
theorem lt_X_Bests_choice : 51 < 82 := by decide
theorem aqf_X_Bests_choice (a : Nat → Nat) {i : Nat} (hi : i < 4) : (fun j => ([some (a 52), some (a 53), some (a 54), some (a 55)] : List (Option Nat)).getD j none) i = some (a (52 + i)) := match i, hi with
  | 0, _ => rfl
  | 1, _ => rfl
  | 2, _ => rfl
  | 3, _ => rfl
  | i + 4, hi => absurd hi (by omega)
theorem aq_X_Bests_choice {cl : List vw_C} {tys : List (ClassId × FieldType)} {ι : Nat → ClassId} (hx : gx_std vwCl (gty ι) cl tys) (a : Nat → Nat) : gx_arrq tys (xX a ι) (51) (.array .int) 4 (fun j => ([some (a 52), some (a 53), some (a 54), some (a 55)] : List (Option Nat)).getD j none) := ⟨4, ι 4, by rw [hx.2]; rfl, fun _ => rfl⟩
theorem lt_X_Bests_choice_row {q : Nat} (hq : q < 4) : 52 + q < 82 := by omega
theorem ac0_X_Bests_choice_row (a : Nat → Nat) (ι : Nat → ClassId) (r : Nat → Int32) {q : Nat} (hq : q < 4) : xX a ι (52 + q) r = .inl (ι 0, 8, .inl r) := match q, hq with
  | 0, _ => rfl
  | 1, _ => rfl
  | 2, _ => rfl
  | 3, _ => rfl
  | q + 4, hq => absurd hq (by omega)
theorem ac_X_Bests_choice_row {cl : List vw_C} {tys : List (ClassId × FieldType)} {ι : Nat → ClassId} (hx : gx_std vwCl (gty ι) cl tys) (a : Nat → Nat) {q : Nat} (hq : q < 4) : gx_arr tys (xX a ι) (52 + q) .int 8 := ⟨0, ι 0, by rw [hx.2]; rfl, fun r => ac0_X_Bests_choice_row a ι r hq⟩
theorem lt_X_Bests_earns : 56 < 82 := by decide
theorem aqf_X_Bests_earns (a : Nat → Nat) {i : Nat} (hi : i < 4) : (fun j => ([some (a 57), some (a 58), some (a 59), some (a 60)] : List (Option Nat)).getD j none) i = some (a (57 + i)) := match i, hi with
  | 0, _ => rfl
  | 1, _ => rfl
  | 2, _ => rfl
  | 3, _ => rfl
  | i + 4, hi => absurd hi (by omega)
theorem aq_X_Bests_earns {cl : List vw_C} {tys : List (ClassId × FieldType)} {ι : Nat → ClassId} (hx : gx_std vwCl (gty ι) cl tys) (a : Nat → Nat) : gx_arrq tys (xX a ι) (56) (.array .int) 4 (fun j => ([some (a 57), some (a 58), some (a 59), some (a 60)] : List (Option Nat)).getD j none) := ⟨4, ι 4, by rw [hx.2]; rfl, fun _ => rfl⟩
theorem lt_X_Bests_earns_row {q : Nat} (hq : q < 4) : 57 + q < 82 := by omega
theorem ac0_X_Bests_earns_row (a : Nat → Nat) (ι : Nat → ClassId) (r : Nat → Int32) {q : Nat} (hq : q < 4) : xX a ι (57 + q) r = .inl (ι 0, 8, .inl r) := match q, hq with
  | 0, _ => rfl
  | 1, _ => rfl
  | 2, _ => rfl
  | 3, _ => rfl
  | q + 4, hq => absurd hq (by omega)
theorem ac_X_Bests_earns_row {cl : List vw_C} {tys : List (ClassId × FieldType)} {ι : Nat → ClassId} (hx : gx_std vwCl (gty ι) cl tys) (a : Nat → Nat) {q : Nat} (hq : q < 4) : gx_arr tys (xX a ι) (57 + q) .int 8 := ⟨0, ι 0, by rw [hx.2]; rfl, fun r => ac0_X_Bests_earns_row a ι r hq⟩
theorem lt_X_Bests_comers : 61 < 82 := by decide
theorem ac0_X_Bests_comers (a : Nat → Nat) (ι : Nat → ClassId) (r : Nat → Int32) : xX a ι (61) r = .inl (ι 0, 10, .inl r) := rfl
theorem ac_X_Bests_comers {cl : List vw_C} {tys : List (ClassId × FieldType)} {ι : Nat → ClassId} (hx : gx_std vwCl (gty ι) cl tys) (a : Nat → Nat) : gx_arr tys (xX a ι) (61) .int 10 := ⟨0, ι 0, by rw [hx.2]; rfl, fun r => ac0_X_Bests_comers a ι r⟩
theorem lt_X_Bests_elsewhere : 62 < 82 := by decide
theorem ac0_X_Bests_elsewhere (a : Nat → Nat) (ι : Nat → ClassId) (r : Nat → Int32) : xX a ι (62) r = .inl (ι 0, 10, .inl r) := rfl
theorem ac_X_Bests_elsewhere {cl : List vw_C} {tys : List (ClassId × FieldType)} {ι : Nat → ClassId} (hx : gx_std vwCl (gty ι) cl tys) (a : Nat → Nat) : gx_arr tys (xX a ι) (62) .int 10 := ⟨0, ι 0, by rw [hx.2]; rfl, fun r => ac0_X_Bests_elsewhere a ι r⟩
theorem lt_X_Joining : 63 < 82 := by decide
theorem oc_X_Joining (a : Nat → Nat) (ι : Nat → ClassId) (r : Nat → Int32) : xX a ι (63) r = .inr (2, [.ref (a 1), .ref (a 41), .ref (a 33), .ref (a 37), .ref (a 64)]) := rfl
theorem lt_X_Joining_spareBefore : 64 < 82 := by decide
theorem ac0_X_Joining_spareBefore (a : Nat → Nat) (ι : Nat → ClassId) (r : Nat → Int32) : xX a ι (64) r = .inl (ι 0, 8, .inl r) := rfl
theorem ac_X_Joining_spareBefore {cl : List vw_C} {tys : List (ClassId × FieldType)} {ι : Nat → ClassId} (hx : gx_std vwCl (gty ι) cl tys) (a : Nat → Nat) : gx_arr tys (xX a ι) (64) .int 8 := ⟨0, ι 0, by rw [hx.2]; rfl, fun r => ac0_X_Joining_spareBefore a ι r⟩
theorem lt_X_tests : 65 < 82 := by decide
theorem aqf_X_tests (a : Nat → Nat) {i : Nat} (hi : i < 4) : (fun j => ([some (a 68), some (a 70), some (a 72), some (a 74)] : List (Option Nat)).getD j none) i = some (a (66 + 2 * (1 + i))) := match i, hi with
  | 0, _ => rfl
  | 1, _ => rfl
  | 2, _ => rfl
  | 3, _ => rfl
  | i + 4, hi => absurd hi (by omega)
theorem aq_X_tests {cl : List vw_C} {tys : List (ClassId × FieldType)} {ι : Nat → ClassId} (hx : gx_std vwCl (gty ι) cl tys) (a : Nat → Nat) : gx_arrq tys (xX a ι) (65) (.object "ShopsAsOne$Text") 4 (fun j => ([some (a 68), some (a 70), some (a 72), some (a 74)] : List (Option Nat)).getD j none) := ⟨5, ι 5, by rw [hx.2]; rfl, fun _ => rfl⟩
theorem lt_X_Text {q : Nat} (hq : q < 5) : 66 + 2 * q < 82 := by omega
theorem oc_X_Text (a : Nat → Nat) (ι : Nat → ClassId) (r : Nat → Int32) {q : Nat} (hq : q < 5) : xX a ι (66 + 2 * q) r = .inr (6, [.ref (a (66 + 2 * q + 1)), .int (r 1)]) := match q, hq with
  | 0, _ => rfl
  | 1, _ => rfl
  | 2, _ => rfl
  | 3, _ => rfl
  | 4, _ => rfl
  | q + 5, hq => absurd hq (by omega)
theorem lt_X_Text_letter {q : Nat} (hq : q < 5) : 66 + 2 * q + 1 < 82 := by omega
theorem ac0_X_Text_letter (a : Nat → Nat) (ι : Nat → ClassId) (r : Nat → Int32) {q : Nat} (hq : q < 5) : xX a ι (66 + 2 * q + 1) r = .inl (ι 2, 50, .inl r) := match q, hq with
  | 0, _ => rfl
  | 1, _ => rfl
  | 2, _ => rfl
  | 3, _ => rfl
  | 4, _ => rfl
  | q + 5, hq => absurd hq (by omega)
theorem ac_X_Text_letter {cl : List vw_C} {tys : List (ClassId × FieldType)} {ι : Nat → ClassId} (hx : gx_std vwCl (gty ι) cl tys) (a : Nat → Nat) {q : Nat} (hq : q < 5) : gx_arr tys (xX a ι) (66 + 2 * q + 1) .char 50 := ⟨2, ι 2, by rw [hx.2]; rfl, fun r => ac0_X_Text_letter a ι r hq⟩
theorem lt_X_Grammar : 76 < 82 := by decide
theorem oc_X_Grammar (a : Nat → Nat) (ι : Nat → ClassId) (r : Nat → Int32) : xX a ι (76) r = .inr (1, [.int (r 0), .int (r 1), .int (r 2)]) := rfl
theorem lt_X_Judge : 77 < 82 := by decide
theorem oc_X_Judge (a : Nat → Nat) (ι : Nat → ClassId) (r : Nat → Int32) : xX a ι (77) r = .inr (3, [.ref (a 1), .ref (a 78), .ref (a 79), .ref (a 80), .ref (a 81), .int (r 5), .int (r 6), .int (r 7), .int (r 8), .int (r 9)]) := rfl
theorem lt_X_Judge_sold : 78 < 82 := by decide
theorem ac0_X_Judge_sold (a : Nat → Nat) (ι : Nat → ClassId) (r : Nat → Int32) : xX a ι (78) r = .inl (ι 0, 6, .inl r) := rfl
theorem ac_X_Judge_sold {cl : List vw_C} {tys : List (ClassId × FieldType)} {ι : Nat → ClassId} (hx : gx_std vwCl (gty ι) cl tys) (a : Nat → Nat) : gx_arr tys (xX a ι) (78) .int 6 := ⟨0, ι 0, by rw [hx.2]; rfl, fun r => ac0_X_Judge_sold a ι r⟩
theorem lt_X_Judge_any : 79 < 82 := by decide
theorem ac0_X_Judge_any (a : Nat → Nat) (ι : Nat → ClassId) (r : Nat → Int32) : xX a ι (79) r = .inl (ι 1, 51, .inl r) := rfl
theorem ac_X_Judge_any {cl : List vw_C} {tys : List (ClassId × FieldType)} {ι : Nat → ClassId} (hx : gx_std vwCl (gty ι) cl tys) (a : Nat → Nat) : gx_arr tys (xX a ι) (79) .boolean 51 := ⟨1, ι 1, by rw [hx.2]; rfl, fun r => ac0_X_Judge_any a ι r⟩
theorem lt_X_Judge_all : 80 < 82 := by decide
theorem ac0_X_Judge_all (a : Nat → Nat) (ι : Nat → ClassId) (r : Nat → Int32) : xX a ι (80) r = .inl (ι 1, 51, .inl r) := rfl
theorem ac_X_Judge_all {cl : List vw_C} {tys : List (ClassId × FieldType)} {ι : Nat → ClassId} (hx : gx_std vwCl (gty ι) cl tys) (a : Nat → Nat) : gx_arr tys (xX a ι) (80) .boolean 51 := ⟨1, ι 1, by rw [hx.2]; rfl, fun r => ac0_X_Judge_all a ι r⟩
theorem lt_X_Judge_turned : 81 < 82 := by decide
theorem ac0_X_Judge_turned (a : Nat → Nat) (ι : Nat → ClassId) (r : Nat → Int32) : xX a ι (81) r = .inl (ι 1, 51, .inl r) := rfl
theorem ac_X_Judge_turned {cl : List vw_C} {tys : List (ClassId × FieldType)} {ι : Nat → ClassId} (hx : gx_std vwCl (gty ι) cl tys) (a : Nat → Nat) : gx_arr tys (xX a ι) (81) .boolean 51 := ⟨1, ι 1, by rw [hx.2]; rfl, fun r => ac0_X_Judge_turned a ι r⟩
def xM_L (a : Nat → Nat) (ι : Nat → ClassId) : List ((Nat → Int32) → va_E) := [
  fun r => .inr (8, [.int (r 0), .ref (a 1), .ref (a 2), .ref (a 3), .int (r 4), .ref (a 4), .ref (a 5), .ref (a 6), .ref (a 7), .int (r 9), .ref (a 8), .int (r 11), .ref (a 9), .ref (a 10), .int (r 14), .ref (a 11), .int (r 16), .int (r 17), .int (r 18), .int (r 19), .ref (a 12), .ref (a 13), .ref (a 14), .int (r 23), .ref (a 15), .ref (a 16), .int (r 26), .int (r 27), .ref (a 17), .ref (a 18), .ref (a 19), .ref (a 20), .ref (a 21), .ref (a 22), .int (r 34), .int (r 35), .int (r 36), .ref (a 23), .ref (a 24), .ref (a 25), .int (r 40), .long (gx_mk (r 182) (r 183))]),
  fun r => .inl (ι 0, 6, .inl r),
  fun r => .inl (ι 0, 6, .inl r),
  fun r => .inl (ι 1, 6, .inl r),
  fun r => .inl (ι 0, 6, .inl r),
  fun r => .inl (ι 0, 6, .inl r),
  fun r => .inl (ι 0, 6, .inl r),
  fun r => .inl (ι 0, 6, .inl r),
  fun r => .inl (ι 0, 48, .inl r),
  fun r => .inl (ι 3, 200, .inl r),
  fun r => .inl (ι 0, 4, .inl r),
  fun r => .inl (ι 3, 50, .inl r),
  fun r => .inl (ι 0, 6, .inl r),
  fun r => .inl (ι 0, 6, .inl r),
  fun r => .inl (ι 1, 6, .inl r),
  fun r => .inl (ι 0, 6, .inl r),
  fun r => .inl (ι 0, 6, .inl r),
  fun r => .inl (ι 0, 6, .inl r),
  fun r => .inl (ι 0, 6, .inl r),
  fun r => .inl (ι 0, 6, .inl r),
  fun r => .inl (ι 1, 6, .inl r),
  fun r => .inl (ι 0, 8, .inl r),
  fun r => .inl (ι 0, 8, .inl r),
  fun r => .inl (ι 1, 51, .inl r),
  fun r => .inl (ι 1, 51, .inl r),
  fun r => .inl (ι 1, 51, .inl r)]
def xM (a : Nat → Nat) (ι : Nat → ClassId) (k : Nat) (r : Nat → Int32) : va_E := ((xM_L a ι).getD k (fun _ => .inr (0, []))) r
abbrev wM (a : Nat → Nat) (ι : Nat → ClassId) : gx_S → va_W := gx_w 26 a (xM a ι)
theorem lt_M_Model : 0 < 26 := by decide
theorem oc_M_Model (a : Nat → Nat) (ι : Nat → ClassId) (r : Nat → Int32) : xM a ι (0) r = .inr (8, [.int (r 0), .ref (a 1), .ref (a 2), .ref (a 3), .int (r 4), .ref (a 4), .ref (a 5), .ref (a 6), .ref (a 7), .int (r 9), .ref (a 8), .int (r 11), .ref (a 9), .ref (a 10), .int (r 14), .ref (a 11), .int (r 16), .int (r 17), .int (r 18), .int (r 19), .ref (a 12), .ref (a 13), .ref (a 14), .int (r 23), .ref (a 15), .ref (a 16), .int (r 26), .int (r 27), .ref (a 17), .ref (a 18), .ref (a 19), .ref (a 20), .ref (a 21), .ref (a 22), .int (r 34), .int (r 35), .int (r 36), .ref (a 23), .ref (a 24), .ref (a 25), .int (r 40), .long (gx_mk (r 182) (r 183))]) := rfl
theorem lt_M_M_kindOf : 1 < 26 := by decide
theorem ac0_M_M_kindOf (a : Nat → Nat) (ι : Nat → ClassId) (r : Nat → Int32) : xM a ι (1) r = .inl (ι 0, 6, .inl r) := rfl
theorem ac_M_M_kindOf {cl : List vw_C} {tys : List (ClassId × FieldType)} {ι : Nat → ClassId} (hx : gx_std vwCl (gty ι) cl tys) (a : Nat → Nat) : gx_arr tys (xM a ι) (1) .int 6 := ⟨0, ι 0, by rw [hx.2]; rfl, fun r => ac0_M_M_kindOf a ι r⟩
theorem lt_M_M_nOf : 2 < 26 := by decide
theorem ac0_M_M_nOf (a : Nat → Nat) (ι : Nat → ClassId) (r : Nat → Int32) : xM a ι (2) r = .inl (ι 0, 6, .inl r) := rfl
theorem ac_M_M_nOf {cl : List vw_C} {tys : List (ClassId × FieldType)} {ι : Nat → ClassId} (hx : gx_std vwCl (gty ι) cl tys) (a : Nat → Nat) : gx_arr tys (xM a ι) (2) .int 6 := ⟨0, ι 0, by rw [hx.2]; rfl, fun r => ac0_M_M_nOf a ι r⟩
theorem lt_M_M_isIn : 3 < 26 := by decide
theorem ac0_M_M_isIn (a : Nat → Nat) (ι : Nat → ClassId) (r : Nat → Int32) : xM a ι (3) r = .inl (ι 1, 6, .inl r) := rfl
theorem ac_M_M_isIn {cl : List vw_C} {tys : List (ClassId × FieldType)} {ι : Nat → ClassId} (hx : gx_std vwCl (gty ι) cl tys) (a : Nat → Nat) : gx_arr tys (xM a ι) (3) .boolean 6 := ⟨1, ι 1, by rw [hx.2]; rfl, fun r => ac0_M_M_isIn a ι r⟩
theorem lt_M_M_ownerOf : 4 < 26 := by decide
theorem ac0_M_M_ownerOf (a : Nat → Nat) (ι : Nat → ClassId) (r : Nat → Int32) : xM a ι (4) r = .inl (ι 0, 6, .inl r) := rfl
theorem ac_M_M_ownerOf {cl : List vw_C} {tys : List (ClassId × FieldType)} {ι : Nat → ClassId} (hx : gx_std vwCl (gty ι) cl tys) (a : Nat → Nat) : gx_arr tys (xM a ι) (4) .int 6 := ⟨0, ι 0, by rw [hx.2]; rfl, fun r => ac0_M_M_ownerOf a ι r⟩
theorem lt_M_M_placeOf : 5 < 26 := by decide
theorem ac0_M_M_placeOf (a : Nat → Nat) (ι : Nat → ClassId) (r : Nat → Int32) : xM a ι (5) r = .inl (ι 0, 6, .inl r) := rfl
theorem ac_M_M_placeOf {cl : List vw_C} {tys : List (ClassId × FieldType)} {ι : Nat → ClassId} (hx : gx_std vwCl (gty ι) cl tys) (a : Nat → Nat) : gx_arr tys (xM a ι) (5) .int 6 := ⟨0, ι 0, by rw [hx.2]; rfl, fun r => ac0_M_M_placeOf a ι r⟩
theorem lt_M_M_costOf : 6 < 26 := by decide
theorem ac0_M_M_costOf (a : Nat → Nat) (ι : Nat → ClassId) (r : Nat → Int32) : xM a ι (6) r = .inl (ι 0, 6, .inl r) := rfl
theorem ac_M_M_costOf {cl : List vw_C} {tys : List (ClassId × FieldType)} {ι : Nat → ClassId} (hx : gx_std vwCl (gty ι) cl tys) (a : Nat → Nat) : gx_arr tys (xM a ι) (6) .int 6 := ⟨0, ι 0, by rw [hx.2]; rfl, fun r => ac0_M_M_costOf a ι r⟩
theorem lt_M_M_priceOf : 7 < 26 := by decide
theorem ac0_M_M_priceOf (a : Nat → Nat) (ι : Nat → ClassId) (r : Nat → Int32) : xM a ι (7) r = .inl (ι 0, 6, .inl r) := rfl
theorem ac_M_M_priceOf {cl : List vw_C} {tys : List (ClassId × FieldType)} {ι : Nat → ClassId} (hx : gx_std vwCl (gty ι) cl tys) (a : Nat → Nat) : gx_arr tys (xM a ι) (7) .int 6 := ⟨0, ι 0, by rw [hx.2]; rfl, fun r => ac0_M_M_priceOf a ι r⟩
theorem lt_M_M_sortOf : 8 < 26 := by decide
theorem ac0_M_M_sortOf (a : Nat → Nat) (ι : Nat → ClassId) (r : Nat → Int32) : xM a ι (8) r = .inl (ι 0, 48, .inl r) := rfl
theorem ac_M_M_sortOf {cl : List vw_C} {tys : List (ClassId × FieldType)} {ι : Nat → ClassId} (hx : gx_std vwCl (gty ι) cl tys) (a : Nat → Nat) : gx_arr tys (xM a ι) (8) .int 48 := ⟨0, ι 0, by rw [hx.2]; rfl, fun r => ac0_M_M_sortOf a ι r⟩
theorem lt_M_M_testText : 9 < 26 := by decide
theorem ac0_M_M_testText (a : Nat → Nat) (ι : Nat → ClassId) (r : Nat → Int32) : xM a ι (9) r = .inl (ι 3, 200, .inl r) := rfl
theorem ac_M_M_testText {cl : List vw_C} {tys : List (ClassId × FieldType)} {ι : Nat → ClassId} (hx : gx_std vwCl (gty ι) cl tys) (a : Nat → Nat) : gx_arr tys (xM a ι) (9) .byte 200 := ⟨3, ι 3, by rw [hx.2]; rfl, fun r => ac0_M_M_testText a ι r⟩
theorem lt_M_M_testSize : 10 < 26 := by decide
theorem ac0_M_M_testSize (a : Nat → Nat) (ι : Nat → ClassId) (r : Nat → Int32) : xM a ι (10) r = .inl (ι 0, 4, .inl r) := rfl
theorem ac_M_M_testSize {cl : List vw_C} {tys : List (ClassId × FieldType)} {ι : Nat → ClassId} (hx : gx_std vwCl (gty ι) cl tys) (a : Nat → Nat) : gx_arr tys (xM a ι) (10) .int 4 := ⟨0, ι 0, by rw [hx.2]; rfl, fun r => ac0_M_M_testSize a ι r⟩
theorem lt_M_M_page : 11 < 26 := by decide
theorem ac0_M_M_page (a : Nat → Nat) (ι : Nat → ClassId) (r : Nat → Int32) : xM a ι (11) r = .inl (ι 3, 50, .inl r) := rfl
theorem ac_M_M_page {cl : List vw_C} {tys : List (ClassId × FieldType)} {ι : Nat → ClassId} (hx : gx_std vwCl (gty ι) cl tys) (a : Nat → Nat) : gx_arr tys (xM a ι) (11) .byte 50 := ⟨3, ι 3, by rw [hx.2]; rfl, fun r => ac0_M_M_page a ι r⟩
theorem lt_M_M_keptPrice : 12 < 26 := by decide
theorem ac0_M_M_keptPrice (a : Nat → Nat) (ι : Nat → ClassId) (r : Nat → Int32) : xM a ι (12) r = .inl (ι 0, 6, .inl r) := rfl
theorem ac_M_M_keptPrice {cl : List vw_C} {tys : List (ClassId × FieldType)} {ι : Nat → ClassId} (hx : gx_std vwCl (gty ι) cl tys) (a : Nat → Nat) : gx_arr tys (xM a ι) (12) .int 6 := ⟨0, ι 0, by rw [hx.2]; rfl, fun r => ac0_M_M_keptPrice a ι r⟩
theorem lt_M_M_keptOwner : 13 < 26 := by decide
theorem ac0_M_M_keptOwner (a : Nat → Nat) (ι : Nat → ClassId) (r : Nat → Int32) : xM a ι (13) r = .inl (ι 0, 6, .inl r) := rfl
theorem ac_M_M_keptOwner {cl : List vw_C} {tys : List (ClassId × FieldType)} {ι : Nat → ClassId} (hx : gx_std vwCl (gty ι) cl tys) (a : Nat → Nat) : gx_arr tys (xM a ι) (13) .int 6 := ⟨0, ι 0, by rw [hx.2]; rfl, fun r => ac0_M_M_keptOwner a ι r⟩
theorem lt_M_M_keptIn : 14 < 26 := by decide
theorem ac0_M_M_keptIn (a : Nat → Nat) (ι : Nat → ClassId) (r : Nat → Int32) : xM a ι (14) r = .inl (ι 1, 6, .inl r) := rfl
theorem ac_M_M_keptIn {cl : List vw_C} {tys : List (ClassId × FieldType)} {ι : Nat → ClassId} (hx : gx_std vwCl (gty ι) cl tys) (a : Nat → Nat) : gx_arr tys (xM a ι) (14) .boolean 6 := ⟨1, ι 1, by rw [hx.2]; rfl, fun r => ac0_M_M_keptIn a ι r⟩
theorem lt_M_M_soldNow : 15 < 26 := by decide
theorem ac0_M_M_soldNow (a : Nat → Nat) (ι : Nat → ClassId) (r : Nat → Int32) : xM a ι (15) r = .inl (ι 0, 6, .inl r) := rfl
theorem ac_M_M_soldNow {cl : List vw_C} {tys : List (ClassId × FieldType)} {ι : Nat → ClassId} (hx : gx_std vwCl (gty ι) cl tys) (a : Nat → Nat) : gx_arr tys (xM a ι) (15) .int 6 := ⟨0, ι 0, by rw [hx.2]; rfl, fun r => ac0_M_M_soldNow a ι r⟩
theorem lt_M_M_bestPrice : 16 < 26 := by decide
theorem ac0_M_M_bestPrice (a : Nat → Nat) (ι : Nat → ClassId) (r : Nat → Int32) : xM a ι (16) r = .inl (ι 0, 6, .inl r) := rfl
theorem ac_M_M_bestPrice {cl : List vw_C} {tys : List (ClassId × FieldType)} {ι : Nat → ClassId} (hx : gx_std vwCl (gty ι) cl tys) (a : Nat → Nat) : gx_arr tys (xM a ι) (16) .int 6 := ⟨0, ι 0, by rw [hx.2]; rfl, fun r => ac0_M_M_bestPrice a ι r⟩
theorem lt_M_M_tried : 17 < 26 := by decide
theorem ac0_M_M_tried (a : Nat → Nat) (ι : Nat → ClassId) (r : Nat → Int32) : xM a ι (17) r = .inl (ι 0, 6, .inl r) := rfl
theorem ac_M_M_tried {cl : List vw_C} {tys : List (ClassId × FieldType)} {ι : Nat → ClassId} (hx : gx_std vwCl (gty ι) cl tys) (a : Nat → Nat) : gx_arr tys (xM a ι) (17) .int 6 := ⟨0, ι 0, by rw [hx.2]; rfl, fun r => ac0_M_M_tried a ι r⟩
theorem lt_M_M_wasPrice : 18 < 26 := by decide
theorem ac0_M_M_wasPrice (a : Nat → Nat) (ι : Nat → ClassId) (r : Nat → Int32) : xM a ι (18) r = .inl (ι 0, 6, .inl r) := rfl
theorem ac_M_M_wasPrice {cl : List vw_C} {tys : List (ClassId × FieldType)} {ι : Nat → ClassId} (hx : gx_std vwCl (gty ι) cl tys) (a : Nat → Nat) : gx_arr tys (xM a ι) (18) .int 6 := ⟨0, ι 0, by rw [hx.2]; rfl, fun r => ac0_M_M_wasPrice a ι r⟩
theorem lt_M_M_wasOwner : 19 < 26 := by decide
theorem ac0_M_M_wasOwner (a : Nat → Nat) (ι : Nat → ClassId) (r : Nat → Int32) : xM a ι (19) r = .inl (ι 0, 6, .inl r) := rfl
theorem ac_M_M_wasOwner {cl : List vw_C} {tys : List (ClassId × FieldType)} {ι : Nat → ClassId} (hx : gx_std vwCl (gty ι) cl tys) (a : Nat → Nat) : gx_arr tys (xM a ι) (19) .int 6 := ⟨0, ι 0, by rw [hx.2]; rfl, fun r => ac0_M_M_wasOwner a ι r⟩
theorem lt_M_M_wasIn : 20 < 26 := by decide
theorem ac0_M_M_wasIn (a : Nat → Nat) (ι : Nat → ClassId) (r : Nat → Int32) : xM a ι (20) r = .inl (ι 1, 6, .inl r) := rfl
theorem ac_M_M_wasIn {cl : List vw_C} {tys : List (ClassId × FieldType)} {ι : Nat → ClassId} (hx : gx_std vwCl (gty ι) cl tys) (a : Nat → Nat) : gx_arr tys (xM a ι) (20) .boolean 6 := ⟨1, ι 1, by rw [hx.2]; rfl, fun r => ac0_M_M_wasIn a ι r⟩
theorem lt_M_M_spareBefore : 21 < 26 := by decide
theorem ac0_M_M_spareBefore (a : Nat → Nat) (ι : Nat → ClassId) (r : Nat → Int32) : xM a ι (21) r = .inl (ι 0, 8, .inl r) := rfl
theorem ac_M_M_spareBefore {cl : List vw_C} {tys : List (ClassId × FieldType)} {ι : Nat → ClassId} (hx : gx_std vwCl (gty ι) cl tys) (a : Nat → Nat) : gx_arr tys (xM a ι) (21) .int 8 := ⟨0, ι 0, by rw [hx.2]; rfl, fun r => ac0_M_M_spareBefore a ι r⟩
theorem lt_M_M_spareBehind : 22 < 26 := by decide
theorem ac0_M_M_spareBehind (a : Nat → Nat) (ι : Nat → ClassId) (r : Nat → Int32) : xM a ι (22) r = .inl (ι 0, 8, .inl r) := rfl
theorem ac_M_M_spareBehind {cl : List vw_C} {tys : List (ClassId × FieldType)} {ι : Nat → ClassId} (hx : gx_std vwCl (gty ι) cl tys) (a : Nat → Nat) : gx_arr tys (xM a ι) (22) .int 8 := ⟨0, ι 0, by rw [hx.2]; rfl, fun r => ac0_M_M_spareBehind a ι r⟩
theorem lt_M_M_anyTerm : 23 < 26 := by decide
theorem ac0_M_M_anyTerm (a : Nat → Nat) (ι : Nat → ClassId) (r : Nat → Int32) : xM a ι (23) r = .inl (ι 1, 51, .inl r) := rfl
theorem ac_M_M_anyTerm {cl : List vw_C} {tys : List (ClassId × FieldType)} {ι : Nat → ClassId} (hx : gx_std vwCl (gty ι) cl tys) (a : Nat → Nat) : gx_arr tys (xM a ι) (23) .boolean 51 := ⟨1, ι 1, by rw [hx.2]; rfl, fun r => ac0_M_M_anyTerm a ι r⟩
theorem lt_M_M_allFactors : 24 < 26 := by decide
theorem ac0_M_M_allFactors (a : Nat → Nat) (ι : Nat → ClassId) (r : Nat → Int32) : xM a ι (24) r = .inl (ι 1, 51, .inl r) := rfl
theorem ac_M_M_allFactors {cl : List vw_C} {tys : List (ClassId × FieldType)} {ι : Nat → ClassId} (hx : gx_std vwCl (gty ι) cl tys) (a : Nat → Nat) : gx_arr tys (xM a ι) (24) .boolean 51 := ⟨1, ι 1, by rw [hx.2]; rfl, fun r => ac0_M_M_allFactors a ι r⟩
theorem lt_M_M_isDenied : 25 < 26 := by decide
theorem ac0_M_M_isDenied (a : Nat → Nat) (ι : Nat → ClassId) (r : Nat → Int32) : xM a ι (25) r = .inl (ι 1, 51, .inl r) := rfl
theorem ac_M_M_isDenied {cl : List vw_C} {tys : List (ClassId × FieldType)} {ι : Nat → ClassId} (hx : gx_std vwCl (gty ι) cl tys) (a : Nat → Nat) : gx_arr tys (xM a ι) (25) .boolean 51 := ⟨1, ι 1, by rw [hx.2]; rfl, fun r => ac0_M_M_isDenied a ι r⟩

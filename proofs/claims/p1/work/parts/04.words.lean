theorem gx_uu : gx_sub lw_tbl lw_tbl := by
  have h : lw_tbl.all goodWord = true := by decide +kernel
  exact fun w hw => ⟨hw, good_of_word (List.all_eq_true.mp h w hw)⟩
def gty (ι : Nat → ClassId) : List (ClassId × FieldType) := [(ι 0, .int), (ι 1, .boolean), (ι 2, .char), (ι 3, .byte), (ι 4, (.array .int)), (ι 5, (.object "ShopsAsOne$Text"))]
theorem iu_X0 : ∀ w ∈ u_ws RX0 TX0 13, w ∈ lw_tbl := by
  intro w hw
  obtain ⟨k, hk, rfl⟩ := List.mem_map.mp hw
  have hk := List.mem_range.mp hk
  match k, hk with
  | 0, _ => exact List.mem_of_getElem? (i := 233) (by decide +kernel)
  | 1, _ => exact List.mem_of_getElem? (i := 235) (by decide +kernel)
  | 2, _ => exact List.mem_of_getElem? (i := 237) (by decide +kernel)
  | 3, _ => exact List.mem_of_getElem? (i := 239) (by decide +kernel)
  | 4, _ => exact List.mem_of_getElem? (i := 241) (by decide +kernel)
  | 5, _ => exact List.mem_of_getElem? (i := 243) (by decide +kernel)
  | 6, _ => exact List.mem_of_getElem? (i := 245) (by decide +kernel)
  | 7, _ => exact List.mem_of_getElem? (i := 247) (by decide +kernel)
  | 8, _ => exact List.mem_of_getElem? (i := 249) (by decide +kernel)
  | 9, _ => exact List.mem_of_getElem? (i := 251) (by decide +kernel)
  | 10, _ => exact List.mem_of_getElem? (i := 253) (by decide +kernel)
  | 11, _ => exact List.mem_of_getElem? (i := 255) (by decide +kernel)
  | 12, _ => exact List.mem_of_getElem? (i := 257) (by decide +kernel)
  | k + 13, hk => exact absurd hk (by omega)
theorem cls_X0 {ι : Nat → ClassId} {cl : List vw_C} {tys : List (ClassId × FieldType)} (hx : gx_std vwCl (gty ι) cl tys) : gx_cls cl 0 RX0 TX0 13 tyX0 := ⟨by rw [hx.1]; rfl, tyX0_ok, nmX0⟩
theorem iu_X1 : ∀ w ∈ u_ws RX1 TX1 3, w ∈ lw_tbl := by
  intro w hw
  obtain ⟨k, hk, rfl⟩ := List.mem_map.mp hw
  have hk := List.mem_range.mp hk
  match k, hk with
  | 0, _ => exact List.mem_of_getElem? (i := 312) (by decide +kernel)
  | 1, _ => exact List.mem_of_getElem? (i := 314) (by decide +kernel)
  | 2, _ => exact List.mem_of_getElem? (i := 316) (by decide +kernel)
  | k + 3, hk => exact absurd hk (by omega)
theorem cls_X1 {ι : Nat → ClassId} {cl : List vw_C} {tys : List (ClassId × FieldType)} (hx : gx_std vwCl (gty ι) cl tys) : gx_cls cl 1 RX1 TX1 3 tyX1 := ⟨by rw [hx.1]; rfl, tyX1_ok, nmX1⟩
theorem iu_X2 : ∀ w ∈ u_ws RX2 TX2 5, w ∈ lw_tbl := by
  intro w hw
  obtain ⟨k, hk, rfl⟩ := List.mem_map.mp hw
  have hk := List.mem_range.mp hk
  match k, hk with
  | 0, _ => exact List.mem_of_getElem? (i := 273) (by decide +kernel)
  | 1, _ => exact List.mem_of_getElem? (i := 275) (by decide +kernel)
  | 2, _ => exact List.mem_of_getElem? (i := 277) (by decide +kernel)
  | 3, _ => exact List.mem_of_getElem? (i := 279) (by decide +kernel)
  | 4, _ => exact List.mem_of_getElem? (i := 281) (by decide +kernel)
  | k + 5, hk => exact absurd hk (by omega)
theorem cls_X2 {ι : Nat → ClassId} {cl : List vw_C} {tys : List (ClassId × FieldType)} (hx : gx_std vwCl (gty ι) cl tys) : gx_cls cl 2 RX2 TX2 5 tyX2 := ⟨by rw [hx.1]; rfl, tyX2_ok, nmX2⟩
theorem iu_X3 : ∀ w ∈ u_ws RX3 TX3 10, w ∈ lw_tbl := by
  intro w hw
  obtain ⟨k, hk, rfl⟩ := List.mem_map.mp hw
  have hk := List.mem_range.mp hk
  match k, hk with
  | 0, _ => exact List.mem_of_getElem? (i := 335) (by decide +kernel)
  | 1, _ => exact List.mem_of_getElem? (i := 337) (by decide +kernel)
  | 2, _ => exact List.mem_of_getElem? (i := 339) (by decide +kernel)
  | 3, _ => exact List.mem_of_getElem? (i := 341) (by decide +kernel)
  | 4, _ => exact List.mem_of_getElem? (i := 343) (by decide +kernel)
  | 5, _ => exact List.mem_of_getElem? (i := 345) (by decide +kernel)
  | 6, _ => exact List.mem_of_getElem? (i := 347) (by decide +kernel)
  | 7, _ => exact List.mem_of_getElem? (i := 349) (by decide +kernel)
  | 8, _ => exact List.mem_of_getElem? (i := 351) (by decide +kernel)
  | 9, _ => exact List.mem_of_getElem? (i := 353) (by decide +kernel)
  | k + 10, hk => exact absurd hk (by omega)
theorem cls_X3 {ι : Nat → ClassId} {cl : List vw_C} {tys : List (ClassId × FieldType)} (hx : gx_std vwCl (gty ι) cl tys) : gx_cls cl 3 RX3 TX3 10 tyX3 := ⟨by rw [hx.1]; rfl, tyX3_ok, nmX3⟩
theorem iu_X4 : ∀ w ∈ u_ws RX4 TX4 4, w ∈ lw_tbl := by
  intro w hw
  obtain ⟨k, hk, rfl⟩ := List.mem_map.mp hw
  have hk := List.mem_range.mp hk
  match k, hk with
  | 0, _ => exact List.mem_of_getElem? (i := 201) (by decide +kernel)
  | 1, _ => exact List.mem_of_getElem? (i := 203) (by decide +kernel)
  | 2, _ => exact List.mem_of_getElem? (i := 205) (by decide +kernel)
  | 3, _ => exact List.mem_of_getElem? (i := 207) (by decide +kernel)
  | k + 4, hk => exact absurd hk (by omega)
theorem cls_X4 {ι : Nat → ClassId} {cl : List vw_C} {tys : List (ClassId × FieldType)} (hx : gx_std vwCl (gty ι) cl tys) : gx_cls cl 4 RX4 TX4 4 tyX4 := ⟨by rw [hx.1]; rfl, tyX4_ok, nmX4⟩
theorem iu_X5 : ∀ w ∈ u_ws RX5 TX5 14, w ∈ lw_tbl := by
  intro w hw
  obtain ⟨k, hk, rfl⟩ := List.mem_map.mp hw
  have hk := List.mem_range.mp hk
  match k, hk with
  | 0, _ => exact List.mem_of_getElem? (i := 153) (by decide +kernel)
  | 1, _ => exact List.mem_of_getElem? (i := 155) (by decide +kernel)
  | 2, _ => exact List.mem_of_getElem? (i := 157) (by decide +kernel)
  | 3, _ => exact List.mem_of_getElem? (i := 159) (by decide +kernel)
  | 4, _ => exact List.mem_of_getElem? (i := 161) (by decide +kernel)
  | 5, _ => exact List.mem_of_getElem? (i := 163) (by decide +kernel)
  | 6, _ => exact List.mem_of_getElem? (i := 165) (by decide +kernel)
  | 7, _ => exact List.mem_of_getElem? (i := 167) (by decide +kernel)
  | 8, _ => exact List.mem_of_getElem? (i := 169) (by decide +kernel)
  | 9, _ => exact List.mem_of_getElem? (i := 171) (by decide +kernel)
  | 10, _ => exact List.mem_of_getElem? (i := 173) (by decide +kernel)
  | 11, _ => exact List.mem_of_getElem? (i := 175) (by decide +kernel)
  | 12, _ => exact List.mem_of_getElem? (i := 177) (by decide +kernel)
  | 13, _ => exact List.mem_of_getElem? (i := 179) (by decide +kernel)
  | k + 14, hk => exact absurd hk (by omega)
theorem cls_X5 {ι : Nat → ClassId} {cl : List vw_C} {tys : List (ClassId × FieldType)} (hx : gx_std vwCl (gty ι) cl tys) : gx_cls cl 5 RX5 TX5 14 tyX5 := ⟨by rw [hx.1]; rfl, tyX5_ok, nmX5⟩
theorem iu_X6 : ∀ w ∈ u_ws RX6 TX6 2, w ∈ lw_tbl := by
  intro w hw
  obtain ⟨k, hk, rfl⟩ := List.mem_map.mp hw
  have hk := List.mem_range.mp hk
  match k, hk with
  | 0, _ => exact List.mem_of_getElem? (i := 296) (by decide +kernel)
  | 1, _ => exact List.mem_of_getElem? (i := 298) (by decide +kernel)
  | k + 2, hk => exact absurd hk (by omega)
theorem cls_X6 {ι : Nat → ClassId} {cl : List vw_C} {tys : List (ClassId × FieldType)} (hx : gx_std vwCl (gty ι) cl tys) : gx_cls cl 6 RX6 TX6 2 tyX6 := ⟨by rw [hx.1]; rfl, tyX6_ok, nmX6⟩
theorem iu_X7 : ∀ w ∈ u_ws RX7 TX7 15, w ∈ lw_tbl := by
  intro w hw
  obtain ⟨k, hk, rfl⟩ := List.mem_map.mp hw
  have hk := List.mem_range.mp hk
  match k, hk with
  | 0, _ => exact List.mem_of_getElem? (i := 371) (by decide +kernel)
  | 1, _ => exact List.mem_of_getElem? (i := 373) (by decide +kernel)
  | 2, _ => exact List.mem_of_getElem? (i := 375) (by decide +kernel)
  | 3, _ => exact List.mem_of_getElem? (i := 377) (by decide +kernel)
  | 4, _ => exact List.mem_of_getElem? (i := 379) (by decide +kernel)
  | 5, _ => exact List.mem_of_getElem? (i := 381) (by decide +kernel)
  | 6, _ => exact List.mem_of_getElem? (i := 383) (by decide +kernel)
  | 7, _ => exact List.mem_of_getElem? (i := 385) (by decide +kernel)
  | 8, _ => exact List.mem_of_getElem? (i := 387) (by decide +kernel)
  | 9, _ => exact List.mem_of_getElem? (i := 389) (by decide +kernel)
  | 10, _ => exact List.mem_of_getElem? (i := 391) (by decide +kernel)
  | 11, _ => exact List.mem_of_getElem? (i := 393) (by decide +kernel)
  | 12, _ => exact List.mem_of_getElem? (i := 395) (by decide +kernel)
  | 13, _ => exact List.mem_of_getElem? (i := 397) (by decide +kernel)
  | 14, _ => exact List.mem_of_getElem? (i := 399) (by decide +kernel)
  | k + 15, hk => exact absurd hk (by omega)
theorem cls_X7 {ι : Nat → ClassId} {cl : List vw_C} {tys : List (ClassId × FieldType)} (hx : gx_std vwCl (gty ι) cl tys) : gx_cls cl 7 RX7 TX7 15 tyX7 := ⟨by rw [hx.1]; rfl, tyX7_ok, nmX7⟩
theorem iu_X8 : ∀ w ∈ u_ws RX8 TX8 42, w ∈ lw_tbl := by
  intro w hw
  obtain ⟨k, hk, rfl⟩ := List.mem_map.mp hw
  have hk := List.mem_range.mp hk
  match k, hk with
  | 0, _ => exact List.mem_of_getElem? (i := 925) (by decide +kernel)
  | 1, _ => exact List.mem_of_getElem? (i := 927) (by decide +kernel)
  | 2, _ => exact List.mem_of_getElem? (i := 929) (by decide +kernel)
  | 3, _ => exact List.mem_of_getElem? (i := 931) (by decide +kernel)
  | 4, _ => exact List.mem_of_getElem? (i := 933) (by decide +kernel)
  | 5, _ => exact List.mem_of_getElem? (i := 935) (by decide +kernel)
  | 6, _ => exact List.mem_of_getElem? (i := 937) (by decide +kernel)
  | 7, _ => exact List.mem_of_getElem? (i := 939) (by decide +kernel)
  | 8, _ => exact List.mem_of_getElem? (i := 941) (by decide +kernel)
  | 9, _ => exact List.mem_of_getElem? (i := 943) (by decide +kernel)
  | 10, _ => exact List.mem_of_getElem? (i := 945) (by decide +kernel)
  | 11, _ => exact List.mem_of_getElem? (i := 947) (by decide +kernel)
  | 12, _ => exact List.mem_of_getElem? (i := 949) (by decide +kernel)
  | 13, _ => exact List.mem_of_getElem? (i := 951) (by decide +kernel)
  | 14, _ => exact List.mem_of_getElem? (i := 953) (by decide +kernel)
  | 15, _ => exact List.mem_of_getElem? (i := 955) (by decide +kernel)
  | 16, _ => exact List.mem_of_getElem? (i := 957) (by decide +kernel)
  | 17, _ => exact List.mem_of_getElem? (i := 959) (by decide +kernel)
  | 18, _ => exact List.mem_of_getElem? (i := 961) (by decide +kernel)
  | 19, _ => exact List.mem_of_getElem? (i := 963) (by decide +kernel)
  | 20, _ => exact List.mem_of_getElem? (i := 965) (by decide +kernel)
  | 21, _ => exact List.mem_of_getElem? (i := 967) (by decide +kernel)
  | 22, _ => exact List.mem_of_getElem? (i := 969) (by decide +kernel)
  | 23, _ => exact List.mem_of_getElem? (i := 971) (by decide +kernel)
  | 24, _ => exact List.mem_of_getElem? (i := 973) (by decide +kernel)
  | 25, _ => exact List.mem_of_getElem? (i := 975) (by decide +kernel)
  | 26, _ => exact List.mem_of_getElem? (i := 977) (by decide +kernel)
  | 27, _ => exact List.mem_of_getElem? (i := 979) (by decide +kernel)
  | 28, _ => exact List.mem_of_getElem? (i := 981) (by decide +kernel)
  | 29, _ => exact List.mem_of_getElem? (i := 983) (by decide +kernel)
  | 30, _ => exact List.mem_of_getElem? (i := 985) (by decide +kernel)
  | 31, _ => exact List.mem_of_getElem? (i := 987) (by decide +kernel)
  | 32, _ => exact List.mem_of_getElem? (i := 989) (by decide +kernel)
  | 33, _ => exact List.mem_of_getElem? (i := 991) (by decide +kernel)
  | 34, _ => exact List.mem_of_getElem? (i := 993) (by decide +kernel)
  | 35, _ => exact List.mem_of_getElem? (i := 995) (by decide +kernel)
  | 36, _ => exact List.mem_of_getElem? (i := 997) (by decide +kernel)
  | 37, _ => exact List.mem_of_getElem? (i := 999) (by decide +kernel)
  | 38, _ => exact List.mem_of_getElem? (i := 1001) (by decide +kernel)
  | 39, _ => exact List.mem_of_getElem? (i := 1003) (by decide +kernel)
  | 40, _ => exact List.mem_of_getElem? (i := 1005) (by decide +kernel)
  | 41, _ => exact List.mem_of_getElem? (i := 1007) (by decide +kernel)
  | k + 42, hk => exact absurd hk (by omega)
theorem cls_X8 {ι : Nat → ClassId} {cl : List vw_C} {tys : List (ClassId × FieldType)} (hx : gx_std vwCl (gty ι) cl tys) : gx_cls cl 8 RX8 TX8 42 tyX8 := ⟨by rw [hx.1]; rfl, tyX8_ok, nmX8⟩
theorem fl_X5_9 : gx_fl lw_tbl RX5 9 RX5 TX5 14 3 := ⟨iu_X5, by decide, List.mem_of_getElem? (i := 118) (by decide +kernel), rfl⟩
theorem fl_X5_21 : gx_fl lw_tbl RX5 21 RX5 TX5 14 6 := ⟨iu_X5, by decide, List.mem_of_getElem? (i := 129) (by decide +kernel), rfl⟩
theorem fl_X5_15 : gx_fl lw_tbl RX5 15 RX5 TX5 14 4 := ⟨iu_X5, by decide, List.mem_of_getElem? (i := 122) (by decide +kernel), rfl⟩
theorem lk_X5_67 : gx_lkS lw_tbl RX5 67 yJ9_max_7cf53 cJ9_max_7cf53 2 ((Option.some Jvm.ClassFile.FieldType.int)) 2 := ⟨List.mem_of_getElem? (i := 522) (by decide +kernel), List.mem_of_getElem? (i := 523) (by decide +kernel), List.mem_of_getElem? (i := 85) (by decide +kernel), List.mem_of_getElem? (i := 524) (by decide +kernel), by decide +kernel, by decide +kernel, by decide +kernel⟩
theorem fl_X0_59 : gx_fl lw_tbl RX0 59 RX0 TX0 13 5 := ⟨iu_X0, by decide, List.mem_of_getElem? (i := 223) (by decide +kernel), rfl⟩
theorem fl_X0_41 : gx_fl lw_tbl RX0 41 RX0 TX0 13 0 := ⟨iu_X0, by decide, List.mem_of_getElem? (i := 218) (by decide +kernel), rfl⟩
theorem fl_X0_102 : gx_fl lw_tbl RX0 102 RX5 TX5 14 1 := ⟨iu_X5, by decide, List.mem_of_getElem? (i := 109) (by decide +kernel), rfl⟩
theorem fl_X0_105 : gx_fl lw_tbl RX0 105 RX4 TX4 4 2 := ⟨iu_X4, by decide, List.mem_of_getElem? (i := 196) (by decide +kernel), rfl⟩
theorem fl_X0_9 : gx_fl lw_tbl RX0 9 RX0 TX0 13 1 := ⟨iu_X0, by decide, List.mem_of_getElem? (i := 219) (by decide +kernel), rfl⟩
theorem fl_X0_15 : gx_fl lw_tbl RX0 15 RX0 TX0 13 2 := ⟨iu_X0, by decide, List.mem_of_getElem? (i := 220) (by decide +kernel), rfl⟩
theorem lk_X0_108 : gx_lk lw_tbl RX0 108 RX5 yX5_costTo cX5_costTo 3 ((Option.some Jvm.ClassFile.FieldType.int)) 2 := ⟨List.mem_of_getElem? (i := 537) (by decide +kernel), List.mem_of_getElem? (i := 519) (by decide +kernel), List.mem_of_getElem? (i := 520) (by decide +kernel), List.mem_of_getElem? (i := 76) (by decide +kernel), List.mem_of_getElem? (i := 521) (by decide +kernel), rfl, by decide +kernel, by decide +kernel, by decide +kernel⟩
theorem fl_X0_21 : gx_fl lw_tbl RX0 21 RX0 TX0 13 4 := ⟨iu_X0, by decide, List.mem_of_getElem? (i := 222) (by decide +kernel), rfl⟩
theorem fl_X0_62 : gx_fl lw_tbl RX0 62 RX4 TX4 4 1 := ⟨iu_X4, by decide, List.mem_of_getElem? (i := 191) (by decide +kernel), rfl⟩
theorem fl_X4_9 : gx_fl lw_tbl RX4 9 RX4 TX4 4 1 := ⟨iu_X4, by decide, List.mem_of_getElem? (i := 190) (by decide +kernel), rfl⟩
theorem fl_X4_22 : gx_fl lw_tbl RX4 22 RX4 TX4 4 0 := ⟨iu_X4, by decide, List.mem_of_getElem? (i := 189) (by decide +kernel), rfl⟩
theorem fl_X4_56 : gx_fl lw_tbl RX4 56 RX5 TX5 14 13 := ⟨iu_X5, by decide, List.mem_of_getElem? (i := 151) (by decide +kernel), rfl⟩
theorem fl_X4_15 : gx_fl lw_tbl RX4 15 RX4 TX4 4 2 := ⟨iu_X4, by decide, List.mem_of_getElem? (i := 193) (by decide +kernel), rfl⟩
theorem fl_X4_41 : gx_fl lw_tbl RX4 41 RX5 TX5 14 3 := ⟨iu_X5, by decide, List.mem_of_getElem? (i := 121) (by decide +kernel), rfl⟩
theorem fl_X4_18 : gx_fl lw_tbl RX4 18 RX4 TX4 4 3 := ⟨iu_X4, by decide, List.mem_of_getElem? (i := 198) (by decide +kernel), rfl⟩
theorem fl_X4_60 : gx_fl lw_tbl RX4 60 RX5 TX5 14 10 := ⟨iu_X5, by decide, List.mem_of_getElem? (i := 144) (by decide +kernel), rfl⟩
theorem fl_X4_26 : gx_fl lw_tbl RX4 26 RX5 TX5 14 1 := ⟨iu_X5, by decide, List.mem_of_getElem? (i := 107) (by decide +kernel), rfl⟩
theorem lk_X4_63 : gx_lk lw_tbl RX4 63 RX4 yX4_whatIs cX4_whatIs 3 ((Option.some Jvm.ClassFile.FieldType.int)) 2 := ⟨List.mem_of_getElem? (i := 470) (by decide +kernel), List.mem_of_getElem? (i := 471) (by decide +kernel), List.mem_of_getElem? (i := 472) (by decide +kernel), List.mem_of_getElem? (i := 77) (by decide +kernel), List.mem_of_getElem? (i := 473) (by decide +kernel), rfl, by decide +kernel, by decide +kernel, by decide +kernel⟩
theorem lk_X4_44 : gx_lk lw_tbl RX4 44 RX4 yX4_isOpen cX4_isOpen 3 ((Option.some Jvm.ClassFile.FieldType.boolean)) 1 := ⟨List.mem_of_getElem? (i := 474) (by decide +kernel), List.mem_of_getElem? (i := 459) (by decide +kernel), List.mem_of_getElem? (i := 460) (by decide +kernel), List.mem_of_getElem? (i := 77) (by decide +kernel), List.mem_of_getElem? (i := 461) (by decide +kernel), rfl, by decide +kernel, by decide +kernel, by decide +kernel⟩
theorem fl_X4_70 : gx_fl lw_tbl RX4 70 RX5 TX5 14 2 := ⟨iu_X5, by decide, List.mem_of_getElem? (i := 116) (by decide +kernel), rfl⟩
theorem lk_X4_67 : gx_lk lw_tbl RX4 67 RX4 yX4_choice cX4_choice 7 ((Option.some Jvm.ClassFile.FieldType.int)) 2 := ⟨List.mem_of_getElem? (i := 466) (by decide +kernel), List.mem_of_getElem? (i := 467) (by decide +kernel), List.mem_of_getElem? (i := 468) (by decide +kernel), List.mem_of_getElem? (i := 77) (by decide +kernel), List.mem_of_getElem? (i := 469) (by decide +kernel), rfl, by decide +kernel, by decide +kernel, by decide +kernel⟩
theorem fl_X4_73 : gx_fl lw_tbl RX4 73 RX5 TX5 14 8 := ⟨iu_X5, by decide, List.mem_of_getElem? (i := 138) (by decide +kernel), rfl⟩
theorem lk_X4_76 : gx_lk lw_tbl RX4 76 RX5 yX5_costTo cX5_costTo 3 ((Option.some Jvm.ClassFile.FieldType.int)) 2 := ⟨List.mem_of_getElem? (i := 518) (by decide +kernel), List.mem_of_getElem? (i := 519) (by decide +kernel), List.mem_of_getElem? (i := 520) (by decide +kernel), List.mem_of_getElem? (i := 76) (by decide +kernel), List.mem_of_getElem? (i := 521) (by decide +kernel), rfl, by decide +kernel, by decide +kernel, by decide +kernel⟩
theorem fl_X0_112 : gx_fl lw_tbl RX0 112 RX5 TX5 14 2 := ⟨iu_X5, by decide, List.mem_of_getElem? (i := 115) (by decide +kernel), rfl⟩
theorem fl_X0_26 : gx_fl lw_tbl RX0 26 RX0 TX0 13 6 := ⟨iu_X0, by decide, List.mem_of_getElem? (i := 224) (by decide +kernel), rfl⟩
theorem fl_X0_115 : gx_fl lw_tbl RX0 115 RX5 TX5 14 10 := ⟨iu_X5, by decide, List.mem_of_getElem? (i := 143) (by decide +kernel), rfl⟩
theorem fl_X0_29 : gx_fl lw_tbl RX0 29 RX0 TX0 13 7 := ⟨iu_X0, by decide, List.mem_of_getElem? (i := 225) (by decide +kernel), rfl⟩
theorem fl_X0_32 : gx_fl lw_tbl RX0 32 RX0 TX0 13 8 := ⟨iu_X0, by decide, List.mem_of_getElem? (i := 226) (by decide +kernel), rfl⟩
theorem lk_X0_118 : gx_lk lw_tbl RX0 118 RX4 yX4_whatIs cX4_whatIs 3 ((Option.some Jvm.ClassFile.FieldType.int)) 2 := ⟨List.mem_of_getElem? (i := 544) (by decide +kernel), List.mem_of_getElem? (i := 471) (by decide +kernel), List.mem_of_getElem? (i := 472) (by decide +kernel), List.mem_of_getElem? (i := 77) (by decide +kernel), List.mem_of_getElem? (i := 473) (by decide +kernel), rfl, by decide +kernel, by decide +kernel, by decide +kernel⟩
theorem lk_X0_121 : gx_lk lw_tbl RX0 121 RX4 yX4_isOpen cX4_isOpen 3 ((Option.some Jvm.ClassFile.FieldType.boolean)) 1 := ⟨List.mem_of_getElem? (i := 545) (by decide +kernel), List.mem_of_getElem? (i := 459) (by decide +kernel), List.mem_of_getElem? (i := 460) (by decide +kernel), List.mem_of_getElem? (i := 77) (by decide +kernel), List.mem_of_getElem? (i := 461) (by decide +kernel), rfl, by decide +kernel, by decide +kernel, by decide +kernel⟩
theorem fl_X0_141 : gx_fl lw_tbl RX0 141 RX5 TX5 14 13 := ⟨iu_X5, by decide, List.mem_of_getElem? (i := 152) (by decide +kernel), rfl⟩
theorem fl_X0_18 : gx_fl lw_tbl RX0 18 RX0 TX0 13 3 := ⟨iu_X0, by decide, List.mem_of_getElem? (i := 221) (by decide +kernel), rfl⟩
theorem lk_X0_138 : gx_lk lw_tbl RX0 138 RX0 yX0_highestFor cX0_highestFor 5 ((Option.some Jvm.ClassFile.FieldType.int)) 2 := ⟨List.mem_of_getElem? (i := 554) (by decide +kernel), List.mem_of_getElem? (i := 556) (by decide +kernel), List.mem_of_getElem? (i := 8) (by decide +kernel), List.mem_of_getElem? (i := 78) (by decide +kernel), List.mem_of_getElem? (i := 557) (by decide +kernel), rfl, by decide +kernel, by decide +kernel, by decide +kernel⟩
theorem fl_X0_85 : gx_fl lw_tbl RX0 85 RX0 TX0 13 11 := ⟨iu_X0, by decide, List.mem_of_getElem? (i := 229) (by decide +kernel), rfl⟩
theorem lk_X0_125 : gx_lk lw_tbl RX0 125 RX0 yX0_putPrice cX0_putPrice 6 ((Option.none : Option Jvm.ClassFile.FieldType)) 2 := ⟨List.mem_of_getElem? (i := 550) (by decide +kernel), List.mem_of_getElem? (i := 552) (by decide +kernel), List.mem_of_getElem? (i := 7) (by decide +kernel), List.mem_of_getElem? (i := 78) (by decide +kernel), List.mem_of_getElem? (i := 553) (by decide +kernel), rfl, by decide +kernel, by decide +kernel, by decide +kernel⟩
theorem fl_X0_129 : gx_fl lw_tbl RX0 129 RX5 TX5 14 8 := ⟨iu_X5, by decide, List.mem_of_getElem? (i := 137) (by decide +kernel), rfl⟩
theorem lk_X0_132 : gx_lk lw_tbl RX0 132 RX0 yX0_keepIfBetter cX0_keepIfBetter 3 ((Option.none : Option Jvm.ClassFile.FieldType)) 1 := ⟨List.mem_of_getElem? (i := 558) (by decide +kernel), List.mem_of_getElem? (i := 560) (by decide +kernel), List.mem_of_getElem? (i := 9) (by decide +kernel), List.mem_of_getElem? (i := 78) (by decide +kernel), List.mem_of_getElem? (i := 561) (by decide +kernel), rfl, by decide +kernel, by decide +kernel, by decide +kernel⟩
theorem fl_X0_35 : gx_fl lw_tbl RX0 35 RX0 TX0 13 9 := ⟨iu_X0, by decide, List.mem_of_getElem? (i := 227) (by decide +kernel), rfl⟩
theorem fl_X0_38 : gx_fl lw_tbl RX0 38 RX0 TX0 13 10 := ⟨iu_X0, by decide, List.mem_of_getElem? (i := 228) (by decide +kernel), rfl⟩
theorem lk_X0_144 : gx_lkS lw_tbl RX0 144 yJ9_min_7cf53 cJ9_min_7cf53 2 ((Option.some Jvm.ClassFile.FieldType.int)) 2 := ⟨List.mem_of_getElem? (i := 570) (by decide +kernel), List.mem_of_getElem? (i := 571) (by decide +kernel), List.mem_of_getElem? (i := 85) (by decide +kernel), List.mem_of_getElem? (i := 572) (by decide +kernel), by decide +kernel, by decide +kernel, by decide +kernel⟩
theorem lk_X0_135 : gx_lk lw_tbl RX0 135 RX0 yX0_tryLastPrice cX0_tryLastPrice 7 ((Option.none : Option Jvm.ClassFile.FieldType)) 1 := ⟨List.mem_of_getElem? (i := 566) (by decide +kernel), List.mem_of_getElem? (i := 568) (by decide +kernel), List.mem_of_getElem? (i := 11) (by decide +kernel), List.mem_of_getElem? (i := 78) (by decide +kernel), List.mem_of_getElem? (i := 569) (by decide +kernel), rfl, by decide +kernel, by decide +kernel, by decide +kernel⟩
theorem lk_X0_95 : gx_lk lw_tbl RX0 95 RX0 yX0_tryPrices cX0_tryPrices 3 ((Option.none : Option Jvm.ClassFile.FieldType)) 1 := ⟨List.mem_of_getElem? (i := 562) (by decide +kernel), List.mem_of_getElem? (i := 564) (by decide +kernel), List.mem_of_getElem? (i := 10) (by decide +kernel), List.mem_of_getElem? (i := 78) (by decide +kernel), List.mem_of_getElem? (i := 565) (by decide +kernel), rfl, by decide +kernel, by decide +kernel, by decide +kernel⟩
theorem lk_X0_75 : gx_lk lw_tbl RX0 75 RX0 yX0_listShops cX0_listShops 4 ((Option.none : Option Jvm.ClassFile.FieldType)) 2 := ⟨List.mem_of_getElem? (i := 533) (by decide +kernel), List.mem_of_getElem? (i := 535) (by decide +kernel), List.mem_of_getElem? (i := 4) (by decide +kernel), List.mem_of_getElem? (i := 78) (by decide +kernel), List.mem_of_getElem? (i := 536) (by decide +kernel), rfl, by decide +kernel, by decide +kernel, by decide +kernel⟩
theorem fl_X0_78 : gx_fl lw_tbl RX0 78 RX5 TX5 14 3 := ⟨iu_X5, by decide, List.mem_of_getElem? (i := 120) (by decide +kernel), rfl⟩
theorem fl_X0_71 : gx_fl lw_tbl RX0 71 RX0 TX0 13 12 := ⟨iu_X0, by decide, List.mem_of_getElem? (i := 231) (by decide +kernel), rfl⟩
theorem lk_X0_81 : gx_lk lw_tbl RX0 81 RX4 yX4_profitOf cX4_profitOf 5 ((Option.some Jvm.ClassFile.FieldType.int)) 1 := ⟨List.mem_of_getElem? (i := 538) (by decide +kernel), List.mem_of_getElem? (i := 515) (by decide +kernel), List.mem_of_getElem? (i := 516) (by decide +kernel), List.mem_of_getElem? (i := 77) (by decide +kernel), List.mem_of_getElem? (i := 517) (by decide +kernel), rfl, by decide +kernel, by decide +kernel, by decide +kernel⟩
theorem kX0_88 : Cond.constant RX0 88 (-1000000) ∈ lw_tbl := List.mem_of_getElem? (i := 539) (by decide +kernel)
theorem lk_X0_89 : gx_lk lw_tbl RX0 89 RX0 yX0_layOthers cX0_layOthers 6 ((Option.none : Option Jvm.ClassFile.FieldType)) 2 := ⟨List.mem_of_getElem? (i := 540) (by decide +kernel), List.mem_of_getElem? (i := 542) (by decide +kernel), List.mem_of_getElem? (i := 5) (by decide +kernel), List.mem_of_getElem? (i := 78) (by decide +kernel), List.mem_of_getElem? (i := 543) (by decide +kernel), rfl, by decide +kernel, by decide +kernel, by decide +kernel⟩
theorem lk_X0_92 : gx_lk lw_tbl RX0 92 RX0 yX0_tryOnePrice cX0_tryOnePrice 4 ((Option.none : Option Jvm.ClassFile.FieldType)) 0 := ⟨List.mem_of_getElem? (i := 546) (by decide +kernel), List.mem_of_getElem? (i := 548) (by decide +kernel), List.mem_of_getElem? (i := 6) (by decide +kernel), List.mem_of_getElem? (i := 78) (by decide +kernel), List.mem_of_getElem? (i := 549) (by decide +kernel), rfl, by decide +kernel, by decide +kernel, by decide +kernel⟩
theorem fl_X0_99 : gx_fl lw_tbl RX0 99 RX5 TX5 14 4 := ⟨iu_X5, by decide, List.mem_of_getElem? (i := 123) (by decide +kernel), rfl⟩
theorem fl_X0_67 : gx_fl lw_tbl RX0 67 RX4 TX4 4 3 := ⟨iu_X4, by decide, List.mem_of_getElem? (i := 199) (by decide +kernel), rfl⟩
theorem fl_X0_45 : gx_fl lw_tbl RX0 45 RX5 TX5 14 0 := ⟨iu_X5, by decide, List.mem_of_getElem? (i := 103) (by decide +kernel), rfl⟩
theorem lk_X0_51 : gx_lk lw_tbl RX0 51 RX0 yX0_look cX0_look 4 ((Option.none : Option Jvm.ClassFile.FieldType)) 2 := ⟨List.mem_of_getElem? (i := 597) (by decide +kernel), List.mem_of_getElem? (i := 530) (by decide +kernel), List.mem_of_getElem? (i := 531) (by decide +kernel), List.mem_of_getElem? (i := 78) (by decide +kernel), List.mem_of_getElem? (i := 532) (by decide +kernel), rfl, by decide +kernel, by decide +kernel, by decide +kernel⟩
theorem lk_X0_55 : gx_lk lw_tbl RX0 55 RX0 yX0_take cX0_take 5 ((Option.some Jvm.ClassFile.FieldType.int)) 2 := ⟨List.mem_of_getElem? (i := 598) (by decide +kernel), List.mem_of_getElem? (i := 582) (by decide +kernel), List.mem_of_getElem? (i := 583) (by decide +kernel), List.mem_of_getElem? (i := 78) (by decide +kernel), List.mem_of_getElem? (i := 584) (by decide +kernel), rfl, by decide +kernel, by decide +kernel, by decide +kernel⟩
theorem fl_X6_15 : gx_fl lw_tbl RX6 15 RX6 TX6 2 1 := ⟨iu_X6, by decide, List.mem_of_getElem? (i := 292) (by decide +kernel), rfl⟩
theorem fl_X6_9 : gx_fl lw_tbl RX6 9 RX6 TX6 2 0 := ⟨iu_X6, by decide, List.mem_of_getElem? (i := 290) (by decide +kernel), rfl⟩
theorem fl_X1_13 : gx_fl lw_tbl RX1 13 RX1 TX1 3 1 := ⟨iu_X1, by decide, List.mem_of_getElem? (i := 310) (by decide +kernel), rfl⟩
theorem fl_X1_9 : gx_fl lw_tbl RX1 9 RX1 TX1 3 0 := ⟨iu_X1, by decide, List.mem_of_getElem? (i := 309) (by decide +kernel), rfl⟩
theorem lk_X1_45 : gx_lkS lw_tbl RX1 45 yX6_isDigit cX6_isDigit 1 ((Option.some Jvm.ClassFile.FieldType.boolean)) 1 := ⟨List.mem_of_getElem? (i := 759) (by decide +kernel), List.mem_of_getElem? (i := 760) (by decide +kernel), List.mem_of_getElem? (i := 80) (by decide +kernel), List.mem_of_getElem? (i := 761) (by decide +kernel), by decide +kernel, by decide +kernel, by decide +kernel⟩
theorem fl_X1_36 : gx_fl lw_tbl RX1 36 RX1 TX1 3 2 := ⟨iu_X1, by decide, List.mem_of_getElem? (i := 311) (by decide +kernel), rfl⟩
theorem lk_X1_33 : gx_lk lw_tbl RX1 33 RX1 yX1_takesFactor cX1_takesFactor 2 ((Option.some Jvm.ClassFile.FieldType.boolean)) 1 := ⟨List.mem_of_getElem? (i := 751) (by decide +kernel), List.mem_of_getElem? (i := 753) (by decide +kernel), List.mem_of_getElem? (i := 19) (by decide +kernel), List.mem_of_getElem? (i := 81) (by decide +kernel), List.mem_of_getElem? (i := 754) (by decide +kernel), rfl, by decide +kernel, by decide +kernel, by decide +kernel⟩
theorem lk_X1_39 : gx_lk lw_tbl RX1 39 RX1 yX1_takesDigit cX1_takesDigit 2 ((Option.some Jvm.ClassFile.FieldType.boolean)) 1 := ⟨List.mem_of_getElem? (i := 755) (by decide +kernel), List.mem_of_getElem? (i := 757) (by decide +kernel), List.mem_of_getElem? (i := 20) (by decide +kernel), List.mem_of_getElem? (i := 81) (by decide +kernel), List.mem_of_getElem? (i := 758) (by decide +kernel), rfl, by decide +kernel, by decide +kernel, by decide +kernel⟩
theorem lk_X1_42 : gx_lk lw_tbl RX1 42 RX1 yX1_takesBehind cX1_takesBehind 2 ((Option.some Jvm.ClassFile.FieldType.boolean)) 1 := ⟨List.mem_of_getElem? (i := 762) (by decide +kernel), List.mem_of_getElem? (i := 764) (by decide +kernel), List.mem_of_getElem? (i := 21) (by decide +kernel), List.mem_of_getElem? (i := 81) (by decide +kernel), List.mem_of_getElem? (i := 765) (by decide +kernel), rfl, by decide +kernel, by decide +kernel, by decide +kernel⟩
theorem fl_X1_16 : gx_fl lw_tbl RX1 16 RX6 TX6 2 1 := ⟨iu_X6, by decide, List.mem_of_getElem? (i := 293) (by decide +kernel), rfl⟩
theorem lk_X1_21 : gx_lk lw_tbl RX1 21 RX6 yX6_at cX6_at 2 ((Option.some Jvm.ClassFile.FieldType.char)) 1 := ⟨List.mem_of_getElem? (i := 743) (by decide +kernel), List.mem_of_getElem? (i := 744) (by decide +kernel), List.mem_of_getElem? (i := 745) (by decide +kernel), List.mem_of_getElem? (i := 80) (by decide +kernel), List.mem_of_getElem? (i := 746) (by decide +kernel), rfl, by decide +kernel, by decide +kernel, by decide +kernel⟩
theorem lk_X1_25 : gx_lk lw_tbl RX1 25 RX1 yX1_takes cX1_takes 2 ((Option.some Jvm.ClassFile.FieldType.boolean)) 1 := ⟨List.mem_of_getElem? (i := 747) (by decide +kernel), List.mem_of_getElem? (i := 749) (by decide +kernel), List.mem_of_getElem? (i := 18) (by decide +kernel), List.mem_of_getElem? (i := 81) (by decide +kernel), List.mem_of_getElem? (i := 750) (by decide +kernel), rfl, by decide +kernel, by decide +kernel, by decide +kernel⟩
theorem lk_X1_29 : gx_lk lw_tbl RX1 29 RX1 yX1_firstFault cX1_firstFault 3 ((Option.some Jvm.ClassFile.FieldType.int)) 1 := ⟨List.mem_of_getElem? (i := 774) (by decide +kernel), List.mem_of_getElem? (i := 740) (by decide +kernel), List.mem_of_getElem? (i := 741) (by decide +kernel), List.mem_of_getElem? (i := 81) (by decide +kernel), List.mem_of_getElem? (i := 742) (by decide +kernel), rfl, by decide +kernel, by decide +kernel, by decide +kernel⟩
theorem fl_X2_28 : gx_fl lw_tbl RX2 28 RX2 TX2 5 2 := ⟨iu_X2, by decide, List.mem_of_getElem? (i := 270) (by decide +kernel), rfl⟩
theorem lk_X2_35 : gx_lk lw_tbl RX2 35 RX4 yX4_become cX4_become 3 ((Option.none : Option Jvm.ClassFile.FieldType)) 1 := ⟨List.mem_of_getElem? (i := 674) (by decide +kernel), List.mem_of_getElem? (i := 590) (by decide +kernel), List.mem_of_getElem? (i := 591) (by decide +kernel), List.mem_of_getElem? (i := 77) (by decide +kernel), List.mem_of_getElem? (i := 592) (by decide +kernel), rfl, by decide +kernel, by decide +kernel, by decide +kernel⟩
theorem fl_X2_19 : gx_fl lw_tbl RX2 19 RX2 TX2 5 1 := ⟨iu_X2, by decide, List.mem_of_getElem? (i := 269) (by decide +kernel), rfl⟩
theorem lk_X2_39 : gx_lk lw_tbl RX2 39 RX0 yX0_settle cX0_settle 5 ((Option.some Jvm.ClassFile.FieldType.int)) 1 := ⟨List.mem_of_getElem? (i := 675) (by decide +kernel), List.mem_of_getElem? (i := 594) (by decide +kernel), List.mem_of_getElem? (i := 595) (by decide +kernel), List.mem_of_getElem? (i := 78) (by decide +kernel), List.mem_of_getElem? (i := 596) (by decide +kernel), rfl, by decide +kernel, by decide +kernel, by decide +kernel⟩
theorem fl_X2_15 : gx_fl lw_tbl RX2 15 RX2 TX2 5 0 := ⟨iu_X2, by decide, List.mem_of_getElem? (i := 268) (by decide +kernel), rfl⟩
theorem fl_X2_45 : gx_fl lw_tbl RX2 45 RX5 TX5 14 2 := ⟨iu_X5, by decide, List.mem_of_getElem? (i := 112) (by decide +kernel), rfl⟩
theorem fl_X2_9 : gx_fl lw_tbl RX2 9 RX2 TX2 5 4 := ⟨iu_X2, by decide, List.mem_of_getElem? (i := 272) (by decide +kernel), rfl⟩
theorem lk_X2_51 : gx_lk lw_tbl RX2 51 RX4 yX4_spareOf cX4_spareOf 3 ((Option.some Jvm.ClassFile.FieldType.int)) 1 := ⟨List.mem_of_getElem? (i := 676) (by decide +kernel), List.mem_of_getElem? (i := 506) (by decide +kernel), List.mem_of_getElem? (i := 507) (by decide +kernel), List.mem_of_getElem? (i := 77) (by decide +kernel), List.mem_of_getElem? (i := 508) (by decide +kernel), rfl, by decide +kernel, by decide +kernel, by decide +kernel⟩
theorem fl_X2_32 : gx_fl lw_tbl RX2 32 RX2 TX2 5 3 := ⟨iu_X2, by decide, List.mem_of_getElem? (i := 271) (by decide +kernel), rfl⟩
theorem lk_X2_55 : gx_lk lw_tbl RX2 55 RX4 yX4_give cX4_give 4 ((Option.none : Option Jvm.ClassFile.FieldType)) 2 := ⟨List.mem_of_getElem? (i := 681) (by decide +kernel), List.mem_of_getElem? (i := 663) (by decide +kernel), List.mem_of_getElem? (i := 664) (by decide +kernel), List.mem_of_getElem? (i := 77) (by decide +kernel), List.mem_of_getElem? (i := 665) (by decide +kernel), rfl, by decide +kernel, by decide +kernel, by decide +kernel⟩
theorem lk_X2_59 : gx_lk lw_tbl RX2 59 RX2 yX2_dearerFor cX2_dearerFor 2 ((Option.some Jvm.ClassFile.FieldType.int)) 1 := ⟨List.mem_of_getElem? (i := 694) (by decide +kernel), List.mem_of_getElem? (i := 683) (by decide +kernel), List.mem_of_getElem? (i := 684) (by decide +kernel), List.mem_of_getElem? (i := 79) (by decide +kernel), List.mem_of_getElem? (i := 685) (by decide +kernel), rfl, by decide +kernel, by decide +kernel, by decide +kernel⟩
theorem lk_X2_62 : gx_lkS lw_tbl RX2 62 yJ9_max_7cf53 cJ9_max_7cf53 2 ((Option.some Jvm.ClassFile.FieldType.int)) 2 := ⟨List.mem_of_getElem? (i := 695) (by decide +kernel), List.mem_of_getElem? (i := 523) (by decide +kernel), List.mem_of_getElem? (i := 85) (by decide +kernel), List.mem_of_getElem? (i := 524) (by decide +kernel), by decide +kernel, by decide +kernel, by decide +kernel⟩
theorem fl_X2_68 : gx_fl lw_tbl RX2 68 RX5 TX5 14 8 := ⟨iu_X5, by decide, List.mem_of_getElem? (i := 136) (by decide +kernel), rfl⟩
theorem lk_X2_71 : gx_lk lw_tbl RX2 71 RX2 yX2_harmInAll cX2_harmInAll 3 ((Option.some Jvm.ClassFile.FieldType.int)) 0 := ⟨List.mem_of_getElem? (i := 718) (by decide +kernel), List.mem_of_getElem? (i := 691) (by decide +kernel), List.mem_of_getElem? (i := 692) (by decide +kernel), List.mem_of_getElem? (i := 79) (by decide +kernel), List.mem_of_getElem? (i := 693) (by decide +kernel), rfl, by decide +kernel, by decide +kernel, by decide +kernel⟩
theorem fl_X2_75 : gx_fl lw_tbl RX2 75 RX5 TX5 14 1 := ⟨iu_X5, by decide, List.mem_of_getElem? (i := 110) (by decide +kernel), rfl⟩
theorem fl_X2_78 : gx_fl lw_tbl RX2 78 RX4 TX4 4 2 := ⟨iu_X4, by decide, List.mem_of_getElem? (i := 197) (by decide +kernel), rfl⟩
theorem kX2_81 : Cond.constant RX2 81 1000000 ∈ lw_tbl := List.mem_of_getElem? (i := 709) (by decide +kernel)
theorem fl_X3_9 : gx_fl lw_tbl RX3 9 RX3 TX3 10 1 := ⟨iu_X3, by decide, List.mem_of_getElem? (i := 326) (by decide +kernel), rfl⟩
theorem fl_X3_25 : gx_fl lw_tbl RX3 25 RX3 TX3 10 0 := ⟨iu_X3, by decide, List.mem_of_getElem? (i := 325) (by decide +kernel), rfl⟩
theorem fl_X3_59 : gx_fl lw_tbl RX3 59 RX5 TX5 14 2 := ⟨iu_X5, by decide, List.mem_of_getElem? (i := 113) (by decide +kernel), rfl⟩
theorem lk_X3_62 : gx_lk lw_tbl RX3 62 RX4 yX4_choice cX4_choice 7 ((Option.some Jvm.ClassFile.FieldType.int)) 2 := ⟨List.mem_of_getElem? (i := 799) (by decide +kernel), List.mem_of_getElem? (i := 467) (by decide +kernel), List.mem_of_getElem? (i := 468) (by decide +kernel), List.mem_of_getElem? (i := 77) (by decide +kernel), List.mem_of_getElem? (i := 469) (by decide +kernel), rfl, by decide +kernel, by decide +kernel, by decide +kernel⟩
theorem fl_X3_67 : gx_fl lw_tbl RX3 67 RX4 TX4 4 2 := ⟨iu_X4, by decide, List.mem_of_getElem? (i := 194) (by decide +kernel), rfl⟩
theorem fl_X3_70 : gx_fl lw_tbl RX3 70 RX5 TX5 14 8 := ⟨iu_X5, by decide, List.mem_of_getElem? (i := 135) (by decide +kernel), rfl⟩
theorem fl_X3_73 : gx_fl lw_tbl RX3 73 RX5 TX5 14 1 := ⟨iu_X5, by decide, List.mem_of_getElem? (i := 108) (by decide +kernel), rfl⟩
theorem lk_X3_76 : gx_lk lw_tbl RX3 76 RX4 yX4_isOpen cX4_isOpen 3 ((Option.some Jvm.ClassFile.FieldType.boolean)) 1 := ⟨List.mem_of_getElem? (i := 807) (by decide +kernel), List.mem_of_getElem? (i := 459) (by decide +kernel), List.mem_of_getElem? (i := 460) (by decide +kernel), List.mem_of_getElem? (i := 77) (by decide +kernel), List.mem_of_getElem? (i := 461) (by decide +kernel), rfl, by decide +kernel, by decide +kernel, by decide +kernel⟩
theorem fl_X3_80 : gx_fl lw_tbl RX3 80 RX5 TX5 14 5 := ⟨iu_X5, by decide, List.mem_of_getElem? (i := 127) (by decide +kernel), rfl⟩
theorem lk_X3_83 : gx_lkS lw_tbl RX3 83 yJ9_abs_0f7a4 cJ9_abs_0f7a4 1 ((Option.some Jvm.ClassFile.FieldType.int)) 1 := ⟨List.mem_of_getElem? (i := 808) (by decide +kernel), List.mem_of_getElem? (i := 448) (by decide +kernel), List.mem_of_getElem? (i := 85) (by decide +kernel), List.mem_of_getElem? (i := 449) (by decide +kernel), by decide +kernel, by decide +kernel, by decide +kernel⟩
theorem lk_X3_89 : gx_lkS lw_tbl RX3 89 yJ9_min_7cf53 cJ9_min_7cf53 2 ((Option.some Jvm.ClassFile.FieldType.int)) 2 := ⟨List.mem_of_getElem? (i := 809) (by decide +kernel), List.mem_of_getElem? (i := 571) (by decide +kernel), List.mem_of_getElem? (i := 85) (by decide +kernel), List.mem_of_getElem? (i := 572) (by decide +kernel), by decide +kernel, by decide +kernel, by decide +kernel⟩
theorem lk_X3_29 : gx_lk lw_tbl RX3 29 RX3 yX3_countSold cX3_countSold 4 ((Option.none : Option Jvm.ClassFile.FieldType)) 1 := ⟨List.mem_of_getElem? (i := 795) (by decide +kernel), List.mem_of_getElem? (i := 797) (by decide +kernel), List.mem_of_getElem? (i := 24) (by decide +kernel), List.mem_of_getElem? (i := 82) (by decide +kernel), List.mem_of_getElem? (i := 798) (by decide +kernel), rfl, by decide +kernel, by decide +kernel, by decide +kernel⟩
theorem fl_X3_33 : gx_fl lw_tbl RX3 33 RX3 TX3 10 7 := ⟨iu_X3, by decide, List.mem_of_getElem? (i := 332) (by decide +kernel), rfl⟩
theorem fl_X3_37 : gx_fl lw_tbl RX3 37 RX5 TX5 14 0 := ⟨iu_X5, by decide, List.mem_of_getElem? (i := 104) (by decide +kernel), rfl⟩
theorem lk_X3_42 : gx_lkS lw_tbl RX3 42 yX3_hundredths cX3_hundredths 2 ((Option.some Jvm.ClassFile.FieldType.int)) 2 := ⟨List.mem_of_getElem? (i := 800) (by decide +kernel), List.mem_of_getElem? (i := 801) (by decide +kernel), List.mem_of_getElem? (i := 82) (by decide +kernel), List.mem_of_getElem? (i := 802) (by decide +kernel), by decide +kernel, by decide +kernel, by decide +kernel⟩
theorem fl_X3_46 : gx_fl lw_tbl RX3 46 RX3 TX3 10 6 := ⟨iu_X3, by decide, List.mem_of_getElem? (i := 331) (by decide +kernel), rfl⟩
theorem fl_X3_49 : gx_fl lw_tbl RX3 49 RX3 TX3 10 8 := ⟨iu_X3, by decide, List.mem_of_getElem? (i := 333) (by decide +kernel), rfl⟩
theorem lk_X3_52 : gx_lk lw_tbl RX3 52 RX3 yX3_leastDistance cX3_leastDistance 8 ((Option.some Jvm.ClassFile.FieldType.int)) 3 := ⟨List.mem_of_getElem? (i := 803) (by decide +kernel), List.mem_of_getElem? (i := 805) (by decide +kernel), List.mem_of_getElem? (i := 25) (by decide +kernel), List.mem_of_getElem? (i := 82) (by decide +kernel), List.mem_of_getElem? (i := 806) (by decide +kernel), rfl, by decide +kernel, by decide +kernel, by decide +kernel⟩
theorem fl_X3_56 : gx_fl lw_tbl RX3 56 RX3 TX3 10 9 := ⟨iu_X3, by decide, List.mem_of_getElem? (i := 334) (by decide +kernel), rfl⟩
theorem fl_X3_15 : gx_fl lw_tbl RX3 15 RX3 TX3 10 2 := ⟨iu_X3, by decide, List.mem_of_getElem? (i := 327) (by decide +kernel), rfl⟩
theorem fl_X3_92 : gx_fl lw_tbl RX3 92 RX3 TX3 10 5 := ⟨iu_X3, by decide, List.mem_of_getElem? (i := 330) (by decide +kernel), rfl⟩
theorem fl_X3_19 : gx_fl lw_tbl RX3 19 RX3 TX3 10 3 := ⟨iu_X3, by decide, List.mem_of_getElem? (i := 328) (by decide +kernel), rfl⟩
theorem fl_X3_22 : gx_fl lw_tbl RX3 22 RX3 TX3 10 4 := ⟨iu_X3, by decide, List.mem_of_getElem? (i := 329) (by decide +kernel), rfl⟩
theorem fl_X3_98 : gx_fl lw_tbl RX3 98 RX6 TX6 2 1 := ⟨iu_X6, by decide, List.mem_of_getElem? (i := 294) (by decide +kernel), rfl⟩
theorem lk_X3_111 : gx_lk lw_tbl RX3 111 RX6 yX6_at cX6_at 2 ((Option.some Jvm.ClassFile.FieldType.char)) 1 := ⟨List.mem_of_getElem? (i := 822) (by decide +kernel), List.mem_of_getElem? (i := 744) (by decide +kernel), List.mem_of_getElem? (i := 745) (by decide +kernel), List.mem_of_getElem? (i := 80) (by decide +kernel), List.mem_of_getElem? (i := 746) (by decide +kernel), rfl, by decide +kernel, by decide +kernel, by decide +kernel⟩
theorem lk_X3_123 : gx_lkS lw_tbl RX3 123 yX6_isDigit cX6_isDigit 1 ((Option.some Jvm.ClassFile.FieldType.boolean)) 1 := ⟨List.mem_of_getElem? (i := 834) (by decide +kernel), List.mem_of_getElem? (i := 760) (by decide +kernel), List.mem_of_getElem? (i := 80) (by decide +kernel), List.mem_of_getElem? (i := 761) (by decide +kernel), by decide +kernel, by decide +kernel, by decide +kernel⟩
theorem lk_X3_95 : gx_lk lw_tbl RX3 95 RX3 yX3_startTerms cX3_startTerms 1 ((Option.none : Option Jvm.ClassFile.FieldType)) 0 := ⟨List.mem_of_getElem? (i := 814) (by decide +kernel), List.mem_of_getElem? (i := 816) (by decide +kernel), List.mem_of_getElem? (i := 26) (by decide +kernel), List.mem_of_getElem? (i := 82) (by decide +kernel), List.mem_of_getElem? (i := 817) (by decide +kernel), rfl, by decide +kernel, by decide +kernel, by decide +kernel⟩
theorem lk_X3_107 : gx_lk lw_tbl RX3 107 RX3 yX3_termsHold cX3_termsHold 1 ((Option.some Jvm.ClassFile.FieldType.boolean)) 0 := ⟨List.mem_of_getElem? (i := 823) (by decide +kernel), List.mem_of_getElem? (i := 825) (by decide +kernel), List.mem_of_getElem? (i := 28) (by decide +kernel), List.mem_of_getElem? (i := 82) (by decide +kernel), List.mem_of_getElem? (i := 826) (by decide +kernel), rfl, by decide +kernel, by decide +kernel, by decide +kernel⟩
theorem lk_X3_115 : gx_lk lw_tbl RX3 115 RX3 yX3_takeFactor cX3_takeFactor 2 ((Option.none : Option Jvm.ClassFile.FieldType)) 1 := ⟨List.mem_of_getElem? (i := 827) (by decide +kernel), List.mem_of_getElem? (i := 829) (by decide +kernel), List.mem_of_getElem? (i := 29) (by decide +kernel), List.mem_of_getElem? (i := 82) (by decide +kernel), List.mem_of_getElem? (i := 830) (by decide +kernel), rfl, by decide +kernel, by decide +kernel, by decide +kernel⟩
theorem lk_X3_119 : gx_lkS lw_tbl RX3 119 yX3_comparisonHolds cX3_comparisonHolds 5 ((Option.some Jvm.ClassFile.FieldType.boolean)) 3 := ⟨List.mem_of_getElem? (i := 831) (by decide +kernel), List.mem_of_getElem? (i := 832) (by decide +kernel), List.mem_of_getElem? (i := 82) (by decide +kernel), List.mem_of_getElem? (i := 833) (by decide +kernel), by decide +kernel, by decide +kernel, by decide +kernel⟩
theorem lk_X3_103 : gx_lk lw_tbl RX3 103 RX3 yX3_readLetter cX3_readLetter 4 ((Option.none : Option Jvm.ClassFile.FieldType)) 2 := ⟨List.mem_of_getElem? (i := 818) (by decide +kernel), List.mem_of_getElem? (i := 820) (by decide +kernel), List.mem_of_getElem? (i := 27) (by decide +kernel), List.mem_of_getElem? (i := 82) (by decide +kernel), List.mem_of_getElem? (i := 821) (by decide +kernel), rfl, by decide +kernel, by decide +kernel, by decide +kernel⟩
theorem kJ6_265 : Cond.constant RJ6 265 1431655765 ∈ lw_tbl := List.mem_of_getElem? (i := 436) (by decide +kernel)
theorem kJ6_266 : Cond.constant RJ6 266 858993459 ∈ lw_tbl := List.mem_of_getElem? (i := 437) (by decide +kernel)
theorem kJ6_267 : Cond.constant RJ6 267 252645135 ∈ lw_tbl := List.mem_of_getElem? (i := 438) (by decide +kernel)
theorem lk_X4_32 : gx_lk lw_tbl RX4 32 RX4 yX4_setOf cX4_setOf 4 ((Option.some Jvm.ClassFile.FieldType.int)) 1 := ⟨List.mem_of_getElem? (i := 429) (by decide +kernel), List.mem_of_getElem? (i := 430) (by decide +kernel), List.mem_of_getElem? (i := 431) (by decide +kernel), List.mem_of_getElem? (i := 77) (by decide +kernel), List.mem_of_getElem? (i := 432) (by decide +kernel), rfl, by decide +kernel, by decide +kernel, by decide +kernel⟩
theorem lk_X4_36 : gx_lkS lw_tbl RX4 36 yJ6_bitCount_0f7a4 cJ6_bitCount_0f7a4 1 ((Option.some Jvm.ClassFile.FieldType.int)) 1 := ⟨List.mem_of_getElem? (i := 433) (by decide +kernel), List.mem_of_getElem? (i := 434) (by decide +kernel), List.mem_of_getElem? (i := 84) (by decide +kernel), List.mem_of_getElem? (i := 435) (by decide +kernel), by decide +kernel, by decide +kernel, by decide +kernel⟩
theorem fl_X4_48 : gx_fl lw_tbl RX4 48 RX5 TX5 14 5 := ⟨iu_X5, by decide, List.mem_of_getElem? (i := 128) (by decide +kernel), rfl⟩
theorem lk_X4_51 : gx_lkS lw_tbl RX4 51 yJ9_abs_0f7a4 cJ9_abs_0f7a4 1 ((Option.some Jvm.ClassFile.FieldType.int)) 1 := ⟨List.mem_of_getElem? (i := 641) (by decide +kernel), List.mem_of_getElem? (i := 448) (by decide +kernel), List.mem_of_getElem? (i := 85) (by decide +kernel), List.mem_of_getElem? (i := 449) (by decide +kernel), by decide +kernel, by decide +kernel, by decide +kernel⟩
theorem fl_X4_79 : gx_fl lw_tbl RX4 79 RX5 TX5 14 6 := ⟨iu_X5, by decide, List.mem_of_getElem? (i := 131) (by decide +kernel), rfl⟩
theorem fl_X5_47 : gx_fl lw_tbl RX5 47 RX5 TX5 14 0 := ⟨iu_X5, by decide, List.mem_of_getElem? (i := 102) (by decide +kernel), rfl⟩
theorem fl_X5_24 : gx_fl lw_tbl RX5 24 RX5 TX5 14 7 := ⟨iu_X5, by decide, List.mem_of_getElem? (i := 132) (by decide +kernel), rfl⟩
theorem fl_X5_18 : gx_fl lw_tbl RX5 18 RX5 TX5 14 5 := ⟨iu_X5, by decide, List.mem_of_getElem? (i := 125) (by decide +kernel), rfl⟩
theorem lk_X5_61 : gx_lkS lw_tbl RX5 61 yJ9_abs_0f7a4 cJ9_abs_0f7a4 1 ((Option.some Jvm.ClassFile.FieldType.int)) 1 := ⟨List.mem_of_getElem? (i := 447) (by decide +kernel), List.mem_of_getElem? (i := 448) (by decide +kernel), List.mem_of_getElem? (i := 85) (by decide +kernel), List.mem_of_getElem? (i := 449) (by decide +kernel), by decide +kernel, by decide +kernel, by decide +kernel⟩
theorem fl_X5_44 : gx_fl lw_tbl RX5 44 RX5 TX5 14 13 := ⟨iu_X5, by decide, List.mem_of_getElem? (i := 150) (by decide +kernel), rfl⟩
theorem fl_X5_30 : gx_fl lw_tbl RX5 30 RX5 TX5 14 9 := ⟨iu_X5, by decide, List.mem_of_getElem? (i := 140) (by decide +kernel), rfl⟩
theorem fl_X5_36 : gx_fl lw_tbl RX5 36 RX5 TX5 14 11 := ⟨iu_X5, by decide, List.mem_of_getElem? (i := 146) (by decide +kernel), rfl⟩
theorem fl_X5_39 : gx_fl lw_tbl RX5 39 RX5 TX5 14 12 := ⟨iu_X5, by decide, List.mem_of_getElem? (i := 148) (by decide +kernel), rfl⟩
theorem fl_X5_51 : gx_fl lw_tbl RX5 51 RX5 TX5 14 1 := ⟨iu_X5, by decide, List.mem_of_getElem? (i := 106) (by decide +kernel), rfl⟩
theorem fl_X5_54 : gx_fl lw_tbl RX5 54 RX5 TX5 14 2 := ⟨iu_X5, by decide, List.mem_of_getElem? (i := 114) (by decide +kernel), rfl⟩
theorem lk_X5_57 : gx_lk lw_tbl RX5 57 RX5 yX5_measure cX5_measure 4 ((Option.none : Option Jvm.ClassFile.FieldType)) 2 := ⟨List.mem_of_getElem? (i := 443) (by decide +kernel), List.mem_of_getElem? (i := 445) (by decide +kernel), List.mem_of_getElem? (i := 1) (by decide +kernel), List.mem_of_getElem? (i := 76) (by decide +kernel), List.mem_of_getElem? (i := 446) (by decide +kernel), rfl, by decide +kernel, by decide +kernel, by decide +kernel⟩
theorem fl_X5_27 : gx_fl lw_tbl RX5 27 RX5 TX5 14 8 := ⟨iu_X5, by decide, List.mem_of_getElem? (i := 134) (by decide +kernel), rfl⟩
theorem fl_X5_33 : gx_fl lw_tbl RX5 33 RX5 TX5 14 10 := ⟨iu_X5, by decide, List.mem_of_getElem? (i := 142) (by decide +kernel), rfl⟩
theorem lk_X7_72 : gx_lkS lw_tbl RX7 72 yX7_isNot cX7_isNot 3 ((Option.some Jvm.ClassFile.FieldType.boolean)) 3 := ⟨List.mem_of_getElem? (i := 406) (by decide +kernel), List.mem_of_getElem? (i := 407) (by decide +kernel), List.mem_of_getElem? (i := 75) (by decide +kernel), List.mem_of_getElem? (i := 408) (by decide +kernel), by decide +kernel, by decide +kernel, by decide +kernel⟩
theorem fl_X7_10 : gx_fl lw_tbl RX7 10 RX7 TX7 15 0 := ⟨iu_X7, by decide, List.mem_of_getElem? (i := 356) (by decide +kernel), rfl⟩
theorem lk_X7_76 : gx_lk lw_tbl RX7 76 RX5 yX5_addOwner cX5_addOwner 3 ((Option.some Jvm.ClassFile.FieldType.int)) 2 := ⟨List.mem_of_getElem? (i := 409) (by decide +kernel), List.mem_of_getElem? (i := 410) (by decide +kernel), List.mem_of_getElem? (i := 411) (by decide +kernel), List.mem_of_getElem? (i := 76) (by decide +kernel), List.mem_of_getElem? (i := 412) (by decide +kernel), rfl, by decide +kernel, by decide +kernel, by decide +kernel⟩
theorem fl_X7_159 : gx_fl lw_tbl RX7 159 RX5 TX5 14 0 := ⟨iu_X5, by decide, List.mem_of_getElem? (i := 105) (by decide +kernel), rfl⟩
theorem lk_X7_80 : gx_lk lw_tbl RX7 80 RX7 yX7_isNoOwner cX7_isNoOwner 2 ((Option.some Jvm.ClassFile.FieldType.boolean)) 1 := ⟨List.mem_of_getElem? (i := 417) (by decide +kernel), List.mem_of_getElem? (i := 419) (by decide +kernel), List.mem_of_getElem? (i := 0) (by decide +kernel), List.mem_of_getElem? (i := 75) (by decide +kernel), List.mem_of_getElem? (i := 420) (by decide +kernel), rfl, by decide +kernel, by decide +kernel, by decide +kernel⟩
theorem fl_X7_84 : gx_fl lw_tbl RX7 84 RX5 TX5 14 3 := ⟨iu_X5, by decide, List.mem_of_getElem? (i := 119) (by decide +kernel), rfl⟩
theorem fl_X7_21 : gx_fl lw_tbl RX7 21 RX7 TX7 15 1 := ⟨iu_X7, by decide, List.mem_of_getElem? (i := 357) (by decide +kernel), rfl⟩
theorem lk_X7_88 : gx_lk lw_tbl RX7 88 RX4 yX4_shopsOf cX4_shopsOf 2 ((Option.some Jvm.ClassFile.FieldType.int)) 1 := ⟨List.mem_of_getElem? (i := 425) (by decide +kernel), List.mem_of_getElem? (i := 426) (by decide +kernel), List.mem_of_getElem? (i := 427) (by decide +kernel), List.mem_of_getElem? (i := 77) (by decide +kernel), List.mem_of_getElem? (i := 428) (by decide +kernel), rfl, by decide +kernel, by decide +kernel, by decide +kernel⟩
theorem lk_X7_92 : gx_lk lw_tbl RX7 92 RX5 yX5_addShop cX5_addShop 4 ((Option.some Jvm.ClassFile.FieldType.int)) 2 := ⟨List.mem_of_getElem? (i := 439) (by decide +kernel), List.mem_of_getElem? (i := 440) (by decide +kernel), List.mem_of_getElem? (i := 441) (by decide +kernel), List.mem_of_getElem? (i := 76) (by decide +kernel), List.mem_of_getElem? (i := 442) (by decide +kernel), rfl, by decide +kernel, by decide +kernel, by decide +kernel⟩
theorem fl_X7_95 : gx_fl lw_tbl RX7 95 RX4 TX4 4 2 := ⟨iu_X4, by decide, List.mem_of_getElem? (i := 195) (by decide +kernel), rfl⟩
theorem fl_X7_98 : gx_fl lw_tbl RX7 98 RX4 TX4 4 1 := ⟨iu_X4, by decide, List.mem_of_getElem? (i := 192) (by decide +kernel), rfl⟩
theorem fl_X7_175 : gx_fl lw_tbl RX7 175 RX5 TX5 14 1 := ⟨iu_X5, by decide, List.mem_of_getElem? (i := 111) (by decide +kernel), rfl⟩
theorem lk_X7_101 : gx_lk lw_tbl RX7 101 RX7 yX7_isNoShop cX7_isNoShop 2 ((Option.some Jvm.ClassFile.FieldType.boolean)) 1 := ⟨List.mem_of_getElem? (i := 454) (by decide +kernel), List.mem_of_getElem? (i := 456) (by decide +kernel), List.mem_of_getElem? (i := 2) (by decide +kernel), List.mem_of_getElem? (i := 75) (by decide +kernel), List.mem_of_getElem? (i := 457) (by decide +kernel), rfl, by decide +kernel, by decide +kernel, by decide +kernel⟩
theorem fl_X7_104 : gx_fl lw_tbl RX7 104 RX5 TX5 14 5 := ⟨iu_X5, by decide, List.mem_of_getElem? (i := 126) (by decide +kernel), rfl⟩
theorem fl_X7_107 : gx_fl lw_tbl RX7 107 RX5 TX5 14 6 := ⟨iu_X5, by decide, List.mem_of_getElem? (i := 130) (by decide +kernel), rfl⟩
theorem lk_X7_110 : gx_lk lw_tbl RX7 110 RX4 yX4_isOpen cX4_isOpen 3 ((Option.some Jvm.ClassFile.FieldType.boolean)) 1 := ⟨List.mem_of_getElem? (i := 458) (by decide +kernel), List.mem_of_getElem? (i := 459) (by decide +kernel), List.mem_of_getElem? (i := 460) (by decide +kernel), List.mem_of_getElem? (i := 77) (by decide +kernel), List.mem_of_getElem? (i := 461) (by decide +kernel), rfl, by decide +kernel, by decide +kernel, by decide +kernel⟩
theorem lk_X7_113 : gx_lk lw_tbl RX7 113 RX4 yX4_soldBy cX4_soldBy 5 ((Option.some Jvm.ClassFile.FieldType.int)) 1 := ⟨List.mem_of_getElem? (i := 462) (by decide +kernel), List.mem_of_getElem? (i := 463) (by decide +kernel), List.mem_of_getElem? (i := 464) (by decide +kernel), List.mem_of_getElem? (i := 77) (by decide +kernel), List.mem_of_getElem? (i := 465) (by decide +kernel), rfl, by decide +kernel, by decide +kernel, by decide +kernel⟩
theorem lk_X7_116 : gx_lk lw_tbl RX7 116 RX5 yX5_addSort cX5_addSort 8 ((Option.some Jvm.ClassFile.FieldType.int)) 6 := ⟨List.mem_of_getElem? (i := 483) (by decide +kernel), List.mem_of_getElem? (i := 484) (by decide +kernel), List.mem_of_getElem? (i := 485) (by decide +kernel), List.mem_of_getElem? (i := 76) (by decide +kernel), List.mem_of_getElem? (i := 486) (by decide +kernel), rfl, by decide +kernel, by decide +kernel, by decide +kernel⟩
theorem fl_X7_202 : gx_fl lw_tbl RX7 202 RX5 TX5 14 2 := ⟨iu_X5, by decide, List.mem_of_getElem? (i := 117) (by decide +kernel), rfl⟩
theorem lk_X7_120 : gx_lk lw_tbl RX7 120 RX7 yX7_isNoSort cX7_isNoSort 2 ((Option.some Jvm.ClassFile.FieldType.boolean)) 1 := ⟨List.mem_of_getElem? (i := 491) (by decide +kernel), List.mem_of_getElem? (i := 493) (by decide +kernel), List.mem_of_getElem? (i := 3) (by decide +kernel), List.mem_of_getElem? (i := 75) (by decide +kernel), List.mem_of_getElem? (i := 494) (by decide +kernel), rfl, by decide +kernel, by decide +kernel, by decide +kernel⟩
theorem lk_X7_123 : gx_lk lw_tbl RX7 123 RX4 yX4_whatIs cX4_whatIs 3 ((Option.some Jvm.ClassFile.FieldType.int)) 2 := ⟨List.mem_of_getElem? (i := 495) (by decide +kernel), List.mem_of_getElem? (i := 471) (by decide +kernel), List.mem_of_getElem? (i := 472) (by decide +kernel), List.mem_of_getElem? (i := 77) (by decide +kernel), List.mem_of_getElem? (i := 473) (by decide +kernel), rfl, by decide +kernel, by decide +kernel, by decide +kernel⟩
theorem lk_X7_126 : gx_lk lw_tbl RX7 126 RX4 yX4_choice cX4_choice 7 ((Option.some Jvm.ClassFile.FieldType.int)) 2 := ⟨List.mem_of_getElem? (i := 500) (by decide +kernel), List.mem_of_getElem? (i := 467) (by decide +kernel), List.mem_of_getElem? (i := 468) (by decide +kernel), List.mem_of_getElem? (i := 77) (by decide +kernel), List.mem_of_getElem? (i := 469) (by decide +kernel), rfl, by decide +kernel, by decide +kernel, by decide +kernel⟩
theorem lk_X7_129 : gx_lk lw_tbl RX7 129 RX4 yX4_spareOf cX4_spareOf 3 ((Option.some Jvm.ClassFile.FieldType.int)) 1 := ⟨List.mem_of_getElem? (i := 505) (by decide +kernel), List.mem_of_getElem? (i := 506) (by decide +kernel), List.mem_of_getElem? (i := 507) (by decide +kernel), List.mem_of_getElem? (i := 77) (by decide +kernel), List.mem_of_getElem? (i := 508) (by decide +kernel), rfl, by decide +kernel, by decide +kernel, by decide +kernel⟩
theorem kX7_132 : Cond.constant RX7 132 (-1000001) ∈ lw_tbl := List.mem_of_getElem? (i := 513) (by decide +kernel)
theorem lk_X7_133 : gx_lk lw_tbl RX7 133 RX4 yX4_profitOf cX4_profitOf 5 ((Option.some Jvm.ClassFile.FieldType.int)) 1 := ⟨List.mem_of_getElem? (i := 514) (by decide +kernel), List.mem_of_getElem? (i := 515) (by decide +kernel), List.mem_of_getElem? (i := 516) (by decide +kernel), List.mem_of_getElem? (i := 77) (by decide +kernel), List.mem_of_getElem? (i := 517) (by decide +kernel), rfl, by decide +kernel, by decide +kernel, by decide +kernel⟩
theorem fl_X7_34 : gx_fl lw_tbl RX7 34 RX7 TX7 15 4 := ⟨iu_X7, by decide, List.mem_of_getElem? (i := 360) (by decide +kernel), rfl⟩
theorem lk_X7_136 : gx_lk lw_tbl RX7 136 RX0 yX0_look cX0_look 4 ((Option.none : Option Jvm.ClassFile.FieldType)) 2 := ⟨List.mem_of_getElem? (i := 529) (by decide +kernel), List.mem_of_getElem? (i := 530) (by decide +kernel), List.mem_of_getElem? (i := 531) (by decide +kernel), List.mem_of_getElem? (i := 78) (by decide +kernel), List.mem_of_getElem? (i := 532) (by decide +kernel), rfl, by decide +kernel, by decide +kernel, by decide +kernel⟩
theorem lk_X7_140 : gx_lk lw_tbl RX7 140 RX0 yX0_priceOf cX0_priceOf 3 ((Option.some Jvm.ClassFile.FieldType.int)) 1 := ⟨List.mem_of_getElem? (i := 573) (by decide +kernel), List.mem_of_getElem? (i := 574) (by decide +kernel), List.mem_of_getElem? (i := 575) (by decide +kernel), List.mem_of_getElem? (i := 78) (by decide +kernel), List.mem_of_getElem? (i := 576) (by decide +kernel), rfl, by decide +kernel, by decide +kernel, by decide +kernel⟩
theorem fl_X7_143 : gx_fl lw_tbl RX7 143 RX0 TX0 13 12 := ⟨iu_X0, by decide, List.mem_of_getElem? (i := 232) (by decide +kernel), rfl⟩
theorem lk_X7_147 : gx_lk lw_tbl RX7 147 RX0 yX0_take cX0_take 5 ((Option.some Jvm.ClassFile.FieldType.int)) 2 := ⟨List.mem_of_getElem? (i := 581) (by decide +kernel), List.mem_of_getElem? (i := 582) (by decide +kernel), List.mem_of_getElem? (i := 583) (by decide +kernel), List.mem_of_getElem? (i := 78) (by decide +kernel), List.mem_of_getElem? (i := 584) (by decide +kernel), rfl, by decide +kernel, by decide +kernel, by decide +kernel⟩
theorem fl_X7_25 : gx_fl lw_tbl RX7 25 RX7 TX7 15 2 := ⟨iu_X7, by decide, List.mem_of_getElem? (i := 358) (by decide +kernel), rfl⟩
theorem lk_X7_151 : gx_lk lw_tbl RX7 151 RX4 yX4_become cX4_become 3 ((Option.none : Option Jvm.ClassFile.FieldType)) 1 := ⟨List.mem_of_getElem? (i := 589) (by decide +kernel), List.mem_of_getElem? (i := 590) (by decide +kernel), List.mem_of_getElem? (i := 591) (by decide +kernel), List.mem_of_getElem? (i := 77) (by decide +kernel), List.mem_of_getElem? (i := 592) (by decide +kernel), rfl, by decide +kernel, by decide +kernel, by decide +kernel⟩
theorem lk_X7_155 : gx_lk lw_tbl RX7 155 RX0 yX0_settle cX0_settle 5 ((Option.some Jvm.ClassFile.FieldType.int)) 1 := ⟨List.mem_of_getElem? (i := 593) (by decide +kernel), List.mem_of_getElem? (i := 594) (by decide +kernel), List.mem_of_getElem? (i := 595) (by decide +kernel), List.mem_of_getElem? (i := 78) (by decide +kernel), List.mem_of_getElem? (i := 596) (by decide +kernel), rfl, by decide +kernel, by decide +kernel, by decide +kernel⟩
theorem fl_X7_166 : gx_fl lw_tbl RX7 166 RX0 TX0 13 11 := ⟨iu_X0, by decide, List.mem_of_getElem? (i := 230) (by decide +kernel), rfl⟩
theorem lk_X7_163 : gx_lk lw_tbl RX7 163 RX7 yX7_gainOf cX7_gainOf 2 ((Option.some Jvm.ClassFile.FieldType.int)) 1 := ⟨List.mem_of_getElem? (i := 603) (by decide +kernel), List.mem_of_getElem? (i := 605) (by decide +kernel), List.mem_of_getElem? (i := 12) (by decide +kernel), List.mem_of_getElem? (i := 75) (by decide +kernel), List.mem_of_getElem? (i := 606) (by decide +kernel), rfl, by decide +kernel, by decide +kernel, by decide +kernel⟩
theorem lk_X7_194 : gx_lkS lw_tbl RX7 194 yJ9_min_7cf53 cJ9_min_7cf53 2 ((Option.some Jvm.ClassFile.FieldType.int)) 2 := ⟨List.mem_of_getElem? (i := 628) (by decide +kernel), List.mem_of_getElem? (i := 571) (by decide +kernel), List.mem_of_getElem? (i := 85) (by decide +kernel), List.mem_of_getElem? (i := 572) (by decide +kernel), by decide +kernel, by decide +kernel, by decide +kernel⟩
theorem lk_X7_199 : gx_lk lw_tbl RX7 199 RX4 yX4_marginOf cX4_marginOf 5 ((Option.some Jvm.ClassFile.FieldType.int)) 1 := ⟨List.mem_of_getElem? (i := 629) (by decide +kernel), List.mem_of_getElem? (i := 630) (by decide +kernel), List.mem_of_getElem? (i := 631) (by decide +kernel), List.mem_of_getElem? (i := 77) (by decide +kernel), List.mem_of_getElem? (i := 632) (by decide +kernel), rfl, by decide +kernel, by decide +kernel, by decide +kernel⟩
theorem lk_X7_185 : gx_lk lw_tbl RX7 185 RX4 yX4_openShops cX4_openShops 3 ((Option.some Jvm.ClassFile.FieldType.int)) 0 := ⟨List.mem_of_getElem? (i := 619) (by decide +kernel), List.mem_of_getElem? (i := 620) (by decide +kernel), List.mem_of_getElem? (i := 621) (by decide +kernel), List.mem_of_getElem? (i := 77) (by decide +kernel), List.mem_of_getElem? (i := 622) (by decide +kernel), rfl, by decide +kernel, by decide +kernel, by decide +kernel⟩
theorem lk_X7_189 : gx_lkS lw_tbl RX7 189 yJ6_bitCount_0f7a4 cJ6_bitCount_0f7a4 1 ((Option.some Jvm.ClassFile.FieldType.int)) 1 := ⟨List.mem_of_getElem? (i := 623) (by decide +kernel), List.mem_of_getElem? (i := 434) (by decide +kernel), List.mem_of_getElem? (i := 84) (by decide +kernel), List.mem_of_getElem? (i := 435) (by decide +kernel), by decide +kernel, by decide +kernel, by decide +kernel⟩
theorem lk_X7_178 : gx_lk lw_tbl RX7 178 RX7 yX7_wouldPay cX7_wouldPay 4 ((Option.some Jvm.ClassFile.FieldType.boolean)) 2 := ⟨List.mem_of_getElem? (i := 624) (by decide +kernel), List.mem_of_getElem? (i := 626) (by decide +kernel), List.mem_of_getElem? (i := 14) (by decide +kernel), List.mem_of_getElem? (i := 75) (by decide +kernel), List.mem_of_getElem? (i := 627) (by decide +kernel), rfl, by decide +kernel, by decide +kernel, by decide +kernel⟩
theorem lk_X7_182 : gx_lk lw_tbl RX7 182 RX4 yX4_nearestOpen cX4_nearestOpen 7 ((Option.some Jvm.ClassFile.FieldType.int)) 2 := ⟨List.mem_of_getElem? (i := 637) (by decide +kernel), List.mem_of_getElem? (i := 638) (by decide +kernel), List.mem_of_getElem? (i := 639) (by decide +kernel), List.mem_of_getElem? (i := 77) (by decide +kernel), List.mem_of_getElem? (i := 640) (by decide +kernel), rfl, by decide +kernel, by decide +kernel, by decide +kernel⟩
theorem lk_X7_169 : gx_lk lw_tbl RX7 169 RX7 yX7_leastMarket cX7_leastMarket 7 ((Option.some Jvm.ClassFile.FieldType.int)) 2 := ⟨List.mem_of_getElem? (i := 615) (by decide +kernel), List.mem_of_getElem? (i := 617) (by decide +kernel), List.mem_of_getElem? (i := 13) (by decide +kernel), List.mem_of_getElem? (i := 75) (by decide +kernel), List.mem_of_getElem? (i := 618) (by decide +kernel), rfl, by decide +kernel, by decide +kernel, by decide +kernel⟩
theorem lk_X7_172 : gx_lk lw_tbl RX7 172 RX7 yX7_nearMarket cX7_nearMarket 6 ((Option.some Jvm.ClassFile.FieldType.int)) 2 := ⟨List.mem_of_getElem? (i := 633) (by decide +kernel), List.mem_of_getElem? (i := 635) (by decide +kernel), List.mem_of_getElem? (i := 15) (by decide +kernel), List.mem_of_getElem? (i := 75) (by decide +kernel), List.mem_of_getElem? (i := 636) (by decide +kernel), rfl, by decide +kernel, by decide +kernel, by decide +kernel⟩
theorem fl_X7_205 : gx_fl lw_tbl RX7 205 RX5 TX5 14 8 := ⟨iu_X5, by decide, List.mem_of_getElem? (i := 139) (by decide +kernel), rfl⟩
theorem lk_X7_208 : gx_lk lw_tbl RX7 208 RX7 yX7_areNotTwo cX7_areNotTwo 3 ((Option.some Jvm.ClassFile.FieldType.boolean)) 2 := ⟨List.mem_of_getElem? (i := 654) (by decide +kernel), List.mem_of_getElem? (i := 656) (by decide +kernel), List.mem_of_getElem? (i := 16) (by decide +kernel), List.mem_of_getElem? (i := 75) (by decide +kernel), List.mem_of_getElem? (i := 657) (by decide +kernel), rfl, by decide +kernel, by decide +kernel, by decide +kernel⟩
theorem lk_X7_211 : gx_lk lw_tbl RX7 211 RX7 yX7_areTooMany cX7_areTooMany 3 ((Option.some Jvm.ClassFile.FieldType.boolean)) 2 := ⟨List.mem_of_getElem? (i := 658) (by decide +kernel), List.mem_of_getElem? (i := 660) (by decide +kernel), List.mem_of_getElem? (i := 17) (by decide +kernel), List.mem_of_getElem? (i := 75) (by decide +kernel), List.mem_of_getElem? (i := 661) (by decide +kernel), rfl, by decide +kernel, by decide +kernel, by decide +kernel⟩
theorem lk_X7_214 : gx_lk lw_tbl RX7 214 RX4 yX4_give cX4_give 4 ((Option.none : Option Jvm.ClassFile.FieldType)) 2 := ⟨List.mem_of_getElem? (i := 662) (by decide +kernel), List.mem_of_getElem? (i := 663) (by decide +kernel), List.mem_of_getElem? (i := 664) (by decide +kernel), List.mem_of_getElem? (i := 77) (by decide +kernel), List.mem_of_getElem? (i := 665) (by decide +kernel), rfl, by decide +kernel, by decide +kernel, by decide +kernel⟩
theorem fl_X7_43 : gx_fl lw_tbl RX7 43 RX7 TX7 15 5 := ⟨iu_X7, by decide, List.mem_of_getElem? (i := 361) (by decide +kernel), rfl⟩
theorem lk_X7_218 : gx_lk lw_tbl RX7 218 RX2 yX2_restsBefore cX2_restsBefore 3 ((Option.some Jvm.ClassFile.FieldType.boolean)) 1 := ⟨List.mem_of_getElem? (i := 670) (by decide +kernel), List.mem_of_getElem? (i := 671) (by decide +kernel), List.mem_of_getElem? (i := 672) (by decide +kernel), List.mem_of_getElem? (i := 79) (by decide +kernel), List.mem_of_getElem? (i := 673) (by decide +kernel), rfl, by decide +kernel, by decide +kernel, by decide +kernel⟩
theorem lk_X7_222 : gx_lk lw_tbl RX7 222 RX2 yX2_roundsBehind cX2_roundsBehind 4 ((Option.some Jvm.ClassFile.FieldType.int)) 3 := ⟨List.mem_of_getElem? (i := 677) (by decide +kernel), List.mem_of_getElem? (i := 678) (by decide +kernel), List.mem_of_getElem? (i := 679) (by decide +kernel), List.mem_of_getElem? (i := 79) (by decide +kernel), List.mem_of_getElem? (i := 680) (by decide +kernel), rfl, by decide +kernel, by decide +kernel, by decide +kernel⟩
theorem lk_X7_226 : gx_lk lw_tbl RX7 226 RX2 yX2_dearerFor cX2_dearerFor 2 ((Option.some Jvm.ClassFile.FieldType.int)) 1 := ⟨List.mem_of_getElem? (i := 682) (by decide +kernel), List.mem_of_getElem? (i := 683) (by decide +kernel), List.mem_of_getElem? (i := 684) (by decide +kernel), List.mem_of_getElem? (i := 79) (by decide +kernel), List.mem_of_getElem? (i := 685) (by decide +kernel), rfl, by decide +kernel, by decide +kernel, by decide +kernel⟩
theorem lk_X7_229 : gx_lk lw_tbl RX7 229 RX2 yX2_harmInAll cX2_harmInAll 3 ((Option.some Jvm.ClassFile.FieldType.int)) 0 := ⟨List.mem_of_getElem? (i := 690) (by decide +kernel), List.mem_of_getElem? (i := 691) (by decide +kernel), List.mem_of_getElem? (i := 692) (by decide +kernel), List.mem_of_getElem? (i := 79) (by decide +kernel), List.mem_of_getElem? (i := 693) (by decide +kernel), rfl, by decide +kernel, by decide +kernel, by decide +kernel⟩
theorem lk_X7_232 : gx_lk lw_tbl RX7 232 RX2 yX2_sortsHarmed cX2_sortsHarmed 3 ((Option.some Jvm.ClassFile.FieldType.int)) 0 := ⟨List.mem_of_getElem? (i := 696) (by decide +kernel), List.mem_of_getElem? (i := 697) (by decide +kernel), List.mem_of_getElem? (i := 698) (by decide +kernel), List.mem_of_getElem? (i := 79) (by decide +kernel), List.mem_of_getElem? (i := 699) (by decide +kernel), rfl, by decide +kernel, by decide +kernel, by decide +kernel⟩
theorem lk_X7_235 : gx_lk lw_tbl RX7 235 RX4 yX4_setOf cX4_setOf 4 ((Option.some Jvm.ClassFile.FieldType.int)) 1 := ⟨List.mem_of_getElem? (i := 704) (by decide +kernel), List.mem_of_getElem? (i := 430) (by decide +kernel), List.mem_of_getElem? (i := 431) (by decide +kernel), List.mem_of_getElem? (i := 77) (by decide +kernel), List.mem_of_getElem? (i := 432) (by decide +kernel), rfl, by decide +kernel, by decide +kernel, by decide +kernel⟩
theorem lk_X7_238 : gx_lk lw_tbl RX7 238 RX2 yX2_dearestWhenSold cX2_dearestWhenSold 8 ((Option.some Jvm.ClassFile.FieldType.int)) 5 := ⟨List.mem_of_getElem? (i := 705) (by decide +kernel), List.mem_of_getElem? (i := 706) (by decide +kernel), List.mem_of_getElem? (i := 707) (by decide +kernel), List.mem_of_getElem? (i := 79) (by decide +kernel), List.mem_of_getElem? (i := 708) (by decide +kernel), rfl, by decide +kernel, by decide +kernel, by decide +kernel⟩
theorem lk_X7_242 : gx_lk lw_tbl RX7 242 RX2 yX2_harmOf cX2_harmOf 4 ((Option.some Jvm.ClassFile.FieldType.int)) 3 := ⟨List.mem_of_getElem? (i := 714) (by decide +kernel), List.mem_of_getElem? (i := 715) (by decide +kernel), List.mem_of_getElem? (i := 716) (by decide +kernel), List.mem_of_getElem? (i := 79) (by decide +kernel), List.mem_of_getElem? (i := 717) (by decide +kernel), rfl, by decide +kernel, by decide +kernel, by decide +kernel⟩
theorem kX7_256 : Cond.constantLong RX7 256 255 ∈ lw_tbl := List.mem_of_getElem? (i := 726) (by decide +kernel)
theorem lk_X7_245 : gx_lkS lw_tbl RX7 245 yX7_codeAt cX7_codeAt 3 ((Option.some Jvm.ClassFile.FieldType.int)) 2 := ⟨List.mem_of_getElem? (i := 723) (by decide +kernel), List.mem_of_getElem? (i := 724) (by decide +kernel), List.mem_of_getElem? (i := 75) (by decide +kernel), List.mem_of_getElem? (i := 725) (by decide +kernel), by decide +kernel, by decide +kernel, by decide +kernel⟩
theorem fl_X7_50 : gx_fl lw_tbl RX7 50 RX7 TX7 15 6 := ⟨iu_X7, by decide, List.mem_of_getElem? (i := 362) (by decide +kernel), rfl⟩
theorem fl_X7_249 : gx_fl lw_tbl RX7 249 RX6 TX6 2 1 := ⟨iu_X6, by decide, List.mem_of_getElem? (i := 295) (by decide +kernel), rfl⟩
theorem lk_X7_252 : gx_lk lw_tbl RX7 252 RX6 yX6_append cX6_append 2 ((Option.none : Option Jvm.ClassFile.FieldType)) 1 := ⟨List.mem_of_getElem? (i := 727) (by decide +kernel), List.mem_of_getElem? (i := 728) (by decide +kernel), List.mem_of_getElem? (i := 729) (by decide +kernel), List.mem_of_getElem? (i := 80) (by decide +kernel), List.mem_of_getElem? (i := 730) (by decide +kernel), rfl, by decide +kernel, by decide +kernel, by decide +kernel⟩
theorem fl_X7_61 : gx_fl lw_tbl RX7 61 RX7 TX7 15 8 := ⟨iu_X7, by decide, List.mem_of_getElem? (i := 364) (by decide +kernel), rfl⟩
theorem lk_X7_258 : gx_lk lw_tbl RX7 258 RX1 yX1_firstFault cX1_firstFault 3 ((Option.some Jvm.ClassFile.FieldType.int)) 1 := ⟨List.mem_of_getElem? (i := 739) (by decide +kernel), List.mem_of_getElem? (i := 740) (by decide +kernel), List.mem_of_getElem? (i := 741) (by decide +kernel), List.mem_of_getElem? (i := 81) (by decide +kernel), List.mem_of_getElem? (i := 742) (by decide +kernel), rfl, by decide +kernel, by decide +kernel, by decide +kernel⟩
theorem lk_X7_262 : gx_lk lw_tbl RX7 262 RX1 yX1_isTest cX1_isTest 2 ((Option.some Jvm.ClassFile.FieldType.boolean)) 1 := ⟨List.mem_of_getElem? (i := 770) (by decide +kernel), List.mem_of_getElem? (i := 771) (by decide +kernel), List.mem_of_getElem? (i := 772) (by decide +kernel), List.mem_of_getElem? (i := 81) (by decide +kernel), List.mem_of_getElem? (i := 773) (by decide +kernel), rfl, by decide +kernel, by decide +kernel, by decide +kernel⟩
theorem fl_X7_266 : gx_fl lw_tbl RX7 266 RX7 TX7 15 10 := ⟨iu_X7, by decide, List.mem_of_getElem? (i := 366) (by decide +kernel), rfl⟩
theorem fl_X7_54 : gx_fl lw_tbl RX7 54 RX7 TX7 15 7 := ⟨iu_X7, by decide, List.mem_of_getElem? (i := 363) (by decide +kernel), rfl⟩
theorem lk_X7_269 : gx_lk lw_tbl RX7 269 RX6 yX6_become cX6_become 3 ((Option.none : Option Jvm.ClassFile.FieldType)) 1 := ⟨List.mem_of_getElem? (i := 775) (by decide +kernel), List.mem_of_getElem? (i := 776) (by decide +kernel), List.mem_of_getElem? (i := 777) (by decide +kernel), List.mem_of_getElem? (i := 80) (by decide +kernel), List.mem_of_getElem? (i := 778) (by decide +kernel), rfl, by decide +kernel, by decide +kernel, by decide +kernel⟩
theorem fl_X7_68 : gx_fl lw_tbl RX7 68 RX7 TX7 15 9 := ⟨iu_X7, by decide, List.mem_of_getElem? (i := 365) (by decide +kernel), rfl⟩
theorem lk_X7_278 : gx_lk lw_tbl RX7 278 RX3 yX3_weigh cX3_weigh 6 ((Option.none : Option Jvm.ClassFile.FieldType)) 3 := ⟨List.mem_of_getElem? (i := 791) (by decide +kernel), List.mem_of_getElem? (i := 792) (by decide +kernel), List.mem_of_getElem? (i := 793) (by decide +kernel), List.mem_of_getElem? (i := 82) (by decide +kernel), List.mem_of_getElem? (i := 794) (by decide +kernel), rfl, by decide +kernel, by decide +kernel, by decide +kernel⟩
theorem lk_X7_282 : gx_lk lw_tbl RX7 282 RX3 yX3_holds cX3_holds 3 ((Option.some Jvm.ClassFile.FieldType.boolean)) 1 := ⟨List.mem_of_getElem? (i := 810) (by decide +kernel), List.mem_of_getElem? (i := 811) (by decide +kernel), List.mem_of_getElem? (i := 812) (by decide +kernel), List.mem_of_getElem? (i := 82) (by decide +kernel), List.mem_of_getElem? (i := 813) (by decide +kernel), rfl, by decide +kernel, by decide +kernel, by decide +kernel⟩
theorem lk_X7_272 : gx_lk lw_tbl RX7 272 RX7 yX7_isNoTest cX7_isNoTest 2 ((Option.some Jvm.ClassFile.FieldType.boolean)) 1 := ⟨List.mem_of_getElem? (i := 783) (by decide +kernel), List.mem_of_getElem? (i := 785) (by decide +kernel), List.mem_of_getElem? (i := 22) (by decide +kernel), List.mem_of_getElem? (i := 75) (by decide +kernel), List.mem_of_getElem? (i := 786) (by decide +kernel), rfl, by decide +kernel, by decide +kernel, by decide +kernel⟩
theorem lk_X7_275 : gx_lk lw_tbl RX7 275 RX7 yX7_isBarred cX7_isBarred 4 ((Option.some Jvm.ClassFile.FieldType.boolean)) 3 := ⟨List.mem_of_getElem? (i := 787) (by decide +kernel), List.mem_of_getElem? (i := 789) (by decide +kernel), List.mem_of_getElem? (i := 23) (by decide +kernel), List.mem_of_getElem? (i := 75) (by decide +kernel), List.mem_of_getElem? (i := 790) (by decide +kernel), rfl, by decide +kernel, by decide +kernel, by decide +kernel⟩
theorem fl_X7_285 : gx_fl lw_tbl RX7 285 RX7 TX7 15 11 := ⟨iu_X7, by decide, List.mem_of_getElem? (i := 367) (by decide +kernel), rfl⟩
theorem lk_X7_288 : gx_lkS lw_tbl RX7 288 yX7_isWrong cX7_isWrong 3 ((Option.some Jvm.ClassFile.FieldType.boolean)) 3 := ⟨List.mem_of_getElem? (i := 839) (by decide +kernel), List.mem_of_getElem? (i := 840) (by decide +kernel), List.mem_of_getElem? (i := 75) (by decide +kernel), List.mem_of_getElem? (i := 841) (by decide +kernel), by decide +kernel, by decide +kernel, by decide +kernel⟩
theorem fl_X7_28 : gx_fl lw_tbl RX7 28 RX7 TX7 15 3 := ⟨iu_X7, by decide, List.mem_of_getElem? (i := 359) (by decide +kernel), rfl⟩
theorem fl_X7_292 : gx_fl lw_tbl RX7 292 RX7 TX7 15 12 := ⟨iu_X7, by decide, List.mem_of_getElem? (i := 368) (by decide +kernel), rfl⟩
theorem fl_X7_295 : gx_fl lw_tbl RX7 295 RX7 TX7 15 13 := ⟨iu_X7, by decide, List.mem_of_getElem? (i := 369) (by decide +kernel), rfl⟩
theorem fl_X7_298 : gx_fl lw_tbl RX7 298 RX7 TX7 15 14 := ⟨iu_X7, by decide, List.mem_of_getElem? (i := 370) (by decide +kernel), rfl⟩
theorem fl_X7_301 : gx_fl lw_tbl RX7 301 RX4 TX4 4 3 := ⟨iu_X4, by decide, List.mem_of_getElem? (i := 200) (by decide +kernel), rfl⟩
theorem kX7_328 : Cond.constantLong RX7 328 31 ∈ lw_tbl := List.mem_of_getElem? (i := 866) (by decide +kernel)
theorem lk_X7_321 : gx_lkS lw_tbl RX7 321 yX7_mix cX7_mix 4 ((Option.some Jvm.ClassFile.FieldType.long)) 2 := ⟨List.mem_of_getElem? (i := 863) (by decide +kernel), List.mem_of_getElem? (i := 864) (by decide +kernel), List.mem_of_getElem? (i := 75) (by decide +kernel), List.mem_of_getElem? (i := 865) (by decide +kernel), by decide +kernel, by decide +kernel, by decide +kernel⟩
theorem fl_X7_330 : gx_fl lw_tbl RX7 330 RX5 TX5 14 4 := ⟨iu_X5, by decide, List.mem_of_getElem? (i := 124) (by decide +kernel), rfl⟩
theorem lk_X7_333 : gx_lk lw_tbl RX7 333 RX7 yX7_about cX7_about 3 ((Option.some Jvm.ClassFile.FieldType.int)) 2 := ⟨List.mem_of_getElem? (i := 867) (by decide +kernel), List.mem_of_getElem? (i := 451) (by decide +kernel), List.mem_of_getElem? (i := 452) (by decide +kernel), List.mem_of_getElem? (i := 75) (by decide +kernel), List.mem_of_getElem? (i := 453) (by decide +kernel), rfl, by decide +kernel, by decide +kernel, by decide +kernel⟩
theorem fl_X7_336 : gx_fl lw_tbl RX7 336 RX5 TX5 14 7 := ⟨iu_X5, by decide, List.mem_of_getElem? (i := 133) (by decide +kernel), rfl⟩
theorem fl_X7_339 : gx_fl lw_tbl RX7 339 RX5 TX5 14 9 := ⟨iu_X5, by decide, List.mem_of_getElem? (i := 141) (by decide +kernel), rfl⟩
theorem fl_X7_342 : gx_fl lw_tbl RX7 342 RX5 TX5 14 10 := ⟨iu_X5, by decide, List.mem_of_getElem? (i := 145) (by decide +kernel), rfl⟩
theorem fl_X7_345 : gx_fl lw_tbl RX7 345 RX5 TX5 14 11 := ⟨iu_X5, by decide, List.mem_of_getElem? (i := 147) (by decide +kernel), rfl⟩
theorem fl_X7_348 : gx_fl lw_tbl RX7 348 RX5 TX5 14 12 := ⟨iu_X5, by decide, List.mem_of_getElem? (i := 149) (by decide +kernel), rfl⟩
theorem kX7_305 : Cond.constantLong RX7 305 373 ∈ lw_tbl := List.mem_of_getElem? (i := 858) (by decide +kernel)
theorem lk_X7_307 : gx_lk lw_tbl RX7 307 RX7 yX7_mixStreet cX7_mixStreet 7 ((Option.some Jvm.ClassFile.FieldType.long)) 1 := ⟨List.mem_of_getElem? (i := 859) (by decide +kernel), List.mem_of_getElem? (i := 861) (by decide +kernel), List.mem_of_getElem? (i := 30) (by decide +kernel), List.mem_of_getElem? (i := 75) (by decide +kernel), List.mem_of_getElem? (i := 862) (by decide +kernel), rfl, by decide +kernel, by decide +kernel, by decide +kernel⟩
theorem lk_X7_311 : gx_lk lw_tbl RX7 311 RX7 yX7_mixSorts cX7_mixSorts 6 ((Option.some Jvm.ClassFile.FieldType.long)) 1 := ⟨List.mem_of_getElem? (i := 868) (by decide +kernel), List.mem_of_getElem? (i := 870) (by decide +kernel), List.mem_of_getElem? (i := 31) (by decide +kernel), List.mem_of_getElem? (i := 75) (by decide +kernel), List.mem_of_getElem? (i := 871) (by decide +kernel), rfl, by decide +kernel, by decide +kernel, by decide +kernel⟩
theorem lk_X7_314 : gx_lk lw_tbl RX7 314 RX7 yX7_mixTests cX7_mixTests 8 ((Option.some Jvm.ClassFile.FieldType.long)) 1 := ⟨List.mem_of_getElem? (i := 872) (by decide +kernel), List.mem_of_getElem? (i := 874) (by decide +kernel), List.mem_of_getElem? (i := 32) (by decide +kernel), List.mem_of_getElem? (i := 75) (by decide +kernel), List.mem_of_getElem? (i := 875) (by decide +kernel), rfl, by decide +kernel, by decide +kernel, by decide +kernel⟩
theorem fl_X7_317 : gx_fl lw_tbl RX7 317 RX6 TX6 2 0 := ⟨iu_X6, by decide, List.mem_of_getElem? (i := 291) (by decide +kernel), rfl⟩
theorem lk_X7_325 : gx_lk lw_tbl RX7 325 RX7 yX7_count cX7_count 2 ((Option.some Jvm.ClassFile.FieldType.int)) 1 := ⟨List.mem_of_getElem? (i := 876) (by decide +kernel), List.mem_of_getElem? (i := 851) (by decide +kernel), List.mem_of_getElem? (i := 852) (by decide +kernel), List.mem_of_getElem? (i := 75) (by decide +kernel), List.mem_of_getElem? (i := 853) (by decide +kernel), rfl, by decide +kernel, by decide +kernel, by decide +kernel⟩
theorem fl_X8_91 : gx_fl lw_tbl RX8 91 RX8 TX8 42 0 := ⟨iu_X8, by decide, List.mem_of_getElem? (i := 883) (by decide +kernel), rfl⟩
theorem lk_X8_94 : gx_lkS lw_tbl RX8 94 yX8_within cX8_within 3 ((Option.some Jvm.ClassFile.FieldType.boolean)) 3 := ⟨List.mem_of_getElem? (i := 1015) (by decide +kernel), List.mem_of_getElem? (i := 1016) (by decide +kernel), List.mem_of_getElem? (i := 83) (by decide +kernel), List.mem_of_getElem? (i := 1017) (by decide +kernel), by decide +kernel, by decide +kernel, by decide +kernel⟩
theorem fl_X8_98 : gx_fl lw_tbl RX8 98 RX8 TX8 42 4 := ⟨iu_X8, by decide, List.mem_of_getElem? (i := 887) (by decide +kernel), rfl⟩
theorem fl_X8_101 : gx_fl lw_tbl RX8 101 RX8 TX8 42 9 := ⟨iu_X8, by decide, List.mem_of_getElem? (i := 892) (by decide +kernel), rfl⟩
theorem fl_X8_7 : gx_fl lw_tbl RX8 7 RX8 TX8 42 1 := ⟨iu_X8, by decide, List.mem_of_getElem? (i := 884) (by decide +kernel), rfl⟩
theorem fl_X8_13 : gx_fl lw_tbl RX8 13 RX8 TX8 42 2 := ⟨iu_X8, by decide, List.mem_of_getElem? (i := 885) (by decide +kernel), rfl⟩
theorem fl_X8_16 : gx_fl lw_tbl RX8 16 RX8 TX8 42 3 := ⟨iu_X8, by decide, List.mem_of_getElem? (i := 886) (by decide +kernel), rfl⟩
theorem lk_X8_104 : gx_lk lw_tbl RX8 104 RX8 yX8_isOwner cX8_isOwner 2 ((Option.some Jvm.ClassFile.FieldType.boolean)) 1 := ⟨List.mem_of_getElem? (i := 1022) (by decide +kernel), List.mem_of_getElem? (i := 1024) (by decide +kernel), List.mem_of_getElem? (i := 33) (by decide +kernel), List.mem_of_getElem? (i := 83) (by decide +kernel), List.mem_of_getElem? (i := 1025) (by decide +kernel), rfl, by decide +kernel, by decide +kernel, by decide +kernel⟩
theorem fl_X8_20 : gx_fl lw_tbl RX8 20 RX8 TX8 42 5 := ⟨iu_X8, by decide, List.mem_of_getElem? (i := 888) (by decide +kernel), rfl⟩
theorem lk_X8_108 : gx_lk lw_tbl RX8 108 RX8 yX8_shopsOf cX8_shopsOf 4 ((Option.some Jvm.ClassFile.FieldType.int)) 1 := ⟨List.mem_of_getElem? (i := 1030) (by decide +kernel), List.mem_of_getElem? (i := 1032) (by decide +kernel), List.mem_of_getElem? (i := 34) (by decide +kernel), List.mem_of_getElem? (i := 83) (by decide +kernel), List.mem_of_getElem? (i := 1033) (by decide +kernel), rfl, by decide +kernel, by decide +kernel, by decide +kernel⟩
theorem fl_X8_23 : gx_fl lw_tbl RX8 23 RX8 TX8 42 6 := ⟨iu_X8, by decide, List.mem_of_getElem? (i := 889) (by decide +kernel), rfl⟩
theorem fl_X8_26 : gx_fl lw_tbl RX8 26 RX8 TX8 42 7 := ⟨iu_X8, by decide, List.mem_of_getElem? (i := 890) (by decide +kernel), rfl⟩
theorem fl_X8_29 : gx_fl lw_tbl RX8 29 RX8 TX8 42 8 := ⟨iu_X8, by decide, List.mem_of_getElem? (i := 891) (by decide +kernel), rfl⟩
theorem fl_X8_54 : gx_fl lw_tbl RX8 54 RX8 TX8 42 23 := ⟨iu_X8, by decide, List.mem_of_getElem? (i := 906) (by decide +kernel), rfl⟩
theorem fl_X8_32 : gx_fl lw_tbl RX8 32 RX8 TX8 42 10 := ⟨iu_X8, by decide, List.mem_of_getElem? (i := 893) (by decide +kernel), rfl⟩
theorem lk_X8_112 : gx_lk lw_tbl RX8 112 RX8 yX8_told cX8_told 3 ((Option.some Jvm.ClassFile.FieldType.int)) 2 := ⟨List.mem_of_getElem? (i := 1062) (by decide +kernel), List.mem_of_getElem? (i := 1064) (by decide +kernel), List.mem_of_getElem? (i := 41) (by decide +kernel), List.mem_of_getElem? (i := 83) (by decide +kernel), List.mem_of_getElem? (i := 1065) (by decide +kernel), rfl, by decide +kernel, by decide +kernel, by decide +kernel⟩
theorem lk_X8_116 : gx_lkS lw_tbl RX8 116 yX8_size cX8_size 1 ((Option.some Jvm.ClassFile.FieldType.int)) 1 := ⟨List.mem_of_getElem? (i := 1066) (by decide +kernel), List.mem_of_getElem? (i := 1067) (by decide +kernel), List.mem_of_getElem? (i := 83) (by decide +kernel), List.mem_of_getElem? (i := 1068) (by decide +kernel), by decide +kernel, by decide +kernel, by decide +kernel⟩
theorem lk_X8_119 : gx_lk lw_tbl RX8 119 RX8 yX8_isOpen cX8_isOpen 2 ((Option.some Jvm.ClassFile.FieldType.boolean)) 1 := ⟨List.mem_of_getElem? (i := 1046) (by decide +kernel), List.mem_of_getElem? (i := 1048) (by decide +kernel), List.mem_of_getElem? (i := 37) (by decide +kernel), List.mem_of_getElem? (i := 83) (by decide +kernel), List.mem_of_getElem? (i := 1049) (by decide +kernel), rfl, by decide +kernel, by decide +kernel, by decide +kernel⟩
theorem lk_X8_122 : gx_lk lw_tbl RX8 122 RX8 yX8_isTo cX8_isTo 4 ((Option.some Jvm.ClassFile.FieldType.int)) 2 := ⟨List.mem_of_getElem? (i := 1058) (by decide +kernel), List.mem_of_getElem? (i := 1060) (by decide +kernel), List.mem_of_getElem? (i := 40) (by decide +kernel), List.mem_of_getElem? (i := 83) (by decide +kernel), List.mem_of_getElem? (i := 1061) (by decide +kernel), rfl, by decide +kernel, by decide +kernel, by decide +kernel⟩
theorem lk_X8_125 : gx_lk lw_tbl RX8 125 RX8 yX8_goesTo cX8_goesTo 4 ((Option.some Jvm.ClassFile.FieldType.int)) 1 := ⟨List.mem_of_getElem? (i := 1054) (by decide +kernel), List.mem_of_getElem? (i := 1056) (by decide +kernel), List.mem_of_getElem? (i := 39) (by decide +kernel), List.mem_of_getElem? (i := 83) (by decide +kernel), List.mem_of_getElem? (i := 1057) (by decide +kernel), rfl, by decide +kernel, by decide +kernel, by decide +kernel⟩
theorem fl_X8_58 : gx_fl lw_tbl RX8 58 RX8 TX8 42 24 := ⟨iu_X8, by decide, List.mem_of_getElem? (i := 907) (by decide +kernel), rfl⟩
theorem lk_X8_128 : gx_lk lw_tbl RX8 128 RX8 yX8_laySold cX8_laySold 4 ((Option.some Jvm.ClassFile.FieldType.int)) 0 := ⟨List.mem_of_getElem? (i := 1050) (by decide +kernel), List.mem_of_getElem? (i := 1052) (by decide +kernel), List.mem_of_getElem? (i := 38) (by decide +kernel), List.mem_of_getElem? (i := 83) (by decide +kernel), List.mem_of_getElem? (i := 1053) (by decide +kernel), rfl, by decide +kernel, by decide +kernel, by decide +kernel⟩
theorem lk_X8_132 : gx_lk lw_tbl RX8 132 RX8 yX8_isShop cX8_isShop 2 ((Option.some Jvm.ClassFile.FieldType.boolean)) 1 := ⟨List.mem_of_getElem? (i := 1038) (by decide +kernel), List.mem_of_getElem? (i := 1040) (by decide +kernel), List.mem_of_getElem? (i := 35) (by decide +kernel), List.mem_of_getElem? (i := 83) (by decide +kernel), List.mem_of_getElem? (i := 1041) (by decide +kernel), rfl, by decide +kernel, by decide +kernel, by decide +kernel⟩
theorem lk_X8_135 : gx_lk lw_tbl RX8 135 RX8 yX8_aboutOf cX8_aboutOf 3 ((Option.some Jvm.ClassFile.FieldType.int)) 2 := ⟨List.mem_of_getElem? (i := 1042) (by decide +kernel), List.mem_of_getElem? (i := 1044) (by decide +kernel), List.mem_of_getElem? (i := 36) (by decide +kernel), List.mem_of_getElem? (i := 83) (by decide +kernel), List.mem_of_getElem? (i := 1045) (by decide +kernel), rfl, by decide +kernel, by decide +kernel, by decide +kernel⟩
theorem lk_X8_138 : gx_lk lw_tbl RX8 138 RX8 yX8_isSort cX8_isSort 2 ((Option.some Jvm.ClassFile.FieldType.boolean)) 1 := ⟨List.mem_of_getElem? (i := 1081) (by decide +kernel), List.mem_of_getElem? (i := 1083) (by decide +kernel), List.mem_of_getElem? (i := 42) (by decide +kernel), List.mem_of_getElem? (i := 83) (by decide +kernel), List.mem_of_getElem? (i := 1084) (by decide +kernel), rfl, by decide +kernel, by decide +kernel, by decide +kernel⟩
theorem lk_X8_141 : gx_lk lw_tbl RX8 141 RX8 yX8_spareOf cX8_spareOf 3 ((Option.some Jvm.ClassFile.FieldType.int)) 1 := ⟨List.mem_of_getElem? (i := 1093) (by decide +kernel), List.mem_of_getElem? (i := 1095) (by decide +kernel), List.mem_of_getElem? (i := 43) (by decide +kernel), List.mem_of_getElem? (i := 83) (by decide +kernel), List.mem_of_getElem? (i := 1096) (by decide +kernel), rfl, by decide +kernel, by decide +kernel, by decide +kernel⟩
theorem lk_X8_144 : gx_lk lw_tbl RX8 144 RX8 yX8_profitOf cX8_profitOf 5 ((Option.some Jvm.ClassFile.FieldType.int)) 1 := ⟨List.mem_of_getElem? (i := 1101) (by decide +kernel), List.mem_of_getElem? (i := 1103) (by decide +kernel), List.mem_of_getElem? (i := 44) (by decide +kernel), List.mem_of_getElem? (i := 83) (by decide +kernel), List.mem_of_getElem? (i := 1104) (by decide +kernel), rfl, by decide +kernel, by decide +kernel, by decide +kernel⟩
theorem kX8_147 : Cond.constant RX8 147 (-1000001) ∈ lw_tbl := List.mem_of_getElem? (i := 1105) (by decide +kernel)
theorem fl_X8_64 : gx_fl lw_tbl RX8 64 RX8 TX8 42 28 := ⟨iu_X8, by decide, List.mem_of_getElem? (i := 911) (by decide +kernel), rfl⟩
theorem fl_X8_61 : gx_fl lw_tbl RX8 61 RX8 TX8 42 25 := ⟨iu_X8, by decide, List.mem_of_getElem? (i := 908) (by decide +kernel), rfl⟩
theorem lk_X8_148 : gx_lk lw_tbl RX8 148 RX8 yX8_layCode cX8_layCode 7 ((Option.none : Option Jvm.ClassFile.FieldType)) 4 := ⟨List.mem_of_getElem? (i := 1114) (by decide +kernel), List.mem_of_getElem? (i := 1116) (by decide +kernel), List.mem_of_getElem? (i := 46) (by decide +kernel), List.mem_of_getElem? (i := 83) (by decide +kernel), List.mem_of_getElem? (i := 1117) (by decide +kernel), rfl, by decide +kernel, by decide +kernel, by decide +kernel⟩
theorem fl_X8_152 : gx_fl lw_tbl RX8 152 RX8 TX8 42 27 := ⟨iu_X8, by decide, List.mem_of_getElem? (i := 910) (by decide +kernel), rfl⟩
theorem fl_X8_155 : gx_fl lw_tbl RX8 155 RX8 TX8 42 26 := ⟨iu_X8, by decide, List.mem_of_getElem? (i := 909) (by decide +kernel), rfl⟩
theorem lk_X8_159 : gx_lk lw_tbl RX8 159 RX8 yX8_layBest cX8_layBest 9 ((Option.none : Option Jvm.ClassFile.FieldType)) 1 := ⟨List.mem_of_getElem? (i := 1110) (by decide +kernel), List.mem_of_getElem? (i := 1112) (by decide +kernel), List.mem_of_getElem? (i := 45) (by decide +kernel), List.mem_of_getElem? (i := 83) (by decide +kernel), List.mem_of_getElem? (i := 1113) (by decide +kernel), rfl, by decide +kernel, by decide +kernel, by decide +kernel⟩
theorem lk_X8_163 : gx_lk lw_tbl RX8 163 RX8 yX8_turnOf cX8_turnOf 4 ((Option.some Jvm.ClassFile.FieldType.int)) 1 := ⟨List.mem_of_getElem? (i := 1122) (by decide +kernel), List.mem_of_getElem? (i := 1124) (by decide +kernel), List.mem_of_getElem? (i := 47) (by decide +kernel), List.mem_of_getElem? (i := 83) (by decide +kernel), List.mem_of_getElem? (i := 1125) (by decide +kernel), rfl, by decide +kernel, by decide +kernel, by decide +kernel⟩
theorem fl_X8_67 : gx_fl lw_tbl RX8 67 RX8 TX8 42 29 := ⟨iu_X8, by decide, List.mem_of_getElem? (i := 912) (by decide +kernel), rfl⟩
theorem fl_X8_70 : gx_fl lw_tbl RX8 70 RX8 TX8 42 30 := ⟨iu_X8, by decide, List.mem_of_getElem? (i := 913) (by decide +kernel), rfl⟩
theorem fl_X8_73 : gx_fl lw_tbl RX8 73 RX8 TX8 42 31 := ⟨iu_X8, by decide, List.mem_of_getElem? (i := 914) (by decide +kernel), rfl⟩
theorem lk_X8_166 : gx_lk lw_tbl RX8 166 RX8 yX8_hold cX8_hold 2 ((Option.none : Option Jvm.ClassFile.FieldType)) 0 := ⟨List.mem_of_getElem? (i := 1130) (by decide +kernel), List.mem_of_getElem? (i := 1132) (by decide +kernel), List.mem_of_getElem? (i := 48) (by decide +kernel), List.mem_of_getElem? (i := 83) (by decide +kernel), List.mem_of_getElem? (i := 1133) (by decide +kernel), rfl, by decide +kernel, by decide +kernel, by decide +kernel⟩
theorem lk_X8_169 : gx_lk lw_tbl RX8 169 RX8 yX8_goOn cX8_goOn 4 ((Option.some Jvm.ClassFile.FieldType.int)) 0 := ⟨List.mem_of_getElem? (i := 1134) (by decide +kernel), List.mem_of_getElem? (i := 1136) (by decide +kernel), List.mem_of_getElem? (i := 49) (by decide +kernel), List.mem_of_getElem? (i := 83) (by decide +kernel), List.mem_of_getElem? (i := 1137) (by decide +kernel), rfl, by decide +kernel, by decide +kernel, by decide +kernel⟩
theorem lk_X8_172 : gx_lk lw_tbl RX8 172 RX8 yX8_back cX8_back 2 ((Option.none : Option Jvm.ClassFile.FieldType)) 0 := ⟨List.mem_of_getElem? (i := 1138) (by decide +kernel), List.mem_of_getElem? (i := 1140) (by decide +kernel), List.mem_of_getElem? (i := 50) (by decide +kernel), List.mem_of_getElem? (i := 83) (by decide +kernel), List.mem_of_getElem? (i := 1141) (by decide +kernel), rfl, by decide +kernel, by decide +kernel, by decide +kernel⟩
theorem lk_X8_175 : gx_lk lw_tbl RX8 175 RX8 yX8_gainOf cX8_gainOf 3 ((Option.some Jvm.ClassFile.FieldType.int)) 1 := ⟨List.mem_of_getElem? (i := 1146) (by decide +kernel), List.mem_of_getElem? (i := 1148) (by decide +kernel), List.mem_of_getElem? (i := 51) (by decide +kernel), List.mem_of_getElem? (i := 83) (by decide +kernel), List.mem_of_getElem? (i := 1149) (by decide +kernel), rfl, by decide +kernel, by decide +kernel, by decide +kernel⟩
theorem lk_X8_178 : gx_lk lw_tbl RX8 178 RX8 yX8_profitOfSet cX8_profitOfSet 4 ((Option.some Jvm.ClassFile.FieldType.int)) 1 := ⟨List.mem_of_getElem? (i := 1173) (by decide +kernel), List.mem_of_getElem? (i := 1175) (by decide +kernel), List.mem_of_getElem? (i := 55) (by decide +kernel), List.mem_of_getElem? (i := 83) (by decide +kernel), List.mem_of_getElem? (i := 1176) (by decide +kernel), rfl, by decide +kernel, by decide +kernel, by decide +kernel⟩
theorem lk_X8_181 : gx_lk lw_tbl RX8 181 RX8 yX8_openSet cX8_openSet 3 ((Option.some Jvm.ClassFile.FieldType.int)) 0 := ⟨List.mem_of_getElem? (i := 1162) (by decide +kernel), List.mem_of_getElem? (i := 1164) (by decide +kernel), List.mem_of_getElem? (i := 53) (by decide +kernel), List.mem_of_getElem? (i := 83) (by decide +kernel), List.mem_of_getElem? (i := 1165) (by decide +kernel), rfl, by decide +kernel, by decide +kernel, by decide +kernel⟩
theorem lk_X8_184 : gx_lk lw_tbl RX8 184 RX8 yX8_pays cX8_pays 6 ((Option.some Jvm.ClassFile.FieldType.boolean)) 2 := ⟨List.mem_of_getElem? (i := 1169) (by decide +kernel), List.mem_of_getElem? (i := 1171) (by decide +kernel), List.mem_of_getElem? (i := 54) (by decide +kernel), List.mem_of_getElem? (i := 83) (by decide +kernel), List.mem_of_getElem? (i := 1172) (by decide +kernel), rfl, by decide +kernel, by decide +kernel, by decide +kernel⟩
theorem lk_X8_188 : gx_lkS lw_tbl RX8 188 yX8_ones cX8_ones 3 ((Option.some Jvm.ClassFile.FieldType.int)) 1 := ⟨List.mem_of_getElem? (i := 1166) (by decide +kernel), List.mem_of_getElem? (i := 1167) (by decide +kernel), List.mem_of_getElem? (i := 83) (by decide +kernel), List.mem_of_getElem? (i := 1168) (by decide +kernel), by decide +kernel, by decide +kernel, by decide +kernel⟩
theorem lk_X8_191 : gx_lk lw_tbl RX8 191 RX8 yX8_leastMarket cX8_leastMarket 7 ((Option.some Jvm.ClassFile.FieldType.int)) 2 := ⟨List.mem_of_getElem? (i := 1158) (by decide +kernel), List.mem_of_getElem? (i := 1160) (by decide +kernel), List.mem_of_getElem? (i := 52) (by decide +kernel), List.mem_of_getElem? (i := 83) (by decide +kernel), List.mem_of_getElem? (i := 1161) (by decide +kernel), rfl, by decide +kernel, by decide +kernel, by decide +kernel⟩
theorem lk_X8_194 : gx_lk lw_tbl RX8 194 RX8 yX8_nearestMarket cX8_nearestMarket 8 ((Option.some Jvm.ClassFile.FieldType.int)) 2 := ⟨List.mem_of_getElem? (i := 1177) (by decide +kernel), List.mem_of_getElem? (i := 1179) (by decide +kernel), List.mem_of_getElem? (i := 56) (by decide +kernel), List.mem_of_getElem? (i := 83) (by decide +kernel), List.mem_of_getElem? (i := 1180) (by decide +kernel), rfl, by decide +kernel, by decide +kernel, by decide +kernel⟩
theorem lk_X8_197 : gx_lk lw_tbl RX8 197 RX8 yX8_insteadOf cX8_insteadOf 4 ((Option.some Jvm.ClassFile.FieldType.int)) 2 := ⟨List.mem_of_getElem? (i := 1185) (by decide +kernel), List.mem_of_getElem? (i := 1187) (by decide +kernel), List.mem_of_getElem? (i := 57) (by decide +kernel), List.mem_of_getElem? (i := 83) (by decide +kernel), List.mem_of_getElem? (i := 1188) (by decide +kernel), rfl, by decide +kernel, by decide +kernel, by decide +kernel⟩
theorem lk_X8_200 : gx_lk lw_tbl RX8 200 RX8 yX8_areTwo cX8_areTwo 3 ((Option.some Jvm.ClassFile.FieldType.boolean)) 2 := ⟨List.mem_of_getElem? (i := 1197) (by decide +kernel), List.mem_of_getElem? (i := 1199) (by decide +kernel), List.mem_of_getElem? (i := 58) (by decide +kernel), List.mem_of_getElem? (i := 83) (by decide +kernel), List.mem_of_getElem? (i := 1200) (by decide +kernel), rfl, by decide +kernel, by decide +kernel, by decide +kernel⟩
theorem lk_X8_203 : gx_lk lw_tbl RX8 203 RX8 yX8_fits cX8_fits 3 ((Option.some Jvm.ClassFile.FieldType.boolean)) 2 := ⟨List.mem_of_getElem? (i := 1201) (by decide +kernel), List.mem_of_getElem? (i := 1203) (by decide +kernel), List.mem_of_getElem? (i := 59) (by decide +kernel), List.mem_of_getElem? (i := 83) (by decide +kernel), List.mem_of_getElem? (i := 1204) (by decide +kernel), rfl, by decide +kernel, by decide +kernel, by decide +kernel⟩
theorem lk_X8_206 : gx_lk lw_tbl RX8 206 RX8 yX8_mergeNow cX8_mergeNow 4 ((Option.none : Option Jvm.ClassFile.FieldType)) 2 := ⟨List.mem_of_getElem? (i := 1205) (by decide +kernel), List.mem_of_getElem? (i := 1207) (by decide +kernel), List.mem_of_getElem? (i := 60) (by decide +kernel), List.mem_of_getElem? (i := 83) (by decide +kernel), List.mem_of_getElem? (i := 1208) (by decide +kernel), rfl, by decide +kernel, by decide +kernel, by decide +kernel⟩
theorem fl_X8_76 : gx_fl lw_tbl RX8 76 RX8 TX8 42 32 := ⟨iu_X8, by decide, List.mem_of_getElem? (i := 915) (by decide +kernel), rfl⟩
theorem fl_X8_210 : gx_fl lw_tbl RX8 210 RX8 TX8 42 34 := ⟨iu_X8, by decide, List.mem_of_getElem? (i := 917) (by decide +kernel), rfl⟩
theorem fl_X8_79 : gx_fl lw_tbl RX8 79 RX8 TX8 42 33 := ⟨iu_X8, by decide, List.mem_of_getElem? (i := 916) (by decide +kernel), rfl⟩
theorem lk_X8_213 : gx_lk lw_tbl RX8 213 RX8 yX8_layBefore cX8_layBefore 3 ((Option.some Jvm.ClassFile.FieldType.boolean)) 0 := ⟨List.mem_of_getElem? (i := 1213) (by decide +kernel), List.mem_of_getElem? (i := 1215) (by decide +kernel), List.mem_of_getElem? (i := 61) (by decide +kernel), List.mem_of_getElem? (i := 83) (by decide +kernel), List.mem_of_getElem? (i := 1216) (by decide +kernel), rfl, by decide +kernel, by decide +kernel, by decide +kernel⟩
theorem lk_X8_217 : gx_lk lw_tbl RX8 217 RX8 yX8_layBehind cX8_layBehind 8 ((Option.some Jvm.ClassFile.FieldType.boolean)) 6 := ⟨List.mem_of_getElem? (i := 1217) (by decide +kernel), List.mem_of_getElem? (i := 1219) (by decide +kernel), List.mem_of_getElem? (i := 62) (by decide +kernel), List.mem_of_getElem? (i := 83) (by decide +kernel), List.mem_of_getElem? (i := 1220) (by decide +kernel), rfl, by decide +kernel, by decide +kernel, by decide +kernel⟩
theorem lk_X8_221 : gx_lk lw_tbl RX8 221 RX8 yX8_harmNow cX8_harmNow 6 ((Option.some Jvm.ClassFile.FieldType.int)) 1 := ⟨List.mem_of_getElem? (i := 1225) (by decide +kernel), List.mem_of_getElem? (i := 1227) (by decide +kernel), List.mem_of_getElem? (i := 63) (by decide +kernel), List.mem_of_getElem? (i := 83) (by decide +kernel), List.mem_of_getElem? (i := 1228) (by decide +kernel), rfl, by decide +kernel, by decide +kernel, by decide +kernel⟩
theorem lk_X8_225 : gx_lk lw_tbl RX8 225 RX8 yX8_isBelow cX8_isBelow 4 ((Option.some Jvm.ClassFile.FieldType.boolean)) 1 := ⟨List.mem_of_getElem? (i := 1233) (by decide +kernel), List.mem_of_getElem? (i := 1235) (by decide +kernel), List.mem_of_getElem? (i := 64) (by decide +kernel), List.mem_of_getElem? (i := 83) (by decide +kernel), List.mem_of_getElem? (i := 1236) (by decide +kernel), rfl, by decide +kernel, by decide +kernel, by decide +kernel⟩
theorem kX8_228 : Cond.constantLong RX8 228 255 ∈ lw_tbl := List.mem_of_getElem? (i := 1245) (by decide +kernel)
theorem fl_X8_230 : gx_fl lw_tbl RX8 230 RX8 TX8 42 14 := ⟨iu_X8, by decide, List.mem_of_getElem? (i := 897) (by decide +kernel), rfl⟩
theorem fl_X8_42 : gx_fl lw_tbl RX8 42 RX8 TX8 42 15 := ⟨iu_X8, by decide, List.mem_of_getElem? (i := 898) (by decide +kernel), rfl⟩
theorem lk_X8_233 : gx_lkS lw_tbl RX8 233 yX8_isName cX8_isName 1 ((Option.some Jvm.ClassFile.FieldType.boolean)) 1 := ⟨List.mem_of_getElem? (i := 1258) (by decide +kernel), List.mem_of_getElem? (i := 1259) (by decide +kernel), List.mem_of_getElem? (i := 83) (by decide +kernel), List.mem_of_getElem? (i := 1260) (by decide +kernel), by decide +kernel, by decide +kernel, by decide +kernel⟩
theorem lk_X8_236 : gx_lkS lw_tbl RX8 236 yX8_isDigit cX8_isDigit 1 ((Option.some Jvm.ClassFile.FieldType.boolean)) 1 := ⟨List.mem_of_getElem? (i := 1261) (by decide +kernel), List.mem_of_getElem? (i := 1262) (by decide +kernel), List.mem_of_getElem? (i := 83) (by decide +kernel), List.mem_of_getElem? (i := 1263) (by decide +kernel), by decide +kernel, by decide +kernel, by decide +kernel⟩
theorem fl_X8_239 : gx_fl lw_tbl RX8 239 RX8 TX8 42 35 := ⟨iu_X8, by decide, List.mem_of_getElem? (i := 918) (by decide +kernel), rfl⟩
theorem fl_X8_242 : gx_fl lw_tbl RX8 242 RX8 TX8 42 36 := ⟨iu_X8, by decide, List.mem_of_getElem? (i := 919) (by decide +kernel), rfl⟩
theorem lk_X8_245 : gx_lk lw_tbl RX8 245 RX8 yX8_readPage cX8_readPage 7 ((Option.none : Option Jvm.ClassFile.FieldType)) 0 := ⟨List.mem_of_getElem? (i := 1254) (by decide +kernel), List.mem_of_getElem? (i := 1256) (by decide +kernel), List.mem_of_getElem? (i := 65) (by decide +kernel), List.mem_of_getElem? (i := 83) (by decide +kernel), List.mem_of_getElem? (i := 1257) (by decide +kernel), rfl, by decide +kernel, by decide +kernel, by decide +kernel⟩
theorem fl_X8_248 : gx_fl lw_tbl RX8 248 RX8 TX8 42 11 := ⟨iu_X8, by decide, List.mem_of_getElem? (i := 894) (by decide +kernel), rfl⟩
theorem fl_X8_35 : gx_fl lw_tbl RX8 35 RX8 TX8 42 12 := ⟨iu_X8, by decide, List.mem_of_getElem? (i := 895) (by decide +kernel), rfl⟩
theorem fl_X8_39 : gx_fl lw_tbl RX8 39 RX8 TX8 42 13 := ⟨iu_X8, by decide, List.mem_of_getElem? (i := 896) (by decide +kernel), rfl⟩
theorem lk_X8_251 : gx_lk lw_tbl RX8 251 RX8 yX8_soldBy cX8_soldBy 4 ((Option.some Jvm.ClassFile.FieldType.int)) 1 := ⟨List.mem_of_getElem? (i := 1292) (by decide +kernel), List.mem_of_getElem? (i := 1294) (by decide +kernel), List.mem_of_getElem? (i := 71) (by decide +kernel), List.mem_of_getElem? (i := 83) (by decide +kernel), List.mem_of_getElem? (i := 1295) (by decide +kernel), rfl, by decide +kernel, by decide +kernel, by decide +kernel⟩
theorem fl_X8_254 : gx_fl lw_tbl RX8 254 RX8 TX8 42 40 := ⟨iu_X8, by decide, List.mem_of_getElem? (i := 923) (by decide +kernel), rfl⟩
theorem fl_X8_82 : gx_fl lw_tbl RX8 82 RX8 TX8 42 37 := ⟨iu_X8, by decide, List.mem_of_getElem? (i := 920) (by decide +kernel), rfl⟩
theorem fl_X8_85 : gx_fl lw_tbl RX8 85 RX8 TX8 42 38 := ⟨iu_X8, by decide, List.mem_of_getElem? (i := 921) (by decide +kernel), rfl⟩
theorem fl_X8_88 : gx_fl lw_tbl RX8 88 RX8 TX8 42 39 := ⟨iu_X8, by decide, List.mem_of_getElem? (i := 922) (by decide +kernel), rfl⟩
theorem lk_X8_257 : gx_lk lw_tbl RX8 257 RX8 yX8_openGroup cX8_openGroup 1 ((Option.none : Option Jvm.ClassFile.FieldType)) 0 := ⟨List.mem_of_getElem? (i := 1280) (by decide +kernel), List.mem_of_getElem? (i := 1282) (by decide +kernel), List.mem_of_getElem? (i := 68) (by decide +kernel), List.mem_of_getElem? (i := 83) (by decide +kernel), List.mem_of_getElem? (i := 1283) (by decide +kernel), rfl, by decide +kernel, by decide +kernel, by decide +kernel⟩
theorem lk_X8_260 : gx_lk lw_tbl RX8 260 RX8 yX8_factor cX8_factor 2 ((Option.none : Option Jvm.ClassFile.FieldType)) 1 := ⟨List.mem_of_getElem? (i := 1284) (by decide +kernel), List.mem_of_getElem? (i := 1286) (by decide +kernel), List.mem_of_getElem? (i := 69) (by decide +kernel), List.mem_of_getElem? (i := 83) (by decide +kernel), List.mem_of_getElem? (i := 1287) (by decide +kernel), rfl, by decide +kernel, by decide +kernel, by decide +kernel⟩
theorem lk_X8_264 : gx_lk lw_tbl RX8 264 RX8 yX8_valueOf cX8_valueOf 12 ((Option.some Jvm.ClassFile.FieldType.int)) 3 := ⟨List.mem_of_getElem? (i := 1288) (by decide +kernel), List.mem_of_getElem? (i := 1290) (by decide +kernel), List.mem_of_getElem? (i := 70) (by decide +kernel), List.mem_of_getElem? (i := 83) (by decide +kernel), List.mem_of_getElem? (i := 1291) (by decide +kernel), rfl, by decide +kernel, by decide +kernel, by decide +kernel⟩
theorem lk_X8_268 : gx_lk lw_tbl RX8 268 RX8 yX8_isTest cX8_isTest 2 ((Option.some Jvm.ClassFile.FieldType.boolean)) 1 := ⟨List.mem_of_getElem? (i := 1272) (by decide +kernel), List.mem_of_getElem? (i := 1274) (by decide +kernel), List.mem_of_getElem? (i := 66) (by decide +kernel), List.mem_of_getElem? (i := 83) (by decide +kernel), List.mem_of_getElem? (i := 1275) (by decide +kernel), rfl, by decide +kernel, by decide +kernel, by decide +kernel⟩
theorem lk_X8_271 : gx_lk lw_tbl RX8 271 RX8 yX8_barsNow cX8_barsNow 9 ((Option.some Jvm.ClassFile.FieldType.boolean)) 3 := ⟨List.mem_of_getElem? (i := 1276) (by decide +kernel), List.mem_of_getElem? (i := 1278) (by decide +kernel), List.mem_of_getElem? (i := 67) (by decide +kernel), List.mem_of_getElem? (i := 83) (by decide +kernel), List.mem_of_getElem? (i := 1279) (by decide +kernel), rfl, by decide +kernel, by decide +kernel, by decide +kernel⟩
theorem fl_X8_274 : gx_fl lw_tbl RX8 274 RX8 TX8 42 16 := ⟨iu_X8, by decide, List.mem_of_getElem? (i := 899) (by decide +kernel), rfl⟩
theorem fl_X8_277 : gx_fl lw_tbl RX8 277 RX8 TX8 42 17 := ⟨iu_X8, by decide, List.mem_of_getElem? (i := 900) (by decide +kernel), rfl⟩
theorem fl_X8_280 : gx_fl lw_tbl RX8 280 RX8 TX8 42 18 := ⟨iu_X8, by decide, List.mem_of_getElem? (i := 901) (by decide +kernel), rfl⟩
theorem fl_X8_283 : gx_fl lw_tbl RX8 283 RX8 TX8 42 19 := ⟨iu_X8, by decide, List.mem_of_getElem? (i := 902) (by decide +kernel), rfl⟩
theorem fl_X8_45 : gx_fl lw_tbl RX8 45 RX8 TX8 42 20 := ⟨iu_X8, by decide, List.mem_of_getElem? (i := 903) (by decide +kernel), rfl⟩
theorem fl_X8_48 : gx_fl lw_tbl RX8 48 RX8 TX8 42 21 := ⟨iu_X8, by decide, List.mem_of_getElem? (i := 904) (by decide +kernel), rfl⟩
theorem fl_X8_51 : gx_fl lw_tbl RX8 51 RX8 TX8 42 22 := ⟨iu_X8, by decide, List.mem_of_getElem? (i := 905) (by decide +kernel), rfl⟩
theorem lk_X8_286 : gx_lk lw_tbl RX8 286 RX8 yX8_howMany cX8_howMany 2 ((Option.some Jvm.ClassFile.FieldType.int)) 1 := ⟨List.mem_of_getElem? (i := 1312) (by decide +kernel), List.mem_of_getElem? (i := 1314) (by decide +kernel), List.mem_of_getElem? (i := 72) (by decide +kernel), List.mem_of_getElem? (i := 83) (by decide +kernel), List.mem_of_getElem? (i := 1315) (by decide +kernel), rfl, by decide +kernel, by decide +kernel, by decide +kernel⟩
theorem kX8_289 : Cond.constantLong RX8 289 31 ∈ lw_tbl := List.mem_of_getElem? (i := 1325) (by decide +kernel)
theorem fl_X8_291 : gx_fl lw_tbl RX8 291 RX8 TX8 42 41 := ⟨iu_X8, by decide, List.mem_of_getElem? (i := 924) (by decide +kernel), rfl⟩
theorem kX8_295 : Cond.constantLong RX8 295 373 ∈ lw_tbl := List.mem_of_getElem? (i := 1320) (by decide +kernel)
theorem lk_X8_297 : gx_lk lw_tbl RX8 297 RX8 yX8_mix cX8_mix 3 ((Option.none : Option Jvm.ClassFile.FieldType)) 1 := ⟨List.mem_of_getElem? (i := 1321) (by decide +kernel), List.mem_of_getElem? (i := 1323) (by decide +kernel), List.mem_of_getElem? (i := 73) (by decide +kernel), List.mem_of_getElem? (i := 83) (by decide +kernel), List.mem_of_getElem? (i := 1324) (by decide +kernel), rfl, by decide +kernel, by decide +kernel, by decide +kernel⟩
def xX_L (a : Nat → Nat) (ι : Nat → ClassId) : List ((Nat → Int32) → va_E) := [
  fun r => .inr (7, [.ref (a 1), .ref (a 21), .ref (a 25), .ref (a 29), .ref (a 41), .ref (a 63), .ref (a 66), .ref (a 65), .ref (a 76), .ref (a 77), .int (r 10), .int (r 11), .int (r 12), .int (r 13), .int (r 14)]),
  fun r => .inr (5, [.int (r 0), .int (r 1), .int (r 2), .ref (a 2), .ref (a 3), .ref (a 4), .ref (a 5), .ref (a 6), .ref (a 7), .ref (a 8), .ref (a 9), .ref (a 10), .ref (a 11), .ref (a 12)]),
  fun r => .inl (ι 0, 6, .inl r),
  fun r => .inl (ι 0, 6, .inl r),
  fun r => .inl (ι 0, 6, .inl r),
  fun r => .inl (ι 0, 6, .inl r),
  fun r => .inl (ι 0, 8, .inl r),
  fun r => .inl (ι 0, 8, .inl r),
  fun r => .inl (ι 0, 8, .inl r),
  fun r => .inl (ι 0, 8, .inl r),
  fun r => .inl (ι 0, 8, .inl r),
  fun r => .inl (ι 0, 8, .inl r),
  fun _ => .inl (ι 4, 8, .inr (.inr (.inr (.inr (fun j => some (a (13 + j))))))),
  fun r => .inl (ι 0, 6, .inl r),
  fun r => .inl (ι 0, 6, .inl r),
  fun r => .inl (ι 0, 6, .inl r),
  fun r => .inl (ι 0, 6, .inl r),
  fun r => .inl (ι 0, 6, .inl r),
  fun r => .inl (ι 0, 6, .inl r),
  fun r => .inl (ι 0, 6, .inl r),
  fun r => .inl (ι 0, 6, .inl r),
  fun r => .inr (4, [.ref (a 1), .ref (a 22), .ref (a 23), .ref (a 24)]),
  fun r => .inl (ι 0, 6, .inl r),
  fun r => .inl (ι 0, 6, .inl r),
  fun r => .inl (ι 1, 6, .inl r),
  fun r => .inr (4, [.ref (a 1), .ref (a 26), .ref (a 27), .ref (a 28)]),
  fun r => .inl (ι 0, 6, .inl r),
  fun r => .inl (ι 0, 6, .inl r),
  fun r => .inl (ι 1, 6, .inl r),
  fun r => .inr (4, [.ref (a 1), .ref (a 30), .ref (a 31), .ref (a 32)]),
  fun r => .inl (ι 0, 6, .inl r),
  fun r => .inl (ι 0, 6, .inl r),
  fun r => .inl (ι 1, 6, .inl r),
  fun r => .inr (4, [.ref (a 1), .ref (a 34), .ref (a 35), .ref (a 36)]),
  fun r => .inl (ι 0, 6, .inl r),
  fun r => .inl (ι 0, 6, .inl r),
  fun r => .inl (ι 1, 6, .inl r),
  fun r => .inr (4, [.ref (a 1), .ref (a 38), .ref (a 39), .ref (a 40)]),
  fun r => .inl (ι 0, 6, .inl r),
  fun r => .inl (ι 0, 6, .inl r),
  fun r => .inl (ι 1, 6, .inl r),
  fun r => .inr (0, [.ref (a 1), .ref (a 42), .ref (a 43), .ref (a 44), .ref (a 45), .int (r 5), .ref (a 46), .ref (a 51), .ref (a 56), .ref (a 61), .ref (a 62), .int (r 11), .int (r 12)]),
  fun r => .inl (ι 0, 3, .inl r),
  fun r => .inl (ι 0, 3, .inl r),
  fun r => .inl (ι 0, 3, .inl r),
  fun r => .inl (ι 0, 3, .inl r),
  fun _ => .inl (ι 4, 4, .inr (.inr (.inr (.inr (fun j => some (a (47 + j))))))),
  fun r => .inl (ι 0, 8, .inl r),
  fun r => .inl (ι 0, 8, .inl r),
  fun r => .inl (ι 0, 8, .inl r),
  fun r => .inl (ι 0, 8, .inl r),
  fun _ => .inl (ι 4, 4, .inr (.inr (.inr (.inr (fun j => some (a (52 + j))))))),
  fun r => .inl (ι 0, 8, .inl r),
  fun r => .inl (ι 0, 8, .inl r),
  fun r => .inl (ι 0, 8, .inl r),
  fun r => .inl (ι 0, 8, .inl r),
  fun _ => .inl (ι 4, 4, .inr (.inr (.inr (.inr (fun j => some (a (57 + j))))))),
  fun r => .inl (ι 0, 8, .inl r),
  fun r => .inl (ι 0, 8, .inl r),
  fun r => .inl (ι 0, 8, .inl r),
  fun r => .inl (ι 0, 8, .inl r),
  fun r => .inl (ι 0, 10, .inl r),
  fun r => .inl (ι 0, 10, .inl r),
  fun r => .inr (2, [.ref (a 1), .ref (a 41), .ref (a 33), .ref (a 37), .ref (a 64)]),
  fun r => .inl (ι 0, 8, .inl r),
  fun _ => .inl (ι 5, 4, .inr (.inr (.inr (.inr (fun j => some (a (66 + 2 * (1 + j)))))))),
  fun r => .inr (6, [.ref (a 67), .int (r 1)]),
  fun r => .inl (ι 2, 50, .inl r),
  fun r => .inr (6, [.ref (a 69), .int (r 1)]),
  fun r => .inl (ι 2, 50, .inl r),
  fun r => .inr (6, [.ref (a 71), .int (r 1)]),
  fun r => .inl (ι 2, 50, .inl r),
  fun r => .inr (6, [.ref (a 73), .int (r 1)]),
  fun r => .inl (ι 2, 50, .inl r),
  fun r => .inr (6, [.ref (a 75), .int (r 1)]),
  fun r => .inl (ι 2, 50, .inl r),
  fun r => .inr (1, [.int (r 0), .int (r 1), .int (r 2)]),
  fun r => .inr (3, [.ref (a 1), .ref (a 78), .ref (a 79), .ref (a 80), .ref (a 81), .int (r 5), .int (r 6), .int (r 7), .int (r 8), .int (r 9)]),
  fun r => .inl (ι 0, 6, .inl r),
  fun r => .inl (ι 1, 51, .inl r),
  fun r => .inl (ι 1, 51, .inl r),
  fun r => .inl (ι 1, 51, .inl r)]
def xX (a : Nat → Nat) (ι : Nat → ClassId) (k : Nat) (r : Nat → Int32) : va_E := ((xX_L a ι).getD k (fun _ => .inr (0, []))) r
abbrev wX (a : Nat → Nat) (ι : Nat → ClassId) : gx_S → va_W := gx_w 82 a (xX a ι)
theorem lt_X_ShopsAsOne : 0 < 82 := by decide
theorem oc_X_ShopsAsOne (a : Nat → Nat) (ι : Nat → ClassId) (r : Nat → Int32) : xX a ι (0) r = .inr (7, [.ref (a 1), .ref (a 21), .ref (a 25), .ref (a 29), .ref (a 41), .ref (a 63), .ref (a 66), .ref (a 65), .ref (a 76), .ref (a 77), .int (r 10), .int (r 11), .int (r 12), .int (r 13), .int (r 14)]) := rfl
theorem lt_X_Street : 1 < 82 := by decide
theorem oc_X_Street (a : Nat → Nat) (ι : Nat → ClassId) (r : Nat → Int32) : xX a ι (1) r = .inr (5, [.int (r 0), .int (r 1), .int (r 2), .ref (a 2), .ref (a 3), .ref (a 4), .ref (a 5), .ref (a 6), .ref (a 7), .ref (a 8), .ref (a 9), .ref (a 10), .ref (a 11), .ref (a 12)]) := rfl
theorem lt_X_Street_kind : 2 < 82 := by decide
theorem ac0_X_Street_kind (a : Nat → Nat) (ι : Nat → ClassId) (r : Nat → Int32) : xX a ι (2) r = .inl (ι 0, 6, .inl r) := rfl
theorem ac_X_Street_kind {cl : List vw_C} {tys : List (ClassId × FieldType)} {ι : Nat → ClassId} (hx : gx_std vwCl (gty ι) cl tys) (a : Nat → Nat) : gx_arr tys (xX a ι) (2) .int 6 := ⟨0, ι 0, by rw [hx.2]; rfl, fun r => ac0_X_Street_kind a ι r⟩
theorem lt_X_Street_n : 3 < 82 := by decide
theorem ac0_X_Street_n (a : Nat → Nat) (ι : Nat → ClassId) (r : Nat → Int32) : xX a ι (3) r = .inl (ι 0, 6, .inl r) := rfl
theorem ac_X_Street_n {cl : List vw_C} {tys : List (ClassId × FieldType)} {ι : Nat → ClassId} (hx : gx_std vwCl (gty ι) cl tys) (a : Nat → Nat) : gx_arr tys (xX a ι) (3) .int 6 := ⟨0, ι 0, by rw [hx.2]; rfl, fun r => ac0_X_Street_n a ι r⟩
theorem lt_X_Street_place : 4 < 82 := by decide
theorem ac0_X_Street_place (a : Nat → Nat) (ι : Nat → ClassId) (r : Nat → Int32) : xX a ι (4) r = .inl (ι 0, 6, .inl r) := rfl
theorem ac_X_Street_place {cl : List vw_C} {tys : List (ClassId × FieldType)} {ι : Nat → ClassId} (hx : gx_std vwCl (gty ι) cl tys) (a : Nat → Nat) : gx_arr tys (xX a ι) (4) .int 6 := ⟨0, ι 0, by rw [hx.2]; rfl, fun r => ac0_X_Street_place a ι r⟩
theorem lt_X_Street_cost : 5 < 82 := by decide
theorem ac0_X_Street_cost (a : Nat → Nat) (ι : Nat → ClassId) (r : Nat → Int32) : xX a ι (5) r = .inl (ι 0, 6, .inl r) := rfl
theorem ac_X_Street_cost {cl : List vw_C} {tys : List (ClassId × FieldType)} {ι : Nat → ClassId} (hx : gx_std vwCl (gty ι) cl tys) (a : Nat → Nat) : gx_arr tys (xX a ι) (5) .int 6 := ⟨0, ι 0, by rw [hx.2]; rfl, fun r => ac0_X_Street_cost a ι r⟩
theorem lt_X_Street_home : 6 < 82 := by decide
theorem ac0_X_Street_home (a : Nat → Nat) (ι : Nat → ClassId) (r : Nat → Int32) : xX a ι (6) r = .inl (ι 0, 8, .inl r) := rfl
theorem ac_X_Street_home {cl : List vw_C} {tys : List (ClassId × FieldType)} {ι : Nat → ClassId} (hx : gx_std vwCl (gty ι) cl tys) (a : Nat → Nat) : gx_arr tys (xX a ι) (6) .int 8 := ⟨0, ι 0, by rw [hx.2]; rfl, fun r => ac0_X_Street_home a ι r⟩
theorem lt_X_Street_many : 7 < 82 := by decide
theorem ac0_X_Street_many (a : Nat → Nat) (ι : Nat → ClassId) (r : Nat → Int32) : xX a ι (7) r = .inl (ι 0, 8, .inl r) := rfl
theorem ac_X_Street_many {cl : List vw_C} {tys : List (ClassId × FieldType)} {ι : Nat → ClassId} (hx : gx_std vwCl (gty ι) cl tys) (a : Nat → Nat) : gx_arr tys (xX a ι) (7) .int 8 := ⟨0, ι 0, by rw [hx.2]; rfl, fun r => ac0_X_Street_many a ι r⟩
theorem lt_X_Street_way : 8 < 82 := by decide
theorem ac0_X_Street_way (a : Nat → Nat) (ι : Nat → ClassId) (r : Nat → Int32) : xX a ι (8) r = .inl (ι 0, 8, .inl r) := rfl
theorem ac_X_Street_way {cl : List vw_C} {tys : List (ClassId × FieldType)} {ι : Nat → ClassId} (hx : gx_std vwCl (gty ι) cl tys) (a : Nat → Nat) : gx_arr tys (xX a ι) (8) .int 8 := ⟨0, ι 0, by rw [hx.2]; rfl, fun r => ac0_X_Street_way a ι r⟩
theorem lt_X_Street_worth : 9 < 82 := by decide
theorem ac0_X_Street_worth (a : Nat → Nat) (ι : Nat → ClassId) (r : Nat → Int32) : xX a ι (9) r = .inl (ι 0, 8, .inl r) := rfl
theorem ac_X_Street_worth {cl : List vw_C} {tys : List (ClassId × FieldType)} {ι : Nat → ClassId} (hx : gx_std vwCl (gty ι) cl tys) (a : Nat → Nat) : gx_arr tys (xX a ι) (9) .int 8 := ⟨0, ι 0, by rw [hx.2]; rfl, fun r => ac0_X_Street_worth a ι r⟩
theorem lt_X_Street_liked : 10 < 82 := by decide
theorem ac0_X_Street_liked (a : Nat → Nat) (ι : Nat → ClassId) (r : Nat → Int32) : xX a ι (10) r = .inl (ι 0, 8, .inl r) := rfl
theorem ac_X_Street_liked {cl : List vw_C} {tys : List (ClassId × FieldType)} {ι : Nat → ClassId} (hx : gx_std vwCl (gty ι) cl tys) (a : Nat → Nat) : gx_arr tys (xX a ι) (10) .int 8 := ⟨0, ι 0, by rw [hx.2]; rfl, fun r => ac0_X_Street_liked a ι r⟩
theorem lt_X_Street_liking : 11 < 82 := by decide
theorem ac0_X_Street_liking (a : Nat → Nat) (ι : Nat → ClassId) (r : Nat → Int32) : xX a ι (11) r = .inl (ι 0, 8, .inl r) := rfl
theorem ac_X_Street_liking {cl : List vw_C} {tys : List (ClassId × FieldType)} {ι : Nat → ClassId} (hx : gx_std vwCl (gty ι) cl tys) (a : Nat → Nat) : gx_arr tys (xX a ι) (11) .int 8 := ⟨0, ι 0, by rw [hx.2]; rfl, fun r => ac0_X_Street_liking a ι r⟩
theorem lt_X_Street_beside : 12 < 82 := by decide
theorem aq_X_Street_beside {cl : List vw_C} {tys : List (ClassId × FieldType)} {ι : Nat → ClassId} (hx : gx_std vwCl (gty ι) cl tys) (a : Nat → Nat) : gx_arrq tys (xX a ι) (12) (.array .int) 8 (fun j => some (a (13 + j))) := ⟨4, ι 4, by rw [hx.2]; rfl, fun _ => rfl⟩
theorem lt_X_Street_beside_row {q : Nat} (hq : q < 8) : 13 + q < 82 := by omega
theorem ac0_X_Street_beside_row (a : Nat → Nat) (ι : Nat → ClassId) (r : Nat → Int32) {q : Nat} (hq : q < 8) : xX a ι (13 + q) r = .inl (ι 0, 6, .inl r) := match q, hq with
  | 0, _ => rfl
  | 1, _ => rfl
  | 2, _ => rfl
  | 3, _ => rfl
  | 4, _ => rfl
  | 5, _ => rfl
  | 6, _ => rfl
  | 7, _ => rfl
  | q + 8, hq => absurd hq (by omega)
theorem ac_X_Street_beside_row {cl : List vw_C} {tys : List (ClassId × FieldType)} {ι : Nat → ClassId} (hx : gx_std vwCl (gty ι) cl tys) (a : Nat → Nat) {q : Nat} (hq : q < 8) : gx_arr tys (xX a ι) (13 + q) .int 6 := ⟨0, ι 0, by rw [hx.2]; rfl, fun r => ac0_X_Street_beside_row a ι r hq⟩
theorem lt_X_Standing {q : Nat} (hq : q < 5) : 21 + 4 * q < 82 := by omega
theorem oc_X_Standing (a : Nat → Nat) (ι : Nat → ClassId) (r : Nat → Int32) {q : Nat} (hq : q < 5) : xX a ι (21 + 4 * q) r = .inr (4, [.ref (a 1), .ref (a (21 + 4 * q + 1)), .ref (a (21 + 4 * q + 2)), .ref (a (21 + 4 * q + 3))]) := match q, hq with
  | 0, _ => rfl
  | 1, _ => rfl
  | 2, _ => rfl
  | 3, _ => rfl
  | 4, _ => rfl
  | q + 5, hq => absurd hq (by omega)
theorem lt_X_Standing_price {q : Nat} (hq : q < 5) : 21 + 4 * q + 1 < 82 := by omega
theorem ac0_X_Standing_price (a : Nat → Nat) (ι : Nat → ClassId) (r : Nat → Int32) {q : Nat} (hq : q < 5) : xX a ι (21 + 4 * q + 1) r = .inl (ι 0, 6, .inl r) := match q, hq with
  | 0, _ => rfl
  | 1, _ => rfl
  | 2, _ => rfl
  | 3, _ => rfl
  | 4, _ => rfl
  | q + 5, hq => absurd hq (by omega)
theorem ac_X_Standing_price {cl : List vw_C} {tys : List (ClassId × FieldType)} {ι : Nat → ClassId} (hx : gx_std vwCl (gty ι) cl tys) (a : Nat → Nat) {q : Nat} (hq : q < 5) : gx_arr tys (xX a ι) (21 + 4 * q + 1) .int 6 := ⟨0, ι 0, by rw [hx.2]; rfl, fun r => ac0_X_Standing_price a ι r hq⟩
theorem lt_X_Standing_whose {q : Nat} (hq : q < 5) : 21 + 4 * q + 2 < 82 := by omega
theorem ac0_X_Standing_whose (a : Nat → Nat) (ι : Nat → ClassId) (r : Nat → Int32) {q : Nat} (hq : q < 5) : xX a ι (21 + 4 * q + 2) r = .inl (ι 0, 6, .inl r) := match q, hq with
  | 0, _ => rfl
  | 1, _ => rfl
  | 2, _ => rfl
  | 3, _ => rfl
  | 4, _ => rfl
  | q + 5, hq => absurd hq (by omega)
theorem ac_X_Standing_whose {cl : List vw_C} {tys : List (ClassId × FieldType)} {ι : Nat → ClassId} (hx : gx_std vwCl (gty ι) cl tys) (a : Nat → Nat) {q : Nat} (hq : q < 5) : gx_arr tys (xX a ι) (21 + 4 * q + 2) .int 6 := ⟨0, ι 0, by rw [hx.2]; rfl, fun r => ac0_X_Standing_whose a ι r hq⟩
theorem lt_X_Standing_in {q : Nat} (hq : q < 5) : 21 + 4 * q + 3 < 82 := by omega
theorem ac0_X_Standing_in (a : Nat → Nat) (ι : Nat → ClassId) (r : Nat → Int32) {q : Nat} (hq : q < 5) : xX a ι (21 + 4 * q + 3) r = .inl (ι 1, 6, .inl r) := match q, hq with
  | 0, _ => rfl
  | 1, _ => rfl
  | 2, _ => rfl
  | 3, _ => rfl
  | 4, _ => rfl
  | q + 5, hq => absurd hq (by omega)
theorem ac_X_Standing_in {cl : List vw_C} {tys : List (ClassId × FieldType)} {ι : Nat → ClassId} (hx : gx_std vwCl (gty ι) cl tys) (a : Nat → Nat) {q : Nat} (hq : q < 5) : gx_arr tys (xX a ι) (21 + 4 * q + 3) .boolean 6 := ⟨1, ι 1, by rw [hx.2]; rfl, fun r => ac0_X_Standing_in a ι r hq⟩
theorem lt_X_Bests : 41 < 82 := by decide
theorem oc_X_Bests (a : Nat → Nat) (ι : Nat → ClassId) (r : Nat → Int32) : xX a ι (41) r = .inr (0, [.ref (a 1), .ref (a 42), .ref (a 43), .ref (a 44), .ref (a 45), .int (r 5), .ref (a 46), .ref (a 51), .ref (a 56), .ref (a 61), .ref (a 62), .int (r 11), .int (r 12)]) := rfl
theorem lt_X_Bests_own : 42 < 82 := by decide
theorem ac0_X_Bests_own (a : Nat → Nat) (ι : Nat → ClassId) (r : Nat → Int32) : xX a ι (42) r = .inl (ι 0, 3, .inl r) := rfl
theorem ac_X_Bests_own {cl : List vw_C} {tys : List (ClassId × FieldType)} {ι : Nat → ClassId} (hx : gx_std vwCl (gty ι) cl tys) (a : Nat → Nat) : gx_arr tys (xX a ι) (42) .int 3 := ⟨0, ι 0, by rw [hx.2]; rfl, fun r => ac0_X_Bests_own a ι r⟩
theorem lt_X_Bests_ownCost : 43 < 82 := by decide
theorem ac0_X_Bests_ownCost (a : Nat → Nat) (ι : Nat → ClassId) (r : Nat → Int32) : xX a ι (43) r = .inl (ι 0, 3, .inl r) := rfl
theorem ac_X_Bests_ownCost {cl : List vw_C} {tys : List (ClassId × FieldType)} {ι : Nat → ClassId} (hx : gx_std vwCl (gty ι) cl tys) (a : Nat → Nat) : gx_arr tys (xX a ι) (43) .int 3 := ⟨0, ι 0, by rw [hx.2]; rfl, fun r => ac0_X_Bests_ownCost a ι r⟩
theorem lt_X_Bests_tried : 44 < 82 := by decide
theorem ac0_X_Bests_tried (a : Nat → Nat) (ι : Nat → ClassId) (r : Nat → Int32) : xX a ι (44) r = .inl (ι 0, 3, .inl r) := rfl
theorem ac_X_Bests_tried {cl : List vw_C} {tys : List (ClassId × FieldType)} {ι : Nat → ClassId} (hx : gx_std vwCl (gty ι) cl tys) (a : Nat → Nat) : gx_arr tys (xX a ι) (44) .int 3 := ⟨0, ι 0, by rw [hx.2]; rfl, fun r => ac0_X_Bests_tried a ι r⟩
theorem lt_X_Bests_chosen : 45 < 82 := by decide
theorem ac0_X_Bests_chosen (a : Nat → Nat) (ι : Nat → ClassId) (r : Nat → Int32) : xX a ι (45) r = .inl (ι 0, 3, .inl r) := rfl
theorem ac_X_Bests_chosen {cl : List vw_C} {tys : List (ClassId × FieldType)} {ι : Nat → ClassId} (hx : gx_std vwCl (gty ι) cl tys) (a : Nat → Nat) : gx_arr tys (xX a ι) (45) .int 3 := ⟨0, ι 0, by rw [hx.2]; rfl, fun r => ac0_X_Bests_chosen a ι r⟩
theorem lt_X_Bests_least : 46 < 82 := by decide
theorem aq_X_Bests_least {cl : List vw_C} {tys : List (ClassId × FieldType)} {ι : Nat → ClassId} (hx : gx_std vwCl (gty ι) cl tys) (a : Nat → Nat) : gx_arrq tys (xX a ι) (46) (.array .int) 4 (fun j => some (a (47 + j))) := ⟨4, ι 4, by rw [hx.2]; rfl, fun _ => rfl⟩
theorem lt_X_Bests_least_row {q : Nat} (hq : q < 4) : 47 + q < 82 := by omega
theorem ac0_X_Bests_least_row (a : Nat → Nat) (ι : Nat → ClassId) (r : Nat → Int32) {q : Nat} (hq : q < 4) : xX a ι (47 + q) r = .inl (ι 0, 8, .inl r) := match q, hq with
  | 0, _ => rfl
  | 1, _ => rfl
  | 2, _ => rfl
  | 3, _ => rfl
  | q + 4, hq => absurd hq (by omega)
theorem ac_X_Bests_least_row {cl : List vw_C} {tys : List (ClassId × FieldType)} {ι : Nat → ClassId} (hx : gx_std vwCl (gty ι) cl tys) (a : Nat → Nat) {q : Nat} (hq : q < 4) : gx_arr tys (xX a ι) (47 + q) .int 8 := ⟨0, ι 0, by rw [hx.2]; rfl, fun r => ac0_X_Bests_least_row a ι r hq⟩
theorem lt_X_Bests_choice : 51 < 82 := by decide
theorem aq_X_Bests_choice {cl : List vw_C} {tys : List (ClassId × FieldType)} {ι : Nat → ClassId} (hx : gx_std vwCl (gty ι) cl tys) (a : Nat → Nat) : gx_arrq tys (xX a ι) (51) (.array .int) 4 (fun j => some (a (52 + j))) := ⟨4, ι 4, by rw [hx.2]; rfl, fun _ => rfl⟩
theorem lt_X_Bests_choice_row {q : Nat} (hq : q < 4) : 52 + q < 82 := by omega
theorem ac0_X_Bests_choice_row (a : Nat → Nat) (ι : Nat → ClassId) (r : Nat → Int32) {q : Nat} (hq : q < 4) : xX a ι (52 + q) r = .inl (ι 0, 8, .inl r) := match q, hq with
  | 0, _ => rfl
  | 1, _ => rfl
  | 2, _ => rfl
  | 3, _ => rfl
  | q + 4, hq => absurd hq (by omega)
theorem ac_X_Bests_choice_row {cl : List vw_C} {tys : List (ClassId × FieldType)} {ι : Nat → ClassId} (hx : gx_std vwCl (gty ι) cl tys) (a : Nat → Nat) {q : Nat} (hq : q < 4) : gx_arr tys (xX a ι) (52 + q) .int 8 := ⟨0, ι 0, by rw [hx.2]; rfl, fun r => ac0_X_Bests_choice_row a ι r hq⟩
theorem lt_X_Bests_earns : 56 < 82 := by decide
theorem aq_X_Bests_earns {cl : List vw_C} {tys : List (ClassId × FieldType)} {ι : Nat → ClassId} (hx : gx_std vwCl (gty ι) cl tys) (a : Nat → Nat) : gx_arrq tys (xX a ι) (56) (.array .int) 4 (fun j => some (a (57 + j))) := ⟨4, ι 4, by rw [hx.2]; rfl, fun _ => rfl⟩
theorem lt_X_Bests_earns_row {q : Nat} (hq : q < 4) : 57 + q < 82 := by omega
theorem ac0_X_Bests_earns_row (a : Nat → Nat) (ι : Nat → ClassId) (r : Nat → Int32) {q : Nat} (hq : q < 4) : xX a ι (57 + q) r = .inl (ι 0, 8, .inl r) := match q, hq with
  | 0, _ => rfl
  | 1, _ => rfl
  | 2, _ => rfl
  | 3, _ => rfl
  | q + 4, hq => absurd hq (by omega)
theorem ac_X_Bests_earns_row {cl : List vw_C} {tys : List (ClassId × FieldType)} {ι : Nat → ClassId} (hx : gx_std vwCl (gty ι) cl tys) (a : Nat → Nat) {q : Nat} (hq : q < 4) : gx_arr tys (xX a ι) (57 + q) .int 8 := ⟨0, ι 0, by rw [hx.2]; rfl, fun r => ac0_X_Bests_earns_row a ι r hq⟩
theorem lt_X_Bests_comers : 61 < 82 := by decide
theorem ac0_X_Bests_comers (a : Nat → Nat) (ι : Nat → ClassId) (r : Nat → Int32) : xX a ι (61) r = .inl (ι 0, 10, .inl r) := rfl
theorem ac_X_Bests_comers {cl : List vw_C} {tys : List (ClassId × FieldType)} {ι : Nat → ClassId} (hx : gx_std vwCl (gty ι) cl tys) (a : Nat → Nat) : gx_arr tys (xX a ι) (61) .int 10 := ⟨0, ι 0, by rw [hx.2]; rfl, fun r => ac0_X_Bests_comers a ι r⟩
theorem lt_X_Bests_elsewhere : 62 < 82 := by decide
theorem ac0_X_Bests_elsewhere (a : Nat → Nat) (ι : Nat → ClassId) (r : Nat → Int32) : xX a ι (62) r = .inl (ι 0, 10, .inl r) := rfl
theorem ac_X_Bests_elsewhere {cl : List vw_C} {tys : List (ClassId × FieldType)} {ι : Nat → ClassId} (hx : gx_std vwCl (gty ι) cl tys) (a : Nat → Nat) : gx_arr tys (xX a ι) (62) .int 10 := ⟨0, ι 0, by rw [hx.2]; rfl, fun r => ac0_X_Bests_elsewhere a ι r⟩
theorem lt_X_Joining : 63 < 82 := by decide
theorem oc_X_Joining (a : Nat → Nat) (ι : Nat → ClassId) (r : Nat → Int32) : xX a ι (63) r = .inr (2, [.ref (a 1), .ref (a 41), .ref (a 33), .ref (a 37), .ref (a 64)]) := rfl
theorem lt_X_Joining_spareBefore : 64 < 82 := by decide
theorem ac0_X_Joining_spareBefore (a : Nat → Nat) (ι : Nat → ClassId) (r : Nat → Int32) : xX a ι (64) r = .inl (ι 0, 8, .inl r) := rfl
theorem ac_X_Joining_spareBefore {cl : List vw_C} {tys : List (ClassId × FieldType)} {ι : Nat → ClassId} (hx : gx_std vwCl (gty ι) cl tys) (a : Nat → Nat) : gx_arr tys (xX a ι) (64) .int 8 := ⟨0, ι 0, by rw [hx.2]; rfl, fun r => ac0_X_Joining_spareBefore a ι r⟩
theorem lt_X_tests : 65 < 82 := by decide
theorem aq_X_tests {cl : List vw_C} {tys : List (ClassId × FieldType)} {ι : Nat → ClassId} (hx : gx_std vwCl (gty ι) cl tys) (a : Nat → Nat) : gx_arrq tys (xX a ι) (65) (.object "ShopsAsOne$Text") 4 (fun j => some (a (66 + 2 * (1 + j)))) := ⟨5, ι 5, by rw [hx.2]; rfl, fun _ => rfl⟩
theorem lt_X_Text {q : Nat} (hq : q < 5) : 66 + 2 * q < 82 := by omega
theorem oc_X_Text (a : Nat → Nat) (ι : Nat → ClassId) (r : Nat → Int32) {q : Nat} (hq : q < 5) : xX a ι (66 + 2 * q) r = .inr (6, [.ref (a (66 + 2 * q + 1)), .int (r 1)]) := match q, hq with
  | 0, _ => rfl
  | 1, _ => rfl
  | 2, _ => rfl
  | 3, _ => rfl
  | 4, _ => rfl
  | q + 5, hq => absurd hq (by omega)
theorem lt_X_Text_letter {q : Nat} (hq : q < 5) : 66 + 2 * q + 1 < 82 := by omega
theorem ac0_X_Text_letter (a : Nat → Nat) (ι : Nat → ClassId) (r : Nat → Int32) {q : Nat} (hq : q < 5) : xX a ι (66 + 2 * q + 1) r = .inl (ι 2, 50, .inl r) := match q, hq with
  | 0, _ => rfl
  | 1, _ => rfl
  | 2, _ => rfl
  | 3, _ => rfl
  | 4, _ => rfl
  | q + 5, hq => absurd hq (by omega)
theorem ac_X_Text_letter {cl : List vw_C} {tys : List (ClassId × FieldType)} {ι : Nat → ClassId} (hx : gx_std vwCl (gty ι) cl tys) (a : Nat → Nat) {q : Nat} (hq : q < 5) : gx_arr tys (xX a ι) (66 + 2 * q + 1) .char 50 := ⟨2, ι 2, by rw [hx.2]; rfl, fun r => ac0_X_Text_letter a ι r hq⟩
theorem lt_X_Grammar : 76 < 82 := by decide
theorem oc_X_Grammar (a : Nat → Nat) (ι : Nat → ClassId) (r : Nat → Int32) : xX a ι (76) r = .inr (1, [.int (r 0), .int (r 1), .int (r 2)]) := rfl
theorem lt_X_Judge : 77 < 82 := by decide
theorem oc_X_Judge (a : Nat → Nat) (ι : Nat → ClassId) (r : Nat → Int32) : xX a ι (77) r = .inr (3, [.ref (a 1), .ref (a 78), .ref (a 79), .ref (a 80), .ref (a 81), .int (r 5), .int (r 6), .int (r 7), .int (r 8), .int (r 9)]) := rfl
theorem lt_X_Judge_sold : 78 < 82 := by decide
theorem ac0_X_Judge_sold (a : Nat → Nat) (ι : Nat → ClassId) (r : Nat → Int32) : xX a ι (78) r = .inl (ι 0, 6, .inl r) := rfl
theorem ac_X_Judge_sold {cl : List vw_C} {tys : List (ClassId × FieldType)} {ι : Nat → ClassId} (hx : gx_std vwCl (gty ι) cl tys) (a : Nat → Nat) : gx_arr tys (xX a ι) (78) .int 6 := ⟨0, ι 0, by rw [hx.2]; rfl, fun r => ac0_X_Judge_sold a ι r⟩
theorem lt_X_Judge_any : 79 < 82 := by decide
theorem ac0_X_Judge_any (a : Nat → Nat) (ι : Nat → ClassId) (r : Nat → Int32) : xX a ι (79) r = .inl (ι 1, 51, .inl r) := rfl
theorem ac_X_Judge_any {cl : List vw_C} {tys : List (ClassId × FieldType)} {ι : Nat → ClassId} (hx : gx_std vwCl (gty ι) cl tys) (a : Nat → Nat) : gx_arr tys (xX a ι) (79) .boolean 51 := ⟨1, ι 1, by rw [hx.2]; rfl, fun r => ac0_X_Judge_any a ι r⟩
theorem lt_X_Judge_all : 80 < 82 := by decide
theorem ac0_X_Judge_all (a : Nat → Nat) (ι : Nat → ClassId) (r : Nat → Int32) : xX a ι (80) r = .inl (ι 1, 51, .inl r) := rfl
theorem ac_X_Judge_all {cl : List vw_C} {tys : List (ClassId × FieldType)} {ι : Nat → ClassId} (hx : gx_std vwCl (gty ι) cl tys) (a : Nat → Nat) : gx_arr tys (xX a ι) (80) .boolean 51 := ⟨1, ι 1, by rw [hx.2]; rfl, fun r => ac0_X_Judge_all a ι r⟩
theorem lt_X_Judge_turned : 81 < 82 := by decide
theorem ac0_X_Judge_turned (a : Nat → Nat) (ι : Nat → ClassId) (r : Nat → Int32) : xX a ι (81) r = .inl (ι 1, 51, .inl r) := rfl
theorem ac_X_Judge_turned {cl : List vw_C} {tys : List (ClassId × FieldType)} {ι : Nat → ClassId} (hx : gx_std vwCl (gty ι) cl tys) (a : Nat → Nat) : gx_arr tys (xX a ι) (81) .boolean 51 := ⟨1, ι 1, by rw [hx.2]; rfl, fun r => ac0_X_Judge_turned a ι r⟩
def xM_L (a : Nat → Nat) (ι : Nat → ClassId) : List ((Nat → Int32) → va_E) := [
  fun r => .inr (8, [.int (r 0), .ref (a 1), .ref (a 2), .ref (a 3), .int (r 4), .ref (a 4), .ref (a 5), .ref (a 6), .ref (a 7), .int (r 9), .ref (a 8), .int (r 11), .ref (a 9), .ref (a 10), .int (r 14), .ref (a 11), .int (r 16), .int (r 17), .int (r 18), .int (r 19), .ref (a 12), .ref (a 13), .ref (a 14), .int (r 23), .ref (a 15), .ref (a 16), .int (r 26), .int (r 27), .ref (a 17), .ref (a 18), .ref (a 19), .ref (a 20), .ref (a 21), .ref (a 22), .int (r 34), .int (r 35), .int (r 36), .ref (a 23), .ref (a 24), .ref (a 25), .int (r 40), .long (gx_mk (r 182) (r 183))]),
  fun r => .inl (ι 0, 6, .inl r),
  fun r => .inl (ι 0, 6, .inl r),
  fun r => .inl (ι 1, 6, .inl r),
  fun r => .inl (ι 0, 6, .inl r),
  fun r => .inl (ι 0, 6, .inl r),
  fun r => .inl (ι 0, 6, .inl r),
  fun r => .inl (ι 0, 6, .inl r),
  fun r => .inl (ι 0, 48, .inl r),
  fun r => .inl (ι 3, 200, .inl r),
  fun r => .inl (ι 0, 4, .inl r),
  fun r => .inl (ι 3, 50, .inl r),
  fun r => .inl (ι 0, 6, .inl r),
  fun r => .inl (ι 0, 6, .inl r),
  fun r => .inl (ι 1, 6, .inl r),
  fun r => .inl (ι 0, 6, .inl r),
  fun r => .inl (ι 0, 6, .inl r),
  fun r => .inl (ι 0, 6, .inl r),
  fun r => .inl (ι 0, 6, .inl r),
  fun r => .inl (ι 0, 6, .inl r),
  fun r => .inl (ι 1, 6, .inl r),
  fun r => .inl (ι 0, 8, .inl r),
  fun r => .inl (ι 0, 8, .inl r),
  fun r => .inl (ι 1, 51, .inl r),
  fun r => .inl (ι 1, 51, .inl r),
  fun r => .inl (ι 1, 51, .inl r)]
def xM (a : Nat → Nat) (ι : Nat → ClassId) (k : Nat) (r : Nat → Int32) : va_E := ((xM_L a ι).getD k (fun _ => .inr (0, []))) r
abbrev wM (a : Nat → Nat) (ι : Nat → ClassId) : gx_S → va_W := gx_w 26 a (xM a ι)
theorem lt_M_Model : 0 < 26 := by decide
theorem oc_M_Model (a : Nat → Nat) (ι : Nat → ClassId) (r : Nat → Int32) : xM a ι (0) r = .inr (8, [.int (r 0), .ref (a 1), .ref (a 2), .ref (a 3), .int (r 4), .ref (a 4), .ref (a 5), .ref (a 6), .ref (a 7), .int (r 9), .ref (a 8), .int (r 11), .ref (a 9), .ref (a 10), .int (r 14), .ref (a 11), .int (r 16), .int (r 17), .int (r 18), .int (r 19), .ref (a 12), .ref (a 13), .ref (a 14), .int (r 23), .ref (a 15), .ref (a 16), .int (r 26), .int (r 27), .ref (a 17), .ref (a 18), .ref (a 19), .ref (a 20), .ref (a 21), .ref (a 22), .int (r 34), .int (r 35), .int (r 36), .ref (a 23), .ref (a 24), .ref (a 25), .int (r 40), .long (gx_mk (r 182) (r 183))]) := rfl
theorem lt_M_M_kindOf : 1 < 26 := by decide
theorem ac0_M_M_kindOf (a : Nat → Nat) (ι : Nat → ClassId) (r : Nat → Int32) : xM a ι (1) r = .inl (ι 0, 6, .inl r) := rfl
theorem ac_M_M_kindOf {cl : List vw_C} {tys : List (ClassId × FieldType)} {ι : Nat → ClassId} (hx : gx_std vwCl (gty ι) cl tys) (a : Nat → Nat) : gx_arr tys (xM a ι) (1) .int 6 := ⟨0, ι 0, by rw [hx.2]; rfl, fun r => ac0_M_M_kindOf a ι r⟩
theorem lt_M_M_nOf : 2 < 26 := by decide
theorem ac0_M_M_nOf (a : Nat → Nat) (ι : Nat → ClassId) (r : Nat → Int32) : xM a ι (2) r = .inl (ι 0, 6, .inl r) := rfl
theorem ac_M_M_nOf {cl : List vw_C} {tys : List (ClassId × FieldType)} {ι : Nat → ClassId} (hx : gx_std vwCl (gty ι) cl tys) (a : Nat → Nat) : gx_arr tys (xM a ι) (2) .int 6 := ⟨0, ι 0, by rw [hx.2]; rfl, fun r => ac0_M_M_nOf a ι r⟩
theorem lt_M_M_isIn : 3 < 26 := by decide
theorem ac0_M_M_isIn (a : Nat → Nat) (ι : Nat → ClassId) (r : Nat → Int32) : xM a ι (3) r = .inl (ι 1, 6, .inl r) := rfl
theorem ac_M_M_isIn {cl : List vw_C} {tys : List (ClassId × FieldType)} {ι : Nat → ClassId} (hx : gx_std vwCl (gty ι) cl tys) (a : Nat → Nat) : gx_arr tys (xM a ι) (3) .boolean 6 := ⟨1, ι 1, by rw [hx.2]; rfl, fun r => ac0_M_M_isIn a ι r⟩
theorem lt_M_M_ownerOf : 4 < 26 := by decide
theorem ac0_M_M_ownerOf (a : Nat → Nat) (ι : Nat → ClassId) (r : Nat → Int32) : xM a ι (4) r = .inl (ι 0, 6, .inl r) := rfl
theorem ac_M_M_ownerOf {cl : List vw_C} {tys : List (ClassId × FieldType)} {ι : Nat → ClassId} (hx : gx_std vwCl (gty ι) cl tys) (a : Nat → Nat) : gx_arr tys (xM a ι) (4) .int 6 := ⟨0, ι 0, by rw [hx.2]; rfl, fun r => ac0_M_M_ownerOf a ι r⟩
theorem lt_M_M_placeOf : 5 < 26 := by decide
theorem ac0_M_M_placeOf (a : Nat → Nat) (ι : Nat → ClassId) (r : Nat → Int32) : xM a ι (5) r = .inl (ι 0, 6, .inl r) := rfl
theorem ac_M_M_placeOf {cl : List vw_C} {tys : List (ClassId × FieldType)} {ι : Nat → ClassId} (hx : gx_std vwCl (gty ι) cl tys) (a : Nat → Nat) : gx_arr tys (xM a ι) (5) .int 6 := ⟨0, ι 0, by rw [hx.2]; rfl, fun r => ac0_M_M_placeOf a ι r⟩
theorem lt_M_M_costOf : 6 < 26 := by decide
theorem ac0_M_M_costOf (a : Nat → Nat) (ι : Nat → ClassId) (r : Nat → Int32) : xM a ι (6) r = .inl (ι 0, 6, .inl r) := rfl
theorem ac_M_M_costOf {cl : List vw_C} {tys : List (ClassId × FieldType)} {ι : Nat → ClassId} (hx : gx_std vwCl (gty ι) cl tys) (a : Nat → Nat) : gx_arr tys (xM a ι) (6) .int 6 := ⟨0, ι 0, by rw [hx.2]; rfl, fun r => ac0_M_M_costOf a ι r⟩
theorem lt_M_M_priceOf : 7 < 26 := by decide
theorem ac0_M_M_priceOf (a : Nat → Nat) (ι : Nat → ClassId) (r : Nat → Int32) : xM a ι (7) r = .inl (ι 0, 6, .inl r) := rfl
theorem ac_M_M_priceOf {cl : List vw_C} {tys : List (ClassId × FieldType)} {ι : Nat → ClassId} (hx : gx_std vwCl (gty ι) cl tys) (a : Nat → Nat) : gx_arr tys (xM a ι) (7) .int 6 := ⟨0, ι 0, by rw [hx.2]; rfl, fun r => ac0_M_M_priceOf a ι r⟩
theorem lt_M_M_sortOf : 8 < 26 := by decide
theorem ac0_M_M_sortOf (a : Nat → Nat) (ι : Nat → ClassId) (r : Nat → Int32) : xM a ι (8) r = .inl (ι 0, 48, .inl r) := rfl
theorem ac_M_M_sortOf {cl : List vw_C} {tys : List (ClassId × FieldType)} {ι : Nat → ClassId} (hx : gx_std vwCl (gty ι) cl tys) (a : Nat → Nat) : gx_arr tys (xM a ι) (8) .int 48 := ⟨0, ι 0, by rw [hx.2]; rfl, fun r => ac0_M_M_sortOf a ι r⟩
theorem lt_M_M_testText : 9 < 26 := by decide
theorem ac0_M_M_testText (a : Nat → Nat) (ι : Nat → ClassId) (r : Nat → Int32) : xM a ι (9) r = .inl (ι 3, 200, .inl r) := rfl
theorem ac_M_M_testText {cl : List vw_C} {tys : List (ClassId × FieldType)} {ι : Nat → ClassId} (hx : gx_std vwCl (gty ι) cl tys) (a : Nat → Nat) : gx_arr tys (xM a ι) (9) .byte 200 := ⟨3, ι 3, by rw [hx.2]; rfl, fun r => ac0_M_M_testText a ι r⟩
theorem lt_M_M_testSize : 10 < 26 := by decide
theorem ac0_M_M_testSize (a : Nat → Nat) (ι : Nat → ClassId) (r : Nat → Int32) : xM a ι (10) r = .inl (ι 0, 4, .inl r) := rfl
theorem ac_M_M_testSize {cl : List vw_C} {tys : List (ClassId × FieldType)} {ι : Nat → ClassId} (hx : gx_std vwCl (gty ι) cl tys) (a : Nat → Nat) : gx_arr tys (xM a ι) (10) .int 4 := ⟨0, ι 0, by rw [hx.2]; rfl, fun r => ac0_M_M_testSize a ι r⟩
theorem lt_M_M_page : 11 < 26 := by decide
theorem ac0_M_M_page (a : Nat → Nat) (ι : Nat → ClassId) (r : Nat → Int32) : xM a ι (11) r = .inl (ι 3, 50, .inl r) := rfl
theorem ac_M_M_page {cl : List vw_C} {tys : List (ClassId × FieldType)} {ι : Nat → ClassId} (hx : gx_std vwCl (gty ι) cl tys) (a : Nat → Nat) : gx_arr tys (xM a ι) (11) .byte 50 := ⟨3, ι 3, by rw [hx.2]; rfl, fun r => ac0_M_M_page a ι r⟩
theorem lt_M_M_keptPrice : 12 < 26 := by decide
theorem ac0_M_M_keptPrice (a : Nat → Nat) (ι : Nat → ClassId) (r : Nat → Int32) : xM a ι (12) r = .inl (ι 0, 6, .inl r) := rfl
theorem ac_M_M_keptPrice {cl : List vw_C} {tys : List (ClassId × FieldType)} {ι : Nat → ClassId} (hx : gx_std vwCl (gty ι) cl tys) (a : Nat → Nat) : gx_arr tys (xM a ι) (12) .int 6 := ⟨0, ι 0, by rw [hx.2]; rfl, fun r => ac0_M_M_keptPrice a ι r⟩
theorem lt_M_M_keptOwner : 13 < 26 := by decide
theorem ac0_M_M_keptOwner (a : Nat → Nat) (ι : Nat → ClassId) (r : Nat → Int32) : xM a ι (13) r = .inl (ι 0, 6, .inl r) := rfl
theorem ac_M_M_keptOwner {cl : List vw_C} {tys : List (ClassId × FieldType)} {ι : Nat → ClassId} (hx : gx_std vwCl (gty ι) cl tys) (a : Nat → Nat) : gx_arr tys (xM a ι) (13) .int 6 := ⟨0, ι 0, by rw [hx.2]; rfl, fun r => ac0_M_M_keptOwner a ι r⟩
theorem lt_M_M_keptIn : 14 < 26 := by decide
theorem ac0_M_M_keptIn (a : Nat → Nat) (ι : Nat → ClassId) (r : Nat → Int32) : xM a ι (14) r = .inl (ι 1, 6, .inl r) := rfl
theorem ac_M_M_keptIn {cl : List vw_C} {tys : List (ClassId × FieldType)} {ι : Nat → ClassId} (hx : gx_std vwCl (gty ι) cl tys) (a : Nat → Nat) : gx_arr tys (xM a ι) (14) .boolean 6 := ⟨1, ι 1, by rw [hx.2]; rfl, fun r => ac0_M_M_keptIn a ι r⟩
theorem lt_M_M_soldNow : 15 < 26 := by decide
theorem ac0_M_M_soldNow (a : Nat → Nat) (ι : Nat → ClassId) (r : Nat → Int32) : xM a ι (15) r = .inl (ι 0, 6, .inl r) := rfl
theorem ac_M_M_soldNow {cl : List vw_C} {tys : List (ClassId × FieldType)} {ι : Nat → ClassId} (hx : gx_std vwCl (gty ι) cl tys) (a : Nat → Nat) : gx_arr tys (xM a ι) (15) .int 6 := ⟨0, ι 0, by rw [hx.2]; rfl, fun r => ac0_M_M_soldNow a ι r⟩
theorem lt_M_M_bestPrice : 16 < 26 := by decide
theorem ac0_M_M_bestPrice (a : Nat → Nat) (ι : Nat → ClassId) (r : Nat → Int32) : xM a ι (16) r = .inl (ι 0, 6, .inl r) := rfl
theorem ac_M_M_bestPrice {cl : List vw_C} {tys : List (ClassId × FieldType)} {ι : Nat → ClassId} (hx : gx_std vwCl (gty ι) cl tys) (a : Nat → Nat) : gx_arr tys (xM a ι) (16) .int 6 := ⟨0, ι 0, by rw [hx.2]; rfl, fun r => ac0_M_M_bestPrice a ι r⟩
theorem lt_M_M_tried : 17 < 26 := by decide
theorem ac0_M_M_tried (a : Nat → Nat) (ι : Nat → ClassId) (r : Nat → Int32) : xM a ι (17) r = .inl (ι 0, 6, .inl r) := rfl
theorem ac_M_M_tried {cl : List vw_C} {tys : List (ClassId × FieldType)} {ι : Nat → ClassId} (hx : gx_std vwCl (gty ι) cl tys) (a : Nat → Nat) : gx_arr tys (xM a ι) (17) .int 6 := ⟨0, ι 0, by rw [hx.2]; rfl, fun r => ac0_M_M_tried a ι r⟩
theorem lt_M_M_wasPrice : 18 < 26 := by decide
theorem ac0_M_M_wasPrice (a : Nat → Nat) (ι : Nat → ClassId) (r : Nat → Int32) : xM a ι (18) r = .inl (ι 0, 6, .inl r) := rfl
theorem ac_M_M_wasPrice {cl : List vw_C} {tys : List (ClassId × FieldType)} {ι : Nat → ClassId} (hx : gx_std vwCl (gty ι) cl tys) (a : Nat → Nat) : gx_arr tys (xM a ι) (18) .int 6 := ⟨0, ι 0, by rw [hx.2]; rfl, fun r => ac0_M_M_wasPrice a ι r⟩
theorem lt_M_M_wasOwner : 19 < 26 := by decide
theorem ac0_M_M_wasOwner (a : Nat → Nat) (ι : Nat → ClassId) (r : Nat → Int32) : xM a ι (19) r = .inl (ι 0, 6, .inl r) := rfl
theorem ac_M_M_wasOwner {cl : List vw_C} {tys : List (ClassId × FieldType)} {ι : Nat → ClassId} (hx : gx_std vwCl (gty ι) cl tys) (a : Nat → Nat) : gx_arr tys (xM a ι) (19) .int 6 := ⟨0, ι 0, by rw [hx.2]; rfl, fun r => ac0_M_M_wasOwner a ι r⟩
theorem lt_M_M_wasIn : 20 < 26 := by decide
theorem ac0_M_M_wasIn (a : Nat → Nat) (ι : Nat → ClassId) (r : Nat → Int32) : xM a ι (20) r = .inl (ι 1, 6, .inl r) := rfl
theorem ac_M_M_wasIn {cl : List vw_C} {tys : List (ClassId × FieldType)} {ι : Nat → ClassId} (hx : gx_std vwCl (gty ι) cl tys) (a : Nat → Nat) : gx_arr tys (xM a ι) (20) .boolean 6 := ⟨1, ι 1, by rw [hx.2]; rfl, fun r => ac0_M_M_wasIn a ι r⟩
theorem lt_M_M_spareBefore : 21 < 26 := by decide
theorem ac0_M_M_spareBefore (a : Nat → Nat) (ι : Nat → ClassId) (r : Nat → Int32) : xM a ι (21) r = .inl (ι 0, 8, .inl r) := rfl
theorem ac_M_M_spareBefore {cl : List vw_C} {tys : List (ClassId × FieldType)} {ι : Nat → ClassId} (hx : gx_std vwCl (gty ι) cl tys) (a : Nat → Nat) : gx_arr tys (xM a ι) (21) .int 8 := ⟨0, ι 0, by rw [hx.2]; rfl, fun r => ac0_M_M_spareBefore a ι r⟩
theorem lt_M_M_spareBehind : 22 < 26 := by decide
theorem ac0_M_M_spareBehind (a : Nat → Nat) (ι : Nat → ClassId) (r : Nat → Int32) : xM a ι (22) r = .inl (ι 0, 8, .inl r) := rfl
theorem ac_M_M_spareBehind {cl : List vw_C} {tys : List (ClassId × FieldType)} {ι : Nat → ClassId} (hx : gx_std vwCl (gty ι) cl tys) (a : Nat → Nat) : gx_arr tys (xM a ι) (22) .int 8 := ⟨0, ι 0, by rw [hx.2]; rfl, fun r => ac0_M_M_spareBehind a ι r⟩
theorem lt_M_M_anyTerm : 23 < 26 := by decide
theorem ac0_M_M_anyTerm (a : Nat → Nat) (ι : Nat → ClassId) (r : Nat → Int32) : xM a ι (23) r = .inl (ι 1, 51, .inl r) := rfl
theorem ac_M_M_anyTerm {cl : List vw_C} {tys : List (ClassId × FieldType)} {ι : Nat → ClassId} (hx : gx_std vwCl (gty ι) cl tys) (a : Nat → Nat) : gx_arr tys (xM a ι) (23) .boolean 51 := ⟨1, ι 1, by rw [hx.2]; rfl, fun r => ac0_M_M_anyTerm a ι r⟩
theorem lt_M_M_allFactors : 24 < 26 := by decide
theorem ac0_M_M_allFactors (a : Nat → Nat) (ι : Nat → ClassId) (r : Nat → Int32) : xM a ι (24) r = .inl (ι 1, 51, .inl r) := rfl
theorem ac_M_M_allFactors {cl : List vw_C} {tys : List (ClassId × FieldType)} {ι : Nat → ClassId} (hx : gx_std vwCl (gty ι) cl tys) (a : Nat → Nat) : gx_arr tys (xM a ι) (24) .boolean 51 := ⟨1, ι 1, by rw [hx.2]; rfl, fun r => ac0_M_M_allFactors a ι r⟩
theorem lt_M_M_isDenied : 25 < 26 := by decide
theorem ac0_M_M_isDenied (a : Nat → Nat) (ι : Nat → ClassId) (r : Nat → Int32) : xM a ι (25) r = .inl (ι 1, 51, .inl r) := rfl
theorem ac_M_M_isDenied {cl : List vw_C} {tys : List (ClassId × FieldType)} {ι : Nat → ClassId} (hx : gx_std vwCl (gty ι) cl tys) (a : Nat → Nat) : gx_arr tys (xM a ι) (25) .boolean 51 := ⟨1, ι 1, by rw [hx.2]; rfl, fun r => ac0_M_M_isDenied a ι r⟩

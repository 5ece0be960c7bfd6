theorem tb1 {w : Cond} (h : w ∈ tables_1_1) : w ∈ lw_tbl := List.mem_append_right _ (List.mem_append_left _ h)
theorem tb2 {w : Cond} (h : w ∈ tables_1_2) : w ∈ lw_tbl := List.mem_append_right _ (List.mem_append_right _ (List.mem_append_left _ h))
theorem tb3 {w : Cond} (h : w ∈ tables_1_3) : w ∈ lw_tbl := List.mem_append_right _ (List.mem_append_right _ (List.mem_append_right _ (List.mem_append_left _ h)))
theorem tb4 {w : Cond} (h : w ∈ tables_1_4) : w ∈ lw_tbl := List.mem_append_right _ (List.mem_append_right _ (List.mem_append_right _ (List.mem_append_right _ (List.mem_append_left _ h))))
theorem tb5 {w : Cond} (h : w ∈ tables_1_5) : w ∈ lw_tbl := List.mem_append_right _ (List.mem_append_right _ (List.mem_append_right _ (List.mem_append_right _ (List.mem_append_right _ (List.mem_append_left _ h)))))
theorem tb6 {w : Cond} (h : w ∈ tables_1_6) : w ∈ lw_tbl := List.mem_append_right _ (List.mem_append_right _ (List.mem_append_right _ (List.mem_append_right _ (List.mem_append_right _ (List.mem_append_right _ (h))))))
theorem inX7 : ∀ w ∈ u_ws RX7 TX7 2, w ∈ gW := fun w h => gW_of ((by decide +kernel : ∀ w ∈ u_ws RX7 TX7 2, w ∈ lw_tbl) w h) ((by decide +kernel : ∀ w ∈ u_ws RX7 TX7 2, goodWord w = true) w h)
theorem lkX7_9 : gLk RX7 9 7 1 := Or.inr ⟨RX7, TX7, 2, rfl, by decide, inX7, gW_of (tb1 (List.mem_of_getElem? (i := 36) rfl)) rfl⟩
theorem lpX7_9 : gLp RX7 9 7 1 (.int) false := ⟨RX7, TX7, 2, tyX7, rfl, by decide, inX7, gW_of (tb1 (List.mem_of_getElem? (i := 36) rfl)) rfl, tyX7_ok, nmX7, rfl, rfl, (fun h => by cases h)⟩
theorem inX0 : ∀ w ∈ u_ws RX0 TX0 8, w ∈ gW := fun w h => gW_of ((by decide +kernel : ∀ w ∈ u_ws RX0 TX0 8, w ∈ lw_tbl) w h) ((by decide +kernel : ∀ w ∈ u_ws RX0 TX0 8, goodWord w = true) w h)
theorem lkX0_14 : gLk RX0 14 0 0 := Or.inr ⟨RX0, TX0, 8, rfl, by decide, inX0, gW_of (tb1 (List.mem_of_getElem? (i := 81) rfl)) rfl⟩
theorem kiX7 : Cond.initialized RX7 ∈ gW := gW_of (tb1 (List.mem_of_getElem? (i := 2) rfl)) rfl
theorem cwX7_empty : Cond.code yX7_empty cX7_empty 1 none ∈ gW := gW_of (tb2 (List.mem_of_getElem? (i := 123) rfl)) rfl
theorem kvX0_45 : gKv RX0 45 yX7_empty cX7_empty 1 none 7 0 := ⟨Or.inr ⟨_, rfl, rfl⟩, cwX7_empty, gW_of (tb3 (List.mem_of_getElem? (i := 186) rfl)) rfl, gW_of (tb2 (List.mem_of_getElem? (i := 121) rfl)) rfl, gW_of (tb2 (List.mem_of_getElem? (i := 122) rfl)) rfl, kiX7, ⟨by decide +kernel, by decide +kernel, by decide +kernel⟩⟩
theorem lkX0_20 : gLk RX0 20 0 1 := Or.inr ⟨RX0, TX0, 8, rfl, by decide, inX0, gW_of (tb1 (List.mem_of_getElem? (i := 84) rfl)) rfl⟩
theorem kcX0_23 : Cond.constantLong RX0 23 (-1 : Int64) ∈ gW := gW_of (tb1 (List.mem_of_getElem? (i := 80) rfl)) rfl
theorem lkX0_25 : gLk RX0 25 0 2 := Or.inr ⟨RX0, TX0, 8, rfl, by decide, inX0, gW_of (tb1 (List.mem_of_getElem? (i := 87) rfl)) rfl⟩
theorem lpX0_25 : gLp RX0 25 0 2 (.long) false := ⟨RX0, TX0, 8, tyX0, rfl, by decide, inX0, gW_of (tb1 (List.mem_of_getElem? (i := 87) rfl)) rfl, tyX0_ok, nmX0, rfl, rfl, (fun h => by cases h)⟩
theorem lkX0_29 : gLk RX0 29 0 3 := Or.inr ⟨RX0, TX0, 8, rfl, by decide, inX0, gW_of (tb1 (List.mem_of_getElem? (i := 90) rfl)) rfl⟩
theorem lpX0_29 : gLp RX0 29 0 3 (.long) false := ⟨RX0, TX0, 8, tyX0, rfl, by decide, inX0, gW_of (tb1 (List.mem_of_getElem? (i := 90) rfl)) rfl, tyX0_ok, nmX0, rfl, rfl, (fun h => by cases h)⟩
theorem lkX0_32 : gLk RX0 32 0 4 := Or.inr ⟨RX0, TX0, 8, rfl, by decide, inX0, gW_of (tb1 (List.mem_of_getElem? (i := 93) rfl)) rfl⟩
theorem lpX0_32 : gLp RX0 32 0 4 (.long) false := ⟨RX0, TX0, 8, tyX0, rfl, by decide, inX0, gW_of (tb1 (List.mem_of_getElem? (i := 93) rfl)) rfl, tyX0_ok, nmX0, rfl, rfl, (fun h => by cases h)⟩
theorem lkX0_35 : gLk RX0 35 0 5 := Or.inr ⟨RX0, TX0, 8, rfl, by decide, inX0, gW_of (tb1 (List.mem_of_getElem? (i := 96) rfl)) rfl⟩
theorem lpX0_35 : gLp RX0 35 0 5 (.boolean) false := ⟨RX0, TX0, 8, tyX0, rfl, by decide, inX0, gW_of (tb1 (List.mem_of_getElem? (i := 96) rfl)) rfl, tyX0_ok, nmX0, rfl, rfl, (fun h => by cases h)⟩
theorem cwX7_count : Cond.code yX7_count cX7_count 1 (some .int) ∈ gW := gW_of (tb2 (List.mem_of_getElem? (i := 80) rfl)) rfl
theorem kvX0_48 : gKv RX0 48 yX7_count cX7_count 1 (some .int) 7 0 := ⟨Or.inr ⟨_, rfl, rfl⟩, cwX7_count, gW_of (tb3 (List.mem_of_getElem? (i := 192) rfl)) rfl, gW_of (tb2 (List.mem_of_getElem? (i := 78) rfl)) rfl, gW_of (tb2 (List.mem_of_getElem? (i := 79) rfl)) rfl, kiX7, ⟨by decide +kernel, by decide +kernel, by decide +kernel⟩⟩
theorem lkX7_21 : gLk RX7 21 7 0 := Or.inr ⟨RX7, TX7, 2, rfl, by decide, inX7, gW_of (tb1 (List.mem_of_getElem? (i := 35) rfl)) rfl⟩
theorem cwX7_at : Cond.code yX7_at cX7_at 2 (some .int) ∈ gW := gW_of (tb2 (List.mem_of_getElem? (i := 103) rfl)) rfl
theorem kvX7_33 : gKv RX7 33 yX7_at cX7_at 2 (some .int) 7 1 := ⟨Or.inr ⟨_, rfl, rfl⟩, cwX7_at, gW_of (tb2 (List.mem_of_getElem? (i := 100) rfl)) rfl, gW_of (tb2 (List.mem_of_getElem? (i := 101) rfl)) rfl, gW_of (tb2 (List.mem_of_getElem? (i := 102) rfl)) rfl, kiX7, ⟨by decide +kernel, by decide +kernel, by decide +kernel⟩⟩
theorem kcX7_59 : Cond.constantLong RX7 59 (-1 : Int64) ∈ gW := gW_of (tb4 (List.mem_of_getElem? (i := 105) rfl)) rfl
theorem kcX7_51 : Cond.constantLong RX7 51 (10 : Int64) ∈ gW := gW_of (tb2 (List.mem_of_getElem? (i := 226) rfl)) rfl
theorem lkX0_39 : gLk RX0 39 0 6 := Or.inr ⟨RX0, TX0, 8, rfl, by decide, inX0, gW_of (tb1 (List.mem_of_getElem? (i := 98) rfl)) rfl⟩
theorem lpX0_39 : gLp RX0 39 0 6 (.long) false := ⟨RX0, TX0, 8, tyX0, rfl, by decide, inX0, gW_of (tb1 (List.mem_of_getElem? (i := 98) rfl)) rfl, tyX0_ok, nmX0, rfl, rfl, (fun h => by cases h)⟩
theorem lkX0_42 : gLk RX0 42 0 7 := Or.inr ⟨RX0, TX0, 8, rfl, by decide, inX0, gW_of (tb1 (List.mem_of_getElem? (i := 100) rfl)) rfl⟩
theorem lpX0_42 : gLp RX0 42 0 7 (.long) false := ⟨RX0, TX0, 8, tyX0, rfl, by decide, inX0, gW_of (tb1 (List.mem_of_getElem? (i := 100) rfl)) rfl, tyX0_ok, nmX0, rfl, rfl, (fun h => by cases h)⟩
theorem kcX0_66 : Cond.constantLong RX0 66 (1000000000 : Int64) ∈ gW := gW_of (tb4 (List.mem_of_getElem? (i := 107) rfl)) rfl
theorem kcX0_64 : Cond.constantLong RX0 64 (10 : Int64) ∈ gW := gW_of (tb4 (List.mem_of_getElem? (i := 106) rfl)) rfl
theorem cwX7_find : Cond.code yX7_find cX7_find 5 (some .int) ∈ gW := gW_of (tb2 (List.mem_of_getElem? (i := 99) rfl)) rfl
theorem kvX0_56 : gKv RX0 56 yX7_find cX7_find 5 (some .int) 7 3 := ⟨Or.inr ⟨_, rfl, rfl⟩, cwX7_find, gW_of (tb4 (List.mem_of_getElem? (i := 100) rfl)) rfl, gW_of (tb2 (List.mem_of_getElem? (i := 97) rfl)) rfl, gW_of (tb2 (List.mem_of_getElem? (i := 98) rfl)) rfl, kiX7, ⟨by decide +kernel, by decide +kernel, by decide +kernel⟩⟩
theorem cwX7_decimal : Cond.code yX7_decimal cX7_decimal 8 (some .long) ∈ gW := gW_of (tb4 (List.mem_of_getElem? (i := 104) rfl)) rfl
theorem kvX0_60 : gKv RX0 60 yX7_decimal cX7_decimal 8 (some .long) 7 3 := ⟨Or.inr ⟨_, rfl, rfl⟩, cwX7_decimal, gW_of (tb4 (List.mem_of_getElem? (i := 101) rfl)) rfl, gW_of (tb4 (List.mem_of_getElem? (i := 102) rfl)) rfl, gW_of (tb4 (List.mem_of_getElem? (i := 103) rfl)) rfl, kiX7, ⟨by decide +kernel, by decide +kernel, by decide +kernel⟩⟩
theorem kvX0_52 : gKv RX0 52 yX7_at cX7_at 2 (some .int) 7 1 := ⟨Or.inr ⟨_, rfl, rfl⟩, cwX7_at, gW_of (tb4 (List.mem_of_getElem? (i := 99) rfl)) rfl, gW_of (tb2 (List.mem_of_getElem? (i := 101) rfl)) rfl, gW_of (tb2 (List.mem_of_getElem? (i := 102) rfl)) rfl, kiX7, ⟨by decide +kernel, by decide +kernel, by decide +kernel⟩⟩
theorem inX1 : ∀ w ∈ u_ws RX1 TX1 9, w ∈ gW := fun w h => gW_of ((by decide +kernel : ∀ w ∈ u_ws RX1 TX1 9, w ∈ lw_tbl) w h) ((by decide +kernel : ∀ w ∈ u_ws RX1 TX1 9, goodWord w = true) w h)
theorem lkX1_34 : gLk RX1 34 1 7 := Or.inr ⟨RX1, TX1, 9, rfl, by decide, inX1, gW_of (tb1 (List.mem_of_getElem? (i := 221) rfl)) rfl⟩
theorem lkX1_11 : gLk RX1 11 1 1 := Or.inr ⟨RX1, TX1, 9, rfl, by decide, inX1, gW_of (tb1 (List.mem_of_getElem? (i := 214) rfl)) rfl⟩
theorem inX4 : ∀ w ∈ u_ws RX4 TX4 2, w ∈ gW := fun w h => gW_of ((by decide +kernel : ∀ w ∈ u_ws RX4 TX4 2, w ∈ lw_tbl) w h) ((by decide +kernel : ∀ w ∈ u_ws RX4 TX4 2, goodWord w = true) w h)
theorem lkX4_7 : gLk RX4 7 4 0 := Or.inr ⟨RX4, TX4, 2, rfl, by decide, inX4, gW_of (tb1 (List.mem_of_getElem? (i := 125) rfl)) rfl⟩
theorem lpX4_7 : gLp RX4 7 4 0 (.int) false := ⟨RX4, TX4, 2, tyX4, rfl, by decide, inX4, gW_of (tb1 (List.mem_of_getElem? (i := 125) rfl)) rfl, tyX4_ok, nmX4, rfl, rfl, (fun h => by cases h)⟩
theorem lkX4_13 : gLk RX4 13 4 1 := Or.inr ⟨RX4, TX4, 2, rfl, by decide, inX4, gW_of (tb1 (List.mem_of_getElem? (i := 127) rfl)) rfl⟩
theorem lpX4_13 : gLp RX4 13 4 1 (.int) false := ⟨RX4, TX4, 2, tyX4, rfl, by decide, inX4, gW_of (tb1 (List.mem_of_getElem? (i := 127) rfl)) rfl, tyX4_ok, nmX4, rfl, rfl, (fun h => by cases h)⟩
theorem lkX1_41 : gLk RX1 41 1 0 := Or.inr ⟨RX1, TX1, 9, rfl, by decide, inX1, gW_of (tb1 (List.mem_of_getElem? (i := 213) rfl)) rfl⟩
theorem kvX1_94 : gKv RX1 94 yX7_at cX7_at 2 (some .int) 7 1 := ⟨Or.inr ⟨_, rfl, rfl⟩, cwX7_at, gW_of (tb3 (List.mem_of_getElem? (i := 201) rfl)) rfl, gW_of (tb2 (List.mem_of_getElem? (i := 101) rfl)) rfl, gW_of (tb2 (List.mem_of_getElem? (i := 102) rfl)) rfl, kiX7, ⟨by decide +kernel, by decide +kernel, by decide +kernel⟩⟩
theorem kvX1_68 : gKv RX1 68 yX7_count cX7_count 1 (some .int) 7 0 := ⟨Or.inr ⟨_, rfl, rfl⟩, cwX7_count, gW_of (tb3 (List.mem_of_getElem? (i := 187) rfl)) rfl, gW_of (tb2 (List.mem_of_getElem? (i := 78) rfl)) rfl, gW_of (tb2 (List.mem_of_getElem? (i := 79) rfl)) rfl, kiX7, ⟨by decide +kernel, by decide +kernel, by decide +kernel⟩⟩
theorem kiX1 : Cond.initialized RX1 ∈ gW := gW_of (tb1 (List.mem_of_getElem? (i := 5) rfl)) rfl
theorem cwX1_isBlank : Cond.code yX1_isBlank cX1_isBlank 3 (some .boolean) ∈ gW := gW_of (tb3 (List.mem_of_getElem? (i := 200) rfl)) rfl
theorem kvX1_82 : gKv RX1 82 yX1_isBlank cX1_isBlank 3 (some .boolean) 1 1 := ⟨Or.inr ⟨_, rfl, rfl⟩, cwX1_isBlank, gW_of (tb3 (List.mem_of_getElem? (i := 197) rfl)) rfl, gW_of (tb3 (List.mem_of_getElem? (i := 199) rfl)) rfl, gW_of (List.mem_of_getElem? (i := 19) rfl) rfl, kiX1, ⟨by decide +kernel, by decide +kernel, by decide +kernel⟩⟩
theorem lkX1_38 : gLk RX1 38 1 8 := Or.inr ⟨RX1, TX1, 9, rfl, by decide, inX1, gW_of (tb1 (List.mem_of_getElem? (i := 223) rfl)) rfl⟩
theorem lpX1_38 : gLp RX1 38 1 8 (.int) false := ⟨RX1, TX1, 9, tyX1, rfl, by decide, inX1, gW_of (tb1 (List.mem_of_getElem? (i := 223) rfl)) rfl, tyX1_ok, nmX1, rfl, rfl, (fun h => by cases h)⟩
theorem lkX1_20 : gLk RX1 20 1 2 := Or.inr ⟨RX1, TX1, 9, rfl, by decide, inX1, gW_of (tb1 (List.mem_of_getElem? (i := 215) rfl)) rfl⟩
theorem kiX0 : Cond.initialized RX0 ∈ gW := gW_of (tb1 (List.mem_of_getElem? (i := 6) rfl)) rfl
theorem cwX0_tellsSomething : Cond.code yX0_tellsSomething cX0_tellsSomething 1 (some .boolean) ∈ gW := gW_of (tb3 (List.mem_of_getElem? (i := 191) rfl)) rfl
theorem kvX1_74 : gKv RX1 74 yX0_tellsSomething cX0_tellsSomething 1 (some .boolean) 0 0 := ⟨Or.inr ⟨_, rfl, rfl⟩, cwX0_tellsSomething, gW_of (tb3 (List.mem_of_getElem? (i := 188) rfl)) rfl, gW_of (tb3 (List.mem_of_getElem? (i := 189) rfl)) rfl, gW_of (tb3 (List.mem_of_getElem? (i := 190) rfl)) rfl, kiX0, ⟨by decide +kernel, by decide +kernel, by decide +kernel⟩⟩
theorem lkX1_30 : gLk RX1 30 1 6 := Or.inr ⟨RX1, TX1, 9, rfl, by decide, inX1, gW_of (tb1 (List.mem_of_getElem? (i := 219) rfl)) rfl⟩
theorem kiX4 : Cond.initialized RX4 ∈ gW := gW_of (tb1 (List.mem_of_getElem? (i := 7) rfl)) rfl
theorem cwX4_end : Cond.code yX4_end cX4_end 3 (some .int) ∈ gW := gW_of (tb3 (List.mem_of_getElem? (i := 196) rfl)) rfl
theorem kvX1_78 : gKv RX1 78 yX4_end cX4_end 3 (some .int) 4 2 := ⟨Or.inr ⟨_, rfl, rfl⟩, cwX4_end, gW_of (tb3 (List.mem_of_getElem? (i := 193) rfl)) rfl, gW_of (tb3 (List.mem_of_getElem? (i := 194) rfl)) rfl, gW_of (tb3 (List.mem_of_getElem? (i := 195) rfl)) rfl, kiX4, ⟨by decide +kernel, by decide +kernel, by decide +kernel⟩⟩
theorem inX6 : ∀ w ∈ u_ws RX6 TX6 7, w ∈ gW := fun w h => gW_of ((by decide +kernel : ∀ w ∈ u_ws RX6 TX6 7, w ∈ lw_tbl) w h) ((by decide +kernel : ∀ w ∈ u_ws RX6 TX6 7, goodWord w = true) w h)
theorem lkX6_30 : gLk RX6 30 6 0 := Or.inr ⟨RX6, TX6, 7, rfl, by decide, inX6, gW_of (tb1 (List.mem_of_getElem? (i := 140) rfl)) rfl⟩
theorem kvX6_56 : gKv RX6 56 yX7_at cX7_at 2 (some .int) 7 1 := ⟨Or.inr ⟨_, rfl, rfl⟩, cwX7_at, gW_of (tb3 (List.mem_of_getElem? (i := 218) rfl)) rfl, gW_of (tb2 (List.mem_of_getElem? (i := 101) rfl)) rfl, gW_of (tb2 (List.mem_of_getElem? (i := 102) rfl)) rfl, kiX7, ⟨by decide +kernel, by decide +kernel, by decide +kernel⟩⟩
theorem lkX6_9 : gLk RX6 9 6 1 := Or.inr ⟨RX6, TX6, 7, rfl, by decide, inX6, gW_of (tb1 (List.mem_of_getElem? (i := 141) rfl)) rfl⟩
theorem kcX6_65 : Cond.constantLong RX6 65 (8 : Int64) ∈ gW := gW_of (tb3 (List.mem_of_getElem? (i := 219) rfl)) rfl
theorem kcX6_67 : Cond.constantLong RX6 67 (48 : Int64) ∈ gW := gW_of (tb3 (List.mem_of_getElem? (i := 220) rfl)) rfl
theorem lpX6_9 : gLp RX6 9 6 1 (.long) false := ⟨RX6, TX6, 7, tyX6, rfl, by decide, inX6, gW_of (tb1 (List.mem_of_getElem? (i := 141) rfl)) rfl, tyX6_ok, nmX6, rfl, rfl, (fun h => by cases h)⟩
theorem kvX10_125 : gKv RX10 125 yX7_at cX7_at 2 (some .int) 7 1 := ⟨Or.inr ⟨_, rfl, rfl⟩, cwX7_at, gW_of (tb3 (List.mem_of_getElem? (i := 117) rfl)) rfl, gW_of (tb2 (List.mem_of_getElem? (i := 101) rfl)) rfl, gW_of (tb2 (List.mem_of_getElem? (i := 102) rfl)) rfl, kiX7, ⟨by decide +kernel, by decide +kernel, by decide +kernel⟩⟩
theorem kiX6 : Cond.initialized RX6 ∈ gW := gW_of (tb1 (List.mem_of_getElem? (i := 8) rfl)) rfl
theorem cwX6_takeOctal : Cond.code yX6_takeOctal cX6_takeOctal 5 (some .boolean) ∈ gW := gW_of (tb3 (List.mem_of_getElem? (i := 217) rfl)) rfl
theorem kvX6_34 : gKv RX6 34 yX6_takeOctal cX6_takeOctal 5 (some .boolean) 6 2 := ⟨Or.inr ⟨_, rfl, rfl⟩, cwX6_takeOctal, gW_of (tb3 (List.mem_of_getElem? (i := 214) rfl)) rfl, gW_of (tb3 (List.mem_of_getElem? (i := 216) rfl)) rfl, gW_of (List.mem_of_getElem? (i := 22) rfl) rfl, kiX6, ⟨by decide +kernel, by decide +kernel, by decide +kernel⟩⟩
theorem kiX10 : Cond.initialized RX10 ∈ gW := gW_of (tb1 (List.mem_of_getElem? (i := 1) rfl)) rfl
theorem cwX10_sumOf : Cond.code yX10_sumOf cX10_sumOf 6 (some .int) ∈ gW := gW_of (tb3 (List.mem_of_getElem? (i := 116) rfl)) rfl
theorem ksX6_38 : gKs RX6 38 yX10_sumOf cX10_sumOf 6 (some .int) 3 := ⟨cwX10_sumOf, Or.inr ⟨"TarForms", gN_of (tb3 (List.mem_of_getElem? (i := 221) rfl)) rfl⟩, gW_of (tb3 (List.mem_of_getElem? (i := 115) rfl)) rfl, kiX10, ⟨by decide +kernel, by decide +kernel, by decide +kernel⟩⟩
theorem kcX6_75 : Cond.constantLong RX6 75 (-1 : Int64) ∈ gW := gW_of (tb3 (List.mem_of_getElem? (i := 239) rfl)) rfl
theorem mlX6_69 : Cond.methodLink RX6 69 Lib.Math.max.name ∈ gW := gW_of (tb3 (List.mem_of_getElem? (i := 238) rfl)) rfl
theorem mb_max_s : Cond.static Lib.Math.max.name ∈ gW := gW_of (tb1 (List.mem_of_getElem? (i := 33) rfl)) rfl
theorem mb_max_c : Cond.code Lib.Math.max.name Lib.Math.max.code 2 (some .int) ∈ gW := gW_of (tb1 (List.mem_of_getElem? (i := 34) rfl)) rfl
theorem mb_i : Cond.initialized "java/lang/Math" ∈ gW := gW_of (tb1 (List.mem_of_getElem? (i := 3) rfl)) rfl
theorem cwX6_takeBy256 : Cond.code yX6_takeBy256 cX6_takeBy256 7 (some .boolean) ∈ gW := gW_of (tb3 (List.mem_of_getElem? (i := 237) rfl)) rfl
theorem kvX6_62 : gKv RX6 62 yX6_takeBy256 cX6_takeBy256 7 (some .boolean) 6 2 := ⟨Or.inr ⟨_, rfl, rfl⟩, cwX6_takeBy256, gW_of (tb3 (List.mem_of_getElem? (i := 234) rfl)) rfl, gW_of (tb3 (List.mem_of_getElem? (i := 236) rfl)) rfl, gW_of (List.mem_of_getElem? (i := 24) rfl) rfl, kiX6, ⟨by decide +kernel, by decide +kernel, by decide +kernel⟩⟩
theorem lkX6_15 : gLk RX6 15 6 2 := Or.inr ⟨RX6, TX6, 7, rfl, by decide, inX6, gW_of (tb1 (List.mem_of_getElem? (i := 142) rfl)) rfl⟩
theorem lpX6_15 : gLp RX6 15 6 2 (.long) false := ⟨RX6, TX6, 7, tyX6, rfl, by decide, inX6, gW_of (tb1 (List.mem_of_getElem? (i := 142) rfl)) rfl, tyX6_ok, nmX6, rfl, rfl, (fun h => by cases h)⟩
theorem lkX6_18 : gLk RX6 18 6 3 := Or.inr ⟨RX6, TX6, 7, rfl, by decide, inX6, gW_of (tb1 (List.mem_of_getElem? (i := 144) rfl)) rfl⟩
theorem lpX6_18 : gLp RX6 18 6 3 (.long) false := ⟨RX6, TX6, 7, tyX6, rfl, by decide, inX6, gW_of (tb1 (List.mem_of_getElem? (i := 144) rfl)) rfl, tyX6_ok, nmX6, rfl, rfl, (fun h => by cases h)⟩
theorem lkX6_21 : gLk RX6 21 6 4 := Or.inr ⟨RX6, TX6, 7, rfl, by decide, inX6, gW_of (tb1 (List.mem_of_getElem? (i := 146) rfl)) rfl⟩
theorem lpX6_21 : gLp RX6 21 6 4 (.long) false := ⟨RX6, TX6, 7, tyX6, rfl, by decide, inX6, gW_of (tb1 (List.mem_of_getElem? (i := 146) rfl)) rfl, tyX6_ok, nmX6, rfl, rfl, (fun h => by cases h)⟩
theorem lkX6_24 : gLk RX6 24 6 5 := Or.inr ⟨RX6, TX6, 7, rfl, by decide, inX6, gW_of (tb1 (List.mem_of_getElem? (i := 148) rfl)) rfl⟩
theorem lpX6_24 : gLp RX6 24 6 5 (.long) false := ⟨RX6, TX6, 7, tyX6, rfl, by decide, inX6, gW_of (tb1 (List.mem_of_getElem? (i := 148) rfl)) rfl, tyX6_ok, nmX6, rfl, rfl, (fun h => by cases h)⟩
theorem lkX6_27 : gLk RX6 27 6 6 := Or.inr ⟨RX6, TX6, 7, rfl, by decide, inX6, gW_of (tb1 (List.mem_of_getElem? (i := 150) rfl)) rfl⟩
theorem lpX6_27 : gLp RX6 27 6 6 (.long) false := ⟨RX6, TX6, 7, tyX6, rfl, by decide, inX6, gW_of (tb1 (List.mem_of_getElem? (i := 150) rfl)) rfl, tyX6_ok, nmX6, rfl, rfl, (fun h => by cases h)⟩
theorem kgX6_42 : Cond.fieldLink RX6 42 "TarForms$HeadNumbers" "PLACES" "[I" ∈ gW := gW_of (tb3 (List.mem_of_getElem? (i := 226) rfl)) rfl
theorem cwX6_keep : Cond.code yX6_keep cX6_keep 2 none ∈ gW := gW_of (tb4 (List.mem_of_getElem? (i := 3) rfl)) rfl
theorem kvX6_52 : gKv RX6 52 yX6_keep cX6_keep 2 none 6 1 := ⟨Or.inr ⟨_, rfl, rfl⟩, cwX6_keep, gW_of (tb4 (List.mem_of_getElem? (i := 0) rfl)) rfl, gW_of (tb4 (List.mem_of_getElem? (i := 2) rfl)) rfl, gW_of (List.mem_of_getElem? (i := 25) rfl) rfl, kiX6, ⟨by decide +kernel, by decide +kernel, by decide +kernel⟩⟩
theorem kgX6_46 : Cond.fieldLink RX6 46 "TarForms$HeadNumbers" "WIDTHS" "[I" ∈ gW := gW_of (tb3 (List.mem_of_getElem? (i := 228) rfl)) rfl
theorem cwX6_takeField : Cond.code yX6_takeField cX6_takeField 4 (some .boolean) ∈ gW := gW_of (tb3 (List.mem_of_getElem? (i := 233) rfl)) rfl
theorem kvX6_49 : gKv RX6 49 yX6_takeField cX6_takeField 4 (some .boolean) 6 2 := ⟨Or.inr ⟨_, rfl, rfl⟩, cwX6_takeField, gW_of (tb3 (List.mem_of_getElem? (i := 230) rfl)) rfl, gW_of (tb3 (List.mem_of_getElem? (i := 232) rfl)) rfl, gW_of (List.mem_of_getElem? (i := 23) rfl) rfl, kiX6, ⟨by decide +kernel, by decide +kernel, by decide +kernel⟩⟩
theorem cwX7_add : Cond.code yX7_add cX7_add 2 none ∈ gW := gW_of (tb2 (List.mem_of_getElem? (i := 76) rfl)) rfl
theorem kvX7_25 : gKv RX7 25 yX7_add cX7_add 2 none 7 1 := ⟨Or.inr ⟨_, rfl, rfl⟩, cwX7_add, gW_of (tb2 (List.mem_of_getElem? (i := 73) rfl)) rfl, gW_of (tb2 (List.mem_of_getElem? (i := 74) rfl)) rfl, gW_of (tb2 (List.mem_of_getElem? (i := 75) rfl)) rfl, kiX7, ⟨by decide +kernel, by decide +kernel, by decide +kernel⟩⟩
theorem kgJ0_38 : Cond.fieldLink RJ0 38 "java/lang/String" "COMPACT_STRINGS" "Z" ∈ gW := gW_of (tb2 (List.mem_of_getElem? (i := 220) rfl)) rfl
theorem lkJ0_15 : gLk RJ0 15 1000 1 := Or.inl ⟨rfl, Or.inr ⟨rfl, gW_of (tb6 (List.mem_of_getElem? (i := 53) rfl)) rfl⟩⟩
theorem lkJ0_9 : gLk RJ0 9 1000 0 := Or.inl ⟨rfl, Or.inl ⟨rfl, gW_of (tb6 (List.mem_of_getElem? (i := 52) rfl)) rfl⟩⟩
theorem kiJ0 : Cond.initialized RJ0 ∈ gW := gW_of (tb1 (List.mem_of_getElem? (i := 13) rfl)) rfl
theorem cwJ0_coder_7d493 : Cond.code yJ0_coder_7d493 cJ0_coder_7d493 1 (some .byte) ∈ gW := gW_of (tb2 (List.mem_of_getElem? (i := 219) rfl)) rfl
theorem kvJ0_335 : gKv RJ0 335 yJ0_coder_7d493 cJ0_coder_7d493 1 (some .byte) 1000 0 := ⟨Or.inl ⟨rfl, rfl⟩, cwJ0_coder_7d493, gW_of (tb2 (List.mem_of_getElem? (i := 216) rfl)) rfl, gW_of (tb2 (List.mem_of_getElem? (i := 217) rfl)) rfl, gW_of (tb2 (List.mem_of_getElem? (i := 218) rfl)) rfl, kiJ0, ⟨by decide +kernel, by decide +kernel, by decide +kernel⟩⟩
theorem cwJ0_checkIndex_df160 : Cond.code yJ0_checkIndex_df160 cJ0_checkIndex_df160 2 none ∈ gW := gW_of (tb3 (List.mem_of_getElem? (i := 11) rfl)) rfl
theorem ksJ1_9 : gKs RJ1 9 yJ0_checkIndex_df160 cJ0_checkIndex_df160 2 none 2 := ⟨cwJ0_checkIndex_df160, Or.inl (gW_of (tb3 (List.mem_of_getElem? (i := 9) rfl)) rfl), gW_of (tb3 (List.mem_of_getElem? (i := 10) rfl)) rfl, kiJ0, ⟨by decide +kernel, by decide +kernel, by decide +kernel⟩⟩
theorem cwJ0_isLatin1_aae02 : Cond.code yJ0_isLatin1_aae02 cJ0_isLatin1_aae02 1 (some .boolean) ∈ gW := gW_of (tb3 (List.mem_of_getElem? (i := 5) rfl)) rfl
theorem kvJ0_492 : gKv RJ0 492 yJ0_isLatin1_aae02 cJ0_isLatin1_aae02 1 (some .boolean) 1000 0 := ⟨Or.inl ⟨rfl, rfl⟩, cwJ0_isLatin1_aae02, gW_of (tb3 (List.mem_of_getElem? (i := 2) rfl)) rfl, gW_of (tb3 (List.mem_of_getElem? (i := 3) rfl)) rfl, gW_of (tb3 (List.mem_of_getElem? (i := 4) rfl)) rfl, kiJ0, ⟨by decide +kernel, by decide +kernel, by decide +kernel⟩⟩
theorem kiJ1 : Cond.initialized RJ1 ∈ gW := gW_of (tb1 (List.mem_of_getElem? (i := 14) rfl)) rfl
theorem cwJ1_charAt_3b067 : Cond.code yJ1_charAt_3b067 cJ1_charAt_3b067 2 (some .char) ∈ gW := gW_of (tb3 (List.mem_of_getElem? (i := 8) rfl)) rfl
theorem ksJ0_495 : gKs RJ0 495 yJ1_charAt_3b067 cJ1_charAt_3b067 2 (some .char) 2 := ⟨cwJ1_charAt_3b067, Or.inl (gW_of (tb3 (List.mem_of_getElem? (i := 6) rfl)) rfl), gW_of (tb3 (List.mem_of_getElem? (i := 7) rfl)) rfl, kiJ1, ⟨by decide +kernel, by decide +kernel, by decide +kernel⟩⟩
theorem cwJ0_length_8abf5 : Cond.code yJ0_length_8abf5 cJ0_length_8abf5 1 (some .int) ∈ gW := gW_of (tb2 (List.mem_of_getElem? (i := 215) rfl)) rfl
theorem kvX7_37 : gKv RX7 37 yJ0_length_8abf5 cJ0_length_8abf5 1 (some .int) 1000 0 := ⟨Or.inl ⟨rfl, rfl⟩, cwJ0_length_8abf5, gW_of (tb2 (List.mem_of_getElem? (i := 237) rfl)) rfl, gW_of (tb2 (List.mem_of_getElem? (i := 213) rfl)) rfl, gW_of (tb2 (List.mem_of_getElem? (i := 214) rfl)) rfl, kiJ0, ⟨by decide +kernel, by decide +kernel, by decide +kernel⟩⟩
theorem cwJ0_charAt_5068e : Cond.code yJ0_charAt_5068e cJ0_charAt_5068e 2 (some .char) ∈ gW := gW_of (tb3 (List.mem_of_getElem? (i := 1) rfl)) rfl
theorem kvX7_43 : gKv RX7 43 yJ0_charAt_5068e cJ0_charAt_5068e 2 (some .char) 1000 1 := ⟨Or.inl ⟨rfl, rfl⟩, cwJ0_charAt_5068e, gW_of (tb2 (List.mem_of_getElem? (i := 238) rfl)) rfl, gW_of (tb2 (List.mem_of_getElem? (i := 239) rfl)) rfl, gW_of (tb3 (List.mem_of_getElem? (i := 0) rfl)) rfl, kiJ0, ⟨by decide +kernel, by decide +kernel, by decide +kernel⟩⟩
theorem cwX7_holds : Cond.code yX7_holds cX7_holds 5 (some .boolean) ∈ gW := gW_of (tb4 (List.mem_of_getElem? (i := 30) rfl)) rfl
theorem kvX1_213 : gKv RX1 213 yX7_holds cX7_holds 5 (some .boolean) 7 3 := ⟨Or.inr ⟨_, rfl, rfl⟩, cwX7_holds, gW_of (tb4 (List.mem_of_getElem? (i := 27) rfl)) rfl, gW_of (tb4 (List.mem_of_getElem? (i := 28) rfl)) rfl, gW_of (tb4 (List.mem_of_getElem? (i := 29) rfl)) rfl, kiX7, ⟨by decide +kernel, by decide +kernel, by decide +kernel⟩⟩
theorem kvX1_139 : gKv RX1 139 yX7_find cX7_find 5 (some .int) 7 3 := ⟨Or.inr ⟨_, rfl, rfl⟩, cwX7_find, gW_of (tb4 (List.mem_of_getElem? (i := 35) rfl)) rfl, gW_of (tb2 (List.mem_of_getElem? (i := 97) rfl)) rfl, gW_of (tb2 (List.mem_of_getElem? (i := 98) rfl)) rfl, kiX7, ⟨by decide +kernel, by decide +kernel, by decide +kernel⟩⟩
theorem cwX7_addPart : Cond.code yX7_addPart cX7_addPart 5 none ∈ gW := gW_of (tb2 (List.mem_of_getElem? (i := 119) rfl)) rfl
theorem kvX1_200 : gKv RX1 200 yX7_addPart cX7_addPart 5 none 7 3 := ⟨Or.inr ⟨_, rfl, rfl⟩, cwX7_addPart, gW_of (tb4 (List.mem_of_getElem? (i := 21) rfl)) rfl, gW_of (tb2 (List.mem_of_getElem? (i := 117) rfl)) rfl, gW_of (tb2 (List.mem_of_getElem? (i := 118) rfl)) rfl, kiX7, ⟨by decide +kernel, by decide +kernel, by decide +kernel⟩⟩
theorem cwX1_addField : Cond.code yX1_addField cX1_addField 4 none ∈ gW := gW_of (tb4 (List.mem_of_getElem? (i := 34) rfl)) rfl
theorem kvX1_204 : gKv RX1 204 yX1_addField cX1_addField 4 none 1 3 := ⟨Or.inr ⟨_, rfl, rfl⟩, cwX1_addField, gW_of (tb4 (List.mem_of_getElem? (i := 31) rfl)) rfl, gW_of (tb4 (List.mem_of_getElem? (i := 33) rfl)) rfl, gW_of (List.mem_of_getElem? (i := 29) rfl) rfl, kiX1, ⟨by decide +kernel, by decide +kernel, by decide +kernel⟩⟩
theorem kvX1_207 : gKv RX1 207 yX7_add cX7_add 2 none 7 1 := ⟨Or.inr ⟨_, rfl, rfl⟩, cwX7_add, gW_of (tb4 (List.mem_of_getElem? (i := 36) rfl)) rfl, gW_of (tb2 (List.mem_of_getElem? (i := 74) rfl)) rfl, gW_of (tb2 (List.mem_of_getElem? (i := 75) rfl)) rfl, kiX7, ⟨by decide +kernel, by decide +kernel, by decide +kernel⟩⟩
theorem cwX1_hasMagic : Cond.code yX1_hasMagic cX1_hasMagic 2 (some .boolean) ∈ gW := gW_of (tb4 (List.mem_of_getElem? (i := 25) rfl)) rfl
theorem kvX1_155 : gKv RX1 155 yX1_hasMagic cX1_hasMagic 2 (some .boolean) 1 1 := ⟨Or.inr ⟨_, rfl, rfl⟩, cwX1_hasMagic, gW_of (tb4 (List.mem_of_getElem? (i := 22) rfl)) rfl, gW_of (tb4 (List.mem_of_getElem? (i := 24) rfl)) rfl, gW_of (List.mem_of_getElem? (i := 28) rfl) rfl, kiX1, ⟨by decide +kernel, by decide +kernel, by decide +kernel⟩⟩
theorem kvX1_197 : gKv RX1 197 yX7_empty cX7_empty 1 none 7 0 := ⟨Or.inr ⟨_, rfl, rfl⟩, cwX7_empty, gW_of (tb4 (List.mem_of_getElem? (i := 20) rfl)) rfl, gW_of (tb2 (List.mem_of_getElem? (i := 121) rfl)) rfl, gW_of (tb2 (List.mem_of_getElem? (i := 122) rfl)) rfl, kiX7, ⟨by decide +kernel, by decide +kernel, by decide +kernel⟩⟩
theorem lkX1_132 : gLk RX1 132 0 0 := Or.inr ⟨RX0, TX0, 8, rfl, by decide, inX0, gW_of (tb1 (List.mem_of_getElem? (i := 83) rfl)) rfl⟩
theorem lkX1_24 : gLk RX1 24 1 3 := Or.inr ⟨RX1, TX1, 9, rfl, by decide, inX1, gW_of (tb1 (List.mem_of_getElem? (i := 216) rfl)) rfl⟩
theorem lkX1_129 : gLk RX1 129 0 1 := Or.inr ⟨RX0, TX0, 8, rfl, by decide, inX0, gW_of (tb1 (List.mem_of_getElem? (i := 86) rfl)) rfl⟩
theorem inX5 : ∀ w ∈ u_ws RX5 TX5 3, w ∈ gW := fun w h => gW_of ((by decide +kernel : ∀ w ∈ u_ws RX5 TX5 3, w ∈ lw_tbl) w h) ((by decide +kernel : ∀ w ∈ u_ws RX5 TX5 3, goodWord w = true) w h)
theorem lkX1_165 : gLk RX1 165 5 0 := Or.inr ⟨RX5, TX5, 3, rfl, by decide, inX5, gW_of (tb1 (List.mem_of_getElem? (i := 197) rfl)) rfl⟩
theorem lkX1_146 : gLk RX1 146 5 1 := Or.inr ⟨RX5, TX5, 3, rfl, by decide, inX5, gW_of (tb1 (List.mem_of_getElem? (i := 200) rfl)) rfl⟩
theorem lkX1_151 : gLk RX1 151 5 2 := Or.inr ⟨RX5, TX5, 3, rfl, by decide, inX5, gW_of (tb1 (List.mem_of_getElem? (i := 203) rfl)) rfl⟩
theorem lkX1_175 : gLk RX1 175 0 5 := Or.inr ⟨RX0, TX0, 8, rfl, by decide, inX0, gW_of (tb1 (List.mem_of_getElem? (i := 97) rfl)) rfl⟩
theorem lkX1_194 : gLk RX1 194 0 7 := Or.inr ⟨RX0, TX0, 8, rfl, by decide, inX0, gW_of (tb1 (List.mem_of_getElem? (i := 101) rfl)) rfl⟩
theorem lkX1_50 : gLk RX1 50 1 4 := Or.inr ⟨RX1, TX1, 9, rfl, by decide, inX1, gW_of (tb1 (List.mem_of_getElem? (i := 217) rfl)) rfl⟩
theorem lkX1_179 : gLk RX1 179 6 2 := Or.inr ⟨RX6, TX6, 7, rfl, by decide, inX6, gW_of (tb1 (List.mem_of_getElem? (i := 143) rfl)) rfl⟩
theorem lkX1_182 : gLk RX1 182 0 2 := Or.inr ⟨RX0, TX0, 8, rfl, by decide, inX0, gW_of (tb1 (List.mem_of_getElem? (i := 89) rfl)) rfl⟩
theorem lkX1_185 : gLk RX1 185 6 3 := Or.inr ⟨RX6, TX6, 7, rfl, by decide, inX6, gW_of (tb1 (List.mem_of_getElem? (i := 145) rfl)) rfl⟩
theorem cwX1_pick : Cond.code yX1_pick cX1_pick 6 (some .long) ∈ gW := gW_of (tb4 (List.mem_of_getElem? (i := 10) rfl)) rfl
theorem ksX1_114 : gKs RX1 114 yX1_pick cX1_pick 6 (some .long) 3 := ⟨cwX1_pick, Or.inl (gW_of (tb4 (List.mem_of_getElem? (i := 8) rfl)) rfl), gW_of (tb4 (List.mem_of_getElem? (i := 9) rfl)) rfl, kiX1, ⟨by decide +kernel, by decide +kernel, by decide +kernel⟩⟩
theorem lkX1_186 : gLk RX1 186 0 3 := Or.inr ⟨RX0, TX0, 8, rfl, by decide, inX0, gW_of (tb1 (List.mem_of_getElem? (i := 92) rfl)) rfl⟩
theorem lkX1_189 : gLk RX1 189 6 4 := Or.inr ⟨RX6, TX6, 7, rfl, by decide, inX6, gW_of (tb1 (List.mem_of_getElem? (i := 147) rfl)) rfl⟩
theorem lkX1_193 : gLk RX1 193 6 6 := Or.inr ⟨RX6, TX6, 7, rfl, by decide, inX6, gW_of (tb1 (List.mem_of_getElem? (i := 151) rfl)) rfl⟩
theorem lkX1_190 : gLk RX1 190 0 6 := Or.inr ⟨RX0, TX0, 8, rfl, by decide, inX0, gW_of (tb1 (List.mem_of_getElem? (i := 99) rfl)) rfl⟩
theorem kvX9_29 : gKv RX9 29 yX7_count cX7_count 1 (some .int) 7 0 := ⟨Or.inr ⟨_, rfl, rfl⟩, cwX7_count, gW_of (tb4 (List.mem_of_getElem? (i := 53) rfl)) rfl, gW_of (tb2 (List.mem_of_getElem? (i := 78) rfl)) rfl, gW_of (tb2 (List.mem_of_getElem? (i := 79) rfl)) rfl, kiX7, ⟨by decide +kernel, by decide +kernel, by decide +kernel⟩⟩
theorem kvX9_9 : gKv RX9 9 yX7_at cX7_at 2 (some .int) 7 1 := ⟨Or.inr ⟨_, rfl, rfl⟩, cwX7_at, gW_of (tb4 (List.mem_of_getElem? (i := 49) rfl)) rfl, gW_of (tb2 (List.mem_of_getElem? (i := 101) rfl)) rfl, gW_of (tb2 (List.mem_of_getElem? (i := 102) rfl)) rfl, kiX7, ⟨by decide +kernel, by decide +kernel, by decide +kernel⟩⟩
theorem kiX9 : Cond.initialized RX9 ∈ gW := gW_of (tb1 (List.mem_of_getElem? (i := 17) rfl)) rfl
theorem cwX9_isPartEnd : Cond.code yX9_isPartEnd cX9_isPartEnd 2 (some .boolean) ∈ gW := gW_of (tb4 (List.mem_of_getElem? (i := 56) rfl)) rfl
theorem ksX9_33 : gKs RX9 33 yX9_isPartEnd cX9_isPartEnd 2 (some .boolean) 2 := ⟨cwX9_isPartEnd, Or.inl (gW_of (tb4 (List.mem_of_getElem? (i := 54) rfl)) rfl), gW_of (tb4 (List.mem_of_getElem? (i := 55) rfl)) rfl, kiX9, ⟨by decide +kernel, by decide +kernel, by decide +kernel⟩⟩
theorem cwX9_step : Cond.code yX9_step cX9_step 3 (some .int) ∈ gW := gW_of (tb4 (List.mem_of_getElem? (i := 59) rfl)) rfl
theorem ksX9_36 : gKs RX9 36 yX9_step cX9_step 3 (some .int) 3 := ⟨cwX9_step, Or.inl (gW_of (tb4 (List.mem_of_getElem? (i := 57) rfl)) rfl), gW_of (tb4 (List.mem_of_getElem? (i := 58) rfl)) rfl, kiX9, ⟨by decide +kernel, by decide +kernel, by decide +kernel⟩⟩
theorem mlX9_40 : Cond.methodLink RX9 40 Lib.Math.max.name ∈ gW := gW_of (tb4 (List.mem_of_getElem? (i := 63) rfl)) rfl
theorem cwX9_heightOf : Cond.code yX9_heightOf cX9_heightOf 4 (some .int) ∈ gW := gW_of (tb4 (List.mem_of_getElem? (i := 62) rfl)) rfl
theorem ksX9_21 : gKs RX9 21 yX9_heightOf cX9_heightOf 4 (some .int) 1 := ⟨cwX9_heightOf, Or.inl (gW_of (tb4 (List.mem_of_getElem? (i := 60) rfl)) rfl), gW_of (tb4 (List.mem_of_getElem? (i := 61) rfl)) rfl, kiX9, ⟨by decide +kernel, by decide +kernel, by decide +kernel⟩⟩
theorem cwX9_comesBelow : Cond.code yX9_comesBelow cX9_comesBelow 5 (some .boolean) ∈ gW := gW_of (tb4 (List.mem_of_getElem? (i := 66) rfl)) rfl
theorem ksX9_25 : gKs RX9 25 yX9_comesBelow cX9_comesBelow 5 (some .boolean) 2 := ⟨cwX9_comesBelow, Or.inl (gW_of (tb4 (List.mem_of_getElem? (i := 64) rfl)) rfl), gW_of (tb4 (List.mem_of_getElem? (i := 65) rfl)) rfl, kiX9, ⟨by decide +kernel, by decide +kernel, by decide +kernel⟩⟩
theorem cwX9_hasUp : Cond.code yX9_hasUp cX9_hasUp 3 (some .boolean) ∈ gW := gW_of (tb4 (List.mem_of_getElem? (i := 52) rfl)) rfl
theorem ksX9_15 : gKs RX9 15 yX9_hasUp cX9_hasUp 3 (some .boolean) 1 := ⟨cwX9_hasUp, Or.inl (gW_of (tb4 (List.mem_of_getElem? (i := 50) rfl)) rfl), gW_of (tb4 (List.mem_of_getElem? (i := 51) rfl)) rfl, kiX9, ⟨by decide +kernel, by decide +kernel, by decide +kernel⟩⟩
theorem cwX1_setValues : Cond.code yX1_setValues cX1_setValues 7 none ∈ gW := gW_of (tb4 (List.mem_of_getElem? (i := 45) rfl)) rfl
theorem kvX1_161 : gKv RX1 161 yX1_setValues cX1_setValues 7 none 1 4 := ⟨Or.inr ⟨_, rfl, rfl⟩, cwX1_setValues, gW_of (tb4 (List.mem_of_getElem? (i := 42) rfl)) rfl, gW_of (tb4 (List.mem_of_getElem? (i := 44) rfl)) rfl, gW_of (List.mem_of_getElem? (i := 31) rfl) rfl, kiX1, ⟨by decide +kernel, by decide +kernel, by decide +kernel⟩⟩
theorem cwX9_bits : Cond.code yX9_bits cX9_bits 4 (some .int) ∈ gW := gW_of (tb4 (List.mem_of_getElem? (i := 48) rfl)) rfl
theorem ksX1_169 : gKs RX1 169 yX9_bits cX9_bits 4 (some .int) 3 := ⟨cwX9_bits, Or.inl (gW_of (tb4 (List.mem_of_getElem? (i := 46) rfl)) rfl), gW_of (tb4 (List.mem_of_getElem? (i := 47) rfl)) rfl, kiX9, ⟨by decide +kernel, by decide +kernel, by decide +kernel⟩⟩
theorem lpX1_34 : gLp RX1 34 1 7 (.int) false := ⟨RX1, TX1, 9, tyX1, rfl, by decide, inX1, gW_of (tb1 (List.mem_of_getElem? (i := 221) rfl)) rfl, tyX1_ok, nmX1, rfl, rfl, (fun h => by cases h)⟩
theorem cwX0_forget : Cond.code yX0_forget cX0_forget 1 none ∈ gW := gW_of (tb3 (List.mem_of_getElem? (i := 185) rfl)) rfl
theorem kvX1_67 : gKv RX1 67 yX0_forget cX0_forget 1 none 0 0 := ⟨Or.inr ⟨_, rfl, rfl⟩, cwX0_forget, gW_of (tb3 (List.mem_of_getElem? (i := 182) rfl)) rfl, gW_of (tb3 (List.mem_of_getElem? (i := 183) rfl)) rfl, gW_of (tb3 (List.mem_of_getElem? (i := 184) rfl)) rfl, kiX0, ⟨by decide +kernel, by decide +kernel, by decide +kernel⟩⟩
theorem cwX1_takeName : Cond.code yX1_takeName cX1_takeName 4 none ∈ gW := gW_of (tb4 (List.mem_of_getElem? (i := 19) rfl)) rfl
theorem kvX1_147 : gKv RX1 147 yX1_takeName cX1_takeName 4 none 1 2 := ⟨Or.inr ⟨_, rfl, rfl⟩, cwX1_takeName, gW_of (tb4 (List.mem_of_getElem? (i := 16) rfl)) rfl, gW_of (tb4 (List.mem_of_getElem? (i := 18) rfl)) rfl, gW_of (List.mem_of_getElem? (i := 27) rfl) rfl, kiX1, ⟨by decide +kernel, by decide +kernel, by decide +kernel⟩⟩
theorem cwX1_takeLink : Cond.code yX1_takeLink cX1_takeLink 4 none ∈ gW := gW_of (tb4 (List.mem_of_getElem? (i := 40) rfl)) rfl
theorem kvX1_152 : gKv RX1 152 yX1_takeLink cX1_takeLink 4 none 1 2 := ⟨Or.inr ⟨_, rfl, rfl⟩, cwX1_takeLink, gW_of (tb4 (List.mem_of_getElem? (i := 37) rfl)) rfl, gW_of (tb4 (List.mem_of_getElem? (i := 39) rfl)) rfl, gW_of (List.mem_of_getElem? (i := 30) rfl) rfl, kiX1, ⟨by decide +kernel, by decide +kernel, by decide +kernel⟩⟩
theorem cwX7_endsWithSlash : Cond.code yX7_endsWithSlash cX7_endsWithSlash 1 (some .boolean) ∈ gW := gW_of (tb2 (List.mem_of_getElem? (i := 167) rfl)) rfl
theorem kvX1_158 : gKv RX1 158 yX7_endsWithSlash cX7_endsWithSlash 1 (some .boolean) 7 0 := ⟨Or.inr ⟨_, rfl, rfl⟩, cwX7_endsWithSlash, gW_of (tb4 (List.mem_of_getElem? (i := 41) rfl)) rfl, gW_of (tb2 (List.mem_of_getElem? (i := 165) rfl)) rfl, gW_of (tb2 (List.mem_of_getElem? (i := 166) rfl)) rfl, kiX7, ⟨by decide +kernel, by decide +kernel, by decide +kernel⟩⟩
theorem inX8 : ∀ w ∈ u_ws RX8 TX8 5, w ∈ gW := fun w h => gW_of ((by decide +kernel : ∀ w ∈ u_ws RX8 TX8 5, w ∈ lw_tbl) w h) ((by decide +kernel : ∀ w ∈ u_ws RX8 TX8 5, goodWord w = true) w h)
theorem lkX8_21 : gLk RX8 21 8 0 := Or.inr ⟨RX8, TX8, 5, rfl, by decide, inX8, gW_of (tb1 (List.mem_of_getElem? (i := 173) rfl)) rfl⟩
theorem kvX8_43 : gKv RX8 43 yX7_at cX7_at 2 (some .int) 7 1 := ⟨Or.inr ⟨_, rfl, rfl⟩, cwX7_at, gW_of (tb4 (List.mem_of_getElem? (i := 75) rfl)) rfl, gW_of (tb2 (List.mem_of_getElem? (i := 101) rfl)) rfl, gW_of (tb2 (List.mem_of_getElem? (i := 102) rfl)) rfl, kiX7, ⟨by decide +kernel, by decide +kernel, by decide +kernel⟩⟩
theorem lkX8_9 : gLk RX8 9 8 2 := Or.inr ⟨RX8, TX8, 5, rfl, by decide, inX8, gW_of (tb1 (List.mem_of_getElem? (i := 175) rfl)) rfl⟩
theorem lpX8_9 : gLp RX8 9 8 2 (.int) false := ⟨RX8, TX8, 5, tyX8, rfl, by decide, inX8, gW_of (tb1 (List.mem_of_getElem? (i := 175) rfl)) rfl, tyX8_ok, nmX8, rfl, rfl, (fun h => by cases h)⟩
theorem lkX8_18 : gLk RX8 18 8 4 := Or.inr ⟨RX8, TX8, 5, rfl, by decide, inX8, gW_of (tb1 (List.mem_of_getElem? (i := 177) rfl)) rfl⟩
theorem lpX8_18 : gLp RX8 18 8 4 (.int) false := ⟨RX8, TX8, 5, tyX8, rfl, by decide, inX8, gW_of (tb1 (List.mem_of_getElem? (i := 177) rfl)) rfl, tyX8_ok, nmX8, rfl, rfl, (fun h => by cases h)⟩
theorem kvX8_49 : gKv RX8 49 yX7_find cX7_find 5 (some .int) 7 3 := ⟨Or.inr ⟨_, rfl, rfl⟩, cwX7_find, gW_of (tb4 (List.mem_of_getElem? (i := 76) rfl)) rfl, gW_of (tb2 (List.mem_of_getElem? (i := 97) rfl)) rfl, gW_of (tb2 (List.mem_of_getElem? (i := 98) rfl)) rfl, kiX7, ⟨by decide +kernel, by decide +kernel, by decide +kernel⟩⟩
theorem lkX8_15 : gLk RX8 15 8 3 := Or.inr ⟨RX8, TX8, 5, rfl, by decide, inX8, gW_of (tb1 (List.mem_of_getElem? (i := 176) rfl)) rfl⟩
theorem lpX8_15 : gLp RX8 15 8 3 (.int) false := ⟨RX8, TX8, 5, tyX8, rfl, by decide, inX8, gW_of (tb1 (List.mem_of_getElem? (i := 176) rfl)) rfl, tyX8_ok, nmX8, rfl, rfl, (fun h => by cases h)⟩
theorem kvX8_99 : gKv RX8 99 yX7_holds cX7_holds 5 (some .boolean) 7 3 := ⟨Or.inr ⟨_, rfl, rfl⟩, cwX7_holds, gW_of (tb4 (List.mem_of_getElem? (i := 87) rfl)) rfl, gW_of (tb4 (List.mem_of_getElem? (i := 28) rfl)) rfl, gW_of (tb4 (List.mem_of_getElem? (i := 29) rfl)) rfl, kiX7, ⟨by decide +kernel, by decide +kernel, by decide +kernel⟩⟩
theorem kvX7_29 : gKv RX7 29 yX7_addPart cX7_addPart 5 none 7 3 := ⟨Or.inr ⟨_, rfl, rfl⟩, cwX7_addPart, gW_of (tb2 (List.mem_of_getElem? (i := 116) rfl)) rfl, gW_of (tb2 (List.mem_of_getElem? (i := 117) rfl)) rfl, gW_of (tb2 (List.mem_of_getElem? (i := 118) rfl)) rfl, kiX7, ⟨by decide +kernel, by decide +kernel, by decide +kernel⟩⟩
theorem kvX8_103 : gKv RX8 103 yX7_decimal cX7_decimal 8 (some .long) 7 3 := ⟨Or.inr ⟨_, rfl, rfl⟩, cwX7_decimal, gW_of (tb4 (List.mem_of_getElem? (i := 113) rfl)) rfl, gW_of (tb4 (List.mem_of_getElem? (i := 102) rfl)) rfl, gW_of (tb4 (List.mem_of_getElem? (i := 103) rfl)) rfl, kiX7, ⟨by decide +kernel, by decide +kernel, by decide +kernel⟩⟩
theorem kiX8 : Cond.initialized RX8 ∈ gW := gW_of (tb1 (List.mem_of_getElem? (i := 9) rfl)) rfl
theorem cwX8_isKey : Cond.code yX8_isKey cX8_isKey 2 (some .boolean) ∈ gW := gW_of (tb4 (List.mem_of_getElem? (i := 86) rfl)) rfl
theorem kvX8_55 : gKv RX8 55 yX8_isKey cX8_isKey 2 (some .boolean) 8 1 := ⟨Or.inr ⟨_, rfl, rfl⟩, cwX8_isKey, gW_of (tb4 (List.mem_of_getElem? (i := 83) rfl)) rfl, gW_of (tb4 (List.mem_of_getElem? (i := 85) rfl)) rfl, gW_of (List.mem_of_getElem? (i := 34) rfl) rfl, kiX8, ⟨by decide +kernel, by decide +kernel, by decide +kernel⟩⟩
theorem cwX8_takeNumber : Cond.code yX8_takeNumber cX8_takeNumber 1 (some .long) ∈ gW := gW_of (tb4 (List.mem_of_getElem? (i := 112) rfl)) rfl
theorem kvX8_84 : gKv RX8 84 yX8_takeNumber cX8_takeNumber 1 (some .long) 8 0 := ⟨Or.inr ⟨_, rfl, rfl⟩, cwX8_takeNumber, gW_of (tb4 (List.mem_of_getElem? (i := 109) rfl)) rfl, gW_of (tb4 (List.mem_of_getElem? (i := 111) rfl)) rfl, gW_of (List.mem_of_getElem? (i := 36) rfl) rfl, kiX8, ⟨by decide +kernel, by decide +kernel, by decide +kernel⟩⟩
theorem lkX8_97 : gLk RX8 97 0 4 := Or.inr ⟨RX0, TX0, 8, rfl, by decide, inX0, gW_of (tb1 (List.mem_of_getElem? (i := 94) rfl)) rfl⟩
theorem lpX8_97 : gLp RX8 97 0 4 (.long) false := ⟨RX0, TX0, 8, tyX0, rfl, by decide, inX0, gW_of (tb1 (List.mem_of_getElem? (i := 94) rfl)) rfl, tyX0_ok, nmX0, rfl, rfl, (fun h => by cases h)⟩
theorem lkX8_93 : gLk RX8 93 0 3 := Or.inr ⟨RX0, TX0, 8, rfl, by decide, inX0, gW_of (tb1 (List.mem_of_getElem? (i := 91) rfl)) rfl⟩
theorem lpX8_93 : gLp RX8 93 0 3 (.long) false := ⟨RX0, TX0, 8, tyX0, rfl, by decide, inX0, gW_of (tb1 (List.mem_of_getElem? (i := 91) rfl)) rfl, tyX0_ok, nmX0, rfl, rfl, (fun h => by cases h)⟩
theorem lkX8_88 : gLk RX8 88 0 2 := Or.inr ⟨RX0, TX0, 8, rfl, by decide, inX0, gW_of (tb1 (List.mem_of_getElem? (i := 88) rfl)) rfl⟩
theorem lpX8_88 : gLp RX8 88 0 2 (.long) false := ⟨RX0, TX0, 8, tyX0, rfl, by decide, inX0, gW_of (tb1 (List.mem_of_getElem? (i := 88) rfl)) rfl, tyX0_ok, nmX0, rfl, rfl, (fun h => by cases h)⟩
theorem cwX0_takeTime : Cond.code yX0_takeTime cX0_takeTime 12 (some .boolean) ∈ gW := gW_of (tb4 (List.mem_of_getElem? (i := 98) rfl)) rfl
theorem kvX8_79 : gKv RX8 79 yX0_takeTime cX0_takeTime 12 (some .boolean) 0 3 := ⟨Or.inr ⟨_, rfl, rfl⟩, cwX0_takeTime, gW_of (tb4 (List.mem_of_getElem? (i := 95) rfl)) rfl, gW_of (tb4 (List.mem_of_getElem? (i := 96) rfl)) rfl, gW_of (tb4 (List.mem_of_getElem? (i := 97) rfl)) rfl, kiX0, ⟨by decide +kernel, by decide +kernel, by decide +kernel⟩⟩
theorem cwX8_hasNoZero : Cond.code yX8_hasNoZero cX8_hasNoZero 1 (some .boolean) ∈ gW := gW_of (tb4 (List.mem_of_getElem? (i := 91) rfl)) rfl
theorem kvX8_59 : gKv RX8 59 yX8_hasNoZero cX8_hasNoZero 1 (some .boolean) 8 0 := ⟨Or.inr ⟨_, rfl, rfl⟩, cwX8_hasNoZero, gW_of (tb4 (List.mem_of_getElem? (i := 88) rfl)) rfl, gW_of (tb4 (List.mem_of_getElem? (i := 90) rfl)) rfl, gW_of (List.mem_of_getElem? (i := 35) rfl) rfl, kiX8, ⟨by decide +kernel, by decide +kernel, by decide +kernel⟩⟩
theorem lkX8_74 : gLk RX8 74 0 1 := Or.inr ⟨RX0, TX0, 8, rfl, by decide, inX0, gW_of (tb1 (List.mem_of_getElem? (i := 85) rfl)) rfl⟩
theorem cwX7_become : Cond.code yX7_become cX7_become 4 (some .boolean) ∈ gW := gW_of (tb2 (List.mem_of_getElem? (i := 115) rfl)) rfl
theorem kvX8_68 : gKv RX8 68 yX7_become cX7_become 4 (some .boolean) 7 3 := ⟨Or.inr ⟨_, rfl, rfl⟩, cwX7_become, gW_of (tb4 (List.mem_of_getElem? (i := 92) rfl)) rfl, gW_of (tb2 (List.mem_of_getElem? (i := 113) rfl)) rfl, gW_of (tb2 (List.mem_of_getElem? (i := 114) rfl)) rfl, kiX7, ⟨by decide +kernel, by decide +kernel, by decide +kernel⟩⟩
theorem lkX8_63 : gLk RX8 63 0 0 := Or.inr ⟨RX0, TX0, 8, rfl, by decide, inX0, gW_of (tb1 (List.mem_of_getElem? (i := 82) rfl)) rfl⟩
theorem cwX8_findParts : Cond.code yX8_findParts cX8_findParts 5 (some .boolean) ∈ gW := gW_of (tb4 (List.mem_of_getElem? (i := 74) rfl)) rfl
theorem kvX8_29 : gKv RX8 29 yX8_findParts cX8_findParts 5 (some .boolean) 8 2 := ⟨Or.inr ⟨_, rfl, rfl⟩, cwX8_findParts, gW_of (tb4 (List.mem_of_getElem? (i := 71) rfl)) rfl, gW_of (tb4 (List.mem_of_getElem? (i := 73) rfl)) rfl, gW_of (List.mem_of_getElem? (i := 32) rfl) rfl, kiX8, ⟨by decide +kernel, by decide +kernel, by decide +kernel⟩⟩
theorem cwX8_takeValue : Cond.code yX8_takeValue cX8_takeValue 2 (some .boolean) ∈ gW := gW_of (tb4 (List.mem_of_getElem? (i := 81) rfl)) rfl
theorem kvX8_39 : gKv RX8 39 yX8_takeValue cX8_takeValue 2 (some .boolean) 8 1 := ⟨Or.inr ⟨_, rfl, rfl⟩, cwX8_takeValue, gW_of (tb4 (List.mem_of_getElem? (i := 78) rfl)) rfl, gW_of (tb4 (List.mem_of_getElem? (i := 80) rfl)) rfl, gW_of (List.mem_of_getElem? (i := 33) rfl) rfl, kiX8, ⟨by decide +kernel, by decide +kernel, by decide +kernel⟩⟩
theorem lkX8_25 : gLk RX8 25 8 1 := Or.inr ⟨RX8, TX8, 5, rfl, by decide, inX8, gW_of (tb1 (List.mem_of_getElem? (i := 174) rfl)) rfl⟩
theorem kvX8_33 : gKv RX8 33 yX4_end cX4_end 3 (some .int) 4 2 := ⟨Or.inr ⟨_, rfl, rfl⟩, cwX4_end, gW_of (tb4 (List.mem_of_getElem? (i := 77) rfl)) rfl, gW_of (tb3 (List.mem_of_getElem? (i := 194) rfl)) rfl, gW_of (tb3 (List.mem_of_getElem? (i := 195) rfl)) rfl, kiX4, ⟨by decide +kernel, by decide +kernel, by decide +kernel⟩⟩
theorem kvX1_143 : gKv RX1 143 yX7_become cX7_become 4 (some .boolean) 7 3 := ⟨Or.inr ⟨_, rfl, rfl⟩, cwX7_become, gW_of (tb4 (List.mem_of_getElem? (i := 120) rfl)) rfl, gW_of (tb2 (List.mem_of_getElem? (i := 113) rfl)) rfl, gW_of (tb2 (List.mem_of_getElem? (i := 114) rfl)) rfl, kiX7, ⟨by decide +kernel, by decide +kernel, by decide +kernel⟩⟩
theorem cwX10_filled : Cond.code yX10_filled cX10_filled 1 (some .int) ∈ gW := gW_of (tb2 (List.mem_of_getElem? (i := 200) rfl)) rfl
theorem ksX1_118 : gKs RX1 118 yX10_filled cX10_filled 1 (some .int) 1 := ⟨cwX10_filled, Or.inr ⟨"TarForms", gN_of (tb4 (List.mem_of_getElem? (i := 11) rfl)) rfl⟩, gW_of (tb2 (List.mem_of_getElem? (i := 199) rfl)) rfl, kiX10, ⟨by decide +kernel, by decide +kernel, by decide +kernel⟩⟩
theorem cwX8_takeRows : Cond.code yX8_takeRows cX8_takeRows 6 (some .boolean) ∈ gW := gW_of (tb4 (List.mem_of_getElem? (i := 70) rfl)) rfl
theorem kvX1_125 : gKv RX1 125 yX8_takeRows cX8_takeRows 6 (some .boolean) 8 3 := ⟨Or.inr ⟨_, rfl, rfl⟩, cwX8_takeRows, gW_of (tb4 (List.mem_of_getElem? (i := 67) rfl)) rfl, gW_of (tb4 (List.mem_of_getElem? (i := 68) rfl)) rfl, gW_of (tb4 (List.mem_of_getElem? (i := 69) rfl)) rfl, kiX8, ⟨by decide +kernel, by decide +kernel, by decide +kernel⟩⟩
theorem lkX1_59 : gLk RX1 59 1 5 := Or.inr ⟨RX1, TX1, 9, rfl, by decide, inX1, gW_of (tb1 (List.mem_of_getElem? (i := 218) rfl)) rfl⟩
theorem cwX1_takeLong : Cond.code yX1_takeLong cX1_takeLong 4 (some .boolean) ∈ gW := gW_of (tb4 (List.mem_of_getElem? (i := 119) rfl)) rfl
theorem kvX1_135 : gKv RX1 135 yX1_takeLong cX1_takeLong 4 (some .boolean) 1 3 := ⟨Or.inr ⟨_, rfl, rfl⟩, cwX1_takeLong, gW_of (tb4 (List.mem_of_getElem? (i := 116) rfl)) rfl, gW_of (tb4 (List.mem_of_getElem? (i := 118) rfl)) rfl, gW_of (List.mem_of_getElem? (i := 37) rfl) rfl, kiX1, ⟨by decide +kernel, by decide +kernel, by decide +kernel⟩⟩
theorem cwX1_takeEntry : Cond.code yX1_takeEntry cX1_takeEntry 8 (some .boolean) ∈ gW := gW_of (tb4 (List.mem_of_getElem? (i := 15) rfl)) rfl
theorem kvX1_121 : gKv RX1 121 yX1_takeEntry cX1_takeEntry 8 (some .boolean) 1 3 := ⟨Or.inr ⟨_, rfl, rfl⟩, cwX1_takeEntry, gW_of (tb4 (List.mem_of_getElem? (i := 12) rfl)) rfl, gW_of (tb4 (List.mem_of_getElem? (i := 14) rfl)) rfl, gW_of (List.mem_of_getElem? (i := 26) rfl) rfl, kiX1, ⟨by decide +kernel, by decide +kernel, by decide +kernel⟩⟩
theorem lkX1_113 : gLk RX1 113 6 5 := Or.inr ⟨RX6, TX6, 7, rfl, by decide, inX6, gW_of (tb1 (List.mem_of_getElem? (i := 149) rfl)) rfl⟩
theorem lkX1_109 : gLk RX1 109 0 4 := Or.inr ⟨RX0, TX0, 8, rfl, by decide, inX0, gW_of (tb1 (List.mem_of_getElem? (i := 95) rfl)) rfl⟩
theorem cwX10_isEntryKind : Cond.code yX10_isEntryKind cX10_isEntryKind 1 (some .boolean) ∈ gW := gW_of (tb2 (List.mem_of_getElem? (i := 138) rfl)) rfl
theorem ksX1_103 : gKs RX1 103 yX10_isEntryKind cX10_isEntryKind 1 (some .boolean) 1 := ⟨cwX10_isEntryKind, Or.inr ⟨"TarForms", gN_of (tb4 (List.mem_of_getElem? (i := 4) rfl)) rfl⟩, gW_of (tb2 (List.mem_of_getElem? (i := 137) rfl)) rfl, kiX10, ⟨by decide +kernel, by decide +kernel, by decide +kernel⟩⟩
theorem cwX1_isAheadKind : Cond.code yX1_isAheadKind cX1_isAheadKind 1 (some .boolean) ∈ gW := gW_of (tb4 (List.mem_of_getElem? (i := 7) rfl)) rfl
theorem ksX1_106 : gKs RX1 106 yX1_isAheadKind cX1_isAheadKind 1 (some .boolean) 1 := ⟨cwX1_isAheadKind, Or.inl (gW_of (tb4 (List.mem_of_getElem? (i := 5) rfl)) rfl), gW_of (tb4 (List.mem_of_getElem? (i := 6) rfl)) rfl, kiX1, ⟨by decide +kernel, by decide +kernel, by decide +kernel⟩⟩
theorem cwX6_isSumRight : Cond.code yX6_isSumRight cX6_isSumRight 2 (some .boolean) ∈ gW := gW_of (tb3 (List.mem_of_getElem? (i := 213) rfl)) rfl
theorem kvX1_97 : gKv RX1 97 yX6_isSumRight cX6_isSumRight 2 (some .boolean) 6 1 := ⟨Or.inr ⟨_, rfl, rfl⟩, cwX6_isSumRight, gW_of (tb3 (List.mem_of_getElem? (i := 210) rfl)) rfl, gW_of (tb3 (List.mem_of_getElem? (i := 211) rfl)) rfl, gW_of (tb3 (List.mem_of_getElem? (i := 212) rfl)) rfl, kiX6, ⟨by decide +kernel, by decide +kernel, by decide +kernel⟩⟩
theorem cwX6_take : Cond.code yX6_take cX6_take 4 (some .int) ∈ gW := gW_of (tb3 (List.mem_of_getElem? (i := 225) rfl)) rfl
theorem kvX1_100 : gKv RX1 100 yX6_take cX6_take 4 (some .int) 6 1 := ⟨Or.inr ⟨_, rfl, rfl⟩, cwX6_take, gW_of (tb3 (List.mem_of_getElem? (i := 222) rfl)) rfl, gW_of (tb3 (List.mem_of_getElem? (i := 223) rfl)) rfl, gW_of (tb3 (List.mem_of_getElem? (i := 224) rfl)) rfl, kiX6, ⟨by decide +kernel, by decide +kernel, by decide +kernel⟩⟩
theorem cwX1_passHead : Cond.code yX1_passHead cX1_passHead 10 (some .int) ∈ gW := gW_of (tb3 (List.mem_of_getElem? (i := 209) rfl)) rfl
theorem kvX1_90 : gKv RX1 90 yX1_passHead cX1_passHead 10 (some .int) 1 1 := ⟨Or.inr ⟨_, rfl, rfl⟩, cwX1_passHead, gW_of (tb3 (List.mem_of_getElem? (i := 206) rfl)) rfl, gW_of (tb3 (List.mem_of_getElem? (i := 208) rfl)) rfl, gW_of (List.mem_of_getElem? (i := 21) rfl) rfl, kiX1, ⟨by decide +kernel, by decide +kernel, by decide +kernel⟩⟩
theorem cwX1_passEnd : Cond.code yX1_passEnd cX1_passEnd 4 (some .int) ∈ gW := gW_of (tb3 (List.mem_of_getElem? (i := 205) rfl)) rfl
theorem kvX1_86 : gKv RX1 86 yX1_passEnd cX1_passEnd 4 (some .int) 1 2 := ⟨Or.inr ⟨_, rfl, rfl⟩, cwX1_passEnd, gW_of (tb3 (List.mem_of_getElem? (i := 202) rfl)) rfl, gW_of (tb3 (List.mem_of_getElem? (i := 204) rfl)) rfl, gW_of (List.mem_of_getElem? (i := 20) rfl) rfl, kiX1, ⟨by decide +kernel, by decide +kernel, by decide +kernel⟩⟩
theorem cwX4_forget : Cond.code yX4_forget cX4_forget 1 none ∈ gW := gW_of (tb3 (List.mem_of_getElem? (i := 181) rfl)) rfl
theorem kvX1_64 : gKv RX1 64 yX4_forget cX4_forget 1 none 4 0 := ⟨Or.inr ⟨_, rfl, rfl⟩, cwX4_forget, gW_of (tb3 (List.mem_of_getElem? (i := 178) rfl)) rfl, gW_of (tb3 (List.mem_of_getElem? (i := 179) rfl)) rfl, gW_of (tb3 (List.mem_of_getElem? (i := 180) rfl)) rfl, kiX4, ⟨by decide +kernel, by decide +kernel, by decide +kernel⟩⟩
theorem inX3 : ∀ w ∈ u_ws RX3 TX3 6, w ∈ gW := fun w h => gW_of ((by decide +kernel : ∀ w ∈ u_ws RX3 TX3 6, w ∈ lw_tbl) w h) ((by decide +kernel : ∀ w ∈ u_ws RX3 TX3 6, goodWord w = true) w h)
theorem lkX3_14 : gLk RX3 14 3 0 := Or.inr ⟨RX3, TX3, 6, rfl, by decide, inX3, gW_of (tb2 (List.mem_of_getElem? (i := 12) rfl)) rfl⟩
theorem kvX3_72 : gKv RX3 72 yX7_at cX7_at 2 (some .int) 7 1 := ⟨Or.inr ⟨_, rfl, rfl⟩, cwX7_at, gW_of (tb2 (List.mem_of_getElem? (i := 185) rfl)) rfl, gW_of (tb2 (List.mem_of_getElem? (i := 101) rfl)) rfl, gW_of (tb2 (List.mem_of_getElem? (i := 102) rfl)) rfl, kiX7, ⟨by decide +kernel, by decide +kernel, by decide +kernel⟩⟩
theorem kvX3_46 : gKv RX3 46 yX7_count cX7_count 1 (some .int) 7 0 := ⟨Or.inr ⟨_, rfl, rfl⟩, cwX7_count, gW_of (tb2 (List.mem_of_getElem? (i := 168) rfl)) rfl, gW_of (tb2 (List.mem_of_getElem? (i := 78) rfl)) rfl, gW_of (tb2 (List.mem_of_getElem? (i := 79) rfl)) rfl, kiX7, ⟨by decide +kernel, by decide +kernel, by decide +kernel⟩⟩
theorem mlX3_66 : Cond.methodLink RX3 66 Lib.Math.min.name ∈ gW := gW_of (tb2 (List.mem_of_getElem? (i := 184) rfl)) rfl
theorem mb_min_s : Cond.static Lib.Math.min.name ∈ gW := gW_of (tb2 (List.mem_of_getElem? (i := 110) rfl)) rfl
theorem mb_min_c : Cond.code Lib.Math.min.name Lib.Math.min.code 2 (some .int) ∈ gW := gW_of (tb2 (List.mem_of_getElem? (i := 111) rfl)) rfl
theorem kiX3 : Cond.initialized RX3 ∈ gW := gW_of (tb1 (List.mem_of_getElem? (i := 11) rfl)) rfl
theorem cwX3_split : Cond.code yX3_split cX3_split 3 (some .int) ∈ gW := gW_of (tb2 (List.mem_of_getElem? (i := 183) rfl)) rfl
theorem kvX3_63 : gKv RX3 63 yX3_split cX3_split 3 (some .int) 3 0 := ⟨Or.inr ⟨_, rfl, rfl⟩, cwX3_split, gW_of (tb2 (List.mem_of_getElem? (i := 180) rfl)) rfl, gW_of (tb2 (List.mem_of_getElem? (i := 181) rfl)) rfl, gW_of (tb2 (List.mem_of_getElem? (i := 182) rfl)) rfl, kiX3, ⟨by decide +kernel, by decide +kernel, by decide +kernel⟩⟩
theorem cwX7_decimalWidth : Cond.code yX7_decimalWidth cX7_decimalWidth 6 (some .int) ∈ gW := gW_of (tb2 (List.mem_of_getElem? (i := 225) rfl)) rfl
theorem ksX7_47 : gKs RX7 47 yX7_decimalWidth cX7_decimalWidth 6 (some .int) 1 := ⟨cwX7_decimalWidth, Or.inl (gW_of (tb2 (List.mem_of_getElem? (i := 231) rfl)) rfl), gW_of (tb2 (List.mem_of_getElem? (i := 224) rfl)) rfl, kiX7, ⟨by decide +kernel, by decide +kernel, by decide +kernel⟩⟩
theorem kvX2_194 : gKv RX2 194 yJ0_length_8abf5 cJ0_length_8abf5 1 (some .int) 1000 0 := ⟨Or.inl ⟨rfl, rfl⟩, cwJ0_length_8abf5, gW_of (tb2 (List.mem_of_getElem? (i := 212) rfl)) rfl, gW_of (tb2 (List.mem_of_getElem? (i := 213) rfl)) rfl, gW_of (tb2 (List.mem_of_getElem? (i := 214) rfl)) rfl, kiJ0, ⟨by decide +kernel, by decide +kernel, by decide +kernel⟩⟩
theorem kvX2_40 : gKv RX2 40 yX7_count cX7_count 1 (some .int) 7 0 := ⟨Or.inr ⟨_, rfl, rfl⟩, cwX7_count, gW_of (tb2 (List.mem_of_getElem? (i := 222) rfl)) rfl, gW_of (tb2 (List.mem_of_getElem? (i := 78) rfl)) rfl, gW_of (tb2 (List.mem_of_getElem? (i := 79) rfl)) rfl, kiX7, ⟨by decide +kernel, by decide +kernel, by decide +kernel⟩⟩
theorem ksX2_199 : gKs RX2 199 yX7_decimalWidth cX7_decimalWidth 6 (some .int) 1 := ⟨cwX7_decimalWidth, Or.inl (gW_of (tb2 (List.mem_of_getElem? (i := 223) rfl)) rfl), gW_of (tb2 (List.mem_of_getElem? (i := 224) rfl)) rfl, kiX7, ⟨by decide +kernel, by decide +kernel, by decide +kernel⟩⟩
theorem inX2 : ∀ w ∈ u_ws RX2 TX2 3, w ∈ gW := fun w h => gW_of ((by decide +kernel : ∀ w ∈ u_ws RX2 TX2 3, w ∈ lw_tbl) w h) ((by decide +kernel : ∀ w ∈ u_ws RX2 TX2 3, goodWord w = true) w h)
theorem lkX2_14 : gLk RX2 14 2 1 := Or.inr ⟨RX2, TX2, 3, rfl, by decide, inX2, gW_of (tb1 (List.mem_of_getElem? (i := 55) rfl)) rfl⟩
theorem cwX7_addDecimal : Cond.code yX7_addDecimal cX7_addDecimal 7 none ∈ gW := gW_of (tb2 (List.mem_of_getElem? (i := 230) rfl)) rfl
theorem kvX2_190 : gKv RX2 190 yX7_addDecimal cX7_addDecimal 7 none 7 1 := ⟨Or.inr ⟨_, rfl, rfl⟩, cwX7_addDecimal, gW_of (tb2 (List.mem_of_getElem? (i := 227) rfl)) rfl, gW_of (tb2 (List.mem_of_getElem? (i := 228) rfl)) rfl, gW_of (tb2 (List.mem_of_getElem? (i := 229) rfl)) rfl, kiX7, ⟨by decide +kernel, by decide +kernel, by decide +kernel⟩⟩
theorem kvX2_86 : gKv RX2 86 yX7_add cX7_add 2 none 7 1 := ⟨Or.inr ⟨_, rfl, rfl⟩, cwX7_add, gW_of (tb2 (List.mem_of_getElem? (i := 232) rfl)) rfl, gW_of (tb2 (List.mem_of_getElem? (i := 74) rfl)) rfl, gW_of (tb2 (List.mem_of_getElem? (i := 75) rfl)) rfl, kiX7, ⟨by decide +kernel, by decide +kernel, by decide +kernel⟩⟩
theorem cwX7_addText : Cond.code yX7_addText cX7_addText 3 none ∈ gW := gW_of (tb2 (List.mem_of_getElem? (i := 236) rfl)) rfl
theorem kvX2_203 : gKv RX2 203 yX7_addText cX7_addText 3 none 7 1 := ⟨Or.inr ⟨_, rfl, rfl⟩, cwX7_addText, gW_of (tb2 (List.mem_of_getElem? (i := 233) rfl)) rfl, gW_of (tb2 (List.mem_of_getElem? (i := 234) rfl)) rfl, gW_of (tb2 (List.mem_of_getElem? (i := 235) rfl)) rfl, kiX7, ⟨by decide +kernel, by decide +kernel, by decide +kernel⟩⟩
theorem kvX2_149 : gKv RX2 149 yX7_addPart cX7_addPart 5 none 7 3 := ⟨Or.inr ⟨_, rfl, rfl⟩, cwX7_addPart, gW_of (tb3 (List.mem_of_getElem? (i := 36) rfl)) rfl, gW_of (tb2 (List.mem_of_getElem? (i := 117) rfl)) rfl, gW_of (tb2 (List.mem_of_getElem? (i := 118) rfl)) rfl, kiX7, ⟨by decide +kernel, by decide +kernel, by decide +kernel⟩⟩
theorem lkX2_20 : gLk RX2 20 2 2 := Or.inr ⟨RX2, TX2, 3, rfl, by decide, inX2, gW_of (tb1 (List.mem_of_getElem? (i := 56) rfl)) rfl⟩
theorem kvX2_161 : gKv RX2 161 yX7_empty cX7_empty 1 none 7 0 := ⟨Or.inr ⟨_, rfl, rfl⟩, cwX7_empty, gW_of (tb2 (List.mem_of_getElem? (i := 205) rfl)) rfl, gW_of (tb2 (List.mem_of_getElem? (i := 121) rfl)) rfl, gW_of (tb2 (List.mem_of_getElem? (i := 122) rfl)) rfl, kiX7, ⟨by decide +kernel, by decide +kernel, by decide +kernel⟩⟩
theorem kiX2 : Cond.initialized RX2 ∈ gW := gW_of (tb1 (List.mem_of_getElem? (i := 4) rfl)) rfl
theorem cwX2_addRow : Cond.code yX2_addRow cX2_addRow 5 none ∈ gW := gW_of (tb2 (List.mem_of_getElem? (i := 211) rfl)) rfl
theorem kvX2_170 : gKv RX2 170 yX2_addRow cX2_addRow 5 none 2 2 := ⟨Or.inr ⟨_, rfl, rfl⟩, cwX2_addRow, gW_of (tb2 (List.mem_of_getElem? (i := 208) rfl)) rfl, gW_of (tb2 (List.mem_of_getElem? (i := 210) rfl)) rfl, gW_of (List.mem_of_getElem? (i := 6) rfl) rfl, kiX2, ⟨by decide +kernel, by decide +kernel, by decide +kernel⟩⟩
theorem kcX2_215 : Cond.constant RX2 215 (100000000 : Int32) ∈ gW := gW_of (tb3 (List.mem_of_getElem? (i := 57) rfl)) rfl
theorem cwX2_addFraction : Cond.code yX2_addFraction cX2_addFraction 4 none ∈ gW := gW_of (tb3 (List.mem_of_getElem? (i := 56) rfl)) rfl
theorem kvX2_212 : gKv RX2 212 yX2_addFraction cX2_addFraction 4 none 2 1 := ⟨Or.inr ⟨_, rfl, rfl⟩, cwX2_addFraction, gW_of (tb3 (List.mem_of_getElem? (i := 53) rfl)) rfl, gW_of (tb3 (List.mem_of_getElem? (i := 55) rfl)) rfl, gW_of (List.mem_of_getElem? (i := 9) rfl) rfl, kiX2, ⟨by decide +kernel, by decide +kernel, by decide +kernel⟩⟩
theorem kcX2_211 : Cond.constant RX2 211 (1000000000 : Int32) ∈ gW := gW_of (tb3 (List.mem_of_getElem? (i := 52) rfl)) rfl
theorem mlX2_207 : Cond.methodLink RX2 207 Lib.MathLoose.abs_long.x ∈ gW := gW_of (tb3 (List.mem_of_getElem? (i := 49) rfl)) rfl
theorem mb_abs_s : Cond.static Lib.MathLoose.abs_long.x ∈ gW := gW_of (tb3 (List.mem_of_getElem? (i := 50) rfl)) rfl
theorem mb_abs_c : Cond.code Lib.MathLoose.abs_long.x Lib.MathLoose.abs_long.code 2 (some .long) ∈ gW := gW_of (tb3 (List.mem_of_getElem? (i := 51) rfl)) rfl
theorem lkX2_64 : gLk RX2 64 3 2 := Or.inr ⟨RX3, TX3, 6, rfl, by decide, inX3, gW_of (tb2 (List.mem_of_getElem? (i := 19) rfl)) rfl⟩
theorem cwX2_makeTime : Cond.code yX2_makeTime cX2_makeTime 8 none ∈ gW := gW_of (tb3 (List.mem_of_getElem? (i := 48) rfl)) rfl
theorem kvX2_184 : gKv RX2 184 yX2_makeTime cX2_makeTime 8 none 2 2 := ⟨Or.inr ⟨_, rfl, rfl⟩, cwX2_makeTime, gW_of (tb3 (List.mem_of_getElem? (i := 45) rfl)) rfl, gW_of (tb3 (List.mem_of_getElem? (i := 47) rfl)) rfl, gW_of (List.mem_of_getElem? (i := 8) rfl) rfl, kiX2, ⟨by decide +kernel, by decide +kernel, by decide +kernel⟩⟩
theorem cwX3_fits : Cond.code yX3_fits cX3_fits 3 (some .boolean) ∈ gW := gW_of (tb2 (List.mem_of_getElem? (i := 175) rfl)) rfl
theorem ksX2_134 : gKs RX2 134 yX3_fits cX3_fits 3 (some .boolean) 2 := ⟨cwX3_fits, Or.inl (gW_of (tb3 (List.mem_of_getElem? (i := 38) rfl)) rfl), gW_of (tb2 (List.mem_of_getElem? (i := 174) rfl)) rfl, kiX3, ⟨by decide +kernel, by decide +kernel, by decide +kernel⟩⟩
theorem cwX2_addNumberRow : Cond.code yX2_addNumberRow cX2_addNumberRow 4 none ∈ gW := gW_of (tb3 (List.mem_of_getElem? (i := 43) rfl)) rfl
theorem kvX2_178 : gKv RX2 178 yX2_addNumberRow cX2_addNumberRow 4 none 2 2 := ⟨Or.inr ⟨_, rfl, rfl⟩, cwX2_addNumberRow, gW_of (tb3 (List.mem_of_getElem? (i := 40) rfl)) rfl, gW_of (tb3 (List.mem_of_getElem? (i := 42) rfl)) rfl, gW_of (List.mem_of_getElem? (i := 7) rfl) rfl, kiX2, ⟨by decide +kernel, by decide +kernel, by decide +kernel⟩⟩
theorem lkX2_44 : gLk RX2 44 3 1 := Or.inr ⟨RX3, TX3, 6, rfl, by decide, inX3, gW_of (tb2 (List.mem_of_getElem? (i := 16) rfl)) rfl⟩
theorem cwX3_isNameInFields : Cond.code yX3_isNameInFields cX3_isNameInFields 1 (some .boolean) ∈ gW := gW_of (tb2 (List.mem_of_getElem? (i := 179) rfl)) rfl
theorem kvX2_164 : gKv RX2 164 yX3_isNameInFields cX3_isNameInFields 1 (some .boolean) 3 0 := ⟨Or.inr ⟨_, rfl, rfl⟩, cwX3_isNameInFields, gW_of (tb2 (List.mem_of_getElem? (i := 206) rfl)) rfl, gW_of (tb2 (List.mem_of_getElem? (i := 177) rfl)) rfl, gW_of (tb2 (List.mem_of_getElem? (i := 178) rfl)) rfl, kiX3, ⟨by decide +kernel, by decide +kernel, by decide +kernel⟩⟩
theorem lkX2_51 : gLk RX2 51 3 0 := Or.inr ⟨RX3, TX3, 6, rfl, by decide, inX3, gW_of (tb2 (List.mem_of_getElem? (i := 13) rfl)) rfl⟩
theorem ksX2_32 : gKs RX2 32 yX10_filled cX10_filled 1 (some .int) 1 := ⟨cwX10_filled, Or.inr ⟨"TarForms", gN_of (tb2 (List.mem_of_getElem? (i := 198) rfl)) rfl⟩, gW_of (tb2 (List.mem_of_getElem? (i := 199) rfl)) rfl, kiX10, ⟨by decide +kernel, by decide +kernel, by decide +kernel⟩⟩
theorem cwX2_longLength : Cond.code yX2_longLength cX2_longLength 1 (some .int) ∈ gW := gW_of (tb3 (List.mem_of_getElem? (i := 61) rfl)) rfl
theorem ksX2_47 : gKs RX2 47 yX2_longLength cX2_longLength 1 (some .int) 1 := ⟨cwX2_longLength, Or.inl (gW_of (tb3 (List.mem_of_getElem? (i := 59) rfl)) rfl), gW_of (tb3 (List.mem_of_getElem? (i := 60) rfl)) rfl, kiX2, ⟨by decide +kernel, by decide +kernel, by decide +kernel⟩⟩
theorem lkX2_26 : gLk RX2 26 3 4 := Or.inr ⟨RX3, TX3, 6, rfl, by decide, inX3, gW_of (tb2 (List.mem_of_getElem? (i := 25) rfl)) rfl⟩
theorem cwX2_makeRows : Cond.code yX2_makeRows cX2_makeRows 2 none ∈ gW := gW_of (tb2 (List.mem_of_getElem? (i := 204) rfl)) rfl
theorem kvX2_36 : gKv RX2 36 yX2_makeRows cX2_makeRows 2 none 2 1 := ⟨Or.inr ⟨_, rfl, rfl⟩, cwX2_makeRows, gW_of (tb2 (List.mem_of_getElem? (i := 201) rfl)) rfl, gW_of (tb2 (List.mem_of_getElem? (i := 203) rfl)) rfl, gW_of (List.mem_of_getElem? (i := 5) rfl) rfl, kiX2, ⟨by decide +kernel, by decide +kernel, by decide +kernel⟩⟩
theorem kcX7_57 : Cond.constantLong RX7 57 (7 : Int64) ∈ gW := gW_of (tb3 (List.mem_of_getElem? (i := 92) rfl)) rfl
theorem cwX7_set : Cond.code yX7_set cX7_set 3 none ∈ gW := gW_of (tb3 (List.mem_of_getElem? (i := 96) rfl)) rfl
theorem kvX7_53 : gKv RX7 53 yX7_set cX7_set 3 none 7 2 := ⟨Or.inr ⟨_, rfl, rfl⟩, cwX7_set, gW_of (tb3 (List.mem_of_getElem? (i := 93) rfl)) rfl, gW_of (tb3 (List.mem_of_getElem? (i := 94) rfl)) rfl, gW_of (tb3 (List.mem_of_getElem? (i := 95) rfl)) rfl, kiX7, ⟨by decide +kernel, by decide +kernel, by decide +kernel⟩⟩
theorem lkX2_23 : gLk RX2 23 2 0 := Or.inr ⟨RX2, TX2, 3, rfl, by decide, inX2, gW_of (tb1 (List.mem_of_getElem? (i := 54) rfl)) rfl⟩
theorem cwX7_setOctal : Cond.code yX7_setOctal cX7_setOctal 8 none ∈ gW := gW_of (tb3 (List.mem_of_getElem? (i := 91) rfl)) rfl
theorem kvX2_96 : gKv RX2 96 yX7_setOctal cX7_setOctal 8 none 7 3 := ⟨Or.inr ⟨_, rfl, rfl⟩, cwX7_setOctal, gW_of (tb3 (List.mem_of_getElem? (i := 88) rfl)) rfl, gW_of (tb3 (List.mem_of_getElem? (i := 89) rfl)) rfl, gW_of (tb3 (List.mem_of_getElem? (i := 90) rfl)) rfl, kiX7, ⟨by decide +kernel, by decide +kernel, by decide +kernel⟩⟩
theorem cwX7_addZeros : Cond.code yX7_addZeros cX7_addZeros 3 none ∈ gW := gW_of (tb3 (List.mem_of_getElem? (i := 83) rfl)) rfl
theorem kvX2_104 : gKv RX2 104 yX7_addZeros cX7_addZeros 3 none 7 1 := ⟨Or.inr ⟨_, rfl, rfl⟩, cwX7_addZeros, gW_of (tb3 (List.mem_of_getElem? (i := 80) rfl)) rfl, gW_of (tb3 (List.mem_of_getElem? (i := 81) rfl)) rfl, gW_of (tb3 (List.mem_of_getElem? (i := 82) rfl)) rfl, kiX7, ⟨by decide +kernel, by decide +kernel, by decide +kernel⟩⟩
theorem cwX2_setField : Cond.code yX2_setField cX2_setField 5 none ∈ gW := gW_of (tb3 (List.mem_of_getElem? (i := 87) rfl)) rfl
theorem kvX2_107 : gKv RX2 107 yX2_setField cX2_setField 5 none 2 3 := ⟨Or.inr ⟨_, rfl, rfl⟩, cwX2_setField, gW_of (tb3 (List.mem_of_getElem? (i := 84) rfl)) rfl, gW_of (tb3 (List.mem_of_getElem? (i := 86) rfl)) rfl, gW_of (List.mem_of_getElem? (i := 13) rfl) rfl, kiX2, ⟨by decide +kernel, by decide +kernel, by decide +kernel⟩⟩
theorem kvX2_100 : gKv RX2 100 yX7_set cX7_set 3 none 7 2 := ⟨Or.inr ⟨_, rfl, rfl⟩, cwX7_set, gW_of (tb3 (List.mem_of_getElem? (i := 97) rfl)) rfl, gW_of (tb3 (List.mem_of_getElem? (i := 94) rfl)) rfl, gW_of (tb3 (List.mem_of_getElem? (i := 95) rfl)) rfl, kiX7, ⟨by decide +kernel, by decide +kernel, by decide +kernel⟩⟩
theorem kgX2_118 : Cond.fieldLinkNest RX2 118 "TarForms" "USTAR_MAGIC" "[I" "TarForms" ∈ gN := gN_of (tb3 (List.mem_of_getElem? (i := 104) rfl)) rfl
theorem cwX7_setAll : Cond.code yX7_setAll cX7_setAll 4 none ∈ gW := gW_of (tb3 (List.mem_of_getElem? (i := 103) rfl)) rfl
theorem kvX2_114 : gKv RX2 114 yX7_setAll cX7_setAll 4 none 7 2 := ⟨Or.inr ⟨_, rfl, rfl⟩, cwX7_setAll, gW_of (tb3 (List.mem_of_getElem? (i := 100) rfl)) rfl, gW_of (tb3 (List.mem_of_getElem? (i := 101) rfl)) rfl, gW_of (tb3 (List.mem_of_getElem? (i := 102) rfl)) rfl, kiX7, ⟨by decide +kernel, by decide +kernel, by decide +kernel⟩⟩
theorem kgX2_110 : Cond.fieldLinkNest RX2 110 "TarForms" "LONG_MAGIC" "[I" "TarForms" ∈ gN := gN_of (tb3 (List.mem_of_getElem? (i := 98) rfl)) rfl
theorem ksX2_92 : gKs RX2 92 yX10_sumOf cX10_sumOf 6 (some .int) 3 := ⟨cwX10_sumOf, Or.inr ⟨"TarForms", gN_of (tb3 (List.mem_of_getElem? (i := 114) rfl)) rfl⟩, gW_of (tb3 (List.mem_of_getElem? (i := 115) rfl)) rfl, kiX10, ⟨by decide +kernel, by decide +kernel, by decide +kernel⟩⟩
theorem kcX2_155 : Cond.constantLong RX2 155 (420 : Int64) ∈ gW := gW_of (tb3 (List.mem_of_getElem? (i := 75) rfl)) rfl
theorem cwX2_beginHead : Cond.code yX2_beginHead cX2_beginHead 7 (some .int) ∈ gW := gW_of (tb3 (List.mem_of_getElem? (i := 79) rfl)) rfl
theorem kvX2_68 : gKv RX2 68 yX2_beginHead cX2_beginHead 7 (some .int) 2 4 := ⟨Or.inr ⟨_, rfl, rfl⟩, cwX2_beginHead, gW_of (tb3 (List.mem_of_getElem? (i := 76) rfl)) rfl, gW_of (tb3 (List.mem_of_getElem? (i := 78) rfl)) rfl, gW_of (List.mem_of_getElem? (i := 12) rfl) rfl, kiX2, ⟨by decide +kernel, by decide +kernel, by decide +kernel⟩⟩
theorem cwX7_setText : Cond.code yX7_setText cX7_setText 4 none ∈ gW := gW_of (tb3 (List.mem_of_getElem? (i := 109) rfl)) rfl
theorem kvX2_157 : gKv RX2 157 yX7_setText cX7_setText 4 none 7 2 := ⟨Or.inr ⟨_, rfl, rfl⟩, cwX7_setText, gW_of (tb3 (List.mem_of_getElem? (i := 106) rfl)) rfl, gW_of (tb3 (List.mem_of_getElem? (i := 107) rfl)) rfl, gW_of (tb3 (List.mem_of_getElem? (i := 108) rfl)) rfl, kiX7, ⟨by decide +kernel, by decide +kernel, by decide +kernel⟩⟩
theorem cwX2_seal : Cond.code yX2_seal cX2_seal 3 (some .int) ∈ gW := gW_of (tb3 (List.mem_of_getElem? (i := 113) rfl)) rfl
theorem kvX2_80 : gKv RX2 80 yX2_seal cX2_seal 3 (some .int) 2 1 := ⟨Or.inr ⟨_, rfl, rfl⟩, cwX2_seal, gW_of (tb3 (List.mem_of_getElem? (i := 110) rfl)) rfl, gW_of (tb3 (List.mem_of_getElem? (i := 111) rfl)) rfl, gW_of (tb3 (List.mem_of_getElem? (i := 112) rfl)) rfl, kiX2, ⟨by decide +kernel, by decide +kernel, by decide +kernel⟩⟩
theorem cwX2_appendAheadHead : Cond.code yX2_appendAheadHead cX2_appendAheadHead 6 none ∈ gW := gW_of (tb3 (List.mem_of_getElem? (i := 74) rfl)) rfl
theorem kvX2_145 : gKv RX2 145 yX2_appendAheadHead cX2_appendAheadHead 6 none 2 4 := ⟨Or.inr ⟨_, rfl, rfl⟩, cwX2_appendAheadHead, gW_of (tb3 (List.mem_of_getElem? (i := 71) rfl)) rfl, gW_of (tb3 (List.mem_of_getElem? (i := 73) rfl)) rfl, gW_of (List.mem_of_getElem? (i := 11) rfl) rfl, kiX2, ⟨by decide +kernel, by decide +kernel, by decide +kernel⟩⟩
theorem cwX2_fillBlock : Cond.code yX2_fillBlock cX2_fillBlock 1 none ∈ gW := gW_of (tb3 (List.mem_of_getElem? (i := 121) rfl)) rfl
theorem kvX2_89 : gKv RX2 89 yX2_fillBlock cX2_fillBlock 1 none 2 0 := ⟨Or.inr ⟨_, rfl, rfl⟩, cwX2_fillBlock, gW_of (tb3 (List.mem_of_getElem? (i := 118) rfl)) rfl, gW_of (tb3 (List.mem_of_getElem? (i := 120) rfl)) rfl, gW_of (List.mem_of_getElem? (i := 14) rfl) rfl, kiX2, ⟨by decide +kernel, by decide +kernel, by decide +kernel⟩⟩
theorem mlX2_128 : Cond.methodLink RX2 128 Lib.Math.min.name ∈ gW := gW_of (tb3 (List.mem_of_getElem? (i := 136) rfl)) rfl
theorem cwX7_setPart : Cond.code yX7_setPart cX7_setPart 6 none ∈ gW := gW_of (tb3 (List.mem_of_getElem? (i := 135) rfl)) rfl
theorem kvX2_124 : gKv RX2 124 yX7_setPart cX7_setPart 6 none 7 4 := ⟨Or.inr ⟨_, rfl, rfl⟩, cwX7_setPart, gW_of (tb3 (List.mem_of_getElem? (i := 132) rfl)) rfl, gW_of (tb3 (List.mem_of_getElem? (i := 133) rfl)) rfl, gW_of (tb3 (List.mem_of_getElem? (i := 134) rfl)) rfl, kiX7, ⟨by decide +kernel, by decide +kernel, by decide +kernel⟩⟩
theorem kvX2_121 : gKv RX2 121 yX3_split cX3_split 3 (some .int) 3 0 := ⟨Or.inr ⟨_, rfl, rfl⟩, cwX3_split, gW_of (tb3 (List.mem_of_getElem? (i := 131) rfl)) rfl, gW_of (tb2 (List.mem_of_getElem? (i := 181) rfl)) rfl, gW_of (tb2 (List.mem_of_getElem? (i := 182) rfl)) rfl, kiX3, ⟨by decide +kernel, by decide +kernel, by decide +kernel⟩⟩
theorem kcX2_141 : Cond.constantLong RX2 141 (255 : Int64) ∈ gW := gW_of (tb3 (List.mem_of_getElem? (i := 145) rfl)) rfl
theorem cwX2_setBy256 : Cond.code yX2_setBy256 cX2_setBy256 8 none ∈ gW := gW_of (tb3 (List.mem_of_getElem? (i := 144) rfl)) rfl
theorem kvX2_138 : gKv RX2 138 yX2_setBy256 cX2_setBy256 8 none 2 3 := ⟨Or.inr ⟨_, rfl, rfl⟩, cwX2_setBy256, gW_of (tb3 (List.mem_of_getElem? (i := 141) rfl)) rfl, gW_of (tb3 (List.mem_of_getElem? (i := 143) rfl)) rfl, gW_of (List.mem_of_getElem? (i := 18) rfl) rfl, kiX2, ⟨by decide +kernel, by decide +kernel, by decide +kernel⟩⟩
theorem lkX3_36 : gLk RX3 36 3 5 := Or.inr ⟨RX3, TX3, 6, rfl, by decide, inX3, gW_of (tb2 (List.mem_of_getElem? (i := 27) rfl)) rfl⟩
theorem kcX3_76 : Cond.constant RX3 76 (-1640531535 : Int32) ∈ gW := gW_of (tb3 (List.mem_of_getElem? (i := 150) rfl)) rfl
theorem cwX3_dataByte : Cond.code yX3_dataByte cX3_dataByte 3 (some .int) ∈ gW := gW_of (tb3 (List.mem_of_getElem? (i := 149) rfl)) rfl
theorem kvX2_83 : gKv RX2 83 yX3_dataByte cX3_dataByte 3 (some .int) 3 1 := ⟨Or.inr ⟨_, rfl, rfl⟩, cwX3_dataByte, gW_of (tb3 (List.mem_of_getElem? (i := 146) rfl)) rfl, gW_of (tb3 (List.mem_of_getElem? (i := 147) rfl)) rfl, gW_of (tb3 (List.mem_of_getElem? (i := 148) rfl)) rfl, kiX3, ⟨by decide +kernel, by decide +kernel, by decide +kernel⟩⟩
theorem lkX2_61 : gLk RX2 61 3 3 := Or.inr ⟨RX3, TX3, 6, rfl, by decide, inX3, gW_of (tb2 (List.mem_of_getElem? (i := 22) rfl)) rfl⟩
theorem cwX2_setNames : Cond.code yX2_setNames cX2_setNames 7 none ∈ gW := gW_of (tb3 (List.mem_of_getElem? (i := 130) rfl)) rfl
theorem kvX2_72 : gKv RX2 72 yX2_setNames cX2_setNames 7 none 2 3 := ⟨Or.inr ⟨_, rfl, rfl⟩, cwX2_setNames, gW_of (tb3 (List.mem_of_getElem? (i := 127) rfl)) rfl, gW_of (tb3 (List.mem_of_getElem? (i := 129) rfl)) rfl, gW_of (List.mem_of_getElem? (i := 16) rfl) rfl, kiX2, ⟨by decide +kernel, by decide +kernel, by decide +kernel⟩⟩
theorem cwX2_setNumber : Cond.code yX2_setNumber cX2_setNumber 6 none ∈ gW := gW_of (tb3 (List.mem_of_getElem? (i := 140) rfl)) rfl
theorem kvX2_76 : gKv RX2 76 yX2_setNumber cX2_setNumber 6 none 2 4 := ⟨Or.inr ⟨_, rfl, rfl⟩, cwX2_setNumber, gW_of (tb3 (List.mem_of_getElem? (i := 137) rfl)) rfl, gW_of (tb3 (List.mem_of_getElem? (i := 139) rfl)) rfl, gW_of (List.mem_of_getElem? (i := 17) rfl) rfl, kiX2, ⟨by decide +kernel, by decide +kernel, by decide +kernel⟩⟩
theorem cwX2_appendLong : Cond.code yX2_appendLong cX2_appendLong 3 none ∈ gW := gW_of (tb3 (List.mem_of_getElem? (i := 125) rfl)) rfl
theorem kvX2_57 : gKv RX2 57 yX2_appendLong cX2_appendLong 3 none 2 2 := ⟨Or.inr ⟨_, rfl, rfl⟩, cwX2_appendLong, gW_of (tb3 (List.mem_of_getElem? (i := 122) rfl)) rfl, gW_of (tb3 (List.mem_of_getElem? (i := 124) rfl)) rfl, gW_of (List.mem_of_getElem? (i := 15) rfl) rfl, kiX2, ⟨by decide +kernel, by decide +kernel, by decide +kernel⟩⟩
theorem cwX2_appendRows : Cond.code yX2_appendRows cX2_appendRows 2 none ∈ gW := gW_of (tb3 (List.mem_of_getElem? (i := 69) rfl)) rfl
theorem kvX2_54 : gKv RX2 54 yX2_appendRows cX2_appendRows 2 none 2 1 := ⟨Or.inr ⟨_, rfl, rfl⟩, cwX2_appendRows, gW_of (tb3 (List.mem_of_getElem? (i := 66) rfl)) rfl, gW_of (tb3 (List.mem_of_getElem? (i := 68) rfl)) rfl, gW_of (List.mem_of_getElem? (i := 10) rfl) rfl, kiX2, ⟨by decide +kernel, by decide +kernel, by decide +kernel⟩⟩
theorem kvX3_39 : gKv RX3 39 yX7_empty cX7_empty 1 none 7 0 := ⟨Or.inr ⟨_, rfl, rfl⟩, cwX7_empty, gW_of (tb2 (List.mem_of_getElem? (i := 143) rfl)) rfl, gW_of (tb2 (List.mem_of_getElem? (i := 121) rfl)) rfl, gW_of (tb2 (List.mem_of_getElem? (i := 122) rfl)) rfl, kiX7, ⟨by decide +kernel, by decide +kernel, by decide +kernel⟩⟩
theorem lkX3_20 : gLk RX3 20 3 1 := Or.inr ⟨RX3, TX3, 6, rfl, by decide, inX3, gW_of (tb2 (List.mem_of_getElem? (i := 15) rfl)) rfl⟩
theorem lkX3_25 : gLk RX3 25 3 2 := Or.inr ⟨RX3, TX3, 6, rfl, by decide, inX3, gW_of (tb2 (List.mem_of_getElem? (i := 18) rfl)) rfl⟩
theorem kcX3_23 : Cond.constantLong RX3 23 (420 : Int64) ∈ gW := gW_of (tb2 (List.mem_of_getElem? (i := 11) rfl)) rfl
theorem lkX3_29 : gLk RX3 29 3 3 := Or.inr ⟨RX3, TX3, 6, rfl, by decide, inX3, gW_of (tb2 (List.mem_of_getElem? (i := 21) rfl)) rfl⟩
theorem kvX3_56 : gKv RX3 56 yX7_endsWithSlash cX7_endsWithSlash 1 (some .boolean) 7 0 := ⟨Or.inr ⟨_, rfl, rfl⟩, cwX7_endsWithSlash, gW_of (tb2 (List.mem_of_getElem? (i := 164) rfl)) rfl, gW_of (tb2 (List.mem_of_getElem? (i := 165) rfl)) rfl, gW_of (tb2 (List.mem_of_getElem? (i := 166) rfl)) rfl, kiX7, ⟨by decide +kernel, by decide +kernel, by decide +kernel⟩⟩
theorem ksX3_59 : gKs RX3 59 yX3_fits cX3_fits 3 (some .boolean) 2 := ⟨cwX3_fits, Or.inl (gW_of (tb2 (List.mem_of_getElem? (i := 173) rfl)) rfl), gW_of (tb2 (List.mem_of_getElem? (i := 174) rfl)) rfl, kiX3, ⟨by decide +kernel, by decide +kernel, by decide +kernel⟩⟩
theorem cwX3_looksLikeFolder : Cond.code yX3_looksLikeFolder cX3_looksLikeFolder 1 (some .boolean) ∈ gW := gW_of (tb2 (List.mem_of_getElem? (i := 163) rfl)) rfl
theorem kvX3_42 : gKv RX3 42 yX3_looksLikeFolder cX3_looksLikeFolder 1 (some .boolean) 3 0 := ⟨Or.inr ⟨_, rfl, rfl⟩, cwX3_looksLikeFolder, gW_of (tb2 (List.mem_of_getElem? (i := 160) rfl)) rfl, gW_of (tb2 (List.mem_of_getElem? (i := 162) rfl)) rfl, gW_of (List.mem_of_getElem? (i := 2) rfl) rfl, kiX3, ⟨by decide +kernel, by decide +kernel, by decide +kernel⟩⟩
theorem cwX3_isPlain : Cond.code yX3_isPlain cX3_isPlain 1 (some .boolean) ∈ gW := gW_of (tb2 (List.mem_of_getElem? (i := 172) rfl)) rfl
theorem kvX3_50 : gKv RX3 50 yX3_isPlain cX3_isPlain 1 (some .boolean) 3 0 := ⟨Or.inr ⟨_, rfl, rfl⟩, cwX3_isPlain, gW_of (tb2 (List.mem_of_getElem? (i := 169) rfl)) rfl, gW_of (tb2 (List.mem_of_getElem? (i := 171) rfl)) rfl, gW_of (List.mem_of_getElem? (i := 3) rfl) rfl, kiX3, ⟨by decide +kernel, by decide +kernel, by decide +kernel⟩⟩
theorem kvX3_53 : gKv RX3 53 yX3_isNameInFields cX3_isNameInFields 1 (some .boolean) 3 0 := ⟨Or.inr ⟨_, rfl, rfl⟩, cwX3_isNameInFields, gW_of (tb2 (List.mem_of_getElem? (i := 176) rfl)) rfl, gW_of (tb2 (List.mem_of_getElem? (i := 177) rfl)) rfl, gW_of (tb2 (List.mem_of_getElem? (i := 178) rfl)) rfl, kiX3, ⟨by decide +kernel, by decide +kernel, by decide +kernel⟩⟩
theorem inX10 : ∀ w ∈ u_ws RX10 TX10 6, w ∈ gW := fun w h => gW_of ((by decide +kernel : ∀ w ∈ u_ws RX10 TX10 6, w ∈ lw_tbl) w h) ((by decide +kernel : ∀ w ∈ u_ws RX10 TX10 6, goodWord w = true) w h)
theorem lkX10_14 : gLk RX10 14 9 0 := Or.inr ⟨RX10, TX10, 6, rfl, by decide, inX10, gW_of (tb2 (List.mem_of_getElem? (i := 42) rfl)) rfl⟩
theorem cwX7_room : Cond.code yX7_room cX7_room 1 (some .int) ∈ gW := gW_of (tb2 (List.mem_of_getElem? (i := 68) rfl)) rfl
theorem kvX10_49 : gKv RX10 49 yX7_room cX7_room 1 (some .int) 7 0 := ⟨Or.inr ⟨_, rfl, rfl⟩, cwX7_room, gW_of (tb2 (List.mem_of_getElem? (i := 65) rfl)) rfl, gW_of (tb2 (List.mem_of_getElem? (i := 66) rfl)) rfl, gW_of (tb2 (List.mem_of_getElem? (i := 67) rfl)) rfl, kiX7, ⟨by decide +kernel, by decide +kernel, by decide +kernel⟩⟩
theorem cwX7_addWord : Cond.code yX7_addWord cX7_addWord 2 none ∈ gW := gW_of (tb2 (List.mem_of_getElem? (i := 72) rfl)) rfl
theorem kvX10_53 : gKv RX10 53 yX7_addWord cX7_addWord 2 none 7 1 := ⟨Or.inr ⟨_, rfl, rfl⟩, cwX7_addWord, gW_of (tb2 (List.mem_of_getElem? (i := 69) rfl)) rfl, gW_of (tb2 (List.mem_of_getElem? (i := 70) rfl)) rfl, gW_of (tb2 (List.mem_of_getElem? (i := 71) rfl)) rfl, kiX7, ⟨by decide +kernel, by decide +kernel, by decide +kernel⟩⟩
theorem kvX10_56 : gKv RX10 56 yX7_count cX7_count 1 (some .int) 7 0 := ⟨Or.inr ⟨_, rfl, rfl⟩, cwX7_count, gW_of (tb2 (List.mem_of_getElem? (i := 77) rfl)) rfl, gW_of (tb2 (List.mem_of_getElem? (i := 78) rfl)) rfl, gW_of (tb2 (List.mem_of_getElem? (i := 79) rfl)) rfl, kiX7, ⟨by decide +kernel, by decide +kernel, by decide +kernel⟩⟩
theorem cwX7_keep : Cond.code yX7_keep cX7_keep 2 none ∈ gW := gW_of (tb2 (List.mem_of_getElem? (i := 91) rfl)) rfl
theorem kvX10_115 : gKv RX10 115 yX7_keep cX7_keep 2 none 7 1 := ⟨Or.inr ⟨_, rfl, rfl⟩, cwX7_keep, gW_of (tb2 (List.mem_of_getElem? (i := 88) rfl)) rfl, gW_of (tb2 (List.mem_of_getElem? (i := 89) rfl)) rfl, gW_of (tb2 (List.mem_of_getElem? (i := 90) rfl)) rfl, kiX7, ⟨by decide +kernel, by decide +kernel, by decide +kernel⟩⟩
theorem cwX10_keepFirst : Cond.code yX10_keepFirst cX10_keepFirst 3 (some .int) ∈ gW := gW_of (tb2 (List.mem_of_getElem? (i := 87) rfl)) rfl
theorem ksX10_59 : gKs RX10 59 yX10_keepFirst cX10_keepFirst 3 (some .int) 2 := ⟨cwX10_keepFirst, Or.inl (gW_of (tb2 (List.mem_of_getElem? (i := 85) rfl)) rfl), gW_of (tb2 (List.mem_of_getElem? (i := 86) rfl)) rfl, kiX10, ⟨by decide +kernel, by decide +kernel, by decide +kernel⟩⟩
theorem lkX10_24 : gLk RX10 24 9 2 := Or.inr ⟨RX10, TX10, 6, rfl, by decide, inX10, gW_of (tb2 (List.mem_of_getElem? (i := 44) rfl)) rfl⟩
theorem lkX10_28 : gLk RX10 28 9 3 := Or.inr ⟨RX10, TX10, 6, rfl, by decide, inX10, gW_of (tb2 (List.mem_of_getElem? (i := 45) rfl)) rfl⟩
theorem mlX10_167 : Cond.methodLink RX10 167 Lib.Math.max.name ∈ gW := gW_of (tb2 (List.mem_of_getElem? (i := 108) rfl)) rfl
theorem mlX10_173 : Cond.methodLink RX10 173 Lib.Math.min.name ∈ gW := gW_of (tb2 (List.mem_of_getElem? (i := 109) rfl)) rfl
theorem kvX10_77 : gKv RX10 77 yX7_become cX7_become 4 (some .boolean) 7 3 := ⟨Or.inr ⟨_, rfl, rfl⟩, cwX7_become, gW_of (tb2 (List.mem_of_getElem? (i := 112) rfl)) rfl, gW_of (tb2 (List.mem_of_getElem? (i := 113) rfl)) rfl, gW_of (tb2 (List.mem_of_getElem? (i := 114) rfl)) rfl, kiX7, ⟨by decide +kernel, by decide +kernel, by decide +kernel⟩⟩
theorem kvX10_81 : gKv RX10 81 yX7_empty cX7_empty 1 none 7 0 := ⟨Or.inr ⟨_, rfl, rfl⟩, cwX7_empty, gW_of (tb2 (List.mem_of_getElem? (i := 120) rfl)) rfl, gW_of (tb2 (List.mem_of_getElem? (i := 121) rfl)) rfl, gW_of (tb2 (List.mem_of_getElem? (i := 122) rfl)) rfl, kiX7, ⟨by decide +kernel, by decide +kernel, by decide +kernel⟩⟩
theorem kvX10_63 : gKv RX10 63 yX7_find cX7_find 5 (some .int) 7 3 := ⟨Or.inr ⟨_, rfl, rfl⟩, cwX7_find, gW_of (tb2 (List.mem_of_getElem? (i := 96) rfl)) rfl, gW_of (tb2 (List.mem_of_getElem? (i := 97) rfl)) rfl, gW_of (tb2 (List.mem_of_getElem? (i := 98) rfl)) rfl, kiX7, ⟨by decide +kernel, by decide +kernel, by decide +kernel⟩⟩
theorem cwX10_draft : Cond.code yX10_draft cX10_draft 1 (some (.object "TarForms$Entry")) ∈ gW := gW_of (tb2 (List.mem_of_getElem? (i := 107) rfl)) rfl
theorem kvX10_67 : gKv RX10 67 yX10_draft cX10_draft 1 (some (.object "TarForms$Entry")) 9 0 := ⟨Or.inr ⟨_, rfl, rfl⟩, cwX10_draft, gW_of (tb2 (List.mem_of_getElem? (i := 104) rfl)) rfl, gW_of (tb2 (List.mem_of_getElem? (i := 106) rfl)) rfl, gW_of (List.mem_of_getElem? (i := 0) rfl) rfl, kiX10, ⟨by decide +kernel, by decide +kernel, by decide +kernel⟩⟩
theorem lkX10_74 : gLk RX10 74 3 0 := Or.inr ⟨RX3, TX3, 6, rfl, by decide, inX3, gW_of (tb2 (List.mem_of_getElem? (i := 14) rfl)) rfl⟩
theorem lkX10_71 : gLk RX10 71 3 1 := Or.inr ⟨RX3, TX3, 6, rfl, by decide, inX3, gW_of (tb2 (List.mem_of_getElem? (i := 17) rfl)) rfl⟩
theorem kgX10_84 : Cond.fieldLink RX10 84 "TarForms" "LEAST" "[J" ∈ gW := gW_of (tb2 (List.mem_of_getElem? (i := 128) rfl)) rfl
theorem kgX10_88 : Cond.fieldLink RX10 88 "TarForms" "MOST" "[J" ∈ gW := gW_of (tb2 (List.mem_of_getElem? (i := 130) rfl)) rfl
theorem lkX10_91 : gLk RX10 91 3 2 := Or.inr ⟨RX3, TX3, 6, rfl, by decide, inX3, gW_of (tb2 (List.mem_of_getElem? (i := 20) rfl)) rfl⟩
theorem lkX10_98 : gLk RX10 98 3 3 := Or.inr ⟨RX3, TX3, 6, rfl, by decide, inX3, gW_of (tb2 (List.mem_of_getElem? (i := 23) rfl)) rfl⟩
theorem lpX10_98 : gLp RX10 98 3 3 (.int) false := ⟨RX3, TX3, 6, tyX3, rfl, by decide, inX3, gW_of (tb2 (List.mem_of_getElem? (i := 23) rfl)) rfl, tyX3_ok, nmX3, rfl, rfl, (fun h => by cases h)⟩
theorem lkX10_101 : gLk RX10 101 3 4 := Or.inr ⟨RX3, TX3, 6, rfl, by decide, inX3, gW_of (tb2 (List.mem_of_getElem? (i := 26) rfl)) rfl⟩
theorem lpX10_101 : gLp RX10 101 3 4 (.int) false := ⟨RX3, TX3, 6, tyX3, rfl, by decide, inX3, gW_of (tb2 (List.mem_of_getElem? (i := 26) rfl)) rfl, tyX3_ok, nmX3, rfl, rfl, (fun h => by cases h)⟩
theorem lkX10_104 : gLk RX10 104 3 5 := Or.inr ⟨RX3, TX3, 6, rfl, by decide, inX3, gW_of (tb2 (List.mem_of_getElem? (i := 28) rfl)) rfl⟩
theorem lpX10_104 : gLp RX10 104 3 5 (.int) false := ⟨RX3, TX3, 6, tyX3, rfl, by decide, inX3, gW_of (tb2 (List.mem_of_getElem? (i := 28) rfl)) rfl, tyX3_ok, nmX3, rfl, rfl, (fun h => by cases h)⟩
theorem lpX10_28 : gLp RX10 28 9 3 (.int) false := ⟨RX10, TX10, 6, tyX10, rfl, by decide, inX10, gW_of (tb2 (List.mem_of_getElem? (i := 45) rfl)) rfl, tyX10_ok, nmX10, rfl, rfl, (fun h => by cases h)⟩
theorem cwX3_empty : Cond.code yX3_empty cX3_empty 1 none ∈ gW := gW_of (tb2 (List.mem_of_getElem? (i := 142) rfl)) rfl
theorem kvX10_107 : gKv RX10 107 yX3_empty cX3_empty 1 none 3 0 := ⟨Or.inr ⟨_, rfl, rfl⟩, cwX3_empty, gW_of (tb2 (List.mem_of_getElem? (i := 139) rfl)) rfl, gW_of (tb2 (List.mem_of_getElem? (i := 140) rfl)) rfl, gW_of (tb2 (List.mem_of_getElem? (i := 141) rfl)) rfl, kiX3, ⟨by decide +kernel, by decide +kernel, by decide +kernel⟩⟩
theorem ksX10_94 : gKs RX10 94 yX10_isEntryKind cX10_isEntryKind 1 (some .boolean) 1 := ⟨cwX10_isEntryKind, Or.inl (gW_of (tb2 (List.mem_of_getElem? (i := 136) rfl)) rfl), gW_of (tb2 (List.mem_of_getElem? (i := 137) rfl)) rfl, kiX10, ⟨by decide +kernel, by decide +kernel, by decide +kernel⟩⟩
theorem cwX3_isOf : Cond.code yX3_isOf cX3_isOf 2 (some .boolean) ∈ gW := gW_of (tb2 (List.mem_of_getElem? (i := 159) rfl)) rfl
theorem kvX10_176 : gKv RX10 176 yX3_isOf cX3_isOf 2 (some .boolean) 3 1 := ⟨Or.inr ⟨_, rfl, rfl⟩, cwX3_isOf, gW_of (tb2 (List.mem_of_getElem? (i := 156) rfl)) rfl, gW_of (tb2 (List.mem_of_getElem? (i := 157) rfl)) rfl, gW_of (tb2 (List.mem_of_getElem? (i := 158) rfl)) rfl, kiX3, ⟨by decide +kernel, by decide +kernel, by decide +kernel⟩⟩
theorem cwX10_firstNotOf : Cond.code yX10_firstNotOf cX10_firstNotOf 3 (some .int) ∈ gW := gW_of (tb2 (List.mem_of_getElem? (i := 155) rfl)) rfl
theorem kvX10_108 : gKv RX10 108 yX10_firstNotOf cX10_firstNotOf 3 (some .int) 9 1 := ⟨Or.inr ⟨_, rfl, rfl⟩, cwX10_firstNotOf, gW_of (tb2 (List.mem_of_getElem? (i := 152) rfl)) rfl, gW_of (tb2 (List.mem_of_getElem? (i := 154) rfl)) rfl, gW_of (List.mem_of_getElem? (i := 1) rfl) rfl, kiX10, ⟨by decide +kernel, by decide +kernel, by decide +kernel⟩⟩
theorem lkX10_37 : gLk RX10 37 9 4 := Or.inr ⟨RX10, TX10, 6, rfl, by decide, inX10, gW_of (tb2 (List.mem_of_getElem? (i := 46) rfl)) rfl⟩
theorem cwX2_lengthOf : Cond.code yX2_lengthOf cX2_lengthOf 4 (some .int) ∈ gW := gW_of (tb2 (List.mem_of_getElem? (i := 197) rfl)) rfl
theorem kvX10_179 : gKv RX10 179 yX2_lengthOf cX2_lengthOf 4 (some .int) 2 2 := ⟨Or.inr ⟨_, rfl, rfl⟩, cwX2_lengthOf, gW_of (tb2 (List.mem_of_getElem? (i := 194) rfl)) rfl, gW_of (tb2 (List.mem_of_getElem? (i := 195) rfl)) rfl, gW_of (tb2 (List.mem_of_getElem? (i := 196) rfl)) rfl, kiX2, ⟨by decide +kernel, by decide +kernel, by decide +kernel⟩⟩
theorem lkX10_19 : gLk RX10 19 9 1 := Or.inr ⟨RX10, TX10, 6, rfl, by decide, inX10, gW_of (tb2 (List.mem_of_getElem? (i := 43) rfl)) rfl⟩
theorem kvX10_122 : gKv RX10 122 yX7_addZeros cX7_addZeros 3 none 7 1 := ⟨Or.inr ⟨_, rfl, rfl⟩, cwX7_addZeros, gW_of (tb3 (List.mem_of_getElem? (i := 151) rfl)) rfl, gW_of (tb3 (List.mem_of_getElem? (i := 81) rfl)) rfl, gW_of (tb3 (List.mem_of_getElem? (i := 82) rfl)) rfl, kiX7, ⟨by decide +kernel, by decide +kernel, by decide +kernel⟩⟩
theorem cwX2_append : Cond.code yX2_append cX2_append 5 none ∈ gW := gW_of (tb3 (List.mem_of_getElem? (i := 65) rfl)) rfl
theorem kvX10_118 : gKv RX10 118 yX2_append cX2_append 5 none 2 2 := ⟨Or.inr ⟨_, rfl, rfl⟩, cwX2_append, gW_of (tb3 (List.mem_of_getElem? (i := 62) rfl)) rfl, gW_of (tb3 (List.mem_of_getElem? (i := 63) rfl)) rfl, gW_of (tb3 (List.mem_of_getElem? (i := 64) rfl)) rfl, kiX2, ⟨by decide +kernel, by decide +kernel, by decide +kernel⟩⟩
theorem cwX10_lengthWritten : Cond.code yX10_lengthWritten cX10_lengthWritten 4 (some .int) ∈ gW := gW_of (tb2 (List.mem_of_getElem? (i := 193) rfl)) rfl
theorem kvX10_112 : gKv RX10 112 yX10_lengthWritten cX10_lengthWritten 4 (some .int) 9 1 := ⟨Or.inr ⟨_, rfl, rfl⟩, cwX10_lengthWritten, gW_of (tb2 (List.mem_of_getElem? (i := 190) rfl)) rfl, gW_of (tb2 (List.mem_of_getElem? (i := 192) rfl)) rfl, gW_of (List.mem_of_getElem? (i := 4) rfl) rfl, kiX10, ⟨by decide +kernel, by decide +kernel, by decide +kernel⟩⟩
theorem kcX10_18 : Cond.constant RX10 18 (32768 : Int32) ∈ gW := gW_of (tb1 (List.mem_of_getElem? (i := 43) rfl)) rfl
theorem kvX10_128 : gKv RX10 128 yX7_set cX7_set 3 none 7 2 := ⟨Or.inr ⟨_, rfl, rfl⟩, cwX7_set, gW_of (tb3 (List.mem_of_getElem? (i := 160) rfl)) rfl, gW_of (tb3 (List.mem_of_getElem? (i := 94) rfl)) rfl, gW_of (tb3 (List.mem_of_getElem? (i := 95) rfl)) rfl, kiX7, ⟨by decide +kernel, by decide +kernel, by decide +kernel⟩⟩
theorem kvX10_132 : gKv RX10 132 yX2_seal cX2_seal 3 (some .int) 2 1 := ⟨Or.inr ⟨_, rfl, rfl⟩, cwX2_seal, gW_of (tb3 (List.mem_of_getElem? (i := 165) rfl)) rfl, gW_of (tb3 (List.mem_of_getElem? (i := 111) rfl)) rfl, gW_of (tb3 (List.mem_of_getElem? (i := 112) rfl)) rfl, kiX2, ⟨by decide +kernel, by decide +kernel, by decide +kernel⟩⟩
theorem lkX10_44 : gLk RX10 44 9 5 := Or.inr ⟨RX10, TX10, 6, rfl, by decide, inX10, gW_of (tb2 (List.mem_of_getElem? (i := 47) rfl)) rfl⟩
theorem cwX1_run : Cond.code yX1_run cX1_run 5 (some .int) ∈ gW := gW_of (tb3 (List.mem_of_getElem? (i := 177) rfl)) rfl
theorem kvX10_135 : gKv RX10 135 yX1_run cX1_run 5 (some .int) 1 1 := ⟨Or.inr ⟨_, rfl, rfl⟩, cwX1_run, gW_of (tb3 (List.mem_of_getElem? (i := 174) rfl)) rfl, gW_of (tb3 (List.mem_of_getElem? (i := 175) rfl)) rfl, gW_of (tb3 (List.mem_of_getElem? (i := 176) rfl)) rfl, kiX1, ⟨by decide +kernel, by decide +kernel, by decide +kernel⟩⟩
theorem lkX10_139 : gLk RX10 139 1 6 := Or.inr ⟨RX1, TX1, 9, rfl, by decide, inX1, gW_of (tb1 (List.mem_of_getElem? (i := 220) rfl)) rfl⟩
theorem lkX10_143 : gLk RX10 143 4 0 := Or.inr ⟨RX4, TX4, 2, rfl, by decide, inX4, gW_of (tb1 (List.mem_of_getElem? (i := 126) rfl)) rfl⟩
theorem lkX10_146 : gLk RX10 146 4 1 := Or.inr ⟨RX4, TX4, 2, rfl, by decide, inX4, gW_of (tb1 (List.mem_of_getElem? (i := 128) rfl)) rfl⟩
theorem lkX10_149 : gLk RX10 149 1 7 := Or.inr ⟨RX1, TX1, 9, rfl, by decide, inX1, gW_of (tb1 (List.mem_of_getElem? (i := 222) rfl)) rfl⟩
theorem lkX10_152 : gLk RX10 152 1 8 := Or.inr ⟨RX1, TX1, 9, rfl, by decide, inX1, gW_of (tb1 (List.mem_of_getElem? (i := 224) rfl)) rfl⟩
theorem cwX1_at : Cond.code yX1_at cX1_at 2 (some (.object "TarForms$Found")) ∈ gW := gW_of (tb4 (List.mem_of_getElem? (i := 132) rfl)) rfl
theorem kvX10_155 : gKv RX10 155 yX1_at cX1_at 2 (some (.object "TarForms$Found")) 1 1 := ⟨Or.inr ⟨_, rfl, rfl⟩, cwX1_at, gW_of (tb4 (List.mem_of_getElem? (i := 129) rfl)) rfl, gW_of (tb4 (List.mem_of_getElem? (i := 130) rfl)) rfl, gW_of (tb4 (List.mem_of_getElem? (i := 131) rfl)) rfl, kiX1, ⟨by decide +kernel, by decide +kernel, by decide +kernel⟩⟩
theorem kcX10_163 : Cond.constantLong RX10 163 (-9000000000000000000 : Int64) ∈ gW := gW_of (tb4 (List.mem_of_getElem? (i := 133) rfl)) rfl
theorem lkX10_158 : gLk RX10 158 5 0 := Or.inr ⟨RX5, TX5, 3, rfl, by decide, inX5, gW_of (tb1 (List.mem_of_getElem? (i := 198) rfl)) rfl⟩
theorem lkX10_166 : gLk RX10 166 5 1 := Or.inr ⟨RX5, TX5, 3, rfl, by decide, inX5, gW_of (tb1 (List.mem_of_getElem? (i := 201) rfl)) rfl⟩
theorem lkX10_165 : gLk RX10 165 5 2 := Or.inr ⟨RX5, TX5, 3, rfl, by decide, inX5, gW_of (tb1 (List.mem_of_getElem? (i := 204) rfl)) rfl⟩
theorem inX11 : ∀ w ∈ u_ws RX11 TX11 33, w ∈ gW := fun w h => gW_of ((by decide +kernel : ∀ w ∈ u_ws RX11 TX11 33, w ∈ lw_tbl) w h) ((by decide +kernel : ∀ w ∈ u_ws RX11 TX11 33, goodWord w = true) w h)
theorem lkX11_1 : gLk RX11 1 10 1 := Or.inr ⟨RX11, TX11, 33, rfl, by decide, inX11, gW_of (tb4 (List.mem_of_getElem? (i := 156) rfl)) rfl⟩
theorem lkX11_7 : gLk RX11 7 10 0 := Or.inr ⟨RX11, TX11, 33, rfl, by decide, inX11, gW_of (tb4 (List.mem_of_getElem? (i := 155) rfl)) rfl⟩
theorem lpX11_1 : gLp RX11 1 10 1 (.int) false := ⟨RX11, TX11, 33, tyX11, rfl, by decide, inX11, gW_of (tb4 (List.mem_of_getElem? (i := 156) rfl)) rfl, tyX11_ok, nmX11, rfl, rfl, (fun h => by cases h)⟩
theorem lkX11_23 : gLk RX11 23 10 5 := Or.inr ⟨RX11, TX11, 33, rfl, by decide, inX11, gW_of (tb4 (List.mem_of_getElem? (i := 160) rfl)) rfl⟩
theorem lkX11_29 : gLk RX11 29 10 7 := Or.inr ⟨RX11, TX11, 33, rfl, by decide, inX11, gW_of (tb4 (List.mem_of_getElem? (i := 162) rfl)) rfl⟩
theorem lkX11_20 : gLk RX11 20 10 4 := Or.inr ⟨RX11, TX11, 33, rfl, by decide, inX11, gW_of (tb4 (List.mem_of_getElem? (i := 159) rfl)) rfl⟩
theorem lkX11_26 : gLk RX11 26 10 6 := Or.inr ⟨RX11, TX11, 33, rfl, by decide, inX11, gW_of (tb4 (List.mem_of_getElem? (i := 161) rfl)) rfl⟩
theorem lkX11_32 : gLk RX11 32 10 8 := Or.inr ⟨RX11, TX11, 33, rfl, by decide, inX11, gW_of (tb4 (List.mem_of_getElem? (i := 163) rfl)) rfl⟩
theorem kcX11_94 : Cond.constantLong RX11 94 (999999999 : Int64) ∈ gW := gW_of (tb5 (List.mem_of_getElem? (i := 29) rfl)) rfl
theorem kcX11_92 : Cond.constantLong RX11 92 (1125899906842624 : Int64) ∈ gW := gW_of (tb5 (List.mem_of_getElem? (i := 28) rfl)) rfl
theorem kcX11_90 : Cond.constantLong RX11 90 (36028797018963968 : Int64) ∈ gW := gW_of (tb5 (List.mem_of_getElem? (i := 27) rfl)) rfl
theorem kcX11_88 : Cond.constantLong RX11 88 (4095 : Int64) ∈ gW := gW_of (tb5 (List.mem_of_getElem? (i := 26) rfl)) rfl
theorem kcX11_86 : Cond.constantLong RX11 86 (-1099511627776 : Int64) ∈ gW := gW_of (tb5 (List.mem_of_getElem? (i := 25) rfl)) rfl
theorem kcX11_84 : Cond.constantLong RX11 84 (420 : Int64) ∈ gW := gW_of (tb4 (List.mem_of_getElem? (i := 154) rfl)) rfl
theorem kiX11 : Cond.initialized RX11 ∈ gW := gW_of (tb1 (List.mem_of_getElem? (i := 12) rfl)) rfl
theorem cwX11_emptyDraft : Cond.code yX11_emptyDraft cX11_emptyDraft 2 none ∈ gW := gW_of (tb5 (List.mem_of_getElem? (i := 37) rfl)) rfl
theorem kvX11_99 : gKv RX11 99 yX11_emptyDraft cX11_emptyDraft 2 none 10 0 := ⟨Or.inr ⟨_, rfl, rfl⟩, cwX11_emptyDraft, gW_of (tb5 (List.mem_of_getElem? (i := 34) rfl)) rfl, gW_of (tb5 (List.mem_of_getElem? (i := 36) rfl)) rfl, gW_of (List.mem_of_getElem? (i := 38) rfl) rfl, kiX11, ⟨by decide +kernel, by decide +kernel, by decide +kernel⟩⟩
theorem lkX11_96 : gLk RX11 96 10 2 := Or.inr ⟨RX11, TX11, 33, rfl, by decide, inX11, gW_of (tb4 (List.mem_of_getElem? (i := 157) rfl)) rfl⟩
theorem lpX11_96 : gLp RX11 96 10 2 (.int) false := ⟨RX11, TX11, 33, tyX11, rfl, by decide, inX11, gW_of (tb4 (List.mem_of_getElem? (i := 157) rfl)) rfl, tyX11_ok, nmX11, rfl, rfl, (fun h => by cases h)⟩
theorem lkX11_17 : gLk RX11 17 10 3 := Or.inr ⟨RX11, TX11, 33, rfl, by decide, inX11, gW_of (tb4 (List.mem_of_getElem? (i := 158) rfl)) rfl⟩
theorem lkX11_36 : gLk RX11 36 10 9 := Or.inr ⟨RX11, TX11, 33, rfl, by decide, inX11, gW_of (tb4 (List.mem_of_getElem? (i := 164) rfl)) rfl⟩
theorem lkX11_39 : gLk RX11 39 10 10 := Or.inr ⟨RX11, TX11, 33, rfl, by decide, inX11, gW_of (tb4 (List.mem_of_getElem? (i := 165) rfl)) rfl⟩
theorem cwX11_splitOf : Cond.code yX11_splitOf cX11_splitOf 5 (some .int) ∈ gW := gW_of (tb5 (List.mem_of_getElem? (i := 60) rfl)) rfl
theorem kvX11_106 : gKv RX11 106 yX11_splitOf cX11_splitOf 5 (some .int) 10 1 := ⟨Or.inr ⟨_, rfl, rfl⟩, cwX11_splitOf, gW_of (tb5 (List.mem_of_getElem? (i := 57) rfl)) rfl, gW_of (tb5 (List.mem_of_getElem? (i := 59) rfl)) rfl, gW_of (List.mem_of_getElem? (i := 41) rfl) rfl, kiX11, ⟨by decide +kernel, by decide +kernel, by decide +kernel⟩⟩
theorem cwX11_fits : Cond.code yX11_fits cX11_fits 3 (some .boolean) ∈ gW := gW_of (tb5 (List.mem_of_getElem? (i := 56) rfl)) rfl
theorem ksX11_102 : gKs RX11 102 yX11_fits cX11_fits 3 (some .boolean) 2 := ⟨cwX11_fits, Or.inl (gW_of (tb5 (List.mem_of_getElem? (i := 54) rfl)) rfl), gW_of (tb5 (List.mem_of_getElem? (i := 55) rfl)) rfl, kiX11, ⟨by decide +kernel, by decide +kernel, by decide +kernel⟩⟩
theorem cwX11_isOf : Cond.code yX11_isOf cX11_isOf 5 (some .boolean) ∈ gW := gW_of (tb5 (List.mem_of_getElem? (i := 53) rfl)) rfl
theorem kvX11_110 : gKv RX11 110 yX11_isOf cX11_isOf 5 (some .boolean) 10 2 := ⟨Or.inr ⟨_, rfl, rfl⟩, cwX11_isOf, gW_of (tb5 (List.mem_of_getElem? (i := 50) rfl)) rfl, gW_of (tb5 (List.mem_of_getElem? (i := 52) rfl)) rfl, gW_of (List.mem_of_getElem? (i := 40) rfl) rfl, kiX11, ⟨by decide +kernel, by decide +kernel, by decide +kernel⟩⟩
theorem cwX11_notOf : Cond.code yX11_notOf cX11_notOf 3 (some .int) ∈ gW := gW_of (tb5 (List.mem_of_getElem? (i := 49) rfl)) rfl
theorem kvX11_114 : gKv RX11 114 yX11_notOf cX11_notOf 3 (some .int) 10 1 := ⟨Or.inr ⟨_, rfl, rfl⟩, cwX11_notOf, gW_of (tb5 (List.mem_of_getElem? (i := 46) rfl)) rfl, gW_of (tb5 (List.mem_of_getElem? (i := 48) rfl)) rfl, gW_of (List.mem_of_getElem? (i := 39) rfl) rfl, kiX11, ⟨by decide +kernel, by decide +kernel, by decide +kernel⟩⟩
theorem lkX11_47 : gLk RX11 47 10 13 := Or.inr ⟨RX11, TX11, 33, rfl, by decide, inX11, gW_of (tb4 (List.mem_of_getElem? (i := 168) rfl)) rfl⟩
theorem kcX11_117 : Cond.constantLong RX11 117 (7 : Int64) ∈ gW := gW_of (tb5 (List.mem_of_getElem? (i := 85) rfl)) rfl
theorem kcX11_119 : Cond.constantLong RX11 119 (255 : Int64) ∈ gW := gW_of (tb5 (List.mem_of_getElem? (i := 87) rfl)) rfl
theorem cwX11_octal : Cond.code yX11_octal cX11_octal 8 none ∈ gW := gW_of (tb5 (List.mem_of_getElem? (i := 84) rfl)) rfl
theorem kvX11_121 : gKv RX11 121 yX11_octal cX11_octal 8 none 10 3 := ⟨Or.inr ⟨_, rfl, rfl⟩, cwX11_octal, gW_of (tb5 (List.mem_of_getElem? (i := 81) rfl)) rfl, gW_of (tb5 (List.mem_of_getElem? (i := 83) rfl)) rfl, gW_of (List.mem_of_getElem? (i := 46) rfl) rfl, kiX11, ⟨by decide +kernel, by decide +kernel, by decide +kernel⟩⟩
theorem cwX11_by256 : Cond.code yX11_by256 cX11_by256 7 none ∈ gW := gW_of (tb5 (List.mem_of_getElem? (i := 148) rfl)) rfl
theorem kvX11_125 : gKv RX11 125 yX11_by256 cX11_by256 7 none 10 3 := ⟨Or.inr ⟨_, rfl, rfl⟩, cwX11_by256, gW_of (tb5 (List.mem_of_getElem? (i := 145) rfl)) rfl, gW_of (tb5 (List.mem_of_getElem? (i := 147) rfl)) rfl, gW_of (List.mem_of_getElem? (i := 57) rfl) rfl, kiX11, ⟨by decide +kernel, by decide +kernel, by decide +kernel⟩⟩
theorem lkX11_128 : gLk RX11 128 10 14 := Or.inr ⟨RX11, TX11, 33, rfl, by decide, inX11, gW_of (tb4 (List.mem_of_getElem? (i := 169) rfl)) rfl⟩
theorem lpX11_128 : gLp RX11 128 10 14 (.int) false := ⟨RX11, TX11, 33, tyX11, rfl, by decide, inX11, gW_of (tb4 (List.mem_of_getElem? (i := 169) rfl)) rfl, tyX11_ok, nmX11, rfl, rfl, (fun h => by cases h)⟩
theorem cwX11_sumOf : Cond.code yX11_sumOf cX11_sumOf 7 (some .int) ∈ gW := gW_of (tb5 (List.mem_of_getElem? (i := 131) rfl)) rfl
theorem kvX11_131 : gKv RX11 131 yX11_sumOf cX11_sumOf 7 (some .int) 10 3 := ⟨Or.inr ⟨_, rfl, rfl⟩, cwX11_sumOf, gW_of (tb5 (List.mem_of_getElem? (i := 128) rfl)) rfl, gW_of (tb5 (List.mem_of_getElem? (i := 130) rfl)) rfl, gW_of (List.mem_of_getElem? (i := 54) rfl) rfl, kiX11, ⟨by decide +kernel, by decide +kernel, by decide +kernel⟩⟩
theorem cwX11_putSum : Cond.code yX11_putSum cX11_putSum 4 none ∈ gW := gW_of (tb5 (List.mem_of_getElem? (i := 134) rfl)) rfl
theorem ksX11_135 : gKs RX11 135 yX11_putSum cX11_putSum 4 none 3 := ⟨cwX11_putSum, Or.inl (gW_of (tb5 (List.mem_of_getElem? (i := 132) rfl)) rfl), gW_of (tb5 (List.mem_of_getElem? (i := 133) rfl)) rfl, kiX11, ⟨by decide +kernel, by decide +kernel, by decide +kernel⟩⟩
theorem lkX11_50 : gLk RX11 50 10 15 := Or.inr ⟨RX11, TX11, 33, rfl, by decide, inX11, gW_of (tb4 (List.mem_of_getElem? (i := 170) rfl)) rfl⟩
theorem lkX11_139 : gLk RX11 139 10 16 := Or.inr ⟨RX11, TX11, 33, rfl, by decide, inX11, gW_of (tb4 (List.mem_of_getElem? (i := 171) rfl)) rfl⟩
theorem lpX11_139 : gLp RX11 139 10 16 (.int) false := ⟨RX11, TX11, 33, tyX11, rfl, by decide, inX11, gW_of (tb4 (List.mem_of_getElem? (i := 171) rfl)) rfl, tyX11_ok, nmX11, rfl, rfl, (fun h => by cases h)⟩
theorem kcX11_144 : Cond.constantLong RX11 144 (10 : Int64) ∈ gW := gW_of (tb5 (List.mem_of_getElem? (i := 110) rfl)) rfl
theorem cwX11_say : Cond.code yX11_say cX11_say 2 none ∈ gW := gW_of (tb5 (List.mem_of_getElem? (i := 91) rfl)) rfl
theorem kvX11_146 : gKv RX11 146 yX11_say cX11_say 2 none 10 1 := ⟨Or.inr ⟨_, rfl, rfl⟩, cwX11_say, gW_of (tb5 (List.mem_of_getElem? (i := 88) rfl)) rfl, gW_of (tb5 (List.mem_of_getElem? (i := 90) rfl)) rfl, gW_of (List.mem_of_getElem? (i := 47) rfl) rfl, kiX11, ⟨by decide +kernel, by decide +kernel, by decide +kernel⟩⟩
theorem kcX11_142 : Cond.constantLong RX11 142 (9 : Int64) ∈ gW := gW_of (tb5 (List.mem_of_getElem? (i := 109) rfl)) rfl
theorem cwX11_sayNumber : Cond.code yX11_sayNumber cX11_sayNumber 5 none ∈ gW := gW_of (tb5 (List.mem_of_getElem? (i := 108) rfl)) rfl
theorem kvX11_152 : gKv RX11 152 yX11_sayNumber cX11_sayNumber 5 none 10 1 := ⟨Or.inr ⟨_, rfl, rfl⟩, cwX11_sayNumber, gW_of (tb5 (List.mem_of_getElem? (i := 105) rfl)) rfl, gW_of (tb5 (List.mem_of_getElem? (i := 107) rfl)) rfl, gW_of (List.mem_of_getElem? (i := 50) rfl) rfl, kiX11, ⟨by decide +kernel, by decide +kernel, by decide +kernel⟩⟩
theorem kcX11_156 : Cond.constantLong RX11 156 (100000000 : Int64) ∈ gW := gW_of (tb5 (List.mem_of_getElem? (i := 118) rfl)) rfl
theorem kcX11_150 : Cond.constantLong RX11 150 (1000000000 : Int64) ∈ gW := gW_of (tb5 (List.mem_of_getElem? (i := 117) rfl)) rfl
theorem cwX11_putWord : Cond.code yX11_putWord cX11_putWord 2 none ∈ gW := gW_of (tb5 (List.mem_of_getElem? (i := 103) rfl)) rfl
theorem kvX11_161 : gKv RX11 161 yX11_putWord cX11_putWord 2 none 10 0 := ⟨Or.inr ⟨_, rfl, rfl⟩, cwX11_putWord, gW_of (tb5 (List.mem_of_getElem? (i := 100) rfl)) rfl, gW_of (tb5 (List.mem_of_getElem? (i := 102) rfl)) rfl, gW_of (List.mem_of_getElem? (i := 49) rfl) rfl, kiX11, ⟨by decide +kernel, by decide +kernel, by decide +kernel⟩⟩
theorem cwX11_digits : Cond.code yX11_digits cX11_digits 1 (some .int) ∈ gW := gW_of (tb5 (List.mem_of_getElem? (i := 99) rfl)) rfl
theorem ksX11_158 : gKs RX11 158 yX11_digits cX11_digits 1 (some .int) 1 := ⟨cwX11_digits, Or.inl (gW_of (tb5 (List.mem_of_getElem? (i := 97) rfl)) rfl), gW_of (tb5 (List.mem_of_getElem? (i := 98) rfl)) rfl, kiX11, ⟨by decide +kernel, by decide +kernel, by decide +kernel⟩⟩
theorem cwX11_fill : Cond.code yX11_fill cX11_fill 1 none ∈ gW := gW_of (tb5 (List.mem_of_getElem? (i := 123) rfl)) rfl
theorem kvX11_190 : gKv RX11 190 yX11_fill cX11_fill 1 none 10 0 := ⟨Or.inr ⟨_, rfl, rfl⟩, cwX11_fill, gW_of (tb5 (List.mem_of_getElem? (i := 120) rfl)) rfl, gW_of (tb5 (List.mem_of_getElem? (i := 122) rfl)) rfl, gW_of (List.mem_of_getElem? (i := 52) rfl) rfl, kiX11, ⟨by decide +kernel, by decide +kernel, by decide +kernel⟩⟩
theorem cwX11_endHead : Cond.code yX11_endHead cX11_endHead 2 none ∈ gW := gW_of (tb5 (List.mem_of_getElem? (i := 127) rfl)) rfl
theorem kvX11_193 : gKv RX11 193 yX11_endHead cX11_endHead 2 none 10 1 := ⟨Or.inr ⟨_, rfl, rfl⟩, cwX11_endHead, gW_of (tb5 (List.mem_of_getElem? (i := 124) rfl)) rfl, gW_of (tb5 (List.mem_of_getElem? (i := 126) rfl)) rfl, gW_of (List.mem_of_getElem? (i := 53) rfl) rfl, kiX11, ⟨by decide +kernel, by decide +kernel, by decide +kernel⟩⟩
theorem cwX11_sayTime : Cond.code yX11_sayTime cX11_sayTime 11 none ∈ gW := gW_of (tb5 (List.mem_of_getElem? (i := 116) rfl)) rfl
theorem kvX11_184 : gKv RX11 184 yX11_sayTime cX11_sayTime 11 none 10 2 := ⟨Or.inr ⟨_, rfl, rfl⟩, cwX11_sayTime, gW_of (tb5 (List.mem_of_getElem? (i := 113) rfl)) rfl, gW_of (tb5 (List.mem_of_getElem? (i := 115) rfl)) rfl, gW_of (List.mem_of_getElem? (i := 51) rfl) rfl, kiX11, ⟨by decide +kernel, by decide +kernel, by decide +kernel⟩⟩
theorem kcX11_188 : Cond.constantLong RX11 188 (470104501605 : Int64) ∈ gW := gW_of (tb5 (List.mem_of_getElem? (i := 119) rfl)) rfl
theorem cwX11_row : Cond.code yX11_row cX11_row 8 none ∈ gW := gW_of (tb5 (List.mem_of_getElem? (i := 96) rfl)) rfl
theorem kvX11_175 : gKv RX11 175 yX11_row cX11_row 8 none 10 1 := ⟨Or.inr ⟨_, rfl, rfl⟩, cwX11_row, gW_of (tb5 (List.mem_of_getElem? (i := 93) rfl)) rfl, gW_of (tb5 (List.mem_of_getElem? (i := 95) rfl)) rfl, gW_of (List.mem_of_getElem? (i := 48) rfl) rfl, kiX11, ⟨by decide +kernel, by decide +kernel, by decide +kernel⟩⟩
theorem kcX11_182 : Cond.constantLong RX11 182 (6777188 : Int64) ∈ gW := gW_of (tb5 (List.mem_of_getElem? (i := 112) rfl)) rfl
theorem kcX11_180 : Cond.constantLong RX11 180 (7694692 : Int64) ∈ gW := gW_of (tb5 (List.mem_of_getElem? (i := 111) rfl)) rfl
theorem kcX11_178 : Cond.constantLong RX11 178 (7811896436376826984 : Int64) ∈ gW := gW_of (tb5 (List.mem_of_getElem? (i := 104) rfl)) rfl
theorem kcX11_173 : Cond.constantLong RX11 173 (1885434984 : Int64) ∈ gW := gW_of (tb5 (List.mem_of_getElem? (i := 92) rfl)) rfl
theorem kcX11_171 : Cond.constantLong RX11 171 (5792042848109028453 : Int64) ∈ gW := gW_of (tb5 (List.mem_of_getElem? (i := 86) rfl)) rfl
theorem cwX11_head : Cond.code yX11_head cX11_head 9 (some .int) ∈ gW := gW_of (tb5 (List.mem_of_getElem? (i := 80) rfl)) rfl
theorem kvX11_167 : gKv RX11 167 yX11_head cX11_head 9 (some .int) 10 4 := ⟨Or.inr ⟨_, rfl, rfl⟩, cwX11_head, gW_of (tb5 (List.mem_of_getElem? (i := 77) rfl)) rfl, gW_of (tb5 (List.mem_of_getElem? (i := 79) rfl)) rfl, gW_of (List.mem_of_getElem? (i := 45) rfl) rfl, kiX11, ⟨by decide +kernel, by decide +kernel, by decide +kernel⟩⟩
theorem cwX11_isWhole : Cond.code yX11_isWhole cX11_isWhole 3 (some .boolean) ∈ gW := gW_of (tb5 (List.mem_of_getElem? (i := 76) rfl)) rfl
theorem kvX11_164 : gKv RX11 164 yX11_isWhole cX11_isWhole 3 (some .boolean) 10 2 := ⟨Or.inr ⟨_, rfl, rfl⟩, cwX11_isWhole, gW_of (tb5 (List.mem_of_getElem? (i := 73) rfl)) rfl, gW_of (tb5 (List.mem_of_getElem? (i := 75) rfl)) rfl, gW_of (List.mem_of_getElem? (i := 44) rfl) rfl, kiX11, ⟨by decide +kernel, by decide +kernel, by decide +kernel⟩⟩
theorem kcX11_198 : Cond.constantLong RX11 198 (443663609451 : Int64) ∈ gW := gW_of (tb5 (List.mem_of_getElem? (i := 140) rfl)) rfl
theorem kcX11_196 : Cond.constantLong RX11 196 (3327929430127177582 : Int64) ∈ gW := gW_of (tb5 (List.mem_of_getElem? (i := 139) rfl)) rfl
theorem kcX11_211 : Cond.constant RX11 211 (-1640531535 : Int32) ∈ gW := gW_of (tb5 (List.mem_of_getElem? (i := 149) rfl)) rfl
theorem cwX11_number_ : Cond.code yX11_number_ cX11_number_ 6 none ∈ gW := gW_of (tb5 (List.mem_of_getElem? (i := 144) rfl)) rfl
theorem kvX11_207 : gKv RX11 207 yX11_number_ cX11_number_ 6 none 10 4 := ⟨Or.inr ⟨_, rfl, rfl⟩, cwX11_number_, gW_of (tb5 (List.mem_of_getElem? (i := 141) rfl)) rfl, gW_of (tb5 (List.mem_of_getElem? (i := 143) rfl)) rfl, gW_of (List.mem_of_getElem? (i := 56) rfl) rfl, kiX11, ⟨by decide +kernel, by decide +kernel, by decide +kernel⟩⟩
theorem cwX11_long_ : Cond.code yX11_long_ cX11_long_ 7 none ∈ gW := gW_of (tb5 (List.mem_of_getElem? (i := 138) rfl)) rfl
theorem kvX11_203 : gKv RX11 203 yX11_long_ cX11_long_ 7 none 10 4 := ⟨Or.inr ⟨_, rfl, rfl⟩, cwX11_long_, gW_of (tb5 (List.mem_of_getElem? (i := 135) rfl)) rfl, gW_of (tb5 (List.mem_of_getElem? (i := 137) rfl)) rfl, gW_of (List.mem_of_getElem? (i := 55) rfl) rfl, kiX11, ⟨by decide +kernel, by decide +kernel, by decide +kernel⟩⟩
theorem cwX11_extended : Cond.code yX11_extended cX11_extended 10 none ∈ gW := gW_of (tb5 (List.mem_of_getElem? (i := 72) rfl)) rfl
theorem kvX11_200 : gKv RX11 200 yX11_extended cX11_extended 10 none 10 1 := ⟨Or.inr ⟨_, rfl, rfl⟩, cwX11_extended, gW_of (tb5 (List.mem_of_getElem? (i := 69) rfl)) rfl, gW_of (tb5 (List.mem_of_getElem? (i := 71) rfl)) rfl, gW_of (List.mem_of_getElem? (i := 43) rfl) rfl, kiX11, ⟨by decide +kernel, by decide +kernel, by decide +kernel⟩⟩
theorem lkX11_212 : gLk RX11 212 10 12 := Or.inr ⟨RX11, TX11, 33, rfl, by decide, inX11, gW_of (tb4 (List.mem_of_getElem? (i := 167) rfl)) rfl⟩
theorem lpX11_212 : gLp RX11 212 10 12 (.int) false := ⟨RX11, TX11, 33, tyX11, rfl, by decide, inX11, gW_of (tb4 (List.mem_of_getElem? (i := 167) rfl)) rfl, tyX11_ok, nmX11, rfl, rfl, (fun h => by cases h)⟩
theorem lkX11_43 : gLk RX11 43 10 11 := Or.inr ⟨RX11, TX11, 33, rfl, by decide, inX11, gW_of (tb4 (List.mem_of_getElem? (i := 166) rfl)) rfl⟩
theorem kcX11_42 : Cond.constant RX11 42 (32768 : Int32) ∈ gW := gW_of (tb4 (List.mem_of_getElem? (i := 152) rfl)) rfl
theorem cwX11_put : Cond.code yX11_put cX11_put 8 none ∈ gW := gW_of (tb5 (List.mem_of_getElem? (i := 68) rfl)) rfl
theorem kvX11_215 : gKv RX11 215 yX11_put cX11_put 8 none 10 2 := ⟨Or.inr ⟨_, rfl, rfl⟩, cwX11_put, gW_of (tb5 (List.mem_of_getElem? (i := 65) rfl)) rfl, gW_of (tb5 (List.mem_of_getElem? (i := 67) rfl)) rfl, gW_of (List.mem_of_getElem? (i := 42) rfl) rfl, kiX11, ⟨by decide +kernel, by decide +kernel, by decide +kernel⟩⟩
theorem lkX11_219 : gLk RX11 219 10 17 := Or.inr ⟨RX11, TX11, 33, rfl, by decide, inX11, gW_of (tb4 (List.mem_of_getElem? (i := 172) rfl)) rfl⟩
theorem lpX11_219 : gLp RX11 219 10 17 (.int) false := ⟨RX11, TX11, 33, tyX11, rfl, by decide, inX11, gW_of (tb4 (List.mem_of_getElem? (i := 172) rfl)) rfl, tyX11_ok, nmX11, rfl, rfl, (fun h => by cases h)⟩
theorem lkX11_222 : gLk RX11 222 10 18 := Or.inr ⟨RX11, TX11, 33, rfl, by decide, inX11, gW_of (tb4 (List.mem_of_getElem? (i := 173) rfl)) rfl⟩
theorem lpX11_222 : gLp RX11 222 10 18 (.int) false := ⟨RX11, TX11, 33, tyX11, rfl, by decide, inX11, gW_of (tb4 (List.mem_of_getElem? (i := 173) rfl)) rfl, tyX11_ok, nmX11, rfl, rfl, (fun h => by cases h)⟩
theorem lkX11_228 : gLk RX11 228 10 31 := Or.inr ⟨RX11, TX11, 33, rfl, by decide, inX11, gW_of (tb4 (List.mem_of_getElem? (i := 186) rfl)) rfl⟩
theorem lpX11_228 : gLp RX11 228 10 31 (.long) false := ⟨RX11, TX11, 33, tyX11, rfl, by decide, inX11, gW_of (tb4 (List.mem_of_getElem? (i := 186) rfl)) rfl, tyX11_ok, nmX11, rfl, rfl, (fun h => by cases h)⟩
theorem kcX11_235 : Cond.constantLong RX11 235 (-1 : Int64) ∈ gW := gW_of (tb5 (List.mem_of_getElem? (i := 198) rfl)) rfl
theorem cwX11_isBy256 : Cond.code yX11_isBy256 cX11_isBy256 8 (some .boolean) ∈ gW := gW_of (tb5 (List.mem_of_getElem? (i := 197) rfl)) rfl
theorem kvX11_225 : gKv RX11 225 yX11_isBy256 cX11_isBy256 8 (some .boolean) 10 2 := ⟨Or.inr ⟨_, rfl, rfl⟩, cwX11_isBy256, gW_of (tb5 (List.mem_of_getElem? (i := 194) rfl)) rfl, gW_of (tb5 (List.mem_of_getElem? (i := 196) rfl)) rfl, gW_of (List.mem_of_getElem? (i := 64) rfl) rfl, kiX11, ⟨by decide +kernel, by decide +kernel, by decide +kernel⟩⟩
theorem kcX11_231 : Cond.constantLong RX11 231 (8 : Int64) ∈ gW := gW_of (tb5 (List.mem_of_getElem? (i := 199) rfl)) rfl
theorem kcX11_233 : Cond.constantLong RX11 233 (48 : Int64) ∈ gW := gW_of (tb5 (List.mem_of_getElem? (i := 200) rfl)) rfl
theorem lkX11_74 : gLk RX11 74 10 28 := Or.inr ⟨RX11, TX11, 33, rfl, by decide, inX11, gW_of (tb4 (List.mem_of_getElem? (i := 183) rfl)) rfl⟩
theorem lkX11_65 : gLk RX11 65 10 25 := Or.inr ⟨RX11, TX11, 33, rfl, by decide, inX11, gW_of (tb4 (List.mem_of_getElem? (i := 180) rfl)) rfl⟩
theorem lkX11_71 : gLk RX11 71 10 27 := Or.inr ⟨RX11, TX11, 33, rfl, by decide, inX11, gW_of (tb4 (List.mem_of_getElem? (i := 182) rfl)) rfl⟩
theorem cwX11_isZeros : Cond.code yX11_isZeros cX11_isZeros 4 (some .boolean) ∈ gW := gW_of (tb5 (List.mem_of_getElem? (i := 185) rfl)) rfl
theorem kvX11_257 : gKv RX11 257 yX11_isZeros cX11_isZeros 4 (some .boolean) 10 1 := ⟨Or.inr ⟨_, rfl, rfl⟩, cwX11_isZeros, gW_of (tb5 (List.mem_of_getElem? (i := 182) rfl)) rfl, gW_of (tb5 (List.mem_of_getElem? (i := 184) rfl)) rfl, gW_of (List.mem_of_getElem? (i := 61) rfl) rfl, kiX11, ⟨by decide +kernel, by decide +kernel, by decide +kernel⟩⟩
theorem lkX11_246 : gLk RX11 246 10 30 := Or.inr ⟨RX11, TX11, 33, rfl, by decide, inX11, gW_of (tb4 (List.mem_of_getElem? (i := 185) rfl)) rfl⟩
theorem lkX11_240 : gLk RX11 240 10 20 := Or.inr ⟨RX11, TX11, 33, rfl, by decide, inX11, gW_of (tb4 (List.mem_of_getElem? (i := 175) rfl)) rfl⟩
theorem lpX11_240 : gLp RX11 240 10 20 (.int) false := ⟨RX11, TX11, 33, tyX11, rfl, by decide, inX11, gW_of (tb4 (List.mem_of_getElem? (i := 175) rfl)) rfl, tyX11_ok, nmX11, rfl, rfl, (fun h => by cases h)⟩
theorem cwX11_failed : Cond.code yX11_failed cX11_failed 3 none ∈ gW := gW_of (tb5 (List.mem_of_getElem? (i := 181) rfl)) rfl
theorem kvX11_254 : gKv RX11 254 yX11_failed cX11_failed 3 none 10 2 := ⟨Or.inr ⟨_, rfl, rfl⟩, cwX11_failed, gW_of (tb5 (List.mem_of_getElem? (i := 178) rfl)) rfl, gW_of (tb5 (List.mem_of_getElem? (i := 180) rfl)) rfl, gW_of (List.mem_of_getElem? (i := 60) rfl) rfl, kiX11, ⟨by decide +kernel, by decide +kernel, by decide +kernel⟩⟩
theorem lkX11_56 : gLk RX11 56 10 22 := Or.inr ⟨RX11, TX11, 33, rfl, by decide, inX11, gW_of (tb4 (List.mem_of_getElem? (i := 177) rfl)) rfl⟩
theorem cwX11_putField : Cond.code yX11_putField cX11_putField 6 (some .int) ∈ gW := gW_of (tb5 (List.mem_of_getElem? (i := 221) rfl)) rfl
theorem kvX11_322 : gKv RX11 322 yX11_putField cX11_putField 6 (some .int) 10 4 := ⟨Or.inr ⟨_, rfl, rfl⟩, cwX11_putField, gW_of (tb5 (List.mem_of_getElem? (i := 218) rfl)) rfl, gW_of (tb5 (List.mem_of_getElem? (i := 220) rfl)) rfl, gW_of (List.mem_of_getElem? (i := 68) rfl) rfl, kiX11, ⟨by decide +kernel, by decide +kernel, by decide +kernel⟩⟩
theorem cwX11_isMagic : Cond.code yX11_isMagic cX11_isMagic 3 (some .boolean) ∈ gW := gW_of (tb5 (List.mem_of_getElem? (i := 217) rfl)) rfl
theorem kvX11_319 : gKv RX11 319 yX11_isMagic cX11_isMagic 3 (some .boolean) 10 2 := ⟨Or.inr ⟨_, rfl, rfl⟩, cwX11_isMagic, gW_of (tb5 (List.mem_of_getElem? (i := 214) rfl)) rfl, gW_of (tb5 (List.mem_of_getElem? (i := 216) rfl)) rfl, gW_of (List.mem_of_getElem? (i := 67) rfl) rfl, kiX11, ⟨by decide +kernel, by decide +kernel, by decide +kernel⟩⟩
theorem lkX11_62 : gLk RX11 62 10 24 := Or.inr ⟨RX11, TX11, 33, rfl, by decide, inX11, gW_of (tb4 (List.mem_of_getElem? (i := 179) rfl)) rfl⟩
theorem cwX11_putAhead : Cond.code yX11_putAhead cX11_putAhead 6 (some .int) ∈ gW := gW_of (tb5 (List.mem_of_getElem? (i := 213) rfl)) rfl
theorem ksX11_315 : gKs RX11 315 yX11_putAhead cX11_putAhead 6 (some .int) 5 := ⟨cwX11_putAhead, Or.inl (gW_of (tb5 (List.mem_of_getElem? (i := 211) rfl)) rfl), gW_of (tb5 (List.mem_of_getElem? (i := 212) rfl)) rfl, kiX11, ⟨by decide +kernel, by decide +kernel, by decide +kernel⟩⟩
theorem cwX11_partEnd : Cond.code yX11_partEnd cX11_partEnd 4 (some .int) ∈ gW := gW_of (tb5 (List.mem_of_getElem? (i := 231) rfl)) rfl
theorem ksX11_333 : gKs RX11 333 yX11_partEnd cX11_partEnd 4 (some .int) 3 := ⟨cwX11_partEnd, Or.inl (gW_of (tb5 (List.mem_of_getElem? (i := 229) rfl)) rfl), gW_of (tb5 (List.mem_of_getElem? (i := 230) rfl)) rfl, kiX11, ⟨by decide +kernel, by decide +kernel, by decide +kernel⟩⟩
theorem cwX11_isUp : Cond.code yX11_isUp cX11_isUp 3 (some .boolean) ∈ gW := gW_of (tb5 (List.mem_of_getElem? (i := 234) rfl)) rfl
theorem ksX11_337 : gKs RX11 337 yX11_isUp cX11_isUp 3 (some .boolean) 3 := ⟨cwX11_isUp, Or.inl (gW_of (tb5 (List.mem_of_getElem? (i := 232) rfl)) rfl), gW_of (tb5 (List.mem_of_getElem? (i := 233) rfl)) rfl, kiX11, ⟨by decide +kernel, by decide +kernel, by decide +kernel⟩⟩
theorem lkX11_59 : gLk RX11 59 10 23 := Or.inr ⟨RX11, TX11, 33, rfl, by decide, inX11, gW_of (tb4 (List.mem_of_getElem? (i := 178) rfl)) rfl⟩
theorem cwX11_rise : Cond.code yX11_rise cX11_rise 3 (some .int) ∈ gW := gW_of (tb5 (List.mem_of_getElem? (i := 237) rfl)) rfl
theorem ksX11_344 : gKs RX11 344 yX11_rise cX11_rise 3 (some .int) 3 := ⟨cwX11_rise, Or.inl (gW_of (tb5 (List.mem_of_getElem? (i := 235) rfl)) rfl), gW_of (tb5 (List.mem_of_getElem? (i := 236) rfl)) rfl, kiX11, ⟨by decide +kernel, by decide +kernel, by decide +kernel⟩⟩
theorem cwX11_hasUp : Cond.code yX11_hasUp cX11_hasUp 5 (some .boolean) ∈ gW := gW_of (tb5 (List.mem_of_getElem? (i := 228) rfl)) rfl
theorem ksX11_341 : gKs RX11 341 yX11_hasUp cX11_hasUp 5 (some .boolean) 3 := ⟨cwX11_hasUp, Or.inl (gW_of (tb5 (List.mem_of_getElem? (i := 226) rfl)) rfl), gW_of (tb5 (List.mem_of_getElem? (i := 227) rfl)) rfl, kiX11, ⟨by decide +kernel, by decide +kernel, by decide +kernel⟩⟩
theorem lkX11_53 : gLk RX11 53 10 21 := Or.inr ⟨RX11, TX11, 33, rfl, by decide, inX11, gW_of (tb4 (List.mem_of_getElem? (i := 176) rfl)) rfl⟩
theorem cwX11_unsafe : Cond.code yX11_unsafe cX11_unsafe 9 (some .int) ∈ gW := gW_of (tb5 (List.mem_of_getElem? (i := 225) rfl)) rfl
theorem kvX11_329 : gKv RX11 329 yX11_unsafe cX11_unsafe 9 (some .int) 10 4 := ⟨Or.inr ⟨_, rfl, rfl⟩, cwX11_unsafe, gW_of (tb5 (List.mem_of_getElem? (i := 222) rfl)) rfl, gW_of (tb5 (List.mem_of_getElem? (i := 224) rfl)) rfl, gW_of (List.mem_of_getElem? (i := 69) rfl) rfl, kiX11, ⟨by decide +kernel, by decide +kernel, by decide +kernel⟩⟩
theorem lkX11_237 : gLk RX11 237 10 19 := Or.inr ⟨RX11, TX11, 33, rfl, by decide, inX11, gW_of (tb4 (List.mem_of_getElem? (i := 174) rfl)) rfl⟩
theorem lpX11_237 : gLp RX11 237 10 19 (.int) false := ⟨RX11, TX11, 33, tyX11, rfl, by decide, inX11, gW_of (tb4 (List.mem_of_getElem? (i := 174) rfl)) rfl, tyX11_ok, nmX11, rfl, rfl, (fun h => by cases h)⟩
theorem cwX11_forget : Cond.code yX11_forget cX11_forget 3 none ∈ gW := gW_of (tb5 (List.mem_of_getElem? (i := 173) rfl)) rfl
theorem kvX11_243 : gKv RX11 243 yX11_forget cX11_forget 3 none 10 1 := ⟨Or.inr ⟨_, rfl, rfl⟩, cwX11_forget, gW_of (tb5 (List.mem_of_getElem? (i := 170) rfl)) rfl, gW_of (tb5 (List.mem_of_getElem? (i := 172) rfl)) rfl, gW_of (List.mem_of_getElem? (i := 58) rfl) rfl, kiX11, ⟨by decide +kernel, by decide +kernel, by decide +kernel⟩⟩
theorem lpX11_246 : gLp RX11 246 10 30 (.boolean) false := ⟨RX11, TX11, 33, tyX11, rfl, by decide, inX11, gW_of (tb4 (List.mem_of_getElem? (i := 185) rfl)) rfl, tyX11_ok, nmX11, rfl, rfl, (fun h => by cases h)⟩
theorem lkX11_78 : gLk RX11 78 10 29 := Or.inr ⟨RX11, TX11, 33, rfl, by decide, inX11, gW_of (tb4 (List.mem_of_getElem? (i := 184) rfl)) rfl⟩
theorem lkX11_81 : gLk RX11 81 10 32 := Or.inr ⟨RX11, TX11, 33, rfl, by decide, inX11, gW_of (tb4 (List.mem_of_getElem? (i := 187) rfl)) rfl⟩
theorem cwX11_nameOf : Cond.code yX11_nameOf cX11_nameOf 4 (some .int) ∈ gW := gW_of (tb5 (List.mem_of_getElem? (i := 210) rfl)) rfl
theorem kvX11_326 : gKv RX11 326 yX11_nameOf cX11_nameOf 4 (some .int) 10 2 := ⟨Or.inr ⟨_, rfl, rfl⟩, cwX11_nameOf, gW_of (tb5 (List.mem_of_getElem? (i := 207) rfl)) rfl, gW_of (tb5 (List.mem_of_getElem? (i := 209) rfl)) rfl, gW_of (List.mem_of_getElem? (i := 66) rfl) rfl, kiX11, ⟨by decide +kernel, by decide +kernel, by decide +kernel⟩⟩
theorem lkX11_68 : gLk RX11 68 10 26 := Or.inr ⟨RX11, TX11, 33, rfl, by decide, inX11, gW_of (tb4 (List.mem_of_getElem? (i := 181) rfl)) rfl⟩
theorem cwX11_isDigit : Cond.code yX11_isDigit cX11_isDigit 1 (some .boolean) ∈ gW := gW_of (tb6 (List.mem_of_getElem? (i := 8) rfl)) rfl
theorem ksX11_287 : gKs RX11 287 yX11_isDigit cX11_isDigit 1 (some .boolean) 1 := ⟨cwX11_isDigit, Or.inl (gW_of (tb6 (List.mem_of_getElem? (i := 6) rfl)) rfl), gW_of (tb6 (List.mem_of_getElem? (i := 7) rfl)) rfl, kiX11, ⟨by decide +kernel, by decide +kernel, by decide +kernel⟩⟩
theorem cwX11_digitsFrom : Cond.code yX11_digitsFrom cX11_digitsFrom 4 (some .int) ∈ gW := gW_of (tb6 (List.mem_of_getElem? (i := 29) rfl)) rfl
theorem kvX11_307 : gKv RX11 307 yX11_digitsFrom cX11_digitsFrom 4 (some .int) 10 2 := ⟨Or.inr ⟨_, rfl, rfl⟩, cwX11_digitsFrom, gW_of (tb6 (List.mem_of_getElem? (i := 26) rfl)) rfl, gW_of (tb6 (List.mem_of_getElem? (i := 28) rfl)) rfl, gW_of (List.mem_of_getElem? (i := 76) rfl) rfl, kiX11, ⟨by decide +kernel, by decide +kernel, by decide +kernel⟩⟩
theorem cwX11_valueOf : Cond.code yX11_valueOf cX11_valueOf 6 (some .long) ∈ gW := gW_of (tb6 (List.mem_of_getElem? (i := 33) rfl)) rfl
theorem kvX11_311 : gKv RX11 311 yX11_valueOf cX11_valueOf 6 (some .long) 10 2 := ⟨Or.inr ⟨_, rfl, rfl⟩, cwX11_valueOf, gW_of (tb6 (List.mem_of_getElem? (i := 30) rfl)) rfl, gW_of (tb6 (List.mem_of_getElem? (i := 32) rfl)) rfl, gW_of (List.mem_of_getElem? (i := 77) rfl) rfl, kiX11, ⟨by decide +kernel, by decide +kernel, by decide +kernel⟩⟩
theorem cwX11_named : Cond.code yX11_named cX11_named 7 (some .boolean) ∈ gW := gW_of (tb6 (List.mem_of_getElem? (i := 20) rfl)) rfl
theorem kvX11_298 : gKv RX11 298 yX11_named cX11_named 7 (some .boolean) 10 4 := ⟨Or.inr ⟨_, rfl, rfl⟩, cwX11_named, gW_of (tb6 (List.mem_of_getElem? (i := 17) rfl)) rfl, gW_of (tb6 (List.mem_of_getElem? (i := 19) rfl)) rfl, gW_of (List.mem_of_getElem? (i := 74) rfl) rfl, kiX11, ⟨by decide +kernel, by decide +kernel, by decide +kernel⟩⟩
theorem cwX11_timed : Cond.code yX11_timed cX11_timed 13 (some .boolean) ∈ gW := gW_of (tb6 (List.mem_of_getElem? (i := 25) rfl)) rfl
theorem kvX11_304 : gKv RX11 304 yX11_timed cX11_timed 13 (some .boolean) 10 3 := ⟨Or.inr ⟨_, rfl, rfl⟩, cwX11_timed, gW_of (tb6 (List.mem_of_getElem? (i := 22) rfl)) rfl, gW_of (tb6 (List.mem_of_getElem? (i := 24) rfl)) rfl, gW_of (List.mem_of_getElem? (i := 75) rfl) rfl, kiX11, ⟨by decide +kernel, by decide +kernel, by decide +kernel⟩⟩
theorem cwX11_isKey : Cond.code yX11_isKey cX11_isKey 8 (some .boolean) ∈ gW := gW_of (tb6 (List.mem_of_getElem? (i := 16) rfl)) rfl
theorem kvX11_294 : gKv RX11 294 yX11_isKey cX11_isKey 8 (some .boolean) 10 4 := ⟨Or.inr ⟨_, rfl, rfl⟩, cwX11_isKey, gW_of (tb6 (List.mem_of_getElem? (i := 13) rfl)) rfl, gW_of (tb6 (List.mem_of_getElem? (i := 15) rfl)) rfl, gW_of (List.mem_of_getElem? (i := 73) rfl) rfl, kiX11, ⟨by decide +kernel, by decide +kernel, by decide +kernel⟩⟩
theorem kcX11_302 : Cond.constantLong RX11 302 (1936292453 : Int64) ∈ gW := gW_of (tb6 (List.mem_of_getElem? (i := 21) rfl)) rfl
theorem cwX11_valued : Cond.code yX11_valued cX11_valued 8 (some .boolean) ∈ gW := gW_of (tb6 (List.mem_of_getElem? (i := 12) rfl)) rfl
theorem kvX11_290 : gKv RX11 290 yX11_valued cX11_valued 8 (some .boolean) 10 5 := ⟨Or.inr ⟨_, rfl, rfl⟩, cwX11_valued, gW_of (tb6 (List.mem_of_getElem? (i := 9) rfl)) rfl, gW_of (tb6 (List.mem_of_getElem? (i := 11) rfl)) rfl, gW_of (List.mem_of_getElem? (i := 72) rfl) rfl, kiX11, ⟨by decide +kernel, by decide +kernel, by decide +kernel⟩⟩
theorem cwX11_rowAt : Cond.code yX11_rowAt cX11_rowAt 8 (some .int) ∈ gW := gW_of (tb6 (List.mem_of_getElem? (i := 5) rfl)) rfl
theorem kvX11_283 : gKv RX11 283 yX11_rowAt cX11_rowAt 8 (some .int) 10 3 := ⟨Or.inr ⟨_, rfl, rfl⟩, cwX11_rowAt, gW_of (tb6 (List.mem_of_getElem? (i := 2) rfl)) rfl, gW_of (tb6 (List.mem_of_getElem? (i := 4) rfl)) rfl, gW_of (List.mem_of_getElem? (i := 71) rfl) rfl, kiX11, ⟨by decide +kernel, by decide +kernel, by decide +kernel⟩⟩
theorem cwX11_isNumber : Cond.code yX11_isNumber cX11_isNumber 6 (some .boolean) ∈ gW := gW_of (tb5 (List.mem_of_getElem? (i := 193) rfl)) rfl
theorem kvX11_264 : gKv RX11 264 yX11_isNumber cX11_isNumber 6 (some .boolean) 10 3 := ⟨Or.inr ⟨_, rfl, rfl⟩, cwX11_isNumber, gW_of (tb5 (List.mem_of_getElem? (i := 190) rfl)) rfl, gW_of (tb5 (List.mem_of_getElem? (i := 192) rfl)) rfl, gW_of (List.mem_of_getElem? (i := 63) rfl) rfl, kiX11, ⟨by decide +kernel, by decide +kernel, by decide +kernel⟩⟩
theorem cwX11_rows : Cond.code yX11_rows cX11_rows 6 (some .boolean) ∈ gW := gW_of (tb6 (List.mem_of_getElem? (i := 1) rfl)) rfl
theorem kvX11_276 : gKv RX11 276 yX11_rows cX11_rows 6 (some .boolean) 10 3 := ⟨Or.inr ⟨_, rfl, rfl⟩, cwX11_rows, gW_of (tb5 (List.mem_of_getElem? (i := 238) rfl)) rfl, gW_of (tb6 (List.mem_of_getElem? (i := 0) rfl)) rfl, gW_of (List.mem_of_getElem? (i := 70) rfl) rfl, kiX11, ⟨by decide +kernel, by decide +kernel, by decide +kernel⟩⟩
theorem cwX11_longName : Cond.code yX11_longName cX11_longName 5 (some .boolean) ∈ gW := gW_of (tb6 (List.mem_of_getElem? (i := 37) rfl)) rfl
theorem kvX11_280 : gKv RX11 280 yX11_longName cX11_longName 5 (some .boolean) 10 3 := ⟨Or.inr ⟨_, rfl, rfl⟩, cwX11_longName, gW_of (tb6 (List.mem_of_getElem? (i := 34) rfl)) rfl, gW_of (tb6 (List.mem_of_getElem? (i := 36) rfl)) rfl, gW_of (List.mem_of_getElem? (i := 78) rfl) rfl, kiX11, ⟨by decide +kernel, by decide +kernel, by decide +kernel⟩⟩
theorem kcX11_268 : Cond.constantLong RX11 268 (511 : Int64) ∈ gW := gW_of (tb5 (List.mem_of_getElem? (i := 201) rfl)) rfl
theorem kcX11_270 : Cond.constantLong RX11 270 (512 : Int64) ∈ gW := gW_of (tb5 (List.mem_of_getElem? (i := 202) rfl)) rfl
theorem cwX11_entered : Cond.code yX11_entered cX11_entered 10 (some .boolean) ∈ gW := gW_of (tb5 (List.mem_of_getElem? (i := 206) rfl)) rfl
theorem kvX11_272 : gKv RX11 272 yX11_entered cX11_entered 10 (some .boolean) 10 3 := ⟨Or.inr ⟨_, rfl, rfl⟩, cwX11_entered, gW_of (tb5 (List.mem_of_getElem? (i := 203) rfl)) rfl, gW_of (tb5 (List.mem_of_getElem? (i := 205) rfl)) rfl, gW_of (List.mem_of_getElem? (i := 65) rfl) rfl, kiX11, ⟨by decide +kernel, by decide +kernel, by decide +kernel⟩⟩
theorem cwX11_end : Cond.code yX11_end cX11_end 4 (some .int) ∈ gW := gW_of (tb5 (List.mem_of_getElem? (i := 189) rfl)) rfl
theorem kvX11_261 : gKv RX11 261 yX11_end cX11_end 4 (some .int) 10 2 := ⟨Or.inr ⟨_, rfl, rfl⟩, cwX11_end, gW_of (tb5 (List.mem_of_getElem? (i := 186) rfl)) rfl, gW_of (tb5 (List.mem_of_getElem? (i := 188) rfl)) rfl, gW_of (List.mem_of_getElem? (i := 62) rfl) rfl, kiX11, ⟨by decide +kernel, by decide +kernel, by decide +kernel⟩⟩
theorem cwX11_one : Cond.code yX11_one cX11_one 9 (some .int) ∈ gW := gW_of (tb5 (List.mem_of_getElem? (i := 177) rfl)) rfl
theorem kvX11_250 : gKv RX11 250 yX11_one cX11_one 9 (some .int) 10 2 := ⟨Or.inr ⟨_, rfl, rfl⟩, cwX11_one, gW_of (tb5 (List.mem_of_getElem? (i := 174) rfl)) rfl, gW_of (tb5 (List.mem_of_getElem? (i := 176) rfl)) rfl, gW_of (List.mem_of_getElem? (i := 59) rfl) rfl, kiX11, ⟨by decide +kernel, by decide +kernel, by decide +kernel⟩⟩
theorem kcX11_347 : Cond.constantLong RX11 347 (-9000000000000000000 : Int64) ∈ gW := gW_of (tb6 (List.mem_of_getElem? (i := 46) rfl)) rfl

theorem obX7_3 : Cond.methodLink RX7 3 Lib.objectInit ∈ gW := gW_of (tb1 (List.mem_of_getElem? (i := 31) rfl)) rfl
theorem ob_i : Cond.instanceMethod Lib.objectInit ∈ gW := gW_of (tb1 (List.mem_of_getElem? (i := 24) rfl)) rfl
theorem ob_c : Cond.code Lib.objectInit ⟨#[0xb1]⟩ 1 none ∈ gW := gW_of (tb1 (List.mem_of_getElem? (i := 25) rfl)) rfl
theorem mlX7_15 : Cond.methodLink RX7 15 Lib.Math.max.name ∈ gW := gW_of (tb1 (List.mem_of_getElem? (i := 32) rfl)) rfl
theorem ac_byte : Cond.arrayClass .byte ∈ gW := gW_of (tb1 (List.mem_of_getElem? (i := 42) rfl)) rfl
theorem lpX7_21 : gLp RX7 21 7 0 (.array (.byte)) true := ⟨RX7, TX7, 2, tyX7, rfl, by decide, inX7, gW_of (tb1 (List.mem_of_getElem? (i := 35) rfl)) rfl, tyX7_ok, nmX7, rfl, rfl, fun _ => rfl⟩
theorem obX0_3 : Cond.methodLink RX0 3 Lib.objectInit ∈ gW := gW_of (tb1 (List.mem_of_getElem? (i := 77) rfl)) rfl
theorem lnX0_9 : gLn RX0 9 7 [.null, .int 0] := ⟨RX7, TX7, 2, tyX7, rfl, inX7, tyX7_ok, gW_of (tb1 (List.mem_of_getElem? (i := 78) rfl)) rfl, gW_of (tb1 (List.mem_of_getElem? (i := 27) rfl)) rfl, gW_of (tb1 (List.mem_of_getElem? (i := 2) rfl)) rfl, rfl, by decide⟩
theorem cwX7_init : Cond.code yX7_init cX7_init 2 none ∈ gW := gW_of (tb1 (List.mem_of_getElem? (i := 30) rfl)) rfl
theorem kjX0_11 : gKi RX0 11 yX7_init cX7_init 2 1 := ⟨cwX7_init, Or.inl (gW_of (tb1 (List.mem_of_getElem? (i := 79) rfl)) rfl), gW_of (tb1 (List.mem_of_getElem? (i := 29) rfl)) rfl, kiX7, rfl, ⟨by decide +kernel, by decide +kernel, by decide +kernel⟩⟩
theorem lpX0_14 : gLp RX0 14 0 0 (.object "TarForms$Row") true := ⟨RX0, TX0, 8, tyX0, rfl, by decide, inX0, gW_of (tb1 (List.mem_of_getElem? (i := 81) rfl)) rfl, tyX0_ok, nmX0, rfl, rfl, fun _ => rfl⟩
theorem lpX0_20 : gLp RX0 20 0 1 (.object "TarForms$Row") true := ⟨RX0, TX0, 8, tyX0, rfl, by decide, inX0, gW_of (tb1 (List.mem_of_getElem? (i := 84) rfl)) rfl, tyX0_ok, nmX0, rfl, rfl, fun _ => rfl⟩
theorem obX4_1 : Cond.methodLink RX4 1 Lib.objectInit ∈ gW := gW_of (tb1 (List.mem_of_getElem? (i := 124) rfl)) rfl
theorem obX6_3 : Cond.methodLink RX6 3 Lib.objectInit ∈ gW := gW_of (tb1 (List.mem_of_getElem? (i := 139) rfl)) rfl
theorem lpX6_30 : gLp RX6 30 6 0 (.object "TarForms$Row") true := ⟨RX6, TX6, 7, tyX6, rfl, by decide, inX6, gW_of (tb1 (List.mem_of_getElem? (i := 140) rfl)) rfl, tyX6_ok, nmX6, rfl, rfl, fun _ => rfl⟩
theorem obX8_3 : Cond.methodLink RX8 3 Lib.objectInit ∈ gW := gW_of (tb1 (List.mem_of_getElem? (i := 172) rfl)) rfl
theorem lpX8_21 : gLp RX8 21 8 0 (.object "TarForms$Row") true := ⟨RX8, TX8, 5, tyX8, rfl, by decide, inX8, gW_of (tb1 (List.mem_of_getElem? (i := 173) rfl)) rfl, tyX8_ok, nmX8, rfl, rfl, fun _ => rfl⟩
theorem lpX8_25 : gLp RX8 25 8 1 (.object "TarForms$Fault") true := ⟨RX8, TX8, 5, tyX8, rfl, by decide, inX8, gW_of (tb1 (List.mem_of_getElem? (i := 174) rfl)) rfl, tyX8_ok, nmX8, rfl, rfl, fun _ => rfl⟩
theorem obX5_3 : Cond.methodLink RX5 3 Lib.objectInit ∈ gW := gW_of (tb1 (List.mem_of_getElem? (i := 193) rfl)) rfl
theorem ac_long : Cond.arrayClass .long ∈ gW := gW_of (tb1 (List.mem_of_getElem? (i := 212) rfl)) rfl
theorem lkX5_9 : gLk RX5 9 5 0 := Or.inr ⟨RX5, TX5, 3, rfl, by decide, inX5, gW_of (tb1 (List.mem_of_getElem? (i := 196) rfl)) rfl⟩
theorem lpX5_9 : gLp RX5 9 5 0 (.array (.long)) true := ⟨RX5, TX5, 3, tyX5, rfl, by decide, inX5, gW_of (tb1 (List.mem_of_getElem? (i := 196) rfl)) rfl, tyX5_ok, nmX5, rfl, rfl, fun _ => rfl⟩
theorem lnX5_15 : gLn RX5 15 7 [.null, .int 0] := ⟨RX7, TX7, 2, tyX7, rfl, inX7, tyX7_ok, gW_of (tb1 (List.mem_of_getElem? (i := 194) rfl)) rfl, gW_of (tb1 (List.mem_of_getElem? (i := 27) rfl)) rfl, gW_of (tb1 (List.mem_of_getElem? (i := 2) rfl)) rfl, rfl, by decide⟩
theorem kjX5_17 : gKi RX5 17 yX7_init cX7_init 2 1 := ⟨cwX7_init, Or.inl (gW_of (tb1 (List.mem_of_getElem? (i := 195) rfl)) rfl), gW_of (tb1 (List.mem_of_getElem? (i := 29) rfl)) rfl, kiX7, rfl, ⟨by decide +kernel, by decide +kernel, by decide +kernel⟩⟩
theorem lkX5_20 : gLk RX5 20 5 1 := Or.inr ⟨RX5, TX5, 3, rfl, by decide, inX5, gW_of (tb1 (List.mem_of_getElem? (i := 199) rfl)) rfl⟩
theorem lpX5_20 : gLp RX5 20 5 1 (.object "TarForms$Row") true := ⟨RX5, TX5, 3, tyX5, rfl, by decide, inX5, gW_of (tb1 (List.mem_of_getElem? (i := 199) rfl)) rfl, tyX5_ok, nmX5, rfl, rfl, fun _ => rfl⟩
theorem lkX5_24 : gLk RX5 24 5 2 := Or.inr ⟨RX5, TX5, 3, rfl, by decide, inX5, gW_of (tb1 (List.mem_of_getElem? (i := 202) rfl)) rfl⟩
theorem lpX5_24 : gLp RX5 24 5 2 (.object "TarForms$Row") true := ⟨RX5, TX5, 3, tyX5, rfl, by decide, inX5, gW_of (tb1 (List.mem_of_getElem? (i := 202) rfl)) rfl, tyX5_ok, nmX5, rfl, rfl, fun _ => rfl⟩
theorem lnX1_9 : gLn RX1 9 5 [.null, .null, .null] := ⟨RX5, TX5, 3, tyX5, rfl, inX5, tyX5_ok, gW_of (tb1 (List.mem_of_getElem? (i := 70) rfl)) rfl, gW_of (tb1 (List.mem_of_getElem? (i := 189) rfl)) rfl, gW_of (tb1 (List.mem_of_getElem? (i := 10) rfl)) rfl, rfl, by decide⟩
theorem kiX5 : Cond.initialized RX5 ∈ gW := gW_of (tb1 (List.mem_of_getElem? (i := 10) rfl)) rfl
theorem cwX5_init : Cond.code yX5_init cX5_init 1 none ∈ gW := gW_of (tb1 (List.mem_of_getElem? (i := 192) rfl)) rfl
theorem kjX1_63 : gKi RX1 63 yX5_init cX5_init 1 0 := ⟨cwX5_init, Or.inr ⟨"TarForms", gN_of (tb1 (List.mem_of_getElem? (i := 190) rfl)) rfl⟩, gW_of (tb1 (List.mem_of_getElem? (i := 191) rfl)) rfl, kiX5, rfl, ⟨by decide +kernel, by decide +kernel, by decide +kernel⟩⟩
theorem obX1_3 : Cond.methodLink RX1 3 Lib.objectInit ∈ gW := gW_of (tb1 (List.mem_of_getElem? (i := 69) rfl)) rfl
theorem clX1_9 : Cond.classLink RX1 9 "TarForms$Found" ∈ gW := gW_of (tb1 (List.mem_of_getElem? (i := 70) rfl)) rfl
theorem lpX1_11 : gLp RX1 11 1 1 (.array (.object "TarForms$Found")) true := ⟨RX1, TX1, 9, tyX1, rfl, by decide, inX1, gW_of (tb1 (List.mem_of_getElem? (i := 214) rfl)) rfl, tyX1_ok, nmX1, rfl, rfl, fun _ => rfl⟩
theorem lnX1_17 : gLn RX1 17 0 [.null, .null, .long 0, .long 0, .long 0, .int 0, .long 0, .long 0] := ⟨RX0, TX0, 8, tyX0, rfl, inX0, tyX0_ok, gW_of (tb1 (List.mem_of_getElem? (i := 72) rfl)) rfl, gW_of (tb1 (List.mem_of_getElem? (i := 73) rfl)) rfl, gW_of (tb1 (List.mem_of_getElem? (i := 6) rfl)) rfl, rfl, by decide⟩
theorem cwX0_init : Cond.code yX0_init cX0_init 1 none ∈ gW := gW_of (tb1 (List.mem_of_getElem? (i := 76) rfl)) rfl
theorem kjX1_19 : gKi RX1 19 yX0_init cX0_init 1 0 := ⟨cwX0_init, Or.inr ⟨"TarForms", gN_of (tb1 (List.mem_of_getElem? (i := 74) rfl)) rfl⟩, gW_of (tb1 (List.mem_of_getElem? (i := 75) rfl)) rfl, kiX0, rfl, ⟨by decide +kernel, by decide +kernel, by decide +kernel⟩⟩
theorem lpX1_20 : gLp RX1 20 1 2 (.object "TarForms$Ahead") true := ⟨RX1, TX1, 9, tyX1, rfl, by decide, inX1, gW_of (tb1 (List.mem_of_getElem? (i := 215) rfl)) rfl, tyX1_ok, nmX1, rfl, rfl, fun _ => rfl⟩
theorem lpX1_24 : gLp RX1 24 1 3 (.object "TarForms$Ahead") true := ⟨RX1, TX1, 9, tyX1, rfl, by decide, inX1, gW_of (tb1 (List.mem_of_getElem? (i := 216) rfl)) rfl, tyX1_ok, nmX1, rfl, rfl, fun _ => rfl⟩
theorem lnX1_27 : gLn RX1 27 4 [.int 0, .int 0] := ⟨RX4, TX4, 2, tyX4, rfl, inX4, tyX4_ok, gW_of (tb1 (List.mem_of_getElem? (i := 119) rfl)) rfl, gW_of (tb1 (List.mem_of_getElem? (i := 120) rfl)) rfl, gW_of (tb1 (List.mem_of_getElem? (i := 7) rfl)) rfl, rfl, by decide⟩
theorem cwX4_init : Cond.code yX4_init cX4_init 1 none ∈ gW := gW_of (tb1 (List.mem_of_getElem? (i := 123) rfl)) rfl
theorem kjX1_29 : gKi RX1 29 yX4_init cX4_init 1 0 := ⟨cwX4_init, Or.inr ⟨"TarForms", gN_of (tb1 (List.mem_of_getElem? (i := 121) rfl)) rfl⟩, gW_of (tb1 (List.mem_of_getElem? (i := 122) rfl)) rfl, kiX4, rfl, ⟨by decide +kernel, by decide +kernel, by decide +kernel⟩⟩
theorem lpX1_30 : gLp RX1 30 1 6 (.object "TarForms$Fault") true := ⟨RX1, TX1, 9, tyX1, rfl, by decide, inX1, gW_of (tb1 (List.mem_of_getElem? (i := 219) rfl)) rfl, tyX1_ok, nmX1, rfl, rfl, fun _ => rfl⟩
theorem lpX1_41 : gLp RX1 41 1 0 (.object "TarForms$Row") true := ⟨RX1, TX1, 9, tyX1, rfl, by decide, inX1, gW_of (tb1 (List.mem_of_getElem? (i := 213) rfl)) rfl, tyX1_ok, nmX1, rfl, rfl, fun _ => rfl⟩
theorem lnX1_45 : gLn RX1 45 6 [.null, .long 0, .long 0, .long 0, .long 0, .long 0, .long 0] := ⟨RX6, TX6, 7, tyX6, rfl, inX6, tyX6_ok, gW_of (tb1 (List.mem_of_getElem? (i := 134) rfl)) rfl, gW_of (tb1 (List.mem_of_getElem? (i := 135) rfl)) rfl, gW_of (tb1 (List.mem_of_getElem? (i := 8) rfl)) rfl, rfl, by decide⟩
theorem cwX6_init : Cond.code yX6_init cX6_init 2 none ∈ gW := gW_of (tb1 (List.mem_of_getElem? (i := 138) rfl)) rfl
theorem kjX1_47 : gKi RX1 47 yX6_init cX6_init 2 1 := ⟨cwX6_init, Or.inl (gW_of (tb1 (List.mem_of_getElem? (i := 136) rfl)) rfl), gW_of (tb1 (List.mem_of_getElem? (i := 137) rfl)) rfl, kiX6, rfl, ⟨by decide +kernel, by decide +kernel, by decide +kernel⟩⟩
theorem lpX1_50 : gLp RX1 50 1 4 (.object "TarForms$HeadNumbers") true := ⟨RX1, TX1, 9, tyX1, rfl, by decide, inX1, gW_of (tb1 (List.mem_of_getElem? (i := 217) rfl)) rfl, tyX1_ok, nmX1, rfl, rfl, fun _ => rfl⟩
theorem lnX1_54 : gLn RX1 54 8 [.null, .null, .int 0, .int 0, .int 0] := ⟨RX8, TX8, 5, tyX8, rfl, inX8, tyX8_ok, gW_of (tb1 (List.mem_of_getElem? (i := 167) rfl)) rfl, gW_of (tb1 (List.mem_of_getElem? (i := 168) rfl)) rfl, gW_of (tb1 (List.mem_of_getElem? (i := 9) rfl)) rfl, rfl, by decide⟩
theorem cwX8_init : Cond.code yX8_init cX8_init 3 none ∈ gW := gW_of (tb1 (List.mem_of_getElem? (i := 171) rfl)) rfl
theorem kjX1_56 : gKi RX1 56 yX8_init cX8_init 3 2 := ⟨cwX8_init, Or.inl (gW_of (tb1 (List.mem_of_getElem? (i := 169) rfl)) rfl), gW_of (tb1 (List.mem_of_getElem? (i := 170) rfl)) rfl, kiX8, rfl, ⟨by decide +kernel, by decide +kernel, by decide +kernel⟩⟩
theorem lpX1_59 : gLp RX1 59 1 5 (.object "TarForms$RowReader") true := ⟨RX1, TX1, 9, tyX1, rfl, by decide, inX1, gW_of (tb1 (List.mem_of_getElem? (i := 218) rfl)) rfl, tyX1_ok, nmX1, rfl, rfl, fun _ => rfl⟩
theorem obX2_3 : Cond.methodLink RX2 3 Lib.objectInit ∈ gW := gW_of (tb1 (List.mem_of_getElem? (i := 51) rfl)) rfl
theorem lnX2_9 : gLn RX2 9 7 [.null, .int 0] := ⟨RX7, TX7, 2, tyX7, rfl, inX7, tyX7_ok, gW_of (tb1 (List.mem_of_getElem? (i := 52) rfl)) rfl, gW_of (tb1 (List.mem_of_getElem? (i := 27) rfl)) rfl, gW_of (tb1 (List.mem_of_getElem? (i := 2) rfl)) rfl, rfl, by decide⟩
theorem kjX2_11 : gKi RX2 11 yX7_init cX7_init 2 1 := ⟨cwX7_init, Or.inl (gW_of (tb1 (List.mem_of_getElem? (i := 53) rfl)) rfl), gW_of (tb1 (List.mem_of_getElem? (i := 29) rfl)) rfl, kiX7, rfl, ⟨by decide +kernel, by decide +kernel, by decide +kernel⟩⟩
theorem lpX2_14 : gLp RX2 14 2 1 (.object "TarForms$Row") true := ⟨RX2, TX2, 3, tyX2, rfl, by decide, inX2, gW_of (tb1 (List.mem_of_getElem? (i := 55) rfl)) rfl, tyX2_ok, nmX2, rfl, rfl, fun _ => rfl⟩
theorem lpX2_20 : gLp RX2 20 2 2 (.object "TarForms$Row") true := ⟨RX2, TX2, 3, tyX2, rfl, by decide, inX2, gW_of (tb1 (List.mem_of_getElem? (i := 56) rfl)) rfl, tyX2_ok, nmX2, rfl, rfl, fun _ => rfl⟩
theorem lpX2_23 : gLp RX2 23 2 0 (.object "TarForms$Row") true := ⟨RX2, TX2, 3, tyX2, rfl, by decide, inX2, gW_of (tb1 (List.mem_of_getElem? (i := 54) rfl)) rfl, tyX2_ok, nmX2, rfl, rfl, fun _ => rfl⟩
theorem obX3_3 : Cond.methodLink RX3 3 Lib.objectInit ∈ gW := gW_of (tb2 (List.mem_of_getElem? (i := 8) rfl)) rfl
theorem lnX3_9 : gLn RX3 9 7 [.null, .int 0] := ⟨RX7, TX7, 2, tyX7, rfl, inX7, tyX7_ok, gW_of (tb2 (List.mem_of_getElem? (i := 9) rfl)) rfl, gW_of (tb1 (List.mem_of_getElem? (i := 27) rfl)) rfl, gW_of (tb1 (List.mem_of_getElem? (i := 2) rfl)) rfl, rfl, by decide⟩
theorem kjX3_11 : gKi RX3 11 yX7_init cX7_init 2 1 := ⟨cwX7_init, Or.inl (gW_of (tb2 (List.mem_of_getElem? (i := 10) rfl)) rfl), gW_of (tb1 (List.mem_of_getElem? (i := 29) rfl)) rfl, kiX7, rfl, ⟨by decide +kernel, by decide +kernel, by decide +kernel⟩⟩
theorem lpX3_14 : gLp RX3 14 3 0 (.object "TarForms$Row") true := ⟨RX3, TX3, 6, tyX3, rfl, by decide, inX3, gW_of (tb2 (List.mem_of_getElem? (i := 12) rfl)) rfl, tyX3_ok, nmX3, rfl, rfl, fun _ => rfl⟩
theorem lpX3_20 : gLp RX3 20 3 1 (.object "TarForms$Row") true := ⟨RX3, TX3, 6, tyX3, rfl, by decide, inX3, gW_of (tb2 (List.mem_of_getElem? (i := 15) rfl)) rfl, tyX3_ok, nmX3, rfl, rfl, fun _ => rfl⟩
theorem lpX3_25 : gLp RX3 25 3 2 (.array (.long)) true := ⟨RX3, TX3, 6, tyX3, rfl, by decide, inX3, gW_of (tb2 (List.mem_of_getElem? (i := 18) rfl)) rfl, tyX3_ok, nmX3, rfl, rfl, fun _ => rfl⟩
theorem lpX3_29 : gLp RX3 29 3 3 (.int) false := ⟨RX3, TX3, 6, tyX3, rfl, by decide, inX3, gW_of (tb2 (List.mem_of_getElem? (i := 21) rfl)) rfl, tyX3_ok, nmX3, rfl, rfl, (fun h => by cases h)⟩
theorem lkX3_33 : gLk RX3 33 3 4 := Or.inr ⟨RX3, TX3, 6, rfl, by decide, inX3, gW_of (tb2 (List.mem_of_getElem? (i := 24) rfl)) rfl⟩
theorem lpX3_33 : gLp RX3 33 3 4 (.int) false := ⟨RX3, TX3, 6, tyX3, rfl, by decide, inX3, gW_of (tb2 (List.mem_of_getElem? (i := 24) rfl)) rfl, tyX3_ok, nmX3, rfl, rfl, (fun h => by cases h)⟩
theorem lpX3_36 : gLp RX3 36 3 5 (.int) false := ⟨RX3, TX3, 6, tyX3, rfl, by decide, inX3, gW_of (tb2 (List.mem_of_getElem? (i := 27) rfl)) rfl, tyX3_ok, nmX3, rfl, rfl, (fun h => by cases h)⟩
theorem lnX10_22 : gLn RX10 22 3 [.null, .null, .null, .int 0, .int 0, .int 0] := ⟨RX3, TX3, 6, tyX3, rfl, inX3, tyX3_ok, gW_of (tb1 (List.mem_of_getElem? (i := 44) rfl)) rfl, gW_of (tb2 (List.mem_of_getElem? (i := 4) rfl)) rfl, gW_of (tb1 (List.mem_of_getElem? (i := 11) rfl)) rfl, rfl, by decide⟩
theorem cwX3_init : Cond.code yX3_init cX3_init 1 none ∈ gW := gW_of (tb2 (List.mem_of_getElem? (i := 7) rfl)) rfl
theorem kjX10_48 : gKi RX10 48 yX3_init cX3_init 1 0 := ⟨cwX3_init, Or.inr ⟨"TarForms", gN_of (tb2 (List.mem_of_getElem? (i := 5) rfl)) rfl⟩, gW_of (tb2 (List.mem_of_getElem? (i := 6) rfl)) rfl, kiX3, rfl, ⟨by decide +kernel, by decide +kernel, by decide +kernel⟩⟩
theorem obX10_1 : Cond.methodLink RX10 1 Lib.objectInit ∈ gW := gW_of (tb1 (List.mem_of_getElem? (i := 23) rfl)) rfl
theorem lnX10_7 : gLn RX10 7 7 [.null, .int 0] := ⟨RX7, TX7, 2, tyX7, rfl, inX7, tyX7_ok, gW_of (tb1 (List.mem_of_getElem? (i := 26) rfl)) rfl, gW_of (tb1 (List.mem_of_getElem? (i := 27) rfl)) rfl, gW_of (tb1 (List.mem_of_getElem? (i := 2) rfl)) rfl, rfl, by decide⟩
theorem kjX10_11 : gKi RX10 11 yX7_init cX7_init 2 1 := ⟨cwX7_init, Or.inl (gW_of (tb1 (List.mem_of_getElem? (i := 28) rfl)) rfl), gW_of (tb1 (List.mem_of_getElem? (i := 29) rfl)) rfl, kiX7, rfl, ⟨by decide +kernel, by decide +kernel, by decide +kernel⟩⟩
theorem lpX10_14 : gLp RX10 14 9 0 (.object "TarForms$Row") true := ⟨RX10, TX10, 6, tyX10, rfl, by decide, inX10, gW_of (tb2 (List.mem_of_getElem? (i := 42) rfl)) rfl, tyX10_ok, nmX10, rfl, rfl, fun _ => rfl⟩
theorem lpX10_19 : gLp RX10 19 9 1 (.object "TarForms$Row") true := ⟨RX10, TX10, 6, tyX10, rfl, by decide, inX10, gW_of (tb2 (List.mem_of_getElem? (i := 43) rfl)) rfl, tyX10_ok, nmX10, rfl, rfl, fun _ => rfl⟩
theorem clX10_22 : Cond.classLink RX10 22 "TarForms$Entry" ∈ gW := gW_of (tb1 (List.mem_of_getElem? (i := 44) rfl)) rfl
theorem lpX10_24 : gLp RX10 24 9 2 (.array (.object "TarForms$Entry")) true := ⟨RX10, TX10, 6, tyX10, rfl, by decide, inX10, gW_of (tb2 (List.mem_of_getElem? (i := 44) rfl)) rfl, tyX10_ok, nmX10, rfl, rfl, fun _ => rfl⟩
theorem lnX10_32 : gLn RX10 32 2 [.null, .null, .null] := ⟨RX2, TX2, 3, tyX2, rfl, inX2, tyX2_ok, gW_of (tb1 (List.mem_of_getElem? (i := 46) rfl)) rfl, gW_of (tb1 (List.mem_of_getElem? (i := 47) rfl)) rfl, gW_of (tb1 (List.mem_of_getElem? (i := 4) rfl)) rfl, rfl, by decide⟩
theorem cwX2_init : Cond.code yX2_init cX2_init 2 none ∈ gW := gW_of (tb1 (List.mem_of_getElem? (i := 50) rfl)) rfl
theorem kjX10_34 : gKi RX10 34 yX2_init cX2_init 2 1 := ⟨cwX2_init, Or.inl (gW_of (tb1 (List.mem_of_getElem? (i := 48) rfl)) rfl), gW_of (tb1 (List.mem_of_getElem? (i := 49) rfl)) rfl, kiX2, rfl, ⟨by decide +kernel, by decide +kernel, by decide +kernel⟩⟩
theorem lpX10_37 : gLp RX10 37 9 4 (.object "TarForms$ArchiveWriter") true := ⟨RX10, TX10, 6, tyX10, rfl, by decide, inX10, gW_of (tb2 (List.mem_of_getElem? (i := 46) rfl)) rfl, tyX10_ok, nmX10, rfl, rfl, fun _ => rfl⟩
theorem lnX10_41 : gLn RX10 41 1 [.null, .null, .null, .null, .null, .null, .null, .int 0, .int 0] := ⟨RX1, TX1, 9, tyX1, rfl, inX1, tyX1_ok, gW_of (tb1 (List.mem_of_getElem? (i := 64) rfl)) rfl, gW_of (tb1 (List.mem_of_getElem? (i := 65) rfl)) rfl, gW_of (tb1 (List.mem_of_getElem? (i := 5) rfl)) rfl, rfl, by decide⟩
theorem cwX1_init : Cond.code yX1_init cX1_init 3 none ∈ gW := gW_of (tb1 (List.mem_of_getElem? (i := 68) rfl)) rfl
theorem kjX10_43 : gKi RX10 43 yX1_init cX1_init 3 1 := ⟨cwX1_init, Or.inl (gW_of (tb1 (List.mem_of_getElem? (i := 66) rfl)) rfl), gW_of (tb1 (List.mem_of_getElem? (i := 67) rfl)) rfl, kiX1, rfl, ⟨by decide +kernel, by decide +kernel, by decide +kernel⟩⟩
theorem lpX10_44 : gLp RX10 44 9 5 (.object "TarForms$ArchiveReader") true := ⟨RX10, TX10, 6, tyX10, rfl, by decide, inX10, gW_of (tb2 (List.mem_of_getElem? (i := 47) rfl)) rfl, tyX10_ok, nmX10, rfl, rfl, fun _ => rfl⟩
theorem obX11_11 : Cond.methodLink RX11 11 Lib.objectInit ∈ gW := gW_of (tb4 (List.mem_of_getElem? (i := 151) rfl)) rfl
theorem ac_int : Cond.arrayClass .int ∈ gW := gW_of (tb5 (List.mem_of_getElem? (i := 15) rfl)) rfl
theorem lpX11_7 : gLp RX11 7 10 0 (.array (.int)) true := ⟨RX11, TX11, 33, tyX11, rfl, by decide, inX11, gW_of (tb4 (List.mem_of_getElem? (i := 155) rfl)) rfl, tyX11_ok, nmX11, rfl, rfl, fun _ => rfl⟩
theorem lpX11_17 : gLp RX11 17 10 3 (.array (.int)) true := ⟨RX11, TX11, 33, tyX11, rfl, by decide, inX11, gW_of (tb4 (List.mem_of_getElem? (i := 158) rfl)) rfl, tyX11_ok, nmX11, rfl, rfl, fun _ => rfl⟩
theorem lpX11_20 : gLp RX11 20 10 4 (.array (.int)) true := ⟨RX11, TX11, 33, tyX11, rfl, by decide, inX11, gW_of (tb4 (List.mem_of_getElem? (i := 159) rfl)) rfl, tyX11_ok, nmX11, rfl, rfl, fun _ => rfl⟩
theorem lpX11_23 : gLp RX11 23 10 5 (.array (.int)) true := ⟨RX11, TX11, 33, tyX11, rfl, by decide, inX11, gW_of (tb4 (List.mem_of_getElem? (i := 160) rfl)) rfl, tyX11_ok, nmX11, rfl, rfl, fun _ => rfl⟩
theorem lpX11_26 : gLp RX11 26 10 6 (.array (.int)) true := ⟨RX11, TX11, 33, tyX11, rfl, by decide, inX11, gW_of (tb4 (List.mem_of_getElem? (i := 161) rfl)) rfl, tyX11_ok, nmX11, rfl, rfl, fun _ => rfl⟩
theorem lpX11_29 : gLp RX11 29 10 7 (.array (.int)) true := ⟨RX11, TX11, 33, tyX11, rfl, by decide, inX11, gW_of (tb4 (List.mem_of_getElem? (i := 162) rfl)) rfl, tyX11_ok, nmX11, rfl, rfl, fun _ => rfl⟩
theorem lpX11_32 : gLp RX11 32 10 8 (.array (.long)) true := ⟨RX11, TX11, 33, tyX11, rfl, by decide, inX11, gW_of (tb4 (List.mem_of_getElem? (i := 163) rfl)) rfl, tyX11_ok, nmX11, rfl, rfl, fun _ => rfl⟩
theorem lpX11_36 : gLp RX11 36 10 9 (.array (.int)) true := ⟨RX11, TX11, 33, tyX11, rfl, by decide, inX11, gW_of (tb4 (List.mem_of_getElem? (i := 164) rfl)) rfl, tyX11_ok, nmX11, rfl, rfl, fun _ => rfl⟩
theorem lpX11_39 : gLp RX11 39 10 10 (.array (.int)) true := ⟨RX11, TX11, 33, tyX11, rfl, by decide, inX11, gW_of (tb4 (List.mem_of_getElem? (i := 165) rfl)) rfl, tyX11_ok, nmX11, rfl, rfl, fun _ => rfl⟩
theorem lpX11_43 : gLp RX11 43 10 11 (.array (.int)) true := ⟨RX11, TX11, 33, tyX11, rfl, by decide, inX11, gW_of (tb4 (List.mem_of_getElem? (i := 166) rfl)) rfl, tyX11_ok, nmX11, rfl, rfl, fun _ => rfl⟩
theorem kcX11_46 : Cond.constant RX11 46 (120000 : Int32) ∈ gW := gW_of (tb4 (List.mem_of_getElem? (i := 153) rfl)) rfl
theorem lpX11_47 : gLp RX11 47 10 13 (.array (.int)) true := ⟨RX11, TX11, 33, tyX11, rfl, by decide, inX11, gW_of (tb4 (List.mem_of_getElem? (i := 168) rfl)) rfl, tyX11_ok, nmX11, rfl, rfl, fun _ => rfl⟩
theorem lpX11_50 : gLp RX11 50 10 15 (.array (.int)) true := ⟨RX11, TX11, 33, tyX11, rfl, by decide, inX11, gW_of (tb4 (List.mem_of_getElem? (i := 170) rfl)) rfl, tyX11_ok, nmX11, rfl, rfl, fun _ => rfl⟩
theorem lpX11_53 : gLp RX11 53 10 21 (.array (.long)) true := ⟨RX11, TX11, 33, tyX11, rfl, by decide, inX11, gW_of (tb4 (List.mem_of_getElem? (i := 176) rfl)) rfl, tyX11_ok, nmX11, rfl, rfl, fun _ => rfl⟩
theorem lpX11_56 : gLp RX11 56 10 22 (.array (.int)) true := ⟨RX11, TX11, 33, tyX11, rfl, by decide, inX11, gW_of (tb4 (List.mem_of_getElem? (i := 177) rfl)) rfl, tyX11_ok, nmX11, rfl, rfl, fun _ => rfl⟩
theorem lpX11_59 : gLp RX11 59 10 23 (.array (.int)) true := ⟨RX11, TX11, 33, tyX11, rfl, by decide, inX11, gW_of (tb4 (List.mem_of_getElem? (i := 178) rfl)) rfl, tyX11_ok, nmX11, rfl, rfl, fun _ => rfl⟩
theorem lpX11_62 : gLp RX11 62 10 24 (.array (.int)) true := ⟨RX11, TX11, 33, tyX11, rfl, by decide, inX11, gW_of (tb4 (List.mem_of_getElem? (i := 179) rfl)) rfl, tyX11_ok, nmX11, rfl, rfl, fun _ => rfl⟩
theorem lpX11_65 : gLp RX11 65 10 25 (.array (.int)) true := ⟨RX11, TX11, 33, tyX11, rfl, by decide, inX11, gW_of (tb4 (List.mem_of_getElem? (i := 180) rfl)) rfl, tyX11_ok, nmX11, rfl, rfl, fun _ => rfl⟩
theorem lpX11_68 : gLp RX11 68 10 26 (.array (.int)) true := ⟨RX11, TX11, 33, tyX11, rfl, by decide, inX11, gW_of (tb4 (List.mem_of_getElem? (i := 181) rfl)) rfl, tyX11_ok, nmX11, rfl, rfl, fun _ => rfl⟩
theorem lpX11_71 : gLp RX11 71 10 27 (.array (.int)) true := ⟨RX11, TX11, 33, tyX11, rfl, by decide, inX11, gW_of (tb4 (List.mem_of_getElem? (i := 182) rfl)) rfl, tyX11_ok, nmX11, rfl, rfl, fun _ => rfl⟩
theorem ac_boolean : Cond.arrayClass .boolean ∈ gW := gW_of (tb5 (List.mem_of_getElem? (i := 16) rfl)) rfl
theorem lpX11_74 : gLp RX11 74 10 28 (.array (.boolean)) true := ⟨RX11, TX11, 33, tyX11, rfl, by decide, inX11, gW_of (tb4 (List.mem_of_getElem? (i := 183) rfl)) rfl, tyX11_ok, nmX11, rfl, rfl, fun _ => rfl⟩
theorem lpX11_78 : gLp RX11 78 10 29 (.array (.long)) true := ⟨RX11, TX11, 33, tyX11, rfl, by decide, inX11, gW_of (tb4 (List.mem_of_getElem? (i := 184) rfl)) rfl, tyX11_ok, nmX11, rfl, rfl, fun _ => rfl⟩
theorem lpX11_81 : gLp RX11 81 10 32 (.array (.long)) true := ⟨RX11, TX11, 33, tyX11, rfl, by decide, inX11, gW_of (tb4 (List.mem_of_getElem? (i := 187) rfl)) rfl, tyX11_ok, nmX11, rfl, rfl, fun _ => rfl⟩

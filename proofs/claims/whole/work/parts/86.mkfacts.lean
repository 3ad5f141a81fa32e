/-! ===== what the tables say of constructors ===== -/
set_option maxRecDepth 100000 in
theorem mi_RX11_3 : Cond.methodLink RX11 3 Lib.objectInit ∈ hp_tbl := hp_in (List.mem_append_right _ (List.mem_append_left _ (List.mem_of_getElem? (i := 22) (by decide +kernel)))) rfl
set_option maxRecDepth 100000 in
theorem mm_obj : Cond.instanceMethod Lib.objectInit ∈ hp_tbl ∧ Cond.code Lib.objectInit ⟨#[0xb1]⟩ 1 none ∈ hp_tbl := ⟨hp_in (List.mem_append_right _ (List.mem_append_left _ (List.mem_of_getElem? (i := 23) (by decide +kernel)))) rfl, hp_in (List.mem_append_right _ (List.mem_append_left _ (List.mem_of_getElem? (i := 24) rfl))) rfl⟩
set_option maxRecDepth 100000 in
theorem nf_RX11_9 : hp_Fn RX11 9 4 10 [(3, 0, 0), (3, 0, 0), (3, 0, 0), (3, 0, 0), (3, 0, 0), (3, 0, 0), (3, 0, 0), (3, 0, 0), (0, 0, 0), (0, 0, 0)] := ⟨_, _, tyX4, vcl_4, in_4, tyX4_ok, hp_in (List.mem_append_right _ (List.mem_append_left _ (List.mem_of_getElem? (i := 25) (by decide +kernel)))) rfl, hp_in (List.mem_append_right _ (List.mem_append_left _ (List.mem_of_getElem? (i := 26) (by decide +kernel)))) rfl, hp_in (List.mem_append_right _ (List.mem_append_left _ (List.mem_of_getElem? (i := 2) (by decide +kernel)))) rfl, (by decide +kernel)⟩
set_option maxRecDepth 100000 in
theorem mi_RX4_3 : Cond.methodLink RX4 3 Lib.objectInit ∈ hp_tbl := hp_in (List.mem_append_right _ (List.mem_append_left _ (List.mem_of_getElem? (i := 30) (by decide +kernel)))) rfl
set_option maxRecDepth 100000 in
theorem nf_RX4_9 : hp_Fn RX4 9 10 5 [(3, 0, 0), (0, 0, 0), (3, 0, 0), (3, 0, 0), (3, 0, 0)] := ⟨_, _, tyX10, vcl_10, in_10, tyX10_ok, hp_in (List.mem_append_right _ (List.mem_append_left _ (List.mem_of_getElem? (i := 31) (by decide +kernel)))) rfl, hp_in (List.mem_append_right _ (List.mem_append_left _ (List.mem_of_getElem? (i := 32) (by decide +kernel)))) rfl, hp_in (List.mem_append_right _ (List.mem_append_left _ (List.mem_of_getElem? (i := 3) (by decide +kernel)))) rfl, (by decide +kernel)⟩
set_option maxRecDepth 100000 in
theorem mi_RX10_3 : Cond.methodLink RX10 3 Lib.objectInit ∈ hp_tbl := hp_in (List.mem_append_right _ (List.mem_append_left _ (List.mem_of_getElem? (i := 36) (by decide +kernel)))) rfl
set_option maxRecDepth 100000 in
theorem qf_RX10_9 : hp_Fq RX10 9 10 1 .int := ⟨_, _, _, tyX10, vcl_10, in_10, by decide, rfl, hp_in (List.mem_append_right _ (List.mem_append_left _ (List.mem_of_getElem? (i := 40) (by decide +kernel)))) rfl, tyX10_ok, nmX10, rfl⟩
set_option maxRecDepth 100000 in
theorem af_int : Cond.arrayClass .int ∈ hp_tbl := hp_in (List.mem_append_right _ (List.mem_append_left _ (List.mem_of_getElem? (i := 55) (by decide +kernel)))) rfl
set_option maxRecDepth 100000 in
theorem qf_RX10_15 : hp_Fq RX10 15 10 0 (.array .int) := ⟨_, _, _, tyX10, vcl_10, in_10, by decide, rfl, hp_in (List.mem_append_right _ (List.mem_append_left _ (List.mem_of_getElem? (i := 37) (by decide +kernel)))) rfl, tyX10_ok, nmX10, rfl⟩
set_option maxRecDepth 100000 in
theorem qf_RX10_19 : hp_Fq RX10 19 10 2 (.array .int) := ⟨_, _, _, tyX10, vcl_10, in_10, by decide, rfl, hp_in (List.mem_append_right _ (List.mem_append_left _ (List.mem_of_getElem? (i := 41) (by decide +kernel)))) rfl, tyX10_ok, nmX10, rfl⟩
set_option maxRecDepth 100000 in
theorem qf_RX10_22 : hp_Fq RX10 22 10 3 (.array .int) := ⟨_, _, _, tyX10, vcl_10, in_10, by decide, rfl, hp_in (List.mem_append_right _ (List.mem_append_left _ (List.mem_of_getElem? (i := 42) (by decide +kernel)))) rfl, tyX10_ok, nmX10, rfl⟩
set_option maxRecDepth 100000 in
theorem qf_RX10_25 : hp_Fq RX10 25 10 4 (.array .int) := ⟨_, _, _, tyX10, vcl_10, in_10, by decide, rfl, hp_in (List.mem_append_right _ (List.mem_append_left _ (List.mem_of_getElem? (i := 43) (by decide +kernel)))) rfl, tyX10_ok, nmX10, rfl⟩
set_option maxRecDepth 100000 in
theorem Fi_X10_init : hp_Fi yX10_init cX10_init 3 2 := ⟨hp_in (List.mem_append_right _ (List.mem_append_left _ (List.mem_of_getElem? (i := 34) (by decide +kernel)))) rfl, hp_in (List.mem_append_right _ (List.mem_append_left _ (List.mem_of_getElem? (i := 3) (by decide +kernel)))) rfl, hp_in (List.mem_append_right _ (List.mem_append_left _ (List.mem_of_getElem? (i := 35) rfl))) rfl, ⟨by decide +kernel, by decide +kernel, by decide +kernel⟩, rfl⟩
set_option maxRecDepth 100000 in
theorem mi_RX4_11 : Cond.methodLink RX4 11 yX10_init ∈ hp_tbl := hp_in (List.mem_append_right _ (List.mem_append_left _ (List.mem_of_getElem? (i := 33) (by decide +kernel)))) rfl
set_option maxRecDepth 100000 in
theorem qf_RX4_14 : hp_Fq RX4 14 4 0 (.object "ProtocolBench$Variables") := ⟨_, _, _, tyX4, vcl_4, in_4, by decide, rfl, hp_in (List.mem_append_right _ (List.mem_append_left _ (List.mem_of_getElem? (i := 170) (by decide +kernel)))) rfl, tyX4_ok, nmX4, rfl⟩
set_option maxRecDepth 100000 in
theorem qf_RX4_20 : hp_Fq RX4 20 4 1 (.object "ProtocolBench$Variables") := ⟨_, _, _, tyX4, vcl_4, in_4, by decide, rfl, hp_in (List.mem_append_right _ (List.mem_append_left _ (List.mem_of_getElem? (i := 173) (by decide +kernel)))) rfl, tyX4_ok, nmX4, rfl⟩
set_option maxRecDepth 100000 in
theorem nf_RX4_23 : hp_Fn RX4 23 6 3 [(3, 0, 0), (0, 0, 0), (3, 0, 0)] := ⟨_, _, tyX6, vcl_6, in_6, tyX6_ok, hp_in (List.mem_append_right _ (List.mem_append_left _ (List.mem_of_getElem? (i := 56) (by decide +kernel)))) rfl, hp_in (List.mem_append_right _ (List.mem_append_left _ (List.mem_of_getElem? (i := 57) (by decide +kernel)))) rfl, hp_in (List.mem_append_right _ (List.mem_append_left _ (List.mem_of_getElem? (i := 4) (by decide +kernel)))) rfl, (by decide +kernel)⟩
set_option maxRecDepth 100000 in
theorem mi_RX6_3 : Cond.methodLink RX6 3 Lib.objectInit ∈ hp_tbl := hp_in (List.mem_append_right _ (List.mem_append_left _ (List.mem_of_getElem? (i := 61) (by decide +kernel)))) rfl
set_option maxRecDepth 100000 in
theorem qf_RX6_9 : hp_Fq RX6 9 6 0 (.array .int) := ⟨_, _, _, tyX6, vcl_6, in_6, by decide, rfl, hp_in (List.mem_append_right _ (List.mem_append_left _ (List.mem_of_getElem? (i := 62) (by decide +kernel)))) rfl, tyX6_ok, nmX6, rfl⟩
set_option maxRecDepth 100000 in
theorem qf_RX6_15 : hp_Fq RX6 15 6 2 (.array .int) := ⟨_, _, _, tyX6, vcl_6, in_6, by decide, rfl, hp_in (List.mem_append_right _ (List.mem_append_left _ (List.mem_of_getElem? (i := 70) (by decide +kernel)))) rfl, tyX6_ok, nmX6, rfl⟩
set_option maxRecDepth 100000 in
theorem Fi_X6_init : hp_Fi yX6_init cX6_init 1 0 := ⟨hp_in (List.mem_append_right _ (List.mem_append_left _ (List.mem_of_getElem? (i := 59) (by decide +kernel)))) rfl, hp_in (List.mem_append_right _ (List.mem_append_left _ (List.mem_of_getElem? (i := 4) (by decide +kernel)))) rfl, hp_in (List.mem_append_right _ (List.mem_append_left _ (List.mem_of_getElem? (i := 60) rfl))) rfl, ⟨by decide +kernel, by decide +kernel, by decide +kernel⟩, rfl⟩
set_option maxRecDepth 100000 in
theorem mi_RX4_25 : (RX4, 25, yX6_init, "ProtocolBench") ∈ hp_nst := (by decide +kernel)
set_option maxRecDepth 100000 in
theorem qf_RX4_26 : hp_Fq RX4 26 4 2 (.object "ProtocolBench$Roles") := ⟨_, _, _, tyX4, vcl_4, in_4, by decide, rfl, hp_in (List.mem_append_right _ (List.mem_append_left _ (List.mem_of_getElem? (i := 176) (by decide +kernel)))) rfl, tyX4_ok, nmX4, rfl⟩
set_option maxRecDepth 100000 in
theorem nf_RX4_30 : hp_Fn RX4 30 1 10 [(3, 0, 0), (0, 0, 0), (3, 0, 0), (3, 0, 0), (3, 0, 0), (3, 0, 0), (3, 0, 0), (3, 0, 0), (3, 0, 0), (0, 0, 0)] := ⟨_, _, tyX1, vcl_1, in_1, tyX1_ok, hp_in (List.mem_append_right _ (List.mem_append_left _ (List.mem_of_getElem? (i := 78) (by decide +kernel)))) rfl, hp_in (List.mem_append_right _ (List.mem_append_left _ (List.mem_of_getElem? (i := 79) (by decide +kernel)))) rfl, hp_in (List.mem_append_right _ (List.mem_append_left _ (List.mem_of_getElem? (i := 5) (by decide +kernel)))) rfl, (by decide +kernel)⟩
set_option maxRecDepth 100000 in
theorem gf_RX4_26 : hp_Fg RX4 26 4 2 := ⟨_, _, _, _, vcl_4, in_4, by decide, rfl, hp_in (List.mem_append_right _ (List.mem_append_left _ (List.mem_of_getElem? (i := 176) (by decide +kernel)))) rfl⟩
set_option maxRecDepth 100000 in
theorem mi_RX1_3 : Cond.methodLink RX1 3 Lib.objectInit ∈ hp_tbl := hp_in (List.mem_append_right _ (List.mem_append_left _ (List.mem_of_getElem? (i := 83) (by decide +kernel)))) rfl
set_option maxRecDepth 100000 in
theorem qf_RX1_9 : hp_Fq RX1 9 1 0 (.array .int) := ⟨_, _, _, tyX1, vcl_1, in_1, by decide, rfl, hp_in (List.mem_append_right _ (List.mem_append_left _ (List.mem_of_getElem? (i := 84) (by decide +kernel)))) rfl, tyX1_ok, nmX1, rfl⟩
set_option maxRecDepth 100000 in
theorem qf_RX1_15 : hp_Fq RX1 15 1 3 (.array .int) := ⟨_, _, _, tyX1, vcl_1, in_1, by decide, rfl, hp_in (List.mem_append_right _ (List.mem_append_left _ (List.mem_of_getElem? (i := 90) (by decide +kernel)))) rfl, tyX1_ok, nmX1, rfl⟩
set_option maxRecDepth 100000 in
theorem qf_RX1_18 : hp_Fq RX1 18 1 4 (.array .int) := ⟨_, _, _, tyX1, vcl_1, in_1, by decide, rfl, hp_in (List.mem_append_right _ (List.mem_append_left _ (List.mem_of_getElem? (i := 91) (by decide +kernel)))) rfl, tyX1_ok, nmX1, rfl⟩
set_option maxRecDepth 100000 in
theorem qf_RX1_21 : hp_Fq RX1 21 1 5 (.array .int) := ⟨_, _, _, tyX1, vcl_1, in_1, by decide, rfl, hp_in (List.mem_append_right _ (List.mem_append_left _ (List.mem_of_getElem? (i := 92) (by decide +kernel)))) rfl, tyX1_ok, nmX1, rfl⟩
set_option maxRecDepth 100000 in
theorem qf_RX1_24 : hp_Fq RX1 24 1 6 (.array .int) := ⟨_, _, _, tyX1, vcl_1, in_1, by decide, rfl, hp_in (List.mem_append_right _ (List.mem_append_left _ (List.mem_of_getElem? (i := 93) (by decide +kernel)))) rfl, tyX1_ok, nmX1, rfl⟩
set_option maxRecDepth 100000 in
theorem qf_RX1_27 : hp_Fq RX1 27 1 7 (.array .int) := ⟨_, _, _, tyX1, vcl_1, in_1, by decide, rfl, hp_in (List.mem_append_right _ (List.mem_append_left _ (List.mem_of_getElem? (i := 94) (by decide +kernel)))) rfl, tyX1_ok, nmX1, rfl⟩
set_option maxRecDepth 100000 in
theorem af_boolean : Cond.arrayClass .boolean ∈ hp_tbl := hp_in (List.mem_append_right _ (List.mem_append_left _ (List.mem_of_getElem? (i := 118) (by decide +kernel)))) rfl
set_option maxRecDepth 100000 in
theorem qf_RX1_30 : hp_Fq RX1 30 1 8 (.array .boolean) := ⟨_, _, _, tyX1, vcl_1, in_1, by decide, rfl, hp_in (List.mem_append_right _ (List.mem_append_left _ (List.mem_of_getElem? (i := 95) (by decide +kernel)))) rfl, tyX1_ok, nmX1, rfl⟩
set_option maxRecDepth 100000 in
theorem qf_RX1_34 : hp_Fq RX1 34 1 2 (.object "ProtocolBench$Roles") := ⟨_, _, _, tyX1, vcl_1, in_1, by decide, rfl, hp_in (List.mem_append_right _ (List.mem_append_left _ (List.mem_of_getElem? (i := 89) (by decide +kernel)))) rfl, tyX1_ok, nmX1, rfl⟩
set_option maxRecDepth 100000 in
theorem Fi_X1_init : hp_Fi yX1_init cX1_init 2 1 := ⟨hp_in (List.mem_append_right _ (List.mem_append_left _ (List.mem_of_getElem? (i := 81) (by decide +kernel)))) rfl, hp_in (List.mem_append_right _ (List.mem_append_left _ (List.mem_of_getElem? (i := 5) (by decide +kernel)))) rfl, hp_in (List.mem_append_right _ (List.mem_append_left _ (List.mem_of_getElem? (i := 82) rfl))) rfl, ⟨by decide +kernel, by decide +kernel, by decide +kernel⟩, rfl⟩
set_option maxRecDepth 100000 in
theorem mi_RX4_32 : Cond.methodLink RX4 32 yX1_init ∈ hp_tbl := hp_in (List.mem_append_right _ (List.mem_append_left _ (List.mem_of_getElem? (i := 80) (by decide +kernel)))) rfl
set_option maxRecDepth 100000 in
theorem qf_RX4_35 : hp_Fq RX4 35 4 3 (.object "ProtocolBench$Exprs") := ⟨_, _, _, tyX4, vcl_4, in_4, by decide, rfl, hp_in (List.mem_append_right _ (List.mem_append_left _ (List.mem_of_getElem? (i := 180) (by decide +kernel)))) rfl, tyX4_ok, nmX4, rfl⟩
set_option maxRecDepth 100000 in
theorem nf_RX4_39 : hp_Fn RX4 39 9 9 [(3, 0, 0), (3, 0, 0), (3, 0, 0), (3, 0, 0), (3, 0, 0), (3, 0, 0), (3, 0, 0), (3, 0, 0), (0, 0, 0)] := ⟨_, _, tyX9, vcl_9, in_9, tyX9_ok, hp_in (List.mem_append_right _ (List.mem_append_left _ (List.mem_of_getElem? (i := 119) (by decide +kernel)))) rfl, hp_in (List.mem_append_right _ (List.mem_append_left _ (List.mem_of_getElem? (i := 120) (by decide +kernel)))) rfl, hp_in (List.mem_append_right _ (List.mem_append_left _ (List.mem_of_getElem? (i := 6) (by decide +kernel)))) rfl, (by decide +kernel)⟩
set_option maxRecDepth 100000 in
theorem mi_RX9_3 : Cond.methodLink RX9 3 Lib.objectInit ∈ hp_tbl := hp_in (List.mem_append_right _ (List.mem_append_left _ (List.mem_of_getElem? (i := 124) (by decide +kernel)))) rfl
set_option maxRecDepth 100000 in
theorem qf_RX9_9 : hp_Fq RX9 9 9 0 (.array .int) := ⟨_, _, _, tyX9, vcl_9, in_9, by decide, rfl, hp_in (List.mem_append_right _ (List.mem_append_left _ (List.mem_of_getElem? (i := 125) (by decide +kernel)))) rfl, tyX9_ok, nmX9, rfl⟩
set_option maxRecDepth 100000 in
theorem qf_RX9_15 : hp_Fq RX9 15 9 1 (.array .int) := ⟨_, _, _, tyX9, vcl_9, in_9, by decide, rfl, hp_in (List.mem_append_right _ (List.mem_append_left _ (List.mem_of_getElem? (i := 128) (by decide +kernel)))) rfl, tyX9_ok, nmX9, rfl⟩
set_option maxRecDepth 100000 in
theorem qf_RX9_18 : hp_Fq RX9 18 9 2 (.array .int) := ⟨_, _, _, tyX9, vcl_9, in_9, by decide, rfl, hp_in (List.mem_append_right _ (List.mem_append_left _ (List.mem_of_getElem? (i := 130) (by decide +kernel)))) rfl, tyX9_ok, nmX9, rfl⟩
set_option maxRecDepth 100000 in
theorem qf_RX9_21 : hp_Fq RX9 21 9 3 (.array .int) := ⟨_, _, _, tyX9, vcl_9, in_9, by decide, rfl, hp_in (List.mem_append_right _ (List.mem_append_left _ (List.mem_of_getElem? (i := 132) (by decide +kernel)))) rfl, tyX9_ok, nmX9, rfl⟩
set_option maxRecDepth 100000 in
theorem qf_RX9_24 : hp_Fq RX9 24 9 4 (.array .int) := ⟨_, _, _, tyX9, vcl_9, in_9, by decide, rfl, hp_in (List.mem_append_right _ (List.mem_append_left _ (List.mem_of_getElem? (i := 135) (by decide +kernel)))) rfl, tyX9_ok, nmX9, rfl⟩
set_option maxRecDepth 100000 in
theorem qf_RX9_27 : hp_Fq RX9 27 9 5 (.array .int) := ⟨_, _, _, tyX9, vcl_9, in_9, by decide, rfl, hp_in (List.mem_append_right _ (List.mem_append_left _ (List.mem_of_getElem? (i := 139) (by decide +kernel)))) rfl, tyX9_ok, nmX9, rfl⟩
set_option maxRecDepth 100000 in
theorem qf_RX9_30 : hp_Fq RX9 30 9 6 (.array .int) := ⟨_, _, _, tyX9, vcl_9, in_9, by decide, rfl, hp_in (List.mem_append_right _ (List.mem_append_left _ (List.mem_of_getElem? (i := 142) (by decide +kernel)))) rfl, tyX9_ok, nmX9, rfl⟩
set_option maxRecDepth 100000 in
theorem qf_RX9_33 : hp_Fq RX9 33 9 7 (.array .int) := ⟨_, _, _, tyX9, vcl_9, in_9, by decide, rfl, hp_in (List.mem_append_right _ (List.mem_append_left _ (List.mem_of_getElem? (i := 144) (by decide +kernel)))) rfl, tyX9_ok, nmX9, rfl⟩
set_option maxRecDepth 100000 in
theorem Fi_X9_init : hp_Fi yX9_init cX9_init 1 0 := ⟨hp_in (List.mem_append_right _ (List.mem_append_left _ (List.mem_of_getElem? (i := 122) (by decide +kernel)))) rfl, hp_in (List.mem_append_right _ (List.mem_append_left _ (List.mem_of_getElem? (i := 6) (by decide +kernel)))) rfl, hp_in (List.mem_append_right _ (List.mem_append_left _ (List.mem_of_getElem? (i := 123) rfl))) rfl, ⟨by decide +kernel, by decide +kernel, by decide +kernel⟩, rfl⟩
set_option maxRecDepth 100000 in
theorem mi_RX4_41 : (RX4, 41, yX9_init, "ProtocolBench") ∈ hp_nst := (by decide +kernel)
set_option maxRecDepth 100000 in
theorem qf_RX4_42 : hp_Fq RX4 42 4 4 (.object "ProtocolBench$Steps") := ⟨_, _, _, tyX4, vcl_4, in_4, by decide, rfl, hp_in (List.mem_append_right _ (List.mem_append_left _ (List.mem_of_getElem? (i := 184) (by decide +kernel)))) rfl, tyX4_ok, nmX4, rfl⟩
set_option maxRecDepth 100000 in
theorem qf_RX4_46 : hp_Fq RX4 46 4 5 (.array .int) := ⟨_, _, _, tyX4, vcl_4, in_4, by decide, rfl, hp_in (List.mem_append_right _ (List.mem_append_left _ (List.mem_of_getElem? (i := 187) (by decide +kernel)))) rfl, tyX4_ok, nmX4, rfl⟩
set_option maxRecDepth 100000 in
theorem qf_RX4_50 : hp_Fq RX4 50 4 6 (.array .boolean) := ⟨_, _, _, tyX4, vcl_4, in_4, by decide, rfl, hp_in (List.mem_append_right _ (List.mem_append_left _ (List.mem_of_getElem? (i := 189) (by decide +kernel)))) rfl, tyX4_ok, nmX4, rfl⟩
set_option maxRecDepth 100000 in
theorem qf_RX4_54 : hp_Fq RX4 54 4 7 (.array .boolean) := ⟨_, _, _, tyX4, vcl_4, in_4, by decide, rfl, hp_in (List.mem_append_right _ (List.mem_append_left _ (List.mem_of_getElem? (i := 191) (by decide +kernel)))) rfl, tyX4_ok, nmX4, rfl⟩
set_option maxRecDepth 100000 in
theorem Fi_X4_init : hp_Fi yX4_init cX4_init 1 0 := ⟨hp_in (List.mem_append_right _ (List.mem_append_left _ (List.mem_of_getElem? (i := 28) (by decide +kernel)))) rfl, hp_in (List.mem_append_right _ (List.mem_append_left _ (List.mem_of_getElem? (i := 2) (by decide +kernel)))) rfl, hp_in (List.mem_append_right _ (List.mem_append_left _ (List.mem_of_getElem? (i := 29) rfl))) rfl, ⟨by decide +kernel, by decide +kernel, by decide +kernel⟩, rfl⟩
set_option maxRecDepth 100000 in
theorem mi_RX11_11 : (RX11, 11, yX4_init, "ProtocolBench") ∈ hp_nst := (by decide +kernel)
set_option maxRecDepth 100000 in
theorem qf_RX11_12 : hp_Fq RX11 12 11 0 (.object "ProtocolBench$Protocol") := ⟨_, _, _, tyX11, vcl_11, in_11, by decide, rfl, hp_in (List.mem_append_right _ (List.mem_append_right _ (List.mem_append_left _ (List.mem_of_getElem? (i := 220) (by decide +kernel))))) rfl, tyX11_ok, nmX11, rfl⟩
set_option maxRecDepth 100000 in
theorem nf_RX11_16 : hp_Fn RX11 16 2 16 [(0, 0, 0), (0, 0, 0), (0, 0, 0), (0, 0, 0), (0, 0, 0), (0, 0, 0), (0, 0, 0), (0, 0, 0), (3, 0, 0), (3, 0, 0), (3, 0, 0), (3, 0, 0), (3, 0, 0), (3, 0, 0), (3, 0, 0), (3, 0, 0)] := ⟨_, _, tyX2, vcl_2, in_2, tyX2_ok, hp_in (List.mem_append_right _ (List.mem_append_left _ (List.mem_of_getElem? (i := 220) (by decide +kernel)))) rfl, hp_in (List.mem_append_right _ (List.mem_append_left _ (List.mem_of_getElem? (i := 221) (by decide +kernel)))) rfl, hp_in (List.mem_append_right _ (List.mem_append_left _ (List.mem_of_getElem? (i := 7) (by decide +kernel)))) rfl, (by decide +kernel)⟩
set_option maxRecDepth 100000 in
theorem mi_RX2_3 : Cond.methodLink RX2 3 Lib.objectInit ∈ hp_tbl := hp_in (List.mem_append_right _ (List.mem_append_left _ (List.mem_of_getElem? (i := 225) (by decide +kernel)))) rfl
set_option maxRecDepth 100000 in
theorem qf_RX2_9 : hp_Fq RX2 9 2 4 .int := ⟨_, _, _, tyX2, vcl_2, in_2, by decide, rfl, hp_in (List.mem_append_right _ (List.mem_append_left _ (List.mem_of_getElem? (i := 237) (by decide +kernel)))) rfl, tyX2_ok, nmX2, rfl⟩
set_option maxRecDepth 100000 in
theorem qf_RX2_15 : hp_Fq RX2 15 2 5 .int := ⟨_, _, _, tyX2, vcl_2, in_2, by decide, rfl, hp_in (List.mem_append_right _ (List.mem_append_left _ (List.mem_of_getElem? (i := 239) (by decide +kernel)))) rfl, tyX2_ok, nmX2, rfl⟩
set_option maxRecDepth 100000 in
theorem qf_RX2_18 : hp_Fq RX2 18 2 6 .int := ⟨_, _, _, tyX2, vcl_2, in_2, by decide, rfl, hp_in (List.mem_append_right _ (List.mem_append_right _ (List.mem_append_left _ (List.mem_of_getElem? (i := 1) (by decide +kernel))))) rfl, tyX2_ok, nmX2, rfl⟩
set_option maxRecDepth 100000 in
theorem qf_RX2_21 : hp_Fq RX2 21 2 7 .int := ⟨_, _, _, tyX2, vcl_2, in_2, by decide, rfl, hp_in (List.mem_append_right _ (List.mem_append_right _ (List.mem_append_left _ (List.mem_of_getElem? (i := 3) (by decide +kernel))))) rfl, tyX2_ok, nmX2, rfl⟩
set_option maxRecDepth 100000 in
theorem qf_RX2_24 : hp_Fq RX2 24 2 8 (.array .int) := ⟨_, _, _, tyX2, vcl_2, in_2, by decide, rfl, hp_in (List.mem_append_right _ (List.mem_append_right _ (List.mem_append_left _ (List.mem_of_getElem? (i := 5) (by decide +kernel))))) rfl, tyX2_ok, nmX2, rfl⟩
set_option maxRecDepth 100000 in
theorem qf_RX2_28 : hp_Fq RX2 28 2 9 (.array .int) := ⟨_, _, _, tyX2, vcl_2, in_2, by decide, rfl, hp_in (List.mem_append_right _ (List.mem_append_right _ (List.mem_append_left _ (List.mem_of_getElem? (i := 10) (by decide +kernel))))) rfl, tyX2_ok, nmX2, rfl⟩
set_option maxRecDepth 100000 in
theorem qf_RX2_31 : hp_Fq RX2 31 2 10 (.array .int) := ⟨_, _, _, tyX2, vcl_2, in_2, by decide, rfl, hp_in (List.mem_append_right _ (List.mem_append_right _ (List.mem_append_left _ (List.mem_of_getElem? (i := 14) (by decide +kernel))))) rfl, tyX2_ok, nmX2, rfl⟩
set_option maxRecDepth 100000 in
theorem qf_RX2_34 : hp_Fq RX2 34 2 11 (.array .int) := ⟨_, _, _, tyX2, vcl_2, in_2, by decide, rfl, hp_in (List.mem_append_right _ (List.mem_append_right _ (List.mem_append_left _ (List.mem_of_getElem? (i := 16) (by decide +kernel))))) rfl, tyX2_ok, nmX2, rfl⟩
set_option maxRecDepth 100000 in
theorem qf_RX2_37 : hp_Fq RX2 37 2 12 (.array .int) := ⟨_, _, _, tyX2, vcl_2, in_2, by decide, rfl, hp_in (List.mem_append_right _ (List.mem_append_right _ (List.mem_append_left _ (List.mem_of_getElem? (i := 18) (by decide +kernel))))) rfl, tyX2_ok, nmX2, rfl⟩
set_option maxRecDepth 100000 in
theorem qf_RX2_40 : hp_Fq RX2 40 2 13 (.array .int) := ⟨_, _, _, tyX2, vcl_2, in_2, by decide, rfl, hp_in (List.mem_append_right _ (List.mem_append_right _ (List.mem_append_left _ (List.mem_of_getElem? (i := 20) (by decide +kernel))))) rfl, tyX2_ok, nmX2, rfl⟩
set_option maxRecDepth 100000 in
theorem qf_RX2_45 : hp_Fq RX2 45 2 14 (.array .int) := ⟨_, _, _, tyX2, vcl_2, in_2, by decide, rfl, hp_in (List.mem_append_right _ (List.mem_append_right _ (List.mem_append_left _ (List.mem_of_getElem? (i := 21) (by decide +kernel))))) rfl, tyX2_ok, nmX2, rfl⟩
set_option maxRecDepth 100000 in
theorem qf_RX2_48 : hp_Fq RX2 48 2 15 (.array .int) := ⟨_, _, _, tyX2, vcl_2, in_2, by decide, rfl, hp_in (List.mem_append_right _ (List.mem_append_right _ (List.mem_append_left _ (List.mem_of_getElem? (i := 22) (by decide +kernel))))) rfl, tyX2_ok, nmX2, rfl⟩
set_option maxRecDepth 100000 in
theorem Fi_X2_init : hp_Fi yX2_init cX2_init 1 0 := ⟨hp_in (List.mem_append_right _ (List.mem_append_left _ (List.mem_of_getElem? (i := 223) (by decide +kernel)))) rfl, hp_in (List.mem_append_right _ (List.mem_append_left _ (List.mem_of_getElem? (i := 7) (by decide +kernel)))) rfl, hp_in (List.mem_append_right _ (List.mem_append_left _ (List.mem_of_getElem? (i := 224) rfl))) rfl, ⟨by decide +kernel, by decide +kernel, by decide +kernel⟩, rfl⟩
set_option maxRecDepth 100000 in
theorem mi_RX11_18 : (RX11, 18, yX2_init, "ProtocolBench") ∈ hp_nst := (by decide +kernel)
set_option maxRecDepth 100000 in
theorem qf_RX11_19 : hp_Fq RX11 19 11 1 (.object "ProtocolBench$Graph") := ⟨_, _, _, tyX11, vcl_11, in_11, by decide, rfl, hp_in (List.mem_append_right _ (List.mem_append_right _ (List.mem_append_left _ (List.mem_of_getElem? (i := 221) (by decide +kernel))))) rfl, tyX11_ok, nmX11, rfl⟩
set_option maxRecDepth 100000 in
theorem nf_RX11_23 : hp_Fn RX11 23 8 5 [(3, 0, 0), (3, 0, 0), (3, 0, 0), (3, 0, 0), (3, 0, 0)] := ⟨_, _, tyX8, vcl_8, in_8, tyX8_ok, hp_in (List.mem_append_right _ (List.mem_append_right _ (List.mem_append_left _ (List.mem_of_getElem? (i := 56) (by decide +kernel))))) rfl, hp_in (List.mem_append_right _ (List.mem_append_right _ (List.mem_append_left _ (List.mem_of_getElem? (i := 57) (by decide +kernel))))) rfl, hp_in (List.mem_append_right _ (List.mem_append_left _ (List.mem_of_getElem? (i := 8) (by decide +kernel)))) rfl, (by decide +kernel)⟩
set_option maxRecDepth 100000 in
theorem gf_RX11_12 : hp_Fg RX11 12 11 0 := ⟨_, _, _, _, vcl_11, in_11, by decide, rfl, hp_in (List.mem_append_right _ (List.mem_append_right _ (List.mem_append_left _ (List.mem_of_getElem? (i := 220) (by decide +kernel))))) rfl⟩
set_option maxRecDepth 100000 in
theorem gf_RX11_19 : hp_Fg RX11 19 11 1 := ⟨_, _, _, _, vcl_11, in_11, by decide, rfl, hp_in (List.mem_append_right _ (List.mem_append_right _ (List.mem_append_left _ (List.mem_of_getElem? (i := 221) (by decide +kernel))))) rfl⟩
set_option maxRecDepth 100000 in
theorem mi_RX8_3 : Cond.methodLink RX8 3 Lib.objectInit ∈ hp_tbl := hp_in (List.mem_append_right _ (List.mem_append_right _ (List.mem_append_left _ (List.mem_of_getElem? (i := 61) (by decide +kernel))))) rfl
set_option maxRecDepth 100000 in
theorem nf_RX8_9 : hp_Fn RX8 9 7 1 [(3, 0, 0)] := ⟨_, _, tyX7, vcl_7, in_7, tyX7_ok, hp_in (List.mem_append_right _ (List.mem_append_right _ (List.mem_append_left _ (List.mem_of_getElem? (i := 62) (by decide +kernel))))) rfl, hp_in (List.mem_append_right _ (List.mem_append_right _ (List.mem_append_left _ (List.mem_of_getElem? (i := 63) (by decide +kernel))))) rfl, hp_in (List.mem_append_right _ (List.mem_append_left _ (List.mem_of_getElem? (i := 9) (by decide +kernel)))) rfl, (by decide +kernel)⟩
set_option maxRecDepth 100000 in
theorem mi_RX7_5 : Cond.methodLink RX7 5 Lib.objectInit ∈ hp_tbl := hp_in (List.mem_append_right _ (List.mem_append_right _ (List.mem_append_left _ (List.mem_of_getElem? (i := 67) (by decide +kernel))))) rfl
set_option maxRecDepth 100000 in
theorem qf_RX7_11 : hp_Fq RX7 11 7 0 (.array .int) := ⟨_, _, _, tyX7, vcl_7, in_7, by decide, rfl, hp_in (List.mem_append_right _ (List.mem_append_right _ (List.mem_append_left _ (List.mem_of_getElem? (i := 68) (by decide +kernel))))) rfl, tyX7_ok, nmX7, rfl⟩
set_option maxRecDepth 100000 in
theorem Fi_X7_init : hp_Fi yX7_init cX7_init 1 0 := ⟨hp_in (List.mem_append_right _ (List.mem_append_right _ (List.mem_append_left _ (List.mem_of_getElem? (i := 65) (by decide +kernel))))) rfl, hp_in (List.mem_append_right _ (List.mem_append_left _ (List.mem_of_getElem? (i := 9) (by decide +kernel)))) rfl, hp_in (List.mem_append_right _ (List.mem_append_right _ (List.mem_append_left _ (List.mem_of_getElem? (i := 66) rfl)))) rfl, ⟨by decide +kernel, by decide +kernel, by decide +kernel⟩, rfl⟩
set_option maxRecDepth 100000 in
theorem mi_RX8_11 : (RX8, 11, yX7_init, "ProtocolBench") ∈ hp_nst := (by decide +kernel)
set_option maxRecDepth 100000 in
theorem qf_RX8_12 : hp_Fq RX8 12 8 2 (.object "ProtocolBench$Row") := ⟨_, _, _, tyX8, vcl_8, in_8, by decide, rfl, hp_in (List.mem_append_right _ (List.mem_append_right _ (List.mem_append_left _ (List.mem_of_getElem? (i := 75) (by decide +kernel))))) rfl, tyX8_ok, nmX8, rfl⟩
set_option maxRecDepth 100000 in
theorem qf_RX8_18 : hp_Fq RX8 18 8 3 (.object "ProtocolBench$Row") := ⟨_, _, _, tyX8, vcl_8, in_8, by decide, rfl, hp_in (List.mem_append_right _ (List.mem_append_right _ (List.mem_append_left _ (List.mem_of_getElem? (i := 76) (by decide +kernel))))) rfl, tyX8_ok, nmX8, rfl⟩
set_option maxRecDepth 100000 in
theorem qf_RX8_21 : hp_Fq RX8 21 8 4 (.array .int) := ⟨_, _, _, tyX8, vcl_8, in_8, by decide, rfl, hp_in (List.mem_append_right _ (List.mem_append_right _ (List.mem_append_left _ (List.mem_of_getElem? (i := 77) (by decide +kernel))))) rfl, tyX8_ok, nmX8, rfl⟩
set_option maxRecDepth 100000 in
theorem qf_RX8_25 : hp_Fq RX8 25 8 0 (.object "ProtocolBench$Protocol") := ⟨_, _, _, tyX8, vcl_8, in_8, by decide, rfl, hp_in (List.mem_append_right _ (List.mem_append_right _ (List.mem_append_left _ (List.mem_of_getElem? (i := 73) (by decide +kernel))))) rfl, tyX8_ok, nmX8, rfl⟩
set_option maxRecDepth 100000 in
theorem qf_RX8_29 : hp_Fq RX8 29 8 1 (.object "ProtocolBench$Graph") := ⟨_, _, _, tyX8, vcl_8, in_8, by decide, rfl, hp_in (List.mem_append_right _ (List.mem_append_right _ (List.mem_append_left _ (List.mem_of_getElem? (i := 74) (by decide +kernel))))) rfl, tyX8_ok, nmX8, rfl⟩
set_option maxRecDepth 100000 in
theorem Fi_X8_init : hp_Fi yX8_init cX8_init 3 2 := ⟨hp_in (List.mem_append_right _ (List.mem_append_right _ (List.mem_append_left _ (List.mem_of_getElem? (i := 59) (by decide +kernel))))) rfl, hp_in (List.mem_append_right _ (List.mem_append_left _ (List.mem_of_getElem? (i := 8) (by decide +kernel)))) rfl, hp_in (List.mem_append_right _ (List.mem_append_right _ (List.mem_append_left _ (List.mem_of_getElem? (i := 60) rfl)))) rfl, ⟨by decide +kernel, by decide +kernel, by decide +kernel⟩, rfl⟩
set_option maxRecDepth 100000 in
theorem mi_RX11_25 : Cond.methodLink RX11 25 yX8_init ∈ hp_tbl := hp_in (List.mem_append_right _ (List.mem_append_right _ (List.mem_append_left _ (List.mem_of_getElem? (i := 58) (by decide +kernel))))) rfl
set_option maxRecDepth 100000 in
theorem qf_RX11_28 : hp_Fq RX11 28 11 2 (.object "ProtocolBench$Searcher") := ⟨_, _, _, tyX11, vcl_11, in_11, by decide, rfl, hp_in (List.mem_append_right _ (List.mem_append_right _ (List.mem_append_left _ (List.mem_of_getElem? (i := 222) (by decide +kernel))))) rfl, tyX11_ok, nmX11, rfl⟩
set_option maxRecDepth 100000 in
theorem nf_RX11_32 : hp_Fn RX11 32 5 3 [(3, 0, 0), (3, 0, 0), (3, 0, 0)] := ⟨_, _, tyX5, vcl_5, in_5, tyX5_ok, hp_in (List.mem_append_right _ (List.mem_append_right _ (List.mem_append_left _ (List.mem_of_getElem? (i := 89) (by decide +kernel))))) rfl, hp_in (List.mem_append_right _ (List.mem_append_right _ (List.mem_append_left _ (List.mem_of_getElem? (i := 90) (by decide +kernel))))) rfl, hp_in (List.mem_append_right _ (List.mem_append_left _ (List.mem_of_getElem? (i := 10) (by decide +kernel)))) rfl, (by decide +kernel)⟩
set_option maxRecDepth 100000 in
theorem mi_RX5_3 : Cond.methodLink RX5 3 Lib.objectInit ∈ hp_tbl := hp_in (List.mem_append_right _ (List.mem_append_right _ (List.mem_append_left _ (List.mem_of_getElem? (i := 94) (by decide +kernel))))) rfl
set_option maxRecDepth 100000 in
theorem nf_RX5_9 : hp_Fn RX5 9 7 1 [(3, 0, 0)] := ⟨_, _, tyX7, vcl_7, in_7, tyX7_ok, hp_in (List.mem_append_right _ (List.mem_append_right _ (List.mem_append_left _ (List.mem_of_getElem? (i := 95) (by decide +kernel))))) rfl, hp_in (List.mem_append_right _ (List.mem_append_right _ (List.mem_append_left _ (List.mem_of_getElem? (i := 63) (by decide +kernel))))) rfl, hp_in (List.mem_append_right _ (List.mem_append_left _ (List.mem_of_getElem? (i := 9) (by decide +kernel)))) rfl, (by decide +kernel)⟩
set_option maxRecDepth 100000 in
theorem mi_RX5_11 : (RX5, 11, yX7_init, "ProtocolBench") ∈ hp_nst := (by decide +kernel)
set_option maxRecDepth 100000 in
theorem qf_RX5_12 : hp_Fq RX5 12 5 2 (.object "ProtocolBench$Row") := ⟨_, _, _, tyX5, vcl_5, in_5, by decide, rfl, hp_in (List.mem_append_right _ (List.mem_append_right _ (List.mem_append_left _ (List.mem_of_getElem? (i := 99) (by decide +kernel))))) rfl, tyX5_ok, nmX5, rfl⟩
set_option maxRecDepth 100000 in
theorem qf_RX5_18 : hp_Fq RX5 18 5 0 (.object "ProtocolBench$Protocol") := ⟨_, _, _, tyX5, vcl_5, in_5, by decide, rfl, hp_in (List.mem_append_right _ (List.mem_append_right _ (List.mem_append_left _ (List.mem_of_getElem? (i := 97) (by decide +kernel))))) rfl, tyX5_ok, nmX5, rfl⟩
set_option maxRecDepth 100000 in
theorem qf_RX5_22 : hp_Fq RX5 22 5 1 (.object "ProtocolBench$Graph") := ⟨_, _, _, tyX5, vcl_5, in_5, by decide, rfl, hp_in (List.mem_append_right _ (List.mem_append_right _ (List.mem_append_left _ (List.mem_of_getElem? (i := 98) (by decide +kernel))))) rfl, tyX5_ok, nmX5, rfl⟩
set_option maxRecDepth 100000 in
theorem Fi_X5_init : hp_Fi yX5_init cX5_init 3 2 := ⟨hp_in (List.mem_append_right _ (List.mem_append_right _ (List.mem_append_left _ (List.mem_of_getElem? (i := 92) (by decide +kernel))))) rfl, hp_in (List.mem_append_right _ (List.mem_append_left _ (List.mem_of_getElem? (i := 10) (by decide +kernel)))) rfl, hp_in (List.mem_append_right _ (List.mem_append_right _ (List.mem_append_left _ (List.mem_of_getElem? (i := 93) rfl)))) rfl, ⟨by decide +kernel, by decide +kernel, by decide +kernel⟩, rfl⟩
set_option maxRecDepth 100000 in
theorem mi_RX11_34 : Cond.methodLink RX11 34 yX5_init ∈ hp_tbl := hp_in (List.mem_append_right _ (List.mem_append_right _ (List.mem_append_left _ (List.mem_of_getElem? (i := 91) (by decide +kernel))))) rfl
set_option maxRecDepth 100000 in
theorem qf_RX11_35 : hp_Fq RX11 35 11 3 (.object "ProtocolBench$Reckoner") := ⟨_, _, _, tyX11, vcl_11, in_11, by decide, rfl, hp_in (List.mem_append_right _ (List.mem_append_right _ (List.mem_append_left _ (List.mem_of_getElem? (i := 223) (by decide +kernel))))) rfl, tyX11_ok, nmX11, rfl⟩
set_option maxRecDepth 100000 in
theorem nf_RX11_39 : hp_Fn RX11 39 3 20 [(3, 0, 0), (3, 0, 0), (3, 0, 0), (3, 0, 0), (3, 0, 0), (3, 0, 0), (3, 0, 0), (3, 0, 0), (3, 0, 0), (3, 0, 0), (3, 0, 0), (3, 0, 0), (3, 0, 0), (0, 0, 0), (0, 0, 0), (0, 0, 0), (0, 0, 0), (0, 0, 0), (0, 0, 0), (0, 0, 0)] := ⟨_, _, tyX3, vcl_3, in_3, tyX3_ok, hp_in (List.mem_append_right _ (List.mem_append_right _ (List.mem_append_left _ (List.mem_of_getElem? (i := 107) (by decide +kernel))))) rfl, hp_in (List.mem_append_right _ (List.mem_append_right _ (List.mem_append_left _ (List.mem_of_getElem? (i := 108) (by decide +kernel))))) rfl, hp_in (List.mem_append_right _ (List.mem_append_left _ (List.mem_of_getElem? (i := 11) (by decide +kernel)))) rfl, (by decide +kernel)⟩
set_option maxRecDepth 100000 in
theorem gf_RX11_35 : hp_Fg RX11 35 11 3 := ⟨_, _, _, _, vcl_11, in_11, by decide, rfl, hp_in (List.mem_append_right _ (List.mem_append_right _ (List.mem_append_left _ (List.mem_of_getElem? (i := 223) (by decide +kernel))))) rfl⟩
set_option maxRecDepth 100000 in
theorem mi_RX3_3 : Cond.methodLink RX3 3 Lib.objectInit ∈ hp_tbl := hp_in (List.mem_append_right _ (List.mem_append_right _ (List.mem_append_left _ (List.mem_of_getElem? (i := 112) (by decide +kernel))))) rfl
set_option maxRecDepth 100000 in
theorem qf_RX3_9 : hp_Fq RX3 9 3 3 (.array .boolean) := ⟨_, _, _, tyX3, vcl_3, in_3, by decide, rfl, hp_in (List.mem_append_right _ (List.mem_append_right _ (List.mem_append_left _ (List.mem_of_getElem? (i := 116) (by decide +kernel))))) rfl, tyX3_ok, nmX3, rfl⟩
set_option maxRecDepth 100000 in
theorem qf_RX3_15 : hp_Fq RX3 15 3 4 (.array .boolean) := ⟨_, _, _, tyX3, vcl_3, in_3, by decide, rfl, hp_in (List.mem_append_right _ (List.mem_append_right _ (List.mem_append_left _ (List.mem_of_getElem? (i := 117) (by decide +kernel))))) rfl, tyX3_ok, nmX3, rfl⟩
set_option maxRecDepth 100000 in
theorem qf_RX3_18 : hp_Fq RX3 18 3 5 (.array .boolean) := ⟨_, _, _, tyX3, vcl_3, in_3, by decide, rfl, hp_in (List.mem_append_right _ (List.mem_append_right _ (List.mem_append_left _ (List.mem_of_getElem? (i := 118) (by decide +kernel))))) rfl, tyX3_ok, nmX3, rfl⟩
set_option maxRecDepth 100000 in
theorem qf_RX3_21 : hp_Fq RX3 21 3 6 (.array .boolean) := ⟨_, _, _, tyX3, vcl_3, in_3, by decide, rfl, hp_in (List.mem_append_right _ (List.mem_append_right _ (List.mem_append_left _ (List.mem_of_getElem? (i := 119) (by decide +kernel))))) rfl, tyX3_ok, nmX3, rfl⟩
set_option maxRecDepth 100000 in
theorem qf_RX3_24 : hp_Fq RX3 24 3 7 (.array .int) := ⟨_, _, _, tyX3, vcl_3, in_3, by decide, rfl, hp_in (List.mem_append_right _ (List.mem_append_right _ (List.mem_append_left _ (List.mem_of_getElem? (i := 120) (by decide +kernel))))) rfl, tyX3_ok, nmX3, rfl⟩
set_option maxRecDepth 100000 in
theorem qf_RX3_28 : hp_Fq RX3 28 3 8 (.array .int) := ⟨_, _, _, tyX3, vcl_3, in_3, by decide, rfl, hp_in (List.mem_append_right _ (List.mem_append_right _ (List.mem_append_left _ (List.mem_of_getElem? (i := 121) (by decide +kernel))))) rfl, tyX3_ok, nmX3, rfl⟩
set_option maxRecDepth 100000 in
theorem qf_RX3_31 : hp_Fq RX3 31 3 9 (.array .int) := ⟨_, _, _, tyX3, vcl_3, in_3, by decide, rfl, hp_in (List.mem_append_right _ (List.mem_append_right _ (List.mem_append_left _ (List.mem_of_getElem? (i := 122) (by decide +kernel))))) rfl, tyX3_ok, nmX3, rfl⟩
set_option maxRecDepth 100000 in
theorem qf_RX3_34 : hp_Fq RX3 34 3 10 (.array .int) := ⟨_, _, _, tyX3, vcl_3, in_3, by decide, rfl, hp_in (List.mem_append_right _ (List.mem_append_right _ (List.mem_append_left _ (List.mem_of_getElem? (i := 123) (by decide +kernel))))) rfl, tyX3_ok, nmX3, rfl⟩
set_option maxRecDepth 100000 in
theorem qf_RX3_37 : hp_Fq RX3 37 3 11 (.array .int) := ⟨_, _, _, tyX3, vcl_3, in_3, by decide, rfl, hp_in (List.mem_append_right _ (List.mem_append_right _ (List.mem_append_left _ (List.mem_of_getElem? (i := 124) (by decide +kernel))))) rfl, tyX3_ok, nmX3, rfl⟩
set_option maxRecDepth 100000 in
theorem qf_RX3_40 : hp_Fq RX3 40 3 12 (.array .int) := ⟨_, _, _, tyX3, vcl_3, in_3, by decide, rfl, hp_in (List.mem_append_right _ (List.mem_append_right _ (List.mem_append_left _ (List.mem_of_getElem? (i := 125) (by decide +kernel))))) rfl, tyX3_ok, nmX3, rfl⟩
set_option maxRecDepth 100000 in
theorem qf_RX3_43 : hp_Fq RX3 43 3 0 (.object "ProtocolBench$Protocol") := ⟨_, _, _, tyX3, vcl_3, in_3, by decide, rfl, hp_in (List.mem_append_right _ (List.mem_append_right _ (List.mem_append_left _ (List.mem_of_getElem? (i := 113) (by decide +kernel))))) rfl, tyX3_ok, nmX3, rfl⟩
set_option maxRecDepth 100000 in
theorem qf_RX3_47 : hp_Fq RX3 47 3 1 (.object "ProtocolBench$Graph") := ⟨_, _, _, tyX3, vcl_3, in_3, by decide, rfl, hp_in (List.mem_append_right _ (List.mem_append_right _ (List.mem_append_left _ (List.mem_of_getElem? (i := 114) (by decide +kernel))))) rfl, tyX3_ok, nmX3, rfl⟩
set_option maxRecDepth 100000 in
theorem qf_RX3_51 : hp_Fq RX3 51 3 2 (.object "ProtocolBench$Reckoner") := ⟨_, _, _, tyX3, vcl_3, in_3, by decide, rfl, hp_in (List.mem_append_right _ (List.mem_append_right _ (List.mem_append_left _ (List.mem_of_getElem? (i := 115) (by decide +kernel))))) rfl, tyX3_ok, nmX3, rfl⟩
set_option maxRecDepth 100000 in
theorem Fi_X3_init : hp_Fi yX3_init cX3_init 4 3 := ⟨hp_in (List.mem_append_right _ (List.mem_append_right _ (List.mem_append_left _ (List.mem_of_getElem? (i := 110) (by decide +kernel))))) rfl, hp_in (List.mem_append_right _ (List.mem_append_left _ (List.mem_of_getElem? (i := 11) (by decide +kernel)))) rfl, hp_in (List.mem_append_right _ (List.mem_append_right _ (List.mem_append_left _ (List.mem_of_getElem? (i := 111) rfl)))) rfl, ⟨by decide +kernel, by decide +kernel, by decide +kernel⟩, rfl⟩
set_option maxRecDepth 100000 in
theorem mi_RX11_41 : Cond.methodLink RX11 41 yX3_init ∈ hp_tbl := hp_in (List.mem_append_right _ (List.mem_append_right _ (List.mem_append_left _ (List.mem_of_getElem? (i := 109) (by decide +kernel))))) rfl
set_option maxRecDepth 100000 in
theorem qf_RX11_44 : hp_Fq RX11 44 11 4 (.object "ProtocolBench$Knots") := ⟨_, _, _, tyX11, vcl_11, in_11, by decide, rfl, hp_in (List.mem_append_right _ (List.mem_append_right _ (List.mem_append_left _ (List.mem_of_getElem? (i := 224) (by decide +kernel))))) rfl, tyX11_ok, nmX11, rfl⟩
set_option maxRecDepth 100000 in
theorem nf_RX11_48 : hp_Fn RX11 48 0 12 [(0, 0, 0), (0, 0, 0), (3, 0, 0), (3, 0, 0), (3, 0, 0), (3, 0, 0), (3, 0, 0), (3, 0, 0), (3, 0, 0), (3, 0, 0), (3, 0, 0), (0, 0, 0)] := ⟨_, _, tyX0, vcl_0, in_0, tyX0_ok, hp_in (List.mem_append_right _ (List.mem_append_right _ (List.mem_append_left _ (List.mem_of_getElem? (i := 174) (by decide +kernel))))) rfl, hp_in (List.mem_append_right _ (List.mem_append_right _ (List.mem_append_left _ (List.mem_of_getElem? (i := 175) (by decide +kernel))))) rfl, hp_in (List.mem_append_right _ (List.mem_append_left _ (List.mem_of_getElem? (i := 12) (by decide +kernel)))) rfl, (by decide +kernel)⟩
set_option maxRecDepth 100000 in
theorem mi_RX0_5 : Cond.methodLink RX0 5 Lib.objectInit ∈ hp_tbl := hp_in (List.mem_append_right _ (List.mem_append_right _ (List.mem_append_left _ (List.mem_of_getElem? (i := 179) (by decide +kernel))))) rfl
set_option maxRecDepth 100000 in
theorem qf_RX0_11 : hp_Fq RX0 11 0 2 (.array .int) := ⟨_, _, _, tyX0, vcl_0, in_0, by decide, rfl, hp_in (List.mem_append_right _ (List.mem_append_right _ (List.mem_append_left _ (List.mem_of_getElem? (i := 184) (by decide +kernel))))) rfl, tyX0_ok, nmX0, rfl⟩
set_option maxRecDepth 100000 in
theorem qf_RX0_15 : hp_Fq RX0 15 0 5 (.array .int) := ⟨_, _, _, tyX0, vcl_0, in_0, by decide, rfl, hp_in (List.mem_append_right _ (List.mem_append_right _ (List.mem_append_left _ (List.mem_of_getElem? (i := 188) (by decide +kernel))))) rfl, tyX0_ok, nmX0, rfl⟩
set_option maxRecDepth 100000 in
theorem qf_RX0_18 : hp_Fq RX0 18 0 6 (.array .int) := ⟨_, _, _, tyX0, vcl_0, in_0, by decide, rfl, hp_in (List.mem_append_right _ (List.mem_append_right _ (List.mem_append_left _ (List.mem_of_getElem? (i := 189) (by decide +kernel))))) rfl, tyX0_ok, nmX0, rfl⟩
set_option maxRecDepth 100000 in
theorem qf_RX0_21 : hp_Fq RX0 21 0 7 (.array .int) := ⟨_, _, _, tyX0, vcl_0, in_0, by decide, rfl, hp_in (List.mem_append_right _ (List.mem_append_right _ (List.mem_append_left _ (List.mem_of_getElem? (i := 190) (by decide +kernel))))) rfl, tyX0_ok, nmX0, rfl⟩
set_option maxRecDepth 100000 in
theorem qf_RX0_24 : hp_Fq RX0 24 0 8 (.array .int) := ⟨_, _, _, tyX0, vcl_0, in_0, by decide, rfl, hp_in (List.mem_append_right _ (List.mem_append_right _ (List.mem_append_left _ (List.mem_of_getElem? (i := 191) (by decide +kernel))))) rfl, tyX0_ok, nmX0, rfl⟩
set_option maxRecDepth 100000 in
theorem qf_RX0_27 : hp_Fq RX0 27 0 9 (.array .int) := ⟨_, _, _, tyX0, vcl_0, in_0, by decide, rfl, hp_in (List.mem_append_right _ (List.mem_append_right _ (List.mem_append_left _ (List.mem_of_getElem? (i := 192) (by decide +kernel))))) rfl, tyX0_ok, nmX0, rfl⟩
set_option maxRecDepth 100000 in
theorem qf_RX0_30 : hp_Fq RX0 30 0 10 (.array .int) := ⟨_, _, _, tyX0, vcl_0, in_0, by decide, rfl, hp_in (List.mem_append_right _ (List.mem_append_right _ (List.mem_append_left _ (List.mem_of_getElem? (i := 193) (by decide +kernel))))) rfl, tyX0_ok, nmX0, rfl⟩
set_option maxRecDepth 100000 in
theorem qf_RX0_33 : hp_Fq RX0 33 0 3 (.object "ProtocolBench$Graph") := ⟨_, _, _, tyX0, vcl_0, in_0, by decide, rfl, hp_in (List.mem_append_right _ (List.mem_append_right _ (List.mem_append_left _ (List.mem_of_getElem? (i := 186) (by decide +kernel))))) rfl, tyX0_ok, nmX0, rfl⟩
set_option maxRecDepth 100000 in
theorem qf_RX0_37 : hp_Fq RX0 37 0 4 (.object "ProtocolBench$Reckoner") := ⟨_, _, _, tyX0, vcl_0, in_0, by decide, rfl, hp_in (List.mem_append_right _ (List.mem_append_right _ (List.mem_append_left _ (List.mem_of_getElem? (i := 187) (by decide +kernel))))) rfl, tyX0_ok, nmX0, rfl⟩
set_option maxRecDepth 100000 in
theorem Fi_X0_init : hp_Fi yX0_init cX0_init 3 2 := ⟨hp_in (List.mem_append_right _ (List.mem_append_right _ (List.mem_append_left _ (List.mem_of_getElem? (i := 177) (by decide +kernel))))) rfl, hp_in (List.mem_append_right _ (List.mem_append_left _ (List.mem_of_getElem? (i := 12) (by decide +kernel)))) rfl, hp_in (List.mem_append_right _ (List.mem_append_right _ (List.mem_append_left _ (List.mem_of_getElem? (i := 178) rfl)))) rfl, ⟨by decide +kernel, by decide +kernel, by decide +kernel⟩, rfl⟩
set_option maxRecDepth 100000 in
theorem mi_RX11_50 : Cond.methodLink RX11 50 yX0_init ∈ hp_tbl := hp_in (List.mem_append_right _ (List.mem_append_right _ (List.mem_append_left _ (List.mem_of_getElem? (i := 176) (by decide +kernel))))) rfl
set_option maxRecDepth 100000 in
theorem qf_RX11_53 : hp_Fq RX11 53 11 5 (.object "ProtocolBench$Division") := ⟨_, _, _, tyX11, vcl_11, in_11, by decide, rfl, hp_in (List.mem_append_right _ (List.mem_append_right _ (List.mem_append_left _ (List.mem_of_getElem? (i := 225) (by decide +kernel))))) rfl, tyX11_ok, nmX11, rfl⟩
set_option maxRecDepth 100000 in
theorem mi_RX12_1 : Cond.methodLink RX12 1 Lib.objectInit ∈ hp_tbl := hp_in (List.mem_append_right _ (List.mem_append_right _ (List.mem_append_right _ (List.mem_append_right _ (List.mem_append_right _ (List.mem_append_left _ (List.mem_of_getElem? (i := 131) (by decide +kernel)))))))) rfl
set_option maxRecDepth 100000 in
theorem qf_RX12_7 : hp_Fq RX12 7 12 1 (.array .int) := ⟨_, _, _, tyX12, vcl_12, in_12, by decide, rfl, hp_in (List.mem_append_right _ (List.mem_append_right _ (List.mem_append_right _ (List.mem_append_right _ (List.mem_append_right _ (List.mem_append_left _ (List.mem_of_getElem? (i := 133) (by decide +kernel)))))))) rfl, tyX12_ok, nmX12, rfl⟩
set_option maxRecDepth 100000 in
theorem qf_RX12_13 : hp_Fq RX12 13 12 2 (.array .int) := ⟨_, _, _, tyX12, vcl_12, in_12, by decide, rfl, hp_in (List.mem_append_right _ (List.mem_append_right _ (List.mem_append_right _ (List.mem_append_right _ (List.mem_append_right _ (List.mem_append_left _ (List.mem_of_getElem? (i := 134) (by decide +kernel)))))))) rfl, tyX12_ok, nmX12, rfl⟩
set_option maxRecDepth 100000 in
theorem qf_RX12_16 : hp_Fq RX12 16 12 3 (.array .int) := ⟨_, _, _, tyX12, vcl_12, in_12, by decide, rfl, hp_in (List.mem_append_right _ (List.mem_append_right _ (List.mem_append_right _ (List.mem_append_right _ (List.mem_append_right _ (List.mem_append_left _ (List.mem_of_getElem? (i := 135) (by decide +kernel)))))))) rfl, tyX12_ok, nmX12, rfl⟩
set_option maxRecDepth 100000 in
theorem qf_RX12_19 : hp_Fq RX12 19 12 5 (.array .int) := ⟨_, _, _, tyX12, vcl_12, in_12, by decide, rfl, hp_in (List.mem_append_right _ (List.mem_append_right _ (List.mem_append_right _ (List.mem_append_right _ (List.mem_append_right _ (List.mem_append_left _ (List.mem_of_getElem? (i := 137) (by decide +kernel)))))))) rfl, tyX12_ok, nmX12, rfl⟩
set_option maxRecDepth 100000 in
theorem qf_RX12_22 : hp_Fq RX12 22 12 6 (.array .int) := ⟨_, _, _, tyX12, vcl_12, in_12, by decide, rfl, hp_in (List.mem_append_right _ (List.mem_append_right _ (List.mem_append_right _ (List.mem_append_right _ (List.mem_append_right _ (List.mem_append_left _ (List.mem_of_getElem? (i := 138) (by decide +kernel)))))))) rfl, tyX12_ok, nmX12, rfl⟩
set_option maxRecDepth 100000 in
theorem qf_RX12_25 : hp_Fq RX12 25 12 7 (.array .int) := ⟨_, _, _, tyX12, vcl_12, in_12, by decide, rfl, hp_in (List.mem_append_right _ (List.mem_append_right _ (List.mem_append_right _ (List.mem_append_right _ (List.mem_append_right _ (List.mem_append_left _ (List.mem_of_getElem? (i := 139) (by decide +kernel)))))))) rfl, tyX12_ok, nmX12, rfl⟩
set_option maxRecDepth 100000 in
theorem qf_RX12_28 : hp_Fq RX12 28 12 8 (.array .int) := ⟨_, _, _, tyX12, vcl_12, in_12, by decide, rfl, hp_in (List.mem_append_right _ (List.mem_append_right _ (List.mem_append_right _ (List.mem_append_right _ (List.mem_append_right _ (List.mem_append_left _ (List.mem_of_getElem? (i := 140) (by decide +kernel)))))))) rfl, tyX12_ok, nmX12, rfl⟩
set_option maxRecDepth 100000 in
theorem qf_RX12_31 : hp_Fq RX12 31 12 9 (.array .int) := ⟨_, _, _, tyX12, vcl_12, in_12, by decide, rfl, hp_in (List.mem_append_right _ (List.mem_append_right _ (List.mem_append_right _ (List.mem_append_right _ (List.mem_append_right _ (List.mem_append_left _ (List.mem_of_getElem? (i := 141) (by decide +kernel)))))))) rfl, tyX12_ok, nmX12, rfl⟩
set_option maxRecDepth 100000 in
theorem qf_RX12_34 : hp_Fq RX12 34 12 10 (.array .boolean) := ⟨_, _, _, tyX12, vcl_12, in_12, by decide, rfl, hp_in (List.mem_append_right _ (List.mem_append_right _ (List.mem_append_right _ (List.mem_append_right _ (List.mem_append_right _ (List.mem_append_left _ (List.mem_of_getElem? (i := 142) (by decide +kernel)))))))) rfl, tyX12_ok, nmX12, rfl⟩
set_option maxRecDepth 100000 in
theorem qf_RX12_38 : hp_Fq RX12 38 12 12 (.array .int) := ⟨_, _, _, tyX12, vcl_12, in_12, by decide, rfl, hp_in (List.mem_append_right _ (List.mem_append_right _ (List.mem_append_right _ (List.mem_append_right _ (List.mem_append_right _ (List.mem_append_left _ (List.mem_of_getElem? (i := 144) (by decide +kernel)))))))) rfl, tyX12_ok, nmX12, rfl⟩
set_option maxRecDepth 100000 in
theorem qf_RX12_41 : hp_Fq RX12 41 12 13 (.array .boolean) := ⟨_, _, _, tyX12, vcl_12, in_12, by decide, rfl, hp_in (List.mem_append_right _ (List.mem_append_right _ (List.mem_append_right _ (List.mem_append_right _ (List.mem_append_right _ (List.mem_append_left _ (List.mem_of_getElem? (i := 145) (by decide +kernel)))))))) rfl, tyX12_ok, nmX12, rfl⟩
set_option maxRecDepth 100000 in
theorem qf_RX12_44 : hp_Fq RX12 44 12 14 (.array .boolean) := ⟨_, _, _, tyX12, vcl_12, in_12, by decide, rfl, hp_in (List.mem_append_right _ (List.mem_append_right _ (List.mem_append_right _ (List.mem_append_right _ (List.mem_append_right _ (List.mem_append_left _ (List.mem_of_getElem? (i := 146) (by decide +kernel)))))))) rfl, tyX12_ok, nmX12, rfl⟩
set_option maxRecDepth 100000 in
theorem qf_RX12_47 : hp_Fq RX12 47 12 16 (.array .int) := ⟨_, _, _, tyX12, vcl_12, in_12, by decide, rfl, hp_in (List.mem_append_right _ (List.mem_append_right _ (List.mem_append_right _ (List.mem_append_right _ (List.mem_append_right _ (List.mem_append_left _ (List.mem_of_getElem? (i := 148) (by decide +kernel)))))))) rfl, tyX12_ok, nmX12, rfl⟩
set_option maxRecDepth 100000 in
theorem qf_RX12_50 : hp_Fq RX12 50 12 17 (.array .int) := ⟨_, _, _, tyX12, vcl_12, in_12, by decide, rfl, hp_in (List.mem_append_right _ (List.mem_append_right _ (List.mem_append_right _ (List.mem_append_right _ (List.mem_append_right _ (List.mem_append_left _ (List.mem_of_getElem? (i := 149) (by decide +kernel)))))))) rfl, tyX12_ok, nmX12, rfl⟩
set_option maxRecDepth 100000 in
theorem qf_RX12_53 : hp_Fq RX12 53 12 18 (.array .int) := ⟨_, _, _, tyX12, vcl_12, in_12, by decide, rfl, hp_in (List.mem_append_right _ (List.mem_append_right _ (List.mem_append_right _ (List.mem_append_right _ (List.mem_append_right _ (List.mem_append_left _ (List.mem_of_getElem? (i := 150) (by decide +kernel)))))))) rfl, tyX12_ok, nmX12, rfl⟩
set_option maxRecDepth 100000 in
theorem qf_RX12_56 : hp_Fq RX12 56 12 19 (.array .int) := ⟨_, _, _, tyX12, vcl_12, in_12, by decide, rfl, hp_in (List.mem_append_right _ (List.mem_append_right _ (List.mem_append_right _ (List.mem_append_right _ (List.mem_append_right _ (List.mem_append_left _ (List.mem_of_getElem? (i := 151) (by decide +kernel)))))))) rfl, tyX12_ok, nmX12, rfl⟩
set_option maxRecDepth 100000 in
theorem qf_RX12_59 : hp_Fq RX12 59 12 20 (.array .boolean) := ⟨_, _, _, tyX12, vcl_12, in_12, by decide, rfl, hp_in (List.mem_append_right _ (List.mem_append_right _ (List.mem_append_right _ (List.mem_append_right _ (List.mem_append_right _ (List.mem_append_left _ (List.mem_of_getElem? (i := 152) (by decide +kernel)))))))) rfl, tyX12_ok, nmX12, rfl⟩
set_option maxRecDepth 100000 in
theorem qf_RX12_62 : hp_Fq RX12 62 12 22 (.array .int) := ⟨_, _, _, tyX12, vcl_12, in_12, by decide, rfl, hp_in (List.mem_append_right _ (List.mem_append_right _ (List.mem_append_right _ (List.mem_append_right _ (List.mem_append_right _ (List.mem_append_left _ (List.mem_of_getElem? (i := 154) (by decide +kernel)))))))) rfl, tyX12_ok, nmX12, rfl⟩
set_option maxRecDepth 100000 in
theorem qf_RX12_65 : hp_Fq RX12 65 12 23 (.array .int) := ⟨_, _, _, tyX12, vcl_12, in_12, by decide, rfl, hp_in (List.mem_append_right _ (List.mem_append_right _ (List.mem_append_right _ (List.mem_append_right _ (List.mem_append_right _ (List.mem_append_left _ (List.mem_of_getElem? (i := 155) (by decide +kernel)))))))) rfl, tyX12_ok, nmX12, rfl⟩
set_option maxRecDepth 100000 in
theorem qf_RX12_68 : hp_Fq RX12 68 12 24 (.array .int) := ⟨_, _, _, tyX12, vcl_12, in_12, by decide, rfl, hp_in (List.mem_append_right _ (List.mem_append_right _ (List.mem_append_right _ (List.mem_append_right _ (List.mem_append_right _ (List.mem_append_left _ (List.mem_of_getElem? (i := 156) (by decide +kernel)))))))) rfl, tyX12_ok, nmX12, rfl⟩
set_option maxRecDepth 100000 in
theorem qf_RX12_71 : hp_Fq RX12 71 12 25 (.array .int) := ⟨_, _, _, tyX12, vcl_12, in_12, by decide, rfl, hp_in (List.mem_append_right _ (List.mem_append_right _ (List.mem_append_right _ (List.mem_append_right _ (List.mem_append_right _ (List.mem_append_left _ (List.mem_of_getElem? (i := 157) (by decide +kernel)))))))) rfl, tyX12_ok, nmX12, rfl⟩
set_option maxRecDepth 100000 in
theorem qf_RX12_74 : hp_Fq RX12 74 12 26 (.array .int) := ⟨_, _, _, tyX12, vcl_12, in_12, by decide, rfl, hp_in (List.mem_append_right _ (List.mem_append_right _ (List.mem_append_right _ (List.mem_append_right _ (List.mem_append_right _ (List.mem_append_left _ (List.mem_of_getElem? (i := 158) (by decide +kernel)))))))) rfl, tyX12_ok, nmX12, rfl⟩
set_option maxRecDepth 100000 in
theorem qf_RX12_77 : hp_Fq RX12 77 12 27 (.array .int) := ⟨_, _, _, tyX12, vcl_12, in_12, by decide, rfl, hp_in (List.mem_append_right _ (List.mem_append_right _ (List.mem_append_right _ (List.mem_append_right _ (List.mem_append_right _ (List.mem_append_left _ (List.mem_of_getElem? (i := 159) (by decide +kernel)))))))) rfl, tyX12_ok, nmX12, rfl⟩
set_option maxRecDepth 100000 in
theorem qf_RX12_80 : hp_Fq RX12 80 12 28 (.array .int) := ⟨_, _, _, tyX12, vcl_12, in_12, by decide, rfl, hp_in (List.mem_append_right _ (List.mem_append_right _ (List.mem_append_right _ (List.mem_append_right _ (List.mem_append_right _ (List.mem_append_left _ (List.mem_of_getElem? (i := 160) (by decide +kernel)))))))) rfl, tyX12_ok, nmX12, rfl⟩
set_option maxRecDepth 100000 in
theorem qf_RX12_83 : hp_Fq RX12 83 12 29 (.array .int) := ⟨_, _, _, tyX12, vcl_12, in_12, by decide, rfl, hp_in (List.mem_append_right _ (List.mem_append_right _ (List.mem_append_right _ (List.mem_append_right _ (List.mem_append_right _ (List.mem_append_left _ (List.mem_of_getElem? (i := 161) (by decide +kernel)))))))) rfl, tyX12_ok, nmX12, rfl⟩
set_option maxRecDepth 100000 in
theorem qf_RX12_86 : hp_Fq RX12 86 12 32 (.array .int) := ⟨_, _, _, tyX12, vcl_12, in_12, by decide, rfl, hp_in (List.mem_append_right _ (List.mem_append_right _ (List.mem_append_right _ (List.mem_append_right _ (List.mem_append_right _ (List.mem_append_left _ (List.mem_of_getElem? (i := 164) (by decide +kernel)))))))) rfl, tyX12_ok, nmX12, rfl⟩
set_option maxRecDepth 100000 in
theorem qf_RX12_89 : hp_Fq RX12 89 12 36 (.array .int) := ⟨_, _, _, tyX12, vcl_12, in_12, by decide, rfl, hp_in (List.mem_append_right _ (List.mem_append_right _ (List.mem_append_right _ (List.mem_append_right _ (List.mem_append_right _ (List.mem_append_left _ (List.mem_of_getElem? (i := 168) (by decide +kernel)))))))) rfl, tyX12_ok, nmX12, rfl⟩
set_option maxRecDepth 100000 in
theorem qf_RX12_92 : hp_Fq RX12 92 12 37 (.array .int) := ⟨_, _, _, tyX12, vcl_12, in_12, by decide, rfl, hp_in (List.mem_append_right _ (List.mem_append_right _ (List.mem_append_right _ (List.mem_append_right _ (List.mem_append_right _ (List.mem_append_left _ (List.mem_of_getElem? (i := 169) (by decide +kernel)))))))) rfl, tyX12_ok, nmX12, rfl⟩
set_option maxRecDepth 100000 in
theorem qf_RX12_95 : hp_Fq RX12 95 12 38 (.array .int) := ⟨_, _, _, tyX12, vcl_12, in_12, by decide, rfl, hp_in (List.mem_append_right _ (List.mem_append_right _ (List.mem_append_right _ (List.mem_append_right _ (List.mem_append_right _ (List.mem_append_left _ (List.mem_of_getElem? (i := 170) (by decide +kernel)))))))) rfl, tyX12_ok, nmX12, rfl⟩
set_option maxRecDepth 100000 in
theorem qf_RX12_98 : hp_Fq RX12 98 12 39 (.array .int) := ⟨_, _, _, tyX12, vcl_12, in_12, by decide, rfl, hp_in (List.mem_append_right _ (List.mem_append_right _ (List.mem_append_right _ (List.mem_append_right _ (List.mem_append_right _ (List.mem_append_left _ (List.mem_of_getElem? (i := 171) (by decide +kernel)))))))) rfl, tyX12_ok, nmX12, rfl⟩
set_option maxRecDepth 100000 in
theorem qf_RX12_101 : hp_Fq RX12 101 12 41 (.array .int) := ⟨_, _, _, tyX12, vcl_12, in_12, by decide, rfl, hp_in (List.mem_append_right _ (List.mem_append_right _ (List.mem_append_right _ (List.mem_append_right _ (List.mem_append_right _ (List.mem_append_left _ (List.mem_of_getElem? (i := 173) (by decide +kernel)))))))) rfl, tyX12_ok, nmX12, rfl⟩
set_option maxRecDepth 100000 in
theorem qf_RX12_104 : hp_Fq RX12 104 12 42 (.array .int) := ⟨_, _, _, tyX12, vcl_12, in_12, by decide, rfl, hp_in (List.mem_append_right _ (List.mem_append_right _ (List.mem_append_right _ (List.mem_append_right _ (List.mem_append_right _ (List.mem_append_left _ (List.mem_of_getElem? (i := 174) (by decide +kernel)))))))) rfl, tyX12_ok, nmX12, rfl⟩
set_option maxRecDepth 100000 in
theorem qf_RX12_107 : hp_Fq RX12 107 12 43 (.array .int) := ⟨_, _, _, tyX12, vcl_12, in_12, by decide, rfl, hp_in (List.mem_append_right _ (List.mem_append_right _ (List.mem_append_right _ (List.mem_append_right _ (List.mem_append_right _ (List.mem_append_left _ (List.mem_of_getElem? (i := 175) (by decide +kernel)))))))) rfl, tyX12_ok, nmX12, rfl⟩
set_option maxRecDepth 100000 in
theorem qf_RX12_110 : hp_Fq RX12 110 12 44 (.array .int) := ⟨_, _, _, tyX12, vcl_12, in_12, by decide, rfl, hp_in (List.mem_append_right _ (List.mem_append_right _ (List.mem_append_right _ (List.mem_append_right _ (List.mem_append_right _ (List.mem_append_left _ (List.mem_of_getElem? (i := 176) (by decide +kernel)))))))) rfl, tyX12_ok, nmX12, rfl⟩
set_option maxRecDepth 100000 in
theorem qf_RX12_113 : hp_Fq RX12 113 12 45 (.array .int) := ⟨_, _, _, tyX12, vcl_12, in_12, by decide, rfl, hp_in (List.mem_append_right _ (List.mem_append_right _ (List.mem_append_right _ (List.mem_append_right _ (List.mem_append_right _ (List.mem_append_left _ (List.mem_of_getElem? (i := 177) (by decide +kernel)))))))) rfl, tyX12_ok, nmX12, rfl⟩
set_option maxRecDepth 100000 in
theorem qf_RX12_116 : hp_Fq RX12 116 12 51 (.array .int) := ⟨_, _, _, tyX12, vcl_12, in_12, by decide, rfl, hp_in (List.mem_append_right _ (List.mem_append_right _ (List.mem_append_right _ (List.mem_append_right _ (List.mem_append_right _ (List.mem_append_left _ (List.mem_of_getElem? (i := 183) (by decide +kernel)))))))) rfl, tyX12_ok, nmX12, rfl⟩
set_option maxRecDepth 100000 in
theorem qf_RX12_119 : hp_Fq RX12 119 12 52 (.array .int) := ⟨_, _, _, tyX12, vcl_12, in_12, by decide, rfl, hp_in (List.mem_append_right _ (List.mem_append_right _ (List.mem_append_right _ (List.mem_append_right _ (List.mem_append_right _ (List.mem_append_left _ (List.mem_of_getElem? (i := 184) (by decide +kernel)))))))) rfl, tyX12_ok, nmX12, rfl⟩
set_option maxRecDepth 100000 in
theorem qf_RX12_122 : hp_Fq RX12 122 12 53 (.array .int) := ⟨_, _, _, tyX12, vcl_12, in_12, by decide, rfl, hp_in (List.mem_append_right _ (List.mem_append_right _ (List.mem_append_right _ (List.mem_append_right _ (List.mem_append_right _ (List.mem_append_left _ (List.mem_of_getElem? (i := 185) (by decide +kernel)))))))) rfl, tyX12_ok, nmX12, rfl⟩
set_option maxRecDepth 100000 in
theorem qf_RX12_125 : hp_Fq RX12 125 12 54 (.array .boolean) := ⟨_, _, _, tyX12, vcl_12, in_12, by decide, rfl, hp_in (List.mem_append_right _ (List.mem_append_right _ (List.mem_append_right _ (List.mem_append_right _ (List.mem_append_right _ (List.mem_append_left _ (List.mem_of_getElem? (i := 186) (by decide +kernel)))))))) rfl, tyX12_ok, nmX12, rfl⟩
set_option maxRecDepth 100000 in
theorem qf_RX12_128 : hp_Fq RX12 128 12 55 (.array .boolean) := ⟨_, _, _, tyX12, vcl_12, in_12, by decide, rfl, hp_in (List.mem_append_right _ (List.mem_append_right _ (List.mem_append_right _ (List.mem_append_right _ (List.mem_append_right _ (List.mem_append_left _ (List.mem_of_getElem? (i := 187) (by decide +kernel)))))))) rfl, tyX12_ok, nmX12, rfl⟩
set_option maxRecDepth 100000 in
theorem qf_RX12_131 : hp_Fq RX12 131 12 56 (.array .boolean) := ⟨_, _, _, tyX12, vcl_12, in_12, by decide, rfl, hp_in (List.mem_append_right _ (List.mem_append_right _ (List.mem_append_right _ (List.mem_append_right _ (List.mem_append_right _ (List.mem_append_left _ (List.mem_of_getElem? (i := 188) (by decide +kernel)))))))) rfl, tyX12_ok, nmX12, rfl⟩
set_option maxRecDepth 100000 in
theorem qf_RX12_134 : hp_Fq RX12 134 12 57 (.array .boolean) := ⟨_, _, _, tyX12, vcl_12, in_12, by decide, rfl, hp_in (List.mem_append_right _ (List.mem_append_right _ (List.mem_append_right _ (List.mem_append_right _ (List.mem_append_right _ (List.mem_append_left _ (List.mem_of_getElem? (i := 189) (by decide +kernel)))))))) rfl, tyX12_ok, nmX12, rfl⟩
set_option maxRecDepth 100000 in
theorem qf_RX12_137 : hp_Fq RX12 137 12 58 (.array .boolean) := ⟨_, _, _, tyX12, vcl_12, in_12, by decide, rfl, hp_in (List.mem_append_right _ (List.mem_append_right _ (List.mem_append_right _ (List.mem_append_right _ (List.mem_append_right _ (List.mem_append_left _ (List.mem_of_getElem? (i := 190) (by decide +kernel)))))))) rfl, tyX12_ok, nmX12, rfl⟩
set_option maxRecDepth 100000 in
theorem qf_RX12_140 : hp_Fq RX12 140 12 59 (.array .boolean) := ⟨_, _, _, tyX12, vcl_12, in_12, by decide, rfl, hp_in (List.mem_append_right _ (List.mem_append_right _ (List.mem_append_right _ (List.mem_append_right _ (List.mem_append_right _ (List.mem_append_left _ (List.mem_of_getElem? (i := 191) (by decide +kernel)))))))) rfl, tyX12_ok, nmX12, rfl⟩
set_option maxRecDepth 100000 in
theorem qf_RX12_143 : hp_Fq RX12 143 12 60 (.array .int) := ⟨_, _, _, tyX12, vcl_12, in_12, by decide, rfl, hp_in (List.mem_append_right _ (List.mem_append_right _ (List.mem_append_right _ (List.mem_append_right _ (List.mem_append_right _ (List.mem_append_left _ (List.mem_of_getElem? (i := 192) (by decide +kernel)))))))) rfl, tyX12_ok, nmX12, rfl⟩
set_option maxRecDepth 100000 in
theorem qf_RX12_146 : hp_Fq RX12 146 12 61 (.array .int) := ⟨_, _, _, tyX12, vcl_12, in_12, by decide, rfl, hp_in (List.mem_append_right _ (List.mem_append_right _ (List.mem_append_right _ (List.mem_append_right _ (List.mem_append_right _ (List.mem_append_left _ (List.mem_of_getElem? (i := 193) (by decide +kernel)))))))) rfl, tyX12_ok, nmX12, rfl⟩
set_option maxRecDepth 100000 in
theorem af_long : Cond.arrayClass .long ∈ hp_tbl := hp_in (List.mem_append_right _ (List.mem_append_right _ (List.mem_append_right _ (List.mem_append_right _ (List.mem_append_right _ (List.mem_append_right _ (List.mem_append_left _ (List.mem_of_getElem? (i := 85) (by decide +kernel))))))))) rfl
set_option maxRecDepth 100000 in
theorem qf_RX12_149 : hp_Fq RX12 149 12 62 (.array .long) := ⟨_, _, _, tyX12, vcl_12, in_12, by decide, rfl, hp_in (List.mem_append_right _ (List.mem_append_right _ (List.mem_append_right _ (List.mem_append_right _ (List.mem_append_right _ (List.mem_append_left _ (List.mem_of_getElem? (i := 194) (by decide +kernel)))))))) rfl, tyX12_ok, nmX12, rfl⟩
set_option maxRecDepth 100000 in
theorem qf_RX12_153 : hp_Fq RX12 153 12 63 (.array .int) := ⟨_, _, _, tyX12, vcl_12, in_12, by decide, rfl, hp_in (List.mem_append_right _ (List.mem_append_right _ (List.mem_append_right _ (List.mem_append_right _ (List.mem_append_right _ (List.mem_append_left _ (List.mem_of_getElem? (i := 195) (by decide +kernel)))))))) rfl, tyX12_ok, nmX12, rfl⟩

set_option maxRecDepth 100000 in
theorem kk_X9_init : rt_Kc yX9_init (.code yX9_init cX9_init 1 (Option.none : Option FieldType)) cX9_init 1 (Option.none : Option FieldType) [] := ⟨(tc_1 _ (List.mem_of_getElem? (i := 30) rfl)), rfl, Or.inl ⟨rfl, rfl⟩, by decide +kernel, (tc_1 _ (List.mem_of_getElem? (i := 1) (by decide +kernel))), by decide +kernel, by decide +kernel⟩
set_option maxRecDepth 100000 in
theorem kk_X0_init : rt_Kc yX0_init (.code yX0_init cX0_init 2 (Option.none : Option FieldType)) cX0_init 2 (Option.none : Option FieldType) [] := ⟨(tc_1 _ (List.mem_of_getElem? (i := 38) rfl)), rfl, Or.inl ⟨rfl, rfl⟩, by decide +kernel, (tc_1 _ (List.mem_of_getElem? (i := 2) (by decide +kernel))), by decide +kernel, by decide +kernel⟩
set_option maxRecDepth 100000 in
theorem kk_X8_init : rt_Kc yX8_init (.code yX8_init cX8_init 1 (Option.none : Option FieldType)) cX8_init 1 (Option.none : Option FieldType) [] := ⟨(tc_1 _ (List.mem_of_getElem? (i := 54) rfl)), rfl, Or.inl ⟨rfl, rfl⟩, by decide +kernel, (tc_1 _ (List.mem_of_getElem? (i := 3) (by decide +kernel))), by decide +kernel, by decide +kernel⟩
set_option maxRecDepth 100000 in
theorem kk_X1_init : rt_Kc yX1_init (.code yX1_init cX1_init 1 (Option.none : Option FieldType)) cX1_init 1 (Option.none : Option FieldType) [] := ⟨(tc_1 _ (List.mem_of_getElem? (i := 103) rfl)), rfl, Or.inl ⟨rfl, rfl⟩, by decide +kernel, (tc_1 _ (List.mem_of_getElem? (i := 4) (by decide +kernel))), by decide +kernel, by decide +kernel⟩
set_option maxRecDepth 100000 in
theorem kk_X2_init : rt_Kc yX2_init (.code yX2_init cX2_init 1 (Option.none : Option FieldType)) cX2_init 1 (Option.none : Option FieldType) [] := ⟨(tc_1 _ (List.mem_of_getElem? (i := 109) rfl)), rfl, Or.inl ⟨rfl, rfl⟩, by decide +kernel, (tc_1 _ (List.mem_of_getElem? (i := 5) (by decide +kernel))), by decide +kernel, by decide +kernel⟩
set_option maxRecDepth 100000 in
theorem kk_X6_init : rt_Kc yX6_init (.code yX6_init cX6_init 1 (Option.none : Option FieldType)) cX6_init 1 (Option.none : Option FieldType) [] := ⟨(tc_1 _ (List.mem_of_getElem? (i := 127) rfl)), rfl, Or.inl ⟨rfl, rfl⟩, by decide +kernel, (tc_1 _ (List.mem_of_getElem? (i := 6) (by decide +kernel))), by decide +kernel, by decide +kernel⟩
set_option maxRecDepth 100000 in
theorem kk_X4_init : rt_Kc yX4_init (.code yX4_init cX4_init 1 (Option.none : Option FieldType)) cX4_init 1 (Option.none : Option FieldType) [] := ⟨(tc_1 _ (List.mem_of_getElem? (i := 200) rfl)), rfl, Or.inl ⟨rfl, rfl⟩, by decide +kernel, (tc_1 _ (List.mem_of_getElem? (i := 7) (by decide +kernel))), by decide +kernel, by decide +kernel⟩
set_option maxRecDepth 100000 in
theorem kk_X7_init : rt_Kc yX7_init (.code yX7_init cX7_init 1 (Option.none : Option FieldType)) cX7_init 1 (Option.none : Option FieldType) [] := ⟨(tc_1 _ (List.mem_of_getElem? (i := 231) rfl)), rfl, Or.inl ⟨rfl, rfl⟩, by decide +kernel, (tc_1 _ (List.mem_of_getElem? (i := 8) (by decide +kernel))), by decide +kernel, by decide +kernel⟩
set_option maxRecDepth 100000 in
theorem kk_X3_init : rt_Kc yX3_init (.code yX3_init cX3_init 1 (Option.none : Option FieldType)) cX3_init 1 (Option.none : Option FieldType) [] := ⟨(tc_2 _ (List.mem_of_getElem? (i := 36) rfl)), rfl, Or.inl ⟨rfl, rfl⟩, by decide +kernel, (tc_1 _ (List.mem_of_getElem? (i := 9) (by decide +kernel))), by decide +kernel, by decide +kernel⟩
set_option maxRecDepth 100000 in
theorem kk_X5_init : rt_Kc yX5_init (.code yX5_init cX5_init 1 (Option.none : Option FieldType)) cX5_init 1 (Option.none : Option FieldType) [] := ⟨(tc_2 _ (List.mem_of_getElem? (i := 60) rfl)), rfl, Or.inl ⟨rfl, rfl⟩, by decide +kernel, (tc_1 _ (List.mem_of_getElem? (i := 10) (by decide +kernel))), by decide +kernel, by decide +kernel⟩
set_option maxRecDepth 100000 in
theorem kk_X9_place : rt_Kc yX9_place (.code yX9_place cX9_place 1 (Option.some FieldType.int)) cX9_place 1 (Option.some FieldType.int) [] := ⟨(tc_2 _ (List.mem_of_getElem? (i := 111) rfl)), rfl, Or.inl ⟨rfl, rfl⟩, by decide +kernel, (tc_1 _ (List.mem_of_getElem? (i := 1) (by decide +kernel))), by decide +kernel, by decide +kernel⟩
set_option maxRecDepth 100000 in
theorem kk_X9_rows : rt_Kc yX9_rows (.code yX9_rows cX9_rows 1 (Option.some FieldType.int)) cX9_rows 1 (Option.some FieldType.int) [] := ⟨(tc_2 _ (List.mem_of_getElem? (i := 115) rfl)), rfl, Or.inl ⟨rfl, rfl⟩, by decide +kernel, (tc_1 _ (List.mem_of_getElem? (i := 1) (by decide +kernel))), by decide +kernel, by decide +kernel⟩
set_option maxRecDepth 100000 in
theorem kk_X5_count : rt_Kc yX5_count (.code yX5_count cX5_count 1 (Option.some FieldType.int)) cX5_count 1 (Option.some FieldType.int) [] := ⟨(tc_2 _ (List.mem_of_getElem? (i := 119) rfl)), rfl, Or.inl ⟨rfl, rfl⟩, by decide +kernel, (tc_1 _ (List.mem_of_getElem? (i := 10) (by decide +kernel))), by decide +kernel, by decide +kernel⟩
set_option maxRecDepth 100000 in
theorem kk_X0_count : rt_Kc yX0_count (.code yX0_count cX0_count 1 (Option.some FieldType.int)) cX0_count 1 (Option.some FieldType.int) [] := ⟨(tc_2 _ (List.mem_of_getElem? (i := 123) rfl)), rfl, Or.inl ⟨rfl, rfl⟩, by decide +kernel, (tc_1 _ (List.mem_of_getElem? (i := 2) (by decide +kernel))), by decide +kernel, by decide +kernel⟩
set_option maxRecDepth 100000 in
theorem kk_L_feed : rt_Kc yL_feed (.codeWith yL_feed cL_feed 8 (Option.some FieldType.int) [(0, 16, 19, 13)]) cL_feed 8 (Option.some FieldType.int) (tableOf [(0, 16, 19, 13)]) := ⟨(tc_2 _ (List.mem_of_getElem? (i := 126) rfl)), rfl, Or.inr ⟨_, rfl, rfl⟩, by decide +kernel, (tc_1 _ (List.mem_of_getElem? (i := 0) (by decide +kernel))), by decide +kernel, by decide +kernel⟩
set_option maxRecDepth 100000 in
theorem kk_X9_feed : rt_Kc yX9_feed (.code yX9_feed cX9_feed 6 (Option.some FieldType.int)) cX9_feed 6 (Option.some FieldType.int) [] := ⟨(tc_2 _ (List.mem_of_getElem? (i := 131) rfl)), rfl, Or.inl ⟨rfl, rfl⟩, by decide +kernel, (tc_1 _ (List.mem_of_getElem? (i := 1) (by decide +kernel))), by decide +kernel, by decide +kernel⟩
set_option maxRecDepth 100000 in
theorem kk_X9_feedOne : rt_Kc yX9_feedOne (.code yX9_feedOne cX9_feedOne 3 (Option.none : Option FieldType)) cX9_feedOne 3 (Option.none : Option FieldType) [] := ⟨(tc_2 _ (List.mem_of_getElem? (i := 200) rfl)), rfl, Or.inl ⟨rfl, rfl⟩, by decide +kernel, (tc_1 _ (List.mem_of_getElem? (i := 1) (by decide +kernel))), by decide +kernel, by decide +kernel⟩
set_option maxRecDepth 100000 in
theorem kk_X0_add : rt_Kc yX0_add (.code yX0_add cX0_add 2 (Option.some FieldType.boolean)) cX0_add 2 (Option.some FieldType.boolean) [] := ⟨(tc_2 _ (List.mem_of_getElem? (i := 204) rfl)), rfl, Or.inl ⟨rfl, rfl⟩, by decide +kernel, (tc_1 _ (List.mem_of_getElem? (i := 2) (by decide +kernel))), by decide +kernel, by decide +kernel⟩
set_option maxRecDepth 100000 in
theorem kk_L_end : rt_Kc yL_end (.codeWith yL_end cL_end 3 (Option.some FieldType.int) [(0, 5, 8, 19)]) cL_end 3 (Option.some FieldType.int) (tableOf [(0, 5, 8, 19)]) := ⟨(tc_2 _ (List.mem_of_getElem? (i := 207) rfl)), rfl, Or.inr ⟨_, rfl, rfl⟩, by decide +kernel, (tc_1 _ (List.mem_of_getElem? (i := 0) (by decide +kernel))), by decide +kernel, by decide +kernel⟩
set_option maxRecDepth 100000 in
theorem kk_X9_end : rt_Kc yX9_end (.code yX9_end cX9_end 2 (Option.none : Option FieldType)) cX9_end 2 (Option.none : Option FieldType) [] := ⟨(tc_2 _ (List.mem_of_getElem? (i := 212) rfl)), rfl, Or.inl ⟨rfl, rfl⟩, by decide +kernel, (tc_1 _ (List.mem_of_getElem? (i := 1) (by decide +kernel))), by decide +kernel, by decide +kernel⟩
set_option maxRecDepth 100000 in
theorem kk_X0_cut : rt_Kc yX0_cut (.code yX0_cut cX0_cut 2 (Option.none : Option FieldType)) cX0_cut 2 (Option.none : Option FieldType) [] := ⟨(tc_2 _ (List.mem_of_getElem? (i := 231) rfl)), rfl, Or.inl ⟨rfl, rfl⟩, by decide +kernel, (tc_1 _ (List.mem_of_getElem? (i := 2) (by decide +kernel))), by decide +kernel, by decide +kernel⟩
set_option maxRecDepth 100000 in
theorem kk_L_schema : rt_Kc yL_schema (.codeWith yL_schema cL_schema 4 (Option.some FieldType.int) [(0, 9, 12, 25)]) cL_schema 4 (Option.some FieldType.int) (tableOf [(0, 9, 12, 25)]) := ⟨(tc_2 _ (List.mem_of_getElem? (i := 234) rfl)), rfl, Or.inr ⟨_, rfl, rfl⟩, by decide +kernel, (tc_1 _ (List.mem_of_getElem? (i := 0) (by decide +kernel))), by decide +kernel, by decide +kernel⟩
set_option maxRecDepth 100000 in
theorem kk_X9_schema : rt_Kc yX9_schema (.code yX9_schema cX9_schema 3 (Option.some FieldType.int)) cX9_schema 3 (Option.some FieldType.int) [] := ⟨(tc_2 _ (List.mem_of_getElem? (i := 239) rfl)), rfl, Or.inl ⟨rfl, rfl⟩, by decide +kernel, (tc_1 _ (List.mem_of_getElem? (i := 1) (by decide +kernel))), by decide +kernel, by decide +kernel⟩
set_option maxRecDepth 100000 in
theorem kk_X8_parse : rt_Kc yX8_parse (.code yX8_parse cX8_parse 2 (Option.some FieldType.int)) cX8_parse 2 (Option.some FieldType.int) [] := ⟨(tc_3 _ (List.mem_of_getElem? (i := 18) rfl)), rfl, Or.inl ⟨rfl, rfl⟩, by decide +kernel, (tc_1 _ (List.mem_of_getElem? (i := 3) (by decide +kernel))), by decide +kernel, by decide +kernel⟩
set_option maxRecDepth 100000 in
theorem kk_X8_skipBlanks : rt_Kc yX8_skipBlanks (.code yX8_skipBlanks cX8_skipBlanks 3 (Option.none : Option FieldType)) cX8_skipBlanks 3 (Option.none : Option FieldType) [] := ⟨(tc_3 _ (List.mem_of_getElem? (i := 23) rfl)), rfl, Or.inl ⟨rfl, rfl⟩, by decide +kernel, (tc_1 _ (List.mem_of_getElem? (i := 3) (by decide +kernel))), by decide +kernel, by decide +kernel⟩
set_option maxRecDepth 100000 in
theorem kk_X0_peek : rt_Kc yX0_peek (.code yX0_peek cX0_peek 2 (Option.some FieldType.int)) cX0_peek 2 (Option.some FieldType.int) [] := ⟨(tc_3 _ (List.mem_of_getElem? (i := 27) rfl)), rfl, Or.inl ⟨rfl, rfl⟩, by decide +kernel, (tc_1 _ (List.mem_of_getElem? (i := 2) (by decide +kernel))), by decide +kernel, by decide +kernel⟩
set_option maxRecDepth 100000 in
theorem kk_X8_parseValue : rt_Kc yX8_parseValue (.code yX8_parseValue cX8_parseValue 4 (Option.some FieldType.int)) cX8_parseValue 4 (Option.some FieldType.int) [] := ⟨(tc_3 _ (List.mem_of_getElem? (i := 31) rfl)), rfl, Or.inl ⟨rfl, rfl⟩, by decide +kernel, (tc_1 _ (List.mem_of_getElem? (i := 3) (by decide +kernel))), by decide +kernel, by decide +kernel⟩
set_option maxRecDepth 100000 in
theorem kk_X0_put : rt_Kc yX0_put (.code yX0_put cX0_put 3 (Option.none : Option FieldType)) cX0_put 3 (Option.none : Option FieldType) [] := ⟨(tc_3 _ (List.mem_of_getElem? (i := 35) rfl)), rfl, Or.inl ⟨rfl, rfl⟩, by decide +kernel, (tc_1 _ (List.mem_of_getElem? (i := 2) (by decide +kernel))), by decide +kernel, by decide +kernel⟩
set_option maxRecDepth 100000 in
theorem kk_X8_parseParts : rt_Kc yX8_parseParts (.code yX8_parseParts cX8_parseParts 7 (Option.none : Option FieldType)) cX8_parseParts 7 (Option.none : Option FieldType) [] := ⟨(tc_3 _ (List.mem_of_getElem? (i := 39) rfl)), rfl, Or.inl ⟨rfl, rfl⟩, by decide +kernel, (tc_1 _ (List.mem_of_getElem? (i := 3) (by decide +kernel))), by decide +kernel, by decide +kernel⟩
set_option maxRecDepth 100000 in
theorem kk_X8_fail : rt_Kc yX8_fail (.code yX8_fail cX8_fail 2 (Option.none : Option FieldType)) cX8_fail 2 (Option.none : Option FieldType) [] := ⟨(tc_3 _ (List.mem_of_getElem? (i := 43) rfl)), rfl, Or.inl ⟨rfl, rfl⟩, by decide +kernel, (tc_1 _ (List.mem_of_getElem? (i := 3) (by decide +kernel))), by decide +kernel, by decide +kernel⟩
set_option maxRecDepth 100000 in
theorem kk_X0_at : rt_Kc yX0_at (.code yX0_at cX0_at 2 (Option.some FieldType.int)) cX0_at 2 (Option.some FieldType.int) [] := ⟨(tc_3 _ (List.mem_of_getElem? (i := 47) rfl)), rfl, Or.inl ⟨rfl, rfl⟩, by decide +kernel, (tc_1 _ (List.mem_of_getElem? (i := 2) (by decide +kernel))), by decide +kernel, by decide +kernel⟩
set_option maxRecDepth 100000 in
theorem kk_X8_parseKey : rt_Kc yX8_parseKey (.code yX8_parseKey cX8_parseKey 4 (Option.none : Option FieldType)) cX8_parseKey 4 (Option.none : Option FieldType) [] := ⟨(tc_3 _ (List.mem_of_getElem? (i := 51) rfl)), rfl, Or.inl ⟨rfl, rfl⟩, by decide +kernel, (tc_1 _ (List.mem_of_getElem? (i := 3) (by decide +kernel))), by decide +kernel, by decide +kernel⟩
set_option maxRecDepth 100000 in
theorem kk_X8_parseString : rt_Kc yX8_parseString (.code yX8_parseString cX8_parseString 4 (Option.some FieldType.int)) cX8_parseString 4 (Option.some FieldType.int) [] := ⟨(tc_3 _ (List.mem_of_getElem? (i := 55) rfl)), rfl, Or.inl ⟨rfl, rfl⟩, by decide +kernel, (tc_1 _ (List.mem_of_getElem? (i := 3) (by decide +kernel))), by decide +kernel, by decide +kernel⟩
set_option maxRecDepth 100000 in
theorem kk_X8_parseFourDigits : rt_Kc yX8_parseFourDigits (.code yX8_parseFourDigits cX8_parseFourDigits 5 (Option.none : Option FieldType)) cX8_parseFourDigits 5 (Option.none : Option FieldType) [] := ⟨(tc_3 _ (List.mem_of_getElem? (i := 61) rfl)), rfl, Or.inl ⟨rfl, rfl⟩, by decide +kernel, (tc_1 _ (List.mem_of_getElem? (i := 3) (by decide +kernel))), by decide +kernel, by decide +kernel⟩
set_option maxRecDepth 100000 in
theorem kk_X8_hexDigit : rt_Kc yX8_hexDigit (.code yX8_hexDigit cX8_hexDigit 1 (Option.some FieldType.int)) cX8_hexDigit 1 (Option.some FieldType.int) [] := ⟨(tc_3 _ (List.mem_of_getElem? (i := 64) rfl)), rfl, Or.inl ⟨rfl, rfl⟩, by decide +kernel, (tc_1 _ (List.mem_of_getElem? (i := 3) (by decide +kernel))), by decide +kernel, by decide +kernel⟩
set_option maxRecDepth 100000 in
theorem kk_X8_parseEscape : rt_Kc yX8_parseEscape (.code yX8_parseEscape cX8_parseEscape 2 (Option.none : Option FieldType)) cX8_parseEscape 2 (Option.none : Option FieldType) [] := ⟨(tc_3 _ (List.mem_of_getElem? (i := 68) rfl)), rfl, Or.inl ⟨rfl, rfl⟩, by decide +kernel, (tc_1 _ (List.mem_of_getElem? (i := 3) (by decide +kernel))), by decide +kernel, by decide +kernel⟩
set_option maxRecDepth 100000 in
theorem kk_X8_escaped : rt_Kc yX8_escaped (.code yX8_escaped cX8_escaped 1 (Option.some FieldType.int)) cX8_escaped 1 (Option.some FieldType.int) [] := ⟨(tc_3 _ (List.mem_of_getElem? (i := 71) rfl)), rfl, Or.inl ⟨rfl, rfl⟩, by decide +kernel, (tc_1 _ (List.mem_of_getElem? (i := 3) (by decide +kernel))), by decide +kernel, by decide +kernel⟩
set_option maxRecDepth 100000 in
theorem kk_X8_memberNamed : rt_Kc yX8_memberNamed (.code yX8_memberNamed cX8_memberNamed 6 (Option.some FieldType.int)) cX8_memberNamed 6 (Option.some FieldType.int) [] := ⟨(tc_3 _ (List.mem_of_getElem? (i := 75) rfl)), rfl, Or.inl ⟨rfl, rfl⟩, by decide +kernel, (tc_1 _ (List.mem_of_getElem? (i := 3) (by decide +kernel))), by decide +kernel, by decide +kernel⟩
set_option maxRecDepth 100000 in
theorem kk_X0_isWord : rt_Kc yX0_isWord (.code yX0_isWord cX0_isWord 6 (Option.some FieldType.boolean)) cX0_isWord 6 (Option.some FieldType.boolean) [] := ⟨(tc_3 _ (List.mem_of_getElem? (i := 79) rfl)), rfl, Or.inl ⟨rfl, rfl⟩, by decide +kernel, (tc_1 _ (List.mem_of_getElem? (i := 2) (by decide +kernel))), by decide +kernel, by decide +kernel⟩
set_option maxRecDepth 100000 in
theorem kk_X8_link : rt_Kc yX8_link (.code yX8_link cX8_link 4 (Option.some FieldType.int)) cX8_link 4 (Option.some FieldType.int) [] := ⟨(tc_3 _ (List.mem_of_getElem? (i := 83) rfl)), rfl, Or.inl ⟨rfl, rfl⟩, by decide +kernel, (tc_1 _ (List.mem_of_getElem? (i := 3) (by decide +kernel))), by decide +kernel, by decide +kernel⟩
set_option maxRecDepth 100000 in
theorem kk_X8_parseWord : rt_Kc yX8_parseWord (.code yX8_parseWord cX8_parseWord 5 (Option.none : Option FieldType)) cX8_parseWord 5 (Option.none : Option FieldType) [] := ⟨(tc_3 _ (List.mem_of_getElem? (i := 88) rfl)), rfl, Or.inl ⟨rfl, rfl⟩, by decide +kernel, (tc_1 _ (List.mem_of_getElem? (i := 3) (by decide +kernel))), by decide +kernel, by decide +kernel⟩
set_option maxRecDepth 100000 in
theorem kk_J0_length_8abf5 : rt_Kc yJ0_length_8abf5 (.code yJ0_length_8abf5 cJ0_length_8abf5 1 (Option.some FieldType.int)) cJ0_length_8abf5 1 (Option.some FieldType.int) [] := ⟨(tc_3 _ (List.mem_of_getElem? (i := 92) rfl)), rfl, Or.inl ⟨rfl, rfl⟩, by decide +kernel, (tc_1 _ (List.mem_of_getElem? (i := 19) (by decide +kernel))), by decide +kernel, by decide +kernel⟩
set_option maxRecDepth 100000 in
theorem kk_J0_coder_7d493 : rt_Kc yJ0_coder_7d493 (.code yJ0_coder_7d493 cJ0_coder_7d493 1 (Option.some FieldType.byte)) cJ0_coder_7d493 1 (Option.some FieldType.byte) [] := ⟨(tc_3 _ (List.mem_of_getElem? (i := 96) rfl)), rfl, Or.inl ⟨rfl, rfl⟩, by decide +kernel, (tc_1 _ (List.mem_of_getElem? (i := 19) (by decide +kernel))), by decide +kernel, by decide +kernel⟩
set_option maxRecDepth 100000 in
theorem kk_J0_charAt_5068e : rt_Kc yJ0_charAt_5068e (.code yJ0_charAt_5068e cJ0_charAt_5068e 2 (Option.some FieldType.char)) cJ0_charAt_5068e 2 (Option.some FieldType.char) [] := ⟨(tc_3 _ (List.mem_of_getElem? (i := 102) rfl)), rfl, Or.inl ⟨rfl, rfl⟩, by decide +kernel, (tc_1 _ (List.mem_of_getElem? (i := 19) (by decide +kernel))), by decide +kernel, by decide +kernel⟩
set_option maxRecDepth 100000 in
theorem kk_J0_isLatin1_aae02 : rt_Kc yJ0_isLatin1_aae02 (.code yJ0_isLatin1_aae02 cJ0_isLatin1_aae02 1 (Option.some FieldType.boolean)) cJ0_isLatin1_aae02 1 (Option.some FieldType.boolean) [] := ⟨(tc_3 _ (List.mem_of_getElem? (i := 106) rfl)), rfl, Or.inl ⟨rfl, rfl⟩, by decide +kernel, (tc_1 _ (List.mem_of_getElem? (i := 19) (by decide +kernel))), by decide +kernel, by decide +kernel⟩
set_option maxRecDepth 100000 in
theorem kk_J1_charAt_3b067 : rt_Kc yJ1_charAt_3b067 (.code yJ1_charAt_3b067 cJ1_charAt_3b067 2 (Option.some FieldType.char)) cJ1_charAt_3b067 2 (Option.some FieldType.char) [] := ⟨(tc_3 _ (List.mem_of_getElem? (i := 109) rfl)), rfl, Or.inl ⟨rfl, rfl⟩, by decide +kernel, (tc_1 _ (List.mem_of_getElem? (i := 20) (by decide +kernel))), by decide +kernel, by decide +kernel⟩
set_option maxRecDepth 100000 in
theorem kk_J0_checkIndex_df160 : rt_Kc yJ0_checkIndex_df160 (.code yJ0_checkIndex_df160 cJ0_checkIndex_df160 2 (Option.none : Option FieldType)) cJ0_checkIndex_df160 2 (Option.none : Option FieldType) [] := ⟨(tc_3 _ (List.mem_of_getElem? (i := 112) rfl)), rfl, Or.inl ⟨rfl, rfl⟩, by decide +kernel, (tc_1 _ (List.mem_of_getElem? (i := 19) (by decide +kernel))), by decide +kernel, by decide +kernel⟩
set_option maxRecDepth 100000 in
theorem kk_J3_checkIndex_8e157 : rt_Kc yJ3_checkIndex_8e157 (.code yJ3_checkIndex_8e157 cJ3_checkIndex_8e157 3 (Option.some FieldType.int)) cJ3_checkIndex_8e157 3 (Option.some FieldType.int) [] := ⟨(tc_3 _ (List.mem_of_getElem? (i := 117) rfl)), rfl, Or.inl ⟨rfl, rfl⟩, by decide +kernel, (tc_1 _ (List.mem_of_getElem? (i := 21) (by decide +kernel))), by decide +kernel, by decide +kernel⟩
set_option maxRecDepth 100000 in
theorem kk_J2_charAt_3b067 : rt_Kc yJ2_charAt_3b067 (.code yJ2_charAt_3b067 cJ2_charAt_3b067 2 (Option.some FieldType.char)) cJ2_charAt_3b067 2 (Option.some FieldType.char) [] := ⟨(tc_3 _ (List.mem_of_getElem? (i := 120) rfl)), rfl, Or.inl ⟨rfl, rfl⟩, by decide +kernel, (tc_1 _ (List.mem_of_getElem? (i := 22) (by decide +kernel))), by decide +kernel, by decide +kernel⟩
set_option maxRecDepth 100000 in
theorem kk_J2_checkIndex_2214a : rt_Kc yJ2_checkIndex_2214a (.code yJ2_checkIndex_2214a cJ2_checkIndex_2214a 2 (Option.none : Option FieldType)) cJ2_checkIndex_2214a 2 (Option.none : Option FieldType) [] := ⟨(tc_3 _ (List.mem_of_getElem? (i := 123) rfl)), rfl, Or.inl ⟨rfl, rfl⟩, by decide +kernel, (tc_1 _ (List.mem_of_getElem? (i := 22) (by decide +kernel))), by decide +kernel, by decide +kernel⟩
set_option maxRecDepth 100000 in
theorem kk_J2_length_9d52b : rt_Kc yJ2_length_9d52b (.code yJ2_length_9d52b cJ2_length_9d52b 1 (Option.some FieldType.int)) cJ2_length_9d52b 1 (Option.some FieldType.int) [] := ⟨(tc_3 _ (List.mem_of_getElem? (i := 126) rfl)), rfl, Or.inl ⟨rfl, rfl⟩, by decide +kernel, (tc_1 _ (List.mem_of_getElem? (i := 22) (by decide +kernel))), by decide +kernel, by decide +kernel⟩
set_option maxRecDepth 100000 in
theorem kk_J2_getChar_3b067 : rt_Kc yJ2_getChar_3b067 (.code yJ2_getChar_3b067 cJ2_getChar_3b067 2 (Option.some FieldType.char)) cJ2_getChar_3b067 2 (Option.some FieldType.char) [] := ⟨(tc_3 _ (List.mem_of_getElem? (i := 130) rfl)), rfl, Or.inl ⟨rfl, rfl⟩, by decide +kernel, (tc_1 _ (List.mem_of_getElem? (i := 22) (by decide +kernel))), by decide +kernel, by decide +kernel⟩
set_option maxRecDepth 100000 in
theorem kk_X8_parseNumber : rt_Kc yX8_parseNumber (.code yX8_parseNumber cX8_parseNumber 12 (Option.none : Option FieldType)) cX8_parseNumber 12 (Option.none : Option FieldType) [] := ⟨(tc_3 _ (List.mem_of_getElem? (i := 142) rfl)), rfl, Or.inl ⟨rfl, rfl⟩, by decide +kernel, (tc_1 _ (List.mem_of_getElem? (i := 3) (by decide +kernel))), by decide +kernel, by decide +kernel⟩
set_option maxRecDepth 100000 in
theorem kk_X8_isDigit : rt_Kc yX8_isDigit (.code yX8_isDigit cX8_isDigit 1 (Option.some FieldType.boolean)) cX8_isDigit 1 (Option.some FieldType.boolean) [] := ⟨(tc_3 _ (List.mem_of_getElem? (i := 145) rfl)), rfl, Or.inl ⟨rfl, rfl⟩, by decide +kernel, (tc_1 _ (List.mem_of_getElem? (i := 3) (by decide +kernel))), by decide +kernel, by decide +kernel⟩
set_option maxRecDepth 100000 in
theorem kk_X1_draft : rt_Kc yX1_draft (.code yX1_draft cX1_draft 3 (Option.some FieldType.int)) cX1_draft 3 (Option.some FieldType.int) [] := ⟨(tc_3 _ (List.mem_of_getElem? (i := 152) rfl)), rfl, Or.inl ⟨rfl, rfl⟩, by decide +kernel, (tc_1 _ (List.mem_of_getElem? (i := 4) (by decide +kernel))), by decide +kernel, by decide +kernel⟩
set_option maxRecDepth 100000 in
theorem kk_X6_clear : rt_Kc yX6_clear (.code yX6_clear cX6_clear 2 (Option.none : Option FieldType)) cX6_clear 2 (Option.none : Option FieldType) [] := ⟨(tc_3 _ (List.mem_of_getElem? (i := 156) rfl)), rfl, Or.inl ⟨rfl, rfl⟩, by decide +kernel, (tc_1 _ (List.mem_of_getElem? (i := 6) (by decide +kernel))), by decide +kernel, by decide +kernel⟩
set_option maxRecDepth 100000 in
theorem kk_X1_look : rt_Kc yX1_look (.code yX1_look cX1_look 5 (Option.some FieldType.int)) cX1_look 5 (Option.some FieldType.int) [] := ⟨(tc_3 _ (List.mem_of_getElem? (i := 164) rfl)), rfl, Or.inl ⟨rfl, rfl⟩, by decide +kernel, (tc_1 _ (List.mem_of_getElem? (i := 4) (by decide +kernel))), by decide +kernel, by decide +kernel⟩
set_option maxRecDepth 100000 in
theorem kk_X1_fail : rt_Kc yX1_fail (.code yX1_fail cX1_fail 3 (Option.some FieldType.int)) cX1_fail 3 (Option.some FieldType.int) [] := ⟨(tc_3 _ (List.mem_of_getElem? (i := 168) rfl)), rfl, Or.inl ⟨rfl, rfl⟩, by decide +kernel, (tc_1 _ (List.mem_of_getElem? (i := 4) (by decide +kernel))), by decide +kernel, by decide +kernel⟩
set_option maxRecDepth 100000 in
theorem kk_X8_begin : rt_Kc yX8_begin (.code yX8_begin cX8_begin 2 (Option.some FieldType.int)) cX8_begin 2 (Option.some FieldType.int) [] := ⟨(tc_3 _ (List.mem_of_getElem? (i := 172) rfl)), rfl, Or.inl ⟨rfl, rfl⟩, by decide +kernel, (tc_1 _ (List.mem_of_getElem? (i := 3) (by decide +kernel))), by decide +kernel, by decide +kernel⟩
set_option maxRecDepth 100000 in
theorem kk_X8_kind : rt_Kc yX8_kind (.code yX8_kind cX8_kind 2 (Option.some FieldType.int)) cX8_kind 2 (Option.some FieldType.int) [] := ⟨(tc_3 _ (List.mem_of_getElem? (i := 176) rfl)), rfl, Or.inl ⟨rfl, rfl⟩, by decide +kernel, (tc_1 _ (List.mem_of_getElem? (i := 3) (by decide +kernel))), by decide +kernel, by decide +kernel⟩
set_option maxRecDepth 100000 in
theorem kk_X1_known : rt_Kc yX1_known (.code yX1_known cX1_known 4 (Option.some FieldType.int)) cX1_known 4 (Option.some FieldType.int) [] := ⟨(tc_3 _ (List.mem_of_getElem? (i := 180) rfl)), rfl, Or.inl ⟨rfl, rfl⟩, by decide +kernel, (tc_1 _ (List.mem_of_getElem? (i := 4) (by decide +kernel))), by decide +kernel, by decide +kernel⟩
set_option maxRecDepth 100000 in
theorem kk_X1_oneOfSix : rt_Kc yX1_oneOfSix (.code yX1_oneOfSix cX1_oneOfSix 2 (Option.some FieldType.int)) cX1_oneOfSix 2 (Option.some FieldType.int) [] := ⟨(tc_3 _ (List.mem_of_getElem? (i := 184) rfl)), rfl, Or.inl ⟨rfl, rfl⟩, by decide +kernel, (tc_1 _ (List.mem_of_getElem? (i := 4) (by decide +kernel))), by decide +kernel, by decide +kernel⟩
set_option maxRecDepth 100000 in
theorem kk_X8_says : rt_Kc yX8_says (.code yX8_says cX8_says 3 (Option.some FieldType.boolean)) cX8_says 3 (Option.some FieldType.boolean) [] := ⟨(tc_3 _ (List.mem_of_getElem? (i := 189) rfl)), rfl, Or.inl ⟨rfl, rfl⟩, by decide +kernel, (tc_1 _ (List.mem_of_getElem? (i := 3) (by decide +kernel))), by decide +kernel, by decide +kernel⟩
set_option maxRecDepth 100000 in
theorem kk_X0_says : rt_Kc yX0_says (.code yX0_says cX0_says 5 (Option.some FieldType.boolean)) cX0_says 5 (Option.some FieldType.boolean) [] := ⟨(tc_3 _ (List.mem_of_getElem? (i := 193) rfl)), rfl, Or.inl ⟨rfl, rfl⟩, by decide +kernel, (tc_1 _ (List.mem_of_getElem? (i := 2) (by decide +kernel))), by decide +kernel, by decide +kernel⟩
set_option maxRecDepth 100000 in
theorem kk_X1_defined : rt_Kc yX1_defined (.code yX1_defined cX1_defined 2 (Option.some FieldType.int)) cX1_defined 2 (Option.some FieldType.int) [] := ⟨(tc_3 _ (List.mem_of_getElem? (i := 204) rfl)), rfl, Or.inl ⟨rfl, rfl⟩, by decide +kernel, (tc_1 _ (List.mem_of_getElem? (i := 4) (by decide +kernel))), by decide +kernel, by decide +kernel⟩
set_option maxRecDepth 100000 in
theorem kk_X8_letters : rt_Kc yX8_letters (.code yX8_letters cX8_letters 1 (Option.some (FieldType.object "RecordTeller$Cells"))) cX8_letters 1 (Option.some (FieldType.object "RecordTeller$Cells")) [] := ⟨(tc_3 _ (List.mem_of_getElem? (i := 208) rfl)), rfl, Or.inl ⟨rfl, rfl⟩, by decide +kernel, (tc_1 _ (List.mem_of_getElem? (i := 3) (by decide +kernel))), by decide +kernel, by decide +kernel⟩
set_option maxRecDepth 100000 in
theorem kk_X8_word : rt_Kc yX8_word (.code yX8_word cX8_word 2 (Option.some FieldType.int)) cX8_word 2 (Option.some FieldType.int) [] := ⟨(tc_3 _ (List.mem_of_getElem? (i := 212) rfl)), rfl, Or.inl ⟨rfl, rfl⟩, by decide +kernel, (tc_1 _ (List.mem_of_getElem? (i := 3) (by decide +kernel))), by decide +kernel, by decide +kernel⟩
set_option maxRecDepth 100000 in
theorem kk_X6_nodeNamed : rt_Kc yX6_nodeNamed (.code yX6_nodeNamed cX6_nodeNamed 4 (Option.some FieldType.int)) cX6_nodeNamed 4 (Option.some FieldType.int) [] := ⟨(tc_3 _ (List.mem_of_getElem? (i := 216) rfl)), rfl, Or.inl ⟨rfl, rfl⟩, by decide +kernel, (tc_1 _ (List.mem_of_getElem? (i := 6) (by decide +kernel))), by decide +kernel, by decide +kernel⟩
set_option maxRecDepth 100000 in
theorem kk_X1_lookAtUnion : rt_Kc yX1_lookAtUnion (.code yX1_lookAtUnion cX1_lookAtUnion 8 (Option.some FieldType.int)) cX1_lookAtUnion 8 (Option.some FieldType.int) [] := ⟨(tc_3 _ (List.mem_of_getElem? (i := 223) rfl)), rfl, Or.inl ⟨rfl, rfl⟩, by decide +kernel, (tc_1 _ (List.mem_of_getElem? (i := 4) (by decide +kernel))), by decide +kernel, by decide +kernel⟩
set_option maxRecDepth 100000 in
theorem kk_X8_parts : rt_Kc yX8_parts (.code yX8_parts cX8_parts 2 (Option.some FieldType.int)) cX8_parts 2 (Option.some FieldType.int) [] := ⟨(tc_3 _ (List.mem_of_getElem? (i := 227) rfl)), rfl, Or.inl ⟨rfl, rfl⟩, by decide +kernel, (tc_1 _ (List.mem_of_getElem? (i := 3) (by decide +kernel))), by decide +kernel, by decide +kernel⟩
set_option maxRecDepth 100000 in
theorem kk_X6_addNode : rt_Kc yX6_addNode (.code yX6_addNode cX6_addNode 3 (Option.some FieldType.int)) cX6_addNode 3 (Option.some FieldType.int) [] := ⟨(tc_3 _ (List.mem_of_getElem? (i := 231) rfl)), rfl, Or.inl ⟨rfl, rfl⟩, by decide +kernel, (tc_1 _ (List.mem_of_getElem? (i := 6) (by decide +kernel))), by decide +kernel, by decide +kernel⟩
set_option maxRecDepth 100000 in
theorem kk_X6_addParts : rt_Kc yX6_addParts (.code yX6_addParts cX6_addParts 5 (Option.none : Option FieldType)) cX6_addParts 5 (Option.none : Option FieldType) [] := ⟨(tc_3 _ (List.mem_of_getElem? (i := 235) rfl)), rfl, Or.inl ⟨rfl, rfl⟩, by decide +kernel, (tc_1 _ (List.mem_of_getElem? (i := 6) (by decide +kernel))), by decide +kernel, by decide +kernel⟩
set_option maxRecDepth 100000 in
theorem kk_X8_first : rt_Kc yX8_first (.code yX8_first cX8_first 2 (Option.some FieldType.int)) cX8_first 2 (Option.some FieldType.int) [] := ⟨(tc_3 _ (List.mem_of_getElem? (i := 239) rfl)), rfl, Or.inl ⟨rfl, rfl⟩, by decide +kernel, (tc_1 _ (List.mem_of_getElem? (i := 3) (by decide +kernel))), by decide +kernel, by decide +kernel⟩
set_option maxRecDepth 100000 in
theorem kk_X1_hasBranchLike : rt_Kc yX1_hasBranchLike (.code yX1_hasBranchLike cX1_hasBranchLike 8 (Option.some FieldType.boolean)) cX1_hasBranchLike 8 (Option.some FieldType.boolean) [] := ⟨(tc_4 _ (List.mem_of_getElem? (i := 3) rfl)), rfl, Or.inl ⟨rfl, rfl⟩, by decide +kernel, (tc_1 _ (List.mem_of_getElem? (i := 4) (by decide +kernel))), by decide +kernel, by decide +kernel⟩
set_option maxRecDepth 100000 in
theorem kk_X6_kind : rt_Kc yX6_kind (.code yX6_kind cX6_kind 2 (Option.some FieldType.int)) cX6_kind 2 (Option.some FieldType.int) [] := ⟨(tc_4 _ (List.mem_of_getElem? (i := 7) rfl)), rfl, Or.inl ⟨rfl, rfl⟩, by decide +kernel, (tc_1 _ (List.mem_of_getElem? (i := 6) (by decide +kernel))), by decide +kernel, by decide +kernel⟩
set_option maxRecDepth 100000 in
theorem kk_X6_branch : rt_Kc yX6_branch (.code yX6_branch cX6_branch 3 (Option.some FieldType.int)) cX6_branch 3 (Option.some FieldType.int) [] := ⟨(tc_4 _ (List.mem_of_getElem? (i := 11) rfl)), rfl, Or.inl ⟨rfl, rfl⟩, by decide +kernel, (tc_1 _ (List.mem_of_getElem? (i := 6) (by decide +kernel))), by decide +kernel, by decide +kernel⟩
set_option maxRecDepth 100000 in
theorem kk_X6_part : rt_Kc yX6_part (.code yX6_part cX6_part 3 (Option.some FieldType.int)) cX6_part 3 (Option.some FieldType.int) [] := ⟨(tc_4 _ (List.mem_of_getElem? (i := 15) rfl)), rfl, Or.inl ⟨rfl, rfl⟩, by decide +kernel, (tc_1 _ (List.mem_of_getElem? (i := 6) (by decide +kernel))), by decide +kernel, by decide +kernel⟩
set_option maxRecDepth 100000 in
theorem kk_X6_setPartNode : rt_Kc yX6_setPartNode (.code yX6_setPartNode cX6_setPartNode 3 (Option.none : Option FieldType)) cX6_setPartNode 3 (Option.none : Option FieldType) [] := ⟨(tc_4 _ (List.mem_of_getElem? (i := 19) rfl)), rfl, Or.inl ⟨rfl, rfl⟩, by decide +kernel, (tc_1 _ (List.mem_of_getElem? (i := 6) (by decide +kernel))), by decide +kernel, by decide +kernel⟩
set_option maxRecDepth 100000 in
theorem kk_X8_next : rt_Kc yX8_next (.code yX8_next cX8_next 2 (Option.some FieldType.int)) cX8_next 2 (Option.some FieldType.int) [] := ⟨(tc_4 _ (List.mem_of_getElem? (i := 23) rfl)), rfl, Or.inl ⟨rfl, rfl⟩, by decide +kernel, (tc_1 _ (List.mem_of_getElem? (i := 3) (by decide +kernel))), by decide +kernel, by decide +kernel⟩
set_option maxRecDepth 100000 in
theorem kk_X1_lookAtObject : rt_Kc yX1_lookAtObject (.code yX1_lookAtObject cX1_lookAtObject 4 (Option.some FieldType.int)) cX1_lookAtObject 4 (Option.some FieldType.int) [] := ⟨(tc_4 _ (List.mem_of_getElem? (i := 27) rfl)), rfl, Or.inl ⟨rfl, rfl⟩, by decide +kernel, (tc_1 _ (List.mem_of_getElem? (i := 4) (by decide +kernel))), by decide +kernel, by decide +kernel⟩
set_option maxRecDepth 100000 in
theorem kk_X8_member : rt_Kc yX8_member (.code yX8_member cX8_member 5 (Option.some FieldType.int)) cX8_member 5 (Option.some FieldType.int) [] := ⟨(tc_4 _ (List.mem_of_getElem? (i := 32) rfl)), rfl, Or.inl ⟨rfl, rfl⟩, by decide +kernel, (tc_1 _ (List.mem_of_getElem? (i := 3) (by decide +kernel))), by decide +kernel, by decide +kernel⟩
set_option maxRecDepth 100000 in
theorem kk_X8_isString : rt_Kc yX8_isString (.code yX8_isString cX8_isString 2 (Option.some FieldType.boolean)) cX8_isString 2 (Option.some FieldType.boolean) [] := ⟨(tc_4 _ (List.mem_of_getElem? (i := 36) rfl)), rfl, Or.inl ⟨rfl, rfl⟩, by decide +kernel, (tc_1 _ (List.mem_of_getElem? (i := 3) (by decide +kernel))), by decide +kernel, by decide +kernel⟩
set_option maxRecDepth 100000 in
theorem kk_X1_compound : rt_Kc yX1_compound (.code yX1_compound cX1_compound 2 (Option.some FieldType.int)) cX1_compound 2 (Option.some FieldType.int) [] := ⟨(tc_4 _ (List.mem_of_getElem? (i := 40) rfl)), rfl, Or.inl ⟨rfl, rfl⟩, by decide +kernel, (tc_1 _ (List.mem_of_getElem? (i := 4) (by decide +kernel))), by decide +kernel, by decide +kernel⟩
set_option maxRecDepth 100000 in
theorem kk_X1_lookAtItems : rt_Kc yX1_lookAtItems (.code yX1_lookAtItems cX1_lookAtItems 6 (Option.some FieldType.int)) cX1_lookAtItems 6 (Option.some FieldType.int) [] := ⟨(tc_4 _ (List.mem_of_getElem? (i := 50) rfl)), rfl, Or.inl ⟨rfl, rfl⟩, by decide +kernel, (tc_1 _ (List.mem_of_getElem? (i := 4) (by decide +kernel))), by decide +kernel, by decide +kernel⟩
set_option maxRecDepth 100000 in
theorem kk_X6_setDetail : rt_Kc yX6_setDetail (.code yX6_setDetail cX6_setDetail 3 (Option.none : Option FieldType)) cX6_setDetail 3 (Option.none : Option FieldType) [] := ⟨(tc_4 _ (List.mem_of_getElem? (i := 54) rfl)), rfl, Or.inl ⟨rfl, rfl⟩, by decide +kernel, (tc_1 _ (List.mem_of_getElem? (i := 6) (by decide +kernel))), by decide +kernel, by decide +kernel⟩
set_option maxRecDepth 100000 in
theorem kk_X1_lookAtFixed : rt_Kc yX1_lookAtFixed (.code yX1_lookAtFixed cX1_lookAtFixed 4 (Option.some FieldType.int)) cX1_lookAtFixed 4 (Option.some FieldType.int) [] := ⟨(tc_4 _ (List.mem_of_getElem? (i := 59) rfl)), rfl, Or.inl ⟨rfl, rfl⟩, by decide +kernel, (tc_1 _ (List.mem_of_getElem? (i := 4) (by decide +kernel))), by decide +kernel, by decide +kernel⟩
set_option maxRecDepth 100000 in
theorem kk_X1_define : rt_Kc yX1_define (.code yX1_define cX1_define 5 (Option.some FieldType.int)) cX1_define 5 (Option.some FieldType.int) [] := ⟨(tc_4 _ (List.mem_of_getElem? (i := 63) rfl)), rfl, Or.inl ⟨rfl, rfl⟩, by decide +kernel, (tc_1 _ (List.mem_of_getElem? (i := 4) (by decide +kernel))), by decide +kernel, by decide +kernel⟩
set_option maxRecDepth 100000 in
theorem kk_X1_isName : rt_Kc yX1_isName (.code yX1_isName cX1_isName 7 (Option.some FieldType.boolean)) cX1_isName 7 (Option.some FieldType.boolean) [] := ⟨(tc_4 _ (List.mem_of_getElem? (i := 68) rfl)), rfl, Or.inl ⟨rfl, rfl⟩, by decide +kernel, (tc_1 _ (List.mem_of_getElem? (i := 4) (by decide +kernel))), by decide +kernel, by decide +kernel⟩
set_option maxRecDepth 100000 in
theorem kk_X8_length : rt_Kc yX8_length (.code yX8_length cX8_length 2 (Option.some FieldType.int)) cX8_length 2 (Option.some FieldType.int) [] := ⟨(tc_4 _ (List.mem_of_getElem? (i := 72) rfl)), rfl, Or.inl ⟨rfl, rfl⟩, by decide +kernel, (tc_1 _ (List.mem_of_getElem? (i := 3) (by decide +kernel))), by decide +kernel, by decide +kernel⟩
set_option maxRecDepth 100000 in
theorem kk_X6_addName : rt_Kc yX6_addName (.code yX6_addName cX6_addName 4 (Option.some FieldType.int)) cX6_addName 4 (Option.some FieldType.int) [] := ⟨(tc_4 _ (List.mem_of_getElem? (i := 77) rfl)), rfl, Or.inl ⟨rfl, rfl⟩, by decide +kernel, (tc_1 _ (List.mem_of_getElem? (i := 6) (by decide +kernel))), by decide +kernel, by decide +kernel⟩
set_option maxRecDepth 100000 in
theorem kk_X0_addPart : rt_Kc yX0_addPart (.code yX0_addPart cX0_addPart 4 (Option.some FieldType.boolean)) cX0_addPart 4 (Option.some FieldType.boolean) [] := ⟨(tc_4 _ (List.mem_of_getElem? (i := 81) rfl)), rfl, Or.inl ⟨rfl, rfl⟩, by decide +kernel, (tc_1 _ (List.mem_of_getElem? (i := 2) (by decide +kernel))), by decide +kernel, by decide +kernel⟩
set_option maxRecDepth 100000 in
theorem kk_X6_setName : rt_Kc yX6_setName (.code yX6_setName cX6_setName 3 (Option.none : Option FieldType)) cX6_setName 3 (Option.none : Option FieldType) [] := ⟨(tc_4 _ (List.mem_of_getElem? (i := 88) rfl)), rfl, Or.inl ⟨rfl, rfl⟩, by decide +kernel, (tc_1 _ (List.mem_of_getElem? (i := 6) (by decide +kernel))), by decide +kernel, by decide +kernel⟩
set_option maxRecDepth 100000 in
theorem kk_X8_number : rt_Kc yX8_number (.code yX8_number cX8_number 2 (Option.some FieldType.long)) cX8_number 2 (Option.some FieldType.long) [] := ⟨(tc_4 _ (List.mem_of_getElem? (i := 93) rfl)), rfl, Or.inl ⟨rfl, rfl⟩, by decide +kernel, (tc_1 _ (List.mem_of_getElem? (i := 3) (by decide +kernel))), by decide +kernel, by decide +kernel⟩
set_option maxRecDepth 100000 in
theorem kk_X6_setFixedSize : rt_Kc yX6_setFixedSize (.code yX6_setFixedSize cX6_setFixedSize 3 (Option.none : Option FieldType)) cX6_setFixedSize 3 (Option.none : Option FieldType) [] := ⟨(tc_4 _ (List.mem_of_getElem? (i := 98) rfl)), rfl, Or.inl ⟨rfl, rfl⟩, by decide +kernel, (tc_1 _ (List.mem_of_getElem? (i := 6) (by decide +kernel))), by decide +kernel, by decide +kernel⟩
set_option maxRecDepth 100000 in
theorem kk_X1_lookAtEnum : rt_Kc yX1_lookAtEnum (.code yX1_lookAtEnum cX1_lookAtEnum 7 (Option.some FieldType.int)) cX1_lookAtEnum 7 (Option.some FieldType.int) [] := ⟨(tc_4 _ (List.mem_of_getElem? (i := 102) rfl)), rfl, Or.inl ⟨rfl, rfl⟩, by decide +kernel, (tc_1 _ (List.mem_of_getElem? (i := 4) (by decide +kernel))), by decide +kernel, by decide +kernel⟩
set_option maxRecDepth 100000 in
theorem kk_X1_partSaid : rt_Kc yX1_partSaid (.code yX1_partSaid cX1_partSaid 3 (Option.some FieldType.int)) cX1_partSaid 3 (Option.some FieldType.int) [] := ⟨(tc_4 _ (List.mem_of_getElem? (i := 107) rfl)), rfl, Or.inl ⟨rfl, rfl⟩, by decide +kernel, (tc_1 _ (List.mem_of_getElem? (i := 4) (by decide +kernel))), by decide +kernel, by decide +kernel⟩
set_option maxRecDepth 100000 in
theorem kk_X6_partNamed : rt_Kc yX6_partNamed (.code yX6_partNamed cX6_partNamed 6 (Option.some FieldType.int)) cX6_partNamed 6 (Option.some FieldType.int) [] := ⟨(tc_4 _ (List.mem_of_getElem? (i := 111) rfl)), rfl, Or.inl ⟨rfl, rfl⟩, by decide +kernel, (tc_1 _ (List.mem_of_getElem? (i := 6) (by decide +kernel))), by decide +kernel, by decide +kernel⟩
set_option maxRecDepth 100000 in
theorem kk_X6_setPartName : rt_Kc yX6_setPartName (.code yX6_setPartName cX6_setPartName 3 (Option.none : Option FieldType)) cX6_setPartName 3 (Option.none : Option FieldType) [] := ⟨(tc_4 _ (List.mem_of_getElem? (i := 115) rfl)), rfl, Or.inl ⟨rfl, rfl⟩, by decide +kernel, (tc_1 _ (List.mem_of_getElem? (i := 6) (by decide +kernel))), by decide +kernel, by decide +kernel⟩
set_option maxRecDepth 100000 in
theorem kk_X1_lookAtFallback : rt_Kc yX1_lookAtFallback (.code yX1_lookAtFallback cX1_lookAtFallback 5 (Option.some FieldType.int)) cX1_lookAtFallback 5 (Option.some FieldType.int) [] := ⟨(tc_4 _ (List.mem_of_getElem? (i := 119) rfl)), rfl, Or.inl ⟨rfl, rfl⟩, by decide +kernel, (tc_1 _ (List.mem_of_getElem? (i := 4) (by decide +kernel))), by decide +kernel, by decide +kernel⟩
set_option maxRecDepth 100000 in
theorem kk_X1_lookAtRecord : rt_Kc yX1_lookAtRecord (.code yX1_lookAtRecord cX1_lookAtRecord 8 (Option.some FieldType.int)) cX1_lookAtRecord 8 (Option.some FieldType.int) [] := ⟨(tc_4 _ (List.mem_of_getElem? (i := 124) rfl)), rfl, Or.inl ⟨rfl, rfl⟩, by decide +kernel, (tc_1 _ (List.mem_of_getElem? (i := 4) (by decide +kernel))), by decide +kernel, by decide +kernel⟩
set_option maxRecDepth 100000 in
theorem kk_X1_lookAtField : rt_Kc yX1_lookAtField (.code yX1_lookAtField cX1_lookAtField 8 (Option.none : Option FieldType)) cX1_lookAtField 8 (Option.none : Option FieldType) [] := ⟨(tc_4 _ (List.mem_of_getElem? (i := 129) rfl)), rfl, Or.inl ⟨rfl, rfl⟩, by decide +kernel, (tc_1 _ (List.mem_of_getElem? (i := 4) (by decide +kernel))), by decide +kernel, by decide +kernel⟩
set_option maxRecDepth 100000 in
theorem kk_X6_measureRecord : rt_Kc yX6_measureRecord (.code yX6_measureRecord cX6_measureRecord 5 (Option.none : Option FieldType)) cX6_measureRecord 5 (Option.none : Option FieldType) [] := ⟨(tc_4 _ (List.mem_of_getElem? (i := 134) rfl)), rfl, Or.inl ⟨rfl, rfl⟩, by decide +kernel, (tc_1 _ (List.mem_of_getElem? (i := 6) (by decide +kernel))), by decide +kernel, by decide +kernel⟩
set_option maxRecDepth 100000 in
theorem kk_X6_setRoot : rt_Kc yX6_setRoot (.code yX6_setRoot cX6_setRoot 2 (Option.none : Option FieldType)) cX6_setRoot 2 (Option.none : Option FieldType) [] := ⟨(tc_4 _ (List.mem_of_getElem? (i := 138) rfl)), rfl, Or.inl ⟨rfl, rfl⟩, by decide +kernel, (tc_1 _ (List.mem_of_getElem? (i := 6) (by decide +kernel))), by decide +kernel, by decide +kernel⟩
set_option maxRecDepth 100000 in
theorem kk_X2_fill : rt_Kc yX2_fill (.code yX2_fill cX2_fill 6 (Option.some FieldType.int)) cX2_fill 6 (Option.some FieldType.int) [] := ⟨(tc_4 _ (List.mem_of_getElem? (i := 143) rfl)), rfl, Or.inl ⟨rfl, rfl⟩, by decide +kernel, (tc_1 _ (List.mem_of_getElem? (i := 5) (by decide +kernel))), by decide +kernel, by decide +kernel⟩
set_option maxRecDepth 100000 in
theorem kk_X6_defaults : rt_Kc yX6_defaults (.code yX6_defaults cX6_defaults 1 (Option.some (FieldType.object "RecordTeller$Cells"))) cX6_defaults 1 (Option.some (FieldType.object "RecordTeller$Cells")) [] := ⟨(tc_4 _ (List.mem_of_getElem? (i := 147) rfl)), rfl, Or.inl ⟨rfl, rfl⟩, by decide +kernel, (tc_1 _ (List.mem_of_getElem? (i := 6) (by decide +kernel))), by decide +kernel, by decide +kernel⟩
set_option maxRecDepth 100000 in
theorem kk_X6_partNode : rt_Kc yX6_partNode (.code yX6_partNode cX6_partNode 2 (Option.some FieldType.int)) cX6_partNode 2 (Option.some FieldType.int) [] := ⟨(tc_4 _ (List.mem_of_getElem? (i := 152) rfl)), rfl, Or.inl ⟨rfl, rfl⟩, by decide +kernel, (tc_1 _ (List.mem_of_getElem? (i := 6) (by decide +kernel))), by decide +kernel, by decide +kernel⟩
set_option maxRecDepth 100000 in
theorem kk_X2_put : rt_Kc yX2_put (.code yX2_put cX2_put 6 (Option.none : Option FieldType)) cX2_put 6 (Option.none : Option FieldType) [] := ⟨(tc_4 _ (List.mem_of_getElem? (i := 156) rfl)), rfl, Or.inl ⟨rfl, rfl⟩, by decide +kernel, (tc_1 _ (List.mem_of_getElem? (i := 5) (by decide +kernel))), by decide +kernel, by decide +kernel⟩
set_option maxRecDepth 100000 in
theorem kk_X0_addVarint : rt_Kc yX0_addVarint (.code yX0_addVarint cX0_addVarint 7 (Option.some FieldType.boolean)) cX0_addVarint 7 (Option.some FieldType.boolean) [] := ⟨(tc_4 _ (List.mem_of_getElem? (i := 161) rfl)), rfl, Or.inl ⟨rfl, rfl⟩, by decide +kernel, (tc_1 _ (List.mem_of_getElem? (i := 2) (by decide +kernel))), by decide +kernel, by decide +kernel⟩
set_option maxRecDepth 100000 in
theorem kk_X2_misfit : rt_Kc yX2_misfit (.code yX2_misfit cX2_misfit 2 (Option.none : Option FieldType)) cX2_misfit 2 (Option.none : Option FieldType) [] := ⟨(tc_4 _ (List.mem_of_getElem? (i := 168) rfl)), rfl, Or.inl ⟨rfl, rfl⟩, by decide +kernel, (tc_1 _ (List.mem_of_getElem? (i := 5) (by decide +kernel))), by decide +kernel, by decide +kernel⟩
set_option maxRecDepth 100000 in
theorem kk_X2_putItems : rt_Kc yX2_putItems (.code yX2_putItems cX2_putItems 8 (Option.none : Option FieldType)) cX2_putItems 8 (Option.none : Option FieldType) [] := ⟨(tc_4 _ (List.mem_of_getElem? (i := 173) rfl)), rfl, Or.inl ⟨rfl, rfl⟩, by decide +kernel, (tc_1 _ (List.mem_of_getElem? (i := 5) (by decide +kernel))), by decide +kernel, by decide +kernel⟩
set_option maxRecDepth 100000 in
theorem kk_X8_key : rt_Kc yX8_key (.code yX8_key cX8_key 2 (Option.some FieldType.int)) cX8_key 2 (Option.some FieldType.int) [] := ⟨(tc_4 _ (List.mem_of_getElem? (i := 180) rfl)), rfl, Or.inl ⟨rfl, rfl⟩, by decide +kernel, (tc_1 _ (List.mem_of_getElem? (i := 3) (by decide +kernel))), by decide +kernel, by decide +kernel⟩
set_option maxRecDepth 100000 in
theorem kk_X2_putString : rt_Kc yX2_putString (.code yX2_putString cX2_putString 2 (Option.none : Option FieldType)) cX2_putString 2 (Option.none : Option FieldType) [] := ⟨(tc_4 _ (List.mem_of_getElem? (i := 184) rfl)), rfl, Or.inl ⟨rfl, rfl⟩, by decide +kernel, (tc_1 _ (List.mem_of_getElem? (i := 5) (by decide +kernel))), by decide +kernel, by decide +kernel⟩
set_option maxRecDepth 100000 in
theorem kk_X2_putLetters : rt_Kc yX2_putLetters (.code yX2_putLetters cX2_putLetters 2 (Option.none : Option FieldType)) cX2_putLetters 2 (Option.none : Option FieldType) [] := ⟨(tc_4 _ (List.mem_of_getElem? (i := 190) rfl)), rfl, Or.inl ⟨rfl, rfl⟩, by decide +kernel, (tc_1 _ (List.mem_of_getElem? (i := 5) (by decide +kernel))), by decide +kernel, by decide +kernel⟩
set_option maxRecDepth 100000 in
theorem kk_X6_item : rt_Kc yX6_item (.code yX6_item cX6_item 2 (Option.some FieldType.int)) cX6_item 2 (Option.some FieldType.int) [] := ⟨(tc_4 _ (List.mem_of_getElem? (i := 195) rfl)), rfl, Or.inl ⟨rfl, rfl⟩, by decide +kernel, (tc_1 _ (List.mem_of_getElem? (i := 6) (by decide +kernel))), by decide +kernel, by decide +kernel⟩
set_option maxRecDepth 100000 in
theorem kk_X2_putFields : rt_Kc yX2_putFields (.code yX2_putFields cX2_putFields 7 (Option.none : Option FieldType)) cX2_putFields 7 (Option.none : Option FieldType) [] := ⟨(tc_4 _ (List.mem_of_getElem? (i := 200) rfl)), rfl, Or.inl ⟨rfl, rfl⟩, by decide +kernel, (tc_1 _ (List.mem_of_getElem? (i := 5) (by decide +kernel))), by decide +kernel, by decide +kernel⟩
set_option maxRecDepth 100000 in
theorem kk_X6_parts : rt_Kc yX6_parts (.code yX6_parts cX6_parts 2 (Option.some FieldType.int)) cX6_parts 2 (Option.some FieldType.int) [] := ⟨(tc_4 _ (List.mem_of_getElem? (i := 204) rfl)), rfl, Or.inl ⟨rfl, rfl⟩, by decide +kernel, (tc_1 _ (List.mem_of_getElem? (i := 6) (by decide +kernel))), by decide +kernel, by decide +kernel⟩
set_option maxRecDepth 100000 in
theorem kk_X6_names : rt_Kc yX6_names (.code yX6_names cX6_names 1 (Option.some (FieldType.object "RecordTeller$Cells"))) cX6_names 1 (Option.some (FieldType.object "RecordTeller$Cells")) [] := ⟨(tc_4 _ (List.mem_of_getElem? (i := 209) rfl)), rfl, Or.inl ⟨rfl, rfl⟩, by decide +kernel, (tc_1 _ (List.mem_of_getElem? (i := 6) (by decide +kernel))), by decide +kernel, by decide +kernel⟩
set_option maxRecDepth 100000 in
theorem kk_X6_partName : rt_Kc yX6_partName (.code yX6_partName cX6_partName 2 (Option.some FieldType.int)) cX6_partName 2 (Option.some FieldType.int) [] := ⟨(tc_4 _ (List.mem_of_getElem? (i := 213) rfl)), rfl, Or.inl ⟨rfl, rfl⟩, by decide +kernel, (tc_1 _ (List.mem_of_getElem? (i := 6) (by decide +kernel))), by decide +kernel, by decide +kernel⟩
set_option maxRecDepth 100000 in
theorem kk_X2_suits : rt_Kc yX2_suits (.code yX2_suits cX2_suits 4 (Option.some FieldType.boolean)) cX2_suits 4 (Option.some FieldType.boolean) [] := ⟨(tc_4 _ (List.mem_of_getElem? (i := 218) rfl)), rfl, Or.inl ⟨rfl, rfl⟩, by decide +kernel, (tc_1 _ (List.mem_of_getElem? (i := 5) (by decide +kernel))), by decide +kernel, by decide +kernel⟩
set_option maxRecDepth 100000 in
theorem kk_X6_fixedSize : rt_Kc yX6_fixedSize (.code yX6_fixedSize cX6_fixedSize 2 (Option.some FieldType.int)) cX6_fixedSize 2 (Option.some FieldType.int) [] := ⟨(tc_4 _ (List.mem_of_getElem? (i := 224) rfl)), rfl, Or.inl ⟨rfl, rfl⟩, by decide +kernel, (tc_1 _ (List.mem_of_getElem? (i := 6) (by decide +kernel))), by decide +kernel, by decide +kernel⟩
set_option maxRecDepth 100000 in
theorem kk_X2_putPlain : rt_Kc yX2_putPlain (.code yX2_putPlain cX2_putPlain 4 (Option.none : Option FieldType)) cX2_putPlain 4 (Option.none : Option FieldType) [] := ⟨(tc_4 _ (List.mem_of_getElem? (i := 230) rfl)), rfl, Or.inl ⟨rfl, rfl⟩, by decide +kernel, (tc_1 _ (List.mem_of_getElem? (i := 5) (by decide +kernel))), by decide +kernel, by decide +kernel⟩
set_option maxRecDepth 100000 in
theorem kk_X6_setDefault : rt_Kc yX6_setDefault (.code yX6_setDefault cX6_setDefault 4 (Option.none : Option FieldType)) cX6_setDefault 4 (Option.none : Option FieldType) [] := ⟨(tc_4 _ (List.mem_of_getElem? (i := 235) rfl)), rfl, Or.inl ⟨rfl, rfl⟩, by decide +kernel, (tc_1 _ (List.mem_of_getElem? (i := 6) (by decide +kernel))), by decide +kernel, by decide +kernel⟩
set_option maxRecDepth 100000 in
theorem kk_X1_wrongPlace : rt_Kc yX1_wrongPlace (.code yX1_wrongPlace cX1_wrongPlace 1 (Option.some FieldType.int)) cX1_wrongPlace 1 (Option.some FieldType.int) [] := ⟨(tc_4 _ (List.mem_of_getElem? (i := 239) rfl)), rfl, Or.inl ⟨rfl, rfl⟩, by decide +kernel, (tc_1 _ (List.mem_of_getElem? (i := 4) (by decide +kernel))), by decide +kernel, by decide +kernel⟩
set_option maxRecDepth 100000 in
theorem kk_X1_handOver : rt_Kc yX1_handOver (.code yX1_handOver cX1_handOver 3 (Option.some (FieldType.object "RecordTeller$Schema"))) cX1_handOver 3 (Option.some (FieldType.object "RecordTeller$Schema")) [] := ⟨(tc_5 _ (List.mem_of_getElem? (i := 3) rfl)), rfl, Or.inl ⟨rfl, rfl⟩, by decide +kernel, (tc_1 _ (List.mem_of_getElem? (i := 4) (by decide +kernel))), by decide +kernel, by decide +kernel⟩
set_option maxRecDepth 100000 in
theorem kk_X5_clear : rt_Kc yX5_clear (.code yX5_clear cX5_clear 1 (Option.none : Option FieldType)) cX5_clear 1 (Option.none : Option FieldType) [] := ⟨(tc_5 _ (List.mem_of_getElem? (i := 7) rfl)), rfl, Or.inl ⟨rfl, rfl⟩, by decide +kernel, (tc_1 _ (List.mem_of_getElem? (i := 10) (by decide +kernel))), by decide +kernel, by decide +kernel⟩
set_option maxRecDepth 100000 in
theorem kk_L_load : rt_Kc yL_load (.codeWith yL_load cL_load 4 (Option.some FieldType.int) [(0, 9, 12, 25), (0, 9, 15, 13)]) cL_load 4 (Option.some FieldType.int) (tableOf [(0, 9, 12, 25), (0, 9, 15, 13)]) := ⟨(tc_5 _ (List.mem_of_getElem? (i := 12) rfl)), rfl, Or.inr ⟨_, rfl, rfl⟩, by decide +kernel, (tc_1 _ (List.mem_of_getElem? (i := 0) (by decide +kernel))), by decide +kernel, by decide +kernel⟩
set_option maxRecDepth 100000 in
theorem kk_X9_load : rt_Kc yX9_load (.code yX9_load cX9_load 5 (Option.some FieldType.int)) cX9_load 5 (Option.some FieldType.int) [] := ⟨(tc_5 _ (List.mem_of_getElem? (i := 16) rfl)), rfl, Or.inl ⟨rfl, rfl⟩, by decide +kernel, (tc_1 _ (List.mem_of_getElem? (i := 1) (by decide +kernel))), by decide +kernel, by decide +kernel⟩
set_option maxRecDepth 100000 in
theorem kk_X4_lookAtRows : rt_Kc yX4_lookAtRows (.code yX4_lookAtRows cX4_lookAtRows 6 (Option.some FieldType.int)) cX4_lookAtRows 6 (Option.some FieldType.int) [] := ⟨(tc_5 _ (List.mem_of_getElem? (i := 20) rfl)), rfl, Or.inl ⟨rfl, rfl⟩, by decide +kernel, (tc_1 _ (List.mem_of_getElem? (i := 7) (by decide +kernel))), by decide +kernel, by decide +kernel⟩
set_option maxRecDepth 100000 in
theorem kk_X5_bytes : rt_Kc yX5_bytes (.code yX5_bytes cX5_bytes 1 (Option.some (FieldType.object "RecordTeller$Cells"))) cX5_bytes 1 (Option.some (FieldType.object "RecordTeller$Cells")) [] := ⟨(tc_5 _ (List.mem_of_getElem? (i := 25) rfl)), rfl, Or.inl ⟨rfl, rfl⟩, by decide +kernel, (tc_1 _ (List.mem_of_getElem? (i := 10) (by decide +kernel))), by decide +kernel, by decide +kernel⟩
set_option maxRecDepth 100000 in
theorem kk_X5_open : rt_Kc yX5_open (.code yX5_open cX5_open 1 (Option.none : Option FieldType)) cX5_open 1 (Option.none : Option FieldType) [] := ⟨(tc_5 _ (List.mem_of_getElem? (i := 30) rfl)), rfl, Or.inl ⟨rfl, rfl⟩, by decide +kernel, (tc_1 _ (List.mem_of_getElem? (i := 10) (by decide +kernel))), by decide +kernel, by decide +kernel⟩
set_option maxRecDepth 100000 in
theorem kk_X6_root : rt_Kc yX6_root (.code yX6_root cX6_root 1 (Option.some FieldType.int)) cX6_root 1 (Option.some FieldType.int) [] := ⟨(tc_5 _ (List.mem_of_getElem? (i := 35) rfl)), rfl, Or.inl ⟨rfl, rfl⟩, by decide +kernel, (tc_1 _ (List.mem_of_getElem? (i := 6) (by decide +kernel))), by decide +kernel, by decide +kernel⟩
set_option maxRecDepth 100000 in
theorem kk_X4_look : rt_Kc yX4_look (.code yX4_look cX4_look 3 (Option.none : Option FieldType)) cX4_look 3 (Option.none : Option FieldType) [] := ⟨(tc_5 _ (List.mem_of_getElem? (i := 39) rfl)), rfl, Or.inl ⟨rfl, rfl⟩, by decide +kernel, (tc_1 _ (List.mem_of_getElem? (i := 7) (by decide +kernel))), by decide +kernel, by decide +kernel⟩
set_option maxRecDepth 100000 in
theorem kk_X4_fail : rt_Kc yX4_fail (.code yX4_fail cX4_fail 3 (Option.none : Option FieldType)) cX4_fail 3 (Option.none : Option FieldType) [] := ⟨(tc_5 _ (List.mem_of_getElem? (i := 43) rfl)), rfl, Or.inl ⟨rfl, rfl⟩, by decide +kernel, (tc_1 _ (List.mem_of_getElem? (i := 7) (by decide +kernel))), by decide +kernel, by decide +kernel⟩
set_option maxRecDepth 100000 in
theorem kk_X4_lookAtBoolean : rt_Kc yX4_lookAtBoolean (.code yX4_lookAtBoolean cX4_lookAtBoolean 1 (Option.none : Option FieldType)) cX4_lookAtBoolean 1 (Option.none : Option FieldType) [] := ⟨(tc_5 _ (List.mem_of_getElem? (i := 48) rfl)), rfl, Or.inl ⟨rfl, rfl⟩, by decide +kernel, (tc_1 _ (List.mem_of_getElem? (i := 7) (by decide +kernel))), by decide +kernel, by decide +kernel⟩
set_option maxRecDepth 100000 in
theorem kk_X4_lookAtNumber : rt_Kc yX4_lookAtNumber (.code yX4_lookAtNumber cX4_lookAtNumber 5 (Option.none : Option FieldType)) cX4_lookAtNumber 5 (Option.none : Option FieldType) [] := ⟨(tc_5 _ (List.mem_of_getElem? (i := 54) rfl)), rfl, Or.inl ⟨rfl, rfl⟩, by decide +kernel, (tc_1 _ (List.mem_of_getElem? (i := 7) (by decide +kernel))), by decide +kernel, by decide +kernel⟩
set_option maxRecDepth 100000 in
theorem kk_X4_varint : rt_Kc yX4_varint (.code yX4_varint cX4_varint 6 (Option.some FieldType.long)) cX4_varint 6 (Option.some FieldType.long) [] := ⟨(tc_5 _ (List.mem_of_getElem? (i := 58) rfl)), rfl, Or.inl ⟨rfl, rfl⟩, by decide +kernel, (tc_1 _ (List.mem_of_getElem? (i := 7) (by decide +kernel))), by decide +kernel, by decide +kernel⟩
set_option maxRecDepth 100000 in
theorem kk_X4_lookAtString : rt_Kc yX4_lookAtString (.code yX4_lookAtString cX4_lookAtString 4 (Option.none : Option FieldType)) cX4_lookAtString 4 (Option.none : Option FieldType) [] := ⟨(tc_5 _ (List.mem_of_getElem? (i := 63) rfl)), rfl, Or.inl ⟨rfl, rfl⟩, by decide +kernel, (tc_1 _ (List.mem_of_getElem? (i := 7) (by decide +kernel))), by decide +kernel, by decide +kernel⟩
set_option maxRecDepth 100000 in
theorem kk_X4_takeBytes : rt_Kc yX4_takeBytes (.code yX4_takeBytes cX4_takeBytes 3 (Option.none : Option FieldType)) cX4_takeBytes 3 (Option.none : Option FieldType) [] := ⟨(tc_5 _ (List.mem_of_getElem? (i := 67) rfl)), rfl, Or.inl ⟨rfl, rfl⟩, by decide +kernel, (tc_1 _ (List.mem_of_getElem? (i := 7) (by decide +kernel))), by decide +kernel, by decide +kernel⟩
set_option maxRecDepth 100000 in
theorem kk_X4_lookAtChoice : rt_Kc yX4_lookAtChoice (.code yX4_lookAtChoice cX4_lookAtChoice 6 (Option.some FieldType.int)) cX4_lookAtChoice 6 (Option.some FieldType.int) [] := ⟨(tc_5 _ (List.mem_of_getElem? (i := 73) rfl)), rfl, Or.inl ⟨rfl, rfl⟩, by decide +kernel, (tc_1 _ (List.mem_of_getElem? (i := 7) (by decide +kernel))), by decide +kernel, by decide +kernel⟩
set_option maxRecDepth 100000 in
theorem kk_X4_lookAtUnion : rt_Kc yX4_lookAtUnion (.code yX4_lookAtUnion cX4_lookAtUnion 4 (Option.none : Option FieldType)) cX4_lookAtUnion 4 (Option.none : Option FieldType) [] := ⟨(tc_5 _ (List.mem_of_getElem? (i := 78) rfl)), rfl, Or.inl ⟨rfl, rfl⟩, by decide +kernel, (tc_1 _ (List.mem_of_getElem? (i := 7) (by decide +kernel))), by decide +kernel, by decide +kernel⟩
set_option maxRecDepth 100000 in
theorem kk_X4_lookAtBlocks : rt_Kc yX4_lookAtBlocks (.code yX4_lookAtBlocks cX4_lookAtBlocks 10 (Option.none : Option FieldType)) cX4_lookAtBlocks 10 (Option.none : Option FieldType) [] := ⟨(tc_5 _ (List.mem_of_getElem? (i := 83) rfl)), rfl, Or.inl ⟨rfl, rfl⟩, by decide +kernel, (tc_1 _ (List.mem_of_getElem? (i := 7) (by decide +kernel))), by decide +kernel, by decide +kernel⟩
set_option maxRecDepth 100000 in
theorem kk_X4_lookAtItems : rt_Kc yX4_lookAtItems (.code yX4_lookAtItems cX4_lookAtItems 5 (Option.none : Option FieldType)) cX4_lookAtItems 5 (Option.none : Option FieldType) [] := ⟨(tc_5 _ (List.mem_of_getElem? (i := 90) rfl)), rfl, Or.inl ⟨rfl, rfl⟩, by decide +kernel, (tc_1 _ (List.mem_of_getElem? (i := 7) (by decide +kernel))), by decide +kernel, by decide +kernel⟩
set_option maxRecDepth 100000 in
theorem kk_X4_lookAtMeasuredItems : rt_Kc yX4_lookAtMeasuredItems (.code yX4_lookAtMeasuredItems cX4_lookAtMeasuredItems 8 (Option.none : Option FieldType)) cX4_lookAtMeasuredItems 8 (Option.none : Option FieldType) [] := ⟨(tc_5 _ (List.mem_of_getElem? (i := 95) rfl)), rfl, Or.inl ⟨rfl, rfl⟩, by decide +kernel, (tc_1 _ (List.mem_of_getElem? (i := 7) (by decide +kernel))), by decide +kernel, by decide +kernel⟩
set_option maxRecDepth 100000 in
theorem kk_X0_rotate : rt_Kc yX0_rotate (.code yX0_rotate cX0_rotate 3 (Option.none : Option FieldType)) cX0_rotate 3 (Option.none : Option FieldType) [] := ⟨(tc_5 _ (List.mem_of_getElem? (i := 99) rfl)), rfl, Or.inl ⟨rfl, rfl⟩, by decide +kernel, (tc_1 _ (List.mem_of_getElem? (i := 2) (by decide +kernel))), by decide +kernel, by decide +kernel⟩
set_option maxRecDepth 100000 in
theorem kk_X0_reverse : rt_Kc yX0_reverse (.code yX0_reverse cX0_reverse 6 (Option.none : Option FieldType)) cX0_reverse 6 (Option.none : Option FieldType) [] := ⟨(tc_5 _ (List.mem_of_getElem? (i := 103) rfl)), rfl, Or.inl ⟨rfl, rfl⟩, by decide +kernel, (tc_1 _ (List.mem_of_getElem? (i := 2) (by decide +kernel))), by decide +kernel, by decide +kernel⟩
set_option maxRecDepth 100000 in
theorem kk_X4_lookAtFields : rt_Kc yX4_lookAtFields (.code yX4_lookAtFields cX4_lookAtFields 4 (Option.none : Option FieldType)) cX4_lookAtFields 4 (Option.none : Option FieldType) [] := ⟨(tc_5 _ (List.mem_of_getElem? (i := 109) rfl)), rfl, Or.inl ⟨rfl, rfl⟩, by decide +kernel, (tc_1 _ (List.mem_of_getElem? (i := 7) (by decide +kernel))), by decide +kernel, by decide +kernel⟩
set_option maxRecDepth 100000 in
theorem kk_X4_wrongPlace : rt_Kc yX4_wrongPlace (.code yX4_wrongPlace cX4_wrongPlace 1 (Option.some FieldType.int)) cX4_wrongPlace 1 (Option.some FieldType.int) [] := ⟨(tc_5 _ (List.mem_of_getElem? (i := 116) rfl)), rfl, Or.inl ⟨rfl, rfl⟩, by decide +kernel, (tc_1 _ (List.mem_of_getElem? (i := 7) (by decide +kernel))), by decide +kernel, by decide +kernel⟩
set_option maxRecDepth 100000 in
theorem kk_L_size : rt_Kc yL_size (.codeWith yL_size cL_size 4 (Option.some FieldType.int) [(0, 9, 12, 19)]) cL_size 4 (Option.some FieldType.int) (tableOf [(0, 9, 12, 19)]) := ⟨(tc_5 _ (List.mem_of_getElem? (i := 119) rfl)), rfl, Or.inr ⟨_, rfl, rfl⟩, by decide +kernel, (tc_1 _ (List.mem_of_getElem? (i := 0) (by decide +kernel))), by decide +kernel, by decide +kernel⟩
set_option maxRecDepth 100000 in
theorem kk_X9_size : rt_Kc yX9_size (.code yX9_size cX9_size 2 (Option.some FieldType.int)) cX9_size 2 (Option.some FieldType.int) [] := ⟨(tc_5 _ (List.mem_of_getElem? (i := 123) rfl)), rfl, Or.inl ⟨rfl, rfl⟩, by decide +kernel, (tc_1 _ (List.mem_of_getElem? (i := 1) (by decide +kernel))), by decide +kernel, by decide +kernel⟩
set_option maxRecDepth 100000 in
theorem kk_X9_bytesOf : rt_Kc yX9_bytesOf (.code yX9_bytesOf cX9_bytesOf 2 (Option.some (FieldType.object "RecordTeller$Cells"))) cX9_bytesOf 2 (Option.some (FieldType.object "RecordTeller$Cells")) [] := ⟨(tc_5 _ (List.mem_of_getElem? (i := 127) rfl)), rfl, Or.inl ⟨rfl, rfl⟩, by decide +kernel, (tc_1 _ (List.mem_of_getElem? (i := 1) (by decide +kernel))), by decide +kernel, by decide +kernel⟩
set_option maxRecDepth 100000 in
theorem kk_L_letter : rt_Kc yL_letter (.codeWith yL_letter cL_letter 5 (Option.some FieldType.int) [(0, 10, 13, 25), (0, 10, 17, 19)]) cL_letter 5 (Option.some FieldType.int) (tableOf [(0, 10, 13, 25), (0, 10, 17, 19)]) := ⟨(tc_5 _ (List.mem_of_getElem? (i := 131) rfl)), rfl, Or.inr ⟨_, rfl, rfl⟩, by decide +kernel, (tc_1 _ (List.mem_of_getElem? (i := 0) (by decide +kernel))), by decide +kernel, by decide +kernel⟩
set_option maxRecDepth 100000 in
theorem kk_X9_letter : rt_Kc yX9_letter (.code yX9_letter cX9_letter 4 (Option.some FieldType.int)) cX9_letter 4 (Option.some FieldType.int) [] := ⟨(tc_5 _ (List.mem_of_getElem? (i := 135) rfl)), rfl, Or.inl ⟨rfl, rfl⟩, by decide +kernel, (tc_1 _ (List.mem_of_getElem? (i := 1) (by decide +kernel))), by decide +kernel, by decide +kernel⟩
set_option maxRecDepth 100000 in
theorem kk_L_read : rt_Kc yL_read (.codeWith yL_read cL_read 5 (Option.some FieldType.int) [(0, 10, 13, 25), (0, 10, 17, 13)]) cL_read 5 (Option.some FieldType.int) (tableOf [(0, 10, 13, 25), (0, 10, 17, 13)]) := ⟨(tc_5 _ (List.mem_of_getElem? (i := 139) rfl)), rfl, Or.inr ⟨_, rfl, rfl⟩, by decide +kernel, (tc_1 _ (List.mem_of_getElem? (i := 0) (by decide +kernel))), by decide +kernel, by decide +kernel⟩
set_option maxRecDepth 100000 in
theorem kk_X9_read : rt_Kc yX9_read (.code yX9_read cX9_read 5 (Option.some FieldType.int)) cX9_read 5 (Option.some FieldType.int) [] := ⟨(tc_5 _ (List.mem_of_getElem? (i := 143) rfl)), rfl, Or.inl ⟨rfl, rfl⟩, by decide +kernel, (tc_1 _ (List.mem_of_getElem? (i := 1) (by decide +kernel))), by decide +kernel, by decide +kernel⟩
set_option maxRecDepth 100000 in
theorem kk_X9_writer : rt_Kc yX9_writer (.code yX9_writer cX9_writer 1 (Option.some (FieldType.object "RecordTeller$Schema"))) cX9_writer 1 (Option.some (FieldType.object "RecordTeller$Schema")) [] := ⟨(tc_5 _ (List.mem_of_getElem? (i := 147) rfl)), rfl, Or.inl ⟨rfl, rfl⟩, by decide +kernel, (tc_1 _ (List.mem_of_getElem? (i := 1) (by decide +kernel))), by decide +kernel, by decide +kernel⟩
set_option maxRecDepth 100000 in
theorem kk_X7_prepare : rt_Kc yX7_prepare (.code yX7_prepare cX7_prepare 5 (Option.none : Option FieldType)) cX7_prepare 5 (Option.none : Option FieldType) [] := ⟨(tc_5 _ (List.mem_of_getElem? (i := 151) rfl)), rfl, Or.inl ⟨rfl, rfl⟩, by decide +kernel, (tc_1 _ (List.mem_of_getElem? (i := 8) (by decide +kernel))), by decide +kernel, by decide +kernel⟩
set_option maxRecDepth 100000 in
theorem kk_X6_allParts : rt_Kc yX6_allParts (.code yX6_allParts cX6_allParts 1 (Option.some FieldType.int)) cX6_allParts 1 (Option.some FieldType.int) [] := ⟨(tc_5 _ (List.mem_of_getElem? (i := 155) rfl)), rfl, Or.inl ⟨rfl, rfl⟩, by decide +kernel, (tc_1 _ (List.mem_of_getElem? (i := 6) (by decide +kernel))), by decide +kernel, by decide +kernel⟩
set_option maxRecDepth 100000 in
theorem kk_X7_tell : rt_Kc yX7_tell (.code yX7_tell cX7_tell 3 (Option.some FieldType.int)) cX7_tell 3 (Option.some FieldType.int) [] := ⟨(tc_5 _ (List.mem_of_getElem? (i := 160) rfl)), rfl, Or.inl ⟨rfl, rfl⟩, by decide +kernel, (tc_1 _ (List.mem_of_getElem? (i := 8) (by decide +kernel))), by decide +kernel, by decide +kernel⟩
set_option maxRecDepth 100000 in
theorem kk_X5_start : rt_Kc yX5_start (.code yX5_start cX5_start 2 (Option.some FieldType.int)) cX5_start 2 (Option.some FieldType.int) [] := ⟨(tc_5 _ (List.mem_of_getElem? (i := 166) rfl)), rfl, Or.inl ⟨rfl, rfl⟩, by decide +kernel, (tc_1 _ (List.mem_of_getElem? (i := 10) (by decide +kernel))), by decide +kernel, by decide +kernel⟩
set_option maxRecDepth 100000 in
theorem kk_X7_tellDatum : rt_Kc yX7_tellDatum (.code yX7_tellDatum cX7_tellDatum 5 (Option.none : Option FieldType)) cX7_tellDatum 5 (Option.none : Option FieldType) [] := ⟨(tc_5 _ (List.mem_of_getElem? (i := 172) rfl)), rfl, Or.inl ⟨rfl, rfl⟩, by decide +kernel, (tc_1 _ (List.mem_of_getElem? (i := 8) (by decide +kernel))), by decide +kernel, by decide +kernel⟩
set_option maxRecDepth 100000 in
theorem kk_X7_halt : rt_Kc yX7_halt (.code yX7_halt cX7_halt 2 (Option.none : Option FieldType)) cX7_halt 2 (Option.none : Option FieldType) [] := ⟨(tc_5 _ (List.mem_of_getElem? (i := 176) rfl)), rfl, Or.inl ⟨rfl, rfl⟩, by decide +kernel, (tc_1 _ (List.mem_of_getElem? (i := 8) (by decide +kernel))), by decide +kernel, by decide +kernel⟩
set_option maxRecDepth 100000 in
theorem kk_X7_varint : rt_Kc yX7_varint (.code yX7_varint cX7_varint 5 (Option.some FieldType.long)) cX7_varint 5 (Option.some FieldType.long) [] := ⟨(tc_5 _ (List.mem_of_getElem? (i := 181) rfl)), rfl, Or.inl ⟨rfl, rfl⟩, by decide +kernel, (tc_1 _ (List.mem_of_getElem? (i := 8) (by decide +kernel))), by decide +kernel, by decide +kernel⟩
set_option maxRecDepth 100000 in
theorem kk_X7_tellPlain : rt_Kc yX7_tellPlain (.code yX7_tellPlain cX7_tellPlain 6 (Option.none : Option FieldType)) cX7_tellPlain 6 (Option.none : Option FieldType) [] := ⟨(tc_5 _ (List.mem_of_getElem? (i := 187) rfl)), rfl, Or.inl ⟨rfl, rfl⟩, by decide +kernel, (tc_1 _ (List.mem_of_getElem? (i := 8) (by decide +kernel))), by decide +kernel, by decide +kernel⟩
set_option maxRecDepth 100000 in
theorem kk_X7_tellItems : rt_Kc yX7_tellItems (.code yX7_tellItems cX7_tellItems 8 (Option.none : Option FieldType)) cX7_tellItems 8 (Option.none : Option FieldType) [] := ⟨(tc_5 _ (List.mem_of_getElem? (i := 191) rfl)), rfl, Or.inl ⟨rfl, rfl⟩, by decide +kernel, (tc_1 _ (List.mem_of_getElem? (i := 8) (by decide +kernel))), by decide +kernel, by decide +kernel⟩
set_option maxRecDepth 100000 in
theorem kk_X7_put : rt_Kc yX7_put (.code yX7_put cX7_put 3 (Option.none : Option FieldType)) cX7_put 3 (Option.none : Option FieldType) [] := ⟨(tc_5 _ (List.mem_of_getElem? (i := 195) rfl)), rfl, Or.inl ⟨rfl, rfl⟩, by decide +kernel, (tc_1 _ (List.mem_of_getElem? (i := 8) (by decide +kernel))), by decide +kernel, by decide +kernel⟩
set_option maxRecDepth 100000 in
theorem kk_X7_skip : rt_Kc yX7_skip (.code yX7_skip cX7_skip 5 (Option.none : Option FieldType)) cX7_skip 5 (Option.none : Option FieldType) [] := ⟨(tc_5 _ (List.mem_of_getElem? (i := 200) rfl)), rfl, Or.inl ⟨rfl, rfl⟩, by decide +kernel, (tc_1 _ (List.mem_of_getElem? (i := 8) (by decide +kernel))), by decide +kernel, by decide +kernel⟩
set_option maxRecDepth 100000 in
theorem kk_X6_width : rt_Kc yX6_width (.code yX6_width cX6_width 2 (Option.some FieldType.int)) cX6_width 2 (Option.some FieldType.int) [] := ⟨(tc_5 _ (List.mem_of_getElem? (i := 204) rfl)), rfl, Or.inl ⟨rfl, rfl⟩, by decide +kernel, (tc_1 _ (List.mem_of_getElem? (i := 6) (by decide +kernel))), by decide +kernel, by decide +kernel⟩
set_option maxRecDepth 100000 in
theorem kk_X7_skipItems : rt_Kc yX7_skipItems (.code yX7_skipItems cX7_skipItems 6 (Option.none : Option FieldType)) cX7_skipItems 6 (Option.none : Option FieldType) [] := ⟨(tc_5 _ (List.mem_of_getElem? (i := 208) rfl)), rfl, Or.inl ⟨rfl, rfl⟩, by decide +kernel, (tc_1 _ (List.mem_of_getElem? (i := 8) (by decide +kernel))), by decide +kernel, by decide +kernel⟩
set_option maxRecDepth 100000 in
theorem kk_X7_putPart : rt_Kc yX7_putPart (.code yX7_putPart cX7_putPart 4 (Option.none : Option FieldType)) cX7_putPart 4 (Option.none : Option FieldType) [] := ⟨(tc_5 _ (List.mem_of_getElem? (i := 216) rfl)), rfl, Or.inl ⟨rfl, rfl⟩, by decide +kernel, (tc_1 _ (List.mem_of_getElem? (i := 8) (by decide +kernel))), by decide +kernel, by decide +kernel⟩
set_option maxRecDepth 100000 in
theorem kk_X6_matchPlainly : rt_Kc yX6_matchPlainly (.code yX6_matchPlainly cX6_matchPlainly 6 (Option.some FieldType.boolean)) cX6_matchPlainly 6 (Option.some FieldType.boolean) [] := ⟨(tc_5 _ (List.mem_of_getElem? (i := 220) rfl)), rfl, Or.inl ⟨rfl, rfl⟩, by decide +kernel, (tc_1 _ (List.mem_of_getElem? (i := 6) (by decide +kernel))), by decide +kernel, by decide +kernel⟩
set_option maxRecDepth 100000 in
theorem kk_X7_tellRecord : rt_Kc yX7_tellRecord (.code yX7_tellRecord cX7_tellRecord 5 (Option.none : Option FieldType)) cX7_tellRecord 5 (Option.none : Option FieldType) [] := ⟨(tc_5 _ (List.mem_of_getElem? (i := 224) rfl)), rfl, Or.inl ⟨rfl, rfl⟩, by decide +kernel, (tc_1 _ (List.mem_of_getElem? (i := 8) (by decide +kernel))), by decide +kernel, by decide +kernel⟩
set_option maxRecDepth 100000 in
theorem kk_X7_tellFields : rt_Kc yX7_tellFields (.code yX7_tellFields cX7_tellFields 9 (Option.none : Option FieldType)) cX7_tellFields 9 (Option.none : Option FieldType) [] := ⟨(tc_5 _ (List.mem_of_getElem? (i := 228) rfl)), rfl, Or.inl ⟨rfl, rfl⟩, by decide +kernel, (tc_1 _ (List.mem_of_getElem? (i := 8) (by decide +kernel))), by decide +kernel, by decide +kernel⟩
set_option maxRecDepth 100000 in
theorem kk_X7_origin : rt_Kc yX7_origin (.code yX7_origin cX7_origin 4 (Option.some FieldType.int)) cX7_origin 4 (Option.some FieldType.int) [] := ⟨(tc_5 _ (List.mem_of_getElem? (i := 232) rfl)), rfl, Or.inl ⟨rfl, rfl⟩, by decide +kernel, (tc_1 _ (List.mem_of_getElem? (i := 8) (by decide +kernel))), by decide +kernel, by decide +kernel⟩
set_option maxRecDepth 100000 in
theorem kk_X7_tellDefault : rt_Kc yX7_tellDefault (.code yX7_tellDefault cX7_tellDefault 2 (Option.none : Option FieldType)) cX7_tellDefault 2 (Option.none : Option FieldType) [] := ⟨(tc_5 _ (List.mem_of_getElem? (i := 239) rfl)), rfl, Or.inl ⟨rfl, rfl⟩, by decide +kernel, (tc_1 _ (List.mem_of_getElem? (i := 8) (by decide +kernel))), by decide +kernel, by decide +kernel⟩
set_option maxRecDepth 100000 in
theorem kk_X6_hasDefault : rt_Kc yX6_hasDefault (.code yX6_hasDefault cX6_hasDefault 2 (Option.some FieldType.boolean)) cX6_hasDefault 2 (Option.some FieldType.boolean) [] := ⟨(tc_6 _ (List.mem_of_getElem? (i := 3) rfl)), rfl, Or.inl ⟨rfl, rfl⟩, by decide +kernel, (tc_1 _ (List.mem_of_getElem? (i := 6) (by decide +kernel))), by decide +kernel, by decide +kernel⟩
set_option maxRecDepth 100000 in
theorem kk_X6_defaultStart : rt_Kc yX6_defaultStart (.code yX6_defaultStart cX6_defaultStart 2 (Option.some FieldType.int)) cX6_defaultStart 2 (Option.some FieldType.int) [] := ⟨(tc_6 _ (List.mem_of_getElem? (i := 8) rfl)), rfl, Or.inl ⟨rfl, rfl⟩, by decide +kernel, (tc_1 _ (List.mem_of_getElem? (i := 6) (by decide +kernel))), by decide +kernel, by decide +kernel⟩
set_option maxRecDepth 100000 in
theorem kk_X6_defaultEnd : rt_Kc yX6_defaultEnd (.code yX6_defaultEnd cX6_defaultEnd 2 (Option.some FieldType.int)) cX6_defaultEnd 2 (Option.some FieldType.int) [] := ⟨(tc_6 _ (List.mem_of_getElem? (i := 12) rfl)), rfl, Or.inl ⟨rfl, rfl⟩, by decide +kernel, (tc_1 _ (List.mem_of_getElem? (i := 6) (by decide +kernel))), by decide +kernel, by decide +kernel⟩
set_option maxRecDepth 100000 in
theorem kk_X7_skipFields : rt_Kc yX7_skipFields (.code yX7_skipFields cX7_skipFields 7 (Option.some FieldType.int)) cX7_skipFields 7 (Option.some FieldType.int) [] := ⟨(tc_6 _ (List.mem_of_getElem? (i := 16) rfl)), rfl, Or.inl ⟨rfl, rfl⟩, by decide +kernel, (tc_1 _ (List.mem_of_getElem? (i := 8) (by decide +kernel))), by decide +kernel, by decide +kernel⟩
set_option maxRecDepth 100000 in
theorem kk_X7_tellSymbol : rt_Kc yX7_tellSymbol (.code yX7_tellSymbol cX7_tellSymbol 4 (Option.none : Option FieldType)) cX7_tellSymbol 4 (Option.none : Option FieldType) [] := ⟨(tc_6 _ (List.mem_of_getElem? (i := 24) rfl)), rfl, Or.inl ⟨rfl, rfl⟩, by decide +kernel, (tc_1 _ (List.mem_of_getElem? (i := 8) (by decide +kernel))), by decide +kernel, by decide +kernel⟩
set_option maxRecDepth 100000 in
theorem kk_X6_fallback : rt_Kc yX6_fallback (.code yX6_fallback cX6_fallback 2 (Option.some FieldType.int)) cX6_fallback 2 (Option.some FieldType.int) [] := ⟨(tc_6 _ (List.mem_of_getElem? (i := 28) rfl)), rfl, Or.inl ⟨rfl, rfl⟩, by decide +kernel, (tc_1 _ (List.mem_of_getElem? (i := 6) (by decide +kernel))), by decide +kernel, by decide +kernel⟩
set_option maxRecDepth 100000 in
theorem kk_X6_firstMatch : rt_Kc yX6_firstMatch (.code yX6_firstMatch cX6_firstMatch 5 (Option.some FieldType.int)) cX6_firstMatch 5 (Option.some FieldType.int) [] := ⟨(tc_6 _ (List.mem_of_getElem? (i := 31) rfl)), rfl, Or.inl ⟨rfl, rfl⟩, by decide +kernel, (tc_1 _ (List.mem_of_getElem? (i := 6) (by decide +kernel))), by decide +kernel, by decide +kernel⟩
set_option maxRecDepth 100000 in
theorem kk_X6_match : rt_Kc yX6_match (.code yX6_match cX6_match 8 (Option.some FieldType.boolean)) cX6_match 8 (Option.some FieldType.boolean) [] := ⟨(tc_6 _ (List.mem_of_getElem? (i := 36) rfl)), rfl, Or.inl ⟨rfl, rfl⟩, by decide +kernel, (tc_1 _ (List.mem_of_getElem? (i := 6) (by decide +kernel))), by decide +kernel, by decide +kernel⟩
set_option maxRecDepth 100000 in
theorem kk_X7_told : rt_Kc yX7_told (.code yX7_told cX7_told 1 (Option.some (FieldType.object "RecordTeller$Cells"))) cX7_told 1 (Option.some (FieldType.object "RecordTeller$Cells")) [] := ⟨(tc_6 _ (List.mem_of_getElem? (i := 43) rfl)), rfl, Or.inl ⟨rfl, rfl⟩, by decide +kernel, (tc_1 _ (List.mem_of_getElem? (i := 8) (by decide +kernel))), by decide +kernel, by decide +kernel⟩
set_option maxRecDepth 100000 in
theorem kk_L_all : rt_Kc yL_all (.codeWith yL_all cL_all 4 (Option.some FieldType.int) [(0, 9, 12, 25), (0, 9, 15, 13)]) cL_all 4 (Option.some FieldType.int) (tableOf [(0, 9, 12, 25), (0, 9, 15, 13)]) := ⟨(tc_6 _ (List.mem_of_getElem? (i := 47) rfl)), rfl, Or.inr ⟨_, rfl, rfl⟩, by decide +kernel, (tc_1 _ (List.mem_of_getElem? (i := 0) (by decide +kernel))), by decide +kernel, by decide +kernel⟩
set_option maxRecDepth 100000 in
theorem kk_X9_all : rt_Kc yX9_all (.code yX9_all cX9_all 4 (Option.some FieldType.int)) cX9_all 4 (Option.some FieldType.int) [] := ⟨(tc_6 _ (List.mem_of_getElem? (i := 51) rfl)), rfl, Or.inl ⟨rfl, rfl⟩, by decide +kernel, (tc_1 _ (List.mem_of_getElem? (i := 1) (by decide +kernel))), by decide +kernel, by decide +kernel⟩
set_option maxRecDepth 100000 in
theorem kk_L_fits : rt_Kc yL_fits (.codeWith yL_fits cL_fits 5 (Option.some FieldType.int) [(0, 17, 20, 25), (0, 17, 24, 13)]) cL_fits 5 (Option.some FieldType.int) (tableOf [(0, 17, 20, 25), (0, 17, 24, 13)]) := ⟨(tc_6 _ (List.mem_of_getElem? (i := 54) rfl)), rfl, Or.inr ⟨_, rfl, rfl⟩, by decide +kernel, (tc_1 _ (List.mem_of_getElem? (i := 0) (by decide +kernel))), by decide +kernel, by decide +kernel⟩
set_option maxRecDepth 100000 in
theorem kk_X9_fits : rt_Kc yX9_fits (.code yX9_fits cX9_fits 5 (Option.some FieldType.boolean)) cX9_fits 5 (Option.some FieldType.boolean) [] := ⟨(tc_6 _ (List.mem_of_getElem? (i := 58) rfl)), rfl, Or.inl ⟨rfl, rfl⟩, by decide +kernel, (tc_1 _ (List.mem_of_getElem? (i := 1) (by decide +kernel))), by decide +kernel, by decide +kernel⟩
set_option maxRecDepth 100000 in
theorem kk_X3_fit : rt_Kc yX3_fit (.code yX3_fit cX3_fit 5 (Option.some FieldType.boolean)) cX3_fit 5 (Option.some FieldType.boolean) [] := ⟨(tc_6 _ (List.mem_of_getElem? (i := 62) rfl)), rfl, Or.inl ⟨rfl, rfl⟩, by decide +kernel, (tc_1 _ (List.mem_of_getElem? (i := 9) (by decide +kernel))), by decide +kernel, by decide +kernel⟩
set_option maxRecDepth 100000 in
theorem kk_X3_ask : rt_Kc yX3_ask (.code yX3_ask cX3_ask 4 (Option.none : Option FieldType)) cX3_ask 4 (Option.none : Option FieldType) [] := ⟨(tc_6 _ (List.mem_of_getElem? (i := 68) rfl)), rfl, Or.inl ⟨rfl, rfl⟩, by decide +kernel, (tc_1 _ (List.mem_of_getElem? (i := 9) (by decide +kernel))), by decide +kernel, by decide +kernel⟩
set_option maxRecDepth 100000 in
theorem kk_X3_fitBySelves : rt_Kc yX3_fitBySelves (.code yX3_fitBySelves cX3_fitBySelves 5 (Option.some FieldType.boolean)) cX3_fitBySelves 5 (Option.some FieldType.boolean) [] := ⟨(tc_6 _ (List.mem_of_getElem? (i := 76) rfl)), rfl, Or.inl ⟨rfl, rfl⟩, by decide +kernel, (tc_1 _ (List.mem_of_getElem? (i := 9) (by decide +kernel))), by decide +kernel, by decide +kernel⟩
set_option maxRecDepth 100000 in
theorem kk_X3_hasAllSymbols : rt_Kc yX3_hasAllSymbols (.code yX3_hasAllSymbols cX3_hasAllSymbols 4 (Option.some FieldType.boolean)) cX3_hasAllSymbols 4 (Option.some FieldType.boolean) [] := ⟨(tc_6 _ (List.mem_of_getElem? (i := 87) rfl)), rfl, Or.inl ⟨rfl, rfl⟩, by decide +kernel, (tc_1 _ (List.mem_of_getElem? (i := 9) (by decide +kernel))), by decide +kernel, by decide +kernel⟩
set_option maxRecDepth 100000 in
theorem kk_X3_fitFields : rt_Kc yX3_fitFields (.code yX3_fitFields cX3_fitFields 6 (Option.some FieldType.boolean)) cX3_fitFields 6 (Option.some FieldType.boolean) [] := ⟨(tc_6 _ (List.mem_of_getElem? (i := 95) rfl)), rfl, Or.inl ⟨rfl, rfl⟩, by decide +kernel, (tc_1 _ (List.mem_of_getElem? (i := 9) (by decide +kernel))), by decide +kernel, by decide +kernel⟩
set_option maxRecDepth 100000 in
theorem kk_X11_init : rt_Kc yX11_init (.code yX11_init cX11_init 2 (Option.none : Option FieldType)) cX11_init 2 (Option.none : Option FieldType) [] := ⟨(tc_6 _ (List.mem_of_getElem? (i := 102) rfl)), rfl, Or.inl ⟨rfl, rfl⟩, by decide +kernel, (tc_1 _ (List.mem_of_getElem? (i := 11) (by decide +kernel))), by decide +kernel, by decide +kernel⟩
set_option maxRecDepth 100000 in
theorem kk_X10_init : rt_Kc yX10_init (.code yX10_init cX10_init 1 (Option.none : Option FieldType)) cX10_init 1 (Option.none : Option FieldType) [] := ⟨(tc_6 _ (List.mem_of_getElem? (i := 108) rfl)), rfl, Or.inl ⟨rfl, rfl⟩, by decide +kernel, (tc_1 _ (List.mem_of_getElem? (i := 12) (by decide +kernel))), by decide +kernel, by decide +kernel⟩
set_option maxRecDepth 100000 in
theorem kk_X11_thrown : rt_Kc yX11_thrown (.code yX11_thrown cX11_thrown 1 (Option.some FieldType.int)) cX11_thrown 1 (Option.some FieldType.int) [] := ⟨(tc_7 _ (List.mem_of_getElem? (i := 78) rfl)), rfl, Or.inl ⟨rfl, rfl⟩, by decide +kernel, (tc_1 _ (List.mem_of_getElem? (i := 11) (by decide +kernel))), by decide +kernel, by decide +kernel⟩
set_option maxRecDepth 100000 in
theorem kk_X11_feed : rt_Kc yX11_feed (.code yX11_feed cX11_feed 6 (Option.some FieldType.int)) cX11_feed 6 (Option.some FieldType.int) [] := ⟨(tc_7 _ (List.mem_of_getElem? (i := 82) rfl)), rfl, Or.inl ⟨rfl, rfl⟩, by decide +kernel, (tc_1 _ (List.mem_of_getElem? (i := 11) (by decide +kernel))), by decide +kernel, by decide +kernel⟩
set_option maxRecDepth 100000 in
theorem kk_X11_refused : rt_Kc yX11_refused (.code yX11_refused cX11_refused 3 (Option.some FieldType.boolean)) cX11_refused 3 (Option.some FieldType.boolean) [] := ⟨(tc_7 _ (List.mem_of_getElem? (i := 86) rfl)), rfl, Or.inl ⟨rfl, rfl⟩, by decide +kernel, (tc_1 _ (List.mem_of_getElem? (i := 11) (by decide +kernel))), by decide +kernel, by decide +kernel⟩
set_option maxRecDepth 100000 in
theorem kk_X11_addInt : rt_Kc yX11_addInt (.code yX11_addInt cX11_addInt 3 (Option.none : Option FieldType)) cX11_addInt 3 (Option.none : Option FieldType) [] := ⟨(tc_7 _ (List.mem_of_getElem? (i := 90) rfl)), rfl, Or.inl ⟨rfl, rfl⟩, by decide +kernel, (tc_1 _ (List.mem_of_getElem? (i := 11) (by decide +kernel))), by decide +kernel, by decide +kernel⟩
set_option maxRecDepth 100000 in
theorem kk_X11_end : rt_Kc yX11_end (.code yX11_end cX11_end 2 (Option.none : Option FieldType)) cX11_end 2 (Option.none : Option FieldType) [] := ⟨(tc_7 _ (List.mem_of_getElem? (i := 94) rfl)), rfl, Or.inl ⟨rfl, rfl⟩, by decide +kernel, (tc_1 _ (List.mem_of_getElem? (i := 11) (by decide +kernel))), by decide +kernel, by decide +kernel⟩
set_option maxRecDepth 100000 in
theorem kk_X11_within : rt_Kc yX11_within (.code yX11_within cX11_within 3 (Option.some FieldType.boolean)) cX11_within 3 (Option.some FieldType.boolean) [] := ⟨(tc_7 _ (List.mem_of_getElem? (i := 97) rfl)), rfl, Or.inl ⟨rfl, rfl⟩, by decide +kernel, (tc_1 _ (List.mem_of_getElem? (i := 11) (by decide +kernel))), by decide +kernel, by decide +kernel⟩
set_option maxRecDepth 100000 in
theorem kk_X11_schema : rt_Kc yX11_schema (.code yX11_schema cX11_schema 4 (Option.some FieldType.int)) cX11_schema 4 (Option.some FieldType.int) [] := ⟨(tc_7 _ (List.mem_of_getElem? (i := 101) rfl)), rfl, Or.inl ⟨rfl, rfl⟩, by decide +kernel, (tc_1 _ (List.mem_of_getElem? (i := 11) (by decide +kernel))), by decide +kernel, by decide +kernel⟩
set_option maxRecDepth 100000 in
theorem kk_X11_isPlace : rt_Kc yX11_isPlace (.code yX11_isPlace cX11_isPlace 1 (Option.some FieldType.boolean)) cX11_isPlace 1 (Option.some FieldType.boolean) [] := ⟨(tc_7 _ (List.mem_of_getElem? (i := 104) rfl)), rfl, Or.inl ⟨rfl, rfl⟩, by decide +kernel, (tc_1 _ (List.mem_of_getElem? (i := 11) (by decide +kernel))), by decide +kernel, by decide +kernel⟩
set_option maxRecDepth 100000 in
theorem kk_X10_read : rt_Kc yX10_read (.codeWith yX10_read cX10_read 5 (Option.some FieldType.int) [(130, 134, 137, 85)]) cX10_read 5 (Option.some FieldType.int) (tableOf [(130, 134, 137, 85)]) := ⟨(tc_7 _ (List.mem_of_getElem? (i := 108) rfl)), rfl, Or.inr ⟨_, rfl, rfl⟩, by decide +kernel, (tc_1 _ (List.mem_of_getElem? (i := 12) (by decide +kernel))), by decide +kernel, by decide +kernel⟩
set_option maxRecDepth 100000 in
theorem kk_X10_readAll : rt_Kc yX10_readAll (.code yX10_readAll cX10_readAll 4 (Option.none : Option FieldType)) cX10_readAll 4 (Option.none : Option FieldType) [] := ⟨(tc_7 _ (List.mem_of_getElem? (i := 113) rfl)), rfl, Or.inl ⟨rfl, rfl⟩, by decide +kernel, (tc_1 _ (List.mem_of_getElem? (i := 12) (by decide +kernel))), by decide +kernel, by decide +kernel⟩
set_option maxRecDepth 100000 in
theorem kk_X10_blanks : rt_Kc yX10_blanks (.code yX10_blanks cX10_blanks 1 (Option.none : Option FieldType)) cX10_blanks 1 (Option.none : Option FieldType) [] := ⟨(tc_7 _ (List.mem_of_getElem? (i := 117) rfl)), rfl, Or.inl ⟨rfl, rfl⟩, by decide +kernel, (tc_1 _ (List.mem_of_getElem? (i := 12) (by decide +kernel))), by decide +kernel, by decide +kernel⟩
set_option maxRecDepth 100000 in
theorem kk_X10_look : rt_Kc yX10_look (.code yX10_look cX10_look 1 (Option.some FieldType.int)) cX10_look 1 (Option.some FieldType.int) [] := ⟨(tc_7 _ (List.mem_of_getElem? (i := 121) rfl)), rfl, Or.inl ⟨rfl, rfl⟩, by decide +kernel, (tc_1 _ (List.mem_of_getElem? (i := 12) (by decide +kernel))), by decide +kernel, by decide +kernel⟩
set_option maxRecDepth 100000 in
theorem kk_X10_value : rt_Kc yX10_value (.code yX10_value cX10_value 5 (Option.some FieldType.int)) cX10_value 5 (Option.some FieldType.int) [] := ⟨(tc_7 _ (List.mem_of_getElem? (i := 125) rfl)), rfl, Or.inl ⟨rfl, rfl⟩, by decide +kernel, (tc_1 _ (List.mem_of_getElem? (i := 12) (by decide +kernel))), by decide +kernel, by decide +kernel⟩
set_option maxRecDepth 100000 in
theorem kk_X10_need : rt_Kc yX10_need (.code yX10_need cX10_need 4 (Option.none : Option FieldType)) cX10_need 4 (Option.none : Option FieldType) [] := ⟨(tc_7 _ (List.mem_of_getElem? (i := 129) rfl)), rfl, Or.inl ⟨rfl, rfl⟩, by decide +kernel, (tc_1 _ (List.mem_of_getElem? (i := 12) (by decide +kernel))), by decide +kernel, by decide +kernel⟩
set_option maxRecDepth 100000 in
theorem kk_X10_fail : rt_Kc yX10_fail (.code yX10_fail cX10_fail 3 (Option.none : Option FieldType)) cX10_fail 3 (Option.none : Option FieldType) [] := ⟨(tc_7 _ (List.mem_of_getElem? (i := 133) rfl)), rfl, Or.inl ⟨rfl, rfl⟩, by decide +kernel, (tc_1 _ (List.mem_of_getElem? (i := 12) (by decide +kernel))), by decide +kernel, by decide +kernel⟩
set_option maxRecDepth 100000 in
theorem kk_X10_object : rt_Kc yX10_object (.code yX10_object cX10_object 6 (Option.some FieldType.int)) cX10_object 6 (Option.some FieldType.int) [] := ⟨(tc_7 _ (List.mem_of_getElem? (i := 150) rfl)), rfl, Or.inl ⟨rfl, rfl⟩, by decide +kernel, (tc_1 _ (List.mem_of_getElem? (i := 12) (by decide +kernel))), by decide +kernel, by decide +kernel⟩
set_option maxRecDepth 100000 in
theorem kk_X10_node : rt_Kc yX10_node (.code yX10_node cX10_node 2 (Option.some FieldType.int)) cX10_node 2 (Option.some FieldType.int) [] := ⟨(tc_7 _ (List.mem_of_getElem? (i := 154) rfl)), rfl, Or.inl ⟨rfl, rfl⟩, by decide +kernel, (tc_1 _ (List.mem_of_getElem? (i := 12) (by decide +kernel))), by decide +kernel, by decide +kernel⟩
set_option maxRecDepth 100000 in
theorem kk_X10_string : rt_Kc yX10_string (.code yX10_string cX10_string 3 (Option.some FieldType.int)) cX10_string 3 (Option.some FieldType.int) [] := ⟨(tc_7 _ (List.mem_of_getElem? (i := 158) rfl)), rfl, Or.inl ⟨rfl, rfl⟩, by decide +kernel, (tc_1 _ (List.mem_of_getElem? (i := 12) (by decide +kernel))), by decide +kernel, by decide +kernel⟩
set_option maxRecDepth 100000 in
theorem kk_X10_escaped : rt_Kc yX10_escaped (.code yX10_escaped cX10_escaped 6 (Option.some FieldType.int)) cX10_escaped 6 (Option.some FieldType.int) [] := ⟨(tc_7 _ (List.mem_of_getElem? (i := 162) rfl)), rfl, Or.inl ⟨rfl, rfl⟩, by decide +kernel, (tc_1 _ (List.mem_of_getElem? (i := 12) (by decide +kernel))), by decide +kernel, by decide +kernel⟩
set_option maxRecDepth 100000 in
theorem kk_J0_indexOf_0f7a4 : rt_Kc yJ0_indexOf_0f7a4 (.code yJ0_indexOf_0f7a4 cJ0_indexOf_0f7a4 2 (Option.some FieldType.int)) cJ0_indexOf_0f7a4 2 (Option.some FieldType.int) [] := ⟨(tc_7 _ (List.mem_of_getElem? (i := 167) rfl)), rfl, Or.inl ⟨rfl, rfl⟩, by decide +kernel, (tc_1 _ (List.mem_of_getElem? (i := 19) (by decide +kernel))), by decide +kernel, by decide +kernel⟩
set_option maxRecDepth 100000 in
theorem kk_J0_indexOf_7cf53 : rt_Kc yJ0_indexOf_7cf53 (.code yJ0_indexOf_7cf53 cJ0_indexOf_7cf53 3 (Option.some FieldType.int)) cJ0_indexOf_7cf53 3 (Option.some FieldType.int) [] := ⟨(tc_7 _ (List.mem_of_getElem? (i := 171) rfl)), rfl, Or.inl ⟨rfl, rfl⟩, by decide +kernel, (tc_1 _ (List.mem_of_getElem? (i := 19) (by decide +kernel))), by decide +kernel, by decide +kernel⟩
set_option maxRecDepth 100000 in
theorem kk_J1_indexOf_4cfef : rt_Kc yJ1_indexOf_4cfef (.code yJ1_indexOf_4cfef cJ1_indexOf_4cfef 4 (Option.some FieldType.int)) cJ1_indexOf_4cfef 4 (Option.some FieldType.int) [] := ⟨(tc_7 _ (List.mem_of_getElem? (i := 175) rfl)), rfl, Or.inl ⟨rfl, rfl⟩, by decide +kernel, (tc_1 _ (List.mem_of_getElem? (i := 20) (by decide +kernel))), by decide +kernel, by decide +kernel⟩
set_option maxRecDepth 100000 in
theorem kk_J1_canEncode_9a6ad : rt_Kc yJ1_canEncode_9a6ad (.code yJ1_canEncode_9a6ad cJ1_canEncode_9a6ad 1 (Option.some FieldType.boolean)) cJ1_canEncode_9a6ad 1 (Option.some FieldType.boolean) [] := ⟨(tc_7 _ (List.mem_of_getElem? (i := 178) rfl)), rfl, Or.inl ⟨rfl, rfl⟩, by decide +kernel, (tc_1 _ (List.mem_of_getElem? (i := 20) (by decide +kernel))), by decide +kernel, by decide +kernel⟩
set_option maxRecDepth 100000 in
theorem kk_J1_indexOfChar_4cfef : rt_Kc yJ1_indexOfChar_4cfef (.code yJ1_indexOfChar_4cfef cJ1_indexOfChar_4cfef 6 (Option.some FieldType.int)) cJ1_indexOfChar_4cfef 6 (Option.some FieldType.int) [] := ⟨(tc_7 _ (List.mem_of_getElem? (i := 185) rfl)), rfl, Or.inl ⟨rfl, rfl⟩, by decide +kernel, (tc_1 _ (List.mem_of_getElem? (i := 20) (by decide +kernel))), by decide +kernel, by decide +kernel⟩
set_option maxRecDepth 100000 in
theorem kk_J2_indexOf_4cfef : rt_Kc yJ2_indexOf_4cfef (.code yJ2_indexOf_4cfef cJ2_indexOf_4cfef 4 (Option.some FieldType.int)) cJ2_indexOf_4cfef 4 (Option.some FieldType.int) [] := ⟨(tc_7 _ (List.mem_of_getElem? (i := 188) rfl)), rfl, Or.inl ⟨rfl, rfl⟩, by decide +kernel, (tc_1 _ (List.mem_of_getElem? (i := 22) (by decide +kernel))), by decide +kernel, by decide +kernel⟩
set_option maxRecDepth 100000 in
theorem kk_J2_indexOfChar_4cfef : rt_Kc yJ2_indexOfChar_4cfef (.code yJ2_indexOfChar_4cfef cJ2_indexOfChar_4cfef 4 (Option.some FieldType.int)) cJ2_indexOfChar_4cfef 4 (Option.some FieldType.int) [] := ⟨(tc_7 _ (List.mem_of_getElem? (i := 194) rfl)), rfl, Or.inl ⟨rfl, rfl⟩, by decide +kernel, (tc_1 _ (List.mem_of_getElem? (i := 22) (by decide +kernel))), by decide +kernel, by decide +kernel⟩
set_option maxRecDepth 100000 in
theorem kk_J2_checkBoundsBeginEnd_d044e : rt_Kc yJ2_checkBoundsBeginEnd_d044e (.code yJ2_checkBoundsBeginEnd_d044e cJ2_checkBoundsBeginEnd_d044e 3 (Option.none : Option FieldType)) cJ2_checkBoundsBeginEnd_d044e 3 (Option.none : Option FieldType) [] := ⟨(tc_7 _ (List.mem_of_getElem? (i := 197) rfl)), rfl, Or.inl ⟨rfl, rfl⟩, by decide +kernel, (tc_1 _ (List.mem_of_getElem? (i := 22) (by decide +kernel))), by decide +kernel, by decide +kernel⟩
set_option maxRecDepth 100000 in
theorem kk_J0_checkBoundsBeginEnd_23922 : rt_Kc yJ0_checkBoundsBeginEnd_23922 (.code yJ0_checkBoundsBeginEnd_23922 cJ0_checkBoundsBeginEnd_23922 3 (Option.none : Option FieldType)) cJ0_checkBoundsBeginEnd_23922 3 (Option.none : Option FieldType) [] := ⟨(tc_7 _ (List.mem_of_getElem? (i := 200) rfl)), rfl, Or.inl ⟨rfl, rfl⟩, by decide +kernel, (tc_1 _ (List.mem_of_getElem? (i := 19) (by decide +kernel))), by decide +kernel, by decide +kernel⟩
set_option maxRecDepth 100000 in
theorem kk_J3_checkFromToIndex_8c36e : rt_Kc yJ3_checkFromToIndex_8c36e (.code yJ3_checkFromToIndex_8c36e cJ3_checkFromToIndex_8c36e 4 (Option.some FieldType.int)) cJ3_checkFromToIndex_8c36e 4 (Option.some FieldType.int) [] := ⟨(tc_7 _ (List.mem_of_getElem? (i := 203) rfl)), rfl, Or.inl ⟨rfl, rfl⟩, by decide +kernel, (tc_1 _ (List.mem_of_getElem? (i := 21) (by decide +kernel))), by decide +kernel, by decide +kernel⟩
set_option maxRecDepth 100000 in
theorem kk_J2_indexOfCharUnsafe_4cfef : rt_Kc yJ2_indexOfCharUnsafe_4cfef (.code yJ2_indexOfCharUnsafe_4cfef cJ2_indexOfCharUnsafe_4cfef 5 (Option.some FieldType.int)) cJ2_indexOfCharUnsafe_4cfef 5 (Option.some FieldType.int) [] := ⟨(tc_7 _ (List.mem_of_getElem? (i := 206) rfl)), rfl, Or.inl ⟨rfl, rfl⟩, by decide +kernel, (tc_1 _ (List.mem_of_getElem? (i := 22) (by decide +kernel))), by decide +kernel, by decide +kernel⟩
set_option maxRecDepth 100000 in
theorem kk_J2_indexOfSupplementary_4cfef : rt_Kc yJ2_indexOfSupplementary_4cfef (.code yJ2_indexOfSupplementary_4cfef cJ2_indexOfSupplementary_4cfef 7 (Option.some FieldType.int)) cJ2_indexOfSupplementary_4cfef 7 (Option.some FieldType.int) [] := ⟨(tc_7 _ (List.mem_of_getElem? (i := 209) rfl)), rfl, Or.inl ⟨rfl, rfl⟩, by decide +kernel, (tc_1 _ (List.mem_of_getElem? (i := 22) (by decide +kernel))), by decide +kernel, by decide +kernel⟩
set_option maxRecDepth 100000 in
theorem kk_J11_isValidCodePoint_9a6ad : rt_Kc yJ11_isValidCodePoint_9a6ad (.code yJ11_isValidCodePoint_9a6ad cJ11_isValidCodePoint_9a6ad 2 (Option.some FieldType.boolean)) cJ11_isValidCodePoint_9a6ad 2 (Option.some FieldType.boolean) [] := ⟨(tc_7 _ (List.mem_of_getElem? (i := 212) rfl)), rfl, Or.inl ⟨rfl, rfl⟩, by decide +kernel, (tc_1 _ (List.mem_of_getElem? (i := 25) (by decide +kernel))), by decide +kernel, by decide +kernel⟩
set_option maxRecDepth 100000 in
theorem kk_J11_highSurrogate_5068e : rt_Kc yJ11_highSurrogate_5068e (.code yJ11_highSurrogate_5068e cJ11_highSurrogate_5068e 1 (Option.some FieldType.char)) cJ11_highSurrogate_5068e 1 (Option.some FieldType.char) [] := ⟨(tc_7 _ (List.mem_of_getElem? (i := 215) rfl)), rfl, Or.inl ⟨rfl, rfl⟩, by decide +kernel, (tc_1 _ (List.mem_of_getElem? (i := 25) (by decide +kernel))), by decide +kernel, by decide +kernel⟩
set_option maxRecDepth 100000 in
theorem kk_J11_lowSurrogate_5068e : rt_Kc yJ11_lowSurrogate_5068e (.code yJ11_lowSurrogate_5068e cJ11_lowSurrogate_5068e 1 (Option.some FieldType.char)) cJ11_lowSurrogate_5068e 1 (Option.some FieldType.char) [] := ⟨(tc_7 _ (List.mem_of_getElem? (i := 219) rfl)), rfl, Or.inl ⟨rfl, rfl⟩, by decide +kernel, (tc_1 _ (List.mem_of_getElem? (i := 25) (by decide +kernel))), by decide +kernel, by decide +kernel⟩
set_option maxRecDepth 100000 in
theorem kk_X10_take : rt_Kc yX10_take (.code yX10_take cX10_take 2 (Option.none : Option FieldType)) cX10_take 2 (Option.none : Option FieldType) [] := ⟨(tc_7 _ (List.mem_of_getElem? (i := 224) rfl)), rfl, Or.inl ⟨rfl, rfl⟩, by decide +kernel, (tc_1 _ (List.mem_of_getElem? (i := 12) (by decide +kernel))), by decide +kernel, by decide +kernel⟩
set_option maxRecDepth 100000 in
theorem kk_X10_hex : rt_Kc yX10_hex (.code yX10_hex cX10_hex 1 (Option.some FieldType.int)) cX10_hex 1 (Option.some FieldType.int) [] := ⟨(tc_7 _ (List.mem_of_getElem? (i := 227) rfl)), rfl, Or.inl ⟨rfl, rfl⟩, by decide +kernel, (tc_1 _ (List.mem_of_getElem? (i := 12) (by decide +kernel))), by decide +kernel, by decide +kernel⟩
set_option maxRecDepth 100000 in
theorem kk_X10_same : rt_Kc yX10_same (.code yX10_same cX10_same 5 (Option.some FieldType.boolean)) cX10_same 5 (Option.some FieldType.boolean) [] := ⟨(tc_7 _ (List.mem_of_getElem? (i := 231) rfl)), rfl, Or.inl ⟨rfl, rfl⟩, by decide +kernel, (tc_1 _ (List.mem_of_getElem? (i := 12) (by decide +kernel))), by decide +kernel, by decide +kernel⟩
set_option maxRecDepth 100000 in
theorem kk_X10_list : rt_Kc yX10_list (.code yX10_list cX10_list 5 (Option.some FieldType.int)) cX10_list 5 (Option.some FieldType.int) [] := ⟨(tc_7 _ (List.mem_of_getElem? (i := 235) rfl)), rfl, Or.inl ⟨rfl, rfl⟩, by decide +kernel, (tc_1 _ (List.mem_of_getElem? (i := 12) (by decide +kernel))), by decide +kernel, by decide +kernel⟩
set_option maxRecDepth 100000 in
theorem kk_X10_number : rt_Kc yX10_number (.code yX10_number cX10_number 8 (Option.some FieldType.int)) cX10_number 8 (Option.some FieldType.int) [] := ⟨(tc_7 _ (List.mem_of_getElem? (i := 239) rfl)), rfl, Or.inl ⟨rfl, rfl⟩, by decide +kernel, (tc_1 _ (List.mem_of_getElem? (i := 12) (by decide +kernel))), by decide +kernel, by decide +kernel⟩
set_option maxRecDepth 100000 in
theorem kk_X10_schemaOf : rt_Kc yX10_schemaOf (.code yX10_schemaOf cX10_schemaOf 9 (Option.some FieldType.int)) cX10_schemaOf 9 (Option.some FieldType.int) [] := ⟨(tc_8 _ (List.mem_of_getElem? (i := 10) rfl)), rfl, Or.inl ⟨rfl, rfl⟩, by decide +kernel, (tc_1 _ (List.mem_of_getElem? (i := 12) (by decide +kernel))), by decide +kernel, by decide +kernel⟩
set_option maxRecDepth 100000 in
theorem kk_X10_word : rt_Kc yX10_word (.code yX10_word cX10_word 2 (Option.some FieldType.int)) cX10_word 2 (Option.some FieldType.int) [] := ⟨(tc_8 _ (List.mem_of_getElem? (i := 14) rfl)), rfl, Or.inl ⟨rfl, rfl⟩, by decide +kernel, (tc_1 _ (List.mem_of_getElem? (i := 12) (by decide +kernel))), by decide +kernel, by decide +kernel⟩
set_option maxRecDepth 100000 in
theorem kk_X10_is : rt_Kc yX10_is (.code yX10_is cX10_is 5 (Option.some FieldType.boolean)) cX10_is 5 (Option.some FieldType.boolean) [] := ⟨(tc_8 _ (List.mem_of_getElem? (i := 18) rfl)), rfl, Or.inl ⟨rfl, rfl⟩, by decide +kernel, (tc_1 _ (List.mem_of_getElem? (i := 12) (by decide +kernel))), by decide +kernel, by decide +kernel⟩
set_option maxRecDepth 100000 in
theorem kk_X10_defined : rt_Kc yX10_defined (.code yX10_defined cX10_defined 3 (Option.some FieldType.int)) cX10_defined 3 (Option.some FieldType.int) [] := ⟨(tc_8 _ (List.mem_of_getElem? (i := 27) rfl)), rfl, Or.inl ⟨rfl, rfl⟩, by decide +kernel, (tc_1 _ (List.mem_of_getElem? (i := 12) (by decide +kernel))), by decide +kernel, by decide +kernel⟩
set_option maxRecDepth 100000 in
theorem kk_X10_union : rt_Kc yX10_union (.code yX10_union cX10_union 9 (Option.some FieldType.int)) cX10_union 9 (Option.some FieldType.int) [] := ⟨(tc_8 _ (List.mem_of_getElem? (i := 31) rfl)), rfl, Or.inl ⟨rfl, rfl⟩, by decide +kernel, (tc_1 _ (List.mem_of_getElem? (i := 12) (by decide +kernel))), by decide +kernel, by decide +kernel⟩
set_option maxRecDepth 100000 in
theorem kk_X10_shape : rt_Kc yX10_shape (.code yX10_shape cX10_shape 2 (Option.some FieldType.int)) cX10_shape 2 (Option.some FieldType.int) [] := ⟨(tc_8 _ (List.mem_of_getElem? (i := 35) rfl)), rfl, Or.inl ⟨rfl, rfl⟩, by decide +kernel, (tc_1 _ (List.mem_of_getElem? (i := 12) (by decide +kernel))), by decide +kernel, by decide +kernel⟩
set_option maxRecDepth 100000 in
theorem kk_X10_alike : rt_Kc yX10_alike (.code yX10_alike cX10_alike 3 (Option.some FieldType.boolean)) cX10_alike 3 (Option.some FieldType.boolean) [] := ⟨(tc_8 _ (List.mem_of_getElem? (i := 39) rfl)), rfl, Or.inl ⟨rfl, rfl⟩, by decide +kernel, (tc_1 _ (List.mem_of_getElem? (i := 12) (by decide +kernel))), by decide +kernel, by decide +kernel⟩
set_option maxRecDepth 100000 in
theorem kk_X10_addKid : rt_Kc yX10_addKid (.code yX10_addKid cX10_addKid 4 (Option.some FieldType.int)) cX10_addKid 4 (Option.some FieldType.int) [] := ⟨(tc_8 _ (List.mem_of_getElem? (i := 43) rfl)), rfl, Or.inl ⟨rfl, rfl⟩, by decide +kernel, (tc_1 _ (List.mem_of_getElem? (i := 12) (by decide +kernel))), by decide +kernel, by decide +kernel⟩
set_option maxRecDepth 100000 in
theorem kk_X10_member : rt_Kc yX10_member (.code yX10_member cX10_member 4 (Option.some FieldType.int)) cX10_member 4 (Option.some FieldType.int) [] := ⟨(tc_8 _ (List.mem_of_getElem? (i := 48) rfl)), rfl, Or.inl ⟨rfl, rfl⟩, by decide +kernel, (tc_1 _ (List.mem_of_getElem? (i := 12) (by decide +kernel))), by decide +kernel, by decide +kernel⟩
set_option maxRecDepth 100000 in
theorem kk_X10_named : rt_Kc yX10_named (.code yX10_named cX10_named 8 (Option.some FieldType.int)) cX10_named 8 (Option.some FieldType.int) [] := ⟨(tc_8 _ (List.mem_of_getElem? (i := 59) rfl)), rfl, Or.inl ⟨rfl, rfl⟩, by decide +kernel, (tc_1 _ (List.mem_of_getElem? (i := 12) (by decide +kernel))), by decide +kernel, by decide +kernel⟩
set_option maxRecDepth 100000 in
theorem kk_X10_isName : rt_Kc yX10_isName (.code yX10_isName cX10_isName 6 (Option.some FieldType.boolean)) cX10_isName 6 (Option.some FieldType.boolean) [] := ⟨(tc_8 _ (List.mem_of_getElem? (i := 64) rfl)), rfl, Or.inl ⟨rfl, rfl⟩, by decide +kernel, (tc_1 _ (List.mem_of_getElem? (i := 12) (by decide +kernel))), by decide +kernel, by decide +kernel⟩
set_option maxRecDepth 100000 in
theorem kk_X10_symbols : rt_Kc yX10_symbols (.code yX10_symbols cX10_symbols 7 (Option.none : Option FieldType)) cX10_symbols 7 (Option.none : Option FieldType) [] := ⟨(tc_8 _ (List.mem_of_getElem? (i := 70) rfl)), rfl, Or.inl ⟨rfl, rfl⟩, by decide +kernel, (tc_1 _ (List.mem_of_getElem? (i := 12) (by decide +kernel))), by decide +kernel, by decide +kernel⟩
set_option maxRecDepth 100000 in
theorem kk_X10_symbol : rt_Kc yX10_symbol (.code yX10_symbol cX10_symbol 6 (Option.some FieldType.int)) cX10_symbol 6 (Option.some FieldType.int) [] := ⟨(tc_8 _ (List.mem_of_getElem? (i := 76) rfl)), rfl, Or.inl ⟨rfl, rfl⟩, by decide +kernel, (tc_1 _ (List.mem_of_getElem? (i := 12) (by decide +kernel))), by decide +kernel, by decide +kernel⟩
set_option maxRecDepth 100000 in
theorem kk_X10_fields : rt_Kc yX10_fields (.code yX10_fields cX10_fields 10 (Option.none : Option FieldType)) cX10_fields 10 (Option.none : Option FieldType) [] := ⟨(tc_8 _ (List.mem_of_getElem? (i := 80) rfl)), rfl, Or.inl ⟨rfl, rfl⟩, by decide +kernel, (tc_1 _ (List.mem_of_getElem? (i := 12) (by decide +kernel))), by decide +kernel, by decide +kernel⟩
set_option maxRecDepth 100000 in
theorem kk_X10_fit : rt_Kc yX10_fit (.code yX10_fit cX10_fit 6 (Option.none : Option FieldType)) cX10_fit 6 (Option.none : Option FieldType) [] := ⟨(tc_8 _ (List.mem_of_getElem? (i := 85) rfl)), rfl, Or.inl ⟨rfl, rfl⟩, by decide +kernel, (tc_1 _ (List.mem_of_getElem? (i := 12) (by decide +kernel))), by decide +kernel, by decide +kernel⟩
set_option maxRecDepth 100000 in
theorem kk_X10_memberLike : rt_Kc yX10_memberLike (.code yX10_memberLike cX10_memberLike 4 (Option.some FieldType.int)) cX10_memberLike 4 (Option.some FieldType.int) [] := ⟨(tc_8 _ (List.mem_of_getElem? (i := 89) rfl)), rfl, Or.inl ⟨rfl, rfl⟩, by decide +kernel, (tc_1 _ (List.mem_of_getElem? (i := 12) (by decide +kernel))), by decide +kernel, by decide +kernel⟩
set_option maxRecDepth 100000 in
theorem kk_X10_write : rt_Kc yX10_write (.code yX10_write cX10_write 3 (Option.none : Option FieldType)) cX10_write 3 (Option.none : Option FieldType) [] := ⟨(tc_8 _ (List.mem_of_getElem? (i := 93) rfl)), rfl, Or.inl ⟨rfl, rfl⟩, by decide +kernel, (tc_1 _ (List.mem_of_getElem? (i := 12) (by decide +kernel))), by decide +kernel, by decide +kernel⟩
set_option maxRecDepth 100000 in
theorem kk_X10_put : rt_Kc yX10_put (.code yX10_put cX10_put 3 (Option.none : Option FieldType)) cX10_put 3 (Option.none : Option FieldType) [] := ⟨(tc_8 _ (List.mem_of_getElem? (i := 99) rfl)), rfl, Or.inl ⟨rfl, rfl⟩, by decide +kernel, (tc_1 _ (List.mem_of_getElem? (i := 12) (by decide +kernel))), by decide +kernel, by decide +kernel⟩
set_option maxRecDepth 100000 in
theorem kk_X10_writeNamed : rt_Kc yX10_writeNamed (.code yX10_writeNamed cX10_writeNamed 3 (Option.none : Option FieldType)) cX10_writeNamed 3 (Option.none : Option FieldType) [] := ⟨(tc_8 _ (List.mem_of_getElem? (i := 108) rfl)), rfl, Or.inl ⟨rfl, rfl⟩, by decide +kernel, (tc_1 _ (List.mem_of_getElem? (i := 12) (by decide +kernel))), by decide +kernel, by decide +kernel⟩
set_option maxRecDepth 100000 in
theorem kk_X10_putName : rt_Kc yX10_putName (.code yX10_putName cX10_putName 3 (Option.none : Option FieldType)) cX10_putName 3 (Option.none : Option FieldType) [] := ⟨(tc_8 _ (List.mem_of_getElem? (i := 112) rfl)), rfl, Or.inl ⟨rfl, rfl⟩, by decide +kernel, (tc_1 _ (List.mem_of_getElem? (i := 12) (by decide +kernel))), by decide +kernel, by decide +kernel⟩
set_option maxRecDepth 100000 in
theorem kk_X10_figure : rt_Kc yX10_figure (.code yX10_figure cX10_figure 2 (Option.none : Option FieldType)) cX10_figure 2 (Option.none : Option FieldType) [] := ⟨(tc_8 _ (List.mem_of_getElem? (i := 119) rfl)), rfl, Or.inl ⟨rfl, rfl⟩, by decide +kernel, (tc_1 _ (List.mem_of_getElem? (i := 12) (by decide +kernel))), by decide +kernel, by decide +kernel⟩
set_option maxRecDepth 100000 in
theorem kk_X11_load : rt_Kc yX11_load (.code yX11_load cX11_load 4 (Option.some FieldType.int)) cX11_load 4 (Option.some FieldType.int) [] := ⟨(tc_8 _ (List.mem_of_getElem? (i := 127) rfl)), rfl, Or.inl ⟨rfl, rfl⟩, by decide +kernel, (tc_1 _ (List.mem_of_getElem? (i := 11) (by decide +kernel))), by decide +kernel, by decide +kernel⟩
set_option maxRecDepth 100000 in
theorem kk_X11_read : rt_Kc yX11_read (.code yX11_read cX11_read 3 (Option.none : Option FieldType)) cX11_read 3 (Option.none : Option FieldType) [] := ⟨(tc_8 _ (List.mem_of_getElem? (i := 131) rfl)), rfl, Or.inl ⟨rfl, rfl⟩, by decide +kernel, (tc_1 _ (List.mem_of_getElem? (i := 11) (by decide +kernel))), by decide +kernel, by decide +kernel⟩
set_option maxRecDepth 100000 in
theorem kk_X11_lookAtRows : rt_Kc yX11_lookAtRows (.codeWith yX11_lookAtRows cX11_lookAtRows 5 (Option.some FieldType.int) [(27, 76, 86, 93), (77, 83, 86, 93)]) cX11_lookAtRows 5 (Option.some FieldType.int) (tableOf [(27, 76, 86, 93), (77, 83, 86, 93)]) := ⟨(tc_8 _ (List.mem_of_getElem? (i := 135) rfl)), rfl, Or.inr ⟨_, rfl, rfl⟩, by decide +kernel, (tc_1 _ (List.mem_of_getElem? (i := 11) (by decide +kernel))), by decide +kernel, by decide +kernel⟩
set_option maxRecDepth 100000 in
theorem kk_X11_datum : rt_Kc yX11_datum (.code yX11_datum cX11_datum 14 (Option.none : Option FieldType)) cX11_datum 14 (Option.none : Option FieldType) [] := ⟨(tc_8 _ (List.mem_of_getElem? (i := 140) rfl)), rfl, Or.inl ⟨rfl, rfl⟩, by decide +kernel, (tc_1 _ (List.mem_of_getElem? (i := 11) (by decide +kernel))), by decide +kernel, by decide +kernel⟩
set_option maxRecDepth 100000 in
theorem kk_X11_failBytes : rt_Kc yX11_failBytes (.code yX11_failBytes cX11_failBytes 3 (Option.none : Option FieldType)) cX11_failBytes 3 (Option.none : Option FieldType) [] := ⟨(tc_8 _ (List.mem_of_getElem? (i := 144) rfl)), rfl, Or.inl ⟨rfl, rfl⟩, by decide +kernel, (tc_1 _ (List.mem_of_getElem? (i := 11) (by decide +kernel))), by decide +kernel, by decide +kernel⟩
set_option maxRecDepth 100000 in
theorem kk_X11_byteHere : rt_Kc yX11_byteHere (.code yX11_byteHere cX11_byteHere 1 (Option.some FieldType.int)) cX11_byteHere 1 (Option.some FieldType.int) [] := ⟨(tc_8 _ (List.mem_of_getElem? (i := 150) rfl)), rfl, Or.inl ⟨rfl, rfl⟩, by decide +kernel, (tc_1 _ (List.mem_of_getElem? (i := 11) (by decide +kernel))), by decide +kernel, by decide +kernel⟩
set_option maxRecDepth 100000 in
theorem kk_X11_put : rt_Kc yX11_put (.code yX11_put cX11_put 3 (Option.none : Option FieldType)) cX11_put 3 (Option.none : Option FieldType) [] := ⟨(tc_8 _ (List.mem_of_getElem? (i := 154) rfl)), rfl, Or.inl ⟨rfl, rfl⟩, by decide +kernel, (tc_1 _ (List.mem_of_getElem? (i := 11) (by decide +kernel))), by decide +kernel, by decide +kernel⟩
set_option maxRecDepth 100000 in
theorem kk_X11_putByte : rt_Kc yX11_putByte (.code yX11_putByte cX11_putByte 2 (Option.none : Option FieldType)) cX11_putByte 2 (Option.none : Option FieldType) [] := ⟨(tc_8 _ (List.mem_of_getElem? (i := 158) rfl)), rfl, Or.inl ⟨rfl, rfl⟩, by decide +kernel, (tc_1 _ (List.mem_of_getElem? (i := 11) (by decide +kernel))), by decide +kernel, by decide +kernel⟩
set_option maxRecDepth 100000 in
theorem kk_X11_varint : rt_Kc yX11_varint (.code yX11_varint cX11_varint 6 (Option.some FieldType.long)) cX11_varint 6 (Option.some FieldType.long) [] := ⟨(tc_8 _ (List.mem_of_getElem? (i := 162) rfl)), rfl, Or.inl ⟨rfl, rfl⟩, by decide +kernel, (tc_1 _ (List.mem_of_getElem? (i := 11) (by decide +kernel))), by decide +kernel, by decide +kernel⟩
set_option maxRecDepth 100000 in
theorem kk_X11_putVarint : rt_Kc yX11_putVarint (.code yX11_putVarint cX11_putVarint 5 (Option.none : Option FieldType)) cX11_putVarint 5 (Option.none : Option FieldType) [] := ⟨(tc_8 _ (List.mem_of_getElem? (i := 166) rfl)), rfl, Or.inl ⟨rfl, rfl⟩, by decide +kernel, (tc_1 _ (List.mem_of_getElem? (i := 11) (by decide +kernel))), by decide +kernel, by decide +kernel⟩
set_option maxRecDepth 100000 in
theorem kk_X11_string : rt_Kc yX11_string (.code yX11_string cX11_string 7 (Option.none : Option FieldType)) cX11_string 7 (Option.none : Option FieldType) [] := ⟨(tc_8 _ (List.mem_of_getElem? (i := 171) rfl)), rfl, Or.inl ⟨rfl, rfl⟩, by decide +kernel, (tc_1 _ (List.mem_of_getElem? (i := 11) (by decide +kernel))), by decide +kernel, by decide +kernel⟩
set_option maxRecDepth 100000 in
theorem kk_X11_passBytes : rt_Kc yX11_passBytes (.code yX11_passBytes cX11_passBytes 3 (Option.none : Option FieldType)) cX11_passBytes 3 (Option.none : Option FieldType) [] := ⟨(tc_8 _ (List.mem_of_getElem? (i := 175) rfl)), rfl, Or.inl ⟨rfl, rfl⟩, by decide +kernel, (tc_1 _ (List.mem_of_getElem? (i := 11) (by decide +kernel))), by decide +kernel, by decide +kernel⟩
set_option maxRecDepth 100000 in
theorem kk_X10_kid : rt_Kc yX10_kid (.code yX10_kid cX10_kid 5 (Option.some FieldType.int)) cX10_kid 5 (Option.some FieldType.int) [] := ⟨(tc_8 _ (List.mem_of_getElem? (i := 179) rfl)), rfl, Or.inl ⟨rfl, rfl⟩, by decide +kernel, (tc_1 _ (List.mem_of_getElem? (i := 12) (by decide +kernel))), by decide +kernel, by decide +kernel⟩
set_option maxRecDepth 100000 in
theorem kk_X11_blocks : rt_Kc yX11_blocks (.code yX11_blocks cX11_blocks 18 (Option.none : Option FieldType)) cX11_blocks 18 (Option.none : Option FieldType) [] := ⟨(tc_8 _ (List.mem_of_getElem? (i := 183) rfl)), rfl, Or.inl ⟨rfl, rfl⟩, by decide +kernel, (tc_1 _ (List.mem_of_getElem? (i := 11) (by decide +kernel))), by decide +kernel, by decide +kernel⟩
set_option maxRecDepth 100000 in
theorem kk_X11_item : rt_Kc yX11_item (.code yX11_item cX11_item 5 (Option.none : Option FieldType)) cX11_item 5 (Option.none : Option FieldType) [] := ⟨(tc_8 _ (List.mem_of_getElem? (i := 189) rfl)), rfl, Or.inl ⟨rfl, rfl⟩, by decide +kernel, (tc_1 _ (List.mem_of_getElem? (i := 11) (by decide +kernel))), by decide +kernel, by decide +kernel⟩
set_option maxRecDepth 100000 in
theorem kk_X11_insert : rt_Kc yX11_insert (.code yX11_insert cX11_insert 5 (Option.none : Option FieldType)) cX11_insert 5 (Option.none : Option FieldType) [] := ⟨(tc_8 _ (List.mem_of_getElem? (i := 193) rfl)), rfl, Or.inl ⟨rfl, rfl⟩, by decide +kernel, (tc_1 _ (List.mem_of_getElem? (i := 11) (by decide +kernel))), by decide +kernel, by decide +kernel⟩
set_option maxRecDepth 100000 in
theorem kk_X11_varintSize : rt_Kc yX11_varintSize (.code yX11_varintSize cX11_varintSize 5 (Option.some FieldType.int)) cX11_varintSize 5 (Option.some FieldType.int) [] := ⟨(tc_8 _ (List.mem_of_getElem? (i := 196) rfl)), rfl, Or.inl ⟨rfl, rfl⟩, by decide +kernel, (tc_1 _ (List.mem_of_getElem? (i := 11) (by decide +kernel))), by decide +kernel, by decide +kernel⟩
set_option maxRecDepth 100000 in
theorem kk_X11_place : rt_Kc yX11_place (.code yX11_place cX11_place 1 (Option.some FieldType.int)) cX11_place 1 (Option.some FieldType.int) [] := ⟨(tc_8 _ (List.mem_of_getElem? (i := 200) rfl)), rfl, Or.inl ⟨rfl, rfl⟩, by decide +kernel, (tc_1 _ (List.mem_of_getElem? (i := 11) (by decide +kernel))), by decide +kernel, by decide +kernel⟩
set_option maxRecDepth 100000 in
theorem kk_X11_rows : rt_Kc yX11_rows (.code yX11_rows cX11_rows 1 (Option.some FieldType.int)) cX11_rows 1 (Option.some FieldType.int) [] := ⟨(tc_8 _ (List.mem_of_getElem? (i := 204) rfl)), rfl, Or.inl ⟨rfl, rfl⟩, by decide +kernel, (tc_1 _ (List.mem_of_getElem? (i := 11) (by decide +kernel))), by decide +kernel, by decide +kernel⟩
set_option maxRecDepth 100000 in
theorem kk_X11_size : rt_Kc yX11_size (.code yX11_size cX11_size 2 (Option.some FieldType.int)) cX11_size 2 (Option.some FieldType.int) [] := ⟨(tc_8 _ (List.mem_of_getElem? (i := 208) rfl)), rfl, Or.inl ⟨rfl, rfl⟩, by decide +kernel, (tc_1 _ (List.mem_of_getElem? (i := 11) (by decide +kernel))), by decide +kernel, by decide +kernel⟩
set_option maxRecDepth 100000 in
theorem kk_X11_letter : rt_Kc yX11_letter (.code yX11_letter cX11_letter 4 (Option.some FieldType.int)) cX11_letter 4 (Option.some FieldType.int) [] := ⟨(tc_8 _ (List.mem_of_getElem? (i := 212) rfl)), rfl, Or.inl ⟨rfl, rfl⟩, by decide +kernel, (tc_1 _ (List.mem_of_getElem? (i := 11) (by decide +kernel))), by decide +kernel, by decide +kernel⟩
set_option maxRecDepth 100000 in
theorem kk_X11_read_ : rt_Kc yX11_read_ (.code yX11_read_ cX11_read_ 6 (Option.some FieldType.int)) cX11_read_ 6 (Option.some FieldType.int) [] := ⟨(tc_8 _ (List.mem_of_getElem? (i := 216) rfl)), rfl, Or.inl ⟨rfl, rfl⟩, by decide +kernel, (tc_1 _ (List.mem_of_getElem? (i := 11) (by decide +kernel))), by decide +kernel, by decide +kernel⟩
set_option maxRecDepth 100000 in
theorem kk_X11_pass : rt_Kc yX11_pass (.code yX11_pass cX11_pass 3 (Option.none : Option FieldType)) cX11_pass 3 (Option.none : Option FieldType) [] := ⟨(tc_8 _ (List.mem_of_getElem? (i := 220) rfl)), rfl, Or.inl ⟨rfl, rfl⟩, by decide +kernel, (tc_1 _ (List.mem_of_getElem? (i := 11) (by decide +kernel))), by decide +kernel, by decide +kernel⟩
set_option maxRecDepth 100000 in
theorem kk_X11_skip : rt_Kc yX11_skip (.code yX11_skip cX11_skip 7 (Option.none : Option FieldType)) cX11_skip 7 (Option.none : Option FieldType) [] := ⟨(tc_8 _ (List.mem_of_getElem? (i := 224) rfl)), rfl, Or.inl ⟨rfl, rfl⟩, by decide +kernel, (tc_1 _ (List.mem_of_getElem? (i := 11) (by decide +kernel))), by decide +kernel, by decide +kernel⟩
set_option maxRecDepth 100000 in
theorem kk_X11_readVarint : rt_Kc yX11_readVarint (.code yX11_readVarint cX11_readVarint 5 (Option.some FieldType.long)) cX11_readVarint 5 (Option.some FieldType.long) [] := ⟨(tc_8 _ (List.mem_of_getElem? (i := 228) rfl)), rfl, Or.inl ⟨rfl, rfl⟩, by decide +kernel, (tc_1 _ (List.mem_of_getElem? (i := 11) (by decide +kernel))), by decide +kernel, by decide +kernel⟩
set_option maxRecDepth 100000 in
theorem kk_X11_copyBytes : rt_Kc yX11_copyBytes (.code yX11_copyBytes cX11_copyBytes 6 (Option.none : Option FieldType)) cX11_copyBytes 6 (Option.none : Option FieldType) [] := ⟨(tc_8 _ (List.mem_of_getElem? (i := 232) rfl)), rfl, Or.inl ⟨rfl, rfl⟩, by decide +kernel, (tc_1 _ (List.mem_of_getElem? (i := 11) (by decide +kernel))), by decide +kernel, by decide +kernel⟩
set_option maxRecDepth 100000 in
theorem kk_X11_tellByte : rt_Kc yX11_tellByte (.code yX11_tellByte cX11_tellByte 2 (Option.none : Option FieldType)) cX11_tellByte 2 (Option.none : Option FieldType) [] := ⟨(tc_8 _ (List.mem_of_getElem? (i := 236) rfl)), rfl, Or.inl ⟨rfl, rfl⟩, by decide +kernel, (tc_1 _ (List.mem_of_getElem? (i := 11) (by decide +kernel))), by decide +kernel, by decide +kernel⟩
set_option maxRecDepth 100000 in
theorem kk_X11_tellRow : rt_Kc yX11_tellRow (.codeWith yX11_tellRow cX11_tellRow 3 (Option.some FieldType.int) [(10, 36, 39, 93)]) cX11_tellRow 3 (Option.some FieldType.int) (tableOf [(10, 36, 39, 93)]) := ⟨(tc_9 _ (List.mem_of_getElem? (i := 0) rfl)), rfl, Or.inr ⟨_, rfl, rfl⟩, by decide +kernel, (tc_1 _ (List.mem_of_getElem? (i := 11) (by decide +kernel))), by decide +kernel, by decide +kernel⟩
set_option maxRecDepth 100000 in
theorem kk_X11_tell : rt_Kc yX11_tell (.code yX11_tell cX11_tell 11 (Option.none : Option FieldType)) cX11_tell 11 (Option.none : Option FieldType) [] := ⟨(tc_9 _ (List.mem_of_getElem? (i := 4) rfl)), rfl, Or.inl ⟨rfl, rfl⟩, by decide +kernel, (tc_1 _ (List.mem_of_getElem? (i := 11) (by decide +kernel))), by decide +kernel, by decide +kernel⟩
set_option maxRecDepth 100000 in
theorem kk_X11_branchFor : rt_Kc yX11_branchFor (.code yX11_branchFor cX11_branchFor 5 (Option.some FieldType.int)) cX11_branchFor 5 (Option.some FieldType.int) [] := ⟨(tc_9 _ (List.mem_of_getElem? (i := 7) rfl)), rfl, Or.inl ⟨rfl, rfl⟩, by decide +kernel, (tc_1 _ (List.mem_of_getElem? (i := 11) (by decide +kernel))), by decide +kernel, by decide +kernel⟩
set_option maxRecDepth 100000 in
theorem kk_X11_matches : rt_Kc yX11_matches (.code yX11_matches cX11_matches 6 (Option.some FieldType.boolean)) cX11_matches 6 (Option.some FieldType.boolean) [] := ⟨(tc_9 _ (List.mem_of_getElem? (i := 10) rfl)), rfl, Or.inl ⟨rfl, rfl⟩, by decide +kernel, (tc_1 _ (List.mem_of_getElem? (i := 11) (by decide +kernel))), by decide +kernel, by decide +kernel⟩
set_option maxRecDepth 100000 in
theorem kk_X11_sixOf : rt_Kc yX11_sixOf (.code yX11_sixOf cX11_sixOf 1 (Option.some FieldType.boolean)) cX11_sixOf 1 (Option.some FieldType.boolean) [] := ⟨(tc_9 _ (List.mem_of_getElem? (i := 13) rfl)), rfl, Or.inl ⟨rfl, rfl⟩, by decide +kernel, (tc_1 _ (List.mem_of_getElem? (i := 11) (by decide +kernel))), by decide +kernel, by decide +kernel⟩
set_option maxRecDepth 100000 in
theorem kk_X11_matchesSix : rt_Kc yX11_matchesSix (.code yX11_matchesSix cX11_matchesSix 2 (Option.some FieldType.boolean)) cX11_matchesSix 2 (Option.some FieldType.boolean) [] := ⟨(tc_9 _ (List.mem_of_getElem? (i := 16) rfl)), rfl, Or.inl ⟨rfl, rfl⟩, by decide +kernel, (tc_1 _ (List.mem_of_getElem? (i := 11) (by decide +kernel))), by decide +kernel, by decide +kernel⟩
set_option maxRecDepth 100000 in
theorem kk_X11_unresolved : rt_Kc yX11_unresolved (.code yX11_unresolved cX11_unresolved 1 (Option.none : Option FieldType)) cX11_unresolved 1 (Option.none : Option FieldType) [] := ⟨(tc_9 _ (List.mem_of_getElem? (i := 21) rfl)), rfl, Or.inl ⟨rfl, rfl⟩, by decide +kernel, (tc_1 _ (List.mem_of_getElem? (i := 11) (by decide +kernel))), by decide +kernel, by decide +kernel⟩
set_option maxRecDepth 100000 in
theorem kk_X11_tellVarint : rt_Kc yX11_tellVarint (.code yX11_tellVarint cX11_tellVarint 5 (Option.none : Option FieldType)) cX11_tellVarint 5 (Option.none : Option FieldType) [] := ⟨(tc_9 _ (List.mem_of_getElem? (i := 25) rfl)), rfl, Or.inl ⟨rfl, rfl⟩, by decide +kernel, (tc_1 _ (List.mem_of_getElem? (i := 11) (by decide +kernel))), by decide +kernel, by decide +kernel⟩
set_option maxRecDepth 100000 in
theorem kk_X11_tellSix : rt_Kc yX11_tellSix (.code yX11_tellSix cX11_tellSix 4 (Option.none : Option FieldType)) cX11_tellSix 4 (Option.none : Option FieldType) [] := ⟨(tc_9 _ (List.mem_of_getElem? (i := 29) rfl)), rfl, Or.inl ⟨rfl, rfl⟩, by decide +kernel, (tc_1 _ (List.mem_of_getElem? (i := 11) (by decide +kernel))), by decide +kernel, by decide +kernel⟩
set_option maxRecDepth 100000 in
theorem kk_X11_tellRecord : rt_Kc yX11_tellRecord (.code yX11_tellRecord cX11_tellRecord 9 (Option.none : Option FieldType)) cX11_tellRecord 9 (Option.none : Option FieldType) [] := ⟨(tc_9 _ (List.mem_of_getElem? (i := 34) rfl)), rfl, Or.inl ⟨rfl, rfl⟩, by decide +kernel, (tc_1 _ (List.mem_of_getElem? (i := 11) (by decide +kernel))), by decide +kernel, by decide +kernel⟩
set_option maxRecDepth 100000 in
theorem kk_X11_fieldLike : rt_Kc yX11_fieldLike (.code yX11_fieldLike cX11_fieldLike 5 (Option.some FieldType.int)) cX11_fieldLike 5 (Option.some FieldType.int) [] := ⟨(tc_9 _ (List.mem_of_getElem? (i := 37) rfl)), rfl, Or.inl ⟨rfl, rfl⟩, by decide +kernel, (tc_1 _ (List.mem_of_getElem? (i := 11) (by decide +kernel))), by decide +kernel, by decide +kernel⟩
set_option maxRecDepth 100000 in
theorem kk_X11_tellDefault : rt_Kc yX11_tellDefault (.code yX11_tellDefault cX11_tellDefault 6 (Option.none : Option FieldType)) cX11_tellDefault 6 (Option.none : Option FieldType) [] := ⟨(tc_9 _ (List.mem_of_getElem? (i := 41) rfl)), rfl, Or.inl ⟨rfl, rfl⟩, by decide +kernel, (tc_1 _ (List.mem_of_getElem? (i := 11) (by decide +kernel))), by decide +kernel, by decide +kernel⟩
set_option maxRecDepth 100000 in
theorem kk_X11_tellString : rt_Kc yX11_tellString (.code yX11_tellString cX11_tellString 4 (Option.none : Option FieldType)) cX11_tellString 4 (Option.none : Option FieldType) [] := ⟨(tc_9 _ (List.mem_of_getElem? (i := 45) rfl)), rfl, Or.inl ⟨rfl, rfl⟩, by decide +kernel, (tc_1 _ (List.mem_of_getElem? (i := 11) (by decide +kernel))), by decide +kernel, by decide +kernel⟩
set_option maxRecDepth 100000 in
theorem kk_X11_all : rt_Kc yX11_all (.code yX11_all cX11_all 4 (Option.some FieldType.int)) cX11_all 4 (Option.some FieldType.int) [] := ⟨(tc_9 _ (List.mem_of_getElem? (i := 50) rfl)), rfl, Or.inl ⟨rfl, rfl⟩, by decide +kernel, (tc_1 _ (List.mem_of_getElem? (i := 11) (by decide +kernel))), by decide +kernel, by decide +kernel⟩
set_option maxRecDepth 100000 in
theorem kk_X11_fits : rt_Kc yX11_fits (.code yX11_fits cX11_fits 3 (Option.some FieldType.boolean)) cX11_fits 3 (Option.some FieldType.boolean) [] := ⟨(tc_9 _ (List.mem_of_getElem? (i := 54) rfl)), rfl, Or.inl ⟨rfl, rfl⟩, by decide +kernel, (tc_1 _ (List.mem_of_getElem? (i := 11) (by decide +kernel))), by decide +kernel, by decide +kernel⟩
set_option maxRecDepth 100000 in
theorem kk_X11_fitsAll : rt_Kc yX11_fitsAll (.code yX11_fitsAll cX11_fitsAll 5 (Option.some FieldType.boolean)) cX11_fitsAll 5 (Option.some FieldType.boolean) [] := ⟨(tc_9 _ (List.mem_of_getElem? (i := 58) rfl)), rfl, Or.inl ⟨rfl, rfl⟩, by decide +kernel, (tc_1 _ (List.mem_of_getElem? (i := 11) (by decide +kernel))), by decide +kernel, by decide +kernel⟩
set_option maxRecDepth 100000 in
theorem kk_X11_ask : rt_Kc yX11_ask (.code yX11_ask cX11_ask 3 (Option.none : Option FieldType)) cX11_ask 3 (Option.none : Option FieldType) [] := ⟨(tc_9 _ (List.mem_of_getElem? (i := 62) rfl)), rfl, Or.inl ⟨rfl, rfl⟩, by decide +kernel, (tc_1 _ (List.mem_of_getElem? (i := 11) (by decide +kernel))), by decide +kernel, by decide +kernel⟩
set_option maxRecDepth 100000 in
theorem kk_X11_may : rt_Kc yX11_may (.code yX11_may cX11_may 9 (Option.some FieldType.boolean)) cX11_may 9 (Option.some FieldType.boolean) [] := ⟨(tc_9 _ (List.mem_of_getElem? (i := 66) rfl)), rfl, Or.inl ⟨rfl, rfl⟩, by decide +kernel, (tc_1 _ (List.mem_of_getElem? (i := 11) (by decide +kernel))), by decide +kernel, by decide +kernel⟩

/-! ===== what the tables say, by place (written by gen_facts.py) ===== -/
theorem kl_0 : rt_lay RX0 TX0 2 := by
  intro w hw
  obtain ⟨k, hk, rfl⟩ := List.mem_map.mp hw
  have hk := List.mem_range.mp hk
  match k, hk with
  | 0, _ => exact ⟨(tc_1 _ (List.mem_of_getElem? (i := 42) (by decide +kernel))), rfl⟩
  | 1, _ => exact ⟨(tc_1 _ (List.mem_of_getElem? (i := 44) (by decide +kernel))), rfl⟩
  | n + 2, h => exact absurd h (by omega)
theorem kl_1 : rt_lay RX1 TX1 8 := by
  intro w hw
  obtain ⟨k, hk, rfl⟩ := List.mem_map.mp hw
  have hk := List.mem_range.mp hk
  match k, hk with
  | 0, _ => exact ⟨(tc_1 _ (List.mem_of_getElem? (i := 179) (by decide +kernel))), rfl⟩
  | 1, _ => exact ⟨(tc_1 _ (List.mem_of_getElem? (i := 181) (by decide +kernel))), rfl⟩
  | 2, _ => exact ⟨(tc_1 _ (List.mem_of_getElem? (i := 183) (by decide +kernel))), rfl⟩
  | 3, _ => exact ⟨(tc_1 _ (List.mem_of_getElem? (i := 185) (by decide +kernel))), rfl⟩
  | 4, _ => exact ⟨(tc_1 _ (List.mem_of_getElem? (i := 187) (by decide +kernel))), rfl⟩
  | 5, _ => exact ⟨(tc_1 _ (List.mem_of_getElem? (i := 189) (by decide +kernel))), rfl⟩
  | 6, _ => exact ⟨(tc_1 _ (List.mem_of_getElem? (i := 191) (by decide +kernel))), rfl⟩
  | 7, _ => exact ⟨(tc_1 _ (List.mem_of_getElem? (i := 193) (by decide +kernel))), rfl⟩
  | n + 8, h => exact absurd h (by omega)
theorem kl_2 : rt_lay RX2 TX2 3 := by
  intro w hw
  obtain ⟨k, hk, rfl⟩ := List.mem_map.mp hw
  have hk := List.mem_range.mp hk
  match k, hk with
  | 0, _ => exact ⟨(tc_1 _ (List.mem_of_getElem? (i := 114) (by decide +kernel))), rfl⟩
  | 1, _ => exact ⟨(tc_1 _ (List.mem_of_getElem? (i := 116) (by decide +kernel))), rfl⟩
  | 2, _ => exact ⟨(tc_1 _ (List.mem_of_getElem? (i := 118) (by decide +kernel))), rfl⟩
  | n + 3, h => exact absurd h (by omega)
theorem kl_3 : rt_lay RX3 TX3 5 := by
  intro w hw
  obtain ⟨k, hk, rfl⟩ := List.mem_map.mp hw
  have hk := List.mem_range.mp hk
  match k, hk with
  | 0, _ => exact ⟨(tc_2 _ (List.mem_of_getElem? (i := 45) (by decide +kernel))), rfl⟩
  | 1, _ => exact ⟨(tc_2 _ (List.mem_of_getElem? (i := 47) (by decide +kernel))), rfl⟩
  | 2, _ => exact ⟨(tc_2 _ (List.mem_of_getElem? (i := 49) (by decide +kernel))), rfl⟩
  | 3, _ => exact ⟨(tc_2 _ (List.mem_of_getElem? (i := 51) (by decide +kernel))), rfl⟩
  | 4, _ => exact ⟨(tc_2 _ (List.mem_of_getElem? (i := 53) (by decide +kernel))), rfl⟩
  | n + 5, h => exact absurd h (by omega)
theorem kl_4 : rt_lay RX4 TX4 8 := by
  intro w hw
  obtain ⟨k, hk, rfl⟩ := List.mem_map.mp hw
  have hk := List.mem_range.mp hk
  match k, hk with
  | 0, _ => exact ⟨(tc_1 _ (List.mem_of_getElem? (i := 210) (by decide +kernel))), rfl⟩
  | 1, _ => exact ⟨(tc_1 _ (List.mem_of_getElem? (i := 212) (by decide +kernel))), rfl⟩
  | 2, _ => exact ⟨(tc_1 _ (List.mem_of_getElem? (i := 214) (by decide +kernel))), rfl⟩
  | 3, _ => exact ⟨(tc_1 _ (List.mem_of_getElem? (i := 216) (by decide +kernel))), rfl⟩
  | 4, _ => exact ⟨(tc_1 _ (List.mem_of_getElem? (i := 218) (by decide +kernel))), rfl⟩
  | 5, _ => exact ⟨(tc_1 _ (List.mem_of_getElem? (i := 220) (by decide +kernel))), rfl⟩
  | 6, _ => exact ⟨(tc_1 _ (List.mem_of_getElem? (i := 222) (by decide +kernel))), rfl⟩
  | 7, _ => exact ⟨(tc_1 _ (List.mem_of_getElem? (i := 224) (by decide +kernel))), rfl⟩
  | n + 8, h => exact absurd h (by omega)
theorem kl_5 : rt_lay RX5 TX5 2 := by
  intro w hw
  obtain ⟨k, hk, rfl⟩ := List.mem_map.mp hw
  have hk := List.mem_range.mp hk
  match k, hk with
  | 0, _ => exact ⟨(tc_2 _ (List.mem_of_getElem? (i := 66) (by decide +kernel))), rfl⟩
  | 1, _ => exact ⟨(tc_2 _ (List.mem_of_getElem? (i := 68) (by decide +kernel))), rfl⟩
  | n + 2, h => exact absurd h (by omega)
theorem kl_6 : rt_lay RX6 TX6 13 := by
  intro w hw
  obtain ⟨k, hk, rfl⟩ := List.mem_map.mp hw
  have hk := List.mem_range.mp hk
  match k, hk with
  | 0, _ => exact ⟨(tc_1 _ (List.mem_of_getElem? (i := 144) (by decide +kernel))), rfl⟩
  | 1, _ => exact ⟨(tc_1 _ (List.mem_of_getElem? (i := 146) (by decide +kernel))), rfl⟩
  | 2, _ => exact ⟨(tc_1 _ (List.mem_of_getElem? (i := 148) (by decide +kernel))), rfl⟩
  | 3, _ => exact ⟨(tc_1 _ (List.mem_of_getElem? (i := 150) (by decide +kernel))), rfl⟩
  | 4, _ => exact ⟨(tc_1 _ (List.mem_of_getElem? (i := 152) (by decide +kernel))), rfl⟩
  | 5, _ => exact ⟨(tc_1 _ (List.mem_of_getElem? (i := 154) (by decide +kernel))), rfl⟩
  | 6, _ => exact ⟨(tc_1 _ (List.mem_of_getElem? (i := 156) (by decide +kernel))), rfl⟩
  | 7, _ => exact ⟨(tc_1 _ (List.mem_of_getElem? (i := 158) (by decide +kernel))), rfl⟩
  | 8, _ => exact ⟨(tc_1 _ (List.mem_of_getElem? (i := 160) (by decide +kernel))), rfl⟩
  | 9, _ => exact ⟨(tc_1 _ (List.mem_of_getElem? (i := 162) (by decide +kernel))), rfl⟩
  | 10, _ => exact ⟨(tc_1 _ (List.mem_of_getElem? (i := 164) (by decide +kernel))), rfl⟩
  | 11, _ => exact ⟨(tc_1 _ (List.mem_of_getElem? (i := 166) (by decide +kernel))), rfl⟩
  | 12, _ => exact ⟨(tc_1 _ (List.mem_of_getElem? (i := 168) (by decide +kernel))), rfl⟩
  | n + 13, h => exact absurd h (by omega)
theorem kl_7 : rt_lay RX7 TX7 12 := by
  intro w hw
  obtain ⟨k, hk, rfl⟩ := List.mem_map.mp hw
  have hk := List.mem_range.mp hk
  match k, hk with
  | 0, _ => exact ⟨(tc_2 _ (List.mem_of_getElem? (i := 7) (by decide +kernel))), rfl⟩
  | 1, _ => exact ⟨(tc_2 _ (List.mem_of_getElem? (i := 9) (by decide +kernel))), rfl⟩
  | 2, _ => exact ⟨(tc_2 _ (List.mem_of_getElem? (i := 11) (by decide +kernel))), rfl⟩
  | 3, _ => exact ⟨(tc_2 _ (List.mem_of_getElem? (i := 13) (by decide +kernel))), rfl⟩
  | 4, _ => exact ⟨(tc_2 _ (List.mem_of_getElem? (i := 15) (by decide +kernel))), rfl⟩
  | 5, _ => exact ⟨(tc_2 _ (List.mem_of_getElem? (i := 17) (by decide +kernel))), rfl⟩
  | 6, _ => exact ⟨(tc_2 _ (List.mem_of_getElem? (i := 19) (by decide +kernel))), rfl⟩
  | 7, _ => exact ⟨(tc_2 _ (List.mem_of_getElem? (i := 21) (by decide +kernel))), rfl⟩
  | 8, _ => exact ⟨(tc_2 _ (List.mem_of_getElem? (i := 23) (by decide +kernel))), rfl⟩
  | 9, _ => exact ⟨(tc_2 _ (List.mem_of_getElem? (i := 25) (by decide +kernel))), rfl⟩
  | 10, _ => exact ⟨(tc_2 _ (List.mem_of_getElem? (i := 27) (by decide +kernel))), rfl⟩
  | 11, _ => exact ⟨(tc_2 _ (List.mem_of_getElem? (i := 29) (by decide +kernel))), rfl⟩
  | n + 12, h => exact absurd h (by omega)
theorem kl_8 : rt_lay RX8 TX8 13 := by
  intro w hw
  obtain ⟨k, hk, rfl⟩ := List.mem_map.mp hw
  have hk := List.mem_range.mp hk
  match k, hk with
  | 0, _ => exact ⟨(tc_1 _ (List.mem_of_getElem? (i := 71) (by decide +kernel))), rfl⟩
  | 1, _ => exact ⟨(tc_1 _ (List.mem_of_getElem? (i := 73) (by decide +kernel))), rfl⟩
  | 2, _ => exact ⟨(tc_1 _ (List.mem_of_getElem? (i := 75) (by decide +kernel))), rfl⟩
  | 3, _ => exact ⟨(tc_1 _ (List.mem_of_getElem? (i := 77) (by decide +kernel))), rfl⟩
  | 4, _ => exact ⟨(tc_1 _ (List.mem_of_getElem? (i := 79) (by decide +kernel))), rfl⟩
  | 5, _ => exact ⟨(tc_1 _ (List.mem_of_getElem? (i := 81) (by decide +kernel))), rfl⟩
  | 6, _ => exact ⟨(tc_1 _ (List.mem_of_getElem? (i := 83) (by decide +kernel))), rfl⟩
  | 7, _ => exact ⟨(tc_1 _ (List.mem_of_getElem? (i := 85) (by decide +kernel))), rfl⟩
  | 8, _ => exact ⟨(tc_1 _ (List.mem_of_getElem? (i := 87) (by decide +kernel))), rfl⟩
  | 9, _ => exact ⟨(tc_1 _ (List.mem_of_getElem? (i := 89) (by decide +kernel))), rfl⟩
  | 10, _ => exact ⟨(tc_1 _ (List.mem_of_getElem? (i := 91) (by decide +kernel))), rfl⟩
  | 11, _ => exact ⟨(tc_1 _ (List.mem_of_getElem? (i := 93) (by decide +kernel))), rfl⟩
  | 12, _ => exact ⟨(tc_1 _ (List.mem_of_getElem? (i := 95) (by decide +kernel))), rfl⟩
  | n + 13, h => exact absurd h (by omega)
theorem kl_9 : rt_lay RX9 TX9 12 := by
  intro w hw
  obtain ⟨k, hk, rfl⟩ := List.mem_map.mp hw
  have hk := List.mem_range.mp hk
  match k, hk with
  | 0, _ => exact ⟨(tc_2 _ (List.mem_of_getElem? (i := 83) (by decide +kernel))), rfl⟩
  | 1, _ => exact ⟨(tc_2 _ (List.mem_of_getElem? (i := 85) (by decide +kernel))), rfl⟩
  | 2, _ => exact ⟨(tc_2 _ (List.mem_of_getElem? (i := 87) (by decide +kernel))), rfl⟩
  | 3, _ => exact ⟨(tc_2 _ (List.mem_of_getElem? (i := 89) (by decide +kernel))), rfl⟩
  | 4, _ => exact ⟨(tc_2 _ (List.mem_of_getElem? (i := 91) (by decide +kernel))), rfl⟩
  | 5, _ => exact ⟨(tc_2 _ (List.mem_of_getElem? (i := 93) (by decide +kernel))), rfl⟩
  | 6, _ => exact ⟨(tc_2 _ (List.mem_of_getElem? (i := 95) (by decide +kernel))), rfl⟩
  | 7, _ => exact ⟨(tc_2 _ (List.mem_of_getElem? (i := 97) (by decide +kernel))), rfl⟩
  | 8, _ => exact ⟨(tc_2 _ (List.mem_of_getElem? (i := 99) (by decide +kernel))), rfl⟩
  | 9, _ => exact ⟨(tc_2 _ (List.mem_of_getElem? (i := 101) (by decide +kernel))), rfl⟩
  | 10, _ => exact ⟨(tc_2 _ (List.mem_of_getElem? (i := 103) (by decide +kernel))), rfl⟩
  | 11, _ => exact ⟨(tc_2 _ (List.mem_of_getElem? (i := 105) (by decide +kernel))), rfl⟩
  | n + 12, h => exact absurd h (by omega)
theorem kl_10 : rt_lay RX10 TX10 35 := by
  intro w hw
  obtain ⟨k, hk, rfl⟩ := List.mem_map.mp hw
  have hk := List.mem_range.mp hk
  match k, hk with
  | 0, _ => exact ⟨(tc_6 _ (List.mem_of_getElem? (i := 163) (by decide +kernel))), rfl⟩
  | 1, _ => exact ⟨(tc_6 _ (List.mem_of_getElem? (i := 165) (by decide +kernel))), rfl⟩
  | 2, _ => exact ⟨(tc_6 _ (List.mem_of_getElem? (i := 167) (by decide +kernel))), rfl⟩
  | 3, _ => exact ⟨(tc_6 _ (List.mem_of_getElem? (i := 169) (by decide +kernel))), rfl⟩
  | 4, _ => exact ⟨(tc_6 _ (List.mem_of_getElem? (i := 171) (by decide +kernel))), rfl⟩
  | 5, _ => exact ⟨(tc_6 _ (List.mem_of_getElem? (i := 173) (by decide +kernel))), rfl⟩
  | 6, _ => exact ⟨(tc_6 _ (List.mem_of_getElem? (i := 175) (by decide +kernel))), rfl⟩
  | 7, _ => exact ⟨(tc_6 _ (List.mem_of_getElem? (i := 177) (by decide +kernel))), rfl⟩
  | 8, _ => exact ⟨(tc_6 _ (List.mem_of_getElem? (i := 179) (by decide +kernel))), rfl⟩
  | 9, _ => exact ⟨(tc_6 _ (List.mem_of_getElem? (i := 181) (by decide +kernel))), rfl⟩
  | 10, _ => exact ⟨(tc_6 _ (List.mem_of_getElem? (i := 183) (by decide +kernel))), rfl⟩
  | 11, _ => exact ⟨(tc_6 _ (List.mem_of_getElem? (i := 185) (by decide +kernel))), rfl⟩
  | 12, _ => exact ⟨(tc_6 _ (List.mem_of_getElem? (i := 187) (by decide +kernel))), rfl⟩
  | 13, _ => exact ⟨(tc_6 _ (List.mem_of_getElem? (i := 189) (by decide +kernel))), rfl⟩
  | 14, _ => exact ⟨(tc_6 _ (List.mem_of_getElem? (i := 191) (by decide +kernel))), rfl⟩
  | 15, _ => exact ⟨(tc_6 _ (List.mem_of_getElem? (i := 193) (by decide +kernel))), rfl⟩
  | 16, _ => exact ⟨(tc_6 _ (List.mem_of_getElem? (i := 195) (by decide +kernel))), rfl⟩
  | 17, _ => exact ⟨(tc_6 _ (List.mem_of_getElem? (i := 197) (by decide +kernel))), rfl⟩
  | 18, _ => exact ⟨(tc_6 _ (List.mem_of_getElem? (i := 199) (by decide +kernel))), rfl⟩
  | 19, _ => exact ⟨(tc_6 _ (List.mem_of_getElem? (i := 201) (by decide +kernel))), rfl⟩
  | 20, _ => exact ⟨(tc_6 _ (List.mem_of_getElem? (i := 203) (by decide +kernel))), rfl⟩
  | 21, _ => exact ⟨(tc_6 _ (List.mem_of_getElem? (i := 205) (by decide +kernel))), rfl⟩
  | 22, _ => exact ⟨(tc_6 _ (List.mem_of_getElem? (i := 207) (by decide +kernel))), rfl⟩
  | 23, _ => exact ⟨(tc_6 _ (List.mem_of_getElem? (i := 209) (by decide +kernel))), rfl⟩
  | 24, _ => exact ⟨(tc_6 _ (List.mem_of_getElem? (i := 211) (by decide +kernel))), rfl⟩
  | 25, _ => exact ⟨(tc_6 _ (List.mem_of_getElem? (i := 213) (by decide +kernel))), rfl⟩
  | 26, _ => exact ⟨(tc_6 _ (List.mem_of_getElem? (i := 215) (by decide +kernel))), rfl⟩
  | 27, _ => exact ⟨(tc_6 _ (List.mem_of_getElem? (i := 217) (by decide +kernel))), rfl⟩
  | 28, _ => exact ⟨(tc_6 _ (List.mem_of_getElem? (i := 219) (by decide +kernel))), rfl⟩
  | 29, _ => exact ⟨(tc_6 _ (List.mem_of_getElem? (i := 221) (by decide +kernel))), rfl⟩
  | 30, _ => exact ⟨(tc_6 _ (List.mem_of_getElem? (i := 223) (by decide +kernel))), rfl⟩
  | 31, _ => exact ⟨(tc_6 _ (List.mem_of_getElem? (i := 225) (by decide +kernel))), rfl⟩
  | 32, _ => exact ⟨(tc_6 _ (List.mem_of_getElem? (i := 227) (by decide +kernel))), rfl⟩
  | 33, _ => exact ⟨(tc_6 _ (List.mem_of_getElem? (i := 229) (by decide +kernel))), rfl⟩
  | 34, _ => exact ⟨(tc_6 _ (List.mem_of_getElem? (i := 231) (by decide +kernel))), rfl⟩
  | n + 35, h => exact absurd h (by omega)
theorem kl_11 : rt_lay RX11 TX11 26 := by
  intro w hw
  obtain ⟨k, hk, rfl⟩ := List.mem_map.mp hw
  have hk := List.mem_range.mp hk
  match k, hk with
  | 0, _ => exact ⟨(tc_7 _ (List.mem_of_getElem? (i := 22) (by decide +kernel))), rfl⟩
  | 1, _ => exact ⟨(tc_7 _ (List.mem_of_getElem? (i := 24) (by decide +kernel))), rfl⟩
  | 2, _ => exact ⟨(tc_7 _ (List.mem_of_getElem? (i := 26) (by decide +kernel))), rfl⟩
  | 3, _ => exact ⟨(tc_7 _ (List.mem_of_getElem? (i := 28) (by decide +kernel))), rfl⟩
  | 4, _ => exact ⟨(tc_7 _ (List.mem_of_getElem? (i := 30) (by decide +kernel))), rfl⟩
  | 5, _ => exact ⟨(tc_7 _ (List.mem_of_getElem? (i := 32) (by decide +kernel))), rfl⟩
  | 6, _ => exact ⟨(tc_7 _ (List.mem_of_getElem? (i := 34) (by decide +kernel))), rfl⟩
  | 7, _ => exact ⟨(tc_7 _ (List.mem_of_getElem? (i := 36) (by decide +kernel))), rfl⟩
  | 8, _ => exact ⟨(tc_7 _ (List.mem_of_getElem? (i := 38) (by decide +kernel))), rfl⟩
  | 9, _ => exact ⟨(tc_7 _ (List.mem_of_getElem? (i := 40) (by decide +kernel))), rfl⟩
  | 10, _ => exact ⟨(tc_7 _ (List.mem_of_getElem? (i := 42) (by decide +kernel))), rfl⟩
  | 11, _ => exact ⟨(tc_7 _ (List.mem_of_getElem? (i := 44) (by decide +kernel))), rfl⟩
  | 12, _ => exact ⟨(tc_7 _ (List.mem_of_getElem? (i := 46) (by decide +kernel))), rfl⟩
  | 13, _ => exact ⟨(tc_7 _ (List.mem_of_getElem? (i := 48) (by decide +kernel))), rfl⟩
  | 14, _ => exact ⟨(tc_7 _ (List.mem_of_getElem? (i := 50) (by decide +kernel))), rfl⟩
  | 15, _ => exact ⟨(tc_7 _ (List.mem_of_getElem? (i := 52) (by decide +kernel))), rfl⟩
  | 16, _ => exact ⟨(tc_7 _ (List.mem_of_getElem? (i := 54) (by decide +kernel))), rfl⟩
  | 17, _ => exact ⟨(tc_7 _ (List.mem_of_getElem? (i := 56) (by decide +kernel))), rfl⟩
  | 18, _ => exact ⟨(tc_7 _ (List.mem_of_getElem? (i := 58) (by decide +kernel))), rfl⟩
  | 19, _ => exact ⟨(tc_7 _ (List.mem_of_getElem? (i := 60) (by decide +kernel))), rfl⟩
  | 20, _ => exact ⟨(tc_7 _ (List.mem_of_getElem? (i := 62) (by decide +kernel))), rfl⟩
  | 21, _ => exact ⟨(tc_7 _ (List.mem_of_getElem? (i := 64) (by decide +kernel))), rfl⟩
  | 22, _ => exact ⟨(tc_7 _ (List.mem_of_getElem? (i := 66) (by decide +kernel))), rfl⟩
  | 23, _ => exact ⟨(tc_7 _ (List.mem_of_getElem? (i := 68) (by decide +kernel))), rfl⟩
  | 24, _ => exact ⟨(tc_7 _ (List.mem_of_getElem? (i := 70) (by decide +kernel))), rfl⟩
  | 25, _ => exact ⟨(tc_7 _ (List.mem_of_getElem? (i := 72) (by decide +kernel))), rfl⟩
  | n + 26, h => exact absurd h (by omega)
theorem kf_RX0_9 : rt_Fd RX0 9 0 0 := ⟨RX0, TX0, 2, "RecordTeller$Cells", "cell", "[I", true, (tc_1 _ (List.mem_of_getElem? (i := 40) (by decide +kernel))), rfl, kl_0, rfl, by decide⟩
theorem kp_RX0_9  : rt_Fp RX0 "<init>" 9 0 0 (.array .int) := ⟨RX0, TX0, 2, "RecordTeller$Cells", "cell", "[I", true, tyX0, (tc_1 _ (List.mem_of_getElem? (i := 40) (by decide +kernel))), rfl, kl_0, rfl, by decide, tyX0_ok, nmX0, by decide +kernel, Or.inr ⟨rfl, rfl, rfl⟩⟩
theorem kf_RX0_15 : rt_Fd RX0 15 0 1 := ⟨RX0, TX0, 2, "RecordTeller$Cells", "used", "I", false, (tc_1 _ (List.mem_of_getElem? (i := 41) (by decide +kernel))), rfl, kl_0, rfl, by decide⟩
theorem kp_RX0_15 {nm : String} : rt_Fp RX0 nm 15 0 1 .int := ⟨RX0, TX0, 2, "RecordTeller$Cells", "used", "I", false, tyX0, (tc_1 _ (List.mem_of_getElem? (i := 41) (by decide +kernel))), rfl, kl_0, rfl, by decide, tyX0_ok, nmX0, by decide +kernel, Or.inl rfl⟩
theorem kf_RX8_16 : rt_Fd RX8 16 8 0 := ⟨RX8, TX8, 13, "RecordTeller$Text", "kind", "LRecordTeller$Cells;", true, (tc_1 _ (List.mem_of_getElem? (i := 58) (by decide +kernel))), rfl, kl_8, rfl, by decide⟩
theorem kp_RX8_16  : rt_Fp RX8 "<init>" 16 8 0 (.object "RecordTeller$Cells") := ⟨RX8, TX8, 13, "RecordTeller$Text", "kind", "LRecordTeller$Cells;", true, tyX8, (tc_1 _ (List.mem_of_getElem? (i := 58) (by decide +kernel))), rfl, kl_8, rfl, by decide, tyX8_ok, nmX8, by decide +kernel, Or.inr ⟨rfl, rfl, rfl⟩⟩
theorem kf_RX8_20 : rt_Fd RX8 20 8 1 := ⟨RX8, TX8, 13, "RecordTeller$Text", "begin", "LRecordTeller$Cells;", true, (tc_1 _ (List.mem_of_getElem? (i := 59) (by decide +kernel))), rfl, kl_8, rfl, by decide⟩
theorem kp_RX8_20  : rt_Fp RX8 "<init>" 20 8 1 (.object "RecordTeller$Cells") := ⟨RX8, TX8, 13, "RecordTeller$Text", "begin", "LRecordTeller$Cells;", true, tyX8, (tc_1 _ (List.mem_of_getElem? (i := 59) (by decide +kernel))), rfl, kl_8, rfl, by decide, tyX8_ok, nmX8, by decide +kernel, Or.inr ⟨rfl, rfl, rfl⟩⟩
theorem kf_RX8_23 : rt_Fd RX8 23 8 2 := ⟨RX8, TX8, 13, "RecordTeller$Text", "next", "LRecordTeller$Cells;", true, (tc_1 _ (List.mem_of_getElem? (i := 60) (by decide +kernel))), rfl, kl_8, rfl, by decide⟩
theorem kp_RX8_23  : rt_Fp RX8 "<init>" 23 8 2 (.object "RecordTeller$Cells") := ⟨RX8, TX8, 13, "RecordTeller$Text", "next", "LRecordTeller$Cells;", true, tyX8, (tc_1 _ (List.mem_of_getElem? (i := 60) (by decide +kernel))), rfl, kl_8, rfl, by decide, tyX8_ok, nmX8, by decide +kernel, Or.inr ⟨rfl, rfl, rfl⟩⟩
theorem kf_RX8_26 : rt_Fd RX8 26 8 3 := ⟨RX8, TX8, 13, "RecordTeller$Text", "first", "LRecordTeller$Cells;", true, (tc_1 _ (List.mem_of_getElem? (i := 61) (by decide +kernel))), rfl, kl_8, rfl, by decide⟩
theorem kp_RX8_26  : rt_Fp RX8 "<init>" 26 8 3 (.object "RecordTeller$Cells") := ⟨RX8, TX8, 13, "RecordTeller$Text", "first", "LRecordTeller$Cells;", true, tyX8, (tc_1 _ (List.mem_of_getElem? (i := 61) (by decide +kernel))), rfl, kl_8, rfl, by decide, tyX8_ok, nmX8, by decide +kernel, Or.inr ⟨rfl, rfl, rfl⟩⟩
theorem kf_RX8_29 : rt_Fd RX8 29 8 4 := ⟨RX8, TX8, 13, "RecordTeller$Text", "parts", "LRecordTeller$Cells;", true, (tc_1 _ (List.mem_of_getElem? (i := 62) (by decide +kernel))), rfl, kl_8, rfl, by decide⟩
theorem kp_RX8_29  : rt_Fp RX8 "<init>" 29 8 4 (.object "RecordTeller$Cells") := ⟨RX8, TX8, 13, "RecordTeller$Text", "parts", "LRecordTeller$Cells;", true, tyX8, (tc_1 _ (List.mem_of_getElem? (i := 62) (by decide +kernel))), rfl, kl_8, rfl, by decide, tyX8_ok, nmX8, by decide +kernel, Or.inr ⟨rfl, rfl, rfl⟩⟩
theorem kf_RX8_32 : rt_Fd RX8 32 8 5 := ⟨RX8, TX8, 13, "RecordTeller$Text", "word", "LRecordTeller$Cells;", true, (tc_1 _ (List.mem_of_getElem? (i := 63) (by decide +kernel))), rfl, kl_8, rfl, by decide⟩
theorem kp_RX8_32  : rt_Fp RX8 "<init>" 32 8 5 (.object "RecordTeller$Cells") := ⟨RX8, TX8, 13, "RecordTeller$Text", "word", "LRecordTeller$Cells;", true, tyX8, (tc_1 _ (List.mem_of_getElem? (i := 63) (by decide +kernel))), rfl, kl_8, rfl, by decide, tyX8_ok, nmX8, by decide +kernel, Or.inr ⟨rfl, rfl, rfl⟩⟩
theorem kf_RX8_35 : rt_Fd RX8 35 8 6 := ⟨RX8, TX8, 13, "RecordTeller$Text", "key", "LRecordTeller$Cells;", true, (tc_1 _ (List.mem_of_getElem? (i := 64) (by decide +kernel))), rfl, kl_8, rfl, by decide⟩
theorem kp_RX8_35  : rt_Fp RX8 "<init>" 35 8 6 (.object "RecordTeller$Cells") := ⟨RX8, TX8, 13, "RecordTeller$Text", "key", "LRecordTeller$Cells;", true, tyX8, (tc_1 _ (List.mem_of_getElem? (i := 64) (by decide +kernel))), rfl, kl_8, rfl, by decide, tyX8_ok, nmX8, by decide +kernel, Or.inr ⟨rfl, rfl, rfl⟩⟩
theorem kf_RX8_38 : rt_Fd RX8 38 8 7 := ⟨RX8, TX8, 13, "RecordTeller$Text", "number", "[J", true, (tc_1 _ (List.mem_of_getElem? (i := 65) (by decide +kernel))), rfl, kl_8, rfl, by decide⟩
theorem kp_RX8_38  : rt_Fp RX8 "<init>" 38 8 7 (.array .long) := ⟨RX8, TX8, 13, "RecordTeller$Text", "number", "[J", true, tyX8, (tc_1 _ (List.mem_of_getElem? (i := 65) (by decide +kernel))), rfl, kl_8, rfl, by decide, tyX8_ok, nmX8, by decide +kernel, Or.inr ⟨rfl, rfl, rfl⟩⟩
theorem kf_RX8_42 : rt_Fd RX8 42 8 8 := ⟨RX8, TX8, 13, "RecordTeller$Text", "letters", "LRecordTeller$Cells;", true, (tc_1 _ (List.mem_of_getElem? (i := 66) (by decide +kernel))), rfl, kl_8, rfl, by decide⟩
theorem kp_RX8_42  : rt_Fp RX8 "<init>" 42 8 8 (.object "RecordTeller$Cells") := ⟨RX8, TX8, 13, "RecordTeller$Text", "letters", "LRecordTeller$Cells;", true, tyX8, (tc_1 _ (List.mem_of_getElem? (i := 66) (by decide +kernel))), rfl, kl_8, rfl, by decide, tyX8_ok, nmX8, by decide +kernel, Or.inr ⟨rfl, rfl, rfl⟩⟩
theorem kf_RX8_57 : rt_Fd RX8 57 8 9 := ⟨RX8, TX8, 13, "RecordTeller$Text", "tape", "LRecordTeller$Cells;", false, (tc_1 _ (List.mem_of_getElem? (i := 67) (by decide +kernel))), rfl, kl_8, rfl, by decide⟩
theorem kp_RX8_57 {nm : String} : rt_Fp RX8 nm 57 8 9 (.object "RecordTeller$Cells") := ⟨RX8, TX8, 13, "RecordTeller$Text", "tape", "LRecordTeller$Cells;", false, tyX8, (tc_1 _ (List.mem_of_getElem? (i := 67) (by decide +kernel))), rfl, kl_8, rfl, by decide, tyX8_ok, nmX8, by decide +kernel, Or.inl rfl⟩
theorem kf_RX8_63 : rt_Fd RX8 63 8 10 := ⟨RX8, TX8, 13, "RecordTeller$Text", "values", "I", false, (tc_1 _ (List.mem_of_getElem? (i := 68) (by decide +kernel))), rfl, kl_8, rfl, by decide⟩
theorem kp_RX8_63 {nm : String} : rt_Fp RX8 nm 63 8 10 .int := ⟨RX8, TX8, 13, "RecordTeller$Text", "values", "I", false, tyX8, (tc_1 _ (List.mem_of_getElem? (i := 68) (by decide +kernel))), rfl, kl_8, rfl, by decide, tyX8_ok, nmX8, by decide +kernel, Or.inl rfl⟩
theorem kf_RX8_67 : rt_Fd RX8 67 8 11 := ⟨RX8, TX8, 13, "RecordTeller$Text", "pos", "I", false, (tc_1 _ (List.mem_of_getElem? (i := 69) (by decide +kernel))), rfl, kl_8, rfl, by decide⟩
theorem kp_RX8_67 {nm : String} : rt_Fp RX8 nm 67 8 11 .int := ⟨RX8, TX8, 13, "RecordTeller$Text", "pos", "I", false, tyX8, (tc_1 _ (List.mem_of_getElem? (i := 69) (by decide +kernel))), rfl, kl_8, rfl, by decide, tyX8_ok, nmX8, by decide +kernel, Or.inl rfl⟩
theorem kf_RX8_70 : rt_Fd RX8 70 8 12 := ⟨RX8, TX8, 13, "RecordTeller$Text", "wrong", "I", false, (tc_1 _ (List.mem_of_getElem? (i := 70) (by decide +kernel))), rfl, kl_8, rfl, by decide⟩
theorem kp_RX8_70 {nm : String} : rt_Fp RX8 nm 70 8 12 .int := ⟨RX8, TX8, 13, "RecordTeller$Text", "wrong", "I", false, tyX8, (tc_1 _ (List.mem_of_getElem? (i := 70) (by decide +kernel))), rfl, kl_8, rfl, by decide, tyX8_ok, nmX8, by decide +kernel, Or.inl rfl⟩
theorem kf_RX2_15 : rt_Fd RX2 15 2 0 := ⟨RX2, TX2, 3, "RecordTeller$Filler", "text", "LRecordTeller$Text;", false, (tc_1 _ (List.mem_of_getElem? (i := 111) (by decide +kernel))), rfl, kl_2, rfl, by decide⟩
theorem kp_RX2_15 {nm : String} : rt_Fp RX2 nm 15 2 0 (.object "RecordTeller$Text") := ⟨RX2, TX2, 3, "RecordTeller$Filler", "text", "LRecordTeller$Text;", false, tyX2, (tc_1 _ (List.mem_of_getElem? (i := 111) (by decide +kernel))), rfl, kl_2, rfl, by decide, tyX2_ok, nmX2, by decide +kernel, Or.inl rfl⟩
theorem kf_RX2_19 : rt_Fd RX2 19 2 1 := ⟨RX2, TX2, 3, "RecordTeller$Filler", "plan", "LRecordTeller$Schema;", false, (tc_1 _ (List.mem_of_getElem? (i := 112) (by decide +kernel))), rfl, kl_2, rfl, by decide⟩
theorem kp_RX2_19 {nm : String} : rt_Fp RX2 nm 19 2 1 (.object "RecordTeller$Schema") := ⟨RX2, TX2, 3, "RecordTeller$Filler", "plan", "LRecordTeller$Schema;", false, tyX2, (tc_1 _ (List.mem_of_getElem? (i := 112) (by decide +kernel))), rfl, kl_2, rfl, by decide, tyX2_ok, nmX2, by decide +kernel, Or.inl rfl⟩
theorem kf_RX2_9 : rt_Fd RX2 9 2 2 := ⟨RX2, TX2, 3, "RecordTeller$Filler", "wrong", "I", false, (tc_1 _ (List.mem_of_getElem? (i := 113) (by decide +kernel))), rfl, kl_2, rfl, by decide⟩
theorem kp_RX2_9 {nm : String} : rt_Fp RX2 nm 9 2 2 .int := ⟨RX2, TX2, 3, "RecordTeller$Filler", "wrong", "I", false, tyX2, (tc_1 _ (List.mem_of_getElem? (i := 113) (by decide +kernel))), rfl, kl_2, rfl, by decide, tyX2_ok, nmX2, by decide +kernel, Or.inl rfl⟩
theorem kf_RX6_16 : rt_Fd RX6 16 6 0 := ⟨RX6, TX6, 13, "RecordTeller$Schema", "kind", "LRecordTeller$Cells;", true, (tc_1 _ (List.mem_of_getElem? (i := 131) (by decide +kernel))), rfl, kl_6, rfl, by decide⟩
theorem kp_RX6_16  : rt_Fp RX6 "<init>" 16 6 0 (.object "RecordTeller$Cells") := ⟨RX6, TX6, 13, "RecordTeller$Schema", "kind", "LRecordTeller$Cells;", true, tyX6, (tc_1 _ (List.mem_of_getElem? (i := 131) (by decide +kernel))), rfl, kl_6, rfl, by decide, tyX6_ok, nmX6, by decide +kernel, Or.inr ⟨rfl, rfl, rfl⟩⟩
theorem kf_RX6_20 : rt_Fd RX6 20 6 1 := ⟨RX6, TX6, 13, "RecordTeller$Schema", "name", "LRecordTeller$Cells;", true, (tc_1 _ (List.mem_of_getElem? (i := 132) (by decide +kernel))), rfl, kl_6, rfl, by decide⟩
theorem kp_RX6_20  : rt_Fp RX6 "<init>" 20 6 1 (.object "RecordTeller$Cells") := ⟨RX6, TX6, 13, "RecordTeller$Schema", "name", "LRecordTeller$Cells;", true, tyX6, (tc_1 _ (List.mem_of_getElem? (i := 132) (by decide +kernel))), rfl, kl_6, rfl, by decide, tyX6_ok, nmX6, by decide +kernel, Or.inr ⟨rfl, rfl, rfl⟩⟩
theorem kf_RX6_23 : rt_Fd RX6 23 6 2 := ⟨RX6, TX6, 13, "RecordTeller$Schema", "detail", "LRecordTeller$Cells;", true, (tc_1 _ (List.mem_of_getElem? (i := 133) (by decide +kernel))), rfl, kl_6, rfl, by decide⟩
theorem kp_RX6_23  : rt_Fp RX6 "<init>" 23 6 2 (.object "RecordTeller$Cells") := ⟨RX6, TX6, 13, "RecordTeller$Schema", "detail", "LRecordTeller$Cells;", true, tyX6, (tc_1 _ (List.mem_of_getElem? (i := 133) (by decide +kernel))), rfl, kl_6, rfl, by decide, tyX6_ok, nmX6, by decide +kernel, Or.inr ⟨rfl, rfl, rfl⟩⟩
theorem kf_RX6_26 : rt_Fd RX6 26 6 3 := ⟨RX6, TX6, 13, "RecordTeller$Schema", "width", "LRecordTeller$Cells;", true, (tc_1 _ (List.mem_of_getElem? (i := 134) (by decide +kernel))), rfl, kl_6, rfl, by decide⟩
theorem kp_RX6_26  : rt_Fp RX6 "<init>" 26 6 3 (.object "RecordTeller$Cells") := ⟨RX6, TX6, 13, "RecordTeller$Schema", "width", "LRecordTeller$Cells;", true, tyX6, (tc_1 _ (List.mem_of_getElem? (i := 134) (by decide +kernel))), rfl, kl_6, rfl, by decide, tyX6_ok, nmX6, by decide +kernel, Or.inr ⟨rfl, rfl, rfl⟩⟩
theorem kf_RX6_29 : rt_Fd RX6 29 6 4 := ⟨RX6, TX6, 13, "RecordTeller$Schema", "firstPart", "LRecordTeller$Cells;", true, (tc_1 _ (List.mem_of_getElem? (i := 135) (by decide +kernel))), rfl, kl_6, rfl, by decide⟩
theorem kp_RX6_29  : rt_Fp RX6 "<init>" 29 6 4 (.object "RecordTeller$Cells") := ⟨RX6, TX6, 13, "RecordTeller$Schema", "firstPart", "LRecordTeller$Cells;", true, tyX6, (tc_1 _ (List.mem_of_getElem? (i := 135) (by decide +kernel))), rfl, kl_6, rfl, by decide, tyX6_ok, nmX6, by decide +kernel, Or.inr ⟨rfl, rfl, rfl⟩⟩
theorem kf_RX6_32 : rt_Fd RX6 32 6 5 := ⟨RX6, TX6, 13, "RecordTeller$Schema", "parts", "LRecordTeller$Cells;", true, (tc_1 _ (List.mem_of_getElem? (i := 136) (by decide +kernel))), rfl, kl_6, rfl, by decide⟩
theorem kp_RX6_32  : rt_Fp RX6 "<init>" 32 6 5 (.object "RecordTeller$Cells") := ⟨RX6, TX6, 13, "RecordTeller$Schema", "parts", "LRecordTeller$Cells;", true, tyX6, (tc_1 _ (List.mem_of_getElem? (i := 136) (by decide +kernel))), rfl, kl_6, rfl, by decide, tyX6_ok, nmX6, by decide +kernel, Or.inr ⟨rfl, rfl, rfl⟩⟩
theorem kf_RX6_35 : rt_Fd RX6 35 6 6 := ⟨RX6, TX6, 13, "RecordTeller$Schema", "partNode", "LRecordTeller$Cells;", true, (tc_1 _ (List.mem_of_getElem? (i := 137) (by decide +kernel))), rfl, kl_6, rfl, by decide⟩
theorem kp_RX6_35  : rt_Fp RX6 "<init>" 35 6 6 (.object "RecordTeller$Cells") := ⟨RX6, TX6, 13, "RecordTeller$Schema", "partNode", "LRecordTeller$Cells;", true, tyX6, (tc_1 _ (List.mem_of_getElem? (i := 137) (by decide +kernel))), rfl, kl_6, rfl, by decide, tyX6_ok, nmX6, by decide +kernel, Or.inr ⟨rfl, rfl, rfl⟩⟩
theorem kf_RX6_38 : rt_Fd RX6 38 6 7 := ⟨RX6, TX6, 13, "RecordTeller$Schema", "partName", "LRecordTeller$Cells;", true, (tc_1 _ (List.mem_of_getElem? (i := 138) (by decide +kernel))), rfl, kl_6, rfl, by decide⟩
theorem kp_RX6_38  : rt_Fp RX6 "<init>" 38 6 7 (.object "RecordTeller$Cells") := ⟨RX6, TX6, 13, "RecordTeller$Schema", "partName", "LRecordTeller$Cells;", true, tyX6, (tc_1 _ (List.mem_of_getElem? (i := 138) (by decide +kernel))), rfl, kl_6, rfl, by decide, tyX6_ok, nmX6, by decide +kernel, Or.inr ⟨rfl, rfl, rfl⟩⟩
theorem kf_RX6_41 : rt_Fd RX6 41 6 8 := ⟨RX6, TX6, 13, "RecordTeller$Schema", "defaultStart", "LRecordTeller$Cells;", true, (tc_1 _ (List.mem_of_getElem? (i := 139) (by decide +kernel))), rfl, kl_6, rfl, by decide⟩
theorem kp_RX6_41  : rt_Fp RX6 "<init>" 41 6 8 (.object "RecordTeller$Cells") := ⟨RX6, TX6, 13, "RecordTeller$Schema", "defaultStart", "LRecordTeller$Cells;", true, tyX6, (tc_1 _ (List.mem_of_getElem? (i := 139) (by decide +kernel))), rfl, kl_6, rfl, by decide, tyX6_ok, nmX6, by decide +kernel, Or.inr ⟨rfl, rfl, rfl⟩⟩
theorem kf_RX6_44 : rt_Fd RX6 44 6 9 := ⟨RX6, TX6, 13, "RecordTeller$Schema", "defaultEnd", "LRecordTeller$Cells;", true, (tc_1 _ (List.mem_of_getElem? (i := 140) (by decide +kernel))), rfl, kl_6, rfl, by decide⟩
theorem kp_RX6_44  : rt_Fp RX6 "<init>" 44 6 9 (.object "RecordTeller$Cells") := ⟨RX6, TX6, 13, "RecordTeller$Schema", "defaultEnd", "LRecordTeller$Cells;", true, tyX6, (tc_1 _ (List.mem_of_getElem? (i := 140) (by decide +kernel))), rfl, kl_6, rfl, by decide, tyX6_ok, nmX6, by decide +kernel, Or.inr ⟨rfl, rfl, rfl⟩⟩
theorem kf_RX6_47 : rt_Fd RX6 47 6 10 := ⟨RX6, TX6, 13, "RecordTeller$Schema", "names", "LRecordTeller$Cells;", true, (tc_1 _ (List.mem_of_getElem? (i := 141) (by decide +kernel))), rfl, kl_6, rfl, by decide⟩
theorem kp_RX6_47  : rt_Fp RX6 "<init>" 47 6 10 (.object "RecordTeller$Cells") := ⟨RX6, TX6, 13, "RecordTeller$Schema", "names", "LRecordTeller$Cells;", true, tyX6, (tc_1 _ (List.mem_of_getElem? (i := 141) (by decide +kernel))), rfl, kl_6, rfl, by decide, tyX6_ok, nmX6, by decide +kernel, Or.inr ⟨rfl, rfl, rfl⟩⟩
theorem kf_RX6_50 : rt_Fd RX6 50 6 11 := ⟨RX6, TX6, 13, "RecordTeller$Schema", "defaults", "LRecordTeller$Cells;", true, (tc_1 _ (List.mem_of_getElem? (i := 142) (by decide +kernel))), rfl, kl_6, rfl, by decide⟩
theorem kp_RX6_50  : rt_Fp RX6 "<init>" 50 6 11 (.object "RecordTeller$Cells") := ⟨RX6, TX6, 13, "RecordTeller$Schema", "defaults", "LRecordTeller$Cells;", true, tyX6, (tc_1 _ (List.mem_of_getElem? (i := 142) (by decide +kernel))), rfl, kl_6, rfl, by decide, tyX6_ok, nmX6, by decide +kernel, Or.inr ⟨rfl, rfl, rfl⟩⟩
theorem kf_RX6_64 : rt_Fd RX6 64 6 12 := ⟨RX6, TX6, 13, "RecordTeller$Schema", "root", "I", false, (tc_1 _ (List.mem_of_getElem? (i := 143) (by decide +kernel))), rfl, kl_6, rfl, by decide⟩
theorem kp_RX6_64 {nm : String} : rt_Fp RX6 nm 64 6 12 .int := ⟨RX6, TX6, 13, "RecordTeller$Schema", "root", "I", false, tyX6, (tc_1 _ (List.mem_of_getElem? (i := 143) (by decide +kernel))), rfl, kl_6, rfl, by decide, tyX6_ok, nmX6, by decide +kernel, Or.inl rfl⟩
theorem kf_RX1_12 : rt_Fd RX1 12 1 0 := ⟨RX1, TX1, 8, "RecordTeller$Drafter", "filler", "LRecordTeller$Filler;", true, (tc_1 _ (List.mem_of_getElem? (i := 171) (by decide +kernel))), rfl, kl_1, rfl, by decide⟩
theorem kp_RX1_12  : rt_Fp RX1 "<init>" 12 1 0 (.object "RecordTeller$Filler") := ⟨RX1, TX1, 8, "RecordTeller$Drafter", "filler", "LRecordTeller$Filler;", true, tyX1, (tc_1 _ (List.mem_of_getElem? (i := 171) (by decide +kernel))), rfl, kl_1, rfl, by decide, tyX1_ok, nmX1, by decide +kernel, Or.inr ⟨rfl, rfl, rfl⟩⟩
theorem kf_RX1_23 : rt_Fd RX1 23 1 1 := ⟨RX1, TX1, 8, "RecordTeller$Drafter", "lateFields", "LRecordTeller$Cells;", true, (tc_1 _ (List.mem_of_getElem? (i := 172) (by decide +kernel))), rfl, kl_1, rfl, by decide⟩
theorem kp_RX1_23  : rt_Fp RX1 "<init>" 23 1 1 (.object "RecordTeller$Cells") := ⟨RX1, TX1, 8, "RecordTeller$Drafter", "lateFields", "LRecordTeller$Cells;", true, tyX1, (tc_1 _ (List.mem_of_getElem? (i := 172) (by decide +kernel))), rfl, kl_1, rfl, by decide, tyX1_ok, nmX1, by decide +kernel, Or.inr ⟨rfl, rfl, rfl⟩⟩
theorem kf_RX1_27 : rt_Fd RX1 27 1 2 := ⟨RX1, TX1, 8, "RecordTeller$Drafter", "lateValues", "LRecordTeller$Cells;", true, (tc_1 _ (List.mem_of_getElem? (i := 173) (by decide +kernel))), rfl, kl_1, rfl, by decide⟩
theorem kp_RX1_27  : rt_Fp RX1 "<init>" 27 1 2 (.object "RecordTeller$Cells") := ⟨RX1, TX1, 8, "RecordTeller$Drafter", "lateValues", "LRecordTeller$Cells;", true, tyX1, (tc_1 _ (List.mem_of_getElem? (i := 173) (by decide +kernel))), rfl, kl_1, rfl, by decide, tyX1_ok, nmX1, by decide +kernel, Or.inr ⟨rfl, rfl, rfl⟩⟩
theorem kf_RX1_33 : rt_Fd RX1 33 1 3 := ⟨RX1, TX1, 8, "RecordTeller$Drafter", "plan", "LRecordTeller$Schema;", false, (tc_1 _ (List.mem_of_getElem? (i := 174) (by decide +kernel))), rfl, kl_1, rfl, by decide⟩
theorem kp_RX1_33 {nm : String} : rt_Fp RX1 nm 33 1 3 (.object "RecordTeller$Schema") := ⟨RX1, TX1, 8, "RecordTeller$Drafter", "plan", "LRecordTeller$Schema;", false, tyX1, (tc_1 _ (List.mem_of_getElem? (i := 174) (by decide +kernel))), rfl, kl_1, rfl, by decide, tyX1_ok, nmX1, by decide +kernel, Or.inl rfl⟩
theorem kf_RX1_37 : rt_Fd RX1 37 1 4 := ⟨RX1, TX1, 8, "RecordTeller$Drafter", "text", "LRecordTeller$Text;", false, (tc_1 _ (List.mem_of_getElem? (i := 175) (by decide +kernel))), rfl, kl_1, rfl, by decide⟩
theorem kp_RX1_37 {nm : String} : rt_Fp RX1 nm 37 1 4 (.object "RecordTeller$Text") := ⟨RX1, TX1, 8, "RecordTeller$Drafter", "text", "LRecordTeller$Text;", false, tyX1, (tc_1 _ (List.mem_of_getElem? (i := 175) (by decide +kernel))), rfl, kl_1, rfl, by decide, tyX1_ok, nmX1, by decide +kernel, Or.inl rfl⟩
theorem kf_RX1_47 : rt_Fd RX1 47 1 5 := ⟨RX1, TX1, 8, "RecordTeller$Drafter", "lookedAt", "I", false, (tc_1 _ (List.mem_of_getElem? (i := 176) (by decide +kernel))), rfl, kl_1, rfl, by decide⟩
theorem kp_RX1_47 {nm : String} : rt_Fp RX1 nm 47 1 5 .int := ⟨RX1, TX1, 8, "RecordTeller$Drafter", "lookedAt", "I", false, tyX1, (tc_1 _ (List.mem_of_getElem? (i := 176) (by decide +kernel))), rfl, kl_1, rfl, by decide, tyX1_ok, nmX1, by decide +kernel, Or.inl rfl⟩
theorem kf_RX1_51 : rt_Fd RX1 51 1 6 := ⟨RX1, TX1, 8, "RecordTeller$Drafter", "fault", "I", false, (tc_1 _ (List.mem_of_getElem? (i := 177) (by decide +kernel))), rfl, kl_1, rfl, by decide⟩
theorem kp_RX1_51 {nm : String} : rt_Fp RX1 nm 51 1 6 .int := ⟨RX1, TX1, 8, "RecordTeller$Drafter", "fault", "I", false, tyX1, (tc_1 _ (List.mem_of_getElem? (i := 177) (by decide +kernel))), rfl, kl_1, rfl, by decide, tyX1_ok, nmX1, by decide +kernel, Or.inl rfl⟩
theorem kf_RX1_54 : rt_Fd RX1 54 1 7 := ⟨RX1, TX1, 8, "RecordTeller$Drafter", "wrong", "I", false, (tc_1 _ (List.mem_of_getElem? (i := 178) (by decide +kernel))), rfl, kl_1, rfl, by decide⟩
theorem kp_RX1_54 {nm : String} : rt_Fp RX1 nm 54 1 7 .int := ⟨RX1, TX1, 8, "RecordTeller$Drafter", "wrong", "I", false, tyX1, (tc_1 _ (List.mem_of_getElem? (i := 178) (by decide +kernel))), rfl, kl_1, rfl, by decide, tyX1_ok, nmX1, by decide +kernel, Or.inl rfl⟩
theorem kf_RX4_27 : rt_Fd RX4 27 4 0 := ⟨RX4, TX4, 8, "RecordTeller$Looker", "tape", "LRecordTeller$Cells;", false, (tc_1 _ (List.mem_of_getElem? (i := 202) (by decide +kernel))), rfl, kl_4, rfl, by decide⟩
theorem kp_RX4_27 {nm : String} : rt_Fp RX4 nm 27 4 0 (.object "RecordTeller$Cells") := ⟨RX4, TX4, 8, "RecordTeller$Looker", "tape", "LRecordTeller$Cells;", false, tyX4, (tc_1 _ (List.mem_of_getElem? (i := 202) (by decide +kernel))), rfl, kl_4, rfl, by decide, tyX4_ok, nmX4, by decide +kernel, Or.inl rfl⟩
theorem kf_RX4_31 : rt_Fd RX4 31 4 1 := ⟨RX4, TX4, 8, "RecordTeller$Looker", "schema", "LRecordTeller$Schema;", false, (tc_1 _ (List.mem_of_getElem? (i := 203) (by decide +kernel))), rfl, kl_4, rfl, by decide⟩
theorem kp_RX4_31 {nm : String} : rt_Fp RX4 nm 31 4 1 (.object "RecordTeller$Schema") := ⟨RX4, TX4, 8, "RecordTeller$Looker", "schema", "LRecordTeller$Schema;", false, tyX4, (tc_1 _ (List.mem_of_getElem? (i := 203) (by decide +kernel))), rfl, kl_4, rfl, by decide, tyX4_ok, nmX4, by decide +kernel, Or.inl rfl⟩
theorem kf_RX4_41 : rt_Fd RX4 41 4 2 := ⟨RX4, TX4, 8, "RecordTeller$Looker", "made", "LRecordTeller$Cells;", false, (tc_1 _ (List.mem_of_getElem? (i := 204) (by decide +kernel))), rfl, kl_4, rfl, by decide⟩
theorem kp_RX4_41 {nm : String} : rt_Fp RX4 nm 41 4 2 (.object "RecordTeller$Cells") := ⟨RX4, TX4, 8, "RecordTeller$Looker", "made", "LRecordTeller$Cells;", false, tyX4, (tc_1 _ (List.mem_of_getElem? (i := 204) (by decide +kernel))), rfl, kl_4, rfl, by decide, tyX4_ok, nmX4, by decide +kernel, Or.inl rfl⟩
theorem kf_RX4_18 : rt_Fd RX4 18 4 3 := ⟨RX4, TX4, 8, "RecordTeller$Looker", "pos", "I", false, (tc_1 _ (List.mem_of_getElem? (i := 205) (by decide +kernel))), rfl, kl_4, rfl, by decide⟩
theorem kp_RX4_18 {nm : String} : rt_Fp RX4 nm 18 4 3 .int := ⟨RX4, TX4, 8, "RecordTeller$Looker", "pos", "I", false, tyX4, (tc_1 _ (List.mem_of_getElem? (i := 205) (by decide +kernel))), rfl, kl_4, rfl, by decide, tyX4_ok, nmX4, by decide +kernel, Or.inl rfl⟩
theorem kf_RX4_47 : rt_Fd RX4 47 4 4 := ⟨RX4, TX4, 8, "RecordTeller$Looker", "data", "I", false, (tc_1 _ (List.mem_of_getElem? (i := 206) (by decide +kernel))), rfl, kl_4, rfl, by decide⟩
theorem kp_RX4_47 {nm : String} : rt_Fp RX4 nm 47 4 4 .int := ⟨RX4, TX4, 8, "RecordTeller$Looker", "data", "I", false, tyX4, (tc_1 _ (List.mem_of_getElem? (i := 206) (by decide +kernel))), rfl, kl_4, rfl, by decide, tyX4_ok, nmX4, by decide +kernel, Or.inl rfl⟩
theorem kf_RX4_50 : rt_Fd RX4 50 4 5 := ⟨RX4, TX4, 8, "RecordTeller$Looker", "items", "I", false, (tc_1 _ (List.mem_of_getElem? (i := 207) (by decide +kernel))), rfl, kl_4, rfl, by decide⟩
theorem kp_RX4_50 {nm : String} : rt_Fp RX4 nm 50 4 5 .int := ⟨RX4, TX4, 8, "RecordTeller$Looker", "items", "I", false, tyX4, (tc_1 _ (List.mem_of_getElem? (i := 207) (by decide +kernel))), rfl, kl_4, rfl, by decide, tyX4_ok, nmX4, by decide +kernel, Or.inl rfl⟩
theorem kf_RX4_15 : rt_Fd RX4 15 4 6 := ⟨RX4, TX4, 8, "RecordTeller$Looker", "fault", "I", false, (tc_1 _ (List.mem_of_getElem? (i := 208) (by decide +kernel))), rfl, kl_4, rfl, by decide⟩
theorem kp_RX4_15 {nm : String} : rt_Fp RX4 nm 15 4 6 .int := ⟨RX4, TX4, 8, "RecordTeller$Looker", "fault", "I", false, tyX4, (tc_1 _ (List.mem_of_getElem? (i := 208) (by decide +kernel))), rfl, kl_4, rfl, by decide, tyX4_ok, nmX4, by decide +kernel, Or.inl rfl⟩
theorem kf_RX4_9 : rt_Fd RX4 9 4 7 := ⟨RX4, TX4, 8, "RecordTeller$Looker", "wrong", "I", false, (tc_1 _ (List.mem_of_getElem? (i := 209) (by decide +kernel))), rfl, kl_4, rfl, by decide⟩
theorem kp_RX4_9 {nm : String} : rt_Fp RX4 nm 9 4 7 .int := ⟨RX4, TX4, 8, "RecordTeller$Looker", "wrong", "I", false, tyX4, (tc_1 _ (List.mem_of_getElem? (i := 209) (by decide +kernel))), rfl, kl_4, rfl, by decide, tyX4_ok, nmX4, by decide +kernel, Or.inl rfl⟩
theorem kf_RX7_14 : rt_Fd RX7 14 7 0 := ⟨RX7, TX7, 12, "RecordTeller$Teller", "told", "LRecordTeller$Cells;", true, (tc_1 _ (List.mem_of_getElem? (i := 235) (by decide +kernel))), rfl, kl_7, rfl, by decide⟩
theorem kp_RX7_14  : rt_Fp RX7 "<init>" 14 7 0 (.object "RecordTeller$Cells") := ⟨RX7, TX7, 12, "RecordTeller$Teller", "told", "LRecordTeller$Cells;", true, tyX7, (tc_1 _ (List.mem_of_getElem? (i := 235) (by decide +kernel))), rfl, kl_7, rfl, by decide, tyX7_ok, nmX7, by decide +kernel, Or.inr ⟨rfl, rfl, rfl⟩⟩
theorem kf_RX7_22 : rt_Fd RX7 22 7 1 := ⟨RX7, TX7, 12, "RecordTeller$Teller", "origins", "LRecordTeller$Cells;", true, (tc_1 _ (List.mem_of_getElem? (i := 236) (by decide +kernel))), rfl, kl_7, rfl, by decide⟩
theorem kp_RX7_22  : rt_Fp RX7 "<init>" 22 7 1 (.object "RecordTeller$Cells") := ⟨RX7, TX7, 12, "RecordTeller$Teller", "origins", "LRecordTeller$Cells;", true, tyX7, (tc_1 _ (List.mem_of_getElem? (i := 236) (by decide +kernel))), rfl, kl_7, rfl, by decide, tyX7_ok, nmX7, by decide +kernel, Or.inr ⟨rfl, rfl, rfl⟩⟩
theorem kf_RX7_25 : rt_Fd RX7 25 7 2 := ⟨RX7, TX7, 12, "RecordTeller$Teller", "begins", "LRecordTeller$Cells;", true, (tc_1 _ (List.mem_of_getElem? (i := 237) (by decide +kernel))), rfl, kl_7, rfl, by decide⟩
theorem kp_RX7_25  : rt_Fp RX7 "<init>" 25 7 2 (.object "RecordTeller$Cells") := ⟨RX7, TX7, 12, "RecordTeller$Teller", "begins", "LRecordTeller$Cells;", true, tyX7, (tc_1 _ (List.mem_of_getElem? (i := 237) (by decide +kernel))), rfl, kl_7, rfl, by decide, tyX7_ok, nmX7, by decide +kernel, Or.inr ⟨rfl, rfl, rfl⟩⟩
theorem kf_RX7_28 : rt_Fd RX7 28 7 3 := ⟨RX7, TX7, 12, "RecordTeller$Teller", "toldIn", "LRecordTeller$Cells;", true, (tc_1 _ (List.mem_of_getElem? (i := 238) (by decide +kernel))), rfl, kl_7, rfl, by decide⟩
theorem kp_RX7_28  : rt_Fp RX7 "<init>" 28 7 3 (.object "RecordTeller$Cells") := ⟨RX7, TX7, 12, "RecordTeller$Teller", "toldIn", "LRecordTeller$Cells;", true, tyX7, (tc_1 _ (List.mem_of_getElem? (i := 238) (by decide +kernel))), rfl, kl_7, rfl, by decide, tyX7_ok, nmX7, by decide +kernel, Or.inr ⟨rfl, rfl, rfl⟩⟩
theorem kf_RX7_31 : rt_Fd RX7 31 7 4 := ⟨RX7, TX7, 12, "RecordTeller$Teller", "toldFrom", "LRecordTeller$Cells;", true, (tc_1 _ (List.mem_of_getElem? (i := 239) (by decide +kernel))), rfl, kl_7, rfl, by decide⟩
theorem kp_RX7_31  : rt_Fp RX7 "<init>" 31 7 4 (.object "RecordTeller$Cells") := ⟨RX7, TX7, 12, "RecordTeller$Teller", "toldFrom", "LRecordTeller$Cells;", true, tyX7, (tc_1 _ (List.mem_of_getElem? (i := 239) (by decide +kernel))), rfl, kl_7, rfl, by decide, tyX7_ok, nmX7, by decide +kernel, Or.inr ⟨rfl, rfl, rfl⟩⟩
theorem kf_RX7_34 : rt_Fd RX7 34 7 5 := ⟨RX7, TX7, 12, "RecordTeller$Teller", "toldTo", "LRecordTeller$Cells;", true, (tc_2 _ (List.mem_of_getElem? (i := 0) (by decide +kernel))), rfl, kl_7, rfl, by decide⟩
theorem kp_RX7_34  : rt_Fp RX7 "<init>" 34 7 5 (.object "RecordTeller$Cells") := ⟨RX7, TX7, 12, "RecordTeller$Teller", "toldTo", "LRecordTeller$Cells;", true, tyX7, (tc_2 _ (List.mem_of_getElem? (i := 0) (by decide +kernel))), rfl, kl_7, rfl, by decide, tyX7_ok, nmX7, by decide +kernel, Or.inr ⟨rfl, rfl, rfl⟩⟩
theorem kf_RX7_68 : rt_Fd RX7 68 7 6 := ⟨RX7, TX7, 12, "RecordTeller$Teller", "bytes", "LRecordTeller$Cells;", false, (tc_2 _ (List.mem_of_getElem? (i := 1) (by decide +kernel))), rfl, kl_7, rfl, by decide⟩
theorem kp_RX7_68 {nm : String} : rt_Fp RX7 nm 68 7 6 (.object "RecordTeller$Cells") := ⟨RX7, TX7, 12, "RecordTeller$Teller", "bytes", "LRecordTeller$Cells;", false, tyX7, (tc_2 _ (List.mem_of_getElem? (i := 1) (by decide +kernel))), rfl, kl_7, rfl, by decide, tyX7_ok, nmX7, by decide +kernel, Or.inl rfl⟩
theorem kf_RX7_37 : rt_Fd RX7 37 7 7 := ⟨RX7, TX7, 12, "RecordTeller$Teller", "writer", "LRecordTeller$Schema;", false, (tc_2 _ (List.mem_of_getElem? (i := 2) (by decide +kernel))), rfl, kl_7, rfl, by decide⟩
theorem kp_RX7_37 {nm : String} : rt_Fp RX7 nm 37 7 7 (.object "RecordTeller$Schema") := ⟨RX7, TX7, 12, "RecordTeller$Teller", "writer", "LRecordTeller$Schema;", false, tyX7, (tc_2 _ (List.mem_of_getElem? (i := 2) (by decide +kernel))), rfl, kl_7, rfl, by decide, tyX7_ok, nmX7, by decide +kernel, Or.inl rfl⟩
theorem kf_RX7_41 : rt_Fd RX7 41 7 8 := ⟨RX7, TX7, 12, "RecordTeller$Teller", "reader", "LRecordTeller$Schema;", false, (tc_2 _ (List.mem_of_getElem? (i := 3) (by decide +kernel))), rfl, kl_7, rfl, by decide⟩
theorem kp_RX7_41 {nm : String} : rt_Fp RX7 nm 41 7 8 (.object "RecordTeller$Schema") := ⟨RX7, TX7, 12, "RecordTeller$Teller", "reader", "LRecordTeller$Schema;", false, tyX7, (tc_2 _ (List.mem_of_getElem? (i := 3) (by decide +kernel))), rfl, kl_7, rfl, by decide, tyX7_ok, nmX7, by decide +kernel, Or.inl rfl⟩
theorem kf_RX7_55 : rt_Fd RX7 55 7 9 := ⟨RX7, TX7, 12, "RecordTeller$Teller", "telling", "I", false, (tc_2 _ (List.mem_of_getElem? (i := 4) (by decide +kernel))), rfl, kl_7, rfl, by decide⟩
theorem kp_RX7_55 {nm : String} : rt_Fp RX7 nm 55 7 9 .int := ⟨RX7, TX7, 12, "RecordTeller$Teller", "telling", "I", false, tyX7, (tc_2 _ (List.mem_of_getElem? (i := 4) (by decide +kernel))), rfl, kl_7, rfl, by decide, tyX7_ok, nmX7, by decide +kernel, Or.inl rfl⟩
theorem kf_RX7_74 : rt_Fd RX7 74 7 10 := ⟨RX7, TX7, 12, "RecordTeller$Teller", "pos", "I", false, (tc_2 _ (List.mem_of_getElem? (i := 5) (by decide +kernel))), rfl, kl_7, rfl, by decide⟩
theorem kp_RX7_74 {nm : String} : rt_Fp RX7 nm 74 7 10 .int := ⟨RX7, TX7, 12, "RecordTeller$Teller", "pos", "I", false, tyX7, (tc_2 _ (List.mem_of_getElem? (i := 5) (by decide +kernel))), rfl, kl_7, rfl, by decide, tyX7_ok, nmX7, by decide +kernel, Or.inl rfl⟩
theorem kf_RX7_59 : rt_Fd RX7 59 7 11 := ⟨RX7, TX7, 12, "RecordTeller$Teller", "stop", "I", false, (tc_2 _ (List.mem_of_getElem? (i := 6) (by decide +kernel))), rfl, kl_7, rfl, by decide⟩
theorem kp_RX7_59 {nm : String} : rt_Fp RX7 nm 59 7 11 .int := ⟨RX7, TX7, 12, "RecordTeller$Teller", "stop", "I", false, tyX7, (tc_2 _ (List.mem_of_getElem? (i := 6) (by decide +kernel))), rfl, kl_7, rfl, by decide, tyX7_ok, nmX7, by decide +kernel, Or.inl rfl⟩
theorem kf_RX3_18 : rt_Fd RX3 18 3 0 := ⟨RX3, TX3, 5, "RecordTeller$Fitter", "seen", "LRecordTeller$Cells;", true, (tc_2 _ (List.mem_of_getElem? (i := 40) (by decide +kernel))), rfl, kl_3, rfl, by decide⟩
theorem kp_RX3_18  : rt_Fp RX3 "<init>" 18 3 0 (.object "RecordTeller$Cells") := ⟨RX3, TX3, 5, "RecordTeller$Fitter", "seen", "LRecordTeller$Cells;", true, tyX3, (tc_2 _ (List.mem_of_getElem? (i := 40) (by decide +kernel))), rfl, kl_3, rfl, by decide, tyX3_ok, nmX3, by decide +kernel, Or.inr ⟨rfl, rfl, rfl⟩⟩
theorem kf_RX3_22 : rt_Fd RX3 22 3 1 := ⟨RX3, TX3, 5, "RecordTeller$Fitter", "open", "LRecordTeller$Cells;", true, (tc_2 _ (List.mem_of_getElem? (i := 41) (by decide +kernel))), rfl, kl_3, rfl, by decide⟩
theorem kp_RX3_22  : rt_Fp RX3 "<init>" 22 3 1 (.object "RecordTeller$Cells") := ⟨RX3, TX3, 5, "RecordTeller$Fitter", "open", "LRecordTeller$Cells;", true, tyX3, (tc_2 _ (List.mem_of_getElem? (i := 41) (by decide +kernel))), rfl, kl_3, rfl, by decide, tyX3_ok, nmX3, by decide +kernel, Or.inr ⟨rfl, rfl, rfl⟩⟩
theorem kf_RX3_25 : rt_Fd RX3 25 3 2 := ⟨RX3, TX3, 5, "RecordTeller$Fitter", "writer", "LRecordTeller$Schema;", false, (tc_2 _ (List.mem_of_getElem? (i := 42) (by decide +kernel))), rfl, kl_3, rfl, by decide⟩
theorem kp_RX3_25 {nm : String} : rt_Fp RX3 nm 25 3 2 (.object "RecordTeller$Schema") := ⟨RX3, TX3, 5, "RecordTeller$Fitter", "writer", "LRecordTeller$Schema;", false, tyX3, (tc_2 _ (List.mem_of_getElem? (i := 42) (by decide +kernel))), rfl, kl_3, rfl, by decide, tyX3_ok, nmX3, by decide +kernel, Or.inl rfl⟩
theorem kf_RX3_29 : rt_Fd RX3 29 3 3 := ⟨RX3, TX3, 5, "RecordTeller$Fitter", "reader", "LRecordTeller$Schema;", false, (tc_2 _ (List.mem_of_getElem? (i := 43) (by decide +kernel))), rfl, kl_3, rfl, by decide⟩
theorem kp_RX3_29 {nm : String} : rt_Fp RX3 nm 29 3 3 (.object "RecordTeller$Schema") := ⟨RX3, TX3, 5, "RecordTeller$Fitter", "reader", "LRecordTeller$Schema;", false, tyX3, (tc_2 _ (List.mem_of_getElem? (i := 43) (by decide +kernel))), rfl, kl_3, rfl, by decide, tyX3_ok, nmX3, by decide +kernel, Or.inl rfl⟩
theorem kf_RX3_32 : rt_Fd RX3 32 3 4 := ⟨RX3, TX3, 5, "RecordTeller$Fitter", "asking", "I", false, (tc_2 _ (List.mem_of_getElem? (i := 44) (by decide +kernel))), rfl, kl_3, rfl, by decide⟩
theorem kp_RX3_32 {nm : String} : rt_Fp RX3 nm 32 3 4 .int := ⟨RX3, TX3, 5, "RecordTeller$Fitter", "asking", "I", false, tyX3, (tc_2 _ (List.mem_of_getElem? (i := 44) (by decide +kernel))), rfl, kl_3, rfl, by decide, tyX3_ok, nmX3, by decide +kernel, Or.inl rfl⟩
theorem kf_RX5_14 : rt_Fd RX5 14 5 0 := ⟨RX5, TX5, 2, "RecordTeller$Rows", "bytes", "LRecordTeller$Cells;", true, (tc_2 _ (List.mem_of_getElem? (i := 64) (by decide +kernel))), rfl, kl_5, rfl, by decide⟩
theorem kp_RX5_14  : rt_Fp RX5 "<init>" 14 5 0 (.object "RecordTeller$Cells") := ⟨RX5, TX5, 2, "RecordTeller$Rows", "bytes", "LRecordTeller$Cells;", true, tyX5, (tc_2 _ (List.mem_of_getElem? (i := 64) (by decide +kernel))), rfl, kl_5, rfl, by decide, tyX5_ok, nmX5, by decide +kernel, Or.inr ⟨rfl, rfl, rfl⟩⟩
theorem kf_RX5_20 : rt_Fd RX5 20 5 1 := ⟨RX5, TX5, 2, "RecordTeller$Rows", "starts", "LRecordTeller$Cells;", true, (tc_2 _ (List.mem_of_getElem? (i := 65) (by decide +kernel))), rfl, kl_5, rfl, by decide⟩
theorem kp_RX5_20  : rt_Fp RX5 "<init>" 20 5 1 (.object "RecordTeller$Cells") := ⟨RX5, TX5, 2, "RecordTeller$Rows", "starts", "LRecordTeller$Cells;", true, tyX5, (tc_2 _ (List.mem_of_getElem? (i := 65) (by decide +kernel))), rfl, kl_5, rfl, by decide, tyX5_ok, nmX5, by decide +kernel, Or.inr ⟨rfl, rfl, rfl⟩⟩
theorem kf_RX9_14 : rt_Fd RX9 14 9 0 := ⟨RX9, TX9, 12, "RecordTeller", "tape", "LRecordTeller$Cells;", true, (tc_2 _ (List.mem_of_getElem? (i := 71) (by decide +kernel))), rfl, kl_9, rfl, by decide⟩
theorem kp_RX9_14  : rt_Fp RX9 "<init>" 14 9 0 (.object "RecordTeller$Cells") := ⟨RX9, TX9, 12, "RecordTeller", "tape", "LRecordTeller$Cells;", true, tyX9, (tc_2 _ (List.mem_of_getElem? (i := 71) (by decide +kernel))), rfl, kl_9, rfl, by decide, tyX9_ok, nmX9, by decide +kernel, Or.inr ⟨rfl, rfl, rfl⟩⟩
theorem kf_RX9_18 : rt_Fd RX9 18 9 1 := ⟨RX9, TX9, 12, "RecordTeller", "out", "LRecordTeller$Cells;", true, (tc_2 _ (List.mem_of_getElem? (i := 72) (by decide +kernel))), rfl, kl_9, rfl, by decide⟩
theorem kp_RX9_18  : rt_Fp RX9 "<init>" 18 9 1 (.object "RecordTeller$Cells") := ⟨RX9, TX9, 12, "RecordTeller", "out", "LRecordTeller$Cells;", true, tyX9, (tc_2 _ (List.mem_of_getElem? (i := 72) (by decide +kernel))), rfl, kl_9, rfl, by decide, tyX9_ok, nmX9, by decide +kernel, Or.inr ⟨rfl, rfl, rfl⟩⟩
theorem kf_RX9_23 : rt_Fd RX9 23 9 2 := ⟨RX9, TX9, 12, "RecordTeller", "kept", "[LRecordTeller$Schema;", true, (tc_2 _ (List.mem_of_getElem? (i := 73) (by decide +kernel))), rfl, kl_9, rfl, by decide⟩
theorem kp_RX9_23  : rt_Fp RX9 "<init>" 23 9 2 (.array (.object "RecordTeller$Schema")) := ⟨RX9, TX9, 12, "RecordTeller", "kept", "[LRecordTeller$Schema;", true, tyX9, (tc_2 _ (List.mem_of_getElem? (i := 73) (by decide +kernel))), rfl, kl_9, rfl, by decide, tyX9_ok, nmX9, by decide +kernel, Or.inr ⟨rfl, rfl, rfl⟩⟩
theorem kf_RX9_30 : rt_Fd RX9 30 9 3 := ⟨RX9, TX9, 12, "RecordTeller", "text", "LRecordTeller$Text;", true, (tc_2 _ (List.mem_of_getElem? (i := 74) (by decide +kernel))), rfl, kl_9, rfl, by decide⟩
theorem kp_RX9_30  : rt_Fp RX9 "<init>" 30 9 3 (.object "RecordTeller$Text") := ⟨RX9, TX9, 12, "RecordTeller", "text", "LRecordTeller$Text;", true, tyX9, (tc_2 _ (List.mem_of_getElem? (i := 74) (by decide +kernel))), rfl, kl_9, rfl, by decide, tyX9_ok, nmX9, by decide +kernel, Or.inr ⟨rfl, rfl, rfl⟩⟩
theorem kf_RX9_37 : rt_Fd RX9 37 9 4 := ⟨RX9, TX9, 12, "RecordTeller", "drafter", "LRecordTeller$Drafter;", true, (tc_2 _ (List.mem_of_getElem? (i := 75) (by decide +kernel))), rfl, kl_9, rfl, by decide⟩
theorem kp_RX9_37  : rt_Fp RX9 "<init>" 37 9 4 (.object "RecordTeller$Drafter") := ⟨RX9, TX9, 12, "RecordTeller", "drafter", "LRecordTeller$Drafter;", true, tyX9, (tc_2 _ (List.mem_of_getElem? (i := 75) (by decide +kernel))), rfl, kl_9, rfl, by decide, tyX9_ok, nmX9, by decide +kernel, Or.inr ⟨rfl, rfl, rfl⟩⟩
theorem kf_RX9_44 : rt_Fd RX9 44 9 5 := ⟨RX9, TX9, 12, "RecordTeller", "looker", "LRecordTeller$Looker;", true, (tc_2 _ (List.mem_of_getElem? (i := 76) (by decide +kernel))), rfl, kl_9, rfl, by decide⟩
theorem kp_RX9_44  : rt_Fp RX9 "<init>" 44 9 5 (.object "RecordTeller$Looker") := ⟨RX9, TX9, 12, "RecordTeller", "looker", "LRecordTeller$Looker;", true, tyX9, (tc_2 _ (List.mem_of_getElem? (i := 76) (by decide +kernel))), rfl, kl_9, rfl, by decide, tyX9_ok, nmX9, by decide +kernel, Or.inr ⟨rfl, rfl, rfl⟩⟩
theorem kf_RX9_51 : rt_Fd RX9 51 9 6 := ⟨RX9, TX9, 12, "RecordTeller", "teller", "LRecordTeller$Teller;", true, (tc_2 _ (List.mem_of_getElem? (i := 77) (by decide +kernel))), rfl, kl_9, rfl, by decide⟩
theorem kp_RX9_51  : rt_Fp RX9 "<init>" 51 9 6 (.object "RecordTeller$Teller") := ⟨RX9, TX9, 12, "RecordTeller", "teller", "LRecordTeller$Teller;", true, tyX9, (tc_2 _ (List.mem_of_getElem? (i := 77) (by decide +kernel))), rfl, kl_9, rfl, by decide, tyX9_ok, nmX9, by decide +kernel, Or.inr ⟨rfl, rfl, rfl⟩⟩
theorem kf_RX9_58 : rt_Fd RX9 58 9 7 := ⟨RX9, TX9, 12, "RecordTeller", "fitter", "LRecordTeller$Fitter;", true, (tc_2 _ (List.mem_of_getElem? (i := 78) (by decide +kernel))), rfl, kl_9, rfl, by decide⟩
theorem kp_RX9_58  : rt_Fp RX9 "<init>" 58 9 7 (.object "RecordTeller$Fitter") := ⟨RX9, TX9, 12, "RecordTeller", "fitter", "LRecordTeller$Fitter;", true, tyX9, (tc_2 _ (List.mem_of_getElem? (i := 78) (by decide +kernel))), rfl, kl_9, rfl, by decide, tyX9_ok, nmX9, by decide +kernel, Or.inr ⟨rfl, rfl, rfl⟩⟩
theorem kf_RX9_65 : rt_Fd RX9 65 9 8 := ⟨RX9, TX9, 12, "RecordTeller", "current", "LRecordTeller$Rows;", false, (tc_2 _ (List.mem_of_getElem? (i := 79) (by decide +kernel))), rfl, kl_9, rfl, by decide⟩
theorem kp_RX9_65 {nm : String} : rt_Fp RX9 nm 65 9 8 (.object "RecordTeller$Rows") := ⟨RX9, TX9, 12, "RecordTeller", "current", "LRecordTeller$Rows;", false, tyX9, (tc_2 _ (List.mem_of_getElem? (i := 79) (by decide +kernel))), rfl, kl_9, rfl, by decide, tyX9_ok, nmX9, by decide +kernel, Or.inl rfl⟩
theorem kf_RX9_69 : rt_Fd RX9 69 9 9 := ⟨RX9, TX9, 12, "RecordTeller", "spare", "LRecordTeller$Rows;", false, (tc_2 _ (List.mem_of_getElem? (i := 80) (by decide +kernel))), rfl, kl_9, rfl, by decide⟩
theorem kp_RX9_69 {nm : String} : rt_Fp RX9 nm 69 9 9 (.object "RecordTeller$Rows") := ⟨RX9, TX9, 12, "RecordTeller", "spare", "LRecordTeller$Rows;", false, tyX9, (tc_2 _ (List.mem_of_getElem? (i := 80) (by decide +kernel))), rfl, kl_9, rfl, by decide, tyX9_ok, nmX9, by decide +kernel, Or.inl rfl⟩
theorem kf_RX9_72 : rt_Fd RX9 72 9 10 := ⟨RX9, TX9, 12, "RecordTeller", "rowsPlace", "I", false, (tc_2 _ (List.mem_of_getElem? (i := 81) (by decide +kernel))), rfl, kl_9, rfl, by decide⟩
theorem kp_RX9_72 {nm : String} : rt_Fp RX9 nm 72 9 10 .int := ⟨RX9, TX9, 12, "RecordTeller", "rowsPlace", "I", false, tyX9, (tc_2 _ (List.mem_of_getElem? (i := 81) (by decide +kernel))), rfl, kl_9, rfl, by decide, tyX9_ok, nmX9, by decide +kernel, Or.inl rfl⟩
theorem kf_RX9_76 : rt_Fd RX9 76 9 11 := ⟨RX9, TX9, 12, "RecordTeller", "faultPlace", "I", false, (tc_2 _ (List.mem_of_getElem? (i := 82) (by decide +kernel))), rfl, kl_9, rfl, by decide⟩
theorem kp_RX9_76 {nm : String} : rt_Fp RX9 nm 76 9 11 .int := ⟨RX9, TX9, 12, "RecordTeller", "faultPlace", "I", false, tyX9, (tc_2 _ (List.mem_of_getElem? (i := 82) (by decide +kernel))), rfl, kl_9, rfl, by decide, tyX9_ok, nmX9, by decide +kernel, Or.inl rfl⟩
theorem kf_RX10_9 : rt_Fd RX10 9 10 0 := ⟨RX10, TX10, 35, "RecordTellerModel$Text", "bytes", "[B", true, (tc_6 _ (List.mem_of_getElem? (i := 110) (by decide +kernel))), rfl, kl_10, rfl, by decide⟩
theorem kp_RX10_9  : rt_Fp RX10 "<init>" 9 10 0 (.array .byte) := ⟨RX10, TX10, 35, "RecordTellerModel$Text", "bytes", "[B", true, tyX10, (tc_6 _ (List.mem_of_getElem? (i := 110) (by decide +kernel))), rfl, kl_10, rfl, by decide, tyX10_ok, nmX10, by decide +kernel, Or.inr ⟨rfl, rfl, rfl⟩⟩
theorem kf_RX10_98 : rt_Fd RX10 98 10 1 := ⟨RX10, TX10, 35, "RecordTellerModel$Text", "length", "I", false, (tc_6 _ (List.mem_of_getElem? (i := 111) (by decide +kernel))), rfl, kl_10, rfl, by decide⟩
theorem kp_RX10_98 {nm : String} : rt_Fp RX10 nm 98 10 1 .int := ⟨RX10, TX10, 35, "RecordTellerModel$Text", "length", "I", false, tyX10, (tc_6 _ (List.mem_of_getElem? (i := 111) (by decide +kernel))), rfl, kl_10, rfl, by decide, tyX10_ok, nmX10, by decide +kernel, Or.inl rfl⟩
theorem kf_RX10_95 : rt_Fd RX10 95 10 2 := ⟨RX10, TX10, 35, "RecordTellerModel$Text", "at", "I", false, (tc_6 _ (List.mem_of_getElem? (i := 112) (by decide +kernel))), rfl, kl_10, rfl, by decide⟩
theorem kp_RX10_95 {nm : String} : rt_Fp RX10 nm 95 10 2 .int := ⟨RX10, TX10, 35, "RecordTellerModel$Text", "at", "I", false, tyX10, (tc_6 _ (List.mem_of_getElem? (i := 112) (by decide +kernel))), rfl, kl_10, rfl, by decide, tyX10_ok, nmX10, by decide +kernel, Or.inl rfl⟩
theorem kf_RX10_112 : rt_Fd RX10 112 10 3 := ⟨RX10, TX10, 35, "RecordTellerModel$Text", "deep", "I", false, (tc_6 _ (List.mem_of_getElem? (i := 113) (by decide +kernel))), rfl, kl_10, rfl, by decide⟩
theorem kp_RX10_112 {nm : String} : rt_Fp RX10 nm 112 10 3 .int := ⟨RX10, TX10, 35, "RecordTellerModel$Text", "deep", "I", false, tyX10, (tc_6 _ (List.mem_of_getElem? (i := 113) (by decide +kernel))), rfl, kl_10, rfl, by decide, tyX10_ok, nmX10, by decide +kernel, Or.inl rfl⟩
theorem kf_RX10_78 : rt_Fd RX10 78 10 4 := ⟨RX10, TX10, 35, "RecordTellerModel$Text", "fault", "I", false, (tc_6 _ (List.mem_of_getElem? (i := 114) (by decide +kernel))), rfl, kl_10, rfl, by decide⟩
theorem kp_RX10_78 {nm : String} : rt_Fp RX10 nm 78 10 4 .int := ⟨RX10, TX10, 35, "RecordTellerModel$Text", "fault", "I", false, tyX10, (tc_6 _ (List.mem_of_getElem? (i := 114) (by decide +kernel))), rfl, kl_10, rfl, by decide, tyX10_ok, nmX10, by decide +kernel, Or.inl rfl⟩
theorem kf_RX10_82 : rt_Fd RX10 82 10 5 := ⟨RX10, TX10, 35, "RecordTellerModel$Text", "place", "I", false, (tc_6 _ (List.mem_of_getElem? (i := 115) (by decide +kernel))), rfl, kl_10, rfl, by decide⟩
theorem kp_RX10_82 {nm : String} : rt_Fp RX10 nm 82 10 5 .int := ⟨RX10, TX10, 35, "RecordTellerModel$Text", "place", "I", false, tyX10, (tc_6 _ (List.mem_of_getElem? (i := 115) (by decide +kernel))), rfl, kl_10, rfl, by decide, tyX10_ok, nmX10, by decide +kernel, Or.inl rfl⟩
theorem kfN_RX11_80 : rt_FdN RX11 80 10 5 := ⟨RX10, TX10, 35, "RecordTellerModel$Text", "place", "I", false, "RecordTellerModel", (tc_6 _ (List.mem_of_getElem? (i := 116) (by decide +kernel))), rfl, kl_10, rfl, by decide⟩
theorem kf_RX10_292 : rt_Fd RX10 292 10 6 := ⟨RX10, TX10, 35, "RecordTellerModel$Text", "end", "I", false, (tc_6 _ (List.mem_of_getElem? (i := 117) (by decide +kernel))), rfl, kl_10, rfl, by decide⟩
theorem kp_RX10_292 {nm : String} : rt_Fp RX10 nm 292 10 6 .int := ⟨RX10, TX10, 35, "RecordTellerModel$Text", "end", "I", false, tyX10, (tc_6 _ (List.mem_of_getElem? (i := 117) (by decide +kernel))), rfl, kl_10, rfl, by decide, tyX10_ok, nmX10, by decide +kernel, Or.inl rfl⟩
theorem kf_RX10_109 : rt_Fd RX10 109 10 7 := ⟨RX10, TX10, 35, "RecordTellerModel$Text", "nodes", "I", false, (tc_6 _ (List.mem_of_getElem? (i := 118) (by decide +kernel))), rfl, kl_10, rfl, by decide⟩
theorem kp_RX10_109 {nm : String} : rt_Fp RX10 nm 109 10 7 .int := ⟨RX10, TX10, 35, "RecordTellerModel$Text", "nodes", "I", false, tyX10, (tc_6 _ (List.mem_of_getElem? (i := 118) (by decide +kernel))), rfl, kl_10, rfl, by decide, tyX10_ok, nmX10, by decide +kernel, Or.inl rfl⟩
theorem kf_RX10_15 : rt_Fd RX10 15 10 8 := ⟨RX10, TX10, 35, "RecordTellerModel$Text", "kinds", "[I", true, (tc_6 _ (List.mem_of_getElem? (i := 119) (by decide +kernel))), rfl, kl_10, rfl, by decide⟩
theorem kp_RX10_15  : rt_Fp RX10 "<init>" 15 10 8 (.array .int) := ⟨RX10, TX10, 35, "RecordTellerModel$Text", "kinds", "[I", true, tyX10, (tc_6 _ (List.mem_of_getElem? (i := 119) (by decide +kernel))), rfl, kl_10, rfl, by decide, tyX10_ok, nmX10, by decide +kernel, Or.inr ⟨rfl, rfl, rfl⟩⟩
theorem kfN_RX11_294 : rt_FdN RX11 294 10 8 := ⟨RX10, TX10, 35, "RecordTellerModel$Text", "kinds", "[I", true, "RecordTellerModel", (tc_6 _ (List.mem_of_getElem? (i := 120) (by decide +kernel))), rfl, kl_10, rfl, by decide⟩
theorem kf_RX10_19 : rt_Fd RX10 19 10 9 := ⟨RX10, TX10, 35, "RecordTellerModel$Text", "firsts", "[I", true, (tc_6 _ (List.mem_of_getElem? (i := 121) (by decide +kernel))), rfl, kl_10, rfl, by decide⟩
theorem kp_RX10_19  : rt_Fp RX10 "<init>" 19 10 9 (.array .int) := ⟨RX10, TX10, 35, "RecordTellerModel$Text", "firsts", "[I", true, tyX10, (tc_6 _ (List.mem_of_getElem? (i := 121) (by decide +kernel))), rfl, kl_10, rfl, by decide, tyX10_ok, nmX10, by decide +kernel, Or.inr ⟨rfl, rfl, rfl⟩⟩
theorem kf_RX10_22 : rt_Fd RX10 22 10 10 := ⟨RX10, TX10, 35, "RecordTellerModel$Text", "numbers", "[J", true, (tc_6 _ (List.mem_of_getElem? (i := 122) (by decide +kernel))), rfl, kl_10, rfl, by decide⟩
theorem kp_RX10_22  : rt_Fp RX10 "<init>" 22 10 10 (.array .long) := ⟨RX10, TX10, 35, "RecordTellerModel$Text", "numbers", "[J", true, tyX10, (tc_6 _ (List.mem_of_getElem? (i := 122) (by decide +kernel))), rfl, kl_10, rfl, by decide, tyX10_ok, nmX10, by decide +kernel, Or.inr ⟨rfl, rfl, rfl⟩⟩
theorem kfN_RX11_290 : rt_FdN RX11 290 10 10 := ⟨RX10, TX10, 35, "RecordTellerModel$Text", "numbers", "[J", true, "RecordTellerModel", (tc_6 _ (List.mem_of_getElem? (i := 123) (by decide +kernel))), rfl, kl_10, rfl, by decide⟩
theorem kf_RX10_26 : rt_Fd RX10 26 10 11 := ⟨RX10, TX10, 35, "RecordTellerModel$Text", "sizes", "[I", true, (tc_6 _ (List.mem_of_getElem? (i := 124) (by decide +kernel))), rfl, kl_10, rfl, by decide⟩
theorem kp_RX10_26  : rt_Fp RX10 "<init>" 26 10 11 (.array .int) := ⟨RX10, TX10, 35, "RecordTellerModel$Text", "sizes", "[I", true, tyX10, (tc_6 _ (List.mem_of_getElem? (i := 124) (by decide +kernel))), rfl, kl_10, rfl, by decide, tyX10_ok, nmX10, by decide +kernel, Or.inr ⟨rfl, rfl, rfl⟩⟩
theorem kfN_RX11_286 : rt_FdN RX11 286 10 11 := ⟨RX10, TX10, 35, "RecordTellerModel$Text", "sizes", "[I", true, "RecordTellerModel", (tc_6 _ (List.mem_of_getElem? (i := 125) (by decide +kernel))), rfl, kl_10, rfl, by decide⟩
theorem kf_RX10_29 : rt_Fd RX10 29 10 12 := ⟨RX10, TX10, 35, "RecordTellerModel$Text", "inner", "[I", true, (tc_6 _ (List.mem_of_getElem? (i := 126) (by decide +kernel))), rfl, kl_10, rfl, by decide⟩
theorem kp_RX10_29  : rt_Fp RX10 "<init>" 29 10 12 (.array .int) := ⟨RX10, TX10, 35, "RecordTellerModel$Text", "inner", "[I", true, tyX10, (tc_6 _ (List.mem_of_getElem? (i := 126) (by decide +kernel))), rfl, kl_10, rfl, by decide, tyX10_ok, nmX10, by decide +kernel, Or.inr ⟨rfl, rfl, rfl⟩⟩
theorem kfN_RX11_303 : rt_FdN RX11 303 10 12 := ⟨RX10, TX10, 35, "RecordTellerModel$Text", "inner", "[I", true, "RecordTellerModel", (tc_6 _ (List.mem_of_getElem? (i := 127) (by decide +kernel))), rfl, kl_10, rfl, by decide⟩
theorem kf_RX10_32 : rt_Fd RX10 32 10 13 := ⟨RX10, TX10, 35, "RecordTellerModel$Text", "nexts", "[I", true, (tc_6 _ (List.mem_of_getElem? (i := 128) (by decide +kernel))), rfl, kl_10, rfl, by decide⟩
theorem kp_RX10_32  : rt_Fp RX10 "<init>" 32 10 13 (.array .int) := ⟨RX10, TX10, 35, "RecordTellerModel$Text", "nexts", "[I", true, tyX10, (tc_6 _ (List.mem_of_getElem? (i := 128) (by decide +kernel))), rfl, kl_10, rfl, by decide, tyX10_ok, nmX10, by decide +kernel, Or.inr ⟨rfl, rfl, rfl⟩⟩
theorem kfN_RX11_306 : rt_FdN RX11 306 10 13 := ⟨RX10, TX10, 35, "RecordTellerModel$Text", "nexts", "[I", true, "RecordTellerModel", (tc_6 _ (List.mem_of_getElem? (i := 129) (by decide +kernel))), rfl, kl_10, rfl, by decide⟩
theorem kf_RX10_35 : rt_Fd RX10 35 10 14 := ⟨RX10, TX10, 35, "RecordTellerModel$Text", "letters", "[B", true, (tc_6 _ (List.mem_of_getElem? (i := 130) (by decide +kernel))), rfl, kl_10, rfl, by decide⟩
theorem kp_RX10_35  : rt_Fp RX10 "<init>" 35 10 14 (.array .byte) := ⟨RX10, TX10, 35, "RecordTellerModel$Text", "letters", "[B", true, tyX10, (tc_6 _ (List.mem_of_getElem? (i := 130) (by decide +kernel))), rfl, kl_10, rfl, by decide, tyX10_ok, nmX10, by decide +kernel, Or.inr ⟨rfl, rfl, rfl⟩⟩
theorem kfN_RX11_287 : rt_FdN RX11 287 10 14 := ⟨RX10, TX10, 35, "RecordTellerModel$Text", "letters", "[B", true, "RecordTellerModel", (tc_6 _ (List.mem_of_getElem? (i := 131) (by decide +kernel))), rfl, kl_10, rfl, by decide⟩
theorem kf_RX10_167 : rt_Fd RX10 167 10 15 := ⟨RX10, TX10, 35, "RecordTellerModel$Text", "lettered", "I", false, (tc_6 _ (List.mem_of_getElem? (i := 132) (by decide +kernel))), rfl, kl_10, rfl, by decide⟩
theorem kp_RX10_167 {nm : String} : rt_Fp RX10 nm 167 10 15 .int := ⟨RX10, TX10, 35, "RecordTellerModel$Text", "lettered", "I", false, tyX10, (tc_6 _ (List.mem_of_getElem? (i := 132) (by decide +kernel))), rfl, kl_10, rfl, by decide, tyX10_ok, nmX10, by decide +kernel, Or.inl rfl⟩
theorem kf_RX10_189 : rt_Fd RX10 189 10 16 := ⟨RX10, TX10, 35, "RecordTellerModel$Text", "shapes", "I", false, (tc_6 _ (List.mem_of_getElem? (i := 133) (by decide +kernel))), rfl, kl_10, rfl, by decide⟩
theorem kp_RX10_189 {nm : String} : rt_Fp RX10 nm 189 10 16 .int := ⟨RX10, TX10, 35, "RecordTellerModel$Text", "shapes", "I", false, tyX10, (tc_6 _ (List.mem_of_getElem? (i := 133) (by decide +kernel))), rfl, kl_10, rfl, by decide, tyX10_ok, nmX10, by decide +kernel, Or.inl rfl⟩
theorem kf_RX10_195 : rt_Fd RX10 195 10 17 := ⟨RX10, TX10, 35, "RecordTellerModel$Text", "looked", "I", false, (tc_6 _ (List.mem_of_getElem? (i := 134) (by decide +kernel))), rfl, kl_10, rfl, by decide⟩
theorem kp_RX10_195 {nm : String} : rt_Fp RX10 nm 195 10 17 .int := ⟨RX10, TX10, 35, "RecordTellerModel$Text", "looked", "I", false, tyX10, (tc_6 _ (List.mem_of_getElem? (i := 134) (by decide +kernel))), rfl, kl_10, rfl, by decide, tyX10_ok, nmX10, by decide +kernel, Or.inl rfl⟩
theorem kf_RX10_38 : rt_Fd RX10 38 10 18 := ⟨RX10, TX10, 35, "RecordTellerModel$Text", "sorts", "[I", true, (tc_6 _ (List.mem_of_getElem? (i := 135) (by decide +kernel))), rfl, kl_10, rfl, by decide⟩
theorem kp_RX10_38  : rt_Fp RX10 "<init>" 38 10 18 (.array .int) := ⟨RX10, TX10, 35, "RecordTellerModel$Text", "sorts", "[I", true, tyX10, (tc_6 _ (List.mem_of_getElem? (i := 135) (by decide +kernel))), rfl, kl_10, rfl, by decide, tyX10_ok, nmX10, by decide +kernel, Or.inr ⟨rfl, rfl, rfl⟩⟩
theorem kfN_RX11_132 : rt_FdN RX11 132 10 18 := ⟨RX10, TX10, 35, "RecordTellerModel$Text", "sorts", "[I", true, "RecordTellerModel", (tc_6 _ (List.mem_of_getElem? (i := 136) (by decide +kernel))), rfl, kl_10, rfl, by decide⟩
theorem kf_RX10_41 : rt_Fd RX10 41 10 19 := ⟨RX10, TX10, 35, "RecordTellerModel$Text", "names", "[I", true, (tc_6 _ (List.mem_of_getElem? (i := 137) (by decide +kernel))), rfl, kl_10, rfl, by decide⟩
theorem kp_RX10_41  : rt_Fp RX10 "<init>" 41 10 19 (.array .int) := ⟨RX10, TX10, 35, "RecordTellerModel$Text", "names", "[I", true, tyX10, (tc_6 _ (List.mem_of_getElem? (i := 137) (by decide +kernel))), rfl, kl_10, rfl, by decide, tyX10_ok, nmX10, by decide +kernel, Or.inr ⟨rfl, rfl, rfl⟩⟩
theorem kfN_RX11_212 : rt_FdN RX11 212 10 19 := ⟨RX10, TX10, 35, "RecordTellerModel$Text", "names", "[I", true, "RecordTellerModel", (tc_6 _ (List.mem_of_getElem? (i := 138) (by decide +kernel))), rfl, kl_10, rfl, by decide⟩
theorem kf_RX10_44 : rt_Fd RX10 44 10 20 := ⟨RX10, TX10, 35, "RecordTellerModel$Text", "wide", "[I", true, (tc_6 _ (List.mem_of_getElem? (i := 139) (by decide +kernel))), rfl, kl_10, rfl, by decide⟩
theorem kp_RX10_44  : rt_Fp RX10 "<init>" 44 10 20 (.array .int) := ⟨RX10, TX10, 35, "RecordTellerModel$Text", "wide", "[I", true, tyX10, (tc_6 _ (List.mem_of_getElem? (i := 139) (by decide +kernel))), rfl, kl_10, rfl, by decide, tyX10_ok, nmX10, by decide +kernel, Or.inr ⟨rfl, rfl, rfl⟩⟩
theorem kfN_RX11_143 : rt_FdN RX11 143 10 20 := ⟨RX10, TX10, 35, "RecordTellerModel$Text", "wide", "[I", true, "RecordTellerModel", (tc_6 _ (List.mem_of_getElem? (i := 140) (by decide +kernel))), rfl, kl_10, rfl, by decide⟩
theorem kf_RX10_47 : rt_Fd RX10 47 10 21 := ⟨RX10, TX10, 35, "RecordTellerModel$Text", "kids", "[I", true, (tc_6 _ (List.mem_of_getElem? (i := 141) (by decide +kernel))), rfl, kl_10, rfl, by decide⟩
theorem kp_RX10_47  : rt_Fp RX10 "<init>" 47 10 21 (.array .int) := ⟨RX10, TX10, 35, "RecordTellerModel$Text", "kids", "[I", true, tyX10, (tc_6 _ (List.mem_of_getElem? (i := 141) (by decide +kernel))), rfl, kl_10, rfl, by decide, tyX10_ok, nmX10, by decide +kernel, Or.inr ⟨rfl, rfl, rfl⟩⟩
theorem kfN_RX11_160 : rt_FdN RX11 160 10 21 := ⟨RX10, TX10, 35, "RecordTellerModel$Text", "kids", "[I", true, "RecordTellerModel", (tc_6 _ (List.mem_of_getElem? (i := 142) (by decide +kernel))), rfl, kl_10, rfl, by decide⟩
theorem kf_RX10_50 : rt_Fd RX10 50 10 22 := ⟨RX10, TX10, 35, "RecordTellerModel$Text", "many", "[I", true, (tc_6 _ (List.mem_of_getElem? (i := 143) (by decide +kernel))), rfl, kl_10, rfl, by decide⟩
theorem kp_RX10_50  : rt_Fp RX10 "<init>" 50 10 22 (.array .int) := ⟨RX10, TX10, 35, "RecordTellerModel$Text", "many", "[I", true, tyX10, (tc_6 _ (List.mem_of_getElem? (i := 143) (by decide +kernel))), rfl, kl_10, rfl, by decide, tyX10_ok, nmX10, by decide +kernel, Or.inr ⟨rfl, rfl, rfl⟩⟩
theorem kfN_RX11_146 : rt_FdN RX11 146 10 22 := ⟨RX10, TX10, 35, "RecordTellerModel$Text", "many", "[I", true, "RecordTellerModel", (tc_6 _ (List.mem_of_getElem? (i := 144) (by decide +kernel))), rfl, kl_10, rfl, by decide⟩
theorem kf_RX10_53 : rt_Fd RX10 53 10 23 := ⟨RX10, TX10, 35, "RecordTellerModel$Text", "fallback", "[I", true, (tc_6 _ (List.mem_of_getElem? (i := 145) (by decide +kernel))), rfl, kl_10, rfl, by decide⟩
theorem kp_RX10_53  : rt_Fp RX10 "<init>" 53 10 23 (.array .int) := ⟨RX10, TX10, 35, "RecordTellerModel$Text", "fallback", "[I", true, tyX10, (tc_6 _ (List.mem_of_getElem? (i := 145) (by decide +kernel))), rfl, kl_10, rfl, by decide, tyX10_ok, nmX10, by decide +kernel, Or.inr ⟨rfl, rfl, rfl⟩⟩
theorem kfN_RX11_238 : rt_FdN RX11 238 10 23 := ⟨RX10, TX10, 35, "RecordTellerModel$Text", "fallback", "[I", true, "RecordTellerModel", (tc_6 _ (List.mem_of_getElem? (i := 146) (by decide +kernel))), rfl, kl_10, rfl, by decide⟩
theorem kf_RX10_192 : rt_Fd RX10 192 10 24 := ⟨RX10, TX10, 35, "RecordTellerModel$Text", "kidCount", "I", false, (tc_6 _ (List.mem_of_getElem? (i := 147) (by decide +kernel))), rfl, kl_10, rfl, by decide⟩
theorem kp_RX10_192 {nm : String} : rt_Fp RX10 nm 192 10 24 .int := ⟨RX10, TX10, 35, "RecordTellerModel$Text", "kidCount", "I", false, tyX10, (tc_6 _ (List.mem_of_getElem? (i := 147) (by decide +kernel))), rfl, kl_10, rfl, by decide, tyX10_ok, nmX10, by decide +kernel, Or.inl rfl⟩
theorem kf_RX10_56 : rt_Fd RX10 56 10 25 := ⟨RX10, TX10, 35, "RecordTellerModel$Text", "kidShape", "[I", true, (tc_6 _ (List.mem_of_getElem? (i := 148) (by decide +kernel))), rfl, kl_10, rfl, by decide⟩
theorem kp_RX10_56  : rt_Fp RX10 "<init>" 56 10 25 (.array .int) := ⟨RX10, TX10, 35, "RecordTellerModel$Text", "kidShape", "[I", true, tyX10, (tc_6 _ (List.mem_of_getElem? (i := 148) (by decide +kernel))), rfl, kl_10, rfl, by decide, tyX10_ok, nmX10, by decide +kernel, Or.inr ⟨rfl, rfl, rfl⟩⟩
theorem kfN_RX11_149 : rt_FdN RX11 149 10 25 := ⟨RX10, TX10, 35, "RecordTellerModel$Text", "kidShape", "[I", true, "RecordTellerModel", (tc_6 _ (List.mem_of_getElem? (i := 149) (by decide +kernel))), rfl, kl_10, rfl, by decide⟩
theorem kf_RX10_59 : rt_Fd RX10 59 10 26 := ⟨RX10, TX10, 35, "RecordTellerModel$Text", "kidName", "[I", true, (tc_6 _ (List.mem_of_getElem? (i := 150) (by decide +kernel))), rfl, kl_10, rfl, by decide⟩
theorem kp_RX10_59  : rt_Fp RX10 "<init>" 59 10 26 (.array .int) := ⟨RX10, TX10, 35, "RecordTellerModel$Text", "kidName", "[I", true, tyX10, (tc_6 _ (List.mem_of_getElem? (i := 150) (by decide +kernel))), rfl, kl_10, rfl, by decide, tyX10_ok, nmX10, by decide +kernel, Or.inr ⟨rfl, rfl, rfl⟩⟩
theorem kfN_RX11_231 : rt_FdN RX11 231 10 26 := ⟨RX10, TX10, 35, "RecordTellerModel$Text", "kidName", "[I", true, "RecordTellerModel", (tc_6 _ (List.mem_of_getElem? (i := 151) (by decide +kernel))), rfl, kl_10, rfl, by decide⟩
theorem kf_RX10_62 : rt_Fd RX10 62 10 27 := ⟨RX10, TX10, 35, "RecordTellerModel$Text", "kidDefault", "[I", true, (tc_6 _ (List.mem_of_getElem? (i := 152) (by decide +kernel))), rfl, kl_10, rfl, by decide⟩
theorem kp_RX10_62  : rt_Fp RX10 "<init>" 62 10 27 (.array .int) := ⟨RX10, TX10, 35, "RecordTellerModel$Text", "kidDefault", "[I", true, tyX10, (tc_6 _ (List.mem_of_getElem? (i := 152) (by decide +kernel))), rfl, kl_10, rfl, by decide, tyX10_ok, nmX10, by decide +kernel, Or.inr ⟨rfl, rfl, rfl⟩⟩
theorem kfN_RX11_244 : rt_FdN RX11 244 10 27 := ⟨RX10, TX10, 35, "RecordTellerModel$Text", "kidDefault", "[I", true, "RecordTellerModel", (tc_6 _ (List.mem_of_getElem? (i := 153) (by decide +kernel))), rfl, kl_10, rfl, by decide⟩
theorem kf_RX10_65 : rt_Fd RX10 65 10 28 := ⟨RX10, TX10, 35, "RecordTellerModel$Text", "kidNext", "[I", true, (tc_6 _ (List.mem_of_getElem? (i := 154) (by decide +kernel))), rfl, kl_10, rfl, by decide⟩
theorem kp_RX10_65  : rt_Fp RX10 "<init>" 65 10 28 (.array .int) := ⟨RX10, TX10, 35, "RecordTellerModel$Text", "kidNext", "[I", true, tyX10, (tc_6 _ (List.mem_of_getElem? (i := 154) (by decide +kernel))), rfl, kl_10, rfl, by decide, tyX10_ok, nmX10, by decide +kernel, Or.inr ⟨rfl, rfl, rfl⟩⟩
theorem kfN_RX11_163 : rt_FdN RX11 163 10 28 := ⟨RX10, TX10, 35, "RecordTellerModel$Text", "kidNext", "[I", true, "RecordTellerModel", (tc_6 _ (List.mem_of_getElem? (i := 155) (by decide +kernel))), rfl, kl_10, rfl, by decide⟩
theorem kf_RX10_271 : rt_Fd RX10 271 10 29 := ⟨RX10, TX10, 35, "RecordTellerModel$Text", "done", "I", false, (tc_6 _ (List.mem_of_getElem? (i := 156) (by decide +kernel))), rfl, kl_10, rfl, by decide⟩
theorem kp_RX10_271 {nm : String} : rt_Fp RX10 nm 271 10 29 .int := ⟨RX10, TX10, 35, "RecordTellerModel$Text", "done", "I", false, tyX10, (tc_6 _ (List.mem_of_getElem? (i := 156) (by decide +kernel))), rfl, kl_10, rfl, by decide, tyX10_ok, nmX10, by decide +kernel, Or.inl rfl⟩
theorem kf_RX10_68 : rt_Fd RX10 68 10 30 := ⟨RX10, TX10, 35, "RecordTellerModel$Text", "finished", "[I", true, (tc_6 _ (List.mem_of_getElem? (i := 157) (by decide +kernel))), rfl, kl_10, rfl, by decide⟩
theorem kp_RX10_68  : rt_Fp RX10 "<init>" 68 10 30 (.array .int) := ⟨RX10, TX10, 35, "RecordTellerModel$Text", "finished", "[I", true, tyX10, (tc_6 _ (List.mem_of_getElem? (i := 157) (by decide +kernel))), rfl, kl_10, rfl, by decide, tyX10_ok, nmX10, by decide +kernel, Or.inr ⟨rfl, rfl, rfl⟩⟩
theorem kfN_RX11_188 : rt_FdN RX11 188 10 31 := ⟨RX10, TX10, 35, "RecordTellerModel$Text", "root", "I", false, "RecordTellerModel", (tc_6 _ (List.mem_of_getElem? (i := 158) (by decide +kernel))), rfl, kl_10, rfl, by decide⟩
theorem kf_RX10_286 : rt_Fd RX10 286 10 31 := ⟨RX10, TX10, 35, "RecordTellerModel$Text", "root", "I", false, (tc_6 _ (List.mem_of_getElem? (i := 159) (by decide +kernel))), rfl, kl_10, rfl, by decide⟩
theorem kp_RX10_286 {nm : String} : rt_Fp RX10 nm 286 10 31 .int := ⟨RX10, TX10, 35, "RecordTellerModel$Text", "root", "I", false, tyX10, (tc_6 _ (List.mem_of_getElem? (i := 159) (by decide +kernel))), rfl, kl_10, rfl, by decide, tyX10_ok, nmX10, by decide +kernel, Or.inl rfl⟩
theorem kf_RX10_71 : rt_Fd RX10 71 10 32 := ⟨RX10, TX10, 35, "RecordTellerModel$Text", "plain", "[B", true, (tc_6 _ (List.mem_of_getElem? (i := 160) (by decide +kernel))), rfl, kl_10, rfl, by decide⟩
theorem kp_RX10_71  : rt_Fp RX10 "<init>" 71 10 32 (.array .byte) := ⟨RX10, TX10, 35, "RecordTellerModel$Text", "plain", "[B", true, tyX10, (tc_6 _ (List.mem_of_getElem? (i := 160) (by decide +kernel))), rfl, kl_10, rfl, by decide, tyX10_ok, nmX10, by decide +kernel, Or.inr ⟨rfl, rfl, rfl⟩⟩
theorem kf_RX10_280 : rt_Fd RX10 280 10 33 := ⟨RX10, TX10, 35, "RecordTellerModel$Text", "plainSize", "I", false, (tc_6 _ (List.mem_of_getElem? (i := 161) (by decide +kernel))), rfl, kl_10, rfl, by decide⟩
theorem kp_RX10_280 {nm : String} : rt_Fp RX10 nm 280 10 33 .int := ⟨RX10, TX10, 35, "RecordTellerModel$Text", "plainSize", "I", false, tyX10, (tc_6 _ (List.mem_of_getElem? (i := 161) (by decide +kernel))), rfl, kl_10, rfl, by decide, tyX10_ok, nmX10, by decide +kernel, Or.inl rfl⟩
theorem kf_RX10_74 : rt_Fd RX10 74 10 34 := ⟨RX10, TX10, 35, "RecordTellerModel$Text", "told", "[Z", true, (tc_6 _ (List.mem_of_getElem? (i := 162) (by decide +kernel))), rfl, kl_10, rfl, by decide⟩
theorem kp_RX10_74  : rt_Fp RX10 "<init>" 74 10 34 (.array .boolean) := ⟨RX10, TX10, 35, "RecordTellerModel$Text", "told", "[Z", true, tyX10, (tc_6 _ (List.mem_of_getElem? (i := 162) (by decide +kernel))), rfl, kl_10, rfl, by decide, tyX10_ok, nmX10, by decide +kernel, Or.inr ⟨rfl, rfl, rfl⟩⟩
theorem kf_RX11_54 : rt_Fd RX11 54 11 0 := ⟨RX11, TX11, 26, "RecordTellerModel", "thrown", "I", false, (tc_6 _ (List.mem_of_getElem? (i := 236) (by decide +kernel))), rfl, kl_11, rfl, by decide⟩
theorem kp_RX11_54 {nm : String} : rt_Fp RX11 nm 54 11 0 .int := ⟨RX11, TX11, 26, "RecordTellerModel", "thrown", "I", false, tyX11, (tc_6 _ (List.mem_of_getElem? (i := 236) (by decide +kernel))), rfl, kl_11, rfl, by decide, tyX11_ok, nmX11, by decide +kernel, Or.inl rfl⟩
theorem kf_RX11_7 : rt_Fd RX11 7 11 1 := ⟨RX11, TX11, 26, "RecordTellerModel", "tape", "[B", true, (tc_6 _ (List.mem_of_getElem? (i := 237) (by decide +kernel))), rfl, kl_11, rfl, by decide⟩
theorem kp_RX11_7  : rt_Fp RX11 "<init>" 7 11 1 (.array .byte) := ⟨RX11, TX11, 26, "RecordTellerModel", "tape", "[B", true, tyX11, (tc_6 _ (List.mem_of_getElem? (i := 237) (by decide +kernel))), rfl, kl_11, rfl, by decide, tyX11_ok, nmX11, by decide +kernel, Or.inr ⟨rfl, rfl, rfl⟩⟩
theorem kf_RX11_57 : rt_Fd RX11 57 11 2 := ⟨RX11, TX11, 26, "RecordTellerModel", "taped", "I", false, (tc_6 _ (List.mem_of_getElem? (i := 238) (by decide +kernel))), rfl, kl_11, rfl, by decide⟩
theorem kp_RX11_57 {nm : String} : rt_Fp RX11 nm 57 11 2 .int := ⟨RX11, TX11, 26, "RecordTellerModel", "taped", "I", false, tyX11, (tc_6 _ (List.mem_of_getElem? (i := 238) (by decide +kernel))), rfl, kl_11, rfl, by decide, tyX11_ok, nmX11, by decide +kernel, Or.inl rfl⟩
theorem kf_RX11_13 : rt_Fd RX11 13 11 3 := ⟨RX11, TX11, 26, "RecordTellerModel", "place", "I", false, (tc_6 _ (List.mem_of_getElem? (i := 239) (by decide +kernel))), rfl, kl_11, rfl, by decide⟩
theorem kp_RX11_13 {nm : String} : rt_Fp RX11 nm 13 11 3 .int := ⟨RX11, TX11, 26, "RecordTellerModel", "place", "I", false, tyX11, (tc_6 _ (List.mem_of_getElem? (i := 239) (by decide +kernel))), rfl, kl_11, rfl, by decide, tyX11_ok, nmX11, by decide +kernel, Or.inl rfl⟩
theorem kf_RX11_20 : rt_Fd RX11 20 11 4 := ⟨RX11, TX11, 26, "RecordTellerModel", "left", "LRecordTellerModel$Text;", true, (tc_7 _ (List.mem_of_getElem? (i := 0) (by decide +kernel))), rfl, kl_11, rfl, by decide⟩
theorem kp_RX11_20  : rt_Fp RX11 "<init>" 20 11 4 (.object "RecordTellerModel$Text") := ⟨RX11, TX11, 26, "RecordTellerModel", "left", "LRecordTellerModel$Text;", true, tyX11, (tc_7 _ (List.mem_of_getElem? (i := 0) (by decide +kernel))), rfl, kl_11, rfl, by decide, tyX11_ok, nmX11, by decide +kernel, Or.inr ⟨rfl, rfl, rfl⟩⟩
theorem kf_RX11_24 : rt_Fd RX11 24 11 5 := ⟨RX11, TX11, 26, "RecordTellerModel", "right", "LRecordTellerModel$Text;", true, (tc_7 _ (List.mem_of_getElem? (i := 1) (by decide +kernel))), rfl, kl_11, rfl, by decide⟩
theorem kp_RX11_24  : rt_Fp RX11 "<init>" 24 11 5 (.object "RecordTellerModel$Text") := ⟨RX11, TX11, 26, "RecordTellerModel", "right", "LRecordTellerModel$Text;", true, tyX11, (tc_7 _ (List.mem_of_getElem? (i := 1) (by decide +kernel))), rfl, kl_11, rfl, by decide, tyX11_ok, nmX11, by decide +kernel, Or.inr ⟨rfl, rfl, rfl⟩⟩
theorem kf_RX11_28 : rt_Fd RX11 28 11 6 := ⟨RX11, TX11, 26, "RecordTellerModel", "kept", "[B", true, (tc_7 _ (List.mem_of_getElem? (i := 2) (by decide +kernel))), rfl, kl_11, rfl, by decide⟩
theorem kp_RX11_28  : rt_Fp RX11 "<init>" 28 11 6 (.array .byte) := ⟨RX11, TX11, 26, "RecordTellerModel", "kept", "[B", true, tyX11, (tc_7 _ (List.mem_of_getElem? (i := 2) (by decide +kernel))), rfl, kl_11, rfl, by decide, tyX11_ok, nmX11, by decide +kernel, Or.inr ⟨rfl, rfl, rfl⟩⟩
theorem kf_RX11_31 : rt_Fd RX11 31 11 7 := ⟨RX11, TX11, 26, "RecordTellerModel", "sizes", "[I", true, (tc_7 _ (List.mem_of_getElem? (i := 3) (by decide +kernel))), rfl, kl_11, rfl, by decide⟩
theorem kp_RX11_31  : rt_Fp RX11 "<init>" 31 11 7 (.array .int) := ⟨RX11, TX11, 26, "RecordTellerModel", "sizes", "[I", true, tyX11, (tc_7 _ (List.mem_of_getElem? (i := 3) (by decide +kernel))), rfl, kl_11, rfl, by decide, tyX11_ok, nmX11, by decide +kernel, Or.inr ⟨rfl, rfl, rfl⟩⟩
theorem kf_RX11_35 : rt_Fd RX11 35 11 8 := ⟨RX11, TX11, 26, "RecordTellerModel", "disk", "[B", true, (tc_7 _ (List.mem_of_getElem? (i := 4) (by decide +kernel))), rfl, kl_11, rfl, by decide⟩
theorem kp_RX11_35  : rt_Fp RX11 "<init>" 35 11 8 (.array .byte) := ⟨RX11, TX11, 26, "RecordTellerModel", "disk", "[B", true, tyX11, (tc_7 _ (List.mem_of_getElem? (i := 4) (by decide +kernel))), rfl, kl_11, rfl, by decide, tyX11_ok, nmX11, by decide +kernel, Or.inr ⟨rfl, rfl, rfl⟩⟩
theorem kf_RX11_38 : rt_Fd RX11 38 11 9 := ⟨RX11, TX11, 26, "RecordTellerModel", "owner", "I", false, (tc_7 _ (List.mem_of_getElem? (i := 5) (by decide +kernel))), rfl, kl_11, rfl, by decide⟩
theorem kp_RX11_38 {nm : String} : rt_Fp RX11 nm 38 11 9 .int := ⟨RX11, TX11, 26, "RecordTellerModel", "owner", "I", false, tyX11, (tc_7 _ (List.mem_of_getElem? (i := 5) (by decide +kernel))), rfl, kl_11, rfl, by decide, tyX11_ok, nmX11, by decide +kernel, Or.inl rfl⟩
theorem kf_RX11_81 : rt_Fd RX11 81 11 10 := ⟨RX11, TX11, 26, "RecordTellerModel", "rows", "I", false, (tc_7 _ (List.mem_of_getElem? (i := 6) (by decide +kernel))), rfl, kl_11, rfl, by decide⟩
theorem kp_RX11_81 {nm : String} : rt_Fp RX11 nm 81 11 10 .int := ⟨RX11, TX11, 26, "RecordTellerModel", "rows", "I", false, tyX11, (tc_7 _ (List.mem_of_getElem? (i := 6) (by decide +kernel))), rfl, kl_11, rfl, by decide, tyX11_ok, nmX11, by decide +kernel, Or.inl rfl⟩
theorem kf_RX11_84 : rt_Fd RX11 84 11 11 := ⟨RX11, TX11, 26, "RecordTellerModel", "rowBytes", "I", false, (tc_7 _ (List.mem_of_getElem? (i := 7) (by decide +kernel))), rfl, kl_11, rfl, by decide⟩
theorem kp_RX11_84 {nm : String} : rt_Fp RX11 nm 84 11 11 .int := ⟨RX11, TX11, 26, "RecordTellerModel", "rowBytes", "I", false, tyX11, (tc_7 _ (List.mem_of_getElem? (i := 7) (by decide +kernel))), rfl, kl_11, rfl, by decide, tyX11_ok, nmX11, by decide +kernel, Or.inl rfl⟩
theorem kf_RX11_41 : rt_Fd RX11 41 11 12 := ⟨RX11, TX11, 26, "RecordTellerModel", "out", "[B", true, (tc_7 _ (List.mem_of_getElem? (i := 8) (by decide +kernel))), rfl, kl_11, rfl, by decide⟩
theorem kp_RX11_41  : rt_Fp RX11 "<init>" 41 11 12 (.array .byte) := ⟨RX11, TX11, 26, "RecordTellerModel", "out", "[B", true, tyX11, (tc_7 _ (List.mem_of_getElem? (i := 8) (by decide +kernel))), rfl, kl_11, rfl, by decide, tyX11_ok, nmX11, by decide +kernel, Or.inr ⟨rfl, rfl, rfl⟩⟩
theorem kf_RX11_198 : rt_Fd RX11 198 11 13 := ⟨RX11, TX11, 26, "RecordTellerModel", "outSize", "I", false, (tc_7 _ (List.mem_of_getElem? (i := 9) (by decide +kernel))), rfl, kl_11, rfl, by decide⟩
theorem kp_RX11_198 {nm : String} : rt_Fp RX11 nm 198 11 13 .int := ⟨RX11, TX11, 26, "RecordTellerModel", "outSize", "I", false, tyX11, (tc_7 _ (List.mem_of_getElem? (i := 9) (by decide +kernel))), rfl, kl_11, rfl, by decide, tyX11_ok, nmX11, by decide +kernel, Or.inl rfl⟩
theorem kf_RX11_44 : rt_Fd RX11 44 11 14 := ⟨RX11, TX11, 26, "RecordTellerModel", "made", "[B", true, (tc_7 _ (List.mem_of_getElem? (i := 10) (by decide +kernel))), rfl, kl_11, rfl, by decide⟩
theorem kp_RX11_44  : rt_Fp RX11 "<init>" 44 11 14 (.array .byte) := ⟨RX11, TX11, 26, "RecordTellerModel", "made", "[B", true, tyX11, (tc_7 _ (List.mem_of_getElem? (i := 10) (by decide +kernel))), rfl, kl_11, rfl, by decide, tyX11_ok, nmX11, by decide +kernel, Or.inr ⟨rfl, rfl, rfl⟩⟩
theorem kf_RX11_115 : rt_Fd RX11 115 11 15 := ⟨RX11, TX11, 26, "RecordTellerModel", "madeSize", "I", false, (tc_7 _ (List.mem_of_getElem? (i := 11) (by decide +kernel))), rfl, kl_11, rfl, by decide⟩
theorem kp_RX11_115 {nm : String} : rt_Fp RX11 nm 115 11 15 .int := ⟨RX11, TX11, 26, "RecordTellerModel", "madeSize", "I", false, tyX11, (tc_7 _ (List.mem_of_getElem? (i := 11) (by decide +kernel))), rfl, kl_11, rfl, by decide, tyX11_ok, nmX11, by decide +kernel, Or.inl rfl⟩
theorem kf_RX11_99 : rt_Fd RX11 99 11 16 := ⟨RX11, TX11, 26, "RecordTellerModel", "at", "I", false, (tc_7 _ (List.mem_of_getElem? (i := 12) (by decide +kernel))), rfl, kl_11, rfl, by decide⟩
theorem kp_RX11_99 {nm : String} : rt_Fp RX11 nm 99 11 16 .int := ⟨RX11, TX11, 26, "RecordTellerModel", "at", "I", false, tyX11, (tc_7 _ (List.mem_of_getElem? (i := 12) (by decide +kernel))), rfl, kl_11, rfl, by decide, tyX11_ok, nmX11, by decide +kernel, Or.inl rfl⟩
theorem kf_RX11_87 : rt_Fd RX11 87 11 17 := ⟨RX11, TX11, 26, "RecordTellerModel", "fault", "I", false, (tc_7 _ (List.mem_of_getElem? (i := 13) (by decide +kernel))), rfl, kl_11, rfl, by decide⟩
theorem kp_RX11_87 {nm : String} : rt_Fp RX11 nm 87 11 17 .int := ⟨RX11, TX11, 26, "RecordTellerModel", "fault", "I", false, tyX11, (tc_7 _ (List.mem_of_getElem? (i := 13) (by decide +kernel))), rfl, kl_11, rfl, by decide, tyX11_ok, nmX11, by decide +kernel, Or.inl rfl⟩
theorem kf_RX11_90 : rt_Fd RX11 90 11 18 := ⟨RX11, TX11, 26, "RecordTellerModel", "where", "I", false, (tc_7 _ (List.mem_of_getElem? (i := 14) (by decide +kernel))), rfl, kl_11, rfl, by decide⟩
theorem kp_RX11_90 {nm : String} : rt_Fp RX11 nm 90 11 18 .int := ⟨RX11, TX11, 26, "RecordTellerModel", "where", "I", false, tyX11, (tc_7 _ (List.mem_of_getElem? (i := 14) (by decide +kernel))), rfl, kl_11, rfl, by decide, tyX11_ok, nmX11, by decide +kernel, Or.inl rfl⟩
theorem kf_RX11_175 : rt_Fd RX11 175 11 19 := ⟨RX11, TX11, 26, "RecordTellerModel", "items", "I", false, (tc_7 _ (List.mem_of_getElem? (i := 15) (by decide +kernel))), rfl, kl_11, rfl, by decide⟩
theorem kp_RX11_175 {nm : String} : rt_Fp RX11 nm 175 11 19 .int := ⟨RX11, TX11, 26, "RecordTellerModel", "items", "I", false, tyX11, (tc_7 _ (List.mem_of_getElem? (i := 15) (by decide +kernel))), rfl, kl_11, rfl, by decide, tyX11_ok, nmX11, by decide +kernel, Or.inl rfl⟩
theorem kf_RX11_129 : rt_Fd RX11 129 11 20 := ⟨RX11, TX11, 26, "RecordTellerModel", "data", "I", false, (tc_7 _ (List.mem_of_getElem? (i := 16) (by decide +kernel))), rfl, kl_11, rfl, by decide⟩
theorem kp_RX11_129 {nm : String} : rt_Fp RX11 nm 129 11 20 .int := ⟨RX11, TX11, 26, "RecordTellerModel", "data", "I", false, tyX11, (tc_7 _ (List.mem_of_getElem? (i := 16) (by decide +kernel))), rfl, kl_11, rfl, by decide, tyX11_ok, nmX11, by decide +kernel, Or.inl rfl⟩
theorem kf_RX11_47 : rt_Fd RX11 47 11 21 := ⟨RX11, TX11, 26, "RecordTellerModel", "asked", "[Z", true, (tc_7 _ (List.mem_of_getElem? (i := 17) (by decide +kernel))), rfl, kl_11, rfl, by decide⟩
theorem kp_RX11_47  : rt_Fp RX11 "<init>" 47 11 21 (.array .boolean) := ⟨RX11, TX11, 26, "RecordTellerModel", "asked", "[Z", true, tyX11, (tc_7 _ (List.mem_of_getElem? (i := 17) (by decide +kernel))), rfl, kl_11, rfl, by decide, tyX11_ok, nmX11, by decide +kernel, Or.inr ⟨rfl, rfl, rfl⟩⟩
theorem kf_RX11_51 : rt_Fd RX11 51 11 22 := ⟨RX11, TX11, 26, "RecordTellerModel", "pairs", "[I", true, (tc_7 _ (List.mem_of_getElem? (i := 18) (by decide +kernel))), rfl, kl_11, rfl, by decide⟩
theorem kp_RX11_51  : rt_Fp RX11 "<init>" 51 11 22 (.array .int) := ⟨RX11, TX11, 26, "RecordTellerModel", "pairs", "[I", true, tyX11, (tc_7 _ (List.mem_of_getElem? (i := 18) (by decide +kernel))), rfl, kl_11, rfl, by decide, tyX11_ok, nmX11, by decide +kernel, Or.inr ⟨rfl, rfl, rfl⟩⟩
theorem kf_RX11_219 : rt_Fd RX11 219 11 23 := ⟨RX11, TX11, 26, "RecordTellerModel", "many", "I", false, (tc_7 _ (List.mem_of_getElem? (i := 19) (by decide +kernel))), rfl, kl_11, rfl, by decide⟩
theorem kp_RX11_219 {nm : String} : rt_Fp RX11 nm 219 11 23 .int := ⟨RX11, TX11, 26, "RecordTellerModel", "many", "I", false, tyX11, (tc_7 _ (List.mem_of_getElem? (i := 19) (by decide +kernel))), rfl, kl_11, rfl, by decide, tyX11_ok, nmX11, by decide +kernel, Or.inl rfl⟩
theorem kf_RX11_253 : rt_Fd RX11 253 11 24 := ⟨RX11, TX11, 26, "RecordTellerModel", "from", "I", false, (tc_7 _ (List.mem_of_getElem? (i := 20) (by decide +kernel))), rfl, kl_11, rfl, by decide⟩
theorem kp_RX11_253 {nm : String} : rt_Fp RX11 nm 253 11 24 .int := ⟨RX11, TX11, 26, "RecordTellerModel", "from", "I", false, tyX11, (tc_7 _ (List.mem_of_getElem? (i := 20) (by decide +kernel))), rfl, kl_11, rfl, by decide, tyX11_ok, nmX11, by decide +kernel, Or.inl rfl⟩
theorem kf_RX11_247 : rt_Fd RX11 247 11 25 := ⟨RX11, TX11, 26, "RecordTellerModel", "stop", "I", false, (tc_7 _ (List.mem_of_getElem? (i := 21) (by decide +kernel))), rfl, kl_11, rfl, by decide⟩
theorem kp_RX11_247 {nm : String} : rt_Fp RX11 nm 247 11 25 .int := ⟨RX11, TX11, 26, "RecordTellerModel", "stop", "I", false, tyX11, (tc_7 _ (List.mem_of_getElem? (i := 21) (by decide +kernel))), rfl, kl_11, rfl, by decide, tyX11_ok, nmX11, by decide +kernel, Or.inl rfl⟩
theorem kn_RL_8 : rt_Fn RL 8 9 12 [.null, .null, .null, .null, .null, .null, .null, .null, .null, .null, .int 0, .int 0] := by
  refine ⟨RX9, TX9, tyX9, (tc_1 _ (List.mem_of_getElem? (i := 26) (by decide +kernel))), (tc_1 _ (List.mem_of_getElem? (i := 27) (by decide +kernel))), (tc_1 _ (List.mem_of_getElem? (i := 1) (by decide +kernel))), rfl, kl_9, tyX9_ok, fun j hj => ?_⟩
  match j, hj with
  | 0, _ => rfl
  | 1, _ => rfl
  | 2, _ => rfl
  | 3, _ => rfl
  | 4, _ => rfl
  | 5, _ => rfl
  | 6, _ => rfl
  | 7, _ => rfl
  | 8, _ => rfl
  | 9, _ => rfl
  | 10, _ => rfl
  | 11, _ => rfl
  | n + 12, h => exact absurd h (by omega)
theorem kn_RX9_7 : rt_Fn RX9 7 0 2 [.null, .int 0] := by
  refine ⟨RX0, TX0, tyX0, (tc_1 _ (List.mem_of_getElem? (i := 34) (by decide +kernel))), (tc_1 _ (List.mem_of_getElem? (i := 35) (by decide +kernel))), (tc_1 _ (List.mem_of_getElem? (i := 2) (by decide +kernel))), rfl, kl_0, tyX0_ok, fun j hj => ?_⟩
  match j, hj with
  | 0, _ => rfl
  | 1, _ => rfl
  | n + 2, h => exact absurd h (by omega)
theorem kn_RX9_21 : rt_Fn RX9 21 6 13 [.null, .null, .null, .null, .null, .null, .null, .null, .null, .null, .null, .null, .int 0] := by
  refine ⟨RX6, TX6, tyX6, (tc_1 _ (List.mem_of_getElem? (i := 48) (by decide +kernel))), (tc_1 _ (List.mem_of_getElem? (i := 124) (by decide +kernel))), (tc_1 _ (List.mem_of_getElem? (i := 6) (by decide +kernel))), rfl, kl_6, tyX6_ok, fun j hj => ?_⟩
  match j, hj with
  | 0, _ => rfl
  | 1, _ => rfl
  | 2, _ => rfl
  | 3, _ => rfl
  | 4, _ => rfl
  | 5, _ => rfl
  | 6, _ => rfl
  | 7, _ => rfl
  | 8, _ => rfl
  | 9, _ => rfl
  | 10, _ => rfl
  | 11, _ => rfl
  | 12, _ => rfl
  | n + 13, h => exact absurd h (by omega)
theorem kn_RX9_27 : rt_Fn RX9 27 8 13 [.null, .null, .null, .null, .null, .null, .null, .null, .null, .null, .int 0, .int 0, .int 0] := by
  refine ⟨RX8, TX8, tyX8, (tc_1 _ (List.mem_of_getElem? (i := 50) (by decide +kernel))), (tc_1 _ (List.mem_of_getElem? (i := 51) (by decide +kernel))), (tc_1 _ (List.mem_of_getElem? (i := 3) (by decide +kernel))), rfl, kl_8, tyX8_ok, fun j hj => ?_⟩
  match j, hj with
  | 0, _ => rfl
  | 1, _ => rfl
  | 2, _ => rfl
  | 3, _ => rfl
  | 4, _ => rfl
  | 5, _ => rfl
  | 6, _ => rfl
  | 7, _ => rfl
  | 8, _ => rfl
  | 9, _ => rfl
  | 10, _ => rfl
  | 11, _ => rfl
  | 12, _ => rfl
  | n + 13, h => exact absurd h (by omega)
theorem kn_RX8_11 : rt_Fn RX8 11 0 2 [.null, .int 0] := by
  refine ⟨RX0, TX0, tyX0, (tc_1 _ (List.mem_of_getElem? (i := 56) (by decide +kernel))), (tc_1 _ (List.mem_of_getElem? (i := 35) (by decide +kernel))), (tc_1 _ (List.mem_of_getElem? (i := 2) (by decide +kernel))), rfl, kl_0, tyX0_ok, fun j hj => ?_⟩
  match j, hj with
  | 0, _ => rfl
  | 1, _ => rfl
  | n + 2, h => exact absurd h (by omega)
theorem kn_RX9_34 : rt_Fn RX9 34 1 8 [.null, .null, .null, .null, .null, .int 0, .int 0, .int 0] := by
  refine ⟨RX1, TX1, tyX1, (tc_1 _ (List.mem_of_getElem? (i := 99) (by decide +kernel))), (tc_1 _ (List.mem_of_getElem? (i := 100) (by decide +kernel))), (tc_1 _ (List.mem_of_getElem? (i := 4) (by decide +kernel))), rfl, kl_1, tyX1_ok, fun j hj => ?_⟩
  match j, hj with
  | 0, _ => rfl
  | 1, _ => rfl
  | 2, _ => rfl
  | 3, _ => rfl
  | 4, _ => rfl
  | 5, _ => rfl
  | 6, _ => rfl
  | 7, _ => rfl
  | n + 8, h => exact absurd h (by omega)
theorem kn_RX1_9 : rt_Fn RX1 9 2 3 [.null, .null, .int 0] := by
  refine ⟨RX2, TX2, tyX2, (tc_1 _ (List.mem_of_getElem? (i := 105) (by decide +kernel))), (tc_1 _ (List.mem_of_getElem? (i := 106) (by decide +kernel))), (tc_1 _ (List.mem_of_getElem? (i := 5) (by decide +kernel))), rfl, kl_2, tyX2_ok, fun j hj => ?_⟩
  match j, hj with
  | 0, _ => rfl
  | 1, _ => rfl
  | 2, _ => rfl
  | n + 3, h => exact absurd h (by omega)
theorem kn_RX1_18 : rt_Fn RX1 18 0 2 [.null, .int 0] := by
  refine ⟨RX0, TX0, tyX0, (tc_1 _ (List.mem_of_getElem? (i := 121) (by decide +kernel))), (tc_1 _ (List.mem_of_getElem? (i := 35) (by decide +kernel))), (tc_1 _ (List.mem_of_getElem? (i := 2) (by decide +kernel))), rfl, kl_0, tyX0_ok, fun j hj => ?_⟩
  match j, hj with
  | 0, _ => rfl
  | 1, _ => rfl
  | n + 2, h => exact absurd h (by omega)
theorem kn_RX1_30 : rt_Fn RX1 30 6 13 [.null, .null, .null, .null, .null, .null, .null, .null, .null, .null, .null, .null, .int 0] := by
  refine ⟨RX6, TX6, tyX6, (tc_1 _ (List.mem_of_getElem? (i := 123) (by decide +kernel))), (tc_1 _ (List.mem_of_getElem? (i := 124) (by decide +kernel))), (tc_1 _ (List.mem_of_getElem? (i := 6) (by decide +kernel))), rfl, kl_6, tyX6_ok, fun j hj => ?_⟩
  match j, hj with
  | 0, _ => rfl
  | 1, _ => rfl
  | 2, _ => rfl
  | 3, _ => rfl
  | 4, _ => rfl
  | 5, _ => rfl
  | 6, _ => rfl
  | 7, _ => rfl
  | 8, _ => rfl
  | 9, _ => rfl
  | 10, _ => rfl
  | 11, _ => rfl
  | 12, _ => rfl
  | n + 13, h => exact absurd h (by omega)
theorem kn_RX6_11 : rt_Fn RX6 11 0 2 [.null, .int 0] := by
  refine ⟨RX0, TX0, tyX0, (tc_1 _ (List.mem_of_getElem? (i := 129) (by decide +kernel))), (tc_1 _ (List.mem_of_getElem? (i := 35) (by decide +kernel))), (tc_1 _ (List.mem_of_getElem? (i := 2) (by decide +kernel))), rfl, kl_0, tyX0_ok, fun j hj => ?_⟩
  match j, hj with
  | 0, _ => rfl
  | 1, _ => rfl
  | n + 2, h => exact absurd h (by omega)
theorem kn_RX9_41 : rt_Fn RX9 41 4 8 [.null, .null, .null, .int 0, .int 0, .int 0, .int 0, .int 0] := by
  refine ⟨RX4, TX4, tyX4, (tc_1 _ (List.mem_of_getElem? (i := 196) (by decide +kernel))), (tc_1 _ (List.mem_of_getElem? (i := 197) (by decide +kernel))), (tc_1 _ (List.mem_of_getElem? (i := 7) (by decide +kernel))), rfl, kl_4, tyX4_ok, fun j hj => ?_⟩
  match j, hj with
  | 0, _ => rfl
  | 1, _ => rfl
  | 2, _ => rfl
  | 3, _ => rfl
  | 4, _ => rfl
  | 5, _ => rfl
  | 6, _ => rfl
  | 7, _ => rfl
  | n + 8, h => exact absurd h (by omega)
theorem kn_RX9_48 : rt_Fn RX9 48 7 12 [.null, .null, .null, .null, .null, .null, .null, .null, .null, .int 0, .int 0, .int 0] := by
  refine ⟨RX7, TX7, tyX7, (tc_1 _ (List.mem_of_getElem? (i := 227) (by decide +kernel))), (tc_1 _ (List.mem_of_getElem? (i := 228) (by decide +kernel))), (tc_1 _ (List.mem_of_getElem? (i := 8) (by decide +kernel))), rfl, kl_7, tyX7_ok, fun j hj => ?_⟩
  match j, hj with
  | 0, _ => rfl
  | 1, _ => rfl
  | 2, _ => rfl
  | 3, _ => rfl
  | 4, _ => rfl
  | 5, _ => rfl
  | 6, _ => rfl
  | 7, _ => rfl
  | 8, _ => rfl
  | 9, _ => rfl
  | 10, _ => rfl
  | 11, _ => rfl
  | n + 12, h => exact absurd h (by omega)
theorem kn_RX7_9 : rt_Fn RX7 9 0 2 [.null, .int 0] := by
  refine ⟨RX0, TX0, tyX0, (tc_1 _ (List.mem_of_getElem? (i := 233) (by decide +kernel))), (tc_1 _ (List.mem_of_getElem? (i := 35) (by decide +kernel))), (tc_1 _ (List.mem_of_getElem? (i := 2) (by decide +kernel))), rfl, kl_0, tyX0_ok, fun j hj => ?_⟩
  match j, hj with
  | 0, _ => rfl
  | 1, _ => rfl
  | n + 2, h => exact absurd h (by omega)
theorem kn_RX9_55 : rt_Fn RX9 55 3 5 [.null, .null, .null, .null, .int 0] := by
  refine ⟨RX3, TX3, tyX3, (tc_2 _ (List.mem_of_getElem? (i := 32) (by decide +kernel))), (tc_2 _ (List.mem_of_getElem? (i := 33) (by decide +kernel))), (tc_1 _ (List.mem_of_getElem? (i := 9) (by decide +kernel))), rfl, kl_3, tyX3_ok, fun j hj => ?_⟩
  match j, hj with
  | 0, _ => rfl
  | 1, _ => rfl
  | 2, _ => rfl
  | 3, _ => rfl
  | 4, _ => rfl
  | n + 5, h => exact absurd h (by omega)
theorem kn_RX3_11 : rt_Fn RX3 11 0 2 [.null, .int 0] := by
  refine ⟨RX0, TX0, tyX0, (tc_2 _ (List.mem_of_getElem? (i := 38) (by decide +kernel))), (tc_1 _ (List.mem_of_getElem? (i := 35) (by decide +kernel))), (tc_1 _ (List.mem_of_getElem? (i := 2) (by decide +kernel))), rfl, kl_0, tyX0_ok, fun j hj => ?_⟩
  match j, hj with
  | 0, _ => rfl
  | 1, _ => rfl
  | n + 2, h => exact absurd h (by omega)
theorem kn_RX9_62 : rt_Fn RX9 62 5 2 [.null, .null] := by
  refine ⟨RX5, TX5, tyX5, (tc_2 _ (List.mem_of_getElem? (i := 56) (by decide +kernel))), (tc_2 _ (List.mem_of_getElem? (i := 57) (by decide +kernel))), (tc_1 _ (List.mem_of_getElem? (i := 10) (by decide +kernel))), rfl, kl_5, tyX5_ok, fun j hj => ?_⟩
  match j, hj with
  | 0, _ => rfl
  | 1, _ => rfl
  | n + 2, h => exact absurd h (by omega)
theorem kn_RX5_9 : rt_Fn RX5 9 0 2 [.null, .int 0] := by
  refine ⟨RX0, TX0, tyX0, (tc_2 _ (List.mem_of_getElem? (i := 62) (by decide +kernel))), (tc_1 _ (List.mem_of_getElem? (i := 35) (by decide +kernel))), (tc_1 _ (List.mem_of_getElem? (i := 2) (by decide +kernel))), rfl, kl_0, tyX0_ok, fun j hj => ?_⟩
  match j, hj with
  | 0, _ => rfl
  | 1, _ => rfl
  | n + 2, h => exact absurd h (by omega)
theorem kn_RL_48 : rt_Fn RL 48 11 26 [.int 0, .null, .int 0, .int 0, .null, .null, .null, .null, .null, .int 0, .int 0, .int 0, .null, .int 0, .null, .int 0, .int 0, .int 0, .int 0, .int 0, .int 0, .null, .null, .int 0, .int 0, .int 0] := by
  refine ⟨RX11, TX11, tyX11, (tc_6 _ (List.mem_of_getElem? (i := 98) (by decide +kernel))), (tc_6 _ (List.mem_of_getElem? (i := 99) (by decide +kernel))), (tc_1 _ (List.mem_of_getElem? (i := 11) (by decide +kernel))), rfl, kl_11, tyX11_ok, fun j hj => ?_⟩
  match j, hj with
  | 0, _ => rfl
  | 1, _ => rfl
  | 2, _ => rfl
  | 3, _ => rfl
  | 4, _ => rfl
  | 5, _ => rfl
  | 6, _ => rfl
  | 7, _ => rfl
  | 8, _ => rfl
  | 9, _ => rfl
  | 10, _ => rfl
  | 11, _ => rfl
  | 12, _ => rfl
  | 13, _ => rfl
  | 14, _ => rfl
  | 15, _ => rfl
  | 16, _ => rfl
  | 17, _ => rfl
  | 18, _ => rfl
  | 19, _ => rfl
  | 20, _ => rfl
  | 21, _ => rfl
  | 22, _ => rfl
  | 23, _ => rfl
  | 24, _ => rfl
  | 25, _ => rfl
  | n + 26, h => exact absurd h (by omega)
theorem kn_RX11_17 : rt_Fn RX11 17 10 35 [.null, .int 0, .int 0, .int 0, .int 0, .int 0, .int 0, .int 0, .null, .null, .null, .null, .null, .null, .null, .int 0, .int 0, .int 0, .null, .null, .null, .null, .null, .null, .int 0, .null, .null, .null, .null, .int 0, .null, .int 0, .null, .int 0, .null] := by
  refine ⟨RX10, TX10, tyX10, (tc_6 _ (List.mem_of_getElem? (i := 104) (by decide +kernel))), (tc_6 _ (List.mem_of_getElem? (i := 105) (by decide +kernel))), (tc_1 _ (List.mem_of_getElem? (i := 12) (by decide +kernel))), rfl, kl_10, tyX10_ok, fun j hj => ?_⟩
  match j, hj with
  | 0, _ => rfl
  | 1, _ => rfl
  | 2, _ => rfl
  | 3, _ => rfl
  | 4, _ => rfl
  | 5, _ => rfl
  | 6, _ => rfl
  | 7, _ => rfl
  | 8, _ => rfl
  | 9, _ => rfl
  | 10, _ => rfl
  | 11, _ => rfl
  | 12, _ => rfl
  | 13, _ => rfl
  | 14, _ => rfl
  | 15, _ => rfl
  | 16, _ => rfl
  | 17, _ => rfl
  | 18, _ => rfl
  | 19, _ => rfl
  | 20, _ => rfl
  | 21, _ => rfl
  | 22, _ => rfl
  | 23, _ => rfl
  | 24, _ => rfl
  | 25, _ => rfl
  | 26, _ => rfl
  | 27, _ => rfl
  | 28, _ => rfl
  | 29, _ => rfl
  | 30, _ => rfl
  | 31, _ => rfl
  | 32, _ => rfl
  | 33, _ => rfl
  | 34, _ => rfl
  | n + 35, h => exact absurd h (by omega)

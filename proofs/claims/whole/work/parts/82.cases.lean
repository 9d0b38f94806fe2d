theorem cvL_13 : xCv R_law 13 yX5_reset mX5_reset 20 2 := ⟨(xT_t2 (List.mem_of_getElem? (i := 104) rfl) rfl), (xT_t2 (List.mem_of_getElem? (i := 105) rfl) rfl), (xT_t2 (List.mem_of_getElem? (i := 106) rfl) rfl), (xT_t1 (List.mem_of_getElem? (i := 1) rfl) rfl), (xT_t2 (List.mem_of_getElem? (i := 107) rfl) rfl), by decide +kernel, Nat.le_of_ble_eq_true rfl, (5, 5), TX5, 5, rfl, rfl⟩
theorem cvL_17 : xCv R_law 17 yX6_reset mX6_reset 30 2 := ⟨(xT_t4 (List.mem_of_getElem? (i := 229) rfl) rfl), (xT_t4 (List.mem_of_getElem? (i := 230) rfl) rfl), (xT_t4 (List.mem_of_getElem? (i := 231) rfl) rfl), (xT_t1 (List.mem_of_getElem? (i := 7) rfl) rfl), (xT_t4 (List.mem_of_getElem? (i := 232) rfl) rfl), by decide +kernel, Nat.le_of_ble_eq_true rfl, (6, 13), TX6, 13, rfl, rfl⟩
theorem cvL_18 : xCv R_law 18 yX5_setReserve mX5_setReserve 20 2 := ⟨(xT_t2 (List.mem_of_getElem? (i := 111) rfl) rfl), (xT_t2 (List.mem_of_getElem? (i := 112) rfl) rfl), (xT_t2 (List.mem_of_getElem? (i := 113) rfl) rfl), (xT_t1 (List.mem_of_getElem? (i := 1) rfl) rfl), (xT_t2 (List.mem_of_getElem? (i := 114) rfl) rfl), by decide +kernel, Nat.le_of_ble_eq_true rfl, (5, 5), TX5, 5, rfl, rfl⟩
theorem cvL_21 : xCv R_law 21 yX6_setReserve mX6_setReserve 30 2 := ⟨(xT_t4 (List.mem_of_getElem? (i := 236) rfl) rfl), (xT_t4 (List.mem_of_getElem? (i := 237) rfl) rfl), (xT_t4 (List.mem_of_getElem? (i := 238) rfl) rfl), (xT_t1 (List.mem_of_getElem? (i := 7) rfl) rfl), (xT_t4 (List.mem_of_getElem? (i := 239) rfl) rfl), by decide +kernel, Nat.le_of_ble_eq_true rfl, (6, 13), TX6, 13, rfl, rfl⟩
theorem cvL_22 : xCv R_law 22 yX5_setHeadroom mX5_setHeadroom 20 2 := ⟨(xT_t2 (List.mem_of_getElem? (i := 146) rfl) rfl), (xT_t2 (List.mem_of_getElem? (i := 147) rfl) rfl), (xT_t2 (List.mem_of_getElem? (i := 148) rfl) rfl), (xT_t1 (List.mem_of_getElem? (i := 1) rfl) rfl), (xT_t2 (List.mem_of_getElem? (i := 149) rfl) rfl), by decide +kernel, Nat.le_of_ble_eq_true rfl, (5, 5), TX5, 5, rfl, rfl⟩
theorem cvL_25 : xCv R_law 25 yX6_setHeadroom mX6_setHeadroom 30 2 := ⟨(xT_t5 (List.mem_of_getElem? (i := 31) rfl) rfl), (xT_t5 (List.mem_of_getElem? (i := 32) rfl) rfl), (xT_t5 (List.mem_of_getElem? (i := 33) rfl) rfl), (xT_t1 (List.mem_of_getElem? (i := 7) rfl) rfl), (xT_t5 (List.mem_of_getElem? (i := 34) rfl) rfl), by decide +kernel, Nat.le_of_ble_eq_true rfl, (6, 13), TX6, 13, rfl, rfl⟩
theorem cvL_26 : xCv R_law 26 yX5_setAlpha mX5_setAlpha 20 3 := ⟨(xT_t2 (List.mem_of_getElem? (i := 154) rfl) rfl), (xT_t2 (List.mem_of_getElem? (i := 155) rfl) rfl), (xT_t2 (List.mem_of_getElem? (i := 156) rfl) rfl), (xT_t1 (List.mem_of_getElem? (i := 1) rfl) rfl), (xT_t2 (List.mem_of_getElem? (i := 157) rfl) rfl), by decide +kernel, Nat.le_of_ble_eq_true rfl, (5, 5), TX5, 5, rfl, rfl⟩
theorem cvL_30 : xCv R_law 30 yX6_setAlpha mX6_setAlpha 30 3 := ⟨(xT_t5 (List.mem_of_getElem? (i := 35) rfl) rfl), (xT_t5 (List.mem_of_getElem? (i := 36) rfl) rfl), (xT_t5 (List.mem_of_getElem? (i := 37) rfl) rfl), (xT_t1 (List.mem_of_getElem? (i := 7) rfl) rfl), (xT_t5 (List.mem_of_getElem? (i := 38) rfl) rfl), by decide +kernel, Nat.le_of_ble_eq_true rfl, (6, 13), TX6, 13, rfl, rfl⟩
theorem cvL_31 : xCv R_law 31 yX5_setBurst mX5_setBurst 20 4 := ⟨(xT_t2 (List.mem_of_getElem? (i := 162) rfl) rfl), (xT_t2 (List.mem_of_getElem? (i := 163) rfl) rfl), (xT_t2 (List.mem_of_getElem? (i := 164) rfl) rfl), (xT_t1 (List.mem_of_getElem? (i := 1) rfl) rfl), (xT_t2 (List.mem_of_getElem? (i := 165) rfl) rfl), by decide +kernel, Nat.le_of_ble_eq_true rfl, (5, 5), TX5, 5, rfl, rfl⟩
theorem cvL_35 : xCv R_law 35 yX6_setBurst mX6_setBurst 30 4 := ⟨(xT_t5 (List.mem_of_getElem? (i := 47) rfl) rfl), (xT_t5 (List.mem_of_getElem? (i := 48) rfl) rfl), (xT_t5 (List.mem_of_getElem? (i := 49) rfl) rfl), (xT_t1 (List.mem_of_getElem? (i := 7) rfl) rfl), (xT_t5 (List.mem_of_getElem? (i := 50) rfl) rfl), by decide +kernel, Nat.le_of_ble_eq_true rfl, (6, 13), TX6, 13, rfl, rfl⟩
theorem cvL_36 : xCv R_law 36 yX5_setLossless mX5_setLossless 20 3 := ⟨(xT_t2 (List.mem_of_getElem? (i := 166) rfl) rfl), (xT_t2 (List.mem_of_getElem? (i := 167) rfl) rfl), (xT_t2 (List.mem_of_getElem? (i := 168) rfl) rfl), (xT_t1 (List.mem_of_getElem? (i := 1) rfl) rfl), (xT_t2 (List.mem_of_getElem? (i := 169) rfl) rfl), by decide +kernel, Nat.le_of_ble_eq_true rfl, (5, 5), TX5, 5, rfl, rfl⟩
theorem cvL_40 : xCv R_law 40 yX6_setLossless mX6_setLossless 30 3 := ⟨(xT_t5 (List.mem_of_getElem? (i := 51) rfl) rfl), (xT_t5 (List.mem_of_getElem? (i := 52) rfl) rfl), (xT_t5 (List.mem_of_getElem? (i := 53) rfl) rfl), (xT_t1 (List.mem_of_getElem? (i := 7) rfl) rfl), (xT_t5 (List.mem_of_getElem? (i := 54) rfl) rfl), by decide +kernel, Nat.le_of_ble_eq_true rfl, (6, 13), TX6, 13, rfl, rfl⟩
theorem cvL_41 : xCv R_law 41 yX5_setScheduler mX5_setScheduler 20 3 := ⟨(xT_t2 (List.mem_of_getElem? (i := 173) rfl) rfl), (xT_t2 (List.mem_of_getElem? (i := 174) rfl) rfl), (xT_t2 (List.mem_of_getElem? (i := 175) rfl) rfl), (xT_t1 (List.mem_of_getElem? (i := 1) rfl) rfl), (xT_t2 (List.mem_of_getElem? (i := 176) rfl) rfl), by decide +kernel, Nat.le_of_ble_eq_true rfl, (5, 5), TX5, 5, rfl, rfl⟩
theorem cvL_45 : xCv R_law 45 yX6_setScheduler mX6_setScheduler 30 3 := ⟨(xT_t5 (List.mem_of_getElem? (i := 55) rfl) rfl), (xT_t5 (List.mem_of_getElem? (i := 56) rfl) rfl), (xT_t5 (List.mem_of_getElem? (i := 57) rfl) rfl), (xT_t1 (List.mem_of_getElem? (i := 7) rfl) rfl), (xT_t5 (List.mem_of_getElem? (i := 58) rfl) rfl), by decide +kernel, Nat.le_of_ble_eq_true rfl, (6, 13), TX6, 13, rfl, rfl⟩
theorem cvL_46 : xCv R_law 46 yX5_setQuantum mX5_setQuantum 20 3 := ⟨(xT_t2 (List.mem_of_getElem? (i := 177) rfl) rfl), (xT_t2 (List.mem_of_getElem? (i := 178) rfl) rfl), (xT_t2 (List.mem_of_getElem? (i := 179) rfl) rfl), (xT_t1 (List.mem_of_getElem? (i := 1) rfl) rfl), (xT_t2 (List.mem_of_getElem? (i := 180) rfl) rfl), by decide +kernel, Nat.le_of_ble_eq_true rfl, (5, 5), TX5, 5, rfl, rfl⟩
theorem cvL_49 : xCv R_law 49 yX6_setQuantum mX6_setQuantum 30 3 := ⟨(xT_t5 (List.mem_of_getElem? (i := 59) rfl) rfl), (xT_t5 (List.mem_of_getElem? (i := 60) rfl) rfl), (xT_t5 (List.mem_of_getElem? (i := 61) rfl) rfl), (xT_t1 (List.mem_of_getElem? (i := 7) rfl) rfl), (xT_t5 (List.mem_of_getElem? (i := 62) rfl) rfl), by decide +kernel, Nat.le_of_ble_eq_true rfl, (6, 13), TX6, 13, rfl, rfl⟩
theorem cvL_50 : xCv R_law 50 yX5_setPushOut mX5_setPushOut 20 1 := ⟨(xT_t2 (List.mem_of_getElem? (i := 181) rfl) rfl), (xT_t2 (List.mem_of_getElem? (i := 182) rfl) rfl), (xT_t2 (List.mem_of_getElem? (i := 183) rfl) rfl), (xT_t1 (List.mem_of_getElem? (i := 1) rfl) rfl), (xT_t2 (List.mem_of_getElem? (i := 184) rfl) rfl), by decide +kernel, Nat.le_of_ble_eq_true rfl, (5, 5), TX5, 5, rfl, rfl⟩
theorem cvL_54 : xCv R_law 54 yX6_setPushOut mX6_setPushOut 30 1 := ⟨(xT_t5 (List.mem_of_getElem? (i := 63) rfl) rfl), (xT_t5 (List.mem_of_getElem? (i := 64) rfl) rfl), (xT_t5 (List.mem_of_getElem? (i := 65) rfl) rfl), (xT_t1 (List.mem_of_getElem? (i := 7) rfl) rfl), (xT_t5 (List.mem_of_getElem? (i := 66) rfl) rfl), by decide +kernel, Nat.le_of_ble_eq_true rfl, (6, 13), TX6, 13, rfl, rfl⟩
theorem cvL_55 : xCv R_law 55 yX5_grant mX5_grant 20 2 := ⟨(xT_t2 (List.mem_of_getElem? (i := 185) rfl) rfl), (xT_t2 (List.mem_of_getElem? (i := 186) rfl) rfl), (xT_t2 (List.mem_of_getElem? (i := 187) rfl) rfl), (xT_t1 (List.mem_of_getElem? (i := 1) rfl) rfl), (xT_t2 (List.mem_of_getElem? (i := 188) rfl) rfl), by decide +kernel, Nat.le_of_ble_eq_true rfl, (5, 5), TX5, 5, rfl, rfl⟩
theorem cvL_58 : xCv R_law 58 yX6_grant mX6_grant 30 2 := ⟨(xT_t5 (List.mem_of_getElem? (i := 67) rfl) rfl), (xT_t5 (List.mem_of_getElem? (i := 68) rfl) rfl), (xT_t5 (List.mem_of_getElem? (i := 69) rfl) rfl), (xT_t1 (List.mem_of_getElem? (i := 7) rfl) rfl), (xT_t5 (List.mem_of_getElem? (i := 70) rfl) rfl), by decide +kernel, Nat.le_of_ble_eq_true rfl, (6, 13), TX6, 13, rfl, rfl⟩
theorem cvL_59 : xCv R_law 59 yX5_withdraw mX5_withdraw 20 1 := ⟨(xT_t2 (List.mem_of_getElem? (i := 208) rfl) rfl), (xT_t2 (List.mem_of_getElem? (i := 209) rfl) rfl), (xT_t2 (List.mem_of_getElem? (i := 210) rfl) rfl), (xT_t1 (List.mem_of_getElem? (i := 1) rfl) rfl), (xT_t2 (List.mem_of_getElem? (i := 211) rfl) rfl), by decide +kernel, Nat.le_of_ble_eq_true rfl, (5, 5), TX5, 5, rfl, rfl⟩
theorem cvL_63 : xCv R_law 63 yX6_withdraw mX6_withdraw 30 1 := ⟨(xT_t5 (List.mem_of_getElem? (i := 83) rfl) rfl), (xT_t5 (List.mem_of_getElem? (i := 84) rfl) rfl), (xT_t5 (List.mem_of_getElem? (i := 85) rfl) rfl), (xT_t1 (List.mem_of_getElem? (i := 7) rfl) rfl), (xT_t5 (List.mem_of_getElem? (i := 86) rfl) rfl), by decide +kernel, Nat.le_of_ble_eq_true rfl, (6, 13), TX6, 13, rfl, rfl⟩
theorem cvL_64 : xCv R_law 64 yX5_arrive mX5_arrive 20 3 := ⟨(xT_t2 (List.mem_of_getElem? (i := 213) rfl) rfl), (xT_t2 (List.mem_of_getElem? (i := 214) rfl) rfl), (xT_t2 (List.mem_of_getElem? (i := 215) rfl) rfl), (xT_t1 (List.mem_of_getElem? (i := 1) rfl) rfl), (xT_t2 (List.mem_of_getElem? (i := 216) rfl) rfl), by decide +kernel, Nat.le_of_ble_eq_true rfl, (5, 5), TX5, 5, rfl, rfl⟩
theorem cvL_67 : xCv R_law 67 yX6_arrive mX6_arrive 30 3 := ⟨(xT_t5 (List.mem_of_getElem? (i := 87) rfl) rfl), (xT_t5 (List.mem_of_getElem? (i := 88) rfl) rfl), (xT_t5 (List.mem_of_getElem? (i := 89) rfl) rfl), (xT_t1 (List.mem_of_getElem? (i := 7) rfl) rfl), (xT_t5 (List.mem_of_getElem? (i := 90) rfl) rfl), by decide +kernel, Nat.le_of_ble_eq_true rfl, (6, 13), TX6, 13, rfl, rfl⟩
theorem cvL_68 : xCv R_law 68 yX5_ticks mX5_ticks 20 1 := ⟨(xT_t3 (List.mem_of_getElem? (i := 90) rfl) rfl), (xT_t3 (List.mem_of_getElem? (i := 91) rfl) rfl), (xT_t3 (List.mem_of_getElem? (i := 92) rfl) rfl), (xT_t1 (List.mem_of_getElem? (i := 1) rfl) rfl), (xT_t3 (List.mem_of_getElem? (i := 93) rfl) rfl), by decide +kernel, Nat.le_of_ble_eq_true rfl, (5, 5), TX5, 5, rfl, rfl⟩
theorem cvL_71 : xCv R_law 71 yX6_ticks mX6_ticks 30 1 := ⟨(xT_t5 (List.mem_of_getElem? (i := 168) rfl) rfl), (xT_t5 (List.mem_of_getElem? (i := 169) rfl) rfl), (xT_t5 (List.mem_of_getElem? (i := 170) rfl) rfl), (xT_t1 (List.mem_of_getElem? (i := 7) rfl) rfl), (xT_t5 (List.mem_of_getElem? (i := 171) rfl) rfl), by decide +kernel, Nat.le_of_ble_eq_true rfl, (6, 13), TX6, 13, rfl, rfl⟩
theorem cvL_72 : xCv R_law 72 yX5_flush mX5_flush 20 1 := ⟨(xT_t3 (List.mem_of_getElem? (i := 124) rfl) rfl), (xT_t3 (List.mem_of_getElem? (i := 125) rfl) rfl), (xT_t3 (List.mem_of_getElem? (i := 126) rfl) rfl), (xT_t1 (List.mem_of_getElem? (i := 1) rfl) rfl), (xT_t3 (List.mem_of_getElem? (i := 127) rfl) rfl), by decide +kernel, Nat.le_of_ble_eq_true rfl, (5, 5), TX5, 5, rfl, rfl⟩
theorem cvL_75 : xCv R_law 75 yX6_flush mX6_flush 30 1 := ⟨(xT_t5 (List.mem_of_getElem? (i := 192) rfl) rfl), (xT_t5 (List.mem_of_getElem? (i := 193) rfl) rfl), (xT_t5 (List.mem_of_getElem? (i := 194) rfl) rfl), (xT_t1 (List.mem_of_getElem? (i := 7) rfl) rfl), (xT_t5 (List.mem_of_getElem? (i := 195) rfl) rfl), by decide +kernel, Nat.le_of_ble_eq_true rfl, (6, 13), TX6, 13, rfl, rfl⟩
theorem cvL_76 : xCv R_law 76 yX5_traffic mX5_traffic 20 3 := ⟨(xT_t3 (List.mem_of_getElem? (i := 132) rfl) rfl), (xT_t3 (List.mem_of_getElem? (i := 133) rfl) rfl), (xT_t3 (List.mem_of_getElem? (i := 134) rfl) rfl), (xT_t1 (List.mem_of_getElem? (i := 1) rfl) rfl), (xT_t3 (List.mem_of_getElem? (i := 135) rfl) rfl), by decide +kernel, Nat.le_of_ble_eq_true rfl, (5, 5), TX5, 5, rfl, rfl⟩
theorem cvL_79 : xCv R_law 79 yX6_traffic mX6_traffic 30 3 := ⟨(xT_t5 (List.mem_of_getElem? (i := 200) rfl) rfl), (xT_t5 (List.mem_of_getElem? (i := 201) rfl) rfl), (xT_t5 (List.mem_of_getElem? (i := 202) rfl) rfl), (xT_t1 (List.mem_of_getElem? (i := 7) rfl) rfl), (xT_t5 (List.mem_of_getElem? (i := 203) rfl) rfl), by decide +kernel, Nat.le_of_ble_eq_true rfl, (6, 13), TX6, 13, rfl, rfl⟩
theorem cvL_80 : xCv R_law 80 yX5_freeShared mX5_freeShared 20 0 := ⟨(xT_t3 (List.mem_of_getElem? (i := 145) rfl) rfl), (xT_t3 (List.mem_of_getElem? (i := 146) rfl) rfl), (xT_t3 (List.mem_of_getElem? (i := 147) rfl) rfl), (xT_t1 (List.mem_of_getElem? (i := 1) rfl) rfl), (xT_t3 (List.mem_of_getElem? (i := 148) rfl) rfl), by decide +kernel, Nat.le_of_ble_eq_true rfl, (5, 5), TX5, 5, rfl, rfl⟩
theorem cvL_84 : xCv R_law 84 yX6_freeShared mX6_freeShared 30 0 := ⟨(xT_t5 (List.mem_of_getElem? (i := 208) rfl) rfl), (xT_t5 (List.mem_of_getElem? (i := 209) rfl) rfl), (xT_t5 (List.mem_of_getElem? (i := 210) rfl) rfl), (xT_t1 (List.mem_of_getElem? (i := 7) rfl) rfl), (xT_t5 (List.mem_of_getElem? (i := 211) rfl) rfl), by decide +kernel, Nat.le_of_ble_eq_true rfl, (6, 13), TX6, 13, rfl, rfl⟩
theorem cvL_85 : xCv R_law 85 yX5_sharedPool mX5_sharedPool 20 0 := ⟨(xT_t3 (List.mem_of_getElem? (i := 149) rfl) rfl), (xT_t3 (List.mem_of_getElem? (i := 150) rfl) rfl), (xT_t3 (List.mem_of_getElem? (i := 151) rfl) rfl), (xT_t1 (List.mem_of_getElem? (i := 1) rfl) rfl), (xT_t3 (List.mem_of_getElem? (i := 152) rfl) rfl), by decide +kernel, Nat.le_of_ble_eq_true rfl, (5, 5), TX5, 5, rfl, rfl⟩
theorem cvL_88 : xCv R_law 88 yX6_sharedPool mX6_sharedPool 30 0 := ⟨(xT_t5 (List.mem_of_getElem? (i := 212) rfl) rfl), (xT_t5 (List.mem_of_getElem? (i := 213) rfl) rfl), (xT_t5 (List.mem_of_getElem? (i := 214) rfl) rfl), (xT_t1 (List.mem_of_getElem? (i := 7) rfl) rfl), (xT_t5 (List.mem_of_getElem? (i := 215) rfl) rfl), by decide +kernel, Nat.le_of_ble_eq_true rfl, (6, 13), TX6, 13, rfl, rfl⟩
theorem cvL_89 : xCv R_law 89 yX5_freeGuarantee mX5_freeGuarantee 20 1 := ⟨(xT_t3 (List.mem_of_getElem? (i := 154) rfl) rfl), (xT_t3 (List.mem_of_getElem? (i := 155) rfl) rfl), (xT_t3 (List.mem_of_getElem? (i := 156) rfl) rfl), (xT_t1 (List.mem_of_getElem? (i := 1) rfl) rfl), (xT_t3 (List.mem_of_getElem? (i := 157) rfl) rfl), by decide +kernel, Nat.le_of_ble_eq_true rfl, (5, 5), TX5, 5, rfl, rfl⟩
theorem cvL_92 : xCv R_law 92 yX6_freeGuarantee mX6_freeGuarantee 30 1 := ⟨(xT_t5 (List.mem_of_getElem? (i := 216) rfl) rfl), (xT_t5 (List.mem_of_getElem? (i := 217) rfl) rfl), (xT_t5 (List.mem_of_getElem? (i := 218) rfl) rfl), (xT_t1 (List.mem_of_getElem? (i := 7) rfl) rfl), (xT_t5 (List.mem_of_getElem? (i := 219) rfl) rfl), by decide +kernel, Nat.le_of_ble_eq_true rfl, (6, 13), TX6, 13, rfl, rfl⟩
theorem cvL_93 : xCv R_law 93 yX5_grantOf mX5_grantOf 20 1 := ⟨(xT_t3 (List.mem_of_getElem? (i := 159) rfl) rfl), (xT_t3 (List.mem_of_getElem? (i := 160) rfl) rfl), (xT_t3 (List.mem_of_getElem? (i := 161) rfl) rfl), (xT_t1 (List.mem_of_getElem? (i := 1) rfl) rfl), (xT_t3 (List.mem_of_getElem? (i := 162) rfl) rfl), by decide +kernel, Nat.le_of_ble_eq_true rfl, (5, 5), TX5, 5, rfl, rfl⟩
theorem cvL_96 : xCv R_law 96 yX6_grantOf mX6_grantOf 30 1 := ⟨(xT_t5 (List.mem_of_getElem? (i := 220) rfl) rfl), (xT_t5 (List.mem_of_getElem? (i := 221) rfl) rfl), (xT_t5 (List.mem_of_getElem? (i := 222) rfl) rfl), (xT_t1 (List.mem_of_getElem? (i := 7) rfl) rfl), (xT_t5 (List.mem_of_getElem? (i := 223) rfl) rfl), by decide +kernel, Nat.le_of_ble_eq_true rfl, (6, 13), TX6, 13, rfl, rfl⟩
theorem cvL_97 : xCv R_law 97 yX5_threshold mX5_threshold 20 2 := ⟨(xT_t3 (List.mem_of_getElem? (i := 163) rfl) rfl), (xT_t3 (List.mem_of_getElem? (i := 164) rfl) rfl), (xT_t3 (List.mem_of_getElem? (i := 165) rfl) rfl), (xT_t1 (List.mem_of_getElem? (i := 1) rfl) rfl), (xT_t3 (List.mem_of_getElem? (i := 166) rfl) rfl), by decide +kernel, Nat.le_of_ble_eq_true rfl, (5, 5), TX5, 5, rfl, rfl⟩
theorem cvL_100 : xCv R_law 100 yX6_threshold mX6_threshold 30 2 := ⟨(xT_t5 (List.mem_of_getElem? (i := 228) rfl) rfl), (xT_t5 (List.mem_of_getElem? (i := 229) rfl) rfl), (xT_t5 (List.mem_of_getElem? (i := 230) rfl) rfl), (xT_t1 (List.mem_of_getElem? (i := 7) rfl) rfl), (xT_t5 (List.mem_of_getElem? (i := 231) rfl) rfl), by decide +kernel, Nat.le_of_ble_eq_true rfl, (6, 13), TX6, 13, rfl, rfl⟩
theorem cvL_101 : xCv R_law 101 yX5_guaranteedCells mX5_guaranteedCells 20 2 := ⟨(xT_t3 (List.mem_of_getElem? (i := 168) rfl) rfl), (xT_t3 (List.mem_of_getElem? (i := 169) rfl) rfl), (xT_t3 (List.mem_of_getElem? (i := 170) rfl) rfl), (xT_t1 (List.mem_of_getElem? (i := 1) rfl) rfl), (xT_t3 (List.mem_of_getElem? (i := 171) rfl) rfl), by decide +kernel, Nat.le_of_ble_eq_true rfl, (5, 5), TX5, 5, rfl, rfl⟩
theorem cvL_104 : xCv R_law 104 yX6_guaranteedCells mX6_guaranteedCells 30 2 := ⟨(xT_t5 (List.mem_of_getElem? (i := 232) rfl) rfl), (xT_t5 (List.mem_of_getElem? (i := 233) rfl) rfl), (xT_t5 (List.mem_of_getElem? (i := 234) rfl) rfl), (xT_t1 (List.mem_of_getElem? (i := 7) rfl) rfl), (xT_t5 (List.mem_of_getElem? (i := 235) rfl) rfl), by decide +kernel, Nat.le_of_ble_eq_true rfl, (6, 13), TX6, 13, rfl, rfl⟩
theorem cvL_105 : xCv R_law 105 yX5_sharedCells mX5_sharedCells 20 2 := ⟨(xT_t3 (List.mem_of_getElem? (i := 172) rfl) rfl), (xT_t3 (List.mem_of_getElem? (i := 173) rfl) rfl), (xT_t3 (List.mem_of_getElem? (i := 174) rfl) rfl), (xT_t1 (List.mem_of_getElem? (i := 1) rfl) rfl), (xT_t3 (List.mem_of_getElem? (i := 175) rfl) rfl), by decide +kernel, Nat.le_of_ble_eq_true rfl, (5, 5), TX5, 5, rfl, rfl⟩
theorem cvL_108 : xCv R_law 108 yX6_sharedCells mX6_sharedCells 30 2 := ⟨(xT_t6 (List.mem_of_getElem? (i := 0) rfl) rfl), (xT_t6 (List.mem_of_getElem? (i := 1) rfl) rfl), (xT_t6 (List.mem_of_getElem? (i := 2) rfl) rfl), (xT_t1 (List.mem_of_getElem? (i := 7) rfl) rfl), (xT_t6 (List.mem_of_getElem? (i := 3) rfl) rfl), by decide +kernel, Nat.le_of_ble_eq_true rfl, (6, 13), TX6, 13, rfl, rfl⟩
theorem cvL_109 : xCv R_law 109 yX5_headroomCells mX5_headroomCells 20 2 := ⟨(xT_t3 (List.mem_of_getElem? (i := 176) rfl) rfl), (xT_t3 (List.mem_of_getElem? (i := 177) rfl) rfl), (xT_t3 (List.mem_of_getElem? (i := 178) rfl) rfl), (xT_t1 (List.mem_of_getElem? (i := 1) rfl) rfl), (xT_t3 (List.mem_of_getElem? (i := 179) rfl) rfl), by decide +kernel, Nat.le_of_ble_eq_true rfl, (5, 5), TX5, 5, rfl, rfl⟩
theorem cvL_112 : xCv R_law 112 yX6_headroomCells mX6_headroomCells 30 2 := ⟨(xT_t6 (List.mem_of_getElem? (i := 4) rfl) rfl), (xT_t6 (List.mem_of_getElem? (i := 5) rfl) rfl), (xT_t6 (List.mem_of_getElem? (i := 6) rfl) rfl), (xT_t1 (List.mem_of_getElem? (i := 7) rfl) rfl), (xT_t6 (List.mem_of_getElem? (i := 7) rfl) rfl), by decide +kernel, Nat.le_of_ble_eq_true rfl, (6, 13), TX6, 13, rfl, rfl⟩
theorem cvL_113 : xCv R_law 113 yX5_burstTank mX5_burstTank 20 2 := ⟨(xT_t3 (List.mem_of_getElem? (i := 180) rfl) rfl), (xT_t3 (List.mem_of_getElem? (i := 181) rfl) rfl), (xT_t3 (List.mem_of_getElem? (i := 182) rfl) rfl), (xT_t1 (List.mem_of_getElem? (i := 1) rfl) rfl), (xT_t3 (List.mem_of_getElem? (i := 183) rfl) rfl), by decide +kernel, Nat.le_of_ble_eq_true rfl, (5, 5), TX5, 5, rfl, rfl⟩
theorem cvL_116 : xCv R_law 116 yX6_burstTank mX6_burstTank 30 2 := ⟨(xT_t6 (List.mem_of_getElem? (i := 8) rfl) rfl), (xT_t6 (List.mem_of_getElem? (i := 9) rfl) rfl), (xT_t6 (List.mem_of_getElem? (i := 10) rfl) rfl), (xT_t1 (List.mem_of_getElem? (i := 7) rfl) rfl), (xT_t6 (List.mem_of_getElem? (i := 11) rfl) rfl), by decide +kernel, Nat.le_of_ble_eq_true rfl, (6, 13), TX6, 13, rfl, rfl⟩
theorem cvL_117 : xCv R_law 117 yX5_isPaused mX5_isPaused 20 2 := ⟨(xT_t3 (List.mem_of_getElem? (i := 184) rfl) rfl), (xT_t3 (List.mem_of_getElem? (i := 185) rfl) rfl), (xT_t3 (List.mem_of_getElem? (i := 186) rfl) rfl), (xT_t1 (List.mem_of_getElem? (i := 1) rfl) rfl), (xT_t3 (List.mem_of_getElem? (i := 187) rfl) rfl), by decide +kernel, Nat.le_of_ble_eq_true rfl, (5, 5), TX5, 5, rfl, rfl⟩
theorem cvL_120 : xCv R_law 120 yX6_isPaused mX6_isPaused 30 2 := ⟨(xT_t6 (List.mem_of_getElem? (i := 12) rfl) rfl), (xT_t6 (List.mem_of_getElem? (i := 13) rfl) rfl), (xT_t6 (List.mem_of_getElem? (i := 14) rfl) rfl), (xT_t1 (List.mem_of_getElem? (i := 7) rfl) rfl), (xT_t6 (List.mem_of_getElem? (i := 15) rfl) rfl), by decide +kernel, Nat.le_of_ble_eq_true rfl, (6, 13), TX6, 13, rfl, rfl⟩
theorem cvL_121 : xCv R_law 121 yX5_pauses mX5_pauses 20 2 := ⟨(xT_t3 (List.mem_of_getElem? (i := 188) rfl) rfl), (xT_t3 (List.mem_of_getElem? (i := 189) rfl) rfl), (xT_t3 (List.mem_of_getElem? (i := 190) rfl) rfl), (xT_t1 (List.mem_of_getElem? (i := 1) rfl) rfl), (xT_t3 (List.mem_of_getElem? (i := 191) rfl) rfl), by decide +kernel, Nat.le_of_ble_eq_true rfl, (5, 5), TX5, 5, rfl, rfl⟩
theorem cvL_124 : xCv R_law 124 yX6_pauses mX6_pauses 30 2 := ⟨(xT_t6 (List.mem_of_getElem? (i := 16) rfl) rfl), (xT_t6 (List.mem_of_getElem? (i := 17) rfl) rfl), (xT_t6 (List.mem_of_getElem? (i := 18) rfl) rfl), (xT_t1 (List.mem_of_getElem? (i := 7) rfl) rfl), (xT_t6 (List.mem_of_getElem? (i := 19) rfl) rfl), by decide +kernel, Nat.le_of_ble_eq_true rfl, (6, 13), TX6, 13, rfl, rfl⟩
theorem cvL_125 : xCv R_law 125 yX5_credit mX5_credit 20 1 := ⟨(xT_t3 (List.mem_of_getElem? (i := 192) rfl) rfl), (xT_t3 (List.mem_of_getElem? (i := 193) rfl) rfl), (xT_t3 (List.mem_of_getElem? (i := 194) rfl) rfl), (xT_t1 (List.mem_of_getElem? (i := 1) rfl) rfl), (xT_t3 (List.mem_of_getElem? (i := 195) rfl) rfl), by decide +kernel, Nat.le_of_ble_eq_true rfl, (5, 5), TX5, 5, rfl, rfl⟩
theorem cvL_128 : xCv R_law 128 yX6_credit mX6_credit 30 1 := ⟨(xT_t6 (List.mem_of_getElem? (i := 20) rfl) rfl), (xT_t6 (List.mem_of_getElem? (i := 21) rfl) rfl), (xT_t6 (List.mem_of_getElem? (i := 22) rfl) rfl), (xT_t1 (List.mem_of_getElem? (i := 7) rfl) rfl), (xT_t6 (List.mem_of_getElem? (i := 23) rfl) rfl), by decide +kernel, Nat.le_of_ble_eq_true rfl, (6, 13), TX6, 13, rfl, rfl⟩
theorem cvL_129 : xCv R_law 129 yX5_deficit mX5_deficit 20 2 := ⟨(xT_t3 (List.mem_of_getElem? (i := 196) rfl) rfl), (xT_t3 (List.mem_of_getElem? (i := 197) rfl) rfl), (xT_t3 (List.mem_of_getElem? (i := 198) rfl) rfl), (xT_t1 (List.mem_of_getElem? (i := 1) rfl) rfl), (xT_t3 (List.mem_of_getElem? (i := 199) rfl) rfl), by decide +kernel, Nat.le_of_ble_eq_true rfl, (5, 5), TX5, 5, rfl, rfl⟩
theorem cvL_132 : xCv R_law 132 yX6_deficit mX6_deficit 30 2 := ⟨(xT_t6 (List.mem_of_getElem? (i := 24) rfl) rfl), (xT_t6 (List.mem_of_getElem? (i := 25) rfl) rfl), (xT_t6 (List.mem_of_getElem? (i := 26) rfl) rfl), (xT_t1 (List.mem_of_getElem? (i := 7) rfl) rfl), (xT_t6 (List.mem_of_getElem? (i := 27) rfl) rfl), by decide +kernel, Nat.le_of_ble_eq_true rfl, (6, 13), TX6, 13, rfl, rfl⟩
theorem cvL_133 : xCv R_law 133 yX5_losses mX5_losses 20 2 := ⟨(xT_t3 (List.mem_of_getElem? (i := 200) rfl) rfl), (xT_t3 (List.mem_of_getElem? (i := 201) rfl) rfl), (xT_t3 (List.mem_of_getElem? (i := 202) rfl) rfl), (xT_t1 (List.mem_of_getElem? (i := 1) rfl) rfl), (xT_t3 (List.mem_of_getElem? (i := 203) rfl) rfl), by decide +kernel, Nat.le_of_ble_eq_true rfl, (5, 5), TX5, 5, rfl, rfl⟩
theorem cvL_136 : xCv R_law 136 yX6_losses mX6_losses 30 2 := ⟨(xT_t6 (List.mem_of_getElem? (i := 28) rfl) rfl), (xT_t6 (List.mem_of_getElem? (i := 29) rfl) rfl), (xT_t6 (List.mem_of_getElem? (i := 30) rfl) rfl), (xT_t1 (List.mem_of_getElem? (i := 7) rfl) rfl), (xT_t6 (List.mem_of_getElem? (i := 31) rfl) rfl), by decide +kernel, Nat.le_of_ble_eq_true rfl, (6, 13), TX6, 13, rfl, rfl⟩
theorem cvL_137 : xCv R_law 137 yX5_lostCells mX5_lostCells 20 1 := ⟨(xT_t3 (List.mem_of_getElem? (i := 204) rfl) rfl), (xT_t3 (List.mem_of_getElem? (i := 205) rfl) rfl), (xT_t3 (List.mem_of_getElem? (i := 206) rfl) rfl), (xT_t1 (List.mem_of_getElem? (i := 1) rfl) rfl), (xT_t3 (List.mem_of_getElem? (i := 207) rfl) rfl), by decide +kernel, Nat.le_of_ble_eq_true rfl, (5, 5), TX5, 5, rfl, rfl⟩
theorem cvL_140 : xCv R_law 140 yX6_lostCells mX6_lostCells 30 1 := ⟨(xT_t6 (List.mem_of_getElem? (i := 32) rfl) rfl), (xT_t6 (List.mem_of_getElem? (i := 33) rfl) rfl), (xT_t6 (List.mem_of_getElem? (i := 34) rfl) rfl), (xT_t1 (List.mem_of_getElem? (i := 7) rfl) rfl), (xT_t6 (List.mem_of_getElem? (i := 35) rfl) rfl), by decide +kernel, Nat.le_of_ble_eq_true rfl, (6, 13), TX6, 13, rfl, rfl⟩
theorem cvL_141 : xCv R_law 141 yX5_lossCause mX5_lossCause 20 1 := ⟨(xT_t3 (List.mem_of_getElem? (i := 208) rfl) rfl), (xT_t3 (List.mem_of_getElem? (i := 209) rfl) rfl), (xT_t3 (List.mem_of_getElem? (i := 210) rfl) rfl), (xT_t1 (List.mem_of_getElem? (i := 1) rfl) rfl), (xT_t3 (List.mem_of_getElem? (i := 211) rfl) rfl), by decide +kernel, Nat.le_of_ble_eq_true rfl, (5, 5), TX5, 5, rfl, rfl⟩
theorem cvL_144 : xCv R_law 144 yX6_lossCause mX6_lossCause 30 1 := ⟨(xT_t6 (List.mem_of_getElem? (i := 36) rfl) rfl), (xT_t6 (List.mem_of_getElem? (i := 37) rfl) rfl), (xT_t6 (List.mem_of_getElem? (i := 38) rfl) rfl), (xT_t1 (List.mem_of_getElem? (i := 7) rfl) rfl), (xT_t6 (List.mem_of_getElem? (i := 39) rfl) rfl), by decide +kernel, Nat.le_of_ble_eq_true rfl, (6, 13), TX6, 13, rfl, rfl⟩
theorem cvL_145 : xCv R_law 145 yX5_departed mX5_departed 20 1 := ⟨(xT_t3 (List.mem_of_getElem? (i := 212) rfl) rfl), (xT_t3 (List.mem_of_getElem? (i := 213) rfl) rfl), (xT_t3 (List.mem_of_getElem? (i := 214) rfl) rfl), (xT_t1 (List.mem_of_getElem? (i := 1) rfl) rfl), (xT_t3 (List.mem_of_getElem? (i := 215) rfl) rfl), by decide +kernel, Nat.le_of_ble_eq_true rfl, (5, 5), TX5, 5, rfl, rfl⟩
theorem cvL_148 : xCv R_law 148 yX6_departed mX6_departed 30 1 := ⟨(xT_t6 (List.mem_of_getElem? (i := 40) rfl) rfl), (xT_t6 (List.mem_of_getElem? (i := 41) rfl) rfl), (xT_t6 (List.mem_of_getElem? (i := 42) rfl) rfl), (xT_t1 (List.mem_of_getElem? (i := 7) rfl) rfl), (xT_t6 (List.mem_of_getElem? (i := 43) rfl) rfl), by decide +kernel, Nat.le_of_ble_eq_true rfl, (6, 13), TX6, 13, rfl, rfl⟩
theorem cvL_149 : xCv R_law 149 yX5_admitted mX5_admitted 20 0 := ⟨(xT_t3 (List.mem_of_getElem? (i := 216) rfl) rfl), (xT_t3 (List.mem_of_getElem? (i := 217) rfl) rfl), (xT_t3 (List.mem_of_getElem? (i := 218) rfl) rfl), (xT_t1 (List.mem_of_getElem? (i := 1) rfl) rfl), (xT_t3 (List.mem_of_getElem? (i := 219) rfl) rfl), by decide +kernel, Nat.le_of_ble_eq_true rfl, (5, 5), TX5, 5, rfl, rfl⟩
theorem cvL_152 : xCv R_law 152 yX6_admitted mX6_admitted 30 0 := ⟨(xT_t6 (List.mem_of_getElem? (i := 44) rfl) rfl), (xT_t6 (List.mem_of_getElem? (i := 45) rfl) rfl), (xT_t6 (List.mem_of_getElem? (i := 46) rfl) rfl), (xT_t1 (List.mem_of_getElem? (i := 7) rfl) rfl), (xT_t6 (List.mem_of_getElem? (i := 47) rfl) rfl), by decide +kernel, Nat.le_of_ble_eq_true rfl, (6, 13), TX6, 13, rfl, rfl⟩
theorem cvL_153 : xCv R_law 153 yX5_time mX5_time 20 0 := ⟨(xT_t3 (List.mem_of_getElem? (i := 220) rfl) rfl), (xT_t3 (List.mem_of_getElem? (i := 221) rfl) rfl), (xT_t3 (List.mem_of_getElem? (i := 222) rfl) rfl), (xT_t1 (List.mem_of_getElem? (i := 1) rfl) rfl), (xT_t3 (List.mem_of_getElem? (i := 223) rfl) rfl), by decide +kernel, Nat.le_of_ble_eq_true rfl, (5, 5), TX5, 5, rfl, rfl⟩
theorem cvL_156 : xCv R_law 156 yX6_time mX6_time 30 0 := ⟨(xT_t6 (List.mem_of_getElem? (i := 48) rfl) rfl), (xT_t6 (List.mem_of_getElem? (i := 49) rfl) rfl), (xT_t6 (List.mem_of_getElem? (i := 50) rfl) rfl), (xT_t1 (List.mem_of_getElem? (i := 7) rfl) rfl), (xT_t6 (List.mem_of_getElem? (i := 51) rfl) rfl), by decide +kernel, Nat.le_of_ble_eq_true rfl, (6, 13), TX6, 13, rfl, rfl⟩
theorem cvL_157 : xCv R_law 157 yX5_queueLength mX5_queueLength 20 2 := ⟨(xT_t3 (List.mem_of_getElem? (i := 224) rfl) rfl), (xT_t3 (List.mem_of_getElem? (i := 225) rfl) rfl), (xT_t3 (List.mem_of_getElem? (i := 226) rfl) rfl), (xT_t1 (List.mem_of_getElem? (i := 1) rfl) rfl), (xT_t3 (List.mem_of_getElem? (i := 227) rfl) rfl), by decide +kernel, Nat.le_of_ble_eq_true rfl, (5, 5), TX5, 5, rfl, rfl⟩
theorem cvL_160 : xCv R_law 160 yX6_queueLength mX6_queueLength 30 2 := ⟨(xT_t6 (List.mem_of_getElem? (i := 52) rfl) rfl), (xT_t6 (List.mem_of_getElem? (i := 53) rfl) rfl), (xT_t6 (List.mem_of_getElem? (i := 54) rfl) rfl), (xT_t1 (List.mem_of_getElem? (i := 7) rfl) rfl), (xT_t6 (List.mem_of_getElem? (i := 55) rfl) rfl), by decide +kernel, Nat.le_of_ble_eq_true rfl, (6, 13), TX6, 13, rfl, rfl⟩
theorem cvL_161 : xCv R_law 161 yX5_packetAt mX5_packetAt 20 3 := ⟨(xT_t3 (List.mem_of_getElem? (i := 228) rfl) rfl), (xT_t3 (List.mem_of_getElem? (i := 229) rfl) rfl), (xT_t3 (List.mem_of_getElem? (i := 230) rfl) rfl), (xT_t1 (List.mem_of_getElem? (i := 1) rfl) rfl), (xT_t3 (List.mem_of_getElem? (i := 231) rfl) rfl), by decide +kernel, Nat.le_of_ble_eq_true rfl, (5, 5), TX5, 5, rfl, rfl⟩
theorem cvL_164 : xCv R_law 164 yX6_packetAt mX6_packetAt 30 3 := ⟨(xT_t6 (List.mem_of_getElem? (i := 56) rfl) rfl), (xT_t6 (List.mem_of_getElem? (i := 57) rfl) rfl), (xT_t6 (List.mem_of_getElem? (i := 58) rfl) rfl), (xT_t1 (List.mem_of_getElem? (i := 7) rfl) rfl), (xT_t6 (List.mem_of_getElem? (i := 59) rfl) rfl), by decide +kernel, Nat.le_of_ble_eq_true rfl, (6, 13), TX6, 13, rfl, rfl⟩
theorem cvL_165 : xCv R_law 165 yX5_fragments mX5_fragments 20 1 := ⟨(xT_t4 (List.mem_of_getElem? (i := 0) rfl) rfl), (xT_t4 (List.mem_of_getElem? (i := 1) rfl) rfl), (xT_t4 (List.mem_of_getElem? (i := 2) rfl) rfl), (xT_t1 (List.mem_of_getElem? (i := 1) rfl) rfl), (xT_t4 (List.mem_of_getElem? (i := 3) rfl) rfl), by decide +kernel, Nat.le_of_ble_eq_true rfl, (5, 5), TX5, 5, rfl, rfl⟩
theorem cvL_168 : xCv R_law 168 yX6_fragments mX6_fragments 30 1 := ⟨(xT_t6 (List.mem_of_getElem? (i := 60) rfl) rfl), (xT_t6 (List.mem_of_getElem? (i := 61) rfl) rfl), (xT_t6 (List.mem_of_getElem? (i := 62) rfl) rfl), (xT_t1 (List.mem_of_getElem? (i := 7) rfl) rfl), (xT_t6 (List.mem_of_getElem? (i := 63) rfl) rfl), by decide +kernel, Nat.le_of_ble_eq_true rfl, (6, 13), TX6, 13, rfl, rfl⟩
theorem cvL_169 : xCv R_law 169 yX5_fragmentStart mX5_fragmentStart 20 2 := ⟨(xT_t4 (List.mem_of_getElem? (i := 12) rfl) rfl), (xT_t4 (List.mem_of_getElem? (i := 13) rfl) rfl), (xT_t4 (List.mem_of_getElem? (i := 14) rfl) rfl), (xT_t1 (List.mem_of_getElem? (i := 1) rfl) rfl), (xT_t4 (List.mem_of_getElem? (i := 15) rfl) rfl), by decide +kernel, Nat.le_of_ble_eq_true rfl, (5, 5), TX5, 5, rfl, rfl⟩
theorem cvL_172 : xCv R_law 172 yX6_fragmentStart mX6_fragmentStart 30 2 := ⟨(xT_t6 (List.mem_of_getElem? (i := 68) rfl) rfl), (xT_t6 (List.mem_of_getElem? (i := 69) rfl) rfl), (xT_t6 (List.mem_of_getElem? (i := 70) rfl) rfl), (xT_t1 (List.mem_of_getElem? (i := 7) rfl) rfl), (xT_t6 (List.mem_of_getElem? (i := 71) rfl) rfl), by decide +kernel, Nat.le_of_ble_eq_true rfl, (6, 13), TX6, 13, rfl, rfl⟩
theorem cvL_173 : xCv R_law 173 yX5_fragmentLength mX5_fragmentLength 20 2 := ⟨(xT_t4 (List.mem_of_getElem? (i := 25) rfl) rfl), (xT_t4 (List.mem_of_getElem? (i := 26) rfl) rfl), (xT_t4 (List.mem_of_getElem? (i := 27) rfl) rfl), (xT_t1 (List.mem_of_getElem? (i := 1) rfl) rfl), (xT_t4 (List.mem_of_getElem? (i := 28) rfl) rfl), by decide +kernel, Nat.le_of_ble_eq_true rfl, (5, 5), TX5, 5, rfl, rfl⟩
theorem cvL_176 : xCv R_law 176 yX6_fragmentLength mX6_fragmentLength 30 2 := ⟨(xT_t6 (List.mem_of_getElem? (i := 76) rfl) rfl), (xT_t6 (List.mem_of_getElem? (i := 77) rfl) rfl), (xT_t6 (List.mem_of_getElem? (i := 78) rfl) rfl), (xT_t1 (List.mem_of_getElem? (i := 7) rfl) rfl), (xT_t6 (List.mem_of_getElem? (i := 79) rfl) rfl), by decide +kernel, Nat.le_of_ble_eq_true rfl, (6, 13), TX6, 13, rfl, rfl⟩
theorem cvL_177 : xCv R_law 177 yX5_freeRuns mX5_freeRuns 20 0 := ⟨(xT_t4 (List.mem_of_getElem? (i := 29) rfl) rfl), (xT_t4 (List.mem_of_getElem? (i := 30) rfl) rfl), (xT_t4 (List.mem_of_getElem? (i := 31) rfl) rfl), (xT_t1 (List.mem_of_getElem? (i := 1) rfl) rfl), (xT_t4 (List.mem_of_getElem? (i := 32) rfl) rfl), by decide +kernel, Nat.le_of_ble_eq_true rfl, (5, 5), TX5, 5, rfl, rfl⟩
theorem cvL_180 : xCv R_law 180 yX6_freeRuns mX6_freeRuns 30 0 := ⟨(xT_t6 (List.mem_of_getElem? (i := 80) rfl) rfl), (xT_t6 (List.mem_of_getElem? (i := 81) rfl) rfl), (xT_t6 (List.mem_of_getElem? (i := 82) rfl) rfl), (xT_t1 (List.mem_of_getElem? (i := 7) rfl) rfl), (xT_t6 (List.mem_of_getElem? (i := 83) rfl) rfl), by decide +kernel, Nat.le_of_ble_eq_true rfl, (6, 13), TX6, 13, rfl, rfl⟩
theorem cvL_181 : xCv R_law 181 yX5_runStart mX5_runStart 20 1 := ⟨(xT_t4 (List.mem_of_getElem? (i := 37) rfl) rfl), (xT_t4 (List.mem_of_getElem? (i := 38) rfl) rfl), (xT_t4 (List.mem_of_getElem? (i := 39) rfl) rfl), (xT_t1 (List.mem_of_getElem? (i := 1) rfl) rfl), (xT_t4 (List.mem_of_getElem? (i := 40) rfl) rfl), by decide +kernel, Nat.le_of_ble_eq_true rfl, (5, 5), TX5, 5, rfl, rfl⟩
theorem cvL_184 : xCv R_law 184 yX6_runStart mX6_runStart 30 1 := ⟨(xT_t6 (List.mem_of_getElem? (i := 84) rfl) rfl), (xT_t6 (List.mem_of_getElem? (i := 85) rfl) rfl), (xT_t6 (List.mem_of_getElem? (i := 86) rfl) rfl), (xT_t1 (List.mem_of_getElem? (i := 7) rfl) rfl), (xT_t6 (List.mem_of_getElem? (i := 87) rfl) rfl), by decide +kernel, Nat.le_of_ble_eq_true rfl, (6, 13), TX6, 13, rfl, rfl⟩
theorem cvL_185 : xCv R_law 185 yX5_runLength mX5_runLength 20 1 := ⟨(xT_t4 (List.mem_of_getElem? (i := 45) rfl) rfl), (xT_t4 (List.mem_of_getElem? (i := 46) rfl) rfl), (xT_t4 (List.mem_of_getElem? (i := 47) rfl) rfl), (xT_t1 (List.mem_of_getElem? (i := 1) rfl) rfl), (xT_t4 (List.mem_of_getElem? (i := 48) rfl) rfl), by decide +kernel, Nat.le_of_ble_eq_true rfl, (5, 5), TX5, 5, rfl, rfl⟩
theorem cvL_188 : xCv R_law 188 yX6_runLength mX6_runLength 30 1 := ⟨(xT_t6 (List.mem_of_getElem? (i := 92) rfl) rfl), (xT_t6 (List.mem_of_getElem? (i := 93) rfl) rfl), (xT_t6 (List.mem_of_getElem? (i := 94) rfl) rfl), (xT_t1 (List.mem_of_getElem? (i := 7) rfl) rfl), (xT_t6 (List.mem_of_getElem? (i := 95) rfl) rfl), by decide +kernel, Nat.le_of_ble_eq_true rfl, (6, 13), TX6, 13, rfl, rfl⟩
theorem cvL_189 : xCv R_law 189 yX5_stageFor mX5_stageFor 20 3 := ⟨(xT_t4 (List.mem_of_getElem? (i := 50) rfl) rfl), (xT_t4 (List.mem_of_getElem? (i := 51) rfl) rfl), (xT_t4 (List.mem_of_getElem? (i := 52) rfl) rfl), (xT_t1 (List.mem_of_getElem? (i := 1) rfl) rfl), (xT_t4 (List.mem_of_getElem? (i := 53) rfl) rfl), by decide +kernel, Nat.le_of_ble_eq_true rfl, (5, 5), TX5, 5, rfl, rfl⟩
theorem cvL_192 : xCv R_law 192 yX6_stageFor mX6_stageFor 30 3 := ⟨(xT_t6 (List.mem_of_getElem? (i := 96) rfl) rfl), (xT_t6 (List.mem_of_getElem? (i := 97) rfl) rfl), (xT_t6 (List.mem_of_getElem? (i := 98) rfl) rfl), (xT_t1 (List.mem_of_getElem? (i := 7) rfl) rfl), (xT_t6 (List.mem_of_getElem? (i := 99) rfl) rfl), by decide +kernel, Nat.le_of_ble_eq_true rfl, (6, 13), TX6, 13, rfl, rfl⟩
theorem cvL_193 : xCv R_law 193 yX5_largestAdmissible mX5_largestAdmissible 20 2 := ⟨(xT_t4 (List.mem_of_getElem? (i := 55) rfl) rfl), (xT_t4 (List.mem_of_getElem? (i := 56) rfl) rfl), (xT_t4 (List.mem_of_getElem? (i := 57) rfl) rfl), (xT_t1 (List.mem_of_getElem? (i := 1) rfl) rfl), (xT_t4 (List.mem_of_getElem? (i := 58) rfl) rfl), by decide +kernel, Nat.le_of_ble_eq_true rfl, (5, 5), TX5, 5, rfl, rfl⟩
theorem cvL_196 : xCv R_law 196 yX6_largestAdmissible mX6_largestAdmissible 30 2 := ⟨(xT_t6 (List.mem_of_getElem? (i := 100) rfl) rfl), (xT_t6 (List.mem_of_getElem? (i := 101) rfl) rfl), (xT_t6 (List.mem_of_getElem? (i := 102) rfl) rfl), (xT_t1 (List.mem_of_getElem? (i := 7) rfl) rfl), (xT_t6 (List.mem_of_getElem? (i := 103) rfl) rfl), by decide +kernel, Nat.le_of_ble_eq_true rfl, (6, 13), TX6, 13, rfl, rfl⟩
theorem cvL_197 : xCv R_law 197 yX5_burstCapacity mX5_burstCapacity 20 3 := ⟨(xT_t4 (List.mem_of_getElem? (i := 59) rfl) rfl), (xT_t4 (List.mem_of_getElem? (i := 60) rfl) rfl), (xT_t4 (List.mem_of_getElem? (i := 61) rfl) rfl), (xT_t1 (List.mem_of_getElem? (i := 1) rfl) rfl), (xT_t4 (List.mem_of_getElem? (i := 62) rfl) rfl), by decide +kernel, Nat.le_of_ble_eq_true rfl, (5, 5), TX5, 5, rfl, rfl⟩
theorem cvL_200 : xCv R_law 200 yX6_burstCapacity mX6_burstCapacity 30 3 := ⟨(xT_t6 (List.mem_of_getElem? (i := 104) rfl) rfl), (xT_t6 (List.mem_of_getElem? (i := 105) rfl) rfl), (xT_t6 (List.mem_of_getElem? (i := 106) rfl) rfl), (xT_t1 (List.mem_of_getElem? (i := 7) rfl) rfl), (xT_t6 (List.mem_of_getElem? (i := 107) rfl) rfl), by decide +kernel, Nat.le_of_ble_eq_true rfl, (6, 13), TX6, 13, rfl, rfl⟩
theorem cvL_201 : xCv R_law 201 yX5_drainTicks mX5_drainTicks 20 1 := ⟨(xT_t4 (List.mem_of_getElem? (i := 81) rfl) rfl), (xT_t4 (List.mem_of_getElem? (i := 82) rfl) rfl), (xT_t4 (List.mem_of_getElem? (i := 83) rfl) rfl), (xT_t1 (List.mem_of_getElem? (i := 1) rfl) rfl), (xT_t4 (List.mem_of_getElem? (i := 84) rfl) rfl), by decide +kernel, Nat.le_of_ble_eq_true rfl, (5, 5), TX5, 5, rfl, rfl⟩
theorem cvL_204 : xCv R_law 204 yX6_drainTicks mX6_drainTicks 30 1 := ⟨(xT_t6 (List.mem_of_getElem? (i := 108) rfl) rfl), (xT_t6 (List.mem_of_getElem? (i := 109) rfl) rfl), (xT_t6 (List.mem_of_getElem? (i := 110) rfl) rfl), (xT_t1 (List.mem_of_getElem? (i := 7) rfl) rfl), (xT_t6 (List.mem_of_getElem? (i := 111) rfl) rfl), by decide +kernel, Nat.le_of_ble_eq_true rfl, (6, 13), TX6, 13, rfl, rfl⟩
theorem cvL_205 : xCv R_law 205 yX5_equilibrium mX5_equilibrium 20 2 := ⟨(xT_t4 (List.mem_of_getElem? (i := 87) rfl) rfl), (xT_t4 (List.mem_of_getElem? (i := 88) rfl) rfl), (xT_t4 (List.mem_of_getElem? (i := 89) rfl) rfl), (xT_t1 (List.mem_of_getElem? (i := 1) rfl) rfl), (xT_t4 (List.mem_of_getElem? (i := 90) rfl) rfl), by decide +kernel, Nat.le_of_ble_eq_true rfl, (5, 5), TX5, 5, rfl, rfl⟩
theorem cvL_209 : xCv R_law 209 yX6_equilibrium mX6_equilibrium 30 2 := ⟨(xT_t6 (List.mem_of_getElem? (i := 112) rfl) rfl), (xT_t6 (List.mem_of_getElem? (i := 113) rfl) rfl), (xT_t6 (List.mem_of_getElem? (i := 114) rfl) rfl), (xT_t1 (List.mem_of_getElem? (i := 7) rfl) rfl), (xT_t6 (List.mem_of_getElem? (i := 115) rfl) rfl), by decide +kernel, Nat.le_of_ble_eq_true rfl, (6, 13), TX6, 13, rfl, rfl⟩
theorem cvL_210 : xCv R_law 210 yX5_append mX5_append 20 1 := ⟨(xT_t4 (List.mem_of_getElem? (i := 94) rfl) rfl), (xT_t4 (List.mem_of_getElem? (i := 95) rfl) rfl), (xT_t4 (List.mem_of_getElem? (i := 96) rfl) rfl), (xT_t1 (List.mem_of_getElem? (i := 1) rfl) rfl), (xT_t4 (List.mem_of_getElem? (i := 97) rfl) rfl), by decide +kernel, Nat.le_of_ble_eq_true rfl, (5, 5), TX5, 5, rfl, rfl⟩
theorem cvL_213 : xCv R_law 213 yX6_append mX6_append 30 1 := ⟨(xT_t6 (List.mem_of_getElem? (i := 116) rfl) rfl), (xT_t6 (List.mem_of_getElem? (i := 117) rfl) rfl), (xT_t6 (List.mem_of_getElem? (i := 118) rfl) rfl), (xT_t1 (List.mem_of_getElem? (i := 7) rfl) rfl), (xT_t6 (List.mem_of_getElem? (i := 119) rfl) rfl), by decide +kernel, Nat.le_of_ble_eq_true rfl, (6, 13), TX6, 13, rfl, rfl⟩
theorem cvL_214 : xCv R_law 214 yX5_clearText mX5_clearText 20 0 := ⟨(xT_t4 (List.mem_of_getElem? (i := 98) rfl) rfl), (xT_t4 (List.mem_of_getElem? (i := 99) rfl) rfl), (xT_t4 (List.mem_of_getElem? (i := 100) rfl) rfl), (xT_t1 (List.mem_of_getElem? (i := 1) rfl) rfl), (xT_t4 (List.mem_of_getElem? (i := 101) rfl) rfl), by decide +kernel, Nat.le_of_ble_eq_true rfl, (5, 5), TX5, 5, rfl, rfl⟩
theorem cvL_217 : xCv R_law 217 yX6_clearText mX6_clearText 30 0 := ⟨(xT_t6 (List.mem_of_getElem? (i := 120) rfl) rfl), (xT_t6 (List.mem_of_getElem? (i := 121) rfl) rfl), (xT_t6 (List.mem_of_getElem? (i := 122) rfl) rfl), (xT_t1 (List.mem_of_getElem? (i := 7) rfl) rfl), (xT_t6 (List.mem_of_getElem? (i := 123) rfl) rfl), by decide +kernel, Nat.le_of_ble_eq_true rfl, (6, 13), TX6, 13, rfl, rfl⟩
theorem cvL_218 : xCv R_law 218 yX5_faultPosition mX5_faultPosition 20 0 := ⟨(xT_t4 (List.mem_of_getElem? (i := 102) rfl) rfl), (xT_t4 (List.mem_of_getElem? (i := 103) rfl) rfl), (xT_t4 (List.mem_of_getElem? (i := 104) rfl) rfl), (xT_t1 (List.mem_of_getElem? (i := 1) rfl) rfl), (xT_t4 (List.mem_of_getElem? (i := 105) rfl) rfl), by decide +kernel, Nat.le_of_ble_eq_true rfl, (5, 5), TX5, 5, rfl, rfl⟩
theorem cvL_221 : xCv R_law 221 yX6_faultPosition mX6_faultPosition 30 0 := ⟨(xT_t6 (List.mem_of_getElem? (i := 124) rfl) rfl), (xT_t6 (List.mem_of_getElem? (i := 125) rfl) rfl), (xT_t6 (List.mem_of_getElem? (i := 126) rfl) rfl), (xT_t1 (List.mem_of_getElem? (i := 7) rfl) rfl), (xT_t6 (List.mem_of_getElem? (i := 127) rfl) rfl), by decide +kernel, Nat.le_of_ble_eq_true rfl, (6, 13), TX6, 13, rfl, rfl⟩
theorem cvL_222 : xCv R_law 222 yX5_run mX5_run 20 0 := ⟨(xT_t4 (List.mem_of_getElem? (i := 139) rfl) rfl), (xT_t4 (List.mem_of_getElem? (i := 140) rfl) rfl), (xT_t4 (List.mem_of_getElem? (i := 141) rfl) rfl), (xT_t1 (List.mem_of_getElem? (i := 1) rfl) rfl), (xT_t4 (List.mem_of_getElem? (i := 142) rfl) rfl), by decide +kernel, Nat.le_of_ble_eq_true rfl, (5, 5), TX5, 5, rfl, rfl⟩
theorem cvL_225 : xCv R_law 225 yX6_run mX6_run 30 0 := ⟨(xT_t6 (List.mem_of_getElem? (i := 169) rfl) rfl), (xT_t6 (List.mem_of_getElem? (i := 170) rfl) rfl), (xT_t6 (List.mem_of_getElem? (i := 171) rfl) rfl), (xT_t1 (List.mem_of_getElem? (i := 7) rfl) rfl), (xT_t6 (List.mem_of_getElem? (i := 172) rfl) rfl), by decide +kernel, Nat.le_of_ble_eq_true rfl, (6, 13), TX6, 13, rfl, rfl⟩
theorem cvL_226 : xCv R_law 226 yX5_save mX5_save 20 1 := ⟨(xT_t4 (List.mem_of_getElem? (i := 149) rfl) rfl), (xT_t4 (List.mem_of_getElem? (i := 150) rfl) rfl), (xT_t4 (List.mem_of_getElem? (i := 151) rfl) rfl), (xT_t1 (List.mem_of_getElem? (i := 1) rfl) rfl), (xT_t4 (List.mem_of_getElem? (i := 152) rfl) rfl), by decide +kernel, Nat.le_of_ble_eq_true rfl, (5, 5), TX5, 5, rfl, rfl⟩
theorem cvL_229 : xCv R_law 229 yX6_save mX6_save 30 1 := ⟨(xT_t6 (List.mem_of_getElem? (i := 173) rfl) rfl), (xT_t6 (List.mem_of_getElem? (i := 174) rfl) rfl), (xT_t6 (List.mem_of_getElem? (i := 175) rfl) rfl), (xT_t1 (List.mem_of_getElem? (i := 7) rfl) rfl), (xT_t6 (List.mem_of_getElem? (i := 176) rfl) rfl), by decide +kernel, Nat.le_of_ble_eq_true rfl, (6, 13), TX6, 13, rfl, rfl⟩
theorem cvL_230 : xCv R_law 230 yX5_restore mX5_restore 20 1 := ⟨(xT_t4 (List.mem_of_getElem? (i := 153) rfl) rfl), (xT_t4 (List.mem_of_getElem? (i := 154) rfl) rfl), (xT_t4 (List.mem_of_getElem? (i := 155) rfl) rfl), (xT_t1 (List.mem_of_getElem? (i := 1) rfl) rfl), (xT_t4 (List.mem_of_getElem? (i := 156) rfl) rfl), by decide +kernel, Nat.le_of_ble_eq_true rfl, (5, 5), TX5, 5, rfl, rfl⟩
theorem cvL_233 : xCv R_law 233 yX6_restore mX6_restore 30 1 := ⟨(xT_t6 (List.mem_of_getElem? (i := 177) rfl) rfl), (xT_t6 (List.mem_of_getElem? (i := 178) rfl) rfl), (xT_t6 (List.mem_of_getElem? (i := 179) rfl) rfl), (xT_t1 (List.mem_of_getElem? (i := 7) rfl) rfl), (xT_t6 (List.mem_of_getElem? (i := 180) rfl) rfl), by decide +kernel, Nat.le_of_ble_eq_true rfl, (6, 13), TX6, 13, rfl, rfl⟩
theorem cvL_234 : xCv R_law 234 yX5_checksum mX5_checksum 20 0 := ⟨(xT_t4 (List.mem_of_getElem? (i := 157) rfl) rfl), (xT_t4 (List.mem_of_getElem? (i := 158) rfl) rfl), (xT_t4 (List.mem_of_getElem? (i := 159) rfl) rfl), (xT_t1 (List.mem_of_getElem? (i := 1) rfl) rfl), (xT_t4 (List.mem_of_getElem? (i := 160) rfl) rfl), by decide +kernel, Nat.le_of_ble_eq_true rfl, (5, 5), TX5, 5, rfl, rfl⟩
theorem cvL_238 : xCv R_law 238 yX6_checksum mX6_checksum 30 0 := ⟨(xT_t6 (List.mem_of_getElem? (i := 181) rfl) rfl), (xT_t6 (List.mem_of_getElem? (i := 182) rfl) rfl), (xT_t6 (List.mem_of_getElem? (i := 183) rfl) rfl), (xT_t1 (List.mem_of_getElem? (i := 7) rfl) rfl), (xT_t6 (List.mem_of_getElem? (i := 184) rfl) rfl), by decide +kernel, Nat.le_of_ble_eq_true rfl, (6, 13), TX6, 13, rfl, rfl⟩
set_option maxRecDepth 100000 in
set_option maxHeartbeats 4000000 in
theorem wc0 {l : Launch} {w : xW} {p : Program} {e : Env} {s : State} {m : MethodId} {below : List Frame} {meth : Method} {c : Code} {b LL : Nat} {xs : Nat → Int32} {Q : State → Prop} {kc ns a n : Nat} {σ : xS} {Inv : Nat → xS → Prop} (hOK : xP0 Inv) (C : wAmb w p s m c b LL xs) (hLL : LL < 2 ^ 31) (ha : a + 4 < LL) (hroom : kc ≤ 600000 ∧ ns ≤ 7302250) (hI0 : Inv n σ) (hn : n < 512) (hnext : ∀ σ2, Inv (n + 1) σ2 → wAt l w p e s m below meth c b Q kc ns 1871 [(0, .ref b), (1, .ref (w.2.2 4 20 0 0)), (2, .ref (w.2.2 5 30 0 0)), (3, .int (nI a))] [] σ2) : wAt l w p e s m below meth c b Q kc ns 264 [(0, .ref b), (1, .ref (w.2.2 4 20 0 0)), (2, .ref (w.2.2 5 30 0 0)), (3, .int (nI a))] [] σ := by
  obtain ⟨r, σ1, σ2, h1, h2, hI⟩ := hOK n σ (xs (a + 1)) (xs (a + 2)) hI0 hn
  refine w_aload_n C dL_law_264 rfl 1 rfl ?_
  refine w_aload_n C dL_law_265 rfl 0 rfl ?_
  refine w_iload_n C dL_law_266 rfl 3 rfl ?_
  refine w_iconst C (x := 1) dL_law_267 rfl ?_
  refine w_iadd C (nI (a + 1)) (nI_add a 1) dL_law_268 ?_
  refine w_sld C (a + 1) rfl (by omega) hLL dL_law_269 ?_
  refine w_aload_n C dL_law_270 rfl 0 rfl ?_
  refine w_iload_n C dL_law_271 rfl 3 rfl ?_
  refine w_iconst C (x := 2) dL_law_272 rfl ?_
  refine w_iadd C (nI (a + 2)) (nI_add a 2) dL_law_273 ?_
  refine w_sld C (a + 2) rfl (by omega) hLL dL_law_274 ?_
  refine w_call C (As := [.int (xs (a + 1)), .int (xs (a + 2))]) (st := []) (eX5_reset h1) cvL_13 (Nat.le_of_ble_eq_true rfl) ok_e20 rfl (Nat.le_of_ble_eq_true rfl) hroom _ rfl dL_law_275 [.int r] rfl ?_
  refine w_aload_n C dL_law_278 rfl 2 rfl ?_
  refine w_aload_n C dL_law_279 rfl 0 rfl ?_
  refine w_iload_n C dL_law_280 rfl 3 rfl ?_
  refine w_iconst C (x := 1) dL_law_281 rfl ?_
  refine w_iadd C (nI (a + 1)) (nI_add a 1) dL_law_282 ?_
  refine w_sld C (a + 1) rfl (by omega) hLL dL_law_283 ?_
  refine w_aload_n C dL_law_284 rfl 0 rfl ?_
  refine w_iload_n C dL_law_285 rfl 3 rfl ?_
  refine w_iconst C (x := 2) dL_law_286 rfl ?_
  refine w_iadd C (nI (a + 2)) (nI_add a 2) dL_law_287 ?_
  refine w_sld C (a + 2) rfl (by omega) hLL dL_law_288 ?_
  refine w_call C (As := [.int (xs (a + 1)), .int (xs (a + 2))]) (st := [.int r]) (eX6_reset C.2.2.2.2.2.2.2.2.2.1 h2) cvL_17 (Nat.le_of_ble_eq_true rfl) (ok_e30 C.2.2.2.2.2.2.2.2.2.1) rfl (Nat.le_of_ble_eq_true rfl) hroom _ rfl dL_law_289 [.int r, .int r] rfl ?_
  refine w_eq_t C (tgt := 1871) rfl dL_law_292 rfl ?_
  exact hnext σ2 hI
set_option maxRecDepth 100000 in
set_option maxHeartbeats 4000000 in
theorem wc1 {l : Launch} {w : xW} {p : Program} {e : Env} {s : State} {m : MethodId} {below : List Frame} {meth : Method} {c : Code} {b LL : Nat} {xs : Nat → Int32} {Q : State → Prop} {kc ns a n : Nat} {σ : xS} {Inv : Nat → xS → Prop} (hOK : xP1 Inv) (C : wAmb w p s m c b LL xs) (hLL : LL < 2 ^ 31) (ha : a + 4 < LL) (hroom : kc ≤ 600000 ∧ ns ≤ 7302250) (hI0 : Inv n σ) (hn : n < 512) (hnext : ∀ σ2, Inv (n + 1) σ2 → wAt l w p e s m below meth c b Q kc ns 1871 [(0, .ref b), (1, .ref (w.2.2 4 20 0 0)), (2, .ref (w.2.2 5 30 0 0)), (3, .int (nI a))] [] σ2) : wAt l w p e s m below meth c b Q kc ns 297 [(0, .ref b), (1, .ref (w.2.2 4 20 0 0)), (2, .ref (w.2.2 5 30 0 0)), (3, .int (nI a))] [] σ := by
  obtain ⟨r, σ1, σ2, h1, h2, hI⟩ := hOK n σ (xs (a + 1)) (xs (a + 2)) hI0 hn
  refine w_aload_n C dL_law_297 rfl 1 rfl ?_
  refine w_aload_n C dL_law_298 rfl 0 rfl ?_
  refine w_iload_n C dL_law_299 rfl 3 rfl ?_
  refine w_iconst C (x := 1) dL_law_300 rfl ?_
  refine w_iadd C (nI (a + 1)) (nI_add a 1) dL_law_301 ?_
  refine w_sld C (a + 1) rfl (by omega) hLL dL_law_302 ?_
  refine w_aload_n C dL_law_303 rfl 0 rfl ?_
  refine w_iload_n C dL_law_304 rfl 3 rfl ?_
  refine w_iconst C (x := 2) dL_law_305 rfl ?_
  refine w_iadd C (nI (a + 2)) (nI_add a 2) dL_law_306 ?_
  refine w_sld C (a + 2) rfl (by omega) hLL dL_law_307 ?_
  refine w_call C (As := [.int (xs (a + 1)), .int (xs (a + 2))]) (st := []) (eX5_setReserve h1) cvL_18 (Nat.le_of_ble_eq_true rfl) ok_e20 rfl (Nat.le_of_ble_eq_true rfl) hroom _ rfl dL_law_308 [.int r] rfl ?_
  refine w_aload_n C dL_law_311 rfl 2 rfl ?_
  refine w_aload_n C dL_law_312 rfl 0 rfl ?_
  refine w_iload_n C dL_law_313 rfl 3 rfl ?_
  refine w_iconst C (x := 1) dL_law_314 rfl ?_
  refine w_iadd C (nI (a + 1)) (nI_add a 1) dL_law_315 ?_
  refine w_sld C (a + 1) rfl (by omega) hLL dL_law_316 ?_
  refine w_aload_n C dL_law_317 rfl 0 rfl ?_
  refine w_iload_n C dL_law_318 rfl 3 rfl ?_
  refine w_iconst C (x := 2) dL_law_319 rfl ?_
  refine w_iadd C (nI (a + 2)) (nI_add a 2) dL_law_320 ?_
  refine w_sld C (a + 2) rfl (by omega) hLL dL_law_321 ?_
  refine w_call C (As := [.int (xs (a + 1)), .int (xs (a + 2))]) (st := [.int r]) (eX6_setReserve C.2.2.2.2.2.2.2.2.2.1 h2) cvL_21 (Nat.le_of_ble_eq_true rfl) (ok_e30 C.2.2.2.2.2.2.2.2.2.1) rfl (Nat.le_of_ble_eq_true rfl) hroom _ rfl dL_law_322 [.int r, .int r] rfl ?_
  refine w_eq_t C (tgt := 1871) rfl dL_law_325 rfl ?_
  exact hnext σ2 hI
set_option maxRecDepth 100000 in
set_option maxHeartbeats 4000000 in
theorem wc2 {l : Launch} {w : xW} {p : Program} {e : Env} {s : State} {m : MethodId} {below : List Frame} {meth : Method} {c : Code} {b LL : Nat} {xs : Nat → Int32} {Q : State → Prop} {kc ns a n : Nat} {σ : xS} {Inv : Nat → xS → Prop} (hOK : xP2 Inv) (C : wAmb w p s m c b LL xs) (hLL : LL < 2 ^ 31) (ha : a + 4 < LL) (hroom : kc ≤ 600000 ∧ ns ≤ 7302250) (hI0 : Inv n σ) (hn : n < 512) (hnext : ∀ σ2, Inv (n + 1) σ2 → wAt l w p e s m below meth c b Q kc ns 1871 [(0, .ref b), (1, .ref (w.2.2 4 20 0 0)), (2, .ref (w.2.2 5 30 0 0)), (3, .int (nI a))] [] σ2) : wAt l w p e s m below meth c b Q kc ns 330 [(0, .ref b), (1, .ref (w.2.2 4 20 0 0)), (2, .ref (w.2.2 5 30 0 0)), (3, .int (nI a))] [] σ := by
  obtain ⟨r, σ1, σ2, h1, h2, hI⟩ := hOK n σ (xs (a + 1)) (xs (a + 2)) hI0 hn
  refine w_aload_n C dL_law_330 rfl 1 rfl ?_
  refine w_aload_n C dL_law_331 rfl 0 rfl ?_
  refine w_iload_n C dL_law_332 rfl 3 rfl ?_
  refine w_iconst C (x := 1) dL_law_333 rfl ?_
  refine w_iadd C (nI (a + 1)) (nI_add a 1) dL_law_334 ?_
  refine w_sld C (a + 1) rfl (by omega) hLL dL_law_335 ?_
  refine w_aload_n C dL_law_336 rfl 0 rfl ?_
  refine w_iload_n C dL_law_337 rfl 3 rfl ?_
  refine w_iconst C (x := 2) dL_law_338 rfl ?_
  refine w_iadd C (nI (a + 2)) (nI_add a 2) dL_law_339 ?_
  refine w_sld C (a + 2) rfl (by omega) hLL dL_law_340 ?_
  refine w_call C (As := [.int (xs (a + 1)), .int (xs (a + 2))]) (st := []) (eX5_setHeadroom h1) cvL_22 (Nat.le_of_ble_eq_true rfl) ok_e20 rfl (Nat.le_of_ble_eq_true rfl) hroom _ rfl dL_law_341 [.int r] rfl ?_
  refine w_aload_n C dL_law_344 rfl 2 rfl ?_
  refine w_aload_n C dL_law_345 rfl 0 rfl ?_
  refine w_iload_n C dL_law_346 rfl 3 rfl ?_
  refine w_iconst C (x := 1) dL_law_347 rfl ?_
  refine w_iadd C (nI (a + 1)) (nI_add a 1) dL_law_348 ?_
  refine w_sld C (a + 1) rfl (by omega) hLL dL_law_349 ?_
  refine w_aload_n C dL_law_350 rfl 0 rfl ?_
  refine w_iload_n C dL_law_351 rfl 3 rfl ?_
  refine w_iconst C (x := 2) dL_law_352 rfl ?_
  refine w_iadd C (nI (a + 2)) (nI_add a 2) dL_law_353 ?_
  refine w_sld C (a + 2) rfl (by omega) hLL dL_law_354 ?_
  refine w_call C (As := [.int (xs (a + 1)), .int (xs (a + 2))]) (st := [.int r]) (eX6_setHeadroom C.2.2.2.2.2.2.2.2.2.1 h2) cvL_25 (Nat.le_of_ble_eq_true rfl) (ok_e30 C.2.2.2.2.2.2.2.2.2.1) rfl (Nat.le_of_ble_eq_true rfl) hroom _ rfl dL_law_355 [.int r, .int r] rfl ?_
  refine w_eq_t C (tgt := 1871) rfl dL_law_358 rfl ?_
  exact hnext σ2 hI
set_option maxRecDepth 100000 in
set_option maxHeartbeats 4000000 in
theorem wc3 {l : Launch} {w : xW} {p : Program} {e : Env} {s : State} {m : MethodId} {below : List Frame} {meth : Method} {c : Code} {b LL : Nat} {xs : Nat → Int32} {Q : State → Prop} {kc ns a n : Nat} {σ : xS} {Inv : Nat → xS → Prop} (hOK : xP3 Inv) (C : wAmb w p s m c b LL xs) (hLL : LL < 2 ^ 31) (ha : a + 4 < LL) (hroom : kc ≤ 600000 ∧ ns ≤ 7302250) (hI0 : Inv n σ) (hn : n < 512) (hnext : ∀ σ2, Inv (n + 1) σ2 → wAt l w p e s m below meth c b Q kc ns 1871 [(0, .ref b), (1, .ref (w.2.2 4 20 0 0)), (2, .ref (w.2.2 5 30 0 0)), (3, .int (nI a))] [] σ2) : wAt l w p e s m below meth c b Q kc ns 363 [(0, .ref b), (1, .ref (w.2.2 4 20 0 0)), (2, .ref (w.2.2 5 30 0 0)), (3, .int (nI a))] [] σ := by
  obtain ⟨r, σ1, σ2, h1, h2, hI⟩ := hOK n σ (xs (a + 1)) (xs (a + 2)) (xs (a + 3)) hI0 hn
  refine w_aload_n C dL_law_363 rfl 1 rfl ?_
  refine w_aload_n C dL_law_364 rfl 0 rfl ?_
  refine w_iload_n C dL_law_365 rfl 3 rfl ?_
  refine w_iconst C (x := 1) dL_law_366 rfl ?_
  refine w_iadd C (nI (a + 1)) (nI_add a 1) dL_law_367 ?_
  refine w_sld C (a + 1) rfl (by omega) hLL dL_law_368 ?_
  refine w_aload_n C dL_law_369 rfl 0 rfl ?_
  refine w_iload_n C dL_law_370 rfl 3 rfl ?_
  refine w_iconst C (x := 2) dL_law_371 rfl ?_
  refine w_iadd C (nI (a + 2)) (nI_add a 2) dL_law_372 ?_
  refine w_sld C (a + 2) rfl (by omega) hLL dL_law_373 ?_
  refine w_aload_n C dL_law_374 rfl 0 rfl ?_
  refine w_iload_n C dL_law_375 rfl 3 rfl ?_
  refine w_iconst C (x := 3) dL_law_376 rfl ?_
  refine w_iadd C (nI (a + 3)) (nI_add a 3) dL_law_377 ?_
  refine w_sld C (a + 3) rfl (by omega) hLL dL_law_378 ?_
  refine w_call C (As := [.int (xs (a + 1)), .int (xs (a + 2)), .int (xs (a + 3))]) (st := []) (eX5_setAlpha h1) cvL_26 (Nat.le_of_ble_eq_true rfl) ok_e20 rfl (Nat.le_of_ble_eq_true rfl) hroom _ rfl dL_law_379 [.int r] rfl ?_
  refine w_aload_n C dL_law_382 rfl 2 rfl ?_
  refine w_aload_n C dL_law_383 rfl 0 rfl ?_
  refine w_iload_n C dL_law_384 rfl 3 rfl ?_
  refine w_iconst C (x := 1) dL_law_385 rfl ?_
  refine w_iadd C (nI (a + 1)) (nI_add a 1) dL_law_386 ?_
  refine w_sld C (a + 1) rfl (by omega) hLL dL_law_387 ?_
  refine w_aload_n C dL_law_388 rfl 0 rfl ?_
  refine w_iload_n C dL_law_389 rfl 3 rfl ?_
  refine w_iconst C (x := 2) dL_law_390 rfl ?_
  refine w_iadd C (nI (a + 2)) (nI_add a 2) dL_law_391 ?_
  refine w_sld C (a + 2) rfl (by omega) hLL dL_law_392 ?_
  refine w_aload_n C dL_law_393 rfl 0 rfl ?_
  refine w_iload_n C dL_law_394 rfl 3 rfl ?_
  refine w_iconst C (x := 3) dL_law_395 rfl ?_
  refine w_iadd C (nI (a + 3)) (nI_add a 3) dL_law_396 ?_
  refine w_sld C (a + 3) rfl (by omega) hLL dL_law_397 ?_
  refine w_call C (As := [.int (xs (a + 1)), .int (xs (a + 2)), .int (xs (a + 3))]) (st := [.int r]) (eX6_setAlpha C.2.2.2.2.2.2.2.2.2.1 h2) cvL_30 (Nat.le_of_ble_eq_true rfl) (ok_e30 C.2.2.2.2.2.2.2.2.2.1) rfl (Nat.le_of_ble_eq_true rfl) hroom _ rfl dL_law_398 [.int r, .int r] rfl ?_
  refine w_eq_t C (tgt := 1871) rfl dL_law_401 rfl ?_
  exact hnext σ2 hI
set_option maxRecDepth 100000 in
set_option maxHeartbeats 4000000 in
theorem wc4 {l : Launch} {w : xW} {p : Program} {e : Env} {s : State} {m : MethodId} {below : List Frame} {meth : Method} {c : Code} {b LL : Nat} {xs : Nat → Int32} {Q : State → Prop} {kc ns a n : Nat} {σ : xS} {Inv : Nat → xS → Prop} (hOK : xP4 Inv) (C : wAmb w p s m c b LL xs) (hLL : LL < 2 ^ 31) (ha : a + 4 < LL) (hroom : kc ≤ 600000 ∧ ns ≤ 7302250) (hI0 : Inv n σ) (hn : n < 512) (hnext : ∀ σ2, Inv (n + 1) σ2 → wAt l w p e s m below meth c b Q kc ns 1871 [(0, .ref b), (1, .ref (w.2.2 4 20 0 0)), (2, .ref (w.2.2 5 30 0 0)), (3, .int (nI a))] [] σ2) : wAt l w p e s m below meth c b Q kc ns 406 [(0, .ref b), (1, .ref (w.2.2 4 20 0 0)), (2, .ref (w.2.2 5 30 0 0)), (3, .int (nI a))] [] σ := by
  obtain ⟨r, σ1, σ2, h1, h2, hI⟩ := hOK n σ (xs (a + 1)) (xs (a + 2)) (xs (a + 3)) (xs (a + 4)) hI0 hn
  refine w_aload_n C dL_law_406 rfl 1 rfl ?_
  refine w_aload_n C dL_law_407 rfl 0 rfl ?_
  refine w_iload_n C dL_law_408 rfl 3 rfl ?_
  refine w_iconst C (x := 1) dL_law_409 rfl ?_
  refine w_iadd C (nI (a + 1)) (nI_add a 1) dL_law_410 ?_
  refine w_sld C (a + 1) rfl (by omega) hLL dL_law_411 ?_
  refine w_aload_n C dL_law_412 rfl 0 rfl ?_
  refine w_iload_n C dL_law_413 rfl 3 rfl ?_
  refine w_iconst C (x := 2) dL_law_414 rfl ?_
  refine w_iadd C (nI (a + 2)) (nI_add a 2) dL_law_415 ?_
  refine w_sld C (a + 2) rfl (by omega) hLL dL_law_416 ?_
  refine w_aload_n C dL_law_417 rfl 0 rfl ?_
  refine w_iload_n C dL_law_418 rfl 3 rfl ?_
  refine w_iconst C (x := 3) dL_law_419 rfl ?_
  refine w_iadd C (nI (a + 3)) (nI_add a 3) dL_law_420 ?_
  refine w_sld C (a + 3) rfl (by omega) hLL dL_law_421 ?_
  refine w_aload_n C dL_law_422 rfl 0 rfl ?_
  refine w_iload_n C dL_law_423 rfl 3 rfl ?_
  refine w_iconst C (x := 4) dL_law_424 rfl ?_
  refine w_iadd C (nI (a + 4)) (nI_add a 4) dL_law_425 ?_
  refine w_sld C (a + 4) rfl (by omega) hLL dL_law_426 ?_
  refine w_call C (As := [.int (xs (a + 1)), .int (xs (a + 2)), .int (xs (a + 3)), .int (xs (a + 4))]) (st := []) (eX5_setBurst h1) cvL_31 (Nat.le_of_ble_eq_true rfl) ok_e20 rfl (Nat.le_of_ble_eq_true rfl) hroom _ rfl dL_law_427 [.int r] rfl ?_
  refine w_aload_n C dL_law_430 rfl 2 rfl ?_
  refine w_aload_n C dL_law_431 rfl 0 rfl ?_
  refine w_iload_n C dL_law_432 rfl 3 rfl ?_
  refine w_iconst C (x := 1) dL_law_433 rfl ?_
  refine w_iadd C (nI (a + 1)) (nI_add a 1) dL_law_434 ?_
  refine w_sld C (a + 1) rfl (by omega) hLL dL_law_435 ?_
  refine w_aload_n C dL_law_436 rfl 0 rfl ?_
  refine w_iload_n C dL_law_437 rfl 3 rfl ?_
  refine w_iconst C (x := 2) dL_law_438 rfl ?_
  refine w_iadd C (nI (a + 2)) (nI_add a 2) dL_law_439 ?_
  refine w_sld C (a + 2) rfl (by omega) hLL dL_law_440 ?_
  refine w_aload_n C dL_law_441 rfl 0 rfl ?_
  refine w_iload_n C dL_law_442 rfl 3 rfl ?_
  refine w_iconst C (x := 3) dL_law_443 rfl ?_
  refine w_iadd C (nI (a + 3)) (nI_add a 3) dL_law_444 ?_
  refine w_sld C (a + 3) rfl (by omega) hLL dL_law_445 ?_
  refine w_aload_n C dL_law_446 rfl 0 rfl ?_
  refine w_iload_n C dL_law_447 rfl 3 rfl ?_
  refine w_iconst C (x := 4) dL_law_448 rfl ?_
  refine w_iadd C (nI (a + 4)) (nI_add a 4) dL_law_449 ?_
  refine w_sld C (a + 4) rfl (by omega) hLL dL_law_450 ?_
  refine w_call C (As := [.int (xs (a + 1)), .int (xs (a + 2)), .int (xs (a + 3)), .int (xs (a + 4))]) (st := [.int r]) (eX6_setBurst C.2.2.2.2.2.2.2.2.2.1 h2) cvL_35 (Nat.le_of_ble_eq_true rfl) (ok_e30 C.2.2.2.2.2.2.2.2.2.1) rfl (Nat.le_of_ble_eq_true rfl) hroom _ rfl dL_law_451 [.int r, .int r] rfl ?_
  refine w_eq_t C (tgt := 1871) rfl dL_law_454 rfl ?_
  exact hnext σ2 hI
set_option maxRecDepth 100000 in
set_option maxHeartbeats 4000000 in
theorem wc5 {l : Launch} {w : xW} {p : Program} {e : Env} {s : State} {m : MethodId} {below : List Frame} {meth : Method} {c : Code} {b LL : Nat} {xs : Nat → Int32} {Q : State → Prop} {kc ns a n : Nat} {σ : xS} {Inv : Nat → xS → Prop} (hOK : xP5 Inv) (C : wAmb w p s m c b LL xs) (hLL : LL < 2 ^ 31) (ha : a + 4 < LL) (hroom : kc ≤ 600000 ∧ ns ≤ 7302250) (hI0 : Inv n σ) (hn : n < 512) (hnext : ∀ σ2, Inv (n + 1) σ2 → wAt l w p e s m below meth c b Q kc ns 1871 [(0, .ref b), (1, .ref (w.2.2 4 20 0 0)), (2, .ref (w.2.2 5 30 0 0)), (3, .int (nI a))] [] σ2) : wAt l w p e s m below meth c b Q kc ns 459 [(0, .ref b), (1, .ref (w.2.2 4 20 0 0)), (2, .ref (w.2.2 5 30 0 0)), (3, .int (nI a))] [] σ := by
  by_cases hz3 : xs (a + 3) = 0
  · skip
    obtain ⟨r, σ1, σ2, h1, h2, hI⟩ := hOK n σ (xs (a + 1)) (xs (a + 2)) 0 hI0 hn rfl
    refine w_aload_n C dL_law_459 rfl 1 rfl ?_
    refine w_aload_n C dL_law_460 rfl 0 rfl ?_
    refine w_iload_n C dL_law_461 rfl 3 rfl ?_
    refine w_iconst C (x := 1) dL_law_462 rfl ?_
    refine w_iadd C (nI (a + 1)) (nI_add a 1) dL_law_463 ?_
    refine w_sld C (a + 1) rfl (by omega) hLL dL_law_464 ?_
    refine w_aload_n C dL_law_465 rfl 0 rfl ?_
    refine w_iload_n C dL_law_466 rfl 3 rfl ?_
    refine w_iconst C (x := 2) dL_law_467 rfl ?_
    refine w_iadd C (nI (a + 2)) (nI_add a 2) dL_law_468 ?_
    refine w_sld C (a + 2) rfl (by omega) hLL dL_law_469 ?_
    refine w_aload_n C dL_law_470 rfl 0 rfl ?_
    refine w_iload_n C dL_law_471 rfl 3 rfl ?_
    refine w_iconst C (x := 3) dL_law_472 rfl ?_
    refine w_iadd C (nI (a + 3)) (nI_add a 3) dL_law_473 ?_
    refine w_sld C (a + 3) rfl (by omega) hLL dL_law_474 ?_
    refine w_ifeq_t C (tgt := 482) hz3 dL_law_475 rfl ?_
    refine w_iconst C (x := 0) dL_law_482 rfl ?_
    refine w_call C (As := [.int (xs (a + 1)), .int (xs (a + 2)), .int 0]) (st := []) (eX5_setLossless h1) cvL_36 (Nat.le_of_ble_eq_true rfl) ok_e20 rfl (Nat.le_of_ble_eq_true rfl) hroom _ rfl dL_law_483 [.int r] rfl ?_
    refine w_aload_n C dL_law_486 rfl 2 rfl ?_
    refine w_aload_n C dL_law_487 rfl 0 rfl ?_
    refine w_iload_n C dL_law_488 rfl 3 rfl ?_
    refine w_iconst C (x := 1) dL_law_489 rfl ?_
    refine w_iadd C (nI (a + 1)) (nI_add a 1) dL_law_490 ?_
    refine w_sld C (a + 1) rfl (by omega) hLL dL_law_491 ?_
    refine w_aload_n C dL_law_492 rfl 0 rfl ?_
    refine w_iload_n C dL_law_493 rfl 3 rfl ?_
    refine w_iconst C (x := 2) dL_law_494 rfl ?_
    refine w_iadd C (nI (a + 2)) (nI_add a 2) dL_law_495 ?_
    refine w_sld C (a + 2) rfl (by omega) hLL dL_law_496 ?_
    refine w_aload_n C dL_law_497 rfl 0 rfl ?_
    refine w_iload_n C dL_law_498 rfl 3 rfl ?_
    refine w_iconst C (x := 3) dL_law_499 rfl ?_
    refine w_iadd C (nI (a + 3)) (nI_add a 3) dL_law_500 ?_
    refine w_sld C (a + 3) rfl (by omega) hLL dL_law_501 ?_
    refine w_ifeq_t C (tgt := 509) hz3 dL_law_502 rfl ?_
    refine w_iconst C (x := 0) dL_law_509 rfl ?_
    refine w_call C (As := [.int (xs (a + 1)), .int (xs (a + 2)), .int 0]) (st := [.int r]) (eX6_setLossless C.2.2.2.2.2.2.2.2.2.1 h2) cvL_40 (Nat.le_of_ble_eq_true rfl) (ok_e30 C.2.2.2.2.2.2.2.2.2.1) rfl (Nat.le_of_ble_eq_true rfl) hroom _ rfl dL_law_510 [.int r, .int r] rfl ?_
    refine w_eq_t C (tgt := 1871) rfl dL_law_513 rfl ?_
    exact hnext σ2 hI
  · skip
    obtain ⟨r, σ1, σ2, h1, h2, hI⟩ := hOK n σ (xs (a + 1)) (xs (a + 2)) 1 hI0 hn rfl
    refine w_aload_n C dL_law_459 rfl 1 rfl ?_
    refine w_aload_n C dL_law_460 rfl 0 rfl ?_
    refine w_iload_n C dL_law_461 rfl 3 rfl ?_
    refine w_iconst C (x := 1) dL_law_462 rfl ?_
    refine w_iadd C (nI (a + 1)) (nI_add a 1) dL_law_463 ?_
    refine w_sld C (a + 1) rfl (by omega) hLL dL_law_464 ?_
    refine w_aload_n C dL_law_465 rfl 0 rfl ?_
    refine w_iload_n C dL_law_466 rfl 3 rfl ?_
    refine w_iconst C (x := 2) dL_law_467 rfl ?_
    refine w_iadd C (nI (a + 2)) (nI_add a 2) dL_law_468 ?_
    refine w_sld C (a + 2) rfl (by omega) hLL dL_law_469 ?_
    refine w_aload_n C dL_law_470 rfl 0 rfl ?_
    refine w_iload_n C dL_law_471 rfl 3 rfl ?_
    refine w_iconst C (x := 3) dL_law_472 rfl ?_
    refine w_iadd C (nI (a + 3)) (nI_add a 3) dL_law_473 ?_
    refine w_sld C (a + 3) rfl (by omega) hLL dL_law_474 ?_
    refine w_ifeq_f C (tgt := 482) hz3 dL_law_475 rfl ?_
    refine w_iconst C (x := 1) dL_law_478 rfl ?_
    refine w_goto C (tgt := 483) dL_law_479 rfl ?_
    refine w_call C (As := [.int (xs (a + 1)), .int (xs (a + 2)), .int 1]) (st := []) (eX5_setLossless h1) cvL_36 (Nat.le_of_ble_eq_true rfl) ok_e20 rfl (Nat.le_of_ble_eq_true rfl) hroom _ rfl dL_law_483 [.int r] rfl ?_
    refine w_aload_n C dL_law_486 rfl 2 rfl ?_
    refine w_aload_n C dL_law_487 rfl 0 rfl ?_
    refine w_iload_n C dL_law_488 rfl 3 rfl ?_
    refine w_iconst C (x := 1) dL_law_489 rfl ?_
    refine w_iadd C (nI (a + 1)) (nI_add a 1) dL_law_490 ?_
    refine w_sld C (a + 1) rfl (by omega) hLL dL_law_491 ?_
    refine w_aload_n C dL_law_492 rfl 0 rfl ?_
    refine w_iload_n C dL_law_493 rfl 3 rfl ?_
    refine w_iconst C (x := 2) dL_law_494 rfl ?_
    refine w_iadd C (nI (a + 2)) (nI_add a 2) dL_law_495 ?_
    refine w_sld C (a + 2) rfl (by omega) hLL dL_law_496 ?_
    refine w_aload_n C dL_law_497 rfl 0 rfl ?_
    refine w_iload_n C dL_law_498 rfl 3 rfl ?_
    refine w_iconst C (x := 3) dL_law_499 rfl ?_
    refine w_iadd C (nI (a + 3)) (nI_add a 3) dL_law_500 ?_
    refine w_sld C (a + 3) rfl (by omega) hLL dL_law_501 ?_
    refine w_ifeq_f C (tgt := 509) hz3 dL_law_502 rfl ?_
    refine w_iconst C (x := 1) dL_law_505 rfl ?_
    refine w_goto C (tgt := 510) dL_law_506 rfl ?_
    refine w_call C (As := [.int (xs (a + 1)), .int (xs (a + 2)), .int 1]) (st := [.int r]) (eX6_setLossless C.2.2.2.2.2.2.2.2.2.1 h2) cvL_40 (Nat.le_of_ble_eq_true rfl) (ok_e30 C.2.2.2.2.2.2.2.2.2.1) rfl (Nat.le_of_ble_eq_true rfl) hroom _ rfl dL_law_510 [.int r, .int r] rfl ?_
    refine w_eq_t C (tgt := 1871) rfl dL_law_513 rfl ?_
    exact hnext σ2 hI
set_option maxRecDepth 100000 in
set_option maxHeartbeats 4000000 in
theorem wc6 {l : Launch} {w : xW} {p : Program} {e : Env} {s : State} {m : MethodId} {below : List Frame} {meth : Method} {c : Code} {b LL : Nat} {xs : Nat → Int32} {Q : State → Prop} {kc ns a n : Nat} {σ : xS} {Inv : Nat → xS → Prop} (hOK : xP6 Inv) (C : wAmb w p s m c b LL xs) (hLL : LL < 2 ^ 31) (ha : a + 4 < LL) (hroom : kc ≤ 600000 ∧ ns ≤ 7302250) (hI0 : Inv n σ) (hn : n < 512) (hnext : ∀ σ2, Inv (n + 1) σ2 → wAt l w p e s m below meth c b Q kc ns 1871 [(0, .ref b), (1, .ref (w.2.2 4 20 0 0)), (2, .ref (w.2.2 5 30 0 0)), (3, .int (nI a))] [] σ2) : wAt l w p e s m below meth c b Q kc ns 518 [(0, .ref b), (1, .ref (w.2.2 4 20 0 0)), (2, .ref (w.2.2 5 30 0 0)), (3, .int (nI a))] [] σ := by
  by_cases hz2 : xs (a + 2) = 0
  · skip
    obtain ⟨r, σ1, σ2, h1, h2, hI⟩ := hOK n σ (xs (a + 1)) 0 (xs (a + 3)) hI0 hn rfl
    refine w_aload_n C dL_law_518 rfl 1 rfl ?_
    refine w_aload_n C dL_law_519 rfl 0 rfl ?_
    refine w_iload_n C dL_law_520 rfl 3 rfl ?_
    refine w_iconst C (x := 1) dL_law_521 rfl ?_
    refine w_iadd C (nI (a + 1)) (nI_add a 1) dL_law_522 ?_
    refine w_sld C (a + 1) rfl (by omega) hLL dL_law_523 ?_
    refine w_aload_n C dL_law_524 rfl 0 rfl ?_
    refine w_iload_n C dL_law_525 rfl 3 rfl ?_
    refine w_iconst C (x := 2) dL_law_526 rfl ?_
    refine w_iadd C (nI (a + 2)) (nI_add a 2) dL_law_527 ?_
    refine w_sld C (a + 2) rfl (by omega) hLL dL_law_528 ?_
    refine w_ifeq_t C (tgt := 536) hz2 dL_law_529 rfl ?_
    refine w_iconst C (x := 0) dL_law_536 rfl ?_
    refine w_aload_n C dL_law_537 rfl 0 rfl ?_
    refine w_iload_n C dL_law_538 rfl 3 rfl ?_
    refine w_iconst C (x := 3) dL_law_539 rfl ?_
    refine w_iadd C (nI (a + 3)) (nI_add a 3) dL_law_540 ?_
    refine w_sld C (a + 3) rfl (by omega) hLL dL_law_541 ?_
    refine w_call C (As := [.int (xs (a + 1)), .int 0, .int (xs (a + 3))]) (st := []) (eX5_setScheduler h1) cvL_41 (Nat.le_of_ble_eq_true rfl) ok_e20 rfl (Nat.le_of_ble_eq_true rfl) hroom _ rfl dL_law_542 [.int r] rfl ?_
    refine w_aload_n C dL_law_545 rfl 2 rfl ?_
    refine w_aload_n C dL_law_546 rfl 0 rfl ?_
    refine w_iload_n C dL_law_547 rfl 3 rfl ?_
    refine w_iconst C (x := 1) dL_law_548 rfl ?_
    refine w_iadd C (nI (a + 1)) (nI_add a 1) dL_law_549 ?_
    refine w_sld C (a + 1) rfl (by omega) hLL dL_law_550 ?_
    refine w_aload_n C dL_law_551 rfl 0 rfl ?_
    refine w_iload_n C dL_law_552 rfl 3 rfl ?_
    refine w_iconst C (x := 2) dL_law_553 rfl ?_
    refine w_iadd C (nI (a + 2)) (nI_add a 2) dL_law_554 ?_
    refine w_sld C (a + 2) rfl (by omega) hLL dL_law_555 ?_
    refine w_ifeq_t C (tgt := 563) hz2 dL_law_556 rfl ?_
    refine w_iconst C (x := 0) dL_law_563 rfl ?_
    refine w_aload_n C dL_law_564 rfl 0 rfl ?_
    refine w_iload_n C dL_law_565 rfl 3 rfl ?_
    refine w_iconst C (x := 3) dL_law_566 rfl ?_
    refine w_iadd C (nI (a + 3)) (nI_add a 3) dL_law_567 ?_
    refine w_sld C (a + 3) rfl (by omega) hLL dL_law_568 ?_
    refine w_call C (As := [.int (xs (a + 1)), .int 0, .int (xs (a + 3))]) (st := [.int r]) (eX6_setScheduler C.2.2.2.2.2.2.2.2.2.1 h2) cvL_45 (Nat.le_of_ble_eq_true rfl) (ok_e30 C.2.2.2.2.2.2.2.2.2.1) rfl (Nat.le_of_ble_eq_true rfl) hroom _ rfl dL_law_569 [.int r, .int r] rfl ?_
    refine w_eq_t C (tgt := 1871) rfl dL_law_572 rfl ?_
    exact hnext σ2 hI
  · skip
    obtain ⟨r, σ1, σ2, h1, h2, hI⟩ := hOK n σ (xs (a + 1)) 1 (xs (a + 3)) hI0 hn rfl
    refine w_aload_n C dL_law_518 rfl 1 rfl ?_
    refine w_aload_n C dL_law_519 rfl 0 rfl ?_
    refine w_iload_n C dL_law_520 rfl 3 rfl ?_
    refine w_iconst C (x := 1) dL_law_521 rfl ?_
    refine w_iadd C (nI (a + 1)) (nI_add a 1) dL_law_522 ?_
    refine w_sld C (a + 1) rfl (by omega) hLL dL_law_523 ?_
    refine w_aload_n C dL_law_524 rfl 0 rfl ?_
    refine w_iload_n C dL_law_525 rfl 3 rfl ?_
    refine w_iconst C (x := 2) dL_law_526 rfl ?_
    refine w_iadd C (nI (a + 2)) (nI_add a 2) dL_law_527 ?_
    refine w_sld C (a + 2) rfl (by omega) hLL dL_law_528 ?_
    refine w_ifeq_f C (tgt := 536) hz2 dL_law_529 rfl ?_
    refine w_iconst C (x := 1) dL_law_532 rfl ?_
    refine w_goto C (tgt := 537) dL_law_533 rfl ?_
    refine w_aload_n C dL_law_537 rfl 0 rfl ?_
    refine w_iload_n C dL_law_538 rfl 3 rfl ?_
    refine w_iconst C (x := 3) dL_law_539 rfl ?_
    refine w_iadd C (nI (a + 3)) (nI_add a 3) dL_law_540 ?_
    refine w_sld C (a + 3) rfl (by omega) hLL dL_law_541 ?_
    refine w_call C (As := [.int (xs (a + 1)), .int 1, .int (xs (a + 3))]) (st := []) (eX5_setScheduler h1) cvL_41 (Nat.le_of_ble_eq_true rfl) ok_e20 rfl (Nat.le_of_ble_eq_true rfl) hroom _ rfl dL_law_542 [.int r] rfl ?_
    refine w_aload_n C dL_law_545 rfl 2 rfl ?_
    refine w_aload_n C dL_law_546 rfl 0 rfl ?_
    refine w_iload_n C dL_law_547 rfl 3 rfl ?_
    refine w_iconst C (x := 1) dL_law_548 rfl ?_
    refine w_iadd C (nI (a + 1)) (nI_add a 1) dL_law_549 ?_
    refine w_sld C (a + 1) rfl (by omega) hLL dL_law_550 ?_
    refine w_aload_n C dL_law_551 rfl 0 rfl ?_
    refine w_iload_n C dL_law_552 rfl 3 rfl ?_
    refine w_iconst C (x := 2) dL_law_553 rfl ?_
    refine w_iadd C (nI (a + 2)) (nI_add a 2) dL_law_554 ?_
    refine w_sld C (a + 2) rfl (by omega) hLL dL_law_555 ?_
    refine w_ifeq_f C (tgt := 563) hz2 dL_law_556 rfl ?_
    refine w_iconst C (x := 1) dL_law_559 rfl ?_
    refine w_goto C (tgt := 564) dL_law_560 rfl ?_
    refine w_aload_n C dL_law_564 rfl 0 rfl ?_
    refine w_iload_n C dL_law_565 rfl 3 rfl ?_
    refine w_iconst C (x := 3) dL_law_566 rfl ?_
    refine w_iadd C (nI (a + 3)) (nI_add a 3) dL_law_567 ?_
    refine w_sld C (a + 3) rfl (by omega) hLL dL_law_568 ?_
    refine w_call C (As := [.int (xs (a + 1)), .int 1, .int (xs (a + 3))]) (st := [.int r]) (eX6_setScheduler C.2.2.2.2.2.2.2.2.2.1 h2) cvL_45 (Nat.le_of_ble_eq_true rfl) (ok_e30 C.2.2.2.2.2.2.2.2.2.1) rfl (Nat.le_of_ble_eq_true rfl) hroom _ rfl dL_law_569 [.int r, .int r] rfl ?_
    refine w_eq_t C (tgt := 1871) rfl dL_law_572 rfl ?_
    exact hnext σ2 hI
set_option maxRecDepth 100000 in
set_option maxHeartbeats 4000000 in
theorem wc7 {l : Launch} {w : xW} {p : Program} {e : Env} {s : State} {m : MethodId} {below : List Frame} {meth : Method} {c : Code} {b LL : Nat} {xs : Nat → Int32} {Q : State → Prop} {kc ns a n : Nat} {σ : xS} {Inv : Nat → xS → Prop} (hOK : xP7 Inv) (C : wAmb w p s m c b LL xs) (hLL : LL < 2 ^ 31) (ha : a + 4 < LL) (hroom : kc ≤ 600000 ∧ ns ≤ 7302250) (hI0 : Inv n σ) (hn : n < 512) (hnext : ∀ σ2, Inv (n + 1) σ2 → wAt l w p e s m below meth c b Q kc ns 1871 [(0, .ref b), (1, .ref (w.2.2 4 20 0 0)), (2, .ref (w.2.2 5 30 0 0)), (3, .int (nI a))] [] σ2) : wAt l w p e s m below meth c b Q kc ns 577 [(0, .ref b), (1, .ref (w.2.2 4 20 0 0)), (2, .ref (w.2.2 5 30 0 0)), (3, .int (nI a))] [] σ := by
  obtain ⟨r, σ1, σ2, h1, h2, hI⟩ := hOK n σ (xs (a + 1)) (xs (a + 2)) (xs (a + 3)) hI0 hn
  refine w_aload_n C dL_law_577 rfl 1 rfl ?_
  refine w_aload_n C dL_law_578 rfl 0 rfl ?_
  refine w_iload_n C dL_law_579 rfl 3 rfl ?_
  refine w_iconst C (x := 1) dL_law_580 rfl ?_
  refine w_iadd C (nI (a + 1)) (nI_add a 1) dL_law_581 ?_
  refine w_sld C (a + 1) rfl (by omega) hLL dL_law_582 ?_
  refine w_aload_n C dL_law_583 rfl 0 rfl ?_
  refine w_iload_n C dL_law_584 rfl 3 rfl ?_
  refine w_iconst C (x := 2) dL_law_585 rfl ?_
  refine w_iadd C (nI (a + 2)) (nI_add a 2) dL_law_586 ?_
  refine w_sld C (a + 2) rfl (by omega) hLL dL_law_587 ?_
  refine w_aload_n C dL_law_588 rfl 0 rfl ?_
  refine w_iload_n C dL_law_589 rfl 3 rfl ?_
  refine w_iconst C (x := 3) dL_law_590 rfl ?_
  refine w_iadd C (nI (a + 3)) (nI_add a 3) dL_law_591 ?_
  refine w_sld C (a + 3) rfl (by omega) hLL dL_law_592 ?_
  refine w_call C (As := [.int (xs (a + 1)), .int (xs (a + 2)), .int (xs (a + 3))]) (st := []) (eX5_setQuantum h1) cvL_46 (Nat.le_of_ble_eq_true rfl) ok_e20 rfl (Nat.le_of_ble_eq_true rfl) hroom _ rfl dL_law_593 [.int r] rfl ?_
  refine w_aload_n C dL_law_596 rfl 2 rfl ?_
  refine w_aload_n C dL_law_597 rfl 0 rfl ?_
  refine w_iload_n C dL_law_598 rfl 3 rfl ?_
  refine w_iconst C (x := 1) dL_law_599 rfl ?_
  refine w_iadd C (nI (a + 1)) (nI_add a 1) dL_law_600 ?_
  refine w_sld C (a + 1) rfl (by omega) hLL dL_law_601 ?_
  refine w_aload_n C dL_law_602 rfl 0 rfl ?_
  refine w_iload_n C dL_law_603 rfl 3 rfl ?_
  refine w_iconst C (x := 2) dL_law_604 rfl ?_
  refine w_iadd C (nI (a + 2)) (nI_add a 2) dL_law_605 ?_
  refine w_sld C (a + 2) rfl (by omega) hLL dL_law_606 ?_
  refine w_aload_n C dL_law_607 rfl 0 rfl ?_
  refine w_iload_n C dL_law_608 rfl 3 rfl ?_
  refine w_iconst C (x := 3) dL_law_609 rfl ?_
  refine w_iadd C (nI (a + 3)) (nI_add a 3) dL_law_610 ?_
  refine w_sld C (a + 3) rfl (by omega) hLL dL_law_611 ?_
  refine w_call C (As := [.int (xs (a + 1)), .int (xs (a + 2)), .int (xs (a + 3))]) (st := [.int r]) (eX6_setQuantum C.2.2.2.2.2.2.2.2.2.1 h2) cvL_49 (Nat.le_of_ble_eq_true rfl) (ok_e30 C.2.2.2.2.2.2.2.2.2.1) rfl (Nat.le_of_ble_eq_true rfl) hroom _ rfl dL_law_612 [.int r, .int r] rfl ?_
  refine w_eq_t C (tgt := 1871) rfl dL_law_615 rfl ?_
  exact hnext σ2 hI
set_option maxRecDepth 100000 in
set_option maxHeartbeats 4000000 in
theorem wc8 {l : Launch} {w : xW} {p : Program} {e : Env} {s : State} {m : MethodId} {below : List Frame} {meth : Method} {c : Code} {b LL : Nat} {xs : Nat → Int32} {Q : State → Prop} {kc ns a n : Nat} {σ : xS} {Inv : Nat → xS → Prop} (hOK : xP8 Inv) (C : wAmb w p s m c b LL xs) (hLL : LL < 2 ^ 31) (ha : a + 4 < LL) (hroom : kc ≤ 600000 ∧ ns ≤ 7302250) (hI0 : Inv n σ) (hn : n < 512) (hnext : ∀ σ2, Inv (n + 1) σ2 → wAt l w p e s m below meth c b Q kc ns 1871 [(0, .ref b), (1, .ref (w.2.2 4 20 0 0)), (2, .ref (w.2.2 5 30 0 0)), (3, .int (nI a))] [] σ2) : wAt l w p e s m below meth c b Q kc ns 620 [(0, .ref b), (1, .ref (w.2.2 4 20 0 0)), (2, .ref (w.2.2 5 30 0 0)), (3, .int (nI a))] [] σ := by
  by_cases hz1 : xs (a + 1) = 0
  · skip
    obtain ⟨r, σ1, σ2, h1, h2, hI⟩ := hOK n σ 0 hI0 hn rfl
    refine w_aload_n C dL_law_620 rfl 1 rfl ?_
    refine w_aload_n C dL_law_621 rfl 0 rfl ?_
    refine w_iload_n C dL_law_622 rfl 3 rfl ?_
    refine w_iconst C (x := 1) dL_law_623 rfl ?_
    refine w_iadd C (nI (a + 1)) (nI_add a 1) dL_law_624 ?_
    refine w_sld C (a + 1) rfl (by omega) hLL dL_law_625 ?_
    refine w_ifeq_t C (tgt := 633) hz1 dL_law_626 rfl ?_
    refine w_iconst C (x := 0) dL_law_633 rfl ?_
    refine w_call C (As := [.int 0]) (st := []) (eX5_setPushOut h1) cvL_50 (Nat.le_of_ble_eq_true rfl) ok_e20 rfl (Nat.le_of_ble_eq_true rfl) hroom _ rfl dL_law_634 [.int r] rfl ?_
    refine w_aload_n C dL_law_637 rfl 2 rfl ?_
    refine w_aload_n C dL_law_638 rfl 0 rfl ?_
    refine w_iload_n C dL_law_639 rfl 3 rfl ?_
    refine w_iconst C (x := 1) dL_law_640 rfl ?_
    refine w_iadd C (nI (a + 1)) (nI_add a 1) dL_law_641 ?_
    refine w_sld C (a + 1) rfl (by omega) hLL dL_law_642 ?_
    refine w_ifeq_t C (tgt := 650) hz1 dL_law_643 rfl ?_
    refine w_iconst C (x := 0) dL_law_650 rfl ?_
    refine w_call C (As := [.int 0]) (st := [.int r]) (eX6_setPushOut C.2.2.2.2.2.2.2.2.2.1 h2) cvL_54 (Nat.le_of_ble_eq_true rfl) (ok_e30 C.2.2.2.2.2.2.2.2.2.1) rfl (Nat.le_of_ble_eq_true rfl) hroom _ rfl dL_law_651 [.int r, .int r] rfl ?_
    refine w_eq_t C (tgt := 1871) rfl dL_law_654 rfl ?_
    exact hnext σ2 hI
  · skip
    obtain ⟨r, σ1, σ2, h1, h2, hI⟩ := hOK n σ 1 hI0 hn rfl
    refine w_aload_n C dL_law_620 rfl 1 rfl ?_
    refine w_aload_n C dL_law_621 rfl 0 rfl ?_
    refine w_iload_n C dL_law_622 rfl 3 rfl ?_
    refine w_iconst C (x := 1) dL_law_623 rfl ?_
    refine w_iadd C (nI (a + 1)) (nI_add a 1) dL_law_624 ?_
    refine w_sld C (a + 1) rfl (by omega) hLL dL_law_625 ?_
    refine w_ifeq_f C (tgt := 633) hz1 dL_law_626 rfl ?_
    refine w_iconst C (x := 1) dL_law_629 rfl ?_
    refine w_goto C (tgt := 634) dL_law_630 rfl ?_
    refine w_call C (As := [.int 1]) (st := []) (eX5_setPushOut h1) cvL_50 (Nat.le_of_ble_eq_true rfl) ok_e20 rfl (Nat.le_of_ble_eq_true rfl) hroom _ rfl dL_law_634 [.int r] rfl ?_
    refine w_aload_n C dL_law_637 rfl 2 rfl ?_
    refine w_aload_n C dL_law_638 rfl 0 rfl ?_
    refine w_iload_n C dL_law_639 rfl 3 rfl ?_
    refine w_iconst C (x := 1) dL_law_640 rfl ?_
    refine w_iadd C (nI (a + 1)) (nI_add a 1) dL_law_641 ?_
    refine w_sld C (a + 1) rfl (by omega) hLL dL_law_642 ?_
    refine w_ifeq_f C (tgt := 650) hz1 dL_law_643 rfl ?_
    refine w_iconst C (x := 1) dL_law_646 rfl ?_
    refine w_goto C (tgt := 651) dL_law_647 rfl ?_
    refine w_call C (As := [.int 1]) (st := [.int r]) (eX6_setPushOut C.2.2.2.2.2.2.2.2.2.1 h2) cvL_54 (Nat.le_of_ble_eq_true rfl) (ok_e30 C.2.2.2.2.2.2.2.2.2.1) rfl (Nat.le_of_ble_eq_true rfl) hroom _ rfl dL_law_651 [.int r, .int r] rfl ?_
    refine w_eq_t C (tgt := 1871) rfl dL_law_654 rfl ?_
    exact hnext σ2 hI
set_option maxRecDepth 100000 in
set_option maxHeartbeats 4000000 in
theorem wc9 {l : Launch} {w : xW} {p : Program} {e : Env} {s : State} {m : MethodId} {below : List Frame} {meth : Method} {c : Code} {b LL : Nat} {xs : Nat → Int32} {Q : State → Prop} {kc ns a n : Nat} {σ : xS} {Inv : Nat → xS → Prop} (hOK : xP9 Inv) (C : wAmb w p s m c b LL xs) (hLL : LL < 2 ^ 31) (ha : a + 4 < LL) (hroom : kc ≤ 600000 ∧ ns ≤ 7302250) (hI0 : Inv n σ) (hn : n < 512) (hnext : ∀ σ2, Inv (n + 1) σ2 → wAt l w p e s m below meth c b Q kc ns 1871 [(0, .ref b), (1, .ref (w.2.2 4 20 0 0)), (2, .ref (w.2.2 5 30 0 0)), (3, .int (nI a))] [] σ2) : wAt l w p e s m below meth c b Q kc ns 659 [(0, .ref b), (1, .ref (w.2.2 4 20 0 0)), (2, .ref (w.2.2 5 30 0 0)), (3, .int (nI a))] [] σ := by
  obtain ⟨r, σ1, σ2, h1, h2, hI⟩ := hOK n σ (xs (a + 1)) (xs (a + 2)) hI0 hn
  refine w_aload_n C dL_law_659 rfl 1 rfl ?_
  refine w_aload_n C dL_law_660 rfl 0 rfl ?_
  refine w_iload_n C dL_law_661 rfl 3 rfl ?_
  refine w_iconst C (x := 1) dL_law_662 rfl ?_
  refine w_iadd C (nI (a + 1)) (nI_add a 1) dL_law_663 ?_
  refine w_sld C (a + 1) rfl (by omega) hLL dL_law_664 ?_
  refine w_aload_n C dL_law_665 rfl 0 rfl ?_
  refine w_iload_n C dL_law_666 rfl 3 rfl ?_
  refine w_iconst C (x := 2) dL_law_667 rfl ?_
  refine w_iadd C (nI (a + 2)) (nI_add a 2) dL_law_668 ?_
  refine w_sld C (a + 2) rfl (by omega) hLL dL_law_669 ?_
  refine w_call C (As := [.int (xs (a + 1)), .int (xs (a + 2))]) (st := []) (eX5_grant h1) cvL_55 (Nat.le_of_ble_eq_true rfl) ok_e20 rfl (Nat.le_of_ble_eq_true rfl) hroom _ rfl dL_law_670 [.int r] rfl ?_
  refine w_aload_n C dL_law_673 rfl 2 rfl ?_
  refine w_aload_n C dL_law_674 rfl 0 rfl ?_
  refine w_iload_n C dL_law_675 rfl 3 rfl ?_
  refine w_iconst C (x := 1) dL_law_676 rfl ?_
  refine w_iadd C (nI (a + 1)) (nI_add a 1) dL_law_677 ?_
  refine w_sld C (a + 1) rfl (by omega) hLL dL_law_678 ?_
  refine w_aload_n C dL_law_679 rfl 0 rfl ?_
  refine w_iload_n C dL_law_680 rfl 3 rfl ?_
  refine w_iconst C (x := 2) dL_law_681 rfl ?_
  refine w_iadd C (nI (a + 2)) (nI_add a 2) dL_law_682 ?_
  refine w_sld C (a + 2) rfl (by omega) hLL dL_law_683 ?_
  refine w_call C (As := [.int (xs (a + 1)), .int (xs (a + 2))]) (st := [.int r]) (eX6_grant C.2.2.2.2.2.2.2.2.2.1 h2) cvL_58 (Nat.le_of_ble_eq_true rfl) (ok_e30 C.2.2.2.2.2.2.2.2.2.1) rfl (Nat.le_of_ble_eq_true rfl) hroom _ rfl dL_law_684 [.int r, .int r] rfl ?_
  refine w_eq_t C (tgt := 1871) rfl dL_law_687 rfl ?_
  exact hnext σ2 hI
set_option maxRecDepth 100000 in
set_option maxHeartbeats 4000000 in
theorem wc10 {l : Launch} {w : xW} {p : Program} {e : Env} {s : State} {m : MethodId} {below : List Frame} {meth : Method} {c : Code} {b LL : Nat} {xs : Nat → Int32} {Q : State → Prop} {kc ns a n : Nat} {σ : xS} {Inv : Nat → xS → Prop} (hOK : xP10 Inv) (C : wAmb w p s m c b LL xs) (hLL : LL < 2 ^ 31) (ha : a + 4 < LL) (hroom : kc ≤ 600000 ∧ ns ≤ 7302250) (hI0 : Inv n σ) (hn : n < 512) (hnext : ∀ σ2, Inv (n + 1) σ2 → wAt l w p e s m below meth c b Q kc ns 1871 [(0, .ref b), (1, .ref (w.2.2 4 20 0 0)), (2, .ref (w.2.2 5 30 0 0)), (3, .int (nI a))] [] σ2) : wAt l w p e s m below meth c b Q kc ns 692 [(0, .ref b), (1, .ref (w.2.2 4 20 0 0)), (2, .ref (w.2.2 5 30 0 0)), (3, .int (nI a))] [] σ := by
  obtain ⟨r, σ1, σ2, h1, h2, hI⟩ := hOK n σ (xs (a + 1)) hI0 hn
  refine w_aload_n C dL_law_692 rfl 1 rfl ?_
  refine w_aload_n C dL_law_693 rfl 0 rfl ?_
  refine w_iload_n C dL_law_694 rfl 3 rfl ?_
  refine w_iconst C (x := 1) dL_law_695 rfl ?_
  refine w_iadd C (nI (a + 1)) (nI_add a 1) dL_law_696 ?_
  refine w_sld C (a + 1) rfl (by omega) hLL dL_law_697 ?_
  refine w_call C (As := [.int (xs (a + 1))]) (st := []) (eX5_withdraw h1) cvL_59 (Nat.le_of_ble_eq_true rfl) ok_e20 rfl (Nat.le_of_ble_eq_true rfl) hroom _ rfl dL_law_698 [.int r] rfl ?_
  refine w_aload_n C dL_law_701 rfl 2 rfl ?_
  refine w_aload_n C dL_law_702 rfl 0 rfl ?_
  refine w_iload_n C dL_law_703 rfl 3 rfl ?_
  refine w_iconst C (x := 1) dL_law_704 rfl ?_
  refine w_iadd C (nI (a + 1)) (nI_add a 1) dL_law_705 ?_
  refine w_sld C (a + 1) rfl (by omega) hLL dL_law_706 ?_
  refine w_call C (As := [.int (xs (a + 1))]) (st := [.int r]) (eX6_withdraw C.2.2.2.2.2.2.2.2.2.1 h2) cvL_63 (Nat.le_of_ble_eq_true rfl) (ok_e30 C.2.2.2.2.2.2.2.2.2.1) rfl (Nat.le_of_ble_eq_true rfl) hroom _ rfl dL_law_707 [.int r, .int r] rfl ?_
  refine w_eq_t C (tgt := 1871) rfl dL_law_710 rfl ?_
  exact hnext σ2 hI
set_option maxRecDepth 100000 in
set_option maxHeartbeats 4000000 in
theorem wc11 {l : Launch} {w : xW} {p : Program} {e : Env} {s : State} {m : MethodId} {below : List Frame} {meth : Method} {c : Code} {b LL : Nat} {xs : Nat → Int32} {Q : State → Prop} {kc ns a n : Nat} {σ : xS} {Inv : Nat → xS → Prop} (hOK : xP11 Inv) (C : wAmb w p s m c b LL xs) (hLL : LL < 2 ^ 31) (ha : a + 4 < LL) (hroom : kc ≤ 600000 ∧ ns ≤ 7302250) (hI0 : Inv n σ) (hn : n < 512) (hnext : ∀ σ2, Inv (n + 1) σ2 → wAt l w p e s m below meth c b Q kc ns 1871 [(0, .ref b), (1, .ref (w.2.2 4 20 0 0)), (2, .ref (w.2.2 5 30 0 0)), (3, .int (nI a))] [] σ2) : wAt l w p e s m below meth c b Q kc ns 715 [(0, .ref b), (1, .ref (w.2.2 4 20 0 0)), (2, .ref (w.2.2 5 30 0 0)), (3, .int (nI a))] [] σ := by
  obtain ⟨r, σ1, σ2, h1, h2, hI⟩ := hOK n σ (xs (a + 1)) (xs (a + 2)) (xs (a + 3)) hI0 hn
  refine w_aload_n C dL_law_715 rfl 1 rfl ?_
  refine w_aload_n C dL_law_716 rfl 0 rfl ?_
  refine w_iload_n C dL_law_717 rfl 3 rfl ?_
  refine w_iconst C (x := 1) dL_law_718 rfl ?_
  refine w_iadd C (nI (a + 1)) (nI_add a 1) dL_law_719 ?_
  refine w_sld C (a + 1) rfl (by omega) hLL dL_law_720 ?_
  refine w_aload_n C dL_law_721 rfl 0 rfl ?_
  refine w_iload_n C dL_law_722 rfl 3 rfl ?_
  refine w_iconst C (x := 2) dL_law_723 rfl ?_
  refine w_iadd C (nI (a + 2)) (nI_add a 2) dL_law_724 ?_
  refine w_sld C (a + 2) rfl (by omega) hLL dL_law_725 ?_
  refine w_aload_n C dL_law_726 rfl 0 rfl ?_
  refine w_iload_n C dL_law_727 rfl 3 rfl ?_
  refine w_iconst C (x := 3) dL_law_728 rfl ?_
  refine w_iadd C (nI (a + 3)) (nI_add a 3) dL_law_729 ?_
  refine w_sld C (a + 3) rfl (by omega) hLL dL_law_730 ?_
  refine w_call C (As := [.int (xs (a + 1)), .int (xs (a + 2)), .int (xs (a + 3))]) (st := []) (eX5_arrive h1) cvL_64 (Nat.le_of_ble_eq_true rfl) ok_e20 rfl (Nat.le_of_ble_eq_true rfl) hroom _ rfl dL_law_731 [.int r] rfl ?_
  refine w_aload_n C dL_law_734 rfl 2 rfl ?_
  refine w_aload_n C dL_law_735 rfl 0 rfl ?_
  refine w_iload_n C dL_law_736 rfl 3 rfl ?_
  refine w_iconst C (x := 1) dL_law_737 rfl ?_
  refine w_iadd C (nI (a + 1)) (nI_add a 1) dL_law_738 ?_
  refine w_sld C (a + 1) rfl (by omega) hLL dL_law_739 ?_
  refine w_aload_n C dL_law_740 rfl 0 rfl ?_
  refine w_iload_n C dL_law_741 rfl 3 rfl ?_
  refine w_iconst C (x := 2) dL_law_742 rfl ?_
  refine w_iadd C (nI (a + 2)) (nI_add a 2) dL_law_743 ?_
  refine w_sld C (a + 2) rfl (by omega) hLL dL_law_744 ?_
  refine w_aload_n C dL_law_745 rfl 0 rfl ?_
  refine w_iload_n C dL_law_746 rfl 3 rfl ?_
  refine w_iconst C (x := 3) dL_law_747 rfl ?_
  refine w_iadd C (nI (a + 3)) (nI_add a 3) dL_law_748 ?_
  refine w_sld C (a + 3) rfl (by omega) hLL dL_law_749 ?_
  refine w_call C (As := [.int (xs (a + 1)), .int (xs (a + 2)), .int (xs (a + 3))]) (st := [.int r]) (eX6_arrive C.2.2.2.2.2.2.2.2.2.1 h2) cvL_67 (Nat.le_of_ble_eq_true rfl) (ok_e30 C.2.2.2.2.2.2.2.2.2.1) rfl (Nat.le_of_ble_eq_true rfl) hroom _ rfl dL_law_750 [.int r, .int r] rfl ?_
  refine w_eq_t C (tgt := 1871) rfl dL_law_753 rfl ?_
  exact hnext σ2 hI
set_option maxRecDepth 100000 in
set_option maxHeartbeats 4000000 in
theorem wc12 {l : Launch} {w : xW} {p : Program} {e : Env} {s : State} {m : MethodId} {below : List Frame} {meth : Method} {c : Code} {b LL : Nat} {xs : Nat → Int32} {Q : State → Prop} {kc ns a n : Nat} {σ : xS} {Inv : Nat → xS → Prop} (hOK : xP12 Inv) (C : wAmb w p s m c b LL xs) (hLL : LL < 2 ^ 31) (ha : a + 4 < LL) (hroom : kc ≤ 600000 ∧ ns ≤ 7302250) (hI0 : Inv n σ) (hn : n < 512) (hnext : ∀ σ2, Inv (n + 1) σ2 → wAt l w p e s m below meth c b Q kc ns 1871 [(0, .ref b), (1, .ref (w.2.2 4 20 0 0)), (2, .ref (w.2.2 5 30 0 0)), (3, .int (nI a))] [] σ2) : wAt l w p e s m below meth c b Q kc ns 758 [(0, .ref b), (1, .ref (w.2.2 4 20 0 0)), (2, .ref (w.2.2 5 30 0 0)), (3, .int (nI a))] [] σ := by
  obtain ⟨r, σ1, σ2, h1, h2, hI⟩ := hOK n σ (xs (a + 1)) hI0 hn
  refine w_aload_n C dL_law_758 rfl 1 rfl ?_
  refine w_aload_n C dL_law_759 rfl 0 rfl ?_
  refine w_iload_n C dL_law_760 rfl 3 rfl ?_
  refine w_iconst C (x := 1) dL_law_761 rfl ?_
  refine w_iadd C (nI (a + 1)) (nI_add a 1) dL_law_762 ?_
  refine w_sld C (a + 1) rfl (by omega) hLL dL_law_763 ?_
  refine w_call C (As := [.int (xs (a + 1))]) (st := []) (eX5_ticks h1) cvL_68 (Nat.le_of_ble_eq_true rfl) ok_e20 rfl (Nat.le_of_ble_eq_true rfl) hroom _ rfl dL_law_764 [.int r] rfl ?_
  refine w_aload_n C dL_law_767 rfl 2 rfl ?_
  refine w_aload_n C dL_law_768 rfl 0 rfl ?_
  refine w_iload_n C dL_law_769 rfl 3 rfl ?_
  refine w_iconst C (x := 1) dL_law_770 rfl ?_
  refine w_iadd C (nI (a + 1)) (nI_add a 1) dL_law_771 ?_
  refine w_sld C (a + 1) rfl (by omega) hLL dL_law_772 ?_
  refine w_call C (As := [.int (xs (a + 1))]) (st := [.int r]) (eX6_ticks C.2.2.2.2.2.2.2.2.2.1 h2) cvL_71 (Nat.le_of_ble_eq_true rfl) (ok_e30 C.2.2.2.2.2.2.2.2.2.1) rfl (Nat.le_of_ble_eq_true rfl) hroom _ rfl dL_law_773 [.int r, .int r] rfl ?_
  refine w_eq_t C (tgt := 1871) rfl dL_law_776 rfl ?_
  exact hnext σ2 hI
set_option maxRecDepth 100000 in
set_option maxHeartbeats 4000000 in
theorem wc13 {l : Launch} {w : xW} {p : Program} {e : Env} {s : State} {m : MethodId} {below : List Frame} {meth : Method} {c : Code} {b LL : Nat} {xs : Nat → Int32} {Q : State → Prop} {kc ns a n : Nat} {σ : xS} {Inv : Nat → xS → Prop} (hOK : xP13 Inv) (C : wAmb w p s m c b LL xs) (hLL : LL < 2 ^ 31) (ha : a + 4 < LL) (hroom : kc ≤ 600000 ∧ ns ≤ 7302250) (hI0 : Inv n σ) (hn : n < 512) (hnext : ∀ σ2, Inv (n + 1) σ2 → wAt l w p e s m below meth c b Q kc ns 1871 [(0, .ref b), (1, .ref (w.2.2 4 20 0 0)), (2, .ref (w.2.2 5 30 0 0)), (3, .int (nI a))] [] σ2) : wAt l w p e s m below meth c b Q kc ns 781 [(0, .ref b), (1, .ref (w.2.2 4 20 0 0)), (2, .ref (w.2.2 5 30 0 0)), (3, .int (nI a))] [] σ := by
  obtain ⟨r, σ1, σ2, h1, h2, hI⟩ := hOK n σ (xs (a + 1)) hI0 hn
  refine w_aload_n C dL_law_781 rfl 1 rfl ?_
  refine w_aload_n C dL_law_782 rfl 0 rfl ?_
  refine w_iload_n C dL_law_783 rfl 3 rfl ?_
  refine w_iconst C (x := 1) dL_law_784 rfl ?_
  refine w_iadd C (nI (a + 1)) (nI_add a 1) dL_law_785 ?_
  refine w_sld C (a + 1) rfl (by omega) hLL dL_law_786 ?_
  refine w_call C (As := [.int (xs (a + 1))]) (st := []) (eX5_flush h1) cvL_72 (Nat.le_of_ble_eq_true rfl) ok_e20 rfl (Nat.le_of_ble_eq_true rfl) hroom _ rfl dL_law_787 [.int r] rfl ?_
  refine w_aload_n C dL_law_790 rfl 2 rfl ?_
  refine w_aload_n C dL_law_791 rfl 0 rfl ?_
  refine w_iload_n C dL_law_792 rfl 3 rfl ?_
  refine w_iconst C (x := 1) dL_law_793 rfl ?_
  refine w_iadd C (nI (a + 1)) (nI_add a 1) dL_law_794 ?_
  refine w_sld C (a + 1) rfl (by omega) hLL dL_law_795 ?_
  refine w_call C (As := [.int (xs (a + 1))]) (st := [.int r]) (eX6_flush C.2.2.2.2.2.2.2.2.2.1 h2) cvL_75 (Nat.le_of_ble_eq_true rfl) (ok_e30 C.2.2.2.2.2.2.2.2.2.1) rfl (Nat.le_of_ble_eq_true rfl) hroom _ rfl dL_law_796 [.int r, .int r] rfl ?_
  refine w_eq_t C (tgt := 1871) rfl dL_law_799 rfl ?_
  exact hnext σ2 hI
set_option maxRecDepth 100000 in
set_option maxHeartbeats 4000000 in
theorem wc14 {l : Launch} {w : xW} {p : Program} {e : Env} {s : State} {m : MethodId} {below : List Frame} {meth : Method} {c : Code} {b LL : Nat} {xs : Nat → Int32} {Q : State → Prop} {kc ns a n : Nat} {σ : xS} {Inv : Nat → xS → Prop} (hOK : xP14 Inv) (C : wAmb w p s m c b LL xs) (hLL : LL < 2 ^ 31) (ha : a + 4 < LL) (hroom : kc ≤ 600000 ∧ ns ≤ 7302250) (hI0 : Inv n σ) (hn : n < 512) (hnext : ∀ σ2, Inv (n + 1) σ2 → wAt l w p e s m below meth c b Q kc ns 1871 [(0, .ref b), (1, .ref (w.2.2 4 20 0 0)), (2, .ref (w.2.2 5 30 0 0)), (3, .int (nI a))] [] σ2) : wAt l w p e s m below meth c b Q kc ns 804 [(0, .ref b), (1, .ref (w.2.2 4 20 0 0)), (2, .ref (w.2.2 5 30 0 0)), (3, .int (nI a))] [] σ := by
  obtain ⟨r, σ1, σ2, h1, h2, hI⟩ := hOK n σ (xs (a + 1)) (xs (a + 2)) (xs (a + 3)) hI0 hn
  refine w_aload_n C dL_law_804 rfl 1 rfl ?_
  refine w_aload_n C dL_law_805 rfl 0 rfl ?_
  refine w_iload_n C dL_law_806 rfl 3 rfl ?_
  refine w_iconst C (x := 1) dL_law_807 rfl ?_
  refine w_iadd C (nI (a + 1)) (nI_add a 1) dL_law_808 ?_
  refine w_sld C (a + 1) rfl (by omega) hLL dL_law_809 ?_
  refine w_aload_n C dL_law_810 rfl 0 rfl ?_
  refine w_iload_n C dL_law_811 rfl 3 rfl ?_
  refine w_iconst C (x := 2) dL_law_812 rfl ?_
  refine w_iadd C (nI (a + 2)) (nI_add a 2) dL_law_813 ?_
  refine w_sld C (a + 2) rfl (by omega) hLL dL_law_814 ?_
  refine w_aload_n C dL_law_815 rfl 0 rfl ?_
  refine w_iload_n C dL_law_816 rfl 3 rfl ?_
  refine w_iconst C (x := 3) dL_law_817 rfl ?_
  refine w_iadd C (nI (a + 3)) (nI_add a 3) dL_law_818 ?_
  refine w_sld C (a + 3) rfl (by omega) hLL dL_law_819 ?_
  refine w_call C (As := [.int (xs (a + 1)), .int (xs (a + 2)), .int (xs (a + 3))]) (st := []) (eX5_traffic h1) cvL_76 (Nat.le_of_ble_eq_true rfl) ok_e20 rfl (Nat.le_of_ble_eq_true rfl) hroom _ rfl dL_law_820 [.int r] rfl ?_
  refine w_aload_n C dL_law_823 rfl 2 rfl ?_
  refine w_aload_n C dL_law_824 rfl 0 rfl ?_
  refine w_iload_n C dL_law_825 rfl 3 rfl ?_
  refine w_iconst C (x := 1) dL_law_826 rfl ?_
  refine w_iadd C (nI (a + 1)) (nI_add a 1) dL_law_827 ?_
  refine w_sld C (a + 1) rfl (by omega) hLL dL_law_828 ?_
  refine w_aload_n C dL_law_829 rfl 0 rfl ?_
  refine w_iload_n C dL_law_830 rfl 3 rfl ?_
  refine w_iconst C (x := 2) dL_law_831 rfl ?_
  refine w_iadd C (nI (a + 2)) (nI_add a 2) dL_law_832 ?_
  refine w_sld C (a + 2) rfl (by omega) hLL dL_law_833 ?_
  refine w_aload_n C dL_law_834 rfl 0 rfl ?_
  refine w_iload_n C dL_law_835 rfl 3 rfl ?_
  refine w_iconst C (x := 3) dL_law_836 rfl ?_
  refine w_iadd C (nI (a + 3)) (nI_add a 3) dL_law_837 ?_
  refine w_sld C (a + 3) rfl (by omega) hLL dL_law_838 ?_
  refine w_call C (As := [.int (xs (a + 1)), .int (xs (a + 2)), .int (xs (a + 3))]) (st := [.int r]) (eX6_traffic C.2.2.2.2.2.2.2.2.2.1 h2) cvL_79 (Nat.le_of_ble_eq_true rfl) (ok_e30 C.2.2.2.2.2.2.2.2.2.1) rfl (Nat.le_of_ble_eq_true rfl) hroom _ rfl dL_law_839 [.int r, .int r] rfl ?_
  refine w_eq_t C (tgt := 1871) rfl dL_law_842 rfl ?_
  exact hnext σ2 hI
set_option maxRecDepth 100000 in
set_option maxHeartbeats 4000000 in
theorem wc15 {l : Launch} {w : xW} {p : Program} {e : Env} {s : State} {m : MethodId} {below : List Frame} {meth : Method} {c : Code} {b LL : Nat} {xs : Nat → Int32} {Q : State → Prop} {kc ns a n : Nat} {σ : xS} {Inv : Nat → xS → Prop} (hOK : xP15 Inv) (C : wAmb w p s m c b LL xs) (hLL : LL < 2 ^ 31) (ha : a + 4 < LL) (hroom : kc ≤ 600000 ∧ ns ≤ 7302250) (hI0 : Inv n σ) (hn : n < 512) (hnext : ∀ σ2, Inv (n + 1) σ2 → wAt l w p e s m below meth c b Q kc ns 1871 [(0, .ref b), (1, .ref (w.2.2 4 20 0 0)), (2, .ref (w.2.2 5 30 0 0)), (3, .int (nI a))] [] σ2) : wAt l w p e s m below meth c b Q kc ns 847 [(0, .ref b), (1, .ref (w.2.2 4 20 0 0)), (2, .ref (w.2.2 5 30 0 0)), (3, .int (nI a))] [] σ := by
  obtain ⟨r, σ1, σ2, h1, h2, hI⟩ := hOK n σ hI0 hn
  refine w_aload_n C dL_law_847 rfl 1 rfl ?_
  refine w_call C (As := []) (st := []) (eX5_freeShared h1) cvL_80 (Nat.le_of_ble_eq_true rfl) ok_e20 rfl (Nat.le_of_ble_eq_true rfl) hroom _ rfl dL_law_848 [.int r] rfl ?_
  refine w_aload_n C dL_law_851 rfl 2 rfl ?_
  refine w_call C (As := []) (st := [.int r]) (eX6_freeShared C.2.2.2.2.2.2.2.2.2.1 h2) cvL_84 (Nat.le_of_ble_eq_true rfl) (ok_e30 C.2.2.2.2.2.2.2.2.2.1) rfl (Nat.le_of_ble_eq_true rfl) hroom _ rfl dL_law_852 [.int r, .int r] rfl ?_
  refine w_eq_t C (tgt := 1871) rfl dL_law_855 rfl ?_
  exact hnext σ2 hI
set_option maxRecDepth 100000 in
set_option maxHeartbeats 4000000 in
theorem wc16 {l : Launch} {w : xW} {p : Program} {e : Env} {s : State} {m : MethodId} {below : List Frame} {meth : Method} {c : Code} {b LL : Nat} {xs : Nat → Int32} {Q : State → Prop} {kc ns a n : Nat} {σ : xS} {Inv : Nat → xS → Prop} (hOK : xP16 Inv) (C : wAmb w p s m c b LL xs) (hLL : LL < 2 ^ 31) (ha : a + 4 < LL) (hroom : kc ≤ 600000 ∧ ns ≤ 7302250) (hI0 : Inv n σ) (hn : n < 512) (hnext : ∀ σ2, Inv (n + 1) σ2 → wAt l w p e s m below meth c b Q kc ns 1871 [(0, .ref b), (1, .ref (w.2.2 4 20 0 0)), (2, .ref (w.2.2 5 30 0 0)), (3, .int (nI a))] [] σ2) : wAt l w p e s m below meth c b Q kc ns 860 [(0, .ref b), (1, .ref (w.2.2 4 20 0 0)), (2, .ref (w.2.2 5 30 0 0)), (3, .int (nI a))] [] σ := by
  obtain ⟨r, σ1, σ2, h1, h2, hI⟩ := hOK n σ hI0 hn
  refine w_aload_n C dL_law_860 rfl 1 rfl ?_
  refine w_call C (As := []) (st := []) (eX5_sharedPool h1) cvL_85 (Nat.le_of_ble_eq_true rfl) ok_e20 rfl (Nat.le_of_ble_eq_true rfl) hroom _ rfl dL_law_861 [.int r] rfl ?_
  refine w_aload_n C dL_law_864 rfl 2 rfl ?_
  refine w_call C (As := []) (st := [.int r]) (eX6_sharedPool C.2.2.2.2.2.2.2.2.2.1 h2) cvL_88 (Nat.le_of_ble_eq_true rfl) (ok_e30 C.2.2.2.2.2.2.2.2.2.1) rfl (Nat.le_of_ble_eq_true rfl) hroom _ rfl dL_law_865 [.int r, .int r] rfl ?_
  refine w_eq_t C (tgt := 1871) rfl dL_law_868 rfl ?_
  exact hnext σ2 hI
set_option maxRecDepth 100000 in
set_option maxHeartbeats 4000000 in
theorem wc17 {l : Launch} {w : xW} {p : Program} {e : Env} {s : State} {m : MethodId} {below : List Frame} {meth : Method} {c : Code} {b LL : Nat} {xs : Nat → Int32} {Q : State → Prop} {kc ns a n : Nat} {σ : xS} {Inv : Nat → xS → Prop} (hOK : xP17 Inv) (C : wAmb w p s m c b LL xs) (hLL : LL < 2 ^ 31) (ha : a + 4 < LL) (hroom : kc ≤ 600000 ∧ ns ≤ 7302250) (hI0 : Inv n σ) (hn : n < 512) (hnext : ∀ σ2, Inv (n + 1) σ2 → wAt l w p e s m below meth c b Q kc ns 1871 [(0, .ref b), (1, .ref (w.2.2 4 20 0 0)), (2, .ref (w.2.2 5 30 0 0)), (3, .int (nI a))] [] σ2) : wAt l w p e s m below meth c b Q kc ns 873 [(0, .ref b), (1, .ref (w.2.2 4 20 0 0)), (2, .ref (w.2.2 5 30 0 0)), (3, .int (nI a))] [] σ := by
  obtain ⟨r, σ1, σ2, h1, h2, hI⟩ := hOK n σ (xs (a + 1)) hI0 hn
  refine w_aload_n C dL_law_873 rfl 1 rfl ?_
  refine w_aload_n C dL_law_874 rfl 0 rfl ?_
  refine w_iload_n C dL_law_875 rfl 3 rfl ?_
  refine w_iconst C (x := 1) dL_law_876 rfl ?_
  refine w_iadd C (nI (a + 1)) (nI_add a 1) dL_law_877 ?_
  refine w_sld C (a + 1) rfl (by omega) hLL dL_law_878 ?_
  refine w_call C (As := [.int (xs (a + 1))]) (st := []) (eX5_freeGuarantee h1) cvL_89 (Nat.le_of_ble_eq_true rfl) ok_e20 rfl (Nat.le_of_ble_eq_true rfl) hroom _ rfl dL_law_879 [.int r] rfl ?_
  refine w_aload_n C dL_law_882 rfl 2 rfl ?_
  refine w_aload_n C dL_law_883 rfl 0 rfl ?_
  refine w_iload_n C dL_law_884 rfl 3 rfl ?_
  refine w_iconst C (x := 1) dL_law_885 rfl ?_
  refine w_iadd C (nI (a + 1)) (nI_add a 1) dL_law_886 ?_
  refine w_sld C (a + 1) rfl (by omega) hLL dL_law_887 ?_
  refine w_call C (As := [.int (xs (a + 1))]) (st := [.int r]) (eX6_freeGuarantee C.2.2.2.2.2.2.2.2.2.1 h2) cvL_92 (Nat.le_of_ble_eq_true rfl) (ok_e30 C.2.2.2.2.2.2.2.2.2.1) rfl (Nat.le_of_ble_eq_true rfl) hroom _ rfl dL_law_888 [.int r, .int r] rfl ?_
  refine w_eq_t C (tgt := 1871) rfl dL_law_891 rfl ?_
  exact hnext σ2 hI
set_option maxRecDepth 100000 in
set_option maxHeartbeats 4000000 in
theorem wc18 {l : Launch} {w : xW} {p : Program} {e : Env} {s : State} {m : MethodId} {below : List Frame} {meth : Method} {c : Code} {b LL : Nat} {xs : Nat → Int32} {Q : State → Prop} {kc ns a n : Nat} {σ : xS} {Inv : Nat → xS → Prop} (hOK : xP18 Inv) (C : wAmb w p s m c b LL xs) (hLL : LL < 2 ^ 31) (ha : a + 4 < LL) (hroom : kc ≤ 600000 ∧ ns ≤ 7302250) (hI0 : Inv n σ) (hn : n < 512) (hnext : ∀ σ2, Inv (n + 1) σ2 → wAt l w p e s m below meth c b Q kc ns 1871 [(0, .ref b), (1, .ref (w.2.2 4 20 0 0)), (2, .ref (w.2.2 5 30 0 0)), (3, .int (nI a))] [] σ2) : wAt l w p e s m below meth c b Q kc ns 896 [(0, .ref b), (1, .ref (w.2.2 4 20 0 0)), (2, .ref (w.2.2 5 30 0 0)), (3, .int (nI a))] [] σ := by
  obtain ⟨r, σ1, σ2, h1, h2, hI⟩ := hOK n σ (xs (a + 1)) hI0 hn
  refine w_aload_n C dL_law_896 rfl 1 rfl ?_
  refine w_aload_n C dL_law_897 rfl 0 rfl ?_
  refine w_iload_n C dL_law_898 rfl 3 rfl ?_
  refine w_iconst C (x := 1) dL_law_899 rfl ?_
  refine w_iadd C (nI (a + 1)) (nI_add a 1) dL_law_900 ?_
  refine w_sld C (a + 1) rfl (by omega) hLL dL_law_901 ?_
  refine w_call C (As := [.int (xs (a + 1))]) (st := []) (eX5_grantOf h1) cvL_93 (Nat.le_of_ble_eq_true rfl) ok_e20 rfl (Nat.le_of_ble_eq_true rfl) hroom _ rfl dL_law_902 [.int r] rfl ?_
  refine w_aload_n C dL_law_905 rfl 2 rfl ?_
  refine w_aload_n C dL_law_906 rfl 0 rfl ?_
  refine w_iload_n C dL_law_907 rfl 3 rfl ?_
  refine w_iconst C (x := 1) dL_law_908 rfl ?_
  refine w_iadd C (nI (a + 1)) (nI_add a 1) dL_law_909 ?_
  refine w_sld C (a + 1) rfl (by omega) hLL dL_law_910 ?_
  refine w_call C (As := [.int (xs (a + 1))]) (st := [.int r]) (eX6_grantOf C.2.2.2.2.2.2.2.2.2.1 h2) cvL_96 (Nat.le_of_ble_eq_true rfl) (ok_e30 C.2.2.2.2.2.2.2.2.2.1) rfl (Nat.le_of_ble_eq_true rfl) hroom _ rfl dL_law_911 [.int r, .int r] rfl ?_
  refine w_eq_t C (tgt := 1871) rfl dL_law_914 rfl ?_
  exact hnext σ2 hI
set_option maxRecDepth 100000 in
set_option maxHeartbeats 4000000 in
theorem wc19 {l : Launch} {w : xW} {p : Program} {e : Env} {s : State} {m : MethodId} {below : List Frame} {meth : Method} {c : Code} {b LL : Nat} {xs : Nat → Int32} {Q : State → Prop} {kc ns a n : Nat} {σ : xS} {Inv : Nat → xS → Prop} (hOK : xP19 Inv) (C : wAmb w p s m c b LL xs) (hLL : LL < 2 ^ 31) (ha : a + 4 < LL) (hroom : kc ≤ 600000 ∧ ns ≤ 7302250) (hI0 : Inv n σ) (hn : n < 512) (hnext : ∀ σ2, Inv (n + 1) σ2 → wAt l w p e s m below meth c b Q kc ns 1871 [(0, .ref b), (1, .ref (w.2.2 4 20 0 0)), (2, .ref (w.2.2 5 30 0 0)), (3, .int (nI a))] [] σ2) : wAt l w p e s m below meth c b Q kc ns 919 [(0, .ref b), (1, .ref (w.2.2 4 20 0 0)), (2, .ref (w.2.2 5 30 0 0)), (3, .int (nI a))] [] σ := by
  obtain ⟨r, σ1, σ2, h1, h2, hI⟩ := hOK n σ (xs (a + 1)) (xs (a + 2)) hI0 hn
  refine w_aload_n C dL_law_919 rfl 1 rfl ?_
  refine w_aload_n C dL_law_920 rfl 0 rfl ?_
  refine w_iload_n C dL_law_921 rfl 3 rfl ?_
  refine w_iconst C (x := 1) dL_law_922 rfl ?_
  refine w_iadd C (nI (a + 1)) (nI_add a 1) dL_law_923 ?_
  refine w_sld C (a + 1) rfl (by omega) hLL dL_law_924 ?_
  refine w_aload_n C dL_law_925 rfl 0 rfl ?_
  refine w_iload_n C dL_law_926 rfl 3 rfl ?_
  refine w_iconst C (x := 2) dL_law_927 rfl ?_
  refine w_iadd C (nI (a + 2)) (nI_add a 2) dL_law_928 ?_
  refine w_sld C (a + 2) rfl (by omega) hLL dL_law_929 ?_
  refine w_call C (As := [.int (xs (a + 1)), .int (xs (a + 2))]) (st := []) (eX5_threshold h1) cvL_97 (Nat.le_of_ble_eq_true rfl) ok_e20 rfl (Nat.le_of_ble_eq_true rfl) hroom _ rfl dL_law_930 [.int r] rfl ?_
  refine w_aload_n C dL_law_933 rfl 2 rfl ?_
  refine w_aload_n C dL_law_934 rfl 0 rfl ?_
  refine w_iload_n C dL_law_935 rfl 3 rfl ?_
  refine w_iconst C (x := 1) dL_law_936 rfl ?_
  refine w_iadd C (nI (a + 1)) (nI_add a 1) dL_law_937 ?_
  refine w_sld C (a + 1) rfl (by omega) hLL dL_law_938 ?_
  refine w_aload_n C dL_law_939 rfl 0 rfl ?_
  refine w_iload_n C dL_law_940 rfl 3 rfl ?_
  refine w_iconst C (x := 2) dL_law_941 rfl ?_
  refine w_iadd C (nI (a + 2)) (nI_add a 2) dL_law_942 ?_
  refine w_sld C (a + 2) rfl (by omega) hLL dL_law_943 ?_
  refine w_call C (As := [.int (xs (a + 1)), .int (xs (a + 2))]) (st := [.int r]) (eX6_threshold C.2.2.2.2.2.2.2.2.2.1 h2) cvL_100 (Nat.le_of_ble_eq_true rfl) (ok_e30 C.2.2.2.2.2.2.2.2.2.1) rfl (Nat.le_of_ble_eq_true rfl) hroom _ rfl dL_law_944 [.int r, .int r] rfl ?_
  refine w_eq_t C (tgt := 1871) rfl dL_law_947 rfl ?_
  exact hnext σ2 hI
set_option maxRecDepth 100000 in
set_option maxHeartbeats 4000000 in
theorem wc20 {l : Launch} {w : xW} {p : Program} {e : Env} {s : State} {m : MethodId} {below : List Frame} {meth : Method} {c : Code} {b LL : Nat} {xs : Nat → Int32} {Q : State → Prop} {kc ns a n : Nat} {σ : xS} {Inv : Nat → xS → Prop} (hOK : xP20 Inv) (C : wAmb w p s m c b LL xs) (hLL : LL < 2 ^ 31) (ha : a + 4 < LL) (hroom : kc ≤ 600000 ∧ ns ≤ 7302250) (hI0 : Inv n σ) (hn : n < 512) (hnext : ∀ σ2, Inv (n + 1) σ2 → wAt l w p e s m below meth c b Q kc ns 1871 [(0, .ref b), (1, .ref (w.2.2 4 20 0 0)), (2, .ref (w.2.2 5 30 0 0)), (3, .int (nI a))] [] σ2) : wAt l w p e s m below meth c b Q kc ns 952 [(0, .ref b), (1, .ref (w.2.2 4 20 0 0)), (2, .ref (w.2.2 5 30 0 0)), (3, .int (nI a))] [] σ := by
  obtain ⟨r, σ1, σ2, h1, h2, hI⟩ := hOK n σ (xs (a + 1)) (xs (a + 2)) hI0 hn
  refine w_aload_n C dL_law_952 rfl 1 rfl ?_
  refine w_aload_n C dL_law_953 rfl 0 rfl ?_
  refine w_iload_n C dL_law_954 rfl 3 rfl ?_
  refine w_iconst C (x := 1) dL_law_955 rfl ?_
  refine w_iadd C (nI (a + 1)) (nI_add a 1) dL_law_956 ?_
  refine w_sld C (a + 1) rfl (by omega) hLL dL_law_957 ?_
  refine w_aload_n C dL_law_958 rfl 0 rfl ?_
  refine w_iload_n C dL_law_959 rfl 3 rfl ?_
  refine w_iconst C (x := 2) dL_law_960 rfl ?_
  refine w_iadd C (nI (a + 2)) (nI_add a 2) dL_law_961 ?_
  refine w_sld C (a + 2) rfl (by omega) hLL dL_law_962 ?_
  refine w_call C (As := [.int (xs (a + 1)), .int (xs (a + 2))]) (st := []) (eX5_guaranteedCells h1) cvL_101 (Nat.le_of_ble_eq_true rfl) ok_e20 rfl (Nat.le_of_ble_eq_true rfl) hroom _ rfl dL_law_963 [.int r] rfl ?_
  refine w_aload_n C dL_law_966 rfl 2 rfl ?_
  refine w_aload_n C dL_law_967 rfl 0 rfl ?_
  refine w_iload_n C dL_law_968 rfl 3 rfl ?_
  refine w_iconst C (x := 1) dL_law_969 rfl ?_
  refine w_iadd C (nI (a + 1)) (nI_add a 1) dL_law_970 ?_
  refine w_sld C (a + 1) rfl (by omega) hLL dL_law_971 ?_
  refine w_aload_n C dL_law_972 rfl 0 rfl ?_
  refine w_iload_n C dL_law_973 rfl 3 rfl ?_
  refine w_iconst C (x := 2) dL_law_974 rfl ?_
  refine w_iadd C (nI (a + 2)) (nI_add a 2) dL_law_975 ?_
  refine w_sld C (a + 2) rfl (by omega) hLL dL_law_976 ?_
  refine w_call C (As := [.int (xs (a + 1)), .int (xs (a + 2))]) (st := [.int r]) (eX6_guaranteedCells C.2.2.2.2.2.2.2.2.2.1 h2) cvL_104 (Nat.le_of_ble_eq_true rfl) (ok_e30 C.2.2.2.2.2.2.2.2.2.1) rfl (Nat.le_of_ble_eq_true rfl) hroom _ rfl dL_law_977 [.int r, .int r] rfl ?_
  refine w_eq_t C (tgt := 1871) rfl dL_law_980 rfl ?_
  exact hnext σ2 hI
set_option maxRecDepth 100000 in
set_option maxHeartbeats 4000000 in
theorem wc21 {l : Launch} {w : xW} {p : Program} {e : Env} {s : State} {m : MethodId} {below : List Frame} {meth : Method} {c : Code} {b LL : Nat} {xs : Nat → Int32} {Q : State → Prop} {kc ns a n : Nat} {σ : xS} {Inv : Nat → xS → Prop} (hOK : xP21 Inv) (C : wAmb w p s m c b LL xs) (hLL : LL < 2 ^ 31) (ha : a + 4 < LL) (hroom : kc ≤ 600000 ∧ ns ≤ 7302250) (hI0 : Inv n σ) (hn : n < 512) (hnext : ∀ σ2, Inv (n + 1) σ2 → wAt l w p e s m below meth c b Q kc ns 1871 [(0, .ref b), (1, .ref (w.2.2 4 20 0 0)), (2, .ref (w.2.2 5 30 0 0)), (3, .int (nI a))] [] σ2) : wAt l w p e s m below meth c b Q kc ns 985 [(0, .ref b), (1, .ref (w.2.2 4 20 0 0)), (2, .ref (w.2.2 5 30 0 0)), (3, .int (nI a))] [] σ := by
  obtain ⟨r, σ1, σ2, h1, h2, hI⟩ := hOK n σ (xs (a + 1)) (xs (a + 2)) hI0 hn
  refine w_aload_n C dL_law_985 rfl 1 rfl ?_
  refine w_aload_n C dL_law_986 rfl 0 rfl ?_
  refine w_iload_n C dL_law_987 rfl 3 rfl ?_
  refine w_iconst C (x := 1) dL_law_988 rfl ?_
  refine w_iadd C (nI (a + 1)) (nI_add a 1) dL_law_989 ?_
  refine w_sld C (a + 1) rfl (by omega) hLL dL_law_990 ?_
  refine w_aload_n C dL_law_991 rfl 0 rfl ?_
  refine w_iload_n C dL_law_992 rfl 3 rfl ?_
  refine w_iconst C (x := 2) dL_law_993 rfl ?_
  refine w_iadd C (nI (a + 2)) (nI_add a 2) dL_law_994 ?_
  refine w_sld C (a + 2) rfl (by omega) hLL dL_law_995 ?_
  refine w_call C (As := [.int (xs (a + 1)), .int (xs (a + 2))]) (st := []) (eX5_sharedCells h1) cvL_105 (Nat.le_of_ble_eq_true rfl) ok_e20 rfl (Nat.le_of_ble_eq_true rfl) hroom _ rfl dL_law_996 [.int r] rfl ?_
  refine w_aload_n C dL_law_999 rfl 2 rfl ?_
  refine w_aload_n C dL_law_1000 rfl 0 rfl ?_
  refine w_iload_n C dL_law_1001 rfl 3 rfl ?_
  refine w_iconst C (x := 1) dL_law_1002 rfl ?_
  refine w_iadd C (nI (a + 1)) (nI_add a 1) dL_law_1003 ?_
  refine w_sld C (a + 1) rfl (by omega) hLL dL_law_1004 ?_
  refine w_aload_n C dL_law_1005 rfl 0 rfl ?_
  refine w_iload_n C dL_law_1006 rfl 3 rfl ?_
  refine w_iconst C (x := 2) dL_law_1007 rfl ?_
  refine w_iadd C (nI (a + 2)) (nI_add a 2) dL_law_1008 ?_
  refine w_sld C (a + 2) rfl (by omega) hLL dL_law_1009 ?_
  refine w_call C (As := [.int (xs (a + 1)), .int (xs (a + 2))]) (st := [.int r]) (eX6_sharedCells C.2.2.2.2.2.2.2.2.2.1 h2) cvL_108 (Nat.le_of_ble_eq_true rfl) (ok_e30 C.2.2.2.2.2.2.2.2.2.1) rfl (Nat.le_of_ble_eq_true rfl) hroom _ rfl dL_law_1010 [.int r, .int r] rfl ?_
  refine w_eq_t C (tgt := 1871) rfl dL_law_1013 rfl ?_
  exact hnext σ2 hI
set_option maxRecDepth 100000 in
set_option maxHeartbeats 4000000 in
theorem wc22 {l : Launch} {w : xW} {p : Program} {e : Env} {s : State} {m : MethodId} {below : List Frame} {meth : Method} {c : Code} {b LL : Nat} {xs : Nat → Int32} {Q : State → Prop} {kc ns a n : Nat} {σ : xS} {Inv : Nat → xS → Prop} (hOK : xP22 Inv) (C : wAmb w p s m c b LL xs) (hLL : LL < 2 ^ 31) (ha : a + 4 < LL) (hroom : kc ≤ 600000 ∧ ns ≤ 7302250) (hI0 : Inv n σ) (hn : n < 512) (hnext : ∀ σ2, Inv (n + 1) σ2 → wAt l w p e s m below meth c b Q kc ns 1871 [(0, .ref b), (1, .ref (w.2.2 4 20 0 0)), (2, .ref (w.2.2 5 30 0 0)), (3, .int (nI a))] [] σ2) : wAt l w p e s m below meth c b Q kc ns 1018 [(0, .ref b), (1, .ref (w.2.2 4 20 0 0)), (2, .ref (w.2.2 5 30 0 0)), (3, .int (nI a))] [] σ := by
  obtain ⟨r, σ1, σ2, h1, h2, hI⟩ := hOK n σ (xs (a + 1)) (xs (a + 2)) hI0 hn
  refine w_aload_n C dL_law_1018 rfl 1 rfl ?_
  refine w_aload_n C dL_law_1019 rfl 0 rfl ?_
  refine w_iload_n C dL_law_1020 rfl 3 rfl ?_
  refine w_iconst C (x := 1) dL_law_1021 rfl ?_
  refine w_iadd C (nI (a + 1)) (nI_add a 1) dL_law_1022 ?_
  refine w_sld C (a + 1) rfl (by omega) hLL dL_law_1023 ?_
  refine w_aload_n C dL_law_1024 rfl 0 rfl ?_
  refine w_iload_n C dL_law_1025 rfl 3 rfl ?_
  refine w_iconst C (x := 2) dL_law_1026 rfl ?_
  refine w_iadd C (nI (a + 2)) (nI_add a 2) dL_law_1027 ?_
  refine w_sld C (a + 2) rfl (by omega) hLL dL_law_1028 ?_
  refine w_call C (As := [.int (xs (a + 1)), .int (xs (a + 2))]) (st := []) (eX5_headroomCells h1) cvL_109 (Nat.le_of_ble_eq_true rfl) ok_e20 rfl (Nat.le_of_ble_eq_true rfl) hroom _ rfl dL_law_1029 [.int r] rfl ?_
  refine w_aload_n C dL_law_1032 rfl 2 rfl ?_
  refine w_aload_n C dL_law_1033 rfl 0 rfl ?_
  refine w_iload_n C dL_law_1034 rfl 3 rfl ?_
  refine w_iconst C (x := 1) dL_law_1035 rfl ?_
  refine w_iadd C (nI (a + 1)) (nI_add a 1) dL_law_1036 ?_
  refine w_sld C (a + 1) rfl (by omega) hLL dL_law_1037 ?_
  refine w_aload_n C dL_law_1038 rfl 0 rfl ?_
  refine w_iload_n C dL_law_1039 rfl 3 rfl ?_
  refine w_iconst C (x := 2) dL_law_1040 rfl ?_
  refine w_iadd C (nI (a + 2)) (nI_add a 2) dL_law_1041 ?_
  refine w_sld C (a + 2) rfl (by omega) hLL dL_law_1042 ?_
  refine w_call C (As := [.int (xs (a + 1)), .int (xs (a + 2))]) (st := [.int r]) (eX6_headroomCells C.2.2.2.2.2.2.2.2.2.1 h2) cvL_112 (Nat.le_of_ble_eq_true rfl) (ok_e30 C.2.2.2.2.2.2.2.2.2.1) rfl (Nat.le_of_ble_eq_true rfl) hroom _ rfl dL_law_1043 [.int r, .int r] rfl ?_
  refine w_eq_t C (tgt := 1871) rfl dL_law_1046 rfl ?_
  exact hnext σ2 hI
set_option maxRecDepth 100000 in
set_option maxHeartbeats 4000000 in
theorem wc23 {l : Launch} {w : xW} {p : Program} {e : Env} {s : State} {m : MethodId} {below : List Frame} {meth : Method} {c : Code} {b LL : Nat} {xs : Nat → Int32} {Q : State → Prop} {kc ns a n : Nat} {σ : xS} {Inv : Nat → xS → Prop} (hOK : xP23 Inv) (C : wAmb w p s m c b LL xs) (hLL : LL < 2 ^ 31) (ha : a + 4 < LL) (hroom : kc ≤ 600000 ∧ ns ≤ 7302250) (hI0 : Inv n σ) (hn : n < 512) (hnext : ∀ σ2, Inv (n + 1) σ2 → wAt l w p e s m below meth c b Q kc ns 1871 [(0, .ref b), (1, .ref (w.2.2 4 20 0 0)), (2, .ref (w.2.2 5 30 0 0)), (3, .int (nI a))] [] σ2) : wAt l w p e s m below meth c b Q kc ns 1051 [(0, .ref b), (1, .ref (w.2.2 4 20 0 0)), (2, .ref (w.2.2 5 30 0 0)), (3, .int (nI a))] [] σ := by
  obtain ⟨r, σ1, σ2, h1, h2, hI⟩ := hOK n σ (xs (a + 1)) (xs (a + 2)) hI0 hn
  refine w_aload_n C dL_law_1051 rfl 1 rfl ?_
  refine w_aload_n C dL_law_1052 rfl 0 rfl ?_
  refine w_iload_n C dL_law_1053 rfl 3 rfl ?_
  refine w_iconst C (x := 1) dL_law_1054 rfl ?_
  refine w_iadd C (nI (a + 1)) (nI_add a 1) dL_law_1055 ?_
  refine w_sld C (a + 1) rfl (by omega) hLL dL_law_1056 ?_
  refine w_aload_n C dL_law_1057 rfl 0 rfl ?_
  refine w_iload_n C dL_law_1058 rfl 3 rfl ?_
  refine w_iconst C (x := 2) dL_law_1059 rfl ?_
  refine w_iadd C (nI (a + 2)) (nI_add a 2) dL_law_1060 ?_
  refine w_sld C (a + 2) rfl (by omega) hLL dL_law_1061 ?_
  refine w_call C (As := [.int (xs (a + 1)), .int (xs (a + 2))]) (st := []) (eX5_burstTank h1) cvL_113 (Nat.le_of_ble_eq_true rfl) ok_e20 rfl (Nat.le_of_ble_eq_true rfl) hroom _ rfl dL_law_1062 [.int r] rfl ?_
  refine w_aload_n C dL_law_1065 rfl 2 rfl ?_
  refine w_aload_n C dL_law_1066 rfl 0 rfl ?_
  refine w_iload_n C dL_law_1067 rfl 3 rfl ?_
  refine w_iconst C (x := 1) dL_law_1068 rfl ?_
  refine w_iadd C (nI (a + 1)) (nI_add a 1) dL_law_1069 ?_
  refine w_sld C (a + 1) rfl (by omega) hLL dL_law_1070 ?_
  refine w_aload_n C dL_law_1071 rfl 0 rfl ?_
  refine w_iload_n C dL_law_1072 rfl 3 rfl ?_
  refine w_iconst C (x := 2) dL_law_1073 rfl ?_
  refine w_iadd C (nI (a + 2)) (nI_add a 2) dL_law_1074 ?_
  refine w_sld C (a + 2) rfl (by omega) hLL dL_law_1075 ?_
  refine w_call C (As := [.int (xs (a + 1)), .int (xs (a + 2))]) (st := [.int r]) (eX6_burstTank C.2.2.2.2.2.2.2.2.2.1 h2) cvL_116 (Nat.le_of_ble_eq_true rfl) (ok_e30 C.2.2.2.2.2.2.2.2.2.1) rfl (Nat.le_of_ble_eq_true rfl) hroom _ rfl dL_law_1076 [.int r, .int r] rfl ?_
  refine w_eq_t C (tgt := 1871) rfl dL_law_1079 rfl ?_
  exact hnext σ2 hI
set_option maxRecDepth 100000 in
set_option maxHeartbeats 4000000 in
theorem wc24 {l : Launch} {w : xW} {p : Program} {e : Env} {s : State} {m : MethodId} {below : List Frame} {meth : Method} {c : Code} {b LL : Nat} {xs : Nat → Int32} {Q : State → Prop} {kc ns a n : Nat} {σ : xS} {Inv : Nat → xS → Prop} (hOK : xP24 Inv) (C : wAmb w p s m c b LL xs) (hLL : LL < 2 ^ 31) (ha : a + 4 < LL) (hroom : kc ≤ 600000 ∧ ns ≤ 7302250) (hI0 : Inv n σ) (hn : n < 512) (hnext : ∀ σ2, Inv (n + 1) σ2 → wAt l w p e s m below meth c b Q kc ns 1871 [(0, .ref b), (1, .ref (w.2.2 4 20 0 0)), (2, .ref (w.2.2 5 30 0 0)), (3, .int (nI a))] [] σ2) : wAt l w p e s m below meth c b Q kc ns 1084 [(0, .ref b), (1, .ref (w.2.2 4 20 0 0)), (2, .ref (w.2.2 5 30 0 0)), (3, .int (nI a))] [] σ := by
  obtain ⟨r, σ1, σ2, h1, h2, hI⟩ := hOK n σ (xs (a + 1)) (xs (a + 2)) hI0 hn
  refine w_aload_n C dL_law_1084 rfl 1 rfl ?_
  refine w_aload_n C dL_law_1085 rfl 0 rfl ?_
  refine w_iload_n C dL_law_1086 rfl 3 rfl ?_
  refine w_iconst C (x := 1) dL_law_1087 rfl ?_
  refine w_iadd C (nI (a + 1)) (nI_add a 1) dL_law_1088 ?_
  refine w_sld C (a + 1) rfl (by omega) hLL dL_law_1089 ?_
  refine w_aload_n C dL_law_1090 rfl 0 rfl ?_
  refine w_iload_n C dL_law_1091 rfl 3 rfl ?_
  refine w_iconst C (x := 2) dL_law_1092 rfl ?_
  refine w_iadd C (nI (a + 2)) (nI_add a 2) dL_law_1093 ?_
  refine w_sld C (a + 2) rfl (by omega) hLL dL_law_1094 ?_
  refine w_call C (As := [.int (xs (a + 1)), .int (xs (a + 2))]) (st := []) (eX5_isPaused h1) cvL_117 (Nat.le_of_ble_eq_true rfl) ok_e20 rfl (Nat.le_of_ble_eq_true rfl) hroom _ rfl dL_law_1095 [.int r] rfl ?_
  refine w_aload_n C dL_law_1098 rfl 2 rfl ?_
  refine w_aload_n C dL_law_1099 rfl 0 rfl ?_
  refine w_iload_n C dL_law_1100 rfl 3 rfl ?_
  refine w_iconst C (x := 1) dL_law_1101 rfl ?_
  refine w_iadd C (nI (a + 1)) (nI_add a 1) dL_law_1102 ?_
  refine w_sld C (a + 1) rfl (by omega) hLL dL_law_1103 ?_
  refine w_aload_n C dL_law_1104 rfl 0 rfl ?_
  refine w_iload_n C dL_law_1105 rfl 3 rfl ?_
  refine w_iconst C (x := 2) dL_law_1106 rfl ?_
  refine w_iadd C (nI (a + 2)) (nI_add a 2) dL_law_1107 ?_
  refine w_sld C (a + 2) rfl (by omega) hLL dL_law_1108 ?_
  refine w_call C (As := [.int (xs (a + 1)), .int (xs (a + 2))]) (st := [.int r]) (eX6_isPaused C.2.2.2.2.2.2.2.2.2.1 h2) cvL_120 (Nat.le_of_ble_eq_true rfl) (ok_e30 C.2.2.2.2.2.2.2.2.2.1) rfl (Nat.le_of_ble_eq_true rfl) hroom _ rfl dL_law_1109 [.int r, .int r] rfl ?_
  refine w_eq_t C (tgt := 1871) rfl dL_law_1112 rfl ?_
  exact hnext σ2 hI
set_option maxRecDepth 100000 in
set_option maxHeartbeats 4000000 in
theorem wc25 {l : Launch} {w : xW} {p : Program} {e : Env} {s : State} {m : MethodId} {below : List Frame} {meth : Method} {c : Code} {b LL : Nat} {xs : Nat → Int32} {Q : State → Prop} {kc ns a n : Nat} {σ : xS} {Inv : Nat → xS → Prop} (hOK : xP25 Inv) (C : wAmb w p s m c b LL xs) (hLL : LL < 2 ^ 31) (ha : a + 4 < LL) (hroom : kc ≤ 600000 ∧ ns ≤ 7302250) (hI0 : Inv n σ) (hn : n < 512) (hnext : ∀ σ2, Inv (n + 1) σ2 → wAt l w p e s m below meth c b Q kc ns 1871 [(0, .ref b), (1, .ref (w.2.2 4 20 0 0)), (2, .ref (w.2.2 5 30 0 0)), (3, .int (nI a))] [] σ2) : wAt l w p e s m below meth c b Q kc ns 1117 [(0, .ref b), (1, .ref (w.2.2 4 20 0 0)), (2, .ref (w.2.2 5 30 0 0)), (3, .int (nI a))] [] σ := by
  obtain ⟨r, σ1, σ2, h1, h2, hI⟩ := hOK n σ (xs (a + 1)) (xs (a + 2)) hI0 hn
  refine w_aload_n C dL_law_1117 rfl 1 rfl ?_
  refine w_aload_n C dL_law_1118 rfl 0 rfl ?_
  refine w_iload_n C dL_law_1119 rfl 3 rfl ?_
  refine w_iconst C (x := 1) dL_law_1120 rfl ?_
  refine w_iadd C (nI (a + 1)) (nI_add a 1) dL_law_1121 ?_
  refine w_sld C (a + 1) rfl (by omega) hLL dL_law_1122 ?_
  refine w_aload_n C dL_law_1123 rfl 0 rfl ?_
  refine w_iload_n C dL_law_1124 rfl 3 rfl ?_
  refine w_iconst C (x := 2) dL_law_1125 rfl ?_
  refine w_iadd C (nI (a + 2)) (nI_add a 2) dL_law_1126 ?_
  refine w_sld C (a + 2) rfl (by omega) hLL dL_law_1127 ?_
  refine w_call C (As := [.int (xs (a + 1)), .int (xs (a + 2))]) (st := []) (eX5_pauses h1) cvL_121 (Nat.le_of_ble_eq_true rfl) ok_e20 rfl (Nat.le_of_ble_eq_true rfl) hroom _ rfl dL_law_1128 [.int r] rfl ?_
  refine w_aload_n C dL_law_1131 rfl 2 rfl ?_
  refine w_aload_n C dL_law_1132 rfl 0 rfl ?_
  refine w_iload_n C dL_law_1133 rfl 3 rfl ?_
  refine w_iconst C (x := 1) dL_law_1134 rfl ?_
  refine w_iadd C (nI (a + 1)) (nI_add a 1) dL_law_1135 ?_
  refine w_sld C (a + 1) rfl (by omega) hLL dL_law_1136 ?_
  refine w_aload_n C dL_law_1137 rfl 0 rfl ?_
  refine w_iload_n C dL_law_1138 rfl 3 rfl ?_
  refine w_iconst C (x := 2) dL_law_1139 rfl ?_
  refine w_iadd C (nI (a + 2)) (nI_add a 2) dL_law_1140 ?_
  refine w_sld C (a + 2) rfl (by omega) hLL dL_law_1141 ?_
  refine w_call C (As := [.int (xs (a + 1)), .int (xs (a + 2))]) (st := [.int r]) (eX6_pauses C.2.2.2.2.2.2.2.2.2.1 h2) cvL_124 (Nat.le_of_ble_eq_true rfl) (ok_e30 C.2.2.2.2.2.2.2.2.2.1) rfl (Nat.le_of_ble_eq_true rfl) hroom _ rfl dL_law_1142 [.int r, .int r] rfl ?_
  refine w_eq_t C (tgt := 1871) rfl dL_law_1145 rfl ?_
  exact hnext σ2 hI
set_option maxRecDepth 100000 in
set_option maxHeartbeats 4000000 in
theorem wc26 {l : Launch} {w : xW} {p : Program} {e : Env} {s : State} {m : MethodId} {below : List Frame} {meth : Method} {c : Code} {b LL : Nat} {xs : Nat → Int32} {Q : State → Prop} {kc ns a n : Nat} {σ : xS} {Inv : Nat → xS → Prop} (hOK : xP26 Inv) (C : wAmb w p s m c b LL xs) (hLL : LL < 2 ^ 31) (ha : a + 4 < LL) (hroom : kc ≤ 600000 ∧ ns ≤ 7302250) (hI0 : Inv n σ) (hn : n < 512) (hnext : ∀ σ2, Inv (n + 1) σ2 → wAt l w p e s m below meth c b Q kc ns 1871 [(0, .ref b), (1, .ref (w.2.2 4 20 0 0)), (2, .ref (w.2.2 5 30 0 0)), (3, .int (nI a))] [] σ2) : wAt l w p e s m below meth c b Q kc ns 1150 [(0, .ref b), (1, .ref (w.2.2 4 20 0 0)), (2, .ref (w.2.2 5 30 0 0)), (3, .int (nI a))] [] σ := by
  obtain ⟨r, σ1, σ2, h1, h2, hI⟩ := hOK n σ (xs (a + 1)) hI0 hn
  refine w_aload_n C dL_law_1150 rfl 1 rfl ?_
  refine w_aload_n C dL_law_1151 rfl 0 rfl ?_
  refine w_iload_n C dL_law_1152 rfl 3 rfl ?_
  refine w_iconst C (x := 1) dL_law_1153 rfl ?_
  refine w_iadd C (nI (a + 1)) (nI_add a 1) dL_law_1154 ?_
  refine w_sld C (a + 1) rfl (by omega) hLL dL_law_1155 ?_
  refine w_call C (As := [.int (xs (a + 1))]) (st := []) (eX5_credit h1) cvL_125 (Nat.le_of_ble_eq_true rfl) ok_e20 rfl (Nat.le_of_ble_eq_true rfl) hroom _ rfl dL_law_1156 [.int r] rfl ?_
  refine w_aload_n C dL_law_1159 rfl 2 rfl ?_
  refine w_aload_n C dL_law_1160 rfl 0 rfl ?_
  refine w_iload_n C dL_law_1161 rfl 3 rfl ?_
  refine w_iconst C (x := 1) dL_law_1162 rfl ?_
  refine w_iadd C (nI (a + 1)) (nI_add a 1) dL_law_1163 ?_
  refine w_sld C (a + 1) rfl (by omega) hLL dL_law_1164 ?_
  refine w_call C (As := [.int (xs (a + 1))]) (st := [.int r]) (eX6_credit C.2.2.2.2.2.2.2.2.2.1 h2) cvL_128 (Nat.le_of_ble_eq_true rfl) (ok_e30 C.2.2.2.2.2.2.2.2.2.1) rfl (Nat.le_of_ble_eq_true rfl) hroom _ rfl dL_law_1165 [.int r, .int r] rfl ?_
  refine w_eq_t C (tgt := 1871) rfl dL_law_1168 rfl ?_
  exact hnext σ2 hI
set_option maxRecDepth 100000 in
set_option maxHeartbeats 4000000 in
theorem wc27 {l : Launch} {w : xW} {p : Program} {e : Env} {s : State} {m : MethodId} {below : List Frame} {meth : Method} {c : Code} {b LL : Nat} {xs : Nat → Int32} {Q : State → Prop} {kc ns a n : Nat} {σ : xS} {Inv : Nat → xS → Prop} (hOK : xP27 Inv) (C : wAmb w p s m c b LL xs) (hLL : LL < 2 ^ 31) (ha : a + 4 < LL) (hroom : kc ≤ 600000 ∧ ns ≤ 7302250) (hI0 : Inv n σ) (hn : n < 512) (hnext : ∀ σ2, Inv (n + 1) σ2 → wAt l w p e s m below meth c b Q kc ns 1871 [(0, .ref b), (1, .ref (w.2.2 4 20 0 0)), (2, .ref (w.2.2 5 30 0 0)), (3, .int (nI a))] [] σ2) : wAt l w p e s m below meth c b Q kc ns 1173 [(0, .ref b), (1, .ref (w.2.2 4 20 0 0)), (2, .ref (w.2.2 5 30 0 0)), (3, .int (nI a))] [] σ := by
  obtain ⟨r, σ1, σ2, h1, h2, hI⟩ := hOK n σ (xs (a + 1)) (xs (a + 2)) hI0 hn
  refine w_aload_n C dL_law_1173 rfl 1 rfl ?_
  refine w_aload_n C dL_law_1174 rfl 0 rfl ?_
  refine w_iload_n C dL_law_1175 rfl 3 rfl ?_
  refine w_iconst C (x := 1) dL_law_1176 rfl ?_
  refine w_iadd C (nI (a + 1)) (nI_add a 1) dL_law_1177 ?_
  refine w_sld C (a + 1) rfl (by omega) hLL dL_law_1178 ?_
  refine w_aload_n C dL_law_1179 rfl 0 rfl ?_
  refine w_iload_n C dL_law_1180 rfl 3 rfl ?_
  refine w_iconst C (x := 2) dL_law_1181 rfl ?_
  refine w_iadd C (nI (a + 2)) (nI_add a 2) dL_law_1182 ?_
  refine w_sld C (a + 2) rfl (by omega) hLL dL_law_1183 ?_
  refine w_call C (As := [.int (xs (a + 1)), .int (xs (a + 2))]) (st := []) (eX5_deficit h1) cvL_129 (Nat.le_of_ble_eq_true rfl) ok_e20 rfl (Nat.le_of_ble_eq_true rfl) hroom _ rfl dL_law_1184 [.int r] rfl ?_
  refine w_aload_n C dL_law_1187 rfl 2 rfl ?_
  refine w_aload_n C dL_law_1188 rfl 0 rfl ?_
  refine w_iload_n C dL_law_1189 rfl 3 rfl ?_
  refine w_iconst C (x := 1) dL_law_1190 rfl ?_
  refine w_iadd C (nI (a + 1)) (nI_add a 1) dL_law_1191 ?_
  refine w_sld C (a + 1) rfl (by omega) hLL dL_law_1192 ?_
  refine w_aload_n C dL_law_1193 rfl 0 rfl ?_
  refine w_iload_n C dL_law_1194 rfl 3 rfl ?_
  refine w_iconst C (x := 2) dL_law_1195 rfl ?_
  refine w_iadd C (nI (a + 2)) (nI_add a 2) dL_law_1196 ?_
  refine w_sld C (a + 2) rfl (by omega) hLL dL_law_1197 ?_
  refine w_call C (As := [.int (xs (a + 1)), .int (xs (a + 2))]) (st := [.int r]) (eX6_deficit C.2.2.2.2.2.2.2.2.2.1 h2) cvL_132 (Nat.le_of_ble_eq_true rfl) (ok_e30 C.2.2.2.2.2.2.2.2.2.1) rfl (Nat.le_of_ble_eq_true rfl) hroom _ rfl dL_law_1198 [.int r, .int r] rfl ?_
  refine w_eq_t C (tgt := 1871) rfl dL_law_1201 rfl ?_
  exact hnext σ2 hI
set_option maxRecDepth 100000 in
set_option maxHeartbeats 4000000 in
theorem wc28 {l : Launch} {w : xW} {p : Program} {e : Env} {s : State} {m : MethodId} {below : List Frame} {meth : Method} {c : Code} {b LL : Nat} {xs : Nat → Int32} {Q : State → Prop} {kc ns a n : Nat} {σ : xS} {Inv : Nat → xS → Prop} (hOK : xP28 Inv) (C : wAmb w p s m c b LL xs) (hLL : LL < 2 ^ 31) (ha : a + 4 < LL) (hroom : kc ≤ 600000 ∧ ns ≤ 7302250) (hI0 : Inv n σ) (hn : n < 512) (hnext : ∀ σ2, Inv (n + 1) σ2 → wAt l w p e s m below meth c b Q kc ns 1871 [(0, .ref b), (1, .ref (w.2.2 4 20 0 0)), (2, .ref (w.2.2 5 30 0 0)), (3, .int (nI a))] [] σ2) : wAt l w p e s m below meth c b Q kc ns 1206 [(0, .ref b), (1, .ref (w.2.2 4 20 0 0)), (2, .ref (w.2.2 5 30 0 0)), (3, .int (nI a))] [] σ := by
  obtain ⟨r, σ1, σ2, h1, h2, hI⟩ := hOK n σ (xs (a + 1)) (xs (a + 2)) hI0 hn
  refine w_aload_n C dL_law_1206 rfl 1 rfl ?_
  refine w_aload_n C dL_law_1207 rfl 0 rfl ?_
  refine w_iload_n C dL_law_1208 rfl 3 rfl ?_
  refine w_iconst C (x := 1) dL_law_1209 rfl ?_
  refine w_iadd C (nI (a + 1)) (nI_add a 1) dL_law_1210 ?_
  refine w_sld C (a + 1) rfl (by omega) hLL dL_law_1211 ?_
  refine w_aload_n C dL_law_1212 rfl 0 rfl ?_
  refine w_iload_n C dL_law_1213 rfl 3 rfl ?_
  refine w_iconst C (x := 2) dL_law_1214 rfl ?_
  refine w_iadd C (nI (a + 2)) (nI_add a 2) dL_law_1215 ?_
  refine w_sld C (a + 2) rfl (by omega) hLL dL_law_1216 ?_
  refine w_call C (As := [.int (xs (a + 1)), .int (xs (a + 2))]) (st := []) (eX5_losses h1) cvL_133 (Nat.le_of_ble_eq_true rfl) ok_e20 rfl (Nat.le_of_ble_eq_true rfl) hroom _ rfl dL_law_1217 [.int r] rfl ?_
  refine w_aload_n C dL_law_1220 rfl 2 rfl ?_
  refine w_aload_n C dL_law_1221 rfl 0 rfl ?_
  refine w_iload_n C dL_law_1222 rfl 3 rfl ?_
  refine w_iconst C (x := 1) dL_law_1223 rfl ?_
  refine w_iadd C (nI (a + 1)) (nI_add a 1) dL_law_1224 ?_
  refine w_sld C (a + 1) rfl (by omega) hLL dL_law_1225 ?_
  refine w_aload_n C dL_law_1226 rfl 0 rfl ?_
  refine w_iload_n C dL_law_1227 rfl 3 rfl ?_
  refine w_iconst C (x := 2) dL_law_1228 rfl ?_
  refine w_iadd C (nI (a + 2)) (nI_add a 2) dL_law_1229 ?_
  refine w_sld C (a + 2) rfl (by omega) hLL dL_law_1230 ?_
  refine w_call C (As := [.int (xs (a + 1)), .int (xs (a + 2))]) (st := [.int r]) (eX6_losses C.2.2.2.2.2.2.2.2.2.1 h2) cvL_136 (Nat.le_of_ble_eq_true rfl) (ok_e30 C.2.2.2.2.2.2.2.2.2.1) rfl (Nat.le_of_ble_eq_true rfl) hroom _ rfl dL_law_1231 [.int r, .int r] rfl ?_
  refine w_eq_t C (tgt := 1871) rfl dL_law_1234 rfl ?_
  exact hnext σ2 hI
set_option maxRecDepth 100000 in
set_option maxHeartbeats 4000000 in
theorem wc29 {l : Launch} {w : xW} {p : Program} {e : Env} {s : State} {m : MethodId} {below : List Frame} {meth : Method} {c : Code} {b LL : Nat} {xs : Nat → Int32} {Q : State → Prop} {kc ns a n : Nat} {σ : xS} {Inv : Nat → xS → Prop} (hOK : xP29 Inv) (C : wAmb w p s m c b LL xs) (hLL : LL < 2 ^ 31) (ha : a + 4 < LL) (hroom : kc ≤ 600000 ∧ ns ≤ 7302250) (hI0 : Inv n σ) (hn : n < 512) (hnext : ∀ σ2, Inv (n + 1) σ2 → wAt l w p e s m below meth c b Q kc ns 1871 [(0, .ref b), (1, .ref (w.2.2 4 20 0 0)), (2, .ref (w.2.2 5 30 0 0)), (3, .int (nI a))] [] σ2) : wAt l w p e s m below meth c b Q kc ns 1239 [(0, .ref b), (1, .ref (w.2.2 4 20 0 0)), (2, .ref (w.2.2 5 30 0 0)), (3, .int (nI a))] [] σ := by
  obtain ⟨r, σ1, σ2, h1, h2, hI⟩ := hOK n σ (xs (a + 1)) hI0 hn
  refine w_aload_n C dL_law_1239 rfl 1 rfl ?_
  refine w_aload_n C dL_law_1240 rfl 0 rfl ?_
  refine w_iload_n C dL_law_1241 rfl 3 rfl ?_
  refine w_iconst C (x := 1) dL_law_1242 rfl ?_
  refine w_iadd C (nI (a + 1)) (nI_add a 1) dL_law_1243 ?_
  refine w_sld C (a + 1) rfl (by omega) hLL dL_law_1244 ?_
  refine w_call C (As := [.int (xs (a + 1))]) (st := []) (eX5_lostCells h1) cvL_137 (Nat.le_of_ble_eq_true rfl) ok_e20 rfl (Nat.le_of_ble_eq_true rfl) hroom _ rfl dL_law_1245 [.int r] rfl ?_
  refine w_aload_n C dL_law_1248 rfl 2 rfl ?_
  refine w_aload_n C dL_law_1249 rfl 0 rfl ?_
  refine w_iload_n C dL_law_1250 rfl 3 rfl ?_
  refine w_iconst C (x := 1) dL_law_1251 rfl ?_
  refine w_iadd C (nI (a + 1)) (nI_add a 1) dL_law_1252 ?_
  refine w_sld C (a + 1) rfl (by omega) hLL dL_law_1253 ?_
  refine w_call C (As := [.int (xs (a + 1))]) (st := [.int r]) (eX6_lostCells C.2.2.2.2.2.2.2.2.2.1 h2) cvL_140 (Nat.le_of_ble_eq_true rfl) (ok_e30 C.2.2.2.2.2.2.2.2.2.1) rfl (Nat.le_of_ble_eq_true rfl) hroom _ rfl dL_law_1254 [.int r, .int r] rfl ?_
  refine w_eq_t C (tgt := 1871) rfl dL_law_1257 rfl ?_
  exact hnext σ2 hI
set_option maxRecDepth 100000 in
set_option maxHeartbeats 4000000 in
theorem wc30 {l : Launch} {w : xW} {p : Program} {e : Env} {s : State} {m : MethodId} {below : List Frame} {meth : Method} {c : Code} {b LL : Nat} {xs : Nat → Int32} {Q : State → Prop} {kc ns a n : Nat} {σ : xS} {Inv : Nat → xS → Prop} (hOK : xP30 Inv) (C : wAmb w p s m c b LL xs) (hLL : LL < 2 ^ 31) (ha : a + 4 < LL) (hroom : kc ≤ 600000 ∧ ns ≤ 7302250) (hI0 : Inv n σ) (hn : n < 512) (hnext : ∀ σ2, Inv (n + 1) σ2 → wAt l w p e s m below meth c b Q kc ns 1871 [(0, .ref b), (1, .ref (w.2.2 4 20 0 0)), (2, .ref (w.2.2 5 30 0 0)), (3, .int (nI a))] [] σ2) : wAt l w p e s m below meth c b Q kc ns 1262 [(0, .ref b), (1, .ref (w.2.2 4 20 0 0)), (2, .ref (w.2.2 5 30 0 0)), (3, .int (nI a))] [] σ := by
  obtain ⟨r, σ1, σ2, h1, h2, hI⟩ := hOK n σ (xs (a + 1)) hI0 hn
  refine w_aload_n C dL_law_1262 rfl 1 rfl ?_
  refine w_aload_n C dL_law_1263 rfl 0 rfl ?_
  refine w_iload_n C dL_law_1264 rfl 3 rfl ?_
  refine w_iconst C (x := 1) dL_law_1265 rfl ?_
  refine w_iadd C (nI (a + 1)) (nI_add a 1) dL_law_1266 ?_
  refine w_sld C (a + 1) rfl (by omega) hLL dL_law_1267 ?_
  refine w_call C (As := [.int (xs (a + 1))]) (st := []) (eX5_lossCause h1) cvL_141 (Nat.le_of_ble_eq_true rfl) ok_e20 rfl (Nat.le_of_ble_eq_true rfl) hroom _ rfl dL_law_1268 [.int r] rfl ?_
  refine w_aload_n C dL_law_1271 rfl 2 rfl ?_
  refine w_aload_n C dL_law_1272 rfl 0 rfl ?_
  refine w_iload_n C dL_law_1273 rfl 3 rfl ?_
  refine w_iconst C (x := 1) dL_law_1274 rfl ?_
  refine w_iadd C (nI (a + 1)) (nI_add a 1) dL_law_1275 ?_
  refine w_sld C (a + 1) rfl (by omega) hLL dL_law_1276 ?_
  refine w_call C (As := [.int (xs (a + 1))]) (st := [.int r]) (eX6_lossCause C.2.2.2.2.2.2.2.2.2.1 h2) cvL_144 (Nat.le_of_ble_eq_true rfl) (ok_e30 C.2.2.2.2.2.2.2.2.2.1) rfl (Nat.le_of_ble_eq_true rfl) hroom _ rfl dL_law_1277 [.int r, .int r] rfl ?_
  refine w_eq_t C (tgt := 1871) rfl dL_law_1280 rfl ?_
  exact hnext σ2 hI
set_option maxRecDepth 100000 in
set_option maxHeartbeats 4000000 in
theorem wc31 {l : Launch} {w : xW} {p : Program} {e : Env} {s : State} {m : MethodId} {below : List Frame} {meth : Method} {c : Code} {b LL : Nat} {xs : Nat → Int32} {Q : State → Prop} {kc ns a n : Nat} {σ : xS} {Inv : Nat → xS → Prop} (hOK : xP31 Inv) (C : wAmb w p s m c b LL xs) (hLL : LL < 2 ^ 31) (ha : a + 4 < LL) (hroom : kc ≤ 600000 ∧ ns ≤ 7302250) (hI0 : Inv n σ) (hn : n < 512) (hnext : ∀ σ2, Inv (n + 1) σ2 → wAt l w p e s m below meth c b Q kc ns 1871 [(0, .ref b), (1, .ref (w.2.2 4 20 0 0)), (2, .ref (w.2.2 5 30 0 0)), (3, .int (nI a))] [] σ2) : wAt l w p e s m below meth c b Q kc ns 1285 [(0, .ref b), (1, .ref (w.2.2 4 20 0 0)), (2, .ref (w.2.2 5 30 0 0)), (3, .int (nI a))] [] σ := by
  obtain ⟨r, σ1, σ2, h1, h2, hI⟩ := hOK n σ (xs (a + 1)) hI0 hn
  refine w_aload_n C dL_law_1285 rfl 1 rfl ?_
  refine w_aload_n C dL_law_1286 rfl 0 rfl ?_
  refine w_iload_n C dL_law_1287 rfl 3 rfl ?_
  refine w_iconst C (x := 1) dL_law_1288 rfl ?_
  refine w_iadd C (nI (a + 1)) (nI_add a 1) dL_law_1289 ?_
  refine w_sld C (a + 1) rfl (by omega) hLL dL_law_1290 ?_
  refine w_call C (As := [.int (xs (a + 1))]) (st := []) (eX5_departed h1) cvL_145 (Nat.le_of_ble_eq_true rfl) ok_e20 rfl (Nat.le_of_ble_eq_true rfl) hroom _ rfl dL_law_1291 [.int r] rfl ?_
  refine w_aload_n C dL_law_1294 rfl 2 rfl ?_
  refine w_aload_n C dL_law_1295 rfl 0 rfl ?_
  refine w_iload_n C dL_law_1296 rfl 3 rfl ?_
  refine w_iconst C (x := 1) dL_law_1297 rfl ?_
  refine w_iadd C (nI (a + 1)) (nI_add a 1) dL_law_1298 ?_
  refine w_sld C (a + 1) rfl (by omega) hLL dL_law_1299 ?_
  refine w_call C (As := [.int (xs (a + 1))]) (st := [.int r]) (eX6_departed C.2.2.2.2.2.2.2.2.2.1 h2) cvL_148 (Nat.le_of_ble_eq_true rfl) (ok_e30 C.2.2.2.2.2.2.2.2.2.1) rfl (Nat.le_of_ble_eq_true rfl) hroom _ rfl dL_law_1300 [.int r, .int r] rfl ?_
  refine w_eq_t C (tgt := 1871) rfl dL_law_1303 rfl ?_
  exact hnext σ2 hI
set_option maxRecDepth 100000 in
set_option maxHeartbeats 4000000 in
theorem wc32 {l : Launch} {w : xW} {p : Program} {e : Env} {s : State} {m : MethodId} {below : List Frame} {meth : Method} {c : Code} {b LL : Nat} {xs : Nat → Int32} {Q : State → Prop} {kc ns a n : Nat} {σ : xS} {Inv : Nat → xS → Prop} (hOK : xP32 Inv) (C : wAmb w p s m c b LL xs) (hLL : LL < 2 ^ 31) (ha : a + 4 < LL) (hroom : kc ≤ 600000 ∧ ns ≤ 7302250) (hI0 : Inv n σ) (hn : n < 512) (hnext : ∀ σ2, Inv (n + 1) σ2 → wAt l w p e s m below meth c b Q kc ns 1871 [(0, .ref b), (1, .ref (w.2.2 4 20 0 0)), (2, .ref (w.2.2 5 30 0 0)), (3, .int (nI a))] [] σ2) : wAt l w p e s m below meth c b Q kc ns 1308 [(0, .ref b), (1, .ref (w.2.2 4 20 0 0)), (2, .ref (w.2.2 5 30 0 0)), (3, .int (nI a))] [] σ := by
  obtain ⟨r, σ1, σ2, h1, h2, hI⟩ := hOK n σ hI0 hn
  refine w_aload_n C dL_law_1308 rfl 1 rfl ?_
  refine w_call C (As := []) (st := []) (eX5_admitted h1) cvL_149 (Nat.le_of_ble_eq_true rfl) ok_e20 rfl (Nat.le_of_ble_eq_true rfl) hroom _ rfl dL_law_1309 [.int r] rfl ?_
  refine w_aload_n C dL_law_1312 rfl 2 rfl ?_
  refine w_call C (As := []) (st := [.int r]) (eX6_admitted C.2.2.2.2.2.2.2.2.2.1 h2) cvL_152 (Nat.le_of_ble_eq_true rfl) (ok_e30 C.2.2.2.2.2.2.2.2.2.1) rfl (Nat.le_of_ble_eq_true rfl) hroom _ rfl dL_law_1313 [.int r, .int r] rfl ?_
  refine w_eq_t C (tgt := 1871) rfl dL_law_1316 rfl ?_
  exact hnext σ2 hI
set_option maxRecDepth 100000 in
set_option maxHeartbeats 4000000 in
theorem wc33 {l : Launch} {w : xW} {p : Program} {e : Env} {s : State} {m : MethodId} {below : List Frame} {meth : Method} {c : Code} {b LL : Nat} {xs : Nat → Int32} {Q : State → Prop} {kc ns a n : Nat} {σ : xS} {Inv : Nat → xS → Prop} (hOK : xP33 Inv) (C : wAmb w p s m c b LL xs) (hLL : LL < 2 ^ 31) (ha : a + 4 < LL) (hroom : kc ≤ 600000 ∧ ns ≤ 7302250) (hI0 : Inv n σ) (hn : n < 512) (hnext : ∀ σ2, Inv (n + 1) σ2 → wAt l w p e s m below meth c b Q kc ns 1871 [(0, .ref b), (1, .ref (w.2.2 4 20 0 0)), (2, .ref (w.2.2 5 30 0 0)), (3, .int (nI a))] [] σ2) : wAt l w p e s m below meth c b Q kc ns 1321 [(0, .ref b), (1, .ref (w.2.2 4 20 0 0)), (2, .ref (w.2.2 5 30 0 0)), (3, .int (nI a))] [] σ := by
  obtain ⟨r, σ1, σ2, h1, h2, hI⟩ := hOK n σ hI0 hn
  refine w_aload_n C dL_law_1321 rfl 1 rfl ?_
  refine w_call C (As := []) (st := []) (eX5_time h1) cvL_153 (Nat.le_of_ble_eq_true rfl) ok_e20 rfl (Nat.le_of_ble_eq_true rfl) hroom _ rfl dL_law_1322 [.int r] rfl ?_
  refine w_aload_n C dL_law_1325 rfl 2 rfl ?_
  refine w_call C (As := []) (st := [.int r]) (eX6_time C.2.2.2.2.2.2.2.2.2.1 h2) cvL_156 (Nat.le_of_ble_eq_true rfl) (ok_e30 C.2.2.2.2.2.2.2.2.2.1) rfl (Nat.le_of_ble_eq_true rfl) hroom _ rfl dL_law_1326 [.int r, .int r] rfl ?_
  refine w_eq_t C (tgt := 1871) rfl dL_law_1329 rfl ?_
  exact hnext σ2 hI
set_option maxRecDepth 100000 in
set_option maxHeartbeats 4000000 in
theorem wc34 {l : Launch} {w : xW} {p : Program} {e : Env} {s : State} {m : MethodId} {below : List Frame} {meth : Method} {c : Code} {b LL : Nat} {xs : Nat → Int32} {Q : State → Prop} {kc ns a n : Nat} {σ : xS} {Inv : Nat → xS → Prop} (hOK : xP34 Inv) (C : wAmb w p s m c b LL xs) (hLL : LL < 2 ^ 31) (ha : a + 4 < LL) (hroom : kc ≤ 600000 ∧ ns ≤ 7302250) (hI0 : Inv n σ) (hn : n < 512) (hnext : ∀ σ2, Inv (n + 1) σ2 → wAt l w p e s m below meth c b Q kc ns 1871 [(0, .ref b), (1, .ref (w.2.2 4 20 0 0)), (2, .ref (w.2.2 5 30 0 0)), (3, .int (nI a))] [] σ2) : wAt l w p e s m below meth c b Q kc ns 1334 [(0, .ref b), (1, .ref (w.2.2 4 20 0 0)), (2, .ref (w.2.2 5 30 0 0)), (3, .int (nI a))] [] σ := by
  obtain ⟨r, σ1, σ2, h1, h2, hI⟩ := hOK n σ (xs (a + 1)) (xs (a + 2)) hI0 hn
  refine w_aload_n C dL_law_1334 rfl 1 rfl ?_
  refine w_aload_n C dL_law_1335 rfl 0 rfl ?_
  refine w_iload_n C dL_law_1336 rfl 3 rfl ?_
  refine w_iconst C (x := 1) dL_law_1337 rfl ?_
  refine w_iadd C (nI (a + 1)) (nI_add a 1) dL_law_1338 ?_
  refine w_sld C (a + 1) rfl (by omega) hLL dL_law_1339 ?_
  refine w_aload_n C dL_law_1340 rfl 0 rfl ?_
  refine w_iload_n C dL_law_1341 rfl 3 rfl ?_
  refine w_iconst C (x := 2) dL_law_1342 rfl ?_
  refine w_iadd C (nI (a + 2)) (nI_add a 2) dL_law_1343 ?_
  refine w_sld C (a + 2) rfl (by omega) hLL dL_law_1344 ?_
  refine w_call C (As := [.int (xs (a + 1)), .int (xs (a + 2))]) (st := []) (eX5_queueLength h1) cvL_157 (Nat.le_of_ble_eq_true rfl) ok_e20 rfl (Nat.le_of_ble_eq_true rfl) hroom _ rfl dL_law_1345 [.int r] rfl ?_
  refine w_aload_n C dL_law_1348 rfl 2 rfl ?_
  refine w_aload_n C dL_law_1349 rfl 0 rfl ?_
  refine w_iload_n C dL_law_1350 rfl 3 rfl ?_
  refine w_iconst C (x := 1) dL_law_1351 rfl ?_
  refine w_iadd C (nI (a + 1)) (nI_add a 1) dL_law_1352 ?_
  refine w_sld C (a + 1) rfl (by omega) hLL dL_law_1353 ?_
  refine w_aload_n C dL_law_1354 rfl 0 rfl ?_
  refine w_iload_n C dL_law_1355 rfl 3 rfl ?_
  refine w_iconst C (x := 2) dL_law_1356 rfl ?_
  refine w_iadd C (nI (a + 2)) (nI_add a 2) dL_law_1357 ?_
  refine w_sld C (a + 2) rfl (by omega) hLL dL_law_1358 ?_
  refine w_call C (As := [.int (xs (a + 1)), .int (xs (a + 2))]) (st := [.int r]) (eX6_queueLength C.2.2.2.2.2.2.2.2.2.1 h2) cvL_160 (Nat.le_of_ble_eq_true rfl) (ok_e30 C.2.2.2.2.2.2.2.2.2.1) rfl (Nat.le_of_ble_eq_true rfl) hroom _ rfl dL_law_1359 [.int r, .int r] rfl ?_
  refine w_eq_t C (tgt := 1871) rfl dL_law_1362 rfl ?_
  exact hnext σ2 hI
set_option maxRecDepth 100000 in
set_option maxHeartbeats 4000000 in
theorem wc35 {l : Launch} {w : xW} {p : Program} {e : Env} {s : State} {m : MethodId} {below : List Frame} {meth : Method} {c : Code} {b LL : Nat} {xs : Nat → Int32} {Q : State → Prop} {kc ns a n : Nat} {σ : xS} {Inv : Nat → xS → Prop} (hOK : xP35 Inv) (C : wAmb w p s m c b LL xs) (hLL : LL < 2 ^ 31) (ha : a + 4 < LL) (hroom : kc ≤ 600000 ∧ ns ≤ 7302250) (hI0 : Inv n σ) (hn : n < 512) (hnext : ∀ σ2, Inv (n + 1) σ2 → wAt l w p e s m below meth c b Q kc ns 1871 [(0, .ref b), (1, .ref (w.2.2 4 20 0 0)), (2, .ref (w.2.2 5 30 0 0)), (3, .int (nI a))] [] σ2) : wAt l w p e s m below meth c b Q kc ns 1367 [(0, .ref b), (1, .ref (w.2.2 4 20 0 0)), (2, .ref (w.2.2 5 30 0 0)), (3, .int (nI a))] [] σ := by
  obtain ⟨r, σ1, σ2, h1, h2, hI⟩ := hOK n σ (xs (a + 1)) (xs (a + 2)) (xs (a + 3)) hI0 hn
  refine w_aload_n C dL_law_1367 rfl 1 rfl ?_
  refine w_aload_n C dL_law_1368 rfl 0 rfl ?_
  refine w_iload_n C dL_law_1369 rfl 3 rfl ?_
  refine w_iconst C (x := 1) dL_law_1370 rfl ?_
  refine w_iadd C (nI (a + 1)) (nI_add a 1) dL_law_1371 ?_
  refine w_sld C (a + 1) rfl (by omega) hLL dL_law_1372 ?_
  refine w_aload_n C dL_law_1373 rfl 0 rfl ?_
  refine w_iload_n C dL_law_1374 rfl 3 rfl ?_
  refine w_iconst C (x := 2) dL_law_1375 rfl ?_
  refine w_iadd C (nI (a + 2)) (nI_add a 2) dL_law_1376 ?_
  refine w_sld C (a + 2) rfl (by omega) hLL dL_law_1377 ?_
  refine w_aload_n C dL_law_1378 rfl 0 rfl ?_
  refine w_iload_n C dL_law_1379 rfl 3 rfl ?_
  refine w_iconst C (x := 3) dL_law_1380 rfl ?_
  refine w_iadd C (nI (a + 3)) (nI_add a 3) dL_law_1381 ?_
  refine w_sld C (a + 3) rfl (by omega) hLL dL_law_1382 ?_
  refine w_call C (As := [.int (xs (a + 1)), .int (xs (a + 2)), .int (xs (a + 3))]) (st := []) (eX5_packetAt h1) cvL_161 (Nat.le_of_ble_eq_true rfl) ok_e20 rfl (Nat.le_of_ble_eq_true rfl) hroom _ rfl dL_law_1383 [.int r] rfl ?_
  refine w_aload_n C dL_law_1386 rfl 2 rfl ?_
  refine w_aload_n C dL_law_1387 rfl 0 rfl ?_
  refine w_iload_n C dL_law_1388 rfl 3 rfl ?_
  refine w_iconst C (x := 1) dL_law_1389 rfl ?_
  refine w_iadd C (nI (a + 1)) (nI_add a 1) dL_law_1390 ?_
  refine w_sld C (a + 1) rfl (by omega) hLL dL_law_1391 ?_
  refine w_aload_n C dL_law_1392 rfl 0 rfl ?_
  refine w_iload_n C dL_law_1393 rfl 3 rfl ?_
  refine w_iconst C (x := 2) dL_law_1394 rfl ?_
  refine w_iadd C (nI (a + 2)) (nI_add a 2) dL_law_1395 ?_
  refine w_sld C (a + 2) rfl (by omega) hLL dL_law_1396 ?_
  refine w_aload_n C dL_law_1397 rfl 0 rfl ?_
  refine w_iload_n C dL_law_1398 rfl 3 rfl ?_
  refine w_iconst C (x := 3) dL_law_1399 rfl ?_
  refine w_iadd C (nI (a + 3)) (nI_add a 3) dL_law_1400 ?_
  refine w_sld C (a + 3) rfl (by omega) hLL dL_law_1401 ?_
  refine w_call C (As := [.int (xs (a + 1)), .int (xs (a + 2)), .int (xs (a + 3))]) (st := [.int r]) (eX6_packetAt C.2.2.2.2.2.2.2.2.2.1 h2) cvL_164 (Nat.le_of_ble_eq_true rfl) (ok_e30 C.2.2.2.2.2.2.2.2.2.1) rfl (Nat.le_of_ble_eq_true rfl) hroom _ rfl dL_law_1402 [.int r, .int r] rfl ?_
  refine w_eq_t C (tgt := 1871) rfl dL_law_1405 rfl ?_
  exact hnext σ2 hI
set_option maxRecDepth 100000 in
set_option maxHeartbeats 4000000 in
theorem wc36 {l : Launch} {w : xW} {p : Program} {e : Env} {s : State} {m : MethodId} {below : List Frame} {meth : Method} {c : Code} {b LL : Nat} {xs : Nat → Int32} {Q : State → Prop} {kc ns a n : Nat} {σ : xS} {Inv : Nat → xS → Prop} (hOK : xP36 Inv) (C : wAmb w p s m c b LL xs) (hLL : LL < 2 ^ 31) (ha : a + 4 < LL) (hroom : kc ≤ 600000 ∧ ns ≤ 7302250) (hI0 : Inv n σ) (hn : n < 512) (hnext : ∀ σ2, Inv (n + 1) σ2 → wAt l w p e s m below meth c b Q kc ns 1871 [(0, .ref b), (1, .ref (w.2.2 4 20 0 0)), (2, .ref (w.2.2 5 30 0 0)), (3, .int (nI a))] [] σ2) : wAt l w p e s m below meth c b Q kc ns 1410 [(0, .ref b), (1, .ref (w.2.2 4 20 0 0)), (2, .ref (w.2.2 5 30 0 0)), (3, .int (nI a))] [] σ := by
  obtain ⟨r, σ1, σ2, h1, h2, hI⟩ := hOK n σ (xs (a + 1)) hI0 hn
  refine w_aload_n C dL_law_1410 rfl 1 rfl ?_
  refine w_aload_n C dL_law_1411 rfl 0 rfl ?_
  refine w_iload_n C dL_law_1412 rfl 3 rfl ?_
  refine w_iconst C (x := 1) dL_law_1413 rfl ?_
  refine w_iadd C (nI (a + 1)) (nI_add a 1) dL_law_1414 ?_
  refine w_sld C (a + 1) rfl (by omega) hLL dL_law_1415 ?_
  refine w_call C (As := [.int (xs (a + 1))]) (st := []) (eX5_fragments h1) cvL_165 (Nat.le_of_ble_eq_true rfl) ok_e20 rfl (Nat.le_of_ble_eq_true rfl) hroom _ rfl dL_law_1416 [.int r] rfl ?_
  refine w_aload_n C dL_law_1419 rfl 2 rfl ?_
  refine w_aload_n C dL_law_1420 rfl 0 rfl ?_
  refine w_iload_n C dL_law_1421 rfl 3 rfl ?_
  refine w_iconst C (x := 1) dL_law_1422 rfl ?_
  refine w_iadd C (nI (a + 1)) (nI_add a 1) dL_law_1423 ?_
  refine w_sld C (a + 1) rfl (by omega) hLL dL_law_1424 ?_
  refine w_call C (As := [.int (xs (a + 1))]) (st := [.int r]) (eX6_fragments C.2.2.2.2.2.2.2.2.2.1 h2) cvL_168 (Nat.le_of_ble_eq_true rfl) (ok_e30 C.2.2.2.2.2.2.2.2.2.1) rfl (Nat.le_of_ble_eq_true rfl) hroom _ rfl dL_law_1425 [.int r, .int r] rfl ?_
  refine w_eq_t C (tgt := 1871) rfl dL_law_1428 rfl ?_
  exact hnext σ2 hI
set_option maxRecDepth 100000 in
set_option maxHeartbeats 4000000 in
theorem wc37 {l : Launch} {w : xW} {p : Program} {e : Env} {s : State} {m : MethodId} {below : List Frame} {meth : Method} {c : Code} {b LL : Nat} {xs : Nat → Int32} {Q : State → Prop} {kc ns a n : Nat} {σ : xS} {Inv : Nat → xS → Prop} (hOK : xP37 Inv) (C : wAmb w p s m c b LL xs) (hLL : LL < 2 ^ 31) (ha : a + 4 < LL) (hroom : kc ≤ 600000 ∧ ns ≤ 7302250) (hI0 : Inv n σ) (hn : n < 512) (hnext : ∀ σ2, Inv (n + 1) σ2 → wAt l w p e s m below meth c b Q kc ns 1871 [(0, .ref b), (1, .ref (w.2.2 4 20 0 0)), (2, .ref (w.2.2 5 30 0 0)), (3, .int (nI a))] [] σ2) : wAt l w p e s m below meth c b Q kc ns 1433 [(0, .ref b), (1, .ref (w.2.2 4 20 0 0)), (2, .ref (w.2.2 5 30 0 0)), (3, .int (nI a))] [] σ := by
  obtain ⟨r, σ1, σ2, h1, h2, hI⟩ := hOK n σ (xs (a + 1)) (xs (a + 2)) hI0 hn
  refine w_aload_n C dL_law_1433 rfl 1 rfl ?_
  refine w_aload_n C dL_law_1434 rfl 0 rfl ?_
  refine w_iload_n C dL_law_1435 rfl 3 rfl ?_
  refine w_iconst C (x := 1) dL_law_1436 rfl ?_
  refine w_iadd C (nI (a + 1)) (nI_add a 1) dL_law_1437 ?_
  refine w_sld C (a + 1) rfl (by omega) hLL dL_law_1438 ?_
  refine w_aload_n C dL_law_1439 rfl 0 rfl ?_
  refine w_iload_n C dL_law_1440 rfl 3 rfl ?_
  refine w_iconst C (x := 2) dL_law_1441 rfl ?_
  refine w_iadd C (nI (a + 2)) (nI_add a 2) dL_law_1442 ?_
  refine w_sld C (a + 2) rfl (by omega) hLL dL_law_1443 ?_
  refine w_call C (As := [.int (xs (a + 1)), .int (xs (a + 2))]) (st := []) (eX5_fragmentStart h1) cvL_169 (Nat.le_of_ble_eq_true rfl) ok_e20 rfl (Nat.le_of_ble_eq_true rfl) hroom _ rfl dL_law_1444 [.int r] rfl ?_
  refine w_aload_n C dL_law_1447 rfl 2 rfl ?_
  refine w_aload_n C dL_law_1448 rfl 0 rfl ?_
  refine w_iload_n C dL_law_1449 rfl 3 rfl ?_
  refine w_iconst C (x := 1) dL_law_1450 rfl ?_
  refine w_iadd C (nI (a + 1)) (nI_add a 1) dL_law_1451 ?_
  refine w_sld C (a + 1) rfl (by omega) hLL dL_law_1452 ?_
  refine w_aload_n C dL_law_1453 rfl 0 rfl ?_
  refine w_iload_n C dL_law_1454 rfl 3 rfl ?_
  refine w_iconst C (x := 2) dL_law_1455 rfl ?_
  refine w_iadd C (nI (a + 2)) (nI_add a 2) dL_law_1456 ?_
  refine w_sld C (a + 2) rfl (by omega) hLL dL_law_1457 ?_
  refine w_call C (As := [.int (xs (a + 1)), .int (xs (a + 2))]) (st := [.int r]) (eX6_fragmentStart C.2.2.2.2.2.2.2.2.2.1 h2) cvL_172 (Nat.le_of_ble_eq_true rfl) (ok_e30 C.2.2.2.2.2.2.2.2.2.1) rfl (Nat.le_of_ble_eq_true rfl) hroom _ rfl dL_law_1458 [.int r, .int r] rfl ?_
  refine w_eq_t C (tgt := 1871) rfl dL_law_1461 rfl ?_
  exact hnext σ2 hI
set_option maxRecDepth 100000 in
set_option maxHeartbeats 4000000 in
theorem wc38 {l : Launch} {w : xW} {p : Program} {e : Env} {s : State} {m : MethodId} {below : List Frame} {meth : Method} {c : Code} {b LL : Nat} {xs : Nat → Int32} {Q : State → Prop} {kc ns a n : Nat} {σ : xS} {Inv : Nat → xS → Prop} (hOK : xP38 Inv) (C : wAmb w p s m c b LL xs) (hLL : LL < 2 ^ 31) (ha : a + 4 < LL) (hroom : kc ≤ 600000 ∧ ns ≤ 7302250) (hI0 : Inv n σ) (hn : n < 512) (hnext : ∀ σ2, Inv (n + 1) σ2 → wAt l w p e s m below meth c b Q kc ns 1871 [(0, .ref b), (1, .ref (w.2.2 4 20 0 0)), (2, .ref (w.2.2 5 30 0 0)), (3, .int (nI a))] [] σ2) : wAt l w p e s m below meth c b Q kc ns 1466 [(0, .ref b), (1, .ref (w.2.2 4 20 0 0)), (2, .ref (w.2.2 5 30 0 0)), (3, .int (nI a))] [] σ := by
  obtain ⟨r, σ1, σ2, h1, h2, hI⟩ := hOK n σ (xs (a + 1)) (xs (a + 2)) hI0 hn
  refine w_aload_n C dL_law_1466 rfl 1 rfl ?_
  refine w_aload_n C dL_law_1467 rfl 0 rfl ?_
  refine w_iload_n C dL_law_1468 rfl 3 rfl ?_
  refine w_iconst C (x := 1) dL_law_1469 rfl ?_
  refine w_iadd C (nI (a + 1)) (nI_add a 1) dL_law_1470 ?_
  refine w_sld C (a + 1) rfl (by omega) hLL dL_law_1471 ?_
  refine w_aload_n C dL_law_1472 rfl 0 rfl ?_
  refine w_iload_n C dL_law_1473 rfl 3 rfl ?_
  refine w_iconst C (x := 2) dL_law_1474 rfl ?_
  refine w_iadd C (nI (a + 2)) (nI_add a 2) dL_law_1475 ?_
  refine w_sld C (a + 2) rfl (by omega) hLL dL_law_1476 ?_
  refine w_call C (As := [.int (xs (a + 1)), .int (xs (a + 2))]) (st := []) (eX5_fragmentLength h1) cvL_173 (Nat.le_of_ble_eq_true rfl) ok_e20 rfl (Nat.le_of_ble_eq_true rfl) hroom _ rfl dL_law_1477 [.int r] rfl ?_
  refine w_aload_n C dL_law_1480 rfl 2 rfl ?_
  refine w_aload_n C dL_law_1481 rfl 0 rfl ?_
  refine w_iload_n C dL_law_1482 rfl 3 rfl ?_
  refine w_iconst C (x := 1) dL_law_1483 rfl ?_
  refine w_iadd C (nI (a + 1)) (nI_add a 1) dL_law_1484 ?_
  refine w_sld C (a + 1) rfl (by omega) hLL dL_law_1485 ?_
  refine w_aload_n C dL_law_1486 rfl 0 rfl ?_
  refine w_iload_n C dL_law_1487 rfl 3 rfl ?_
  refine w_iconst C (x := 2) dL_law_1488 rfl ?_
  refine w_iadd C (nI (a + 2)) (nI_add a 2) dL_law_1489 ?_
  refine w_sld C (a + 2) rfl (by omega) hLL dL_law_1490 ?_
  refine w_call C (As := [.int (xs (a + 1)), .int (xs (a + 2))]) (st := [.int r]) (eX6_fragmentLength C.2.2.2.2.2.2.2.2.2.1 h2) cvL_176 (Nat.le_of_ble_eq_true rfl) (ok_e30 C.2.2.2.2.2.2.2.2.2.1) rfl (Nat.le_of_ble_eq_true rfl) hroom _ rfl dL_law_1491 [.int r, .int r] rfl ?_
  refine w_eq_t C (tgt := 1871) rfl dL_law_1494 rfl ?_
  exact hnext σ2 hI
set_option maxRecDepth 100000 in
set_option maxHeartbeats 4000000 in
theorem wc39 {l : Launch} {w : xW} {p : Program} {e : Env} {s : State} {m : MethodId} {below : List Frame} {meth : Method} {c : Code} {b LL : Nat} {xs : Nat → Int32} {Q : State → Prop} {kc ns a n : Nat} {σ : xS} {Inv : Nat → xS → Prop} (hOK : xP39 Inv) (C : wAmb w p s m c b LL xs) (hLL : LL < 2 ^ 31) (ha : a + 4 < LL) (hroom : kc ≤ 600000 ∧ ns ≤ 7302250) (hI0 : Inv n σ) (hn : n < 512) (hnext : ∀ σ2, Inv (n + 1) σ2 → wAt l w p e s m below meth c b Q kc ns 1871 [(0, .ref b), (1, .ref (w.2.2 4 20 0 0)), (2, .ref (w.2.2 5 30 0 0)), (3, .int (nI a))] [] σ2) : wAt l w p e s m below meth c b Q kc ns 1499 [(0, .ref b), (1, .ref (w.2.2 4 20 0 0)), (2, .ref (w.2.2 5 30 0 0)), (3, .int (nI a))] [] σ := by
  obtain ⟨r, σ1, σ2, h1, h2, hI⟩ := hOK n σ hI0 hn
  refine w_aload_n C dL_law_1499 rfl 1 rfl ?_
  refine w_call C (As := []) (st := []) (eX5_freeRuns h1) cvL_177 (Nat.le_of_ble_eq_true rfl) ok_e20 rfl (Nat.le_of_ble_eq_true rfl) hroom _ rfl dL_law_1500 [.int r] rfl ?_
  refine w_aload_n C dL_law_1503 rfl 2 rfl ?_
  refine w_call C (As := []) (st := [.int r]) (eX6_freeRuns C.2.2.2.2.2.2.2.2.2.1 h2) cvL_180 (Nat.le_of_ble_eq_true rfl) (ok_e30 C.2.2.2.2.2.2.2.2.2.1) rfl (Nat.le_of_ble_eq_true rfl) hroom _ rfl dL_law_1504 [.int r, .int r] rfl ?_
  refine w_eq_t C (tgt := 1871) rfl dL_law_1507 rfl ?_
  exact hnext σ2 hI
set_option maxRecDepth 100000 in
set_option maxHeartbeats 4000000 in
theorem wc40 {l : Launch} {w : xW} {p : Program} {e : Env} {s : State} {m : MethodId} {below : List Frame} {meth : Method} {c : Code} {b LL : Nat} {xs : Nat → Int32} {Q : State → Prop} {kc ns a n : Nat} {σ : xS} {Inv : Nat → xS → Prop} (hOK : xP40 Inv) (C : wAmb w p s m c b LL xs) (hLL : LL < 2 ^ 31) (ha : a + 4 < LL) (hroom : kc ≤ 600000 ∧ ns ≤ 7302250) (hI0 : Inv n σ) (hn : n < 512) (hnext : ∀ σ2, Inv (n + 1) σ2 → wAt l w p e s m below meth c b Q kc ns 1871 [(0, .ref b), (1, .ref (w.2.2 4 20 0 0)), (2, .ref (w.2.2 5 30 0 0)), (3, .int (nI a))] [] σ2) : wAt l w p e s m below meth c b Q kc ns 1512 [(0, .ref b), (1, .ref (w.2.2 4 20 0 0)), (2, .ref (w.2.2 5 30 0 0)), (3, .int (nI a))] [] σ := by
  obtain ⟨r, σ1, σ2, h1, h2, hI⟩ := hOK n σ (xs (a + 1)) hI0 hn
  refine w_aload_n C dL_law_1512 rfl 1 rfl ?_
  refine w_aload_n C dL_law_1513 rfl 0 rfl ?_
  refine w_iload_n C dL_law_1514 rfl 3 rfl ?_
  refine w_iconst C (x := 1) dL_law_1515 rfl ?_
  refine w_iadd C (nI (a + 1)) (nI_add a 1) dL_law_1516 ?_
  refine w_sld C (a + 1) rfl (by omega) hLL dL_law_1517 ?_
  refine w_call C (As := [.int (xs (a + 1))]) (st := []) (eX5_runStart h1) cvL_181 (Nat.le_of_ble_eq_true rfl) ok_e20 rfl (Nat.le_of_ble_eq_true rfl) hroom _ rfl dL_law_1518 [.int r] rfl ?_
  refine w_aload_n C dL_law_1521 rfl 2 rfl ?_
  refine w_aload_n C dL_law_1522 rfl 0 rfl ?_
  refine w_iload_n C dL_law_1523 rfl 3 rfl ?_
  refine w_iconst C (x := 1) dL_law_1524 rfl ?_
  refine w_iadd C (nI (a + 1)) (nI_add a 1) dL_law_1525 ?_
  refine w_sld C (a + 1) rfl (by omega) hLL dL_law_1526 ?_
  refine w_call C (As := [.int (xs (a + 1))]) (st := [.int r]) (eX6_runStart C.2.2.2.2.2.2.2.2.2.1 h2) cvL_184 (Nat.le_of_ble_eq_true rfl) (ok_e30 C.2.2.2.2.2.2.2.2.2.1) rfl (Nat.le_of_ble_eq_true rfl) hroom _ rfl dL_law_1527 [.int r, .int r] rfl ?_
  refine w_eq_t C (tgt := 1871) rfl dL_law_1530 rfl ?_
  exact hnext σ2 hI
set_option maxRecDepth 100000 in
set_option maxHeartbeats 4000000 in
theorem wc41 {l : Launch} {w : xW} {p : Program} {e : Env} {s : State} {m : MethodId} {below : List Frame} {meth : Method} {c : Code} {b LL : Nat} {xs : Nat → Int32} {Q : State → Prop} {kc ns a n : Nat} {σ : xS} {Inv : Nat → xS → Prop} (hOK : xP41 Inv) (C : wAmb w p s m c b LL xs) (hLL : LL < 2 ^ 31) (ha : a + 4 < LL) (hroom : kc ≤ 600000 ∧ ns ≤ 7302250) (hI0 : Inv n σ) (hn : n < 512) (hnext : ∀ σ2, Inv (n + 1) σ2 → wAt l w p e s m below meth c b Q kc ns 1871 [(0, .ref b), (1, .ref (w.2.2 4 20 0 0)), (2, .ref (w.2.2 5 30 0 0)), (3, .int (nI a))] [] σ2) : wAt l w p e s m below meth c b Q kc ns 1535 [(0, .ref b), (1, .ref (w.2.2 4 20 0 0)), (2, .ref (w.2.2 5 30 0 0)), (3, .int (nI a))] [] σ := by
  obtain ⟨r, σ1, σ2, h1, h2, hI⟩ := hOK n σ (xs (a + 1)) hI0 hn
  refine w_aload_n C dL_law_1535 rfl 1 rfl ?_
  refine w_aload_n C dL_law_1536 rfl 0 rfl ?_
  refine w_iload_n C dL_law_1537 rfl 3 rfl ?_
  refine w_iconst C (x := 1) dL_law_1538 rfl ?_
  refine w_iadd C (nI (a + 1)) (nI_add a 1) dL_law_1539 ?_
  refine w_sld C (a + 1) rfl (by omega) hLL dL_law_1540 ?_
  refine w_call C (As := [.int (xs (a + 1))]) (st := []) (eX5_runLength h1) cvL_185 (Nat.le_of_ble_eq_true rfl) ok_e20 rfl (Nat.le_of_ble_eq_true rfl) hroom _ rfl dL_law_1541 [.int r] rfl ?_
  refine w_aload_n C dL_law_1544 rfl 2 rfl ?_
  refine w_aload_n C dL_law_1545 rfl 0 rfl ?_
  refine w_iload_n C dL_law_1546 rfl 3 rfl ?_
  refine w_iconst C (x := 1) dL_law_1547 rfl ?_
  refine w_iadd C (nI (a + 1)) (nI_add a 1) dL_law_1548 ?_
  refine w_sld C (a + 1) rfl (by omega) hLL dL_law_1549 ?_
  refine w_call C (As := [.int (xs (a + 1))]) (st := [.int r]) (eX6_runLength C.2.2.2.2.2.2.2.2.2.1 h2) cvL_188 (Nat.le_of_ble_eq_true rfl) (ok_e30 C.2.2.2.2.2.2.2.2.2.1) rfl (Nat.le_of_ble_eq_true rfl) hroom _ rfl dL_law_1550 [.int r, .int r] rfl ?_
  refine w_eq_t C (tgt := 1871) rfl dL_law_1553 rfl ?_
  exact hnext σ2 hI
set_option maxRecDepth 100000 in
set_option maxHeartbeats 4000000 in
theorem wc42 {l : Launch} {w : xW} {p : Program} {e : Env} {s : State} {m : MethodId} {below : List Frame} {meth : Method} {c : Code} {b LL : Nat} {xs : Nat → Int32} {Q : State → Prop} {kc ns a n : Nat} {σ : xS} {Inv : Nat → xS → Prop} (hOK : xP42 Inv) (C : wAmb w p s m c b LL xs) (hLL : LL < 2 ^ 31) (ha : a + 4 < LL) (hroom : kc ≤ 600000 ∧ ns ≤ 7302250) (hI0 : Inv n σ) (hn : n < 512) (hnext : ∀ σ2, Inv (n + 1) σ2 → wAt l w p e s m below meth c b Q kc ns 1871 [(0, .ref b), (1, .ref (w.2.2 4 20 0 0)), (2, .ref (w.2.2 5 30 0 0)), (3, .int (nI a))] [] σ2) : wAt l w p e s m below meth c b Q kc ns 1558 [(0, .ref b), (1, .ref (w.2.2 4 20 0 0)), (2, .ref (w.2.2 5 30 0 0)), (3, .int (nI a))] [] σ := by
  obtain ⟨r, σ1, σ2, h1, h2, hI⟩ := hOK n σ (xs (a + 1)) (xs (a + 2)) (xs (a + 3)) hI0 hn
  refine w_aload_n C dL_law_1558 rfl 1 rfl ?_
  refine w_aload_n C dL_law_1559 rfl 0 rfl ?_
  refine w_iload_n C dL_law_1560 rfl 3 rfl ?_
  refine w_iconst C (x := 1) dL_law_1561 rfl ?_
  refine w_iadd C (nI (a + 1)) (nI_add a 1) dL_law_1562 ?_
  refine w_sld C (a + 1) rfl (by omega) hLL dL_law_1563 ?_
  refine w_aload_n C dL_law_1564 rfl 0 rfl ?_
  refine w_iload_n C dL_law_1565 rfl 3 rfl ?_
  refine w_iconst C (x := 2) dL_law_1566 rfl ?_
  refine w_iadd C (nI (a + 2)) (nI_add a 2) dL_law_1567 ?_
  refine w_sld C (a + 2) rfl (by omega) hLL dL_law_1568 ?_
  refine w_aload_n C dL_law_1569 rfl 0 rfl ?_
  refine w_iload_n C dL_law_1570 rfl 3 rfl ?_
  refine w_iconst C (x := 3) dL_law_1571 rfl ?_
  refine w_iadd C (nI (a + 3)) (nI_add a 3) dL_law_1572 ?_
  refine w_sld C (a + 3) rfl (by omega) hLL dL_law_1573 ?_
  refine w_call C (As := [.int (xs (a + 1)), .int (xs (a + 2)), .int (xs (a + 3))]) (st := []) (eX5_stageFor h1) cvL_189 (Nat.le_of_ble_eq_true rfl) ok_e20 rfl (Nat.le_of_ble_eq_true rfl) hroom _ rfl dL_law_1574 [.int r] rfl ?_
  refine w_aload_n C dL_law_1577 rfl 2 rfl ?_
  refine w_aload_n C dL_law_1578 rfl 0 rfl ?_
  refine w_iload_n C dL_law_1579 rfl 3 rfl ?_
  refine w_iconst C (x := 1) dL_law_1580 rfl ?_
  refine w_iadd C (nI (a + 1)) (nI_add a 1) dL_law_1581 ?_
  refine w_sld C (a + 1) rfl (by omega) hLL dL_law_1582 ?_
  refine w_aload_n C dL_law_1583 rfl 0 rfl ?_
  refine w_iload_n C dL_law_1584 rfl 3 rfl ?_
  refine w_iconst C (x := 2) dL_law_1585 rfl ?_
  refine w_iadd C (nI (a + 2)) (nI_add a 2) dL_law_1586 ?_
  refine w_sld C (a + 2) rfl (by omega) hLL dL_law_1587 ?_
  refine w_aload_n C dL_law_1588 rfl 0 rfl ?_
  refine w_iload_n C dL_law_1589 rfl 3 rfl ?_
  refine w_iconst C (x := 3) dL_law_1590 rfl ?_
  refine w_iadd C (nI (a + 3)) (nI_add a 3) dL_law_1591 ?_
  refine w_sld C (a + 3) rfl (by omega) hLL dL_law_1592 ?_
  refine w_call C (As := [.int (xs (a + 1)), .int (xs (a + 2)), .int (xs (a + 3))]) (st := [.int r]) (eX6_stageFor C.2.2.2.2.2.2.2.2.2.1 h2) cvL_192 (Nat.le_of_ble_eq_true rfl) (ok_e30 C.2.2.2.2.2.2.2.2.2.1) rfl (Nat.le_of_ble_eq_true rfl) hroom _ rfl dL_law_1593 [.int r, .int r] rfl ?_
  refine w_eq_t C (tgt := 1871) rfl dL_law_1596 rfl ?_
  exact hnext σ2 hI
set_option maxRecDepth 100000 in
set_option maxHeartbeats 4000000 in
theorem wc43 {l : Launch} {w : xW} {p : Program} {e : Env} {s : State} {m : MethodId} {below : List Frame} {meth : Method} {c : Code} {b LL : Nat} {xs : Nat → Int32} {Q : State → Prop} {kc ns a n : Nat} {σ : xS} {Inv : Nat → xS → Prop} (hOK : xP43 Inv) (C : wAmb w p s m c b LL xs) (hLL : LL < 2 ^ 31) (ha : a + 4 < LL) (hroom : kc ≤ 600000 ∧ ns ≤ 7302250) (hI0 : Inv n σ) (hn : n < 512) (hnext : ∀ σ2, Inv (n + 1) σ2 → wAt l w p e s m below meth c b Q kc ns 1871 [(0, .ref b), (1, .ref (w.2.2 4 20 0 0)), (2, .ref (w.2.2 5 30 0 0)), (3, .int (nI a))] [] σ2) : wAt l w p e s m below meth c b Q kc ns 1601 [(0, .ref b), (1, .ref (w.2.2 4 20 0 0)), (2, .ref (w.2.2 5 30 0 0)), (3, .int (nI a))] [] σ := by
  obtain ⟨r, σ1, σ2, h1, h2, hI⟩ := hOK n σ (xs (a + 1)) (xs (a + 2)) hI0 hn
  refine w_aload_n C dL_law_1601 rfl 1 rfl ?_
  refine w_aload_n C dL_law_1602 rfl 0 rfl ?_
  refine w_iload_n C dL_law_1603 rfl 3 rfl ?_
  refine w_iconst C (x := 1) dL_law_1604 rfl ?_
  refine w_iadd C (nI (a + 1)) (nI_add a 1) dL_law_1605 ?_
  refine w_sld C (a + 1) rfl (by omega) hLL dL_law_1606 ?_
  refine w_aload_n C dL_law_1607 rfl 0 rfl ?_
  refine w_iload_n C dL_law_1608 rfl 3 rfl ?_
  refine w_iconst C (x := 2) dL_law_1609 rfl ?_
  refine w_iadd C (nI (a + 2)) (nI_add a 2) dL_law_1610 ?_
  refine w_sld C (a + 2) rfl (by omega) hLL dL_law_1611 ?_
  refine w_call C (As := [.int (xs (a + 1)), .int (xs (a + 2))]) (st := []) (eX5_largestAdmissible h1) cvL_193 (Nat.le_of_ble_eq_true rfl) ok_e20 rfl (Nat.le_of_ble_eq_true rfl) hroom _ rfl dL_law_1612 [.int r] rfl ?_
  refine w_aload_n C dL_law_1615 rfl 2 rfl ?_
  refine w_aload_n C dL_law_1616 rfl 0 rfl ?_
  refine w_iload_n C dL_law_1617 rfl 3 rfl ?_
  refine w_iconst C (x := 1) dL_law_1618 rfl ?_
  refine w_iadd C (nI (a + 1)) (nI_add a 1) dL_law_1619 ?_
  refine w_sld C (a + 1) rfl (by omega) hLL dL_law_1620 ?_
  refine w_aload_n C dL_law_1621 rfl 0 rfl ?_
  refine w_iload_n C dL_law_1622 rfl 3 rfl ?_
  refine w_iconst C (x := 2) dL_law_1623 rfl ?_
  refine w_iadd C (nI (a + 2)) (nI_add a 2) dL_law_1624 ?_
  refine w_sld C (a + 2) rfl (by omega) hLL dL_law_1625 ?_
  refine w_call C (As := [.int (xs (a + 1)), .int (xs (a + 2))]) (st := [.int r]) (eX6_largestAdmissible C.2.2.2.2.2.2.2.2.2.1 h2) cvL_196 (Nat.le_of_ble_eq_true rfl) (ok_e30 C.2.2.2.2.2.2.2.2.2.1) rfl (Nat.le_of_ble_eq_true rfl) hroom _ rfl dL_law_1626 [.int r, .int r] rfl ?_
  refine w_eq_t C (tgt := 1871) rfl dL_law_1629 rfl ?_
  exact hnext σ2 hI
set_option maxRecDepth 100000 in
set_option maxHeartbeats 4000000 in
theorem wc44 {l : Launch} {w : xW} {p : Program} {e : Env} {s : State} {m : MethodId} {below : List Frame} {meth : Method} {c : Code} {b LL : Nat} {xs : Nat → Int32} {Q : State → Prop} {kc ns a n : Nat} {σ : xS} {Inv : Nat → xS → Prop} (hOK : xP44 Inv) (C : wAmb w p s m c b LL xs) (hLL : LL < 2 ^ 31) (ha : a + 4 < LL) (hroom : kc ≤ 600000 ∧ ns ≤ 7302250) (hI0 : Inv n σ) (hn : n < 512) (hnext : ∀ σ2, Inv (n + 1) σ2 → wAt l w p e s m below meth c b Q kc ns 1871 [(0, .ref b), (1, .ref (w.2.2 4 20 0 0)), (2, .ref (w.2.2 5 30 0 0)), (3, .int (nI a))] [] σ2) : wAt l w p e s m below meth c b Q kc ns 1634 [(0, .ref b), (1, .ref (w.2.2 4 20 0 0)), (2, .ref (w.2.2 5 30 0 0)), (3, .int (nI a))] [] σ := by
  obtain ⟨r, σ1, σ2, h1, h2, hI⟩ := hOK n σ (xs (a + 1)) (xs (a + 2)) (xs (a + 3)) hI0 hn
  refine w_aload_n C dL_law_1634 rfl 1 rfl ?_
  refine w_aload_n C dL_law_1635 rfl 0 rfl ?_
  refine w_iload_n C dL_law_1636 rfl 3 rfl ?_
  refine w_iconst C (x := 1) dL_law_1637 rfl ?_
  refine w_iadd C (nI (a + 1)) (nI_add a 1) dL_law_1638 ?_
  refine w_sld C (a + 1) rfl (by omega) hLL dL_law_1639 ?_
  refine w_aload_n C dL_law_1640 rfl 0 rfl ?_
  refine w_iload_n C dL_law_1641 rfl 3 rfl ?_
  refine w_iconst C (x := 2) dL_law_1642 rfl ?_
  refine w_iadd C (nI (a + 2)) (nI_add a 2) dL_law_1643 ?_
  refine w_sld C (a + 2) rfl (by omega) hLL dL_law_1644 ?_
  refine w_aload_n C dL_law_1645 rfl 0 rfl ?_
  refine w_iload_n C dL_law_1646 rfl 3 rfl ?_
  refine w_iconst C (x := 3) dL_law_1647 rfl ?_
  refine w_iadd C (nI (a + 3)) (nI_add a 3) dL_law_1648 ?_
  refine w_sld C (a + 3) rfl (by omega) hLL dL_law_1649 ?_
  refine w_call C (As := [.int (xs (a + 1)), .int (xs (a + 2)), .int (xs (a + 3))]) (st := []) (eX5_burstCapacity h1) cvL_197 (Nat.le_of_ble_eq_true rfl) ok_e20 rfl (Nat.le_of_ble_eq_true rfl) hroom _ rfl dL_law_1650 [.int r] rfl ?_
  refine w_aload_n C dL_law_1653 rfl 2 rfl ?_
  refine w_aload_n C dL_law_1654 rfl 0 rfl ?_
  refine w_iload_n C dL_law_1655 rfl 3 rfl ?_
  refine w_iconst C (x := 1) dL_law_1656 rfl ?_
  refine w_iadd C (nI (a + 1)) (nI_add a 1) dL_law_1657 ?_
  refine w_sld C (a + 1) rfl (by omega) hLL dL_law_1658 ?_
  refine w_aload_n C dL_law_1659 rfl 0 rfl ?_
  refine w_iload_n C dL_law_1660 rfl 3 rfl ?_
  refine w_iconst C (x := 2) dL_law_1661 rfl ?_
  refine w_iadd C (nI (a + 2)) (nI_add a 2) dL_law_1662 ?_
  refine w_sld C (a + 2) rfl (by omega) hLL dL_law_1663 ?_
  refine w_aload_n C dL_law_1664 rfl 0 rfl ?_
  refine w_iload_n C dL_law_1665 rfl 3 rfl ?_
  refine w_iconst C (x := 3) dL_law_1666 rfl ?_
  refine w_iadd C (nI (a + 3)) (nI_add a 3) dL_law_1667 ?_
  refine w_sld C (a + 3) rfl (by omega) hLL dL_law_1668 ?_
  refine w_call C (As := [.int (xs (a + 1)), .int (xs (a + 2)), .int (xs (a + 3))]) (st := [.int r]) (eX6_burstCapacity C.2.2.2.2.2.2.2.2.2.1 h2) cvL_200 (Nat.le_of_ble_eq_true rfl) (ok_e30 C.2.2.2.2.2.2.2.2.2.1) rfl (Nat.le_of_ble_eq_true rfl) hroom _ rfl dL_law_1669 [.int r, .int r] rfl ?_
  refine w_eq_t C (tgt := 1871) rfl dL_law_1672 rfl ?_
  exact hnext σ2 hI
set_option maxRecDepth 100000 in
set_option maxHeartbeats 4000000 in
theorem wc45 {l : Launch} {w : xW} {p : Program} {e : Env} {s : State} {m : MethodId} {below : List Frame} {meth : Method} {c : Code} {b LL : Nat} {xs : Nat → Int32} {Q : State → Prop} {kc ns a n : Nat} {σ : xS} {Inv : Nat → xS → Prop} (hOK : xP45 Inv) (C : wAmb w p s m c b LL xs) (hLL : LL < 2 ^ 31) (ha : a + 4 < LL) (hroom : kc ≤ 600000 ∧ ns ≤ 7302250) (hI0 : Inv n σ) (hn : n < 512) (hnext : ∀ σ2, Inv (n + 1) σ2 → wAt l w p e s m below meth c b Q kc ns 1871 [(0, .ref b), (1, .ref (w.2.2 4 20 0 0)), (2, .ref (w.2.2 5 30 0 0)), (3, .int (nI a))] [] σ2) : wAt l w p e s m below meth c b Q kc ns 1677 [(0, .ref b), (1, .ref (w.2.2 4 20 0 0)), (2, .ref (w.2.2 5 30 0 0)), (3, .int (nI a))] [] σ := by
  obtain ⟨r, σ1, σ2, h1, h2, hI⟩ := hOK n σ (xs (a + 1)) hI0 hn
  refine w_aload_n C dL_law_1677 rfl 1 rfl ?_
  refine w_aload_n C dL_law_1678 rfl 0 rfl ?_
  refine w_iload_n C dL_law_1679 rfl 3 rfl ?_
  refine w_iconst C (x := 1) dL_law_1680 rfl ?_
  refine w_iadd C (nI (a + 1)) (nI_add a 1) dL_law_1681 ?_
  refine w_sld C (a + 1) rfl (by omega) hLL dL_law_1682 ?_
  refine w_call C (As := [.int (xs (a + 1))]) (st := []) (eX5_drainTicks h1) cvL_201 (Nat.le_of_ble_eq_true rfl) ok_e20 rfl (Nat.le_of_ble_eq_true rfl) hroom _ rfl dL_law_1683 [.int r] rfl ?_
  refine w_aload_n C dL_law_1686 rfl 2 rfl ?_
  refine w_aload_n C dL_law_1687 rfl 0 rfl ?_
  refine w_iload_n C dL_law_1688 rfl 3 rfl ?_
  refine w_iconst C (x := 1) dL_law_1689 rfl ?_
  refine w_iadd C (nI (a + 1)) (nI_add a 1) dL_law_1690 ?_
  refine w_sld C (a + 1) rfl (by omega) hLL dL_law_1691 ?_
  refine w_call C (As := [.int (xs (a + 1))]) (st := [.int r]) (eX6_drainTicks C.2.2.2.2.2.2.2.2.2.1 h2) cvL_204 (Nat.le_of_ble_eq_true rfl) (ok_e30 C.2.2.2.2.2.2.2.2.2.1) rfl (Nat.le_of_ble_eq_true rfl) hroom _ rfl dL_law_1692 [.int r, .int r] rfl ?_
  refine w_eq_t C (tgt := 1871) rfl dL_law_1695 rfl ?_
  exact hnext σ2 hI
set_option maxRecDepth 100000 in
set_option maxHeartbeats 4000000 in
theorem wc46 {l : Launch} {w : xW} {p : Program} {e : Env} {s : State} {m : MethodId} {below : List Frame} {meth : Method} {c : Code} {b LL : Nat} {xs : Nat → Int32} {Q : State → Prop} {kc ns a n : Nat} {σ : xS} {Inv : Nat → xS → Prop} (hOK : xP46 Inv) (C : wAmb w p s m c b LL xs) (hLL : LL < 2 ^ 31) (ha : a + 4 < LL) (hroom : kc ≤ 600000 ∧ ns ≤ 7302250) (hI0 : Inv n σ) (hn : n < 512) (hnext : ∀ σ2, Inv (n + 1) σ2 → wAt l w p e s m below meth c b Q kc ns 1871 [(0, .ref b), (1, .ref (w.2.2 4 20 0 0)), (2, .ref (w.2.2 5 30 0 0)), (3, .int (nI a))] [] σ2) : wAt l w p e s m below meth c b Q kc ns 1700 [(0, .ref b), (1, .ref (w.2.2 4 20 0 0)), (2, .ref (w.2.2 5 30 0 0)), (3, .int (nI a))] [] σ := by
  by_cases hz2 : xs (a + 2) = 0
  · skip
    obtain ⟨r, σ1, σ2, h1, h2, hI⟩ := hOK n σ (xs (a + 1)) 0 hI0 hn rfl
    refine w_aload_n C dL_law_1700 rfl 1 rfl ?_
    refine w_aload_n C dL_law_1701 rfl 0 rfl ?_
    refine w_iload_n C dL_law_1702 rfl 3 rfl ?_
    refine w_iconst C (x := 1) dL_law_1703 rfl ?_
    refine w_iadd C (nI (a + 1)) (nI_add a 1) dL_law_1704 ?_
    refine w_sld C (a + 1) rfl (by omega) hLL dL_law_1705 ?_
    refine w_aload_n C dL_law_1706 rfl 0 rfl ?_
    refine w_iload_n C dL_law_1707 rfl 3 rfl ?_
    refine w_iconst C (x := 2) dL_law_1708 rfl ?_
    refine w_iadd C (nI (a + 2)) (nI_add a 2) dL_law_1709 ?_
    refine w_sld C (a + 2) rfl (by omega) hLL dL_law_1710 ?_
    refine w_ifeq_t C (tgt := 1718) hz2 dL_law_1711 rfl ?_
    refine w_iconst C (x := 0) dL_law_1718 rfl ?_
    refine w_call C (As := [.int (xs (a + 1)), .int 0]) (st := []) (eX5_equilibrium h1) cvL_205 (Nat.le_of_ble_eq_true rfl) ok_e20 rfl (Nat.le_of_ble_eq_true rfl) hroom _ rfl dL_law_1719 [.int r] rfl ?_
    refine w_aload_n C dL_law_1722 rfl 2 rfl ?_
    refine w_aload_n C dL_law_1723 rfl 0 rfl ?_
    refine w_iload_n C dL_law_1724 rfl 3 rfl ?_
    refine w_iconst C (x := 1) dL_law_1725 rfl ?_
    refine w_iadd C (nI (a + 1)) (nI_add a 1) dL_law_1726 ?_
    refine w_sld C (a + 1) rfl (by omega) hLL dL_law_1727 ?_
    refine w_aload_n C dL_law_1728 rfl 0 rfl ?_
    refine w_iload_n C dL_law_1729 rfl 3 rfl ?_
    refine w_iconst C (x := 2) dL_law_1730 rfl ?_
    refine w_iadd C (nI (a + 2)) (nI_add a 2) dL_law_1731 ?_
    refine w_sld C (a + 2) rfl (by omega) hLL dL_law_1732 ?_
    refine w_ifeq_t C (tgt := 1740) hz2 dL_law_1733 rfl ?_
    refine w_iconst C (x := 0) dL_law_1740 rfl ?_
    refine w_call C (As := [.int (xs (a + 1)), .int 0]) (st := [.int r]) (eX6_equilibrium C.2.2.2.2.2.2.2.2.2.1 h2) cvL_209 (Nat.le_of_ble_eq_true rfl) (ok_e30 C.2.2.2.2.2.2.2.2.2.1) rfl (Nat.le_of_ble_eq_true rfl) hroom _ rfl dL_law_1741 [.int r, .int r] rfl ?_
    refine w_eq_t C (tgt := 1871) rfl dL_law_1744 rfl ?_
    exact hnext σ2 hI
  · skip
    obtain ⟨r, σ1, σ2, h1, h2, hI⟩ := hOK n σ (xs (a + 1)) 1 hI0 hn rfl
    refine w_aload_n C dL_law_1700 rfl 1 rfl ?_
    refine w_aload_n C dL_law_1701 rfl 0 rfl ?_
    refine w_iload_n C dL_law_1702 rfl 3 rfl ?_
    refine w_iconst C (x := 1) dL_law_1703 rfl ?_
    refine w_iadd C (nI (a + 1)) (nI_add a 1) dL_law_1704 ?_
    refine w_sld C (a + 1) rfl (by omega) hLL dL_law_1705 ?_
    refine w_aload_n C dL_law_1706 rfl 0 rfl ?_
    refine w_iload_n C dL_law_1707 rfl 3 rfl ?_
    refine w_iconst C (x := 2) dL_law_1708 rfl ?_
    refine w_iadd C (nI (a + 2)) (nI_add a 2) dL_law_1709 ?_
    refine w_sld C (a + 2) rfl (by omega) hLL dL_law_1710 ?_
    refine w_ifeq_f C (tgt := 1718) hz2 dL_law_1711 rfl ?_
    refine w_iconst C (x := 1) dL_law_1714 rfl ?_
    refine w_goto C (tgt := 1719) dL_law_1715 rfl ?_
    refine w_call C (As := [.int (xs (a + 1)), .int 1]) (st := []) (eX5_equilibrium h1) cvL_205 (Nat.le_of_ble_eq_true rfl) ok_e20 rfl (Nat.le_of_ble_eq_true rfl) hroom _ rfl dL_law_1719 [.int r] rfl ?_
    refine w_aload_n C dL_law_1722 rfl 2 rfl ?_
    refine w_aload_n C dL_law_1723 rfl 0 rfl ?_
    refine w_iload_n C dL_law_1724 rfl 3 rfl ?_
    refine w_iconst C (x := 1) dL_law_1725 rfl ?_
    refine w_iadd C (nI (a + 1)) (nI_add a 1) dL_law_1726 ?_
    refine w_sld C (a + 1) rfl (by omega) hLL dL_law_1727 ?_
    refine w_aload_n C dL_law_1728 rfl 0 rfl ?_
    refine w_iload_n C dL_law_1729 rfl 3 rfl ?_
    refine w_iconst C (x := 2) dL_law_1730 rfl ?_
    refine w_iadd C (nI (a + 2)) (nI_add a 2) dL_law_1731 ?_
    refine w_sld C (a + 2) rfl (by omega) hLL dL_law_1732 ?_
    refine w_ifeq_f C (tgt := 1740) hz2 dL_law_1733 rfl ?_
    refine w_iconst C (x := 1) dL_law_1736 rfl ?_
    refine w_goto C (tgt := 1741) dL_law_1737 rfl ?_
    refine w_call C (As := [.int (xs (a + 1)), .int 1]) (st := [.int r]) (eX6_equilibrium C.2.2.2.2.2.2.2.2.2.1 h2) cvL_209 (Nat.le_of_ble_eq_true rfl) (ok_e30 C.2.2.2.2.2.2.2.2.2.1) rfl (Nat.le_of_ble_eq_true rfl) hroom _ rfl dL_law_1741 [.int r, .int r] rfl ?_
    refine w_eq_t C (tgt := 1871) rfl dL_law_1744 rfl ?_
    exact hnext σ2 hI
set_option maxRecDepth 100000 in
set_option maxHeartbeats 4000000 in
theorem wc47 {l : Launch} {w : xW} {p : Program} {e : Env} {s : State} {m : MethodId} {below : List Frame} {meth : Method} {c : Code} {b LL : Nat} {xs : Nat → Int32} {Q : State → Prop} {kc ns a n : Nat} {σ : xS} {Inv : Nat → xS → Prop} (hOK : xP47 Inv) (C : wAmb w p s m c b LL xs) (hLL : LL < 2 ^ 31) (ha : a + 4 < LL) (hroom : kc ≤ 600000 ∧ ns ≤ 7302250) (hI0 : Inv n σ) (hn : n < 512) (hnext : ∀ σ2, Inv (n + 1) σ2 → wAt l w p e s m below meth c b Q kc ns 1871 [(0, .ref b), (1, .ref (w.2.2 4 20 0 0)), (2, .ref (w.2.2 5 30 0 0)), (3, .int (nI a))] [] σ2) : wAt l w p e s m below meth c b Q kc ns 1749 [(0, .ref b), (1, .ref (w.2.2 4 20 0 0)), (2, .ref (w.2.2 5 30 0 0)), (3, .int (nI a))] [] σ := by
  obtain ⟨r, σ1, σ2, h1, h2, hI⟩ := hOK n σ (xs (a + 1)) hI0 hn
  refine w_aload_n C dL_law_1749 rfl 1 rfl ?_
  refine w_aload_n C dL_law_1750 rfl 0 rfl ?_
  refine w_iload_n C dL_law_1751 rfl 3 rfl ?_
  refine w_iconst C (x := 1) dL_law_1752 rfl ?_
  refine w_iadd C (nI (a + 1)) (nI_add a 1) dL_law_1753 ?_
  refine w_sld C (a + 1) rfl (by omega) hLL dL_law_1754 ?_
  refine w_call C (As := [.int (xs (a + 1))]) (st := []) (eX5_append h1) cvL_210 (Nat.le_of_ble_eq_true rfl) ok_e20 rfl (Nat.le_of_ble_eq_true rfl) hroom _ rfl dL_law_1755 [.int r] rfl ?_
  refine w_aload_n C dL_law_1758 rfl 2 rfl ?_
  refine w_aload_n C dL_law_1759 rfl 0 rfl ?_
  refine w_iload_n C dL_law_1760 rfl 3 rfl ?_
  refine w_iconst C (x := 1) dL_law_1761 rfl ?_
  refine w_iadd C (nI (a + 1)) (nI_add a 1) dL_law_1762 ?_
  refine w_sld C (a + 1) rfl (by omega) hLL dL_law_1763 ?_
  refine w_call C (As := [.int (xs (a + 1))]) (st := [.int r]) (eX6_append C.2.2.2.2.2.2.2.2.2.1 h2) cvL_213 (Nat.le_of_ble_eq_true rfl) (ok_e30 C.2.2.2.2.2.2.2.2.2.1) rfl (Nat.le_of_ble_eq_true rfl) hroom _ rfl dL_law_1764 [.int r, .int r] rfl ?_
  refine w_eq_t C (tgt := 1871) rfl dL_law_1767 rfl ?_
  exact hnext σ2 hI
set_option maxRecDepth 100000 in
set_option maxHeartbeats 4000000 in
theorem wc48 {l : Launch} {w : xW} {p : Program} {e : Env} {s : State} {m : MethodId} {below : List Frame} {meth : Method} {c : Code} {b LL : Nat} {xs : Nat → Int32} {Q : State → Prop} {kc ns a n : Nat} {σ : xS} {Inv : Nat → xS → Prop} (hOK : xP48 Inv) (C : wAmb w p s m c b LL xs) (hLL : LL < 2 ^ 31) (ha : a + 4 < LL) (hroom : kc ≤ 600000 ∧ ns ≤ 7302250) (hI0 : Inv n σ) (hn : n < 512) (hnext : ∀ σ2, Inv (n + 1) σ2 → wAt l w p e s m below meth c b Q kc ns 1871 [(0, .ref b), (1, .ref (w.2.2 4 20 0 0)), (2, .ref (w.2.2 5 30 0 0)), (3, .int (nI a))] [] σ2) : wAt l w p e s m below meth c b Q kc ns 1772 [(0, .ref b), (1, .ref (w.2.2 4 20 0 0)), (2, .ref (w.2.2 5 30 0 0)), (3, .int (nI a))] [] σ := by
  obtain ⟨r, σ1, σ2, h1, h2, hI⟩ := hOK n σ hI0 hn
  refine w_aload_n C dL_law_1772 rfl 1 rfl ?_
  refine w_call C (As := []) (st := []) (eX5_clearText h1) cvL_214 (Nat.le_of_ble_eq_true rfl) ok_e20 rfl (Nat.le_of_ble_eq_true rfl) hroom _ rfl dL_law_1773 [.int r] rfl ?_
  refine w_aload_n C dL_law_1776 rfl 2 rfl ?_
  refine w_call C (As := []) (st := [.int r]) (eX6_clearText C.2.2.2.2.2.2.2.2.2.1 h2) cvL_217 (Nat.le_of_ble_eq_true rfl) (ok_e30 C.2.2.2.2.2.2.2.2.2.1) rfl (Nat.le_of_ble_eq_true rfl) hroom _ rfl dL_law_1777 [.int r, .int r] rfl ?_
  refine w_eq_t C (tgt := 1871) rfl dL_law_1780 rfl ?_
  exact hnext σ2 hI
set_option maxRecDepth 100000 in
set_option maxHeartbeats 4000000 in
theorem wc49 {l : Launch} {w : xW} {p : Program} {e : Env} {s : State} {m : MethodId} {below : List Frame} {meth : Method} {c : Code} {b LL : Nat} {xs : Nat → Int32} {Q : State → Prop} {kc ns a n : Nat} {σ : xS} {Inv : Nat → xS → Prop} (hOK : xP49 Inv) (C : wAmb w p s m c b LL xs) (hLL : LL < 2 ^ 31) (ha : a + 4 < LL) (hroom : kc ≤ 600000 ∧ ns ≤ 7302250) (hI0 : Inv n σ) (hn : n < 512) (hnext : ∀ σ2, Inv (n + 1) σ2 → wAt l w p e s m below meth c b Q kc ns 1871 [(0, .ref b), (1, .ref (w.2.2 4 20 0 0)), (2, .ref (w.2.2 5 30 0 0)), (3, .int (nI a))] [] σ2) : wAt l w p e s m below meth c b Q kc ns 1785 [(0, .ref b), (1, .ref (w.2.2 4 20 0 0)), (2, .ref (w.2.2 5 30 0 0)), (3, .int (nI a))] [] σ := by
  obtain ⟨r, σ1, σ2, h1, h2, hI⟩ := hOK n σ hI0 hn
  refine w_aload_n C dL_law_1785 rfl 1 rfl ?_
  refine w_call C (As := []) (st := []) (eX5_faultPosition h1) cvL_218 (Nat.le_of_ble_eq_true rfl) ok_e20 rfl (Nat.le_of_ble_eq_true rfl) hroom _ rfl dL_law_1786 [.int r] rfl ?_
  refine w_aload_n C dL_law_1789 rfl 2 rfl ?_
  refine w_call C (As := []) (st := [.int r]) (eX6_faultPosition C.2.2.2.2.2.2.2.2.2.1 h2) cvL_221 (Nat.le_of_ble_eq_true rfl) (ok_e30 C.2.2.2.2.2.2.2.2.2.1) rfl (Nat.le_of_ble_eq_true rfl) hroom _ rfl dL_law_1790 [.int r, .int r] rfl ?_
  refine w_eq_t C (tgt := 1871) rfl dL_law_1793 rfl ?_
  exact hnext σ2 hI
set_option maxRecDepth 100000 in
set_option maxHeartbeats 4000000 in
theorem wc50 {l : Launch} {w : xW} {p : Program} {e : Env} {s : State} {m : MethodId} {below : List Frame} {meth : Method} {c : Code} {b LL : Nat} {xs : Nat → Int32} {Q : State → Prop} {kc ns a n : Nat} {σ : xS} {Inv : Nat → xS → Prop} (hOK : xP50 Inv) (C : wAmb w p s m c b LL xs) (hLL : LL < 2 ^ 31) (ha : a + 4 < LL) (hroom : kc ≤ 600000 ∧ ns ≤ 7302250) (hI0 : Inv n σ) (hn : n < 512) (hnext : ∀ σ2, Inv (n + 1) σ2 → wAt l w p e s m below meth c b Q kc ns 1871 [(0, .ref b), (1, .ref (w.2.2 4 20 0 0)), (2, .ref (w.2.2 5 30 0 0)), (3, .int (nI a))] [] σ2) : wAt l w p e s m below meth c b Q kc ns 1798 [(0, .ref b), (1, .ref (w.2.2 4 20 0 0)), (2, .ref (w.2.2 5 30 0 0)), (3, .int (nI a))] [] σ := by
  obtain ⟨r, σ1, σ2, h1, h2, hI⟩ := hOK n σ hI0 hn
  refine w_aload_n C dL_law_1798 rfl 1 rfl ?_
  refine w_call C (As := []) (st := []) (eX5_run h1) cvL_222 (Nat.le_of_ble_eq_true rfl) ok_e20 rfl (Nat.le_of_ble_eq_true rfl) hroom _ rfl dL_law_1799 [.int r] rfl ?_
  refine w_aload_n C dL_law_1802 rfl 2 rfl ?_
  refine w_call C (As := []) (st := [.int r]) (eX6_run C.2.2.2.2.2.2.2.2.2.1 h2) cvL_225 (Nat.le_of_ble_eq_true rfl) (ok_e30 C.2.2.2.2.2.2.2.2.2.1) rfl (Nat.le_of_ble_eq_true rfl) hroom _ rfl dL_law_1803 [.int r, .int r] rfl ?_
  refine w_eq_t C (tgt := 1871) rfl dL_law_1806 rfl ?_
  exact hnext σ2 hI
set_option maxRecDepth 100000 in
set_option maxHeartbeats 4000000 in
theorem wc51 {l : Launch} {w : xW} {p : Program} {e : Env} {s : State} {m : MethodId} {below : List Frame} {meth : Method} {c : Code} {b LL : Nat} {xs : Nat → Int32} {Q : State → Prop} {kc ns a n : Nat} {σ : xS} {Inv : Nat → xS → Prop} (hOK : xP51 Inv) (C : wAmb w p s m c b LL xs) (hLL : LL < 2 ^ 31) (ha : a + 4 < LL) (hroom : kc ≤ 600000 ∧ ns ≤ 7302250) (hI0 : Inv n σ) (hn : n < 512) (hnext : ∀ σ2, Inv (n + 1) σ2 → wAt l w p e s m below meth c b Q kc ns 1871 [(0, .ref b), (1, .ref (w.2.2 4 20 0 0)), (2, .ref (w.2.2 5 30 0 0)), (3, .int (nI a))] [] σ2) : wAt l w p e s m below meth c b Q kc ns 1811 [(0, .ref b), (1, .ref (w.2.2 4 20 0 0)), (2, .ref (w.2.2 5 30 0 0)), (3, .int (nI a))] [] σ := by
  obtain ⟨r, σ1, σ2, h1, h2, hI⟩ := hOK n σ (xs (a + 1)) hI0 hn
  refine w_aload_n C dL_law_1811 rfl 1 rfl ?_
  refine w_aload_n C dL_law_1812 rfl 0 rfl ?_
  refine w_iload_n C dL_law_1813 rfl 3 rfl ?_
  refine w_iconst C (x := 1) dL_law_1814 rfl ?_
  refine w_iadd C (nI (a + 1)) (nI_add a 1) dL_law_1815 ?_
  refine w_sld C (a + 1) rfl (by omega) hLL dL_law_1816 ?_
  refine w_call C (As := [.int (xs (a + 1))]) (st := []) (eX5_save h1) cvL_226 (Nat.le_of_ble_eq_true rfl) ok_e20 rfl (Nat.le_of_ble_eq_true rfl) hroom _ rfl dL_law_1817 [.int r] rfl ?_
  refine w_aload_n C dL_law_1820 rfl 2 rfl ?_
  refine w_aload_n C dL_law_1821 rfl 0 rfl ?_
  refine w_iload_n C dL_law_1822 rfl 3 rfl ?_
  refine w_iconst C (x := 1) dL_law_1823 rfl ?_
  refine w_iadd C (nI (a + 1)) (nI_add a 1) dL_law_1824 ?_
  refine w_sld C (a + 1) rfl (by omega) hLL dL_law_1825 ?_
  refine w_call C (As := [.int (xs (a + 1))]) (st := [.int r]) (eX6_save C.2.2.2.2.2.2.2.2.2.1 h2) cvL_229 (Nat.le_of_ble_eq_true rfl) (ok_e30 C.2.2.2.2.2.2.2.2.2.1) rfl (Nat.le_of_ble_eq_true rfl) hroom _ rfl dL_law_1826 [.int r, .int r] rfl ?_
  refine w_eq_t C (tgt := 1871) rfl dL_law_1829 rfl ?_
  exact hnext σ2 hI
set_option maxRecDepth 100000 in
set_option maxHeartbeats 4000000 in
theorem wc52 {l : Launch} {w : xW} {p : Program} {e : Env} {s : State} {m : MethodId} {below : List Frame} {meth : Method} {c : Code} {b LL : Nat} {xs : Nat → Int32} {Q : State → Prop} {kc ns a n : Nat} {σ : xS} {Inv : Nat → xS → Prop} (hOK : xP52 Inv) (C : wAmb w p s m c b LL xs) (hLL : LL < 2 ^ 31) (ha : a + 4 < LL) (hroom : kc ≤ 600000 ∧ ns ≤ 7302250) (hI0 : Inv n σ) (hn : n < 512) (hnext : ∀ σ2, Inv (n + 1) σ2 → wAt l w p e s m below meth c b Q kc ns 1871 [(0, .ref b), (1, .ref (w.2.2 4 20 0 0)), (2, .ref (w.2.2 5 30 0 0)), (3, .int (nI a))] [] σ2) : wAt l w p e s m below meth c b Q kc ns 1834 [(0, .ref b), (1, .ref (w.2.2 4 20 0 0)), (2, .ref (w.2.2 5 30 0 0)), (3, .int (nI a))] [] σ := by
  obtain ⟨r, σ1, σ2, h1, h2, hI⟩ := hOK n σ (xs (a + 1)) hI0 hn
  refine w_aload_n C dL_law_1834 rfl 1 rfl ?_
  refine w_aload_n C dL_law_1835 rfl 0 rfl ?_
  refine w_iload_n C dL_law_1836 rfl 3 rfl ?_
  refine w_iconst C (x := 1) dL_law_1837 rfl ?_
  refine w_iadd C (nI (a + 1)) (nI_add a 1) dL_law_1838 ?_
  refine w_sld C (a + 1) rfl (by omega) hLL dL_law_1839 ?_
  refine w_call C (As := [.int (xs (a + 1))]) (st := []) (eX5_restore h1) cvL_230 (Nat.le_of_ble_eq_true rfl) ok_e20 rfl (Nat.le_of_ble_eq_true rfl) hroom _ rfl dL_law_1840 [.int r] rfl ?_
  refine w_aload_n C dL_law_1843 rfl 2 rfl ?_
  refine w_aload_n C dL_law_1844 rfl 0 rfl ?_
  refine w_iload_n C dL_law_1845 rfl 3 rfl ?_
  refine w_iconst C (x := 1) dL_law_1846 rfl ?_
  refine w_iadd C (nI (a + 1)) (nI_add a 1) dL_law_1847 ?_
  refine w_sld C (a + 1) rfl (by omega) hLL dL_law_1848 ?_
  refine w_call C (As := [.int (xs (a + 1))]) (st := [.int r]) (eX6_restore C.2.2.2.2.2.2.2.2.2.1 h2) cvL_233 (Nat.le_of_ble_eq_true rfl) (ok_e30 C.2.2.2.2.2.2.2.2.2.1) rfl (Nat.le_of_ble_eq_true rfl) hroom _ rfl dL_law_1849 [.int r, .int r] rfl ?_
  refine w_eq_t C (tgt := 1871) rfl dL_law_1852 rfl ?_
  exact hnext σ2 hI
set_option maxRecDepth 100000 in
set_option maxHeartbeats 4000000 in
theorem wc53 {l : Launch} {w : xW} {p : Program} {e : Env} {s : State} {m : MethodId} {below : List Frame} {meth : Method} {c : Code} {b LL : Nat} {xs : Nat → Int32} {Q : State → Prop} {kc ns a n : Nat} {σ : xS} {Inv : Nat → xS → Prop} (hOK : xP53 Inv) (C : wAmb w p s m c b LL xs) (hLL : LL < 2 ^ 31) (ha : a + 4 < LL) (hroom : kc ≤ 600000 ∧ ns ≤ 7302250) (hI0 : Inv n σ) (hn : n < 512) (hnext : ∀ σ2, Inv (n + 1) σ2 → wAt l w p e s m below meth c b Q kc ns 1871 [(0, .ref b), (1, .ref (w.2.2 4 20 0 0)), (2, .ref (w.2.2 5 30 0 0)), (3, .int (nI a))] [] σ2) : wAt l w p e s m below meth c b Q kc ns 1857 [(0, .ref b), (1, .ref (w.2.2 4 20 0 0)), (2, .ref (w.2.2 5 30 0 0)), (3, .int (nI a))] [] σ := by
  obtain ⟨r, σ1, σ2, h1, h2, hI⟩ := hOK n σ hI0 hn
  refine w_aload_n C dL_law_1857 rfl 1 rfl ?_
  refine w_call C (As := []) (st := []) (eX5_checksum h1) cvL_234 (Nat.le_of_ble_eq_true rfl) ok_e20 rfl (Nat.le_of_ble_eq_true rfl) hroom _ rfl dL_law_1858 [.long r] rfl ?_
  refine w_aload_n C dL_law_1861 rfl 2 rfl ?_
  refine w_call C (As := []) (st := [.long r]) (eX6_checksum C.2.2.2.2.2.2.2.2.2.1 h2) cvL_238 (Nat.le_of_ble_eq_true rfl) (ok_e30 C.2.2.2.2.2.2.2.2.2.1) rfl (Nat.le_of_ble_eq_true rfl) hroom _ rfl dL_law_1862 [.long r, .long r] rfl ?_
  refine w_lcmp C dL_law_1865 ?_
  refine w_ifeq_t C (tgt := 1871) rfl dL_law_1866 rfl ?_
  exact hnext σ2 hI

theorem z_nz {κ : Kx Unit} {pc : Nat} {ls : List (Nat × Value)} {st : List Value} {ws : va_W} {cl sl : Nat} (ws' : va_W) (cl' sl' : Nat) (hw : ws = ws') (h1 : cl = cl') (h2 : sl = sl') (k : Zw κ pc ls st ws' cl' sl') : Zw κ pc ls st ws cl sl := by
  subst hw; subst h1; subst h2; exact k
theorem fwc_X0_11 : Cond.fieldLink RX0 11 (TX0 0).1 (TX0 0).2.1 (TX0 0).2.2.1 ∈ tb2 := m2 (List.mem_of_getElem? (i := 225) (by decide +kernel)) (by decide +kernel)
theorem fwc_X0_15 : Cond.fieldLink RX0 15 (TX0 1).1 (TX0 1).2.1 (TX0 1).2.2.1 ∈ tb2 := m2 (List.mem_of_getElem? (i := 226) (by decide +kernel)) (by decide +kernel)
theorem fwc_X0_18 : Cond.fieldLink RX0 18 (TX0 2).1 (TX0 2).2.1 (TX0 2).2.2.1 ∈ tb2 := m2 (List.mem_of_getElem? (i := 227) (by decide +kernel)) (by decide +kernel)
theorem fwc_X0_21 : Cond.fieldLink RX0 21 (TX0 3).1 (TX0 3).2.1 (TX0 3).2.2.1 ∈ tb2 := m2 (List.mem_of_getElem? (i := 228) (by decide +kernel)) (by decide +kernel)
theorem owc_X0_3 : Cond.methodLink RX0 3 Lib.objectInit ∈ tb2 := m2 (List.mem_of_getElem? (i := 224) (by decide +kernel)) (by decide +kernel)
theorem fwc_X1_15 : Cond.fieldLink RX1 15 (TX1 1).1 (TX1 1).2.1 (TX1 1).2.2.1 ∈ tb2 := m2 (List.mem_of_getElem? (i := 302) (by decide +kernel)) (by decide +kernel)
theorem fwc_X1_19 : Cond.fieldLink RX1 19 (TX1 2).1 (TX1 2).2.1 (TX1 2).2.2.1 ∈ tb2 := m2 (List.mem_of_getElem? (i := 304) (by decide +kernel)) (by decide +kernel)
theorem fwc_X1_23 : Cond.fieldLink RX1 23 (TX1 3).1 (TX1 3).2.1 (TX1 3).2.2.1 ∈ tb2 := m2 (List.mem_of_getElem? (i := 306) (by decide +kernel)) (by decide +kernel)
theorem owc_X1_3 : Cond.methodLink RX1 3 Lib.objectInit ∈ tb2 := m2 (List.mem_of_getElem? (i := 299) (by decide +kernel)) (by decide +kernel)
theorem fwc_X1_9 : Cond.fieldLink RX1 9 (TX1 0).1 (TX1 0).2.1 (TX1 0).2.2.1 ∈ tb2 := m2 (List.mem_of_getElem? (i := 300) (by decide +kernel)) (by decide +kernel)
theorem ic_X2_11 : CI RX2 11 yX6_init cX6_init 1 0 := ⟨Or.inr ⟨"WireWalkers", m2 (List.mem_of_getElem? (i := 202) (by decide +kernel)) (by decide +kernel)⟩, rfl, m2 (List.mem_of_getElem? (i := 203) (by decide +kernel)) (by decide +kernel), m2 (List.mem_of_getElem? (i := 78) (by decide +kernel)) (by decide +kernel), m2 (List.mem_of_getElem? (i := 204) (by decide +kernel)) (by decide +kernel), ⟨by decide +kernel, by decide +kernel, by decide +kernel⟩, by decide⟩
theorem fwc_X2_12 : Cond.fieldLink RX2 12 (TX2 0).1 (TX2 0).2.1 (TX2 0).2.2.1 ∈ tb2 := m2 (List.mem_of_getElem? (i := 239) (by decide +kernel)) (by decide +kernel)
theorem clc_X2_18 : Cond.classLink RX2 18 RX0 ∈ tb2 := m2 (List.mem_of_getElem? (i := 219) (by decide +kernel)) (by decide +kernel)
theorem ic_X2_20 : CI RX2 20 yX0_init cX0_init 1 0 := ⟨Or.inr ⟨"WireWalkers", m2 (List.mem_of_getElem? (i := 221) (by decide +kernel)) (by decide +kernel)⟩, rfl, m2 (List.mem_of_getElem? (i := 222) (by decide +kernel)) (by decide +kernel), m2 (List.mem_of_getElem? (i := 79) (by decide +kernel)) (by decide +kernel), m2 (List.mem_of_getElem? (i := 223) (by decide +kernel)) (by decide +kernel), ⟨by decide +kernel, by decide +kernel, by decide +kernel⟩, by decide⟩
theorem fwc_X2_21 : Cond.fieldLink RX2 21 (TX2 1).1 (TX2 1).2.1 (TX2 1).2.2.1 ∈ tb2 := m2 (List.mem_of_getElem? (i := 240) (by decide +kernel)) (by decide +kernel)
theorem fwc_X2_25 : Cond.fieldLink RX2 25 (TX2 2).1 (TX2 2).2.1 (TX2 2).2.2.1 ∈ tb2 := m2 (List.mem_of_getElem? (i := 242) (by decide +kernel)) (by decide +kernel)
theorem fwc_X2_29 : Cond.fieldLink RX2 29 (TX2 3).1 (TX2 3).2.1 (TX2 3).2.2.1 ∈ tb2 := m2 (List.mem_of_getElem? (i := 244) (by decide +kernel)) (by decide +kernel)
theorem owc_X2_3 : Cond.methodLink RX2 3 Lib.objectInit ∈ tb2 := m2 (List.mem_of_getElem? (i := 199) (by decide +kernel)) (by decide +kernel)
theorem fwc_X2_32 : Cond.fieldLink RX2 32 (TX2 4).1 (TX2 4).2.1 (TX2 4).2.2.1 ∈ tb2 := m2 (List.mem_of_getElem? (i := 245) (by decide +kernel)) (by decide +kernel)
theorem fwc_X2_35 : Cond.fieldLink RX2 35 (TX2 5).1 (TX2 5).2.1 (TX2 5).2.2.1 ∈ tb2 := m2 (List.mem_of_getElem? (i := 246) (by decide +kernel)) (by decide +kernel)
theorem fwc_X2_38 : Cond.fieldLink RX2 38 (TX2 6).1 (TX2 6).2.1 (TX2 6).2.2.1 ∈ tb2 := m2 (List.mem_of_getElem? (i := 247) (by decide +kernel)) (by decide +kernel)
theorem fwc_X2_41 : Cond.fieldLink RX2 41 (TX2 7).1 (TX2 7).2.1 (TX2 7).2.2.1 ∈ tb2 := m2 (List.mem_of_getElem? (i := 248) (by decide +kernel)) (by decide +kernel)
theorem fwc_X2_44 : Cond.fieldLink RX2 44 (TX2 8).1 (TX2 8).2.1 (TX2 8).2.2.1 ∈ tb2 := m2 (List.mem_of_getElem? (i := 250) (by decide +kernel)) (by decide +kernel)
theorem fwc_X2_47 : Cond.fieldLink RX2 47 (TX2 9).1 (TX2 9).2.1 (TX2 9).2.2.1 ∈ tb2 := m2 (List.mem_of_getElem? (i := 252) (by decide +kernel)) (by decide +kernel)
theorem fwc_X2_50 : Cond.fieldLink RX2 50 (TX2 10).1 (TX2 10).2.1 (TX2 10).2.2.1 ∈ tb2 := m2 (List.mem_of_getElem? (i := 254) (by decide +kernel)) (by decide +kernel)
theorem fwc_X2_53 : Cond.fieldLink RX2 53 (TX2 11).1 (TX2 11).2.1 (TX2 11).2.2.1 ∈ tb2 := m2 (List.mem_of_getElem? (i := 255) (by decide +kernel)) (by decide +kernel)
theorem fwc_X2_57 : Cond.fieldLink RX2 57 (TX2 12).1 (TX2 12).2.1 (TX2 12).2.2.1 ∈ tb2 := m2 (List.mem_of_getElem? (i := 256) (by decide +kernel)) (by decide +kernel)
theorem fwc_X2_60 : Cond.fieldLink RX2 60 (TX2 13).1 (TX2 13).2.1 (TX2 13).2.2.1 ∈ tb2 := m2 (List.mem_of_getElem? (i := 258) (by decide +kernel)) (by decide +kernel)
theorem fwc_X2_63 : Cond.fieldLink RX2 63 (TX2 14).1 (TX2 14).2.1 (TX2 14).2.2.1 ∈ tb2 := m2 (List.mem_of_getElem? (i := 260) (by decide +kernel)) (by decide +kernel)
theorem clc_X2_9 : Cond.classLink RX2 9 RX6 ∈ tb2 := m2 (List.mem_of_getElem? (i := 200) (by decide +kernel)) (by decide +kernel)
theorem fwc_X3_15 : Cond.fieldLink RX3 15 (TX3 1).1 (TX3 1).2.1 (TX3 1).2.2.1 ∈ tb2 := m2 (List.mem_of_getElem? (i := 181) (by decide +kernel)) (by decide +kernel)
theorem fwc_X3_18 : Cond.fieldLink RX3 18 (TX3 2).1 (TX3 2).2.1 (TX3 2).2.2.1 ∈ tb2 := m2 (List.mem_of_getElem? (i := 182) (by decide +kernel)) (by decide +kernel)
theorem fwc_X3_21 : Cond.fieldLink RX3 21 (TX3 3).1 (TX3 3).2.1 (TX3 3).2.2.1 ∈ tb2 := m2 (List.mem_of_getElem? (i := 183) (by decide +kernel)) (by decide +kernel)
theorem owc_X3_3 : Cond.methodLink RX3 3 Lib.objectInit ∈ tb2 := m2 (List.mem_of_getElem? (i := 179) (by decide +kernel)) (by decide +kernel)
theorem fwc_X3_9 : Cond.fieldLink RX3 9 (TX3 0).1 (TX3 0).2.1 (TX3 0).2.2.1 ∈ tb2 := m2 (List.mem_of_getElem? (i := 180) (by decide +kernel)) (by decide +kernel)
theorem mwc_X4_15 : Cond.methodLink RX4 15 Lib.Math.max.name ∈ tb2 := m2 (List.mem_of_getElem? (i := 98) (by decide +kernel)) (by decide +kernel)
theorem fwc_X4_21 : Cond.fieldLink RX4 21 (TX4 0).1 (TX4 0).2.1 (TX4 0).2.2.1 ∈ tb2 := m2 (List.mem_of_getElem? (i := 101) (by decide +kernel)) (by decide +kernel)
theorem owc_X4_3 : Cond.methodLink RX4 3 Lib.objectInit ∈ tb2 := m2 (List.mem_of_getElem? (i := 97) (by decide +kernel)) (by decide +kernel)
theorem fwc_X4_9 : Cond.fieldLink RX4 9 (TX4 1).1 (TX4 1).2.1 (TX4 1).2.2.1 ∈ tb2 := m2 (List.mem_of_getElem? (i := 102) (by decide +kernel)) (by decide +kernel)
theorem fwc_X5_15 : Cond.fieldLink RX5 15 (TX5 1).1 (TX5 1).2.1 (TX5 1).2.2.1 ∈ tb2 := m2 (List.mem_of_getElem? (i := 120) (by decide +kernel)) (by decide +kernel)
theorem fwc_X5_18 : Cond.fieldLink RX5 18 (TX5 2).1 (TX5 2).2.1 (TX5 2).2.2.1 ∈ tb2 := m2 (List.mem_of_getElem? (i := 123) (by decide +kernel)) (by decide +kernel)
theorem fwc_X5_21 : Cond.fieldLink RX5 21 (TX5 3).1 (TX5 3).2.1 (TX5 3).2.2.1 ∈ tb2 := m2 (List.mem_of_getElem? (i := 126) (by decide +kernel)) (by decide +kernel)
theorem fwc_X5_24 : Cond.fieldLink RX5 24 (TX5 4).1 (TX5 4).2.1 (TX5 4).2.2.1 ∈ tb2 := m2 (List.mem_of_getElem? (i := 128) (by decide +kernel)) (by decide +kernel)
theorem fwc_X5_27 : Cond.fieldLink RX5 27 (TX5 5).1 (TX5 5).2.1 (TX5 5).2.2.1 ∈ tb2 := m2 (List.mem_of_getElem? (i := 130) (by decide +kernel)) (by decide +kernel)
theorem owc_X5_3 : Cond.methodLink RX5 3 Lib.objectInit ∈ tb2 := m2 (List.mem_of_getElem? (i := 116) (by decide +kernel)) (by decide +kernel)
theorem fwc_X5_30 : Cond.fieldLink RX5 30 (TX5 6).1 (TX5 6).2.1 (TX5 6).2.2.1 ∈ tb2 := m2 (List.mem_of_getElem? (i := 132) (by decide +kernel)) (by decide +kernel)
theorem fwc_X5_33 : Cond.fieldLink RX5 33 (TX5 7).1 (TX5 7).2.1 (TX5 7).2.2.1 ∈ tb2 := m2 (List.mem_of_getElem? (i := 134) (by decide +kernel)) (by decide +kernel)
theorem fwc_X5_37 : Cond.fieldLink RX5 37 (TX5 8).1 (TX5 8).2.1 (TX5 8).2.2.1 ∈ tb2 := m2 (List.mem_of_getElem? (i := 137) (by decide +kernel)) (by decide +kernel)
theorem fwc_X5_40 : Cond.fieldLink RX5 40 (TX5 9).1 (TX5 9).2.1 (TX5 9).2.2.1 ∈ tb2 := m2 (List.mem_of_getElem? (i := 140) (by decide +kernel)) (by decide +kernel)
theorem fwc_X5_43 : Cond.fieldLink RX5 43 (TX5 10).1 (TX5 10).2.1 (TX5 10).2.2.1 ∈ tb2 := m2 (List.mem_of_getElem? (i := 143) (by decide +kernel)) (by decide +kernel)
theorem fwc_X5_46 : Cond.fieldLink RX5 46 (TX5 11).1 (TX5 11).2.1 (TX5 11).2.2.1 ∈ tb2 := m2 (List.mem_of_getElem? (i := 146) (by decide +kernel)) (by decide +kernel)
theorem fwc_X5_9 : Cond.fieldLink RX5 9 (TX5 0).1 (TX5 0).2.1 (TX5 0).2.2.1 ∈ tb2 := m2 (List.mem_of_getElem? (i := 117) (by decide +kernel)) (by decide +kernel)
theorem fwc_X6_15 : Cond.fieldLink RX6 15 (TX6 1).1 (TX6 1).2.1 (TX6 1).2.2.1 ∈ tb2 := m2 (List.mem_of_getElem? (i := 208) (by decide +kernel)) (by decide +kernel)
theorem fwc_X6_18 : Cond.fieldLink RX6 18 (TX6 2).1 (TX6 2).2.1 (TX6 2).2.2.1 ∈ tb2 := m2 (List.mem_of_getElem? (i := 210) (by decide +kernel)) (by decide +kernel)
theorem owc_X6_3 : Cond.methodLink RX6 3 Lib.objectInit ∈ tb2 := m2 (List.mem_of_getElem? (i := 205) (by decide +kernel)) (by decide +kernel)
theorem fwc_X6_9 : Cond.fieldLink RX6 9 (TX6 0).1 (TX6 0).2.1 (TX6 0).2.2.1 ∈ tb2 := m2 (List.mem_of_getElem? (i := 206) (by decide +kernel)) (by decide +kernel)
theorem ic_X7_13 : CI RX7 13 yX4_init cX4_init 2 1 := ⟨Or.inl (m2 (List.mem_of_getElem? (i := 94) (by decide +kernel)) (by decide +kernel)), rfl, m2 (List.mem_of_getElem? (i := 95) (by decide +kernel)) (by decide +kernel), m2 (List.mem_of_getElem? (i := 73) (by decide +kernel)) (by decide +kernel), m2 (List.mem_of_getElem? (i := 96) (by decide +kernel)) (by decide +kernel), ⟨by decide +kernel, by decide +kernel, by decide +kernel⟩, by decide⟩
theorem fwc_X7_16 : Cond.fieldLink RX7 16 (TX7 0).1 (TX7 0).2.1 (TX7 0).2.2.1 ∈ tb2 := m2 (List.mem_of_getElem? (i := 318) (by decide +kernel)) (by decide +kernel)
theorem fwc_X7_20 : Cond.fieldLink RX7 20 (TX7 1).1 (TX7 1).2.1 (TX7 1).2.2.1 ∈ tb2 := m2 (List.mem_of_getElem? (i := 319) (by decide +kernel)) (by decide +kernel)
theorem clc_X7_23 : Cond.classLink RX7 23 RX5 ∈ tb2 := m2 (List.mem_of_getElem? (i := 111) (by decide +kernel)) (by decide +kernel)
theorem ic_X7_25 : CI RX7 25 yX5_init cX5_init 1 0 := ⟨Or.inr ⟨"WireWalkers", m2 (List.mem_of_getElem? (i := 113) (by decide +kernel)) (by decide +kernel)⟩, rfl, m2 (List.mem_of_getElem? (i := 114) (by decide +kernel)) (by decide +kernel), m2 (List.mem_of_getElem? (i := 75) (by decide +kernel)) (by decide +kernel), m2 (List.mem_of_getElem? (i := 115) (by decide +kernel)) (by decide +kernel), ⟨by decide +kernel, by decide +kernel, by decide +kernel⟩, by decide⟩
theorem fwc_X7_26 : Cond.fieldLink RX7 26 (TX7 2).1 (TX7 2).2.1 (TX7 2).2.2.1 ∈ tb2 := m2 (List.mem_of_getElem? (i := 320) (by decide +kernel)) (by decide +kernel)
theorem owc_X7_3 : Cond.methodLink RX7 3 Lib.objectInit ∈ tb2 := m2 (List.mem_of_getElem? (i := 89) (by decide +kernel)) (by decide +kernel)
theorem clc_X7_30 : Cond.classLink RX7 30 RX3 ∈ tb2 := m2 (List.mem_of_getElem? (i := 174) (by decide +kernel)) (by decide +kernel)
theorem ic_X7_32 : CI RX7 32 yX3_init cX3_init 1 0 := ⟨Or.inr ⟨"WireWalkers", m2 (List.mem_of_getElem? (i := 176) (by decide +kernel)) (by decide +kernel)⟩, rfl, m2 (List.mem_of_getElem? (i := 177) (by decide +kernel)) (by decide +kernel), m2 (List.mem_of_getElem? (i := 76) (by decide +kernel)) (by decide +kernel), m2 (List.mem_of_getElem? (i := 178) (by decide +kernel)) (by decide +kernel), ⟨by decide +kernel, by decide +kernel, by decide +kernel⟩, by decide⟩
theorem fwc_X7_33 : Cond.fieldLink RX7 33 (TX7 3).1 (TX7 3).2.1 (TX7 3).2.2.1 ∈ tb2 := m2 (List.mem_of_getElem? (i := 321) (by decide +kernel)) (by decide +kernel)
theorem clc_X7_37 : Cond.classLink RX7 37 RX2 ∈ tb2 := m2 (List.mem_of_getElem? (i := 194) (by decide +kernel)) (by decide +kernel)
theorem ic_X7_39 : CI RX7 39 yX2_init cX2_init 1 0 := ⟨Or.inr ⟨"WireWalkers", m2 (List.mem_of_getElem? (i := 196) (by decide +kernel)) (by decide +kernel)⟩, rfl, m2 (List.mem_of_getElem? (i := 197) (by decide +kernel)) (by decide +kernel), m2 (List.mem_of_getElem? (i := 77) (by decide +kernel)) (by decide +kernel), m2 (List.mem_of_getElem? (i := 198) (by decide +kernel)) (by decide +kernel), ⟨by decide +kernel, by decide +kernel, by decide +kernel⟩, by decide⟩
theorem fwc_X7_40 : Cond.fieldLink RX7 40 (TX7 4).1 (TX7 4).2.1 (TX7 4).2.2.1 ∈ tb2 := m2 (List.mem_of_getElem? (i := 322) (by decide +kernel)) (by decide +kernel)
theorem fwc_X7_44 : Cond.fieldLink RX7 44 (TX7 5).1 (TX7 5).2.1 (TX7 5).2.2.1 ∈ tb2 := m2 (List.mem_of_getElem? (i := 323) (by decide +kernel)) (by decide +kernel)
theorem fwc_X7_47 : Cond.fieldLink RX7 47 (TX7 6).1 (TX7 6).2.1 (TX7 6).2.2.1 ∈ tb2 := m2 (List.mem_of_getElem? (i := 324) (by decide +kernel)) (by decide +kernel)
theorem fwc_X7_51 : Cond.fieldLink RX7 51 (TX7 7).1 (TX7 7).2.1 (TX7 7).2.2.1 ∈ tb2 := m2 (List.mem_of_getElem? (i := 325) (by decide +kernel)) (by decide +kernel)
theorem fwc_X7_54 : Cond.fieldLink RX7 54 (TX7 8).1 (TX7 8).2.1 (TX7 8).2.2.1 ∈ tb2 := m2 (List.mem_of_getElem? (i := 326) (by decide +kernel)) (by decide +kernel)
theorem fwc_X7_58 : Cond.fieldLink RX7 58 (TX7 9).1 (TX7 9).2.1 (TX7 9).2.2.1 ∈ tb2 := m2 (List.mem_of_getElem? (i := 327) (by decide +kernel)) (by decide +kernel)
theorem clc_X7_61 : Cond.classLink RX7 61 RX1 ∈ tb2 := m2 (List.mem_of_getElem? (i := 293) (by decide +kernel)) (by decide +kernel)
theorem fwc_X7_63 : Cond.fieldLink RX7 63 (TX7 10).1 (TX7 10).2.1 (TX7 10).2.2.1 ∈ tb2 := m2 (List.mem_of_getElem? (i := 328) (by decide +kernel)) (by decide +kernel)
theorem fwc_X7_67 : Cond.fieldLink RX7 67 (TX7 11).1 (TX7 11).2.1 (TX7 11).2.2.1 ∈ tb2 := m2 (List.mem_of_getElem? (i := 329) (by decide +kernel)) (by decide +kernel)
theorem fwc_X7_71 : Cond.fieldLink RX7 71 (TX7 12).1 (TX7 12).2.1 (TX7 12).2.2.1 ∈ tb2 := m2 (List.mem_of_getElem? (i := 330) (by decide +kernel)) (by decide +kernel)
theorem fwc_X7_74 : Cond.fieldLink RX7 74 (TX7 13).1 (TX7 13).2.1 (TX7 13).2.2.1 ∈ tb2 := m2 (List.mem_of_getElem? (i := 331) (by decide +kernel)) (by decide +kernel)
theorem fwc_X7_78 : Cond.fieldLink RX7 78 (TX7 14).1 (TX7 14).2.1 (TX7 14).2.2.1 ∈ tb2 := m2 (List.mem_of_getElem? (i := 332) (by decide +kernel)) (by decide +kernel)
theorem fwc_X7_81 : Cond.fieldLink RX7 81 (TX7 15).1 (TX7 15).2.1 (TX7 15).2.2.1 ∈ tb2 := m2 (List.mem_of_getElem? (i := 333) (by decide +kernel)) (by decide +kernel)
theorem ic_X7_84 : CI RX7 84 yX1_init cX1_init 1 0 := ⟨Or.inr ⟨"WireWalkers", m2 (List.mem_of_getElem? (i := 296) (by decide +kernel)) (by decide +kernel)⟩, rfl, m2 (List.mem_of_getElem? (i := 297) (by decide +kernel)) (by decide +kernel), m2 (List.mem_of_getElem? (i := 80) (by decide +kernel)) (by decide +kernel), m2 (List.mem_of_getElem? (i := 298) (by decide +kernel)) (by decide +kernel), ⟨by decide +kernel, by decide +kernel, by decide +kernel⟩, by decide⟩
theorem clc_X7_9 : Cond.classLink RX7 9 RX4 ∈ tb2 := m2 (List.mem_of_getElem? (i := 92) (by decide +kernel)) (by decide +kernel)
theorem owc_X8_1 : Cond.methodLink RX8 1 Lib.objectInit ∈ tb2 := m2 (List.mem_of_getElem? (i := 826) (by decide +kernel)) (by decide +kernel)
theorem fwc_X8_13 : Cond.fieldLink RX8 13 (TX8 1).1 (TX8 1).2.1 (TX8 1).2.2.1 ∈ tb2 := m2 (List.mem_of_getElem? (i := 828) (by decide +kernel)) (by decide +kernel)
theorem fwc_X8_16 : Cond.fieldLink RX8 16 (TX8 2).1 (TX8 2).2.1 (TX8 2).2.2.1 ∈ tb2 := m2 (List.mem_of_getElem? (i := 829) (by decide +kernel)) (by decide +kernel)
theorem fwc_X8_19 : Cond.fieldLink RX8 19 (TX8 3).1 (TX8 3).2.1 (TX8 3).2.2.1 ∈ tb2 := m2 (List.mem_of_getElem? (i := 830) (by decide +kernel)) (by decide +kernel)
theorem fwc_X8_22 : Cond.fieldLink RX8 22 (TX8 5).1 (TX8 5).2.1 (TX8 5).2.2.1 ∈ tb2 := m2 (List.mem_of_getElem? (i := 832) (by decide +kernel)) (by decide +kernel)
theorem fwc_X8_25 : Cond.fieldLink RX8 25 (TX8 6).1 (TX8 6).2.1 (TX8 6).2.2.1 ∈ tb2 := m2 (List.mem_of_getElem? (i := 833) (by decide +kernel)) (by decide +kernel)
theorem fwc_X8_28 : Cond.fieldLink RX8 28 (TX8 8).1 (TX8 8).2.1 (TX8 8).2.2.1 ∈ tb2 := m2 (List.mem_of_getElem? (i := 835) (by decide +kernel)) (by decide +kernel)
theorem fwc_X8_31 : Cond.fieldLink RX8 31 (TX8 10).1 (TX8 10).2.1 (TX8 10).2.2.1 ∈ tb2 := m2 (List.mem_of_getElem? (i := 837) (by decide +kernel)) (by decide +kernel)
theorem fwc_X8_34 : Cond.fieldLink RX8 34 (TX8 11).1 (TX8 11).2.1 (TX8 11).2.2.1 ∈ tb2 := m2 (List.mem_of_getElem? (i := 838) (by decide +kernel)) (by decide +kernel)
theorem fwc_X8_37 : Cond.fieldLink RX8 37 (TX8 13).1 (TX8 13).2.1 (TX8 13).2.2.1 ∈ tb2 := m2 (List.mem_of_getElem? (i := 840) (by decide +kernel)) (by decide +kernel)
theorem fwc_X8_40 : Cond.fieldLink RX8 40 (TX8 15).1 (TX8 15).2.1 (TX8 15).2.2.1 ∈ tb2 := m2 (List.mem_of_getElem? (i := 842) (by decide +kernel)) (by decide +kernel)
theorem fwc_X8_43 : Cond.fieldLink RX8 43 (TX8 16).1 (TX8 16).2.1 (TX8 16).2.2.1 ∈ tb2 := m2 (List.mem_of_getElem? (i := 843) (by decide +kernel)) (by decide +kernel)
theorem fwc_X8_46 : Cond.fieldLink RX8 46 (TX8 17).1 (TX8 17).2.1 (TX8 17).2.2.1 ∈ tb2 := m2 (List.mem_of_getElem? (i := 844) (by decide +kernel)) (by decide +kernel)
theorem fwc_X8_49 : Cond.fieldLink RX8 49 (TX8 18).1 (TX8 18).2.1 (TX8 18).2.2.1 ∈ tb2 := m2 (List.mem_of_getElem? (i := 845) (by decide +kernel)) (by decide +kernel)
theorem fwc_X8_52 : Cond.fieldLink RX8 52 (TX8 19).1 (TX8 19).2.1 (TX8 19).2.2.1 ∈ tb2 := m2 (List.mem_of_getElem? (i := 846) (by decide +kernel)) (by decide +kernel)
theorem fwc_X8_55 : Cond.fieldLink RX8 55 (TX8 20).1 (TX8 20).2.1 (TX8 20).2.2.1 ∈ tb2 := m2 (List.mem_of_getElem? (i := 847) (by decide +kernel)) (by decide +kernel)
theorem fwc_X8_58 : Cond.fieldLink RX8 58 (TX8 21).1 (TX8 21).2.1 (TX8 21).2.2.1 ∈ tb2 := m2 (List.mem_of_getElem? (i := 848) (by decide +kernel)) (by decide +kernel)
theorem fwc_X8_61 : Cond.fieldLink RX8 61 (TX8 22).1 (TX8 22).2.1 (TX8 22).2.2.1 ∈ tb2 := m2 (List.mem_of_getElem? (i := 849) (by decide +kernel)) (by decide +kernel)
theorem fwc_X8_64 : Cond.fieldLink RX8 64 (TX8 23).1 (TX8 23).2.1 (TX8 23).2.2.1 ∈ tb2 := m2 (List.mem_of_getElem? (i := 850) (by decide +kernel)) (by decide +kernel)
theorem fwc_X8_67 : Cond.fieldLink RX8 67 (TX8 24).1 (TX8 24).2.1 (TX8 24).2.2.1 ∈ tb2 := m2 (List.mem_of_getElem? (i := 851) (by decide +kernel)) (by decide +kernel)
theorem fwc_X8_7 : Cond.fieldLink RX8 7 (TX8 0).1 (TX8 0).2.1 (TX8 0).2.2.1 ∈ tb2 := m2 (List.mem_of_getElem? (i := 827) (by decide +kernel)) (by decide +kernel)
theorem fwc_X8_70 : Cond.fieldLink RX8 70 (TX8 25).1 (TX8 25).2.1 (TX8 25).2.2.1 ∈ tb2 := m2 (List.mem_of_getElem? (i := 852) (by decide +kernel)) (by decide +kernel)
theorem fwc_X8_73 : Cond.fieldLink RX8 73 (TX8 26).1 (TX8 26).2.1 (TX8 26).2.2.1 ∈ tb2 := m2 (List.mem_of_getElem? (i := 853) (by decide +kernel)) (by decide +kernel)
theorem fwc_X8_76 : Cond.fieldLink RX8 76 (TX8 30).1 (TX8 30).2.1 (TX8 30).2.2.1 ∈ tb2 := m2 (List.mem_of_getElem? (i := 857) (by decide +kernel)) (by decide +kernel)
theorem fwc_X8_79 : Cond.fieldLink RX8 79 (TX8 31).1 (TX8 31).2.1 (TX8 31).2.2.1 ∈ tb2 := m2 (List.mem_of_getElem? (i := 858) (by decide +kernel)) (by decide +kernel)
theorem iw_X0 : Cond.instantiable RX0 4 ∈ tb2 := m2 (List.mem_of_getElem? (i := 220) (by decide +kernel)) (by decide +kernel)
theorem jw_X0 : Cond.initialized RX0 ∈ tb2 := m2 (List.mem_of_getElem? (i := 79) (by decide +kernel)) (by decide +kernel)
theorem df_X0 : ∀ j, j < 4 → defaultValue (tyX0 j) = vp_V [.null, .null, .null, .null] j := by decide +kernel
theorem iw_X1 : Cond.instantiable RX1 4 ∈ tb2 := m2 (List.mem_of_getElem? (i := 295) (by decide +kernel)) (by decide +kernel)
theorem jw_X1 : Cond.initialized RX1 ∈ tb2 := m2 (List.mem_of_getElem? (i := 80) (by decide +kernel)) (by decide +kernel)
theorem df_X1 : ∀ j, j < 4 → defaultValue (tyX1 j) = vp_V [.null, .int 0, .int 0, .int 0] j := by decide +kernel
theorem iw_X2 : Cond.instantiable RX2 15 ∈ tb2 := m2 (List.mem_of_getElem? (i := 195) (by decide +kernel)) (by decide +kernel)
theorem jw_X2 : Cond.initialized RX2 ∈ tb2 := m2 (List.mem_of_getElem? (i := 77) (by decide +kernel)) (by decide +kernel)
theorem df_X2 : ∀ j, j < 15 → defaultValue (tyX2 j) = vp_V [.null, .null, .null, .null, .null, .null, .null, .null, .null, .null, .null, .int 0, .int 0, .int 0, .int 0] j := by decide +kernel
theorem iw_X3 : Cond.instantiable RX3 4 ∈ tb2 := m2 (List.mem_of_getElem? (i := 175) (by decide +kernel)) (by decide +kernel)
theorem jw_X3 : Cond.initialized RX3 ∈ tb2 := m2 (List.mem_of_getElem? (i := 76) (by decide +kernel)) (by decide +kernel)
theorem df_X3 : ∀ j, j < 4 → defaultValue (tyX3 j) = vp_V [.null, .null, .null, .int 0] j := by decide +kernel
theorem iw_X4 : Cond.instantiable RX4 2 ∈ tb2 := m2 (List.mem_of_getElem? (i := 93) (by decide +kernel)) (by decide +kernel)
theorem jw_X4 : Cond.initialized RX4 ∈ tb2 := m2 (List.mem_of_getElem? (i := 73) (by decide +kernel)) (by decide +kernel)
theorem df_X4 : ∀ j, j < 2 → defaultValue (tyX4 j) = vp_V [.null, .int 0] j := by decide +kernel
theorem iw_X5 : Cond.instantiable RX5 12 ∈ tb2 := m2 (List.mem_of_getElem? (i := 112) (by decide +kernel)) (by decide +kernel)
theorem jw_X5 : Cond.initialized RX5 ∈ tb2 := m2 (List.mem_of_getElem? (i := 75) (by decide +kernel)) (by decide +kernel)
theorem df_X5 : ∀ j, j < 12 → defaultValue (tyX5 j) = vp_V [.null, .null, .null, .null, .null, .null, .null, .int 0, .int 0, .int 0, .int 0, .int 0] j := by decide +kernel
theorem iw_X6 : Cond.instantiable RX6 3 ∈ tb2 := m2 (List.mem_of_getElem? (i := 201) (by decide +kernel)) (by decide +kernel)
theorem jw_X6 : Cond.initialized RX6 ∈ tb2 := m2 (List.mem_of_getElem? (i := 78) (by decide +kernel)) (by decide +kernel)
theorem df_X6 : ∀ j, j < 3 → defaultValue (tyX6 j) = vp_V [.null, .null, .null] j := by decide +kernel
theorem ic_L_9 : CI RL 9 yX7_init cX7_init 2 0 := ⟨Or.inl (m2 (List.mem_of_getElem? (i := 86) (by decide +kernel)) (by decide +kernel)), rfl, m2 (List.mem_of_getElem? (i := 87) (by decide +kernel)) (by decide +kernel), m2 (List.mem_of_getElem? (i := 72) (by decide +kernel)) (by decide +kernel), m2 (List.mem_of_getElem? (i := 88) (by decide +kernel)) (by decide +kernel), ⟨by decide +kernel, by decide +kernel, by decide +kernel⟩, by decide⟩
theorem ic_L_12 : CI RL 12 yX8_init cX8_init 2 0 := ⟨Or.inl (m2 (List.mem_of_getElem? (i := 823) (by decide +kernel)) (by decide +kernel)), rfl, m2 (List.mem_of_getElem? (i := 824) (by decide +kernel)) (by decide +kernel), m2 (List.mem_of_getElem? (i := 81) (by decide +kernel)) (by decide +kernel), m2 (List.mem_of_getElem? (i := 825) (by decide +kernel)) (by decide +kernel), ⟨by decide +kernel, by decide +kernel, by decide +kernel⟩, by decide⟩
theorem clc_L_7 : Cond.classLink RL 7 RX7 ∈ tb2 := m2 (List.mem_of_getElem? (i := 84) (by decide +kernel)) (by decide +kernel)
theorem iw_X7 : Cond.instantiable RX7 16 ∈ tb2 := m2 (List.mem_of_getElem? (i := 85) (by decide +kernel)) (by decide +kernel)
theorem jw_X7 : Cond.initialized RX7 ∈ tb2 := m2 (List.mem_of_getElem? (i := 72) (by decide +kernel)) (by decide +kernel)
theorem df_X7 : ∀ j, j < 16 → defaultValue (tyX7 j) = vp_V [.null, .null, .null, .null, .null, .null, .null, .null, .null, .null, .null, .int 0, .int 0, .int 0, .int 0, .int 0] j := by decide +kernel
theorem clc_L_10 : Cond.classLink RL 10 RX8 ∈ tb2 := m2 (List.mem_of_getElem? (i := 821) (by decide +kernel)) (by decide +kernel)
theorem iw_X8 : Cond.instantiable RX8 33 ∈ tb2 := m2 (List.mem_of_getElem? (i := 822) (by decide +kernel)) (by decide +kernel)
theorem jw_X8 : Cond.initialized RX8 ∈ tb2 := m2 (List.mem_of_getElem? (i := 81) (by decide +kernel)) (by decide +kernel)
theorem df_X8 : ∀ j, j < 33 → defaultValue (tyX8 j) = vp_V [.null, .null, .null, .null, .int 0, .null, .null, .int 0, .null, .int 0, .null, .null, .int 0, .null, .int 0, .null, .null, .null, .null, .null, .null, .null, .null, .null, .null, .null, .null, .int 0, .int 0, .int 0, .null, .null, .int 0] j := by decide +kernel
theorem dX4_init_0 : decode cX4_init 0 = .ok (.aload_n 0, 1) := by decide +kernel
theorem dX4_init_1 : decode cX4_init 1 = .ok (.invokespecial 3, 3) := by decide +kernel
theorem dX4_init_4 : decode cX4_init 4 = .ok (.aload_n 0, 1) := by decide +kernel
theorem dX4_init_5 : decode cX4_init 5 = .ok (.iconst 0, 1) := by decide +kernel
theorem dX4_init_6 : decode cX4_init 6 = .ok (.putfield 9, 3) := by decide +kernel
theorem dX4_init_9 : decode cX4_init 9 = .ok (.aload_n 0, 1) := by decide +kernel
theorem dX4_init_10 : decode cX4_init 10 = .ok (.iload_n 1, 1) := by decide +kernel
theorem dX4_init_11 : decode cX4_init 11 = .ok (.iconst 0, 1) := by decide +kernel
theorem dX4_init_12 : decode cX4_init 12 = .ok (.invokestatic 15, 3) := by decide +kernel
theorem dX4_init_15 : decode cX4_init 15 = .ok (.newarray .int, 2) := by decide +kernel
theorem dX4_init_17 : decode cX4_init 17 = .ok (.putfield 21, 3) := by decide +kernel
theorem dX4_init_20 : decode cX4_init 20 = .ok (.return_, 1) := by decide +kernel
def P_X4_init_23 (h0 : Nat) (cs : C3) (w1 : va_W) : Prop := ∃ q1 : Nat, w1 = [(h0, .inr (4, [.ref q1, .int (0 : Int32)])), (q1, .inl (cs.1, 23, .inl (fun _ => 0)))]
set_option maxRecDepth 100000 in
theorem k_X4_init_23 (h0 : Nat) : Cc yX4_init cX4_init 2 1 1 23 [.ref h0, .int (23 : Int32)] [(h0, .inr (4, [.null, .int 0]))] (P_X4_init_23 h0) := by
  refine cc_of (by decide) rfl (Nat.le_of_ble_eq_true rfl) (fun κ hn C hin E hA hr => ?_)
  show Zw κ 0 [(0, .ref h0), (1, .int (23 : Int32))] [] [(h0, .inr (4, [.null, .int 0]))] 0 0
  refine z_aload_n 1 C dX4_init_0 0 rfl rfl rfl ?_
  refine z_obj 4 C dX4_init_1 owc_X4_3 (Nat.le_of_ble_eq_true rfl) (Nat.le_of_ble_eq_true rfl) rfl ?_
  refine z_aload_n 5 C dX4_init_4 0 rfl rfl rfl ?_
  refine z_iconst (v := (0 : Int32)) 6 C dX4_init_5 ci_0 rfl ?_
  refine z_putI 9 [(h0, .inr (4, [.null, .int (0 : Int32)]))] C dX4_init_6 0 rfl rfl wj_X4 tyX4_ok nmX4 1 (by decide) fwc_X4_9 rfl (tyX4_ok 1 (by decide)) rfl rfl (Nat.le_of_ble_eq_true rfl) rfl rfl ?_
  refine z_aload_n 10 C dX4_init_9 0 rfl rfl rfl ?_
  refine z_iload_n 11 C dX4_init_10 1 rfl rfl rfl ?_
  refine z_iconst (v := (0 : Int32)) 12 C dX4_init_11 ci_0 rfl ?_
  refine z_mmax (v := (23 : Int32)) 15 C dX4_init_12 mwc_X4_15 (Nat.le_of_ble_eq_true rfl) (Nat.le_of_ble_eq_true rfl) (Nat.le_of_ble_eq_true rfl) (Nat.le_of_ble_eq_true rfl) (by decide) rfl ?_
  refine z_newI (N := 23) 17 C dX4_init_15 (by decide) (by decide) (Nat.le_of_ble_eq_true rfl) (Nat.le_of_ble_eq_true rfl) (Nat.le_of_ble_eq_true rfl) rfl (fun q1 => ?_)
  refine z_nz [(h0, .inr (4, [.null, .int (0 : Int32)])), (q1, .inl ((kcs κ).1, 23, .inl (fun _ => 0)))] 1 23 rfl rfl rfl ?_
  refine z_putF 20 [(h0, .inr (4, [.ref q1, .int (0 : Int32)])), (q1, .inl ((kcs κ).1, 23, .inl (fun _ => 0)))] C hin dX4_init_17 0 rfl rfl wj_X4 tyX4_ok nmX4 0 (by decide) fwc_X4_21 rfl rfl (tyX4_ok 0 (by decide)) rfl rfl (Nat.le_of_ble_eq_true rfl) rfl rfl ?_
  exact z_ret C E hA hr dX4_init_20 ⟨q1, rfl⟩
def P_X4_init_24 (h0 : Nat) (cs : C3) (w1 : va_W) : Prop := ∃ q1 : Nat, w1 = [(h0, .inr (4, [.ref q1, .int (0 : Int32)])), (q1, .inl (cs.1, 24, .inl (fun _ => 0)))]
set_option maxRecDepth 100000 in
theorem k_X4_init_24 (h0 : Nat) : Cc yX4_init cX4_init 2 1 1 24 [.ref h0, .int (24 : Int32)] [(h0, .inr (4, [.null, .int 0]))] (P_X4_init_24 h0) := by
  refine cc_of (by decide) rfl (Nat.le_of_ble_eq_true rfl) (fun κ hn C hin E hA hr => ?_)
  show Zw κ 0 [(0, .ref h0), (1, .int (24 : Int32))] [] [(h0, .inr (4, [.null, .int 0]))] 0 0
  refine z_aload_n 1 C dX4_init_0 0 rfl rfl rfl ?_
  refine z_obj 4 C dX4_init_1 owc_X4_3 (Nat.le_of_ble_eq_true rfl) (Nat.le_of_ble_eq_true rfl) rfl ?_
  refine z_aload_n 5 C dX4_init_4 0 rfl rfl rfl ?_
  refine z_iconst (v := (0 : Int32)) 6 C dX4_init_5 ci_0 rfl ?_
  refine z_putI 9 [(h0, .inr (4, [.null, .int (0 : Int32)]))] C dX4_init_6 0 rfl rfl wj_X4 tyX4_ok nmX4 1 (by decide) fwc_X4_9 rfl (tyX4_ok 1 (by decide)) rfl rfl (Nat.le_of_ble_eq_true rfl) rfl rfl ?_
  refine z_aload_n 10 C dX4_init_9 0 rfl rfl rfl ?_
  refine z_iload_n 11 C dX4_init_10 1 rfl rfl rfl ?_
  refine z_iconst (v := (0 : Int32)) 12 C dX4_init_11 ci_0 rfl ?_
  refine z_mmax (v := (24 : Int32)) 15 C dX4_init_12 mwc_X4_15 (Nat.le_of_ble_eq_true rfl) (Nat.le_of_ble_eq_true rfl) (Nat.le_of_ble_eq_true rfl) (Nat.le_of_ble_eq_true rfl) (by decide) rfl ?_
  refine z_newI (N := 24) 17 C dX4_init_15 (by decide) (by decide) (Nat.le_of_ble_eq_true rfl) (Nat.le_of_ble_eq_true rfl) (Nat.le_of_ble_eq_true rfl) rfl (fun q1 => ?_)
  refine z_nz [(h0, .inr (4, [.null, .int (0 : Int32)])), (q1, .inl ((kcs κ).1, 24, .inl (fun _ => 0)))] 1 24 rfl rfl rfl ?_
  refine z_putF 20 [(h0, .inr (4, [.ref q1, .int (0 : Int32)])), (q1, .inl ((kcs κ).1, 24, .inl (fun _ => 0)))] C hin dX4_init_17 0 rfl rfl wj_X4 tyX4_ok nmX4 0 (by decide) fwc_X4_21 rfl rfl (tyX4_ok 0 (by decide)) rfl rfl (Nat.le_of_ble_eq_true rfl) rfl rfl ?_
  exact z_ret C E hA hr dX4_init_20 ⟨q1, rfl⟩
theorem dX5_init_0 : decode cX5_init 0 = .ok (.aload_n 0, 1) := by decide +kernel
theorem dX5_init_1 : decode cX5_init 1 = .ok (.invokespecial 3, 3) := by decide +kernel
theorem dX5_init_4 : decode cX5_init 4 = .ok (.aload_n 0, 1) := by decide +kernel
theorem dX5_init_5 : decode cX5_init 5 = .ok (.bipush 6, 2) := by decide +kernel
theorem dX5_init_7 : decode cX5_init 7 = .ok (.newarray .int, 2) := by decide +kernel
theorem dX5_init_9 : decode cX5_init 9 = .ok (.putfield 9, 3) := by decide +kernel
theorem dX5_init_12 : decode cX5_init 12 = .ok (.aload_n 0, 1) := by decide +kernel
theorem dX5_init_13 : decode cX5_init 13 = .ok (.bipush 6, 2) := by decide +kernel
theorem dX5_init_15 : decode cX5_init 15 = .ok (.newarray .int, 2) := by decide +kernel
theorem dX5_init_17 : decode cX5_init 17 = .ok (.putfield 15, 3) := by decide +kernel
theorem dX5_init_20 : decode cX5_init 20 = .ok (.aload_n 0, 1) := by decide +kernel
theorem dX5_init_21 : decode cX5_init 21 = .ok (.bipush 6, 2) := by decide +kernel
theorem dX5_init_23 : decode cX5_init 23 = .ok (.newarray .int, 2) := by decide +kernel
theorem dX5_init_25 : decode cX5_init 25 = .ok (.putfield 18, 3) := by decide +kernel
theorem dX5_init_28 : decode cX5_init 28 = .ok (.aload_n 0, 1) := by decide +kernel
theorem dX5_init_29 : decode cX5_init 29 = .ok (.bipush 24, 2) := by decide +kernel
theorem dX5_init_31 : decode cX5_init 31 = .ok (.newarray .int, 2) := by decide +kernel
theorem dX5_init_33 : decode cX5_init 33 = .ok (.putfield 21, 3) := by decide +kernel
theorem dX5_init_36 : decode cX5_init 36 = .ok (.aload_n 0, 1) := by decide +kernel
theorem dX5_init_37 : decode cX5_init 37 = .ok (.bipush 8, 2) := by decide +kernel
theorem dX5_init_39 : decode cX5_init 39 = .ok (.newarray .int, 2) := by decide +kernel
theorem dX5_init_41 : decode cX5_init 41 = .ok (.putfield 24, 3) := by decide +kernel
theorem dX5_init_44 : decode cX5_init 44 = .ok (.aload_n 0, 1) := by decide +kernel
theorem dX5_init_45 : decode cX5_init 45 = .ok (.bipush 8, 2) := by decide +kernel
theorem dX5_init_47 : decode cX5_init 47 = .ok (.newarray .int, 2) := by decide +kernel
theorem dX5_init_49 : decode cX5_init 49 = .ok (.putfield 27, 3) := by decide +kernel
theorem dX5_init_52 : decode cX5_init 52 = .ok (.aload_n 0, 1) := by decide +kernel
theorem dX5_init_53 : decode cX5_init 53 = .ok (.bipush 8, 2) := by decide +kernel
theorem dX5_init_55 : decode cX5_init 55 = .ok (.newarray .int, 2) := by decide +kernel
theorem dX5_init_57 : decode cX5_init 57 = .ok (.putfield 30, 3) := by decide +kernel
theorem dX5_init_60 : decode cX5_init 60 = .ok (.aload_n 0, 1) := by decide +kernel
theorem dX5_init_61 : decode cX5_init 61 = .ok (.iconst 0, 1) := by decide +kernel
theorem dX5_init_62 : decode cX5_init 62 = .ok (.putfield 33, 3) := by decide +kernel
theorem dX5_init_65 : decode cX5_init 65 = .ok (.aload_n 0, 1) := by decide +kernel
theorem dX5_init_66 : decode cX5_init 66 = .ok (.iconst 0, 1) := by decide +kernel
theorem dX5_init_67 : decode cX5_init 67 = .ok (.putfield 37, 3) := by decide +kernel
theorem dX5_init_70 : decode cX5_init 70 = .ok (.aload_n 0, 1) := by decide +kernel
theorem dX5_init_71 : decode cX5_init 71 = .ok (.bipush 20, 2) := by decide +kernel
theorem dX5_init_73 : decode cX5_init 73 = .ok (.putfield 40, 3) := by decide +kernel
theorem dX5_init_76 : decode cX5_init 76 = .ok (.aload_n 0, 1) := by decide +kernel
theorem dX5_init_77 : decode cX5_init 77 = .ok (.iconst 2, 1) := by decide +kernel
theorem dX5_init_78 : decode cX5_init 78 = .ok (.putfield 43, 3) := by decide +kernel
theorem dX5_init_81 : decode cX5_init 81 = .ok (.aload_n 0, 1) := by decide +kernel
theorem dX5_init_82 : decode cX5_init 82 = .ok (.bipush 8, 2) := by decide +kernel
theorem dX5_init_84 : decode cX5_init 84 = .ok (.putfield 46, 3) := by decide +kernel
theorem dX5_init_87 : decode cX5_init 87 = .ok (.return_, 1) := by decide +kernel
def P_X5_init (h0 : Nat) (cs : C3) (w1 : va_W) : Prop := ∃ q1 q2 q3 q4 q5 q6 q7 : Nat, w1 = [(h0, .inr (5, [.ref q1, .ref q2, .ref q3, .ref q4, .ref q5, .ref q6, .ref q7, .int (0 : Int32), .int (0 : Int32), .int (20 : Int32), .int (2 : Int32), .int (8 : Int32)])), (q1, .inl (cs.1, 6, .inl (fun _ => 0))), (q2, .inl (cs.1, 6, .inl (fun _ => 0))), (q3, .inl (cs.1, 6, .inl (fun _ => 0))), (q4, .inl (cs.1, 24, .inl (fun _ => 0))), (q5, .inl (cs.1, 8, .inl (fun _ => 0))), (q6, .inl (cs.1, 8, .inl (fun _ => 0))), (q7, .inl (cs.1, 8, .inl (fun _ => 0)))]
set_option maxRecDepth 100000 in
theorem k_X5_init (h0 : Nat) : Cc yX5_init cX5_init 1 1 7 66 [.ref h0] [(h0, .inr (5, [.null, .null, .null, .null, .null, .null, .null, .int 0, .int 0, .int 0, .int 0, .int 0]))] (P_X5_init h0) := by
  refine cc_of (by decide) rfl (Nat.le_of_ble_eq_true rfl) (fun κ hn C hin E hA hr => ?_)
  show Zw κ 0 [(0, .ref h0)] [] [(h0, .inr (5, [.null, .null, .null, .null, .null, .null, .null, .int 0, .int 0, .int 0, .int 0, .int 0]))] 0 0
  refine z_aload_n 1 C dX5_init_0 0 rfl rfl rfl ?_
  refine z_obj 4 C dX5_init_1 owc_X5_3 (Nat.le_of_ble_eq_true rfl) (Nat.le_of_ble_eq_true rfl) rfl ?_
  refine z_aload_n 5 C dX5_init_4 0 rfl rfl rfl ?_
  refine z_bipush (v := (6 : Int32)) 7 C dX5_init_5 cb_6 rfl ?_
  refine z_newI (N := 6) 9 C dX5_init_7 (by decide) (by decide) (Nat.le_of_ble_eq_true rfl) (Nat.le_of_ble_eq_true rfl) (Nat.le_of_ble_eq_true rfl) rfl (fun q1 => ?_)
  refine z_nz [(h0, .inr (5, [.null, .null, .null, .null, .null, .null, .null, .int 0, .int 0, .int 0, .int 0, .int 0])), (q1, .inl ((kcs κ).1, 6, .inl (fun _ => 0)))] 1 6 rfl rfl rfl ?_
  refine z_putF 12 [(h0, .inr (5, [.ref q1, .null, .null, .null, .null, .null, .null, .int 0, .int 0, .int 0, .int 0, .int 0])), (q1, .inl ((kcs κ).1, 6, .inl (fun _ => 0)))] C hin dX5_init_9 0 rfl rfl wj_X5 tyX5_ok nmX5 0 (by decide) fwc_X5_9 rfl rfl (tyX5_ok 0 (by decide)) rfl rfl (Nat.le_of_ble_eq_true rfl) rfl rfl ?_
  refine z_aload_n 13 C dX5_init_12 0 rfl rfl rfl ?_
  refine z_bipush (v := (6 : Int32)) 15 C dX5_init_13 cb_6 rfl ?_
  refine z_newI (N := 6) 17 C dX5_init_15 (by decide) (by decide) (Nat.le_of_ble_eq_true rfl) (Nat.le_of_ble_eq_true rfl) (Nat.le_of_ble_eq_true rfl) rfl (fun q2 => ?_)
  refine z_nz [(h0, .inr (5, [.ref q1, .null, .null, .null, .null, .null, .null, .int 0, .int 0, .int 0, .int 0, .int 0])), (q1, .inl ((kcs κ).1, 6, .inl (fun _ => 0))), (q2, .inl ((kcs κ).1, 6, .inl (fun _ => 0)))] 2 12 rfl rfl rfl ?_
  refine z_putF 20 [(h0, .inr (5, [.ref q1, .ref q2, .null, .null, .null, .null, .null, .int 0, .int 0, .int 0, .int 0, .int 0])), (q1, .inl ((kcs κ).1, 6, .inl (fun _ => 0))), (q2, .inl ((kcs κ).1, 6, .inl (fun _ => 0)))] C hin dX5_init_17 0 rfl rfl wj_X5 tyX5_ok nmX5 1 (by decide) fwc_X5_15 rfl rfl (tyX5_ok 1 (by decide)) rfl rfl (Nat.le_of_ble_eq_true rfl) rfl rfl ?_
  refine z_aload_n 21 C dX5_init_20 0 rfl rfl rfl ?_
  refine z_bipush (v := (6 : Int32)) 23 C dX5_init_21 cb_6 rfl ?_
  refine z_newI (N := 6) 25 C dX5_init_23 (by decide) (by decide) (Nat.le_of_ble_eq_true rfl) (Nat.le_of_ble_eq_true rfl) (Nat.le_of_ble_eq_true rfl) rfl (fun q3 => ?_)
  refine z_nz [(h0, .inr (5, [.ref q1, .ref q2, .null, .null, .null, .null, .null, .int 0, .int 0, .int 0, .int 0, .int 0])), (q1, .inl ((kcs κ).1, 6, .inl (fun _ => 0))), (q2, .inl ((kcs κ).1, 6, .inl (fun _ => 0))), (q3, .inl ((kcs κ).1, 6, .inl (fun _ => 0)))] 3 18 rfl rfl rfl ?_
  refine z_putF 28 [(h0, .inr (5, [.ref q1, .ref q2, .ref q3, .null, .null, .null, .null, .int 0, .int 0, .int 0, .int 0, .int 0])), (q1, .inl ((kcs κ).1, 6, .inl (fun _ => 0))), (q2, .inl ((kcs κ).1, 6, .inl (fun _ => 0))), (q3, .inl ((kcs κ).1, 6, .inl (fun _ => 0)))] C hin dX5_init_25 0 rfl rfl wj_X5 tyX5_ok nmX5 2 (by decide) fwc_X5_18 rfl rfl (tyX5_ok 2 (by decide)) rfl rfl (Nat.le_of_ble_eq_true rfl) rfl rfl ?_
  refine z_aload_n 29 C dX5_init_28 0 rfl rfl rfl ?_
  refine z_bipush (v := (24 : Int32)) 31 C dX5_init_29 cb_24 rfl ?_
  refine z_newI (N := 24) 33 C dX5_init_31 (by decide) (by decide) (Nat.le_of_ble_eq_true rfl) (Nat.le_of_ble_eq_true rfl) (Nat.le_of_ble_eq_true rfl) rfl (fun q4 => ?_)
  refine z_nz [(h0, .inr (5, [.ref q1, .ref q2, .ref q3, .null, .null, .null, .null, .int 0, .int 0, .int 0, .int 0, .int 0])), (q1, .inl ((kcs κ).1, 6, .inl (fun _ => 0))), (q2, .inl ((kcs κ).1, 6, .inl (fun _ => 0))), (q3, .inl ((kcs κ).1, 6, .inl (fun _ => 0))), (q4, .inl ((kcs κ).1, 24, .inl (fun _ => 0)))] 4 42 rfl rfl rfl ?_
  refine z_putF 36 [(h0, .inr (5, [.ref q1, .ref q2, .ref q3, .ref q4, .null, .null, .null, .int 0, .int 0, .int 0, .int 0, .int 0])), (q1, .inl ((kcs κ).1, 6, .inl (fun _ => 0))), (q2, .inl ((kcs κ).1, 6, .inl (fun _ => 0))), (q3, .inl ((kcs κ).1, 6, .inl (fun _ => 0))), (q4, .inl ((kcs κ).1, 24, .inl (fun _ => 0)))] C hin dX5_init_33 0 rfl rfl wj_X5 tyX5_ok nmX5 3 (by decide) fwc_X5_21 rfl rfl (tyX5_ok 3 (by decide)) rfl rfl (Nat.le_of_ble_eq_true rfl) rfl rfl ?_
  refine z_aload_n 37 C dX5_init_36 0 rfl rfl rfl ?_
  refine z_bipush (v := (8 : Int32)) 39 C dX5_init_37 cb_8 rfl ?_
  refine z_newI (N := 8) 41 C dX5_init_39 (by decide) (by decide) (Nat.le_of_ble_eq_true rfl) (Nat.le_of_ble_eq_true rfl) (Nat.le_of_ble_eq_true rfl) rfl (fun q5 => ?_)
  refine z_nz [(h0, .inr (5, [.ref q1, .ref q2, .ref q3, .ref q4, .null, .null, .null, .int 0, .int 0, .int 0, .int 0, .int 0])), (q1, .inl ((kcs κ).1, 6, .inl (fun _ => 0))), (q2, .inl ((kcs κ).1, 6, .inl (fun _ => 0))), (q3, .inl ((kcs κ).1, 6, .inl (fun _ => 0))), (q4, .inl ((kcs κ).1, 24, .inl (fun _ => 0))), (q5, .inl ((kcs κ).1, 8, .inl (fun _ => 0)))] 5 50 rfl rfl rfl ?_
  refine z_putF 44 [(h0, .inr (5, [.ref q1, .ref q2, .ref q3, .ref q4, .ref q5, .null, .null, .int 0, .int 0, .int 0, .int 0, .int 0])), (q1, .inl ((kcs κ).1, 6, .inl (fun _ => 0))), (q2, .inl ((kcs κ).1, 6, .inl (fun _ => 0))), (q3, .inl ((kcs κ).1, 6, .inl (fun _ => 0))), (q4, .inl ((kcs κ).1, 24, .inl (fun _ => 0))), (q5, .inl ((kcs κ).1, 8, .inl (fun _ => 0)))] C hin dX5_init_41 0 rfl rfl wj_X5 tyX5_ok nmX5 4 (by decide) fwc_X5_24 rfl rfl (tyX5_ok 4 (by decide)) rfl rfl (Nat.le_of_ble_eq_true rfl) rfl rfl ?_
  refine z_aload_n 45 C dX5_init_44 0 rfl rfl rfl ?_
  refine z_bipush (v := (8 : Int32)) 47 C dX5_init_45 cb_8 rfl ?_
  refine z_newI (N := 8) 49 C dX5_init_47 (by decide) (by decide) (Nat.le_of_ble_eq_true rfl) (Nat.le_of_ble_eq_true rfl) (Nat.le_of_ble_eq_true rfl) rfl (fun q6 => ?_)
  refine z_nz [(h0, .inr (5, [.ref q1, .ref q2, .ref q3, .ref q4, .ref q5, .null, .null, .int 0, .int 0, .int 0, .int 0, .int 0])), (q1, .inl ((kcs κ).1, 6, .inl (fun _ => 0))), (q2, .inl ((kcs κ).1, 6, .inl (fun _ => 0))), (q3, .inl ((kcs κ).1, 6, .inl (fun _ => 0))), (q4, .inl ((kcs κ).1, 24, .inl (fun _ => 0))), (q5, .inl ((kcs κ).1, 8, .inl (fun _ => 0))), (q6, .inl ((kcs κ).1, 8, .inl (fun _ => 0)))] 6 58 rfl rfl rfl ?_
  refine z_putF 52 [(h0, .inr (5, [.ref q1, .ref q2, .ref q3, .ref q4, .ref q5, .ref q6, .null, .int 0, .int 0, .int 0, .int 0, .int 0])), (q1, .inl ((kcs κ).1, 6, .inl (fun _ => 0))), (q2, .inl ((kcs κ).1, 6, .inl (fun _ => 0))), (q3, .inl ((kcs κ).1, 6, .inl (fun _ => 0))), (q4, .inl ((kcs κ).1, 24, .inl (fun _ => 0))), (q5, .inl ((kcs κ).1, 8, .inl (fun _ => 0))), (q6, .inl ((kcs κ).1, 8, .inl (fun _ => 0)))] C hin dX5_init_49 0 rfl rfl wj_X5 tyX5_ok nmX5 5 (by decide) fwc_X5_27 rfl rfl (tyX5_ok 5 (by decide)) rfl rfl (Nat.le_of_ble_eq_true rfl) rfl rfl ?_
  refine z_aload_n 53 C dX5_init_52 0 rfl rfl rfl ?_
  refine z_bipush (v := (8 : Int32)) 55 C dX5_init_53 cb_8 rfl ?_
  refine z_newI (N := 8) 57 C dX5_init_55 (by decide) (by decide) (Nat.le_of_ble_eq_true rfl) (Nat.le_of_ble_eq_true rfl) (Nat.le_of_ble_eq_true rfl) rfl (fun q7 => ?_)
  refine z_nz [(h0, .inr (5, [.ref q1, .ref q2, .ref q3, .ref q4, .ref q5, .ref q6, .null, .int 0, .int 0, .int 0, .int 0, .int 0])), (q1, .inl ((kcs κ).1, 6, .inl (fun _ => 0))), (q2, .inl ((kcs κ).1, 6, .inl (fun _ => 0))), (q3, .inl ((kcs κ).1, 6, .inl (fun _ => 0))), (q4, .inl ((kcs κ).1, 24, .inl (fun _ => 0))), (q5, .inl ((kcs κ).1, 8, .inl (fun _ => 0))), (q6, .inl ((kcs κ).1, 8, .inl (fun _ => 0))), (q7, .inl ((kcs κ).1, 8, .inl (fun _ => 0)))] 7 66 rfl rfl rfl ?_
  refine z_putF 60 [(h0, .inr (5, [.ref q1, .ref q2, .ref q3, .ref q4, .ref q5, .ref q6, .ref q7, .int 0, .int 0, .int 0, .int 0, .int 0])), (q1, .inl ((kcs κ).1, 6, .inl (fun _ => 0))), (q2, .inl ((kcs κ).1, 6, .inl (fun _ => 0))), (q3, .inl ((kcs κ).1, 6, .inl (fun _ => 0))), (q4, .inl ((kcs κ).1, 24, .inl (fun _ => 0))), (q5, .inl ((kcs κ).1, 8, .inl (fun _ => 0))), (q6, .inl ((kcs κ).1, 8, .inl (fun _ => 0))), (q7, .inl ((kcs κ).1, 8, .inl (fun _ => 0)))] C hin dX5_init_57 0 rfl rfl wj_X5 tyX5_ok nmX5 6 (by decide) fwc_X5_30 rfl rfl (tyX5_ok 6 (by decide)) rfl rfl (Nat.le_of_ble_eq_true rfl) rfl rfl ?_
  refine z_aload_n 61 C dX5_init_60 0 rfl rfl rfl ?_
  refine z_iconst (v := (0 : Int32)) 62 C dX5_init_61 ci_0 rfl ?_
  refine z_putI 65 [(h0, .inr (5, [.ref q1, .ref q2, .ref q3, .ref q4, .ref q5, .ref q6, .ref q7, .int (0 : Int32), .int 0, .int 0, .int 0, .int 0])), (q1, .inl ((kcs κ).1, 6, .inl (fun _ => 0))), (q2, .inl ((kcs κ).1, 6, .inl (fun _ => 0))), (q3, .inl ((kcs κ).1, 6, .inl (fun _ => 0))), (q4, .inl ((kcs κ).1, 24, .inl (fun _ => 0))), (q5, .inl ((kcs κ).1, 8, .inl (fun _ => 0))), (q6, .inl ((kcs κ).1, 8, .inl (fun _ => 0))), (q7, .inl ((kcs κ).1, 8, .inl (fun _ => 0)))] C dX5_init_62 0 rfl rfl wj_X5 tyX5_ok nmX5 7 (by decide) fwc_X5_33 rfl (tyX5_ok 7 (by decide)) rfl rfl (Nat.le_of_ble_eq_true rfl) rfl rfl ?_
  refine z_aload_n 66 C dX5_init_65 0 rfl rfl rfl ?_
  refine z_iconst (v := (0 : Int32)) 67 C dX5_init_66 ci_0 rfl ?_
  refine z_putI 70 [(h0, .inr (5, [.ref q1, .ref q2, .ref q3, .ref q4, .ref q5, .ref q6, .ref q7, .int (0 : Int32), .int (0 : Int32), .int 0, .int 0, .int 0])), (q1, .inl ((kcs κ).1, 6, .inl (fun _ => 0))), (q2, .inl ((kcs κ).1, 6, .inl (fun _ => 0))), (q3, .inl ((kcs κ).1, 6, .inl (fun _ => 0))), (q4, .inl ((kcs κ).1, 24, .inl (fun _ => 0))), (q5, .inl ((kcs κ).1, 8, .inl (fun _ => 0))), (q6, .inl ((kcs κ).1, 8, .inl (fun _ => 0))), (q7, .inl ((kcs κ).1, 8, .inl (fun _ => 0)))] C dX5_init_67 0 rfl rfl wj_X5 tyX5_ok nmX5 8 (by decide) fwc_X5_37 rfl (tyX5_ok 8 (by decide)) rfl rfl (Nat.le_of_ble_eq_true rfl) rfl rfl ?_
  refine z_aload_n 71 C dX5_init_70 0 rfl rfl rfl ?_
  refine z_bipush (v := (20 : Int32)) 73 C dX5_init_71 cb_20 rfl ?_
  refine z_putI 76 [(h0, .inr (5, [.ref q1, .ref q2, .ref q3, .ref q4, .ref q5, .ref q6, .ref q7, .int (0 : Int32), .int (0 : Int32), .int (20 : Int32), .int 0, .int 0])), (q1, .inl ((kcs κ).1, 6, .inl (fun _ => 0))), (q2, .inl ((kcs κ).1, 6, .inl (fun _ => 0))), (q3, .inl ((kcs κ).1, 6, .inl (fun _ => 0))), (q4, .inl ((kcs κ).1, 24, .inl (fun _ => 0))), (q5, .inl ((kcs κ).1, 8, .inl (fun _ => 0))), (q6, .inl ((kcs κ).1, 8, .inl (fun _ => 0))), (q7, .inl ((kcs κ).1, 8, .inl (fun _ => 0)))] C dX5_init_73 0 rfl rfl wj_X5 tyX5_ok nmX5 9 (by decide) fwc_X5_40 rfl (tyX5_ok 9 (by decide)) rfl rfl (Nat.le_of_ble_eq_true rfl) rfl rfl ?_
  refine z_aload_n 77 C dX5_init_76 0 rfl rfl rfl ?_
  refine z_iconst (v := (2 : Int32)) 78 C dX5_init_77 ci_2 rfl ?_
  refine z_putI 81 [(h0, .inr (5, [.ref q1, .ref q2, .ref q3, .ref q4, .ref q5, .ref q6, .ref q7, .int (0 : Int32), .int (0 : Int32), .int (20 : Int32), .int (2 : Int32), .int 0])), (q1, .inl ((kcs κ).1, 6, .inl (fun _ => 0))), (q2, .inl ((kcs κ).1, 6, .inl (fun _ => 0))), (q3, .inl ((kcs κ).1, 6, .inl (fun _ => 0))), (q4, .inl ((kcs κ).1, 24, .inl (fun _ => 0))), (q5, .inl ((kcs κ).1, 8, .inl (fun _ => 0))), (q6, .inl ((kcs κ).1, 8, .inl (fun _ => 0))), (q7, .inl ((kcs κ).1, 8, .inl (fun _ => 0)))] C dX5_init_78 0 rfl rfl wj_X5 tyX5_ok nmX5 10 (by decide) fwc_X5_43 rfl (tyX5_ok 10 (by decide)) rfl rfl (Nat.le_of_ble_eq_true rfl) rfl rfl ?_
  refine z_aload_n 82 C dX5_init_81 0 rfl rfl rfl ?_
  refine z_bipush (v := (8 : Int32)) 84 C dX5_init_82 cb_8 rfl ?_
  refine z_putI 87 [(h0, .inr (5, [.ref q1, .ref q2, .ref q3, .ref q4, .ref q5, .ref q6, .ref q7, .int (0 : Int32), .int (0 : Int32), .int (20 : Int32), .int (2 : Int32), .int (8 : Int32)])), (q1, .inl ((kcs κ).1, 6, .inl (fun _ => 0))), (q2, .inl ((kcs κ).1, 6, .inl (fun _ => 0))), (q3, .inl ((kcs κ).1, 6, .inl (fun _ => 0))), (q4, .inl ((kcs κ).1, 24, .inl (fun _ => 0))), (q5, .inl ((kcs κ).1, 8, .inl (fun _ => 0))), (q6, .inl ((kcs κ).1, 8, .inl (fun _ => 0))), (q7, .inl ((kcs κ).1, 8, .inl (fun _ => 0)))] C dX5_init_84 0 rfl rfl wj_X5 tyX5_ok nmX5 11 (by decide) fwc_X5_46 rfl (tyX5_ok 11 (by decide)) rfl rfl (Nat.le_of_ble_eq_true rfl) rfl rfl ?_
  exact z_ret C E hA hr dX5_init_87 ⟨q1, q2, q3, q4, q5, q6, q7, rfl⟩
theorem dX3_init_0 : decode cX3_init 0 = .ok (.aload_n 0, 1) := by decide +kernel
theorem dX3_init_1 : decode cX3_init 1 = .ok (.invokespecial 3, 3) := by decide +kernel
theorem dX3_init_4 : decode cX3_init 4 = .ok (.aload_n 0, 1) := by decide +kernel
theorem dX3_init_5 : decode cX3_init 5 = .ok (.bipush 8, 2) := by decide +kernel
theorem dX3_init_7 : decode cX3_init 7 = .ok (.newarray .int, 2) := by decide +kernel
theorem dX3_init_9 : decode cX3_init 9 = .ok (.putfield 9, 3) := by decide +kernel
theorem dX3_init_12 : decode cX3_init 12 = .ok (.aload_n 0, 1) := by decide +kernel
theorem dX3_init_13 : decode cX3_init 13 = .ok (.bipush 8, 2) := by decide +kernel
theorem dX3_init_15 : decode cX3_init 15 = .ok (.newarray .int, 2) := by decide +kernel
theorem dX3_init_17 : decode cX3_init 17 = .ok (.putfield 15, 3) := by decide +kernel
theorem dX3_init_20 : decode cX3_init 20 = .ok (.aload_n 0, 1) := by decide +kernel
theorem dX3_init_21 : decode cX3_init 21 = .ok (.bipush 8, 2) := by decide +kernel
theorem dX3_init_23 : decode cX3_init 23 = .ok (.newarray .int, 2) := by decide +kernel
theorem dX3_init_25 : decode cX3_init 25 = .ok (.putfield 18, 3) := by decide +kernel
theorem dX3_init_28 : decode cX3_init 28 = .ok (.aload_n 0, 1) := by decide +kernel
theorem dX3_init_29 : decode cX3_init 29 = .ok (.iconst 0, 1) := by decide +kernel
theorem dX3_init_30 : decode cX3_init 30 = .ok (.putfield 21, 3) := by decide +kernel
theorem dX3_init_33 : decode cX3_init 33 = .ok (.return_, 1) := by decide +kernel
def P_X3_init (h0 : Nat) (cs : C3) (w1 : va_W) : Prop := ∃ q1 q2 q3 : Nat, w1 = [(h0, .inr (3, [.ref q1, .ref q2, .ref q3, .int (0 : Int32)])), (q1, .inl (cs.1, 8, .inl (fun _ => 0))), (q2, .inl (cs.1, 8, .inl (fun _ => 0))), (q3, .inl (cs.1, 8, .inl (fun _ => 0)))]
set_option maxRecDepth 100000 in
theorem k_X3_init (h0 : Nat) : Cc yX3_init cX3_init 1 1 3 24 [.ref h0] [(h0, .inr (3, [.null, .null, .null, .int 0]))] (P_X3_init h0) := by
  refine cc_of (by decide) rfl (Nat.le_of_ble_eq_true rfl) (fun κ hn C hin E hA hr => ?_)
  show Zw κ 0 [(0, .ref h0)] [] [(h0, .inr (3, [.null, .null, .null, .int 0]))] 0 0
  refine z_aload_n 1 C dX3_init_0 0 rfl rfl rfl ?_
  refine z_obj 4 C dX3_init_1 owc_X3_3 (Nat.le_of_ble_eq_true rfl) (Nat.le_of_ble_eq_true rfl) rfl ?_
  refine z_aload_n 5 C dX3_init_4 0 rfl rfl rfl ?_
  refine z_bipush (v := (8 : Int32)) 7 C dX3_init_5 cb_8 rfl ?_
  refine z_newI (N := 8) 9 C dX3_init_7 (by decide) (by decide) (Nat.le_of_ble_eq_true rfl) (Nat.le_of_ble_eq_true rfl) (Nat.le_of_ble_eq_true rfl) rfl (fun q1 => ?_)
  refine z_nz [(h0, .inr (3, [.null, .null, .null, .int 0])), (q1, .inl ((kcs κ).1, 8, .inl (fun _ => 0)))] 1 8 rfl rfl rfl ?_
  refine z_putF 12 [(h0, .inr (3, [.ref q1, .null, .null, .int 0])), (q1, .inl ((kcs κ).1, 8, .inl (fun _ => 0)))] C hin dX3_init_9 0 rfl rfl wj_X3 tyX3_ok nmX3 0 (by decide) fwc_X3_9 rfl rfl (tyX3_ok 0 (by decide)) rfl rfl (Nat.le_of_ble_eq_true rfl) rfl rfl ?_
  refine z_aload_n 13 C dX3_init_12 0 rfl rfl rfl ?_
  refine z_bipush (v := (8 : Int32)) 15 C dX3_init_13 cb_8 rfl ?_
  refine z_newI (N := 8) 17 C dX3_init_15 (by decide) (by decide) (Nat.le_of_ble_eq_true rfl) (Nat.le_of_ble_eq_true rfl) (Nat.le_of_ble_eq_true rfl) rfl (fun q2 => ?_)
  refine z_nz [(h0, .inr (3, [.ref q1, .null, .null, .int 0])), (q1, .inl ((kcs κ).1, 8, .inl (fun _ => 0))), (q2, .inl ((kcs κ).1, 8, .inl (fun _ => 0)))] 2 16 rfl rfl rfl ?_
  refine z_putF 20 [(h0, .inr (3, [.ref q1, .ref q2, .null, .int 0])), (q1, .inl ((kcs κ).1, 8, .inl (fun _ => 0))), (q2, .inl ((kcs κ).1, 8, .inl (fun _ => 0)))] C hin dX3_init_17 0 rfl rfl wj_X3 tyX3_ok nmX3 1 (by decide) fwc_X3_15 rfl rfl (tyX3_ok 1 (by decide)) rfl rfl (Nat.le_of_ble_eq_true rfl) rfl rfl ?_
  refine z_aload_n 21 C dX3_init_20 0 rfl rfl rfl ?_
  refine z_bipush (v := (8 : Int32)) 23 C dX3_init_21 cb_8 rfl ?_
  refine z_newI (N := 8) 25 C dX3_init_23 (by decide) (by decide) (Nat.le_of_ble_eq_true rfl) (Nat.le_of_ble_eq_true rfl) (Nat.le_of_ble_eq_true rfl) rfl (fun q3 => ?_)
  refine z_nz [(h0, .inr (3, [.ref q1, .ref q2, .null, .int 0])), (q1, .inl ((kcs κ).1, 8, .inl (fun _ => 0))), (q2, .inl ((kcs κ).1, 8, .inl (fun _ => 0))), (q3, .inl ((kcs κ).1, 8, .inl (fun _ => 0)))] 3 24 rfl rfl rfl ?_
  refine z_putF 28 [(h0, .inr (3, [.ref q1, .ref q2, .ref q3, .int 0])), (q1, .inl ((kcs κ).1, 8, .inl (fun _ => 0))), (q2, .inl ((kcs κ).1, 8, .inl (fun _ => 0))), (q3, .inl ((kcs κ).1, 8, .inl (fun _ => 0)))] C hin dX3_init_25 0 rfl rfl wj_X3 tyX3_ok nmX3 2 (by decide) fwc_X3_18 rfl rfl (tyX3_ok 2 (by decide)) rfl rfl (Nat.le_of_ble_eq_true rfl) rfl rfl ?_
  refine z_aload_n 29 C dX3_init_28 0 rfl rfl rfl ?_
  refine z_iconst (v := (0 : Int32)) 30 C dX3_init_29 ci_0 rfl ?_
  refine z_putI 33 [(h0, .inr (3, [.ref q1, .ref q2, .ref q3, .int (0 : Int32)])), (q1, .inl ((kcs κ).1, 8, .inl (fun _ => 0))), (q2, .inl ((kcs κ).1, 8, .inl (fun _ => 0))), (q3, .inl ((kcs κ).1, 8, .inl (fun _ => 0)))] C dX3_init_30 0 rfl rfl wj_X3 tyX3_ok nmX3 3 (by decide) fwc_X3_21 rfl (tyX3_ok 3 (by decide)) rfl rfl (Nat.le_of_ble_eq_true rfl) rfl rfl ?_
  exact z_ret C E hA hr dX3_init_33 ⟨q1, q2, q3, rfl⟩
theorem dX6_init_0 : decode cX6_init 0 = .ok (.aload_n 0, 1) := by decide +kernel
theorem dX6_init_1 : decode cX6_init 1 = .ok (.invokespecial 3, 3) := by decide +kernel
theorem dX6_init_4 : decode cX6_init 4 = .ok (.aload_n 0, 1) := by decide +kernel
theorem dX6_init_5 : decode cX6_init 5 = .ok (.bipush 24, 2) := by decide +kernel
theorem dX6_init_7 : decode cX6_init 7 = .ok (.newarray .int, 2) := by decide +kernel
theorem dX6_init_9 : decode cX6_init 9 = .ok (.putfield 9, 3) := by decide +kernel
theorem dX6_init_12 : decode cX6_init 12 = .ok (.aload_n 0, 1) := by decide +kernel
theorem dX6_init_13 : decode cX6_init 13 = .ok (.bipush 24, 2) := by decide +kernel
theorem dX6_init_15 : decode cX6_init 15 = .ok (.newarray .int, 2) := by decide +kernel
theorem dX6_init_17 : decode cX6_init 17 = .ok (.putfield 15, 3) := by decide +kernel
theorem dX6_init_20 : decode cX6_init 20 = .ok (.aload_n 0, 1) := by decide +kernel
theorem dX6_init_21 : decode cX6_init 21 = .ok (.bipush 24, 2) := by decide +kernel
theorem dX6_init_23 : decode cX6_init 23 = .ok (.newarray .int, 2) := by decide +kernel
theorem dX6_init_25 : decode cX6_init 25 = .ok (.putfield 18, 3) := by decide +kernel
theorem dX6_init_28 : decode cX6_init 28 = .ok (.return_, 1) := by decide +kernel
def P_X6_init (h0 : Nat) (cs : C3) (w1 : va_W) : Prop := ∃ q1 q2 q3 : Nat, w1 = [(h0, .inr (6, [.ref q1, .ref q2, .ref q3])), (q1, .inl (cs.1, 24, .inl (fun _ => 0))), (q2, .inl (cs.1, 24, .inl (fun _ => 0))), (q3, .inl (cs.1, 24, .inl (fun _ => 0)))]
set_option maxRecDepth 100000 in
theorem k_X6_init (h0 : Nat) : Cc yX6_init cX6_init 1 1 3 72 [.ref h0] [(h0, .inr (6, [.null, .null, .null]))] (P_X6_init h0) := by
  refine cc_of (by decide) rfl (Nat.le_of_ble_eq_true rfl) (fun κ hn C hin E hA hr => ?_)
  show Zw κ 0 [(0, .ref h0)] [] [(h0, .inr (6, [.null, .null, .null]))] 0 0
  refine z_aload_n 1 C dX6_init_0 0 rfl rfl rfl ?_
  refine z_obj 4 C dX6_init_1 owc_X6_3 (Nat.le_of_ble_eq_true rfl) (Nat.le_of_ble_eq_true rfl) rfl ?_
  refine z_aload_n 5 C dX6_init_4 0 rfl rfl rfl ?_
  refine z_bipush (v := (24 : Int32)) 7 C dX6_init_5 cb_24 rfl ?_
  refine z_newI (N := 24) 9 C dX6_init_7 (by decide) (by decide) (Nat.le_of_ble_eq_true rfl) (Nat.le_of_ble_eq_true rfl) (Nat.le_of_ble_eq_true rfl) rfl (fun q1 => ?_)
  refine z_nz [(h0, .inr (6, [.null, .null, .null])), (q1, .inl ((kcs κ).1, 24, .inl (fun _ => 0)))] 1 24 rfl rfl rfl ?_
  refine z_putF 12 [(h0, .inr (6, [.ref q1, .null, .null])), (q1, .inl ((kcs κ).1, 24, .inl (fun _ => 0)))] C hin dX6_init_9 0 rfl rfl wj_X6 tyX6_ok nmX6 0 (by decide) fwc_X6_9 rfl rfl (tyX6_ok 0 (by decide)) rfl rfl (Nat.le_of_ble_eq_true rfl) rfl rfl ?_
  refine z_aload_n 13 C dX6_init_12 0 rfl rfl rfl ?_
  refine z_bipush (v := (24 : Int32)) 15 C dX6_init_13 cb_24 rfl ?_
  refine z_newI (N := 24) 17 C dX6_init_15 (by decide) (by decide) (Nat.le_of_ble_eq_true rfl) (Nat.le_of_ble_eq_true rfl) (Nat.le_of_ble_eq_true rfl) rfl (fun q2 => ?_)
  refine z_nz [(h0, .inr (6, [.ref q1, .null, .null])), (q1, .inl ((kcs κ).1, 24, .inl (fun _ => 0))), (q2, .inl ((kcs κ).1, 24, .inl (fun _ => 0)))] 2 48 rfl rfl rfl ?_
  refine z_putF 20 [(h0, .inr (6, [.ref q1, .ref q2, .null])), (q1, .inl ((kcs κ).1, 24, .inl (fun _ => 0))), (q2, .inl ((kcs κ).1, 24, .inl (fun _ => 0)))] C hin dX6_init_17 0 rfl rfl wj_X6 tyX6_ok nmX6 1 (by decide) fwc_X6_15 rfl rfl (tyX6_ok 1 (by decide)) rfl rfl (Nat.le_of_ble_eq_true rfl) rfl rfl ?_
  refine z_aload_n 21 C dX6_init_20 0 rfl rfl rfl ?_
  refine z_bipush (v := (24 : Int32)) 23 C dX6_init_21 cb_24 rfl ?_
  refine z_newI (N := 24) 25 C dX6_init_23 (by decide) (by decide) (Nat.le_of_ble_eq_true rfl) (Nat.le_of_ble_eq_true rfl) (Nat.le_of_ble_eq_true rfl) rfl (fun q3 => ?_)
  refine z_nz [(h0, .inr (6, [.ref q1, .ref q2, .null])), (q1, .inl ((kcs κ).1, 24, .inl (fun _ => 0))), (q2, .inl ((kcs κ).1, 24, .inl (fun _ => 0))), (q3, .inl ((kcs κ).1, 24, .inl (fun _ => 0)))] 3 72 rfl rfl rfl ?_
  refine z_putF 28 [(h0, .inr (6, [.ref q1, .ref q2, .ref q3])), (q1, .inl ((kcs κ).1, 24, .inl (fun _ => 0))), (q2, .inl ((kcs κ).1, 24, .inl (fun _ => 0))), (q3, .inl ((kcs κ).1, 24, .inl (fun _ => 0)))] C hin dX6_init_25 0 rfl rfl wj_X6 tyX6_ok nmX6 2 (by decide) fwc_X6_18 rfl rfl (tyX6_ok 2 (by decide)) rfl rfl (Nat.le_of_ble_eq_true rfl) rfl rfl ?_
  exact z_ret C E hA hr dX6_init_28 ⟨q1, q2, q3, rfl⟩
theorem dX0_init_0 : decode cX0_init 0 = .ok (.aload_n 0, 1) := by decide +kernel
theorem dX0_init_1 : decode cX0_init 1 = .ok (.invokespecial 3, 3) := by decide +kernel
theorem dX0_init_4 : decode cX0_init 4 = .ok (.aload_n 0, 1) := by decide +kernel
theorem dX0_init_5 : decode cX0_init 5 = .ok (.sipush 144, 3) := by decide +kernel
theorem dX0_init_8 : decode cX0_init 8 = .ok (.newarray .int, 2) := by decide +kernel
theorem dX0_init_10 : decode cX0_init 10 = .ok (.putfield 11, 3) := by decide +kernel
theorem dX0_init_13 : decode cX0_init 13 = .ok (.aload_n 0, 1) := by decide +kernel
theorem dX0_init_14 : decode cX0_init 14 = .ok (.sipush 144, 3) := by decide +kernel
theorem dX0_init_17 : decode cX0_init 17 = .ok (.newarray .int, 2) := by decide +kernel
theorem dX0_init_19 : decode cX0_init 19 = .ok (.putfield 15, 3) := by decide +kernel
theorem dX0_init_22 : decode cX0_init 22 = .ok (.aload_n 0, 1) := by decide +kernel
theorem dX0_init_23 : decode cX0_init 23 = .ok (.sipush 144, 3) := by decide +kernel
theorem dX0_init_26 : decode cX0_init 26 = .ok (.newarray .int, 2) := by decide +kernel
theorem dX0_init_28 : decode cX0_init 28 = .ok (.putfield 18, 3) := by decide +kernel
theorem dX0_init_31 : decode cX0_init 31 = .ok (.aload_n 0, 1) := by decide +kernel
theorem dX0_init_32 : decode cX0_init 32 = .ok (.bipush 24, 2) := by decide +kernel
theorem dX0_init_34 : decode cX0_init 34 = .ok (.newarray .int, 2) := by decide +kernel
theorem dX0_init_36 : decode cX0_init 36 = .ok (.putfield 21, 3) := by decide +kernel
theorem dX0_init_39 : decode cX0_init 39 = .ok (.return_, 1) := by decide +kernel
def P_X0_init (h0 : Nat) (cs : C3) (w1 : va_W) : Prop := ∃ q1 q2 q3 q4 : Nat, w1 = [(h0, .inr (0, [.ref q1, .ref q2, .ref q3, .ref q4])), (q1, .inl (cs.1, 144, .inl (fun _ => 0))), (q2, .inl (cs.1, 144, .inl (fun _ => 0))), (q3, .inl (cs.1, 144, .inl (fun _ => 0))), (q4, .inl (cs.1, 24, .inl (fun _ => 0)))]
set_option maxRecDepth 100000 in
theorem k_X0_init (h0 : Nat) : Cc yX0_init cX0_init 1 1 4 456 [.ref h0] [(h0, .inr (0, [.null, .null, .null, .null]))] (P_X0_init h0) := by
  refine cc_of (by decide) rfl (Nat.le_of_ble_eq_true rfl) (fun κ hn C hin E hA hr => ?_)
  show Zw κ 0 [(0, .ref h0)] [] [(h0, .inr (0, [.null, .null, .null, .null]))] 0 0
  refine z_aload_n 1 C dX0_init_0 0 rfl rfl rfl ?_
  refine z_obj 4 C dX0_init_1 owc_X0_3 (Nat.le_of_ble_eq_true rfl) (Nat.le_of_ble_eq_true rfl) rfl ?_
  refine z_aload_n 5 C dX0_init_4 0 rfl rfl rfl ?_
  refine z_sipush (v := (144 : Int32)) 8 C dX0_init_5 cs_144 rfl ?_
  refine z_newI (N := 144) 10 C dX0_init_8 (by decide) (by decide) (Nat.le_of_ble_eq_true rfl) (Nat.le_of_ble_eq_true rfl) (Nat.le_of_ble_eq_true rfl) rfl (fun q1 => ?_)
  refine z_nz [(h0, .inr (0, [.null, .null, .null, .null])), (q1, .inl ((kcs κ).1, 144, .inl (fun _ => 0)))] 1 144 rfl rfl rfl ?_
  refine z_putF 13 [(h0, .inr (0, [.ref q1, .null, .null, .null])), (q1, .inl ((kcs κ).1, 144, .inl (fun _ => 0)))] C hin dX0_init_10 0 rfl rfl wj_X0 tyX0_ok nmX0 0 (by decide) fwc_X0_11 rfl rfl (tyX0_ok 0 (by decide)) rfl rfl (Nat.le_of_ble_eq_true rfl) rfl rfl ?_
  refine z_aload_n 14 C dX0_init_13 0 rfl rfl rfl ?_
  refine z_sipush (v := (144 : Int32)) 17 C dX0_init_14 cs_144 rfl ?_
  refine z_newI (N := 144) 19 C dX0_init_17 (by decide) (by decide) (Nat.le_of_ble_eq_true rfl) (Nat.le_of_ble_eq_true rfl) (Nat.le_of_ble_eq_true rfl) rfl (fun q2 => ?_)
  refine z_nz [(h0, .inr (0, [.ref q1, .null, .null, .null])), (q1, .inl ((kcs κ).1, 144, .inl (fun _ => 0))), (q2, .inl ((kcs κ).1, 144, .inl (fun _ => 0)))] 2 288 rfl rfl rfl ?_
  refine z_putF 22 [(h0, .inr (0, [.ref q1, .ref q2, .null, .null])), (q1, .inl ((kcs κ).1, 144, .inl (fun _ => 0))), (q2, .inl ((kcs κ).1, 144, .inl (fun _ => 0)))] C hin dX0_init_19 0 rfl rfl wj_X0 tyX0_ok nmX0 1 (by decide) fwc_X0_15 rfl rfl (tyX0_ok 1 (by decide)) rfl rfl (Nat.le_of_ble_eq_true rfl) rfl rfl ?_
  refine z_aload_n 23 C dX0_init_22 0 rfl rfl rfl ?_
  refine z_sipush (v := (144 : Int32)) 26 C dX0_init_23 cs_144 rfl ?_
  refine z_newI (N := 144) 28 C dX0_init_26 (by decide) (by decide) (Nat.le_of_ble_eq_true rfl) (Nat.le_of_ble_eq_true rfl) (Nat.le_of_ble_eq_true rfl) rfl (fun q3 => ?_)
  refine z_nz [(h0, .inr (0, [.ref q1, .ref q2, .null, .null])), (q1, .inl ((kcs κ).1, 144, .inl (fun _ => 0))), (q2, .inl ((kcs κ).1, 144, .inl (fun _ => 0))), (q3, .inl ((kcs κ).1, 144, .inl (fun _ => 0)))] 3 432 rfl rfl rfl ?_
  refine z_putF 31 [(h0, .inr (0, [.ref q1, .ref q2, .ref q3, .null])), (q1, .inl ((kcs κ).1, 144, .inl (fun _ => 0))), (q2, .inl ((kcs κ).1, 144, .inl (fun _ => 0))), (q3, .inl ((kcs κ).1, 144, .inl (fun _ => 0)))] C hin dX0_init_28 0 rfl rfl wj_X0 tyX0_ok nmX0 2 (by decide) fwc_X0_18 rfl rfl (tyX0_ok 2 (by decide)) rfl rfl (Nat.le_of_ble_eq_true rfl) rfl rfl ?_
  refine z_aload_n 32 C dX0_init_31 0 rfl rfl rfl ?_
  refine z_bipush (v := (24 : Int32)) 34 C dX0_init_32 cb_24 rfl ?_
  refine z_newI (N := 24) 36 C dX0_init_34 (by decide) (by decide) (Nat.le_of_ble_eq_true rfl) (Nat.le_of_ble_eq_true rfl) (Nat.le_of_ble_eq_true rfl) rfl (fun q4 => ?_)
  refine z_nz [(h0, .inr (0, [.ref q1, .ref q2, .ref q3, .null])), (q1, .inl ((kcs κ).1, 144, .inl (fun _ => 0))), (q2, .inl ((kcs κ).1, 144, .inl (fun _ => 0))), (q3, .inl ((kcs κ).1, 144, .inl (fun _ => 0))), (q4, .inl ((kcs κ).1, 24, .inl (fun _ => 0)))] 4 456 rfl rfl rfl ?_
  refine z_putF 39 [(h0, .inr (0, [.ref q1, .ref q2, .ref q3, .ref q4])), (q1, .inl ((kcs κ).1, 144, .inl (fun _ => 0))), (q2, .inl ((kcs κ).1, 144, .inl (fun _ => 0))), (q3, .inl ((kcs κ).1, 144, .inl (fun _ => 0))), (q4, .inl ((kcs κ).1, 24, .inl (fun _ => 0)))] C hin dX0_init_36 0 rfl rfl wj_X0 tyX0_ok nmX0 3 (by decide) fwc_X0_21 rfl rfl (tyX0_ok 3 (by decide)) rfl rfl (Nat.le_of_ble_eq_true rfl) rfl rfl ?_
  exact z_ret C E hA hr dX0_init_39 ⟨q1, q2, q3, q4, rfl⟩
theorem dX2_init_0 : decode cX2_init 0 = .ok (.aload_n 0, 1) := by decide +kernel
theorem dX2_init_1 : decode cX2_init 1 = .ok (.invokespecial 3, 3) := by decide +kernel
theorem dX2_init_4 : decode cX2_init 4 = .ok (.aload_n 0, 1) := by decide +kernel
theorem dX2_init_5 : decode cX2_init 5 = .ok (.new 9, 3) := by decide +kernel
theorem dX2_init_8 : decode cX2_init 8 = .ok (.dup, 1) := by decide +kernel
theorem dX2_init_9 : decode cX2_init 9 = .ok (.invokespecial 11, 3) := by decide +kernel
theorem dX2_init_12 : decode cX2_init 12 = .ok (.putfield 12, 3) := by decide +kernel
theorem dX2_init_15 : decode cX2_init 15 = .ok (.aload_n 0, 1) := by decide +kernel
theorem dX2_init_16 : decode cX2_init 16 = .ok (.new 18, 3) := by decide +kernel
theorem dX2_init_19 : decode cX2_init 19 = .ok (.dup, 1) := by decide +kernel
theorem dX2_init_20 : decode cX2_init 20 = .ok (.invokespecial 20, 3) := by decide +kernel
theorem dX2_init_23 : decode cX2_init 23 = .ok (.putfield 21, 3) := by decide +kernel
theorem dX2_init_26 : decode cX2_init 26 = .ok (.aload_n 0, 1) := by decide +kernel
theorem dX2_init_27 : decode cX2_init 27 = .ok (.bipush 6, 2) := by decide +kernel
theorem dX2_init_29 : decode cX2_init 29 = .ok (.newarray .int, 2) := by decide +kernel
theorem dX2_init_31 : decode cX2_init 31 = .ok (.putfield 25, 3) := by decide +kernel
theorem dX2_init_34 : decode cX2_init 34 = .ok (.aload_n 0, 1) := by decide +kernel
theorem dX2_init_35 : decode cX2_init 35 = .ok (.bipush 6, 2) := by decide +kernel
theorem dX2_init_37 : decode cX2_init 37 = .ok (.newarray .int, 2) := by decide +kernel
theorem dX2_init_39 : decode cX2_init 39 = .ok (.putfield 29, 3) := by decide +kernel
theorem dX2_init_42 : decode cX2_init 42 = .ok (.aload_n 0, 1) := by decide +kernel
theorem dX2_init_43 : decode cX2_init 43 = .ok (.bipush 6, 2) := by decide +kernel
theorem dX2_init_45 : decode cX2_init 45 = .ok (.newarray .int, 2) := by decide +kernel
theorem dX2_init_47 : decode cX2_init 47 = .ok (.putfield 32, 3) := by decide +kernel
theorem dX2_init_50 : decode cX2_init 50 = .ok (.aload_n 0, 1) := by decide +kernel
theorem dX2_init_51 : decode cX2_init 51 = .ok (.bipush 6, 2) := by decide +kernel
theorem dX2_init_53 : decode cX2_init 53 = .ok (.newarray .int, 2) := by decide +kernel
theorem dX2_init_55 : decode cX2_init 55 = .ok (.putfield 35, 3) := by decide +kernel
theorem dX2_init_58 : decode cX2_init 58 = .ok (.aload_n 0, 1) := by decide +kernel
theorem dX2_init_59 : decode cX2_init 59 = .ok (.bipush 6, 2) := by decide +kernel
theorem dX2_init_61 : decode cX2_init 61 = .ok (.newarray .int, 2) := by decide +kernel
theorem dX2_init_63 : decode cX2_init 63 = .ok (.putfield 38, 3) := by decide +kernel
theorem dX2_init_66 : decode cX2_init 66 = .ok (.aload_n 0, 1) := by decide +kernel
theorem dX2_init_67 : decode cX2_init 67 = .ok (.bipush 6, 2) := by decide +kernel
theorem dX2_init_69 : decode cX2_init 69 = .ok (.newarray .int, 2) := by decide +kernel
theorem dX2_init_71 : decode cX2_init 71 = .ok (.putfield 41, 3) := by decide +kernel
theorem dX2_init_74 : decode cX2_init 74 = .ok (.aload_n 0, 1) := by decide +kernel
theorem dX2_init_75 : decode cX2_init 75 = .ok (.bipush 6, 2) := by decide +kernel
theorem dX2_init_77 : decode cX2_init 77 = .ok (.newarray .int, 2) := by decide +kernel
theorem dX2_init_79 : decode cX2_init 79 = .ok (.putfield 44, 3) := by decide +kernel
theorem dX2_init_82 : decode cX2_init 82 = .ok (.aload_n 0, 1) := by decide +kernel
theorem dX2_init_83 : decode cX2_init 83 = .ok (.bipush 6, 2) := by decide +kernel
theorem dX2_init_85 : decode cX2_init 85 = .ok (.newarray .int, 2) := by decide +kernel
theorem dX2_init_87 : decode cX2_init 87 = .ok (.putfield 47, 3) := by decide +kernel
theorem dX2_init_90 : decode cX2_init 90 = .ok (.aload_n 0, 1) := by decide +kernel
theorem dX2_init_91 : decode cX2_init 91 = .ok (.bipush 6, 2) := by decide +kernel
theorem dX2_init_93 : decode cX2_init 93 = .ok (.newarray .int, 2) := by decide +kernel
theorem dX2_init_95 : decode cX2_init 95 = .ok (.putfield 50, 3) := by decide +kernel
theorem dX2_init_98 : decode cX2_init 98 = .ok (.aload_n 0, 1) := by decide +kernel
theorem dX2_init_99 : decode cX2_init 99 = .ok (.iconst 0, 1) := by decide +kernel
theorem dX2_init_100 : decode cX2_init 100 = .ok (.putfield 53, 3) := by decide +kernel
theorem dX2_init_103 : decode cX2_init 103 = .ok (.aload_n 0, 1) := by decide +kernel
theorem dX2_init_104 : decode cX2_init 104 = .ok (.iconst 0, 1) := by decide +kernel
theorem dX2_init_105 : decode cX2_init 105 = .ok (.putfield 57, 3) := by decide +kernel
theorem dX2_init_108 : decode cX2_init 108 = .ok (.aload_n 0, 1) := by decide +kernel
theorem dX2_init_109 : decode cX2_init 109 = .ok (.iconst 0, 1) := by decide +kernel
theorem dX2_init_110 : decode cX2_init 110 = .ok (.putfield 60, 3) := by decide +kernel
theorem dX2_init_113 : decode cX2_init 113 = .ok (.aload_n 0, 1) := by decide +kernel
theorem dX2_init_114 : decode cX2_init 114 = .ok (.iconst 0, 1) := by decide +kernel
theorem dX2_init_115 : decode cX2_init 115 = .ok (.putfield 63, 3) := by decide +kernel
theorem dX2_init_118 : decode cX2_init 118 = .ok (.return_, 1) := by decide +kernel
def P_X2_init (h0 : Nat) (cs : C3) (w1 : va_W) : Prop := ∃ q1 q2 q3 q4 q5 q6 q7 q8 q9 q10 q11 q12 q13 q14 q15 q16 q17 q18 : Nat, w1 = [(h0, .inr (2, [.ref q1, .ref q5, .ref q10, .ref q11, .ref q12, .ref q13, .ref q14, .ref q15, .ref q16, .ref q17, .ref q18, .int (0 : Int32), .int (0 : Int32), .int (0 : Int32), .int (0 : Int32)])), (q1, .inr (6, [.ref q2, .ref q3, .ref q4])), (q2, .inl (cs.1, 24, .inl (fun _ => 0))), (q3, .inl (cs.1, 24, .inl (fun _ => 0))), (q4, .inl (cs.1, 24, .inl (fun _ => 0))), (q5, .inr (0, [.ref q6, .ref q7, .ref q8, .ref q9])), (q6, .inl (cs.1, 144, .inl (fun _ => 0))), (q7, .inl (cs.1, 144, .inl (fun _ => 0))), (q8, .inl (cs.1, 144, .inl (fun _ => 0))), (q9, .inl (cs.1, 24, .inl (fun _ => 0))), (q10, .inl (cs.1, 6, .inl (fun _ => 0))), (q11, .inl (cs.1, 6, .inl (fun _ => 0))), (q12, .inl (cs.1, 6, .inl (fun _ => 0))), (q13, .inl (cs.1, 6, .inl (fun _ => 0))), (q14, .inl (cs.1, 6, .inl (fun _ => 0))), (q15, .inl (cs.1, 6, .inl (fun _ => 0))), (q16, .inl (cs.1, 6, .inl (fun _ => 0))), (q17, .inl (cs.1, 6, .inl (fun _ => 0))), (q18, .inl (cs.1, 6, .inl (fun _ => 0)))]
set_option maxRecDepth 100000 in
theorem k_X2_init (h0 : Nat) : Cc yX2_init cX2_init 1 2 18 589 [.ref h0] [(h0, .inr (2, [.null, .null, .null, .null, .null, .null, .null, .null, .null, .null, .null, .int 0, .int 0, .int 0, .int 0]))] (P_X2_init h0) := by
  refine cc_of (by decide) rfl (Nat.le_of_ble_eq_true rfl) (fun κ hn C hin E hA hr => ?_)
  show Zw κ 0 [(0, .ref h0)] [] [(h0, .inr (2, [.null, .null, .null, .null, .null, .null, .null, .null, .null, .null, .null, .int 0, .int 0, .int 0, .int 0]))] 0 0
  refine z_aload_n 1 C dX2_init_0 0 rfl rfl rfl ?_
  refine z_obj 4 C dX2_init_1 owc_X2_3 (Nat.le_of_ble_eq_true rfl) (Nat.le_of_ble_eq_true rfl) rfl ?_
  refine z_aload_n 5 C dX2_init_4 0 rfl rfl rfl ?_
  refine z_new (ci := 6) 8 C [.null, .null, .null] dX2_init_5 clc_X2_9 iw_X6 jw_X6 wj_X6 tyX6_ok rfl df_X6 (Nat.le_of_ble_eq_true rfl) (Nat.le_of_ble_eq_true rfl) rfl (fun q1 => ?_)
  refine z_nz [(h0, .inr (2, [.null, .null, .null, .null, .null, .null, .null, .null, .null, .null, .null, .int 0, .int 0, .int 0, .int 0])), (q1, .inr (6, [.null, .null, .null]))] 1 3 rfl rfl rfl ?_
  refine z_dup 9 C dX2_init_8 rfl rfl ?_
  refine z_call (wr := [(h0, .inr (2, [.null, .null, .null, .null, .null, .null, .null, .null, .null, .null, .null, .int 0, .int 0, .int 0, .int 0]))]) 12 [] C 1 dX2_init_9 ic_X2_11 (k_X6_init q1) rfl rfl rfl (Nat.le_of_ble_eq_true rfl) (Nat.le_of_ble_eq_true rfl) (Nat.le_of_ble_eq_true rfl) (Nat.le_of_ble_eq_true rfl) rfl (fun w1 hw1 => ?_)
  obtain ⟨q2, q3, q4, rfl⟩ := hw1
  refine z_nz [(h0, .inr (2, [.null, .null, .null, .null, .null, .null, .null, .null, .null, .null, .null, .int 0, .int 0, .int 0, .int 0])), (q1, .inr (6, [.ref q2, .ref q3, .ref q4])), (q2, .inl ((kcs κ).1, 24, .inl (fun _ => 0))), (q3, .inl ((kcs κ).1, 24, .inl (fun _ => 0))), (q4, .inl ((kcs κ).1, 24, .inl (fun _ => 0)))] 4 75 rfl rfl rfl ?_
  refine z_putF 15 [(h0, .inr (2, [.ref q1, .null, .null, .null, .null, .null, .null, .null, .null, .null, .null, .int 0, .int 0, .int 0, .int 0])), (q1, .inr (6, [.ref q2, .ref q3, .ref q4])), (q2, .inl ((kcs κ).1, 24, .inl (fun _ => 0))), (q3, .inl ((kcs κ).1, 24, .inl (fun _ => 0))), (q4, .inl ((kcs κ).1, 24, .inl (fun _ => 0)))] C hin dX2_init_12 0 rfl rfl wj_X2 tyX2_ok nmX2 0 (by decide) fwc_X2_12 rfl rfl (tyX2_ok 0 (by decide)) rfl rfl (Nat.le_of_ble_eq_true rfl) rfl rfl ?_
  refine z_aload_n 16 C dX2_init_15 0 rfl rfl rfl ?_
  refine z_new (ci := 0) 19 C [.null, .null, .null, .null] dX2_init_16 clc_X2_18 iw_X0 jw_X0 wj_X0 tyX0_ok rfl df_X0 (Nat.le_of_ble_eq_true rfl) (Nat.le_of_ble_eq_true rfl) rfl (fun q5 => ?_)
  refine z_nz [(h0, .inr (2, [.ref q1, .null, .null, .null, .null, .null, .null, .null, .null, .null, .null, .int 0, .int 0, .int 0, .int 0])), (q1, .inr (6, [.ref q2, .ref q3, .ref q4])), (q2, .inl ((kcs κ).1, 24, .inl (fun _ => 0))), (q3, .inl ((kcs κ).1, 24, .inl (fun _ => 0))), (q4, .inl ((kcs κ).1, 24, .inl (fun _ => 0))), (q5, .inr (0, [.null, .null, .null, .null]))] 5 79 rfl rfl rfl ?_
  refine z_dup 20 C dX2_init_19 rfl rfl ?_
  refine z_call (wr := [(h0, .inr (2, [.ref q1, .null, .null, .null, .null, .null, .null, .null, .null, .null, .null, .int 0, .int 0, .int 0, .int 0])), (q1, .inr (6, [.ref q2, .ref q3, .ref q4])), (q2, .inl ((kcs κ).1, 24, .inl (fun _ => 0))), (q3, .inl ((kcs κ).1, 24, .inl (fun _ => 0))), (q4, .inl ((kcs κ).1, 24, .inl (fun _ => 0)))]) 23 [] C 1 dX2_init_20 ic_X2_20 (k_X0_init q5) rfl rfl rfl (Nat.le_of_ble_eq_true rfl) (Nat.le_of_ble_eq_true rfl) (Nat.le_of_ble_eq_true rfl) (Nat.le_of_ble_eq_true rfl) rfl (fun w1 hw1 => ?_)
  obtain ⟨q6, q7, q8, q9, rfl⟩ := hw1
  refine z_nz [(h0, .inr (2, [.ref q1, .null, .null, .null, .null, .null, .null, .null, .null, .null, .null, .int 0, .int 0, .int 0, .int 0])), (q1, .inr (6, [.ref q2, .ref q3, .ref q4])), (q2, .inl ((kcs κ).1, 24, .inl (fun _ => 0))), (q3, .inl ((kcs κ).1, 24, .inl (fun _ => 0))), (q4, .inl ((kcs κ).1, 24, .inl (fun _ => 0))), (q5, .inr (0, [.ref q6, .ref q7, .ref q8, .ref q9])), (q6, .inl ((kcs κ).1, 144, .inl (fun _ => 0))), (q7, .inl ((kcs κ).1, 144, .inl (fun _ => 0))), (q8, .inl ((kcs κ).1, 144, .inl (fun _ => 0))), (q9, .inl ((kcs κ).1, 24, .inl (fun _ => 0)))] 9 535 rfl rfl rfl ?_
  refine z_putF 26 [(h0, .inr (2, [.ref q1, .ref q5, .null, .null, .null, .null, .null, .null, .null, .null, .null, .int 0, .int 0, .int 0, .int 0])), (q1, .inr (6, [.ref q2, .ref q3, .ref q4])), (q2, .inl ((kcs κ).1, 24, .inl (fun _ => 0))), (q3, .inl ((kcs κ).1, 24, .inl (fun _ => 0))), (q4, .inl ((kcs κ).1, 24, .inl (fun _ => 0))), (q5, .inr (0, [.ref q6, .ref q7, .ref q8, .ref q9])), (q6, .inl ((kcs κ).1, 144, .inl (fun _ => 0))), (q7, .inl ((kcs κ).1, 144, .inl (fun _ => 0))), (q8, .inl ((kcs κ).1, 144, .inl (fun _ => 0))), (q9, .inl ((kcs κ).1, 24, .inl (fun _ => 0)))] C hin dX2_init_23 0 rfl rfl wj_X2 tyX2_ok nmX2 1 (by decide) fwc_X2_21 rfl rfl (tyX2_ok 1 (by decide)) rfl rfl (Nat.le_of_ble_eq_true rfl) rfl rfl ?_
  refine z_aload_n 27 C dX2_init_26 0 rfl rfl rfl ?_
  refine z_bipush (v := (6 : Int32)) 29 C dX2_init_27 cb_6 rfl ?_
  refine z_newI (N := 6) 31 C dX2_init_29 (by decide) (by decide) (Nat.le_of_ble_eq_true rfl) (Nat.le_of_ble_eq_true rfl) (Nat.le_of_ble_eq_true rfl) rfl (fun q10 => ?_)
  refine z_nz [(h0, .inr (2, [.ref q1, .ref q5, .null, .null, .null, .null, .null, .null, .null, .null, .null, .int 0, .int 0, .int 0, .int 0])), (q1, .inr (6, [.ref q2, .ref q3, .ref q4])), (q2, .inl ((kcs κ).1, 24, .inl (fun _ => 0))), (q3, .inl ((kcs κ).1, 24, .inl (fun _ => 0))), (q4, .inl ((kcs κ).1, 24, .inl (fun _ => 0))), (q5, .inr (0, [.ref q6, .ref q7, .ref q8, .ref q9])), (q6, .inl ((kcs κ).1, 144, .inl (fun _ => 0))), (q7, .inl ((kcs κ).1, 144, .inl (fun _ => 0))), (q8, .inl ((kcs κ).1, 144, .inl (fun _ => 0))), (q9, .inl ((kcs κ).1, 24, .inl (fun _ => 0))), (q10, .inl ((kcs κ).1, 6, .inl (fun _ => 0)))] 10 541 rfl rfl rfl ?_
  refine z_putF 34 [(h0, .inr (2, [.ref q1, .ref q5, .ref q10, .null, .null, .null, .null, .null, .null, .null, .null, .int 0, .int 0, .int 0, .int 0])), (q1, .inr (6, [.ref q2, .ref q3, .ref q4])), (q2, .inl ((kcs κ).1, 24, .inl (fun _ => 0))), (q3, .inl ((kcs κ).1, 24, .inl (fun _ => 0))), (q4, .inl ((kcs κ).1, 24, .inl (fun _ => 0))), (q5, .inr (0, [.ref q6, .ref q7, .ref q8, .ref q9])), (q6, .inl ((kcs κ).1, 144, .inl (fun _ => 0))), (q7, .inl ((kcs κ).1, 144, .inl (fun _ => 0))), (q8, .inl ((kcs κ).1, 144, .inl (fun _ => 0))), (q9, .inl ((kcs κ).1, 24, .inl (fun _ => 0))), (q10, .inl ((kcs κ).1, 6, .inl (fun _ => 0)))] C hin dX2_init_31 0 rfl rfl wj_X2 tyX2_ok nmX2 2 (by decide) fwc_X2_25 rfl rfl (tyX2_ok 2 (by decide)) rfl rfl (Nat.le_of_ble_eq_true rfl) rfl rfl ?_
  refine z_aload_n 35 C dX2_init_34 0 rfl rfl rfl ?_
  refine z_bipush (v := (6 : Int32)) 37 C dX2_init_35 cb_6 rfl ?_
  refine z_newI (N := 6) 39 C dX2_init_37 (by decide) (by decide) (Nat.le_of_ble_eq_true rfl) (Nat.le_of_ble_eq_true rfl) (Nat.le_of_ble_eq_true rfl) rfl (fun q11 => ?_)
  refine z_nz [(h0, .inr (2, [.ref q1, .ref q5, .ref q10, .null, .null, .null, .null, .null, .null, .null, .null, .int 0, .int 0, .int 0, .int 0])), (q1, .inr (6, [.ref q2, .ref q3, .ref q4])), (q2, .inl ((kcs κ).1, 24, .inl (fun _ => 0))), (q3, .inl ((kcs κ).1, 24, .inl (fun _ => 0))), (q4, .inl ((kcs κ).1, 24, .inl (fun _ => 0))), (q5, .inr (0, [.ref q6, .ref q7, .ref q8, .ref q9])), (q6, .inl ((kcs κ).1, 144, .inl (fun _ => 0))), (q7, .inl ((kcs κ).1, 144, .inl (fun _ => 0))), (q8, .inl ((kcs κ).1, 144, .inl (fun _ => 0))), (q9, .inl ((kcs κ).1, 24, .inl (fun _ => 0))), (q10, .inl ((kcs κ).1, 6, .inl (fun _ => 0))), (q11, .inl ((kcs κ).1, 6, .inl (fun _ => 0)))] 11 547 rfl rfl rfl ?_
  refine z_putF 42 [(h0, .inr (2, [.ref q1, .ref q5, .ref q10, .ref q11, .null, .null, .null, .null, .null, .null, .null, .int 0, .int 0, .int 0, .int 0])), (q1, .inr (6, [.ref q2, .ref q3, .ref q4])), (q2, .inl ((kcs κ).1, 24, .inl (fun _ => 0))), (q3, .inl ((kcs κ).1, 24, .inl (fun _ => 0))), (q4, .inl ((kcs κ).1, 24, .inl (fun _ => 0))), (q5, .inr (0, [.ref q6, .ref q7, .ref q8, .ref q9])), (q6, .inl ((kcs κ).1, 144, .inl (fun _ => 0))), (q7, .inl ((kcs κ).1, 144, .inl (fun _ => 0))), (q8, .inl ((kcs κ).1, 144, .inl (fun _ => 0))), (q9, .inl ((kcs κ).1, 24, .inl (fun _ => 0))), (q10, .inl ((kcs κ).1, 6, .inl (fun _ => 0))), (q11, .inl ((kcs κ).1, 6, .inl (fun _ => 0)))] C hin dX2_init_39 0 rfl rfl wj_X2 tyX2_ok nmX2 3 (by decide) fwc_X2_29 rfl rfl (tyX2_ok 3 (by decide)) rfl rfl (Nat.le_of_ble_eq_true rfl) rfl rfl ?_
  refine z_aload_n 43 C dX2_init_42 0 rfl rfl rfl ?_
  refine z_bipush (v := (6 : Int32)) 45 C dX2_init_43 cb_6 rfl ?_
  refine z_newI (N := 6) 47 C dX2_init_45 (by decide) (by decide) (Nat.le_of_ble_eq_true rfl) (Nat.le_of_ble_eq_true rfl) (Nat.le_of_ble_eq_true rfl) rfl (fun q12 => ?_)
  refine z_nz [(h0, .inr (2, [.ref q1, .ref q5, .ref q10, .ref q11, .null, .null, .null, .null, .null, .null, .null, .int 0, .int 0, .int 0, .int 0])), (q1, .inr (6, [.ref q2, .ref q3, .ref q4])), (q2, .inl ((kcs κ).1, 24, .inl (fun _ => 0))), (q3, .inl ((kcs κ).1, 24, .inl (fun _ => 0))), (q4, .inl ((kcs κ).1, 24, .inl (fun _ => 0))), (q5, .inr (0, [.ref q6, .ref q7, .ref q8, .ref q9])), (q6, .inl ((kcs κ).1, 144, .inl (fun _ => 0))), (q7, .inl ((kcs κ).1, 144, .inl (fun _ => 0))), (q8, .inl ((kcs κ).1, 144, .inl (fun _ => 0))), (q9, .inl ((kcs κ).1, 24, .inl (fun _ => 0))), (q10, .inl ((kcs κ).1, 6, .inl (fun _ => 0))), (q11, .inl ((kcs κ).1, 6, .inl (fun _ => 0))), (q12, .inl ((kcs κ).1, 6, .inl (fun _ => 0)))] 12 553 rfl rfl rfl ?_
  refine z_putF 50 [(h0, .inr (2, [.ref q1, .ref q5, .ref q10, .ref q11, .ref q12, .null, .null, .null, .null, .null, .null, .int 0, .int 0, .int 0, .int 0])), (q1, .inr (6, [.ref q2, .ref q3, .ref q4])), (q2, .inl ((kcs κ).1, 24, .inl (fun _ => 0))), (q3, .inl ((kcs κ).1, 24, .inl (fun _ => 0))), (q4, .inl ((kcs κ).1, 24, .inl (fun _ => 0))), (q5, .inr (0, [.ref q6, .ref q7, .ref q8, .ref q9])), (q6, .inl ((kcs κ).1, 144, .inl (fun _ => 0))), (q7, .inl ((kcs κ).1, 144, .inl (fun _ => 0))), (q8, .inl ((kcs κ).1, 144, .inl (fun _ => 0))), (q9, .inl ((kcs κ).1, 24, .inl (fun _ => 0))), (q10, .inl ((kcs κ).1, 6, .inl (fun _ => 0))), (q11, .inl ((kcs κ).1, 6, .inl (fun _ => 0))), (q12, .inl ((kcs κ).1, 6, .inl (fun _ => 0)))] C hin dX2_init_47 0 rfl rfl wj_X2 tyX2_ok nmX2 4 (by decide) fwc_X2_32 rfl rfl (tyX2_ok 4 (by decide)) rfl rfl (Nat.le_of_ble_eq_true rfl) rfl rfl ?_
  refine z_aload_n 51 C dX2_init_50 0 rfl rfl rfl ?_
  refine z_bipush (v := (6 : Int32)) 53 C dX2_init_51 cb_6 rfl ?_
  refine z_newI (N := 6) 55 C dX2_init_53 (by decide) (by decide) (Nat.le_of_ble_eq_true rfl) (Nat.le_of_ble_eq_true rfl) (Nat.le_of_ble_eq_true rfl) rfl (fun q13 => ?_)
  refine z_nz [(h0, .inr (2, [.ref q1, .ref q5, .ref q10, .ref q11, .ref q12, .null, .null, .null, .null, .null, .null, .int 0, .int 0, .int 0, .int 0])), (q1, .inr (6, [.ref q2, .ref q3, .ref q4])), (q2, .inl ((kcs κ).1, 24, .inl (fun _ => 0))), (q3, .inl ((kcs κ).1, 24, .inl (fun _ => 0))), (q4, .inl ((kcs κ).1, 24, .inl (fun _ => 0))), (q5, .inr (0, [.ref q6, .ref q7, .ref q8, .ref q9])), (q6, .inl ((kcs κ).1, 144, .inl (fun _ => 0))), (q7, .inl ((kcs κ).1, 144, .inl (fun _ => 0))), (q8, .inl ((kcs κ).1, 144, .inl (fun _ => 0))), (q9, .inl ((kcs κ).1, 24, .inl (fun _ => 0))), (q10, .inl ((kcs κ).1, 6, .inl (fun _ => 0))), (q11, .inl ((kcs κ).1, 6, .inl (fun _ => 0))), (q12, .inl ((kcs κ).1, 6, .inl (fun _ => 0))), (q13, .inl ((kcs κ).1, 6, .inl (fun _ => 0)))] 13 559 rfl rfl rfl ?_
  refine z_putF 58 [(h0, .inr (2, [.ref q1, .ref q5, .ref q10, .ref q11, .ref q12, .ref q13, .null, .null, .null, .null, .null, .int 0, .int 0, .int 0, .int 0])), (q1, .inr (6, [.ref q2, .ref q3, .ref q4])), (q2, .inl ((kcs κ).1, 24, .inl (fun _ => 0))), (q3, .inl ((kcs κ).1, 24, .inl (fun _ => 0))), (q4, .inl ((kcs κ).1, 24, .inl (fun _ => 0))), (q5, .inr (0, [.ref q6, .ref q7, .ref q8, .ref q9])), (q6, .inl ((kcs κ).1, 144, .inl (fun _ => 0))), (q7, .inl ((kcs κ).1, 144, .inl (fun _ => 0))), (q8, .inl ((kcs κ).1, 144, .inl (fun _ => 0))), (q9, .inl ((kcs κ).1, 24, .inl (fun _ => 0))), (q10, .inl ((kcs κ).1, 6, .inl (fun _ => 0))), (q11, .inl ((kcs κ).1, 6, .inl (fun _ => 0))), (q12, .inl ((kcs κ).1, 6, .inl (fun _ => 0))), (q13, .inl ((kcs κ).1, 6, .inl (fun _ => 0)))] C hin dX2_init_55 0 rfl rfl wj_X2 tyX2_ok nmX2 5 (by decide) fwc_X2_35 rfl rfl (tyX2_ok 5 (by decide)) rfl rfl (Nat.le_of_ble_eq_true rfl) rfl rfl ?_
  refine z_aload_n 59 C dX2_init_58 0 rfl rfl rfl ?_
  refine z_bipush (v := (6 : Int32)) 61 C dX2_init_59 cb_6 rfl ?_
  refine z_newI (N := 6) 63 C dX2_init_61 (by decide) (by decide) (Nat.le_of_ble_eq_true rfl) (Nat.le_of_ble_eq_true rfl) (Nat.le_of_ble_eq_true rfl) rfl (fun q14 => ?_)
  refine z_nz [(h0, .inr (2, [.ref q1, .ref q5, .ref q10, .ref q11, .ref q12, .ref q13, .null, .null, .null, .null, .null, .int 0, .int 0, .int 0, .int 0])), (q1, .inr (6, [.ref q2, .ref q3, .ref q4])), (q2, .inl ((kcs κ).1, 24, .inl (fun _ => 0))), (q3, .inl ((kcs κ).1, 24, .inl (fun _ => 0))), (q4, .inl ((kcs κ).1, 24, .inl (fun _ => 0))), (q5, .inr (0, [.ref q6, .ref q7, .ref q8, .ref q9])), (q6, .inl ((kcs κ).1, 144, .inl (fun _ => 0))), (q7, .inl ((kcs κ).1, 144, .inl (fun _ => 0))), (q8, .inl ((kcs κ).1, 144, .inl (fun _ => 0))), (q9, .inl ((kcs κ).1, 24, .inl (fun _ => 0))), (q10, .inl ((kcs κ).1, 6, .inl (fun _ => 0))), (q11, .inl ((kcs κ).1, 6, .inl (fun _ => 0))), (q12, .inl ((kcs κ).1, 6, .inl (fun _ => 0))), (q13, .inl ((kcs κ).1, 6, .inl (fun _ => 0))), (q14, .inl ((kcs κ).1, 6, .inl (fun _ => 0)))] 14 565 rfl rfl rfl ?_
  refine z_putF 66 [(h0, .inr (2, [.ref q1, .ref q5, .ref q10, .ref q11, .ref q12, .ref q13, .ref q14, .null, .null, .null, .null, .int 0, .int 0, .int 0, .int 0])), (q1, .inr (6, [.ref q2, .ref q3, .ref q4])), (q2, .inl ((kcs κ).1, 24, .inl (fun _ => 0))), (q3, .inl ((kcs κ).1, 24, .inl (fun _ => 0))), (q4, .inl ((kcs κ).1, 24, .inl (fun _ => 0))), (q5, .inr (0, [.ref q6, .ref q7, .ref q8, .ref q9])), (q6, .inl ((kcs κ).1, 144, .inl (fun _ => 0))), (q7, .inl ((kcs κ).1, 144, .inl (fun _ => 0))), (q8, .inl ((kcs κ).1, 144, .inl (fun _ => 0))), (q9, .inl ((kcs κ).1, 24, .inl (fun _ => 0))), (q10, .inl ((kcs κ).1, 6, .inl (fun _ => 0))), (q11, .inl ((kcs κ).1, 6, .inl (fun _ => 0))), (q12, .inl ((kcs κ).1, 6, .inl (fun _ => 0))), (q13, .inl ((kcs κ).1, 6, .inl (fun _ => 0))), (q14, .inl ((kcs κ).1, 6, .inl (fun _ => 0)))] C hin dX2_init_63 0 rfl rfl wj_X2 tyX2_ok nmX2 6 (by decide) fwc_X2_38 rfl rfl (tyX2_ok 6 (by decide)) rfl rfl (Nat.le_of_ble_eq_true rfl) rfl rfl ?_
  refine z_aload_n 67 C dX2_init_66 0 rfl rfl rfl ?_
  refine z_bipush (v := (6 : Int32)) 69 C dX2_init_67 cb_6 rfl ?_
  refine z_newI (N := 6) 71 C dX2_init_69 (by decide) (by decide) (Nat.le_of_ble_eq_true rfl) (Nat.le_of_ble_eq_true rfl) (Nat.le_of_ble_eq_true rfl) rfl (fun q15 => ?_)
  refine z_nz [(h0, .inr (2, [.ref q1, .ref q5, .ref q10, .ref q11, .ref q12, .ref q13, .ref q14, .null, .null, .null, .null, .int 0, .int 0, .int 0, .int 0])), (q1, .inr (6, [.ref q2, .ref q3, .ref q4])), (q2, .inl ((kcs κ).1, 24, .inl (fun _ => 0))), (q3, .inl ((kcs κ).1, 24, .inl (fun _ => 0))), (q4, .inl ((kcs κ).1, 24, .inl (fun _ => 0))), (q5, .inr (0, [.ref q6, .ref q7, .ref q8, .ref q9])), (q6, .inl ((kcs κ).1, 144, .inl (fun _ => 0))), (q7, .inl ((kcs κ).1, 144, .inl (fun _ => 0))), (q8, .inl ((kcs κ).1, 144, .inl (fun _ => 0))), (q9, .inl ((kcs κ).1, 24, .inl (fun _ => 0))), (q10, .inl ((kcs κ).1, 6, .inl (fun _ => 0))), (q11, .inl ((kcs κ).1, 6, .inl (fun _ => 0))), (q12, .inl ((kcs κ).1, 6, .inl (fun _ => 0))), (q13, .inl ((kcs κ).1, 6, .inl (fun _ => 0))), (q14, .inl ((kcs κ).1, 6, .inl (fun _ => 0))), (q15, .inl ((kcs κ).1, 6, .inl (fun _ => 0)))] 15 571 rfl rfl rfl ?_
  refine z_putF 74 [(h0, .inr (2, [.ref q1, .ref q5, .ref q10, .ref q11, .ref q12, .ref q13, .ref q14, .ref q15, .null, .null, .null, .int 0, .int 0, .int 0, .int 0])), (q1, .inr (6, [.ref q2, .ref q3, .ref q4])), (q2, .inl ((kcs κ).1, 24, .inl (fun _ => 0))), (q3, .inl ((kcs κ).1, 24, .inl (fun _ => 0))), (q4, .inl ((kcs κ).1, 24, .inl (fun _ => 0))), (q5, .inr (0, [.ref q6, .ref q7, .ref q8, .ref q9])), (q6, .inl ((kcs κ).1, 144, .inl (fun _ => 0))), (q7, .inl ((kcs κ).1, 144, .inl (fun _ => 0))), (q8, .inl ((kcs κ).1, 144, .inl (fun _ => 0))), (q9, .inl ((kcs κ).1, 24, .inl (fun _ => 0))), (q10, .inl ((kcs κ).1, 6, .inl (fun _ => 0))), (q11, .inl ((kcs κ).1, 6, .inl (fun _ => 0))), (q12, .inl ((kcs κ).1, 6, .inl (fun _ => 0))), (q13, .inl ((kcs κ).1, 6, .inl (fun _ => 0))), (q14, .inl ((kcs κ).1, 6, .inl (fun _ => 0))), (q15, .inl ((kcs κ).1, 6, .inl (fun _ => 0)))] C hin dX2_init_71 0 rfl rfl wj_X2 tyX2_ok nmX2 7 (by decide) fwc_X2_41 rfl rfl (tyX2_ok 7 (by decide)) rfl rfl (Nat.le_of_ble_eq_true rfl) rfl rfl ?_
  refine z_aload_n 75 C dX2_init_74 0 rfl rfl rfl ?_
  refine z_bipush (v := (6 : Int32)) 77 C dX2_init_75 cb_6 rfl ?_
  refine z_newI (N := 6) 79 C dX2_init_77 (by decide) (by decide) (Nat.le_of_ble_eq_true rfl) (Nat.le_of_ble_eq_true rfl) (Nat.le_of_ble_eq_true rfl) rfl (fun q16 => ?_)
  refine z_nz [(h0, .inr (2, [.ref q1, .ref q5, .ref q10, .ref q11, .ref q12, .ref q13, .ref q14, .ref q15, .null, .null, .null, .int 0, .int 0, .int 0, .int 0])), (q1, .inr (6, [.ref q2, .ref q3, .ref q4])), (q2, .inl ((kcs κ).1, 24, .inl (fun _ => 0))), (q3, .inl ((kcs κ).1, 24, .inl (fun _ => 0))), (q4, .inl ((kcs κ).1, 24, .inl (fun _ => 0))), (q5, .inr (0, [.ref q6, .ref q7, .ref q8, .ref q9])), (q6, .inl ((kcs κ).1, 144, .inl (fun _ => 0))), (q7, .inl ((kcs κ).1, 144, .inl (fun _ => 0))), (q8, .inl ((kcs κ).1, 144, .inl (fun _ => 0))), (q9, .inl ((kcs κ).1, 24, .inl (fun _ => 0))), (q10, .inl ((kcs κ).1, 6, .inl (fun _ => 0))), (q11, .inl ((kcs κ).1, 6, .inl (fun _ => 0))), (q12, .inl ((kcs κ).1, 6, .inl (fun _ => 0))), (q13, .inl ((kcs κ).1, 6, .inl (fun _ => 0))), (q14, .inl ((kcs κ).1, 6, .inl (fun _ => 0))), (q15, .inl ((kcs κ).1, 6, .inl (fun _ => 0))), (q16, .inl ((kcs κ).1, 6, .inl (fun _ => 0)))] 16 577 rfl rfl rfl ?_
  refine z_putF 82 [(h0, .inr (2, [.ref q1, .ref q5, .ref q10, .ref q11, .ref q12, .ref q13, .ref q14, .ref q15, .ref q16, .null, .null, .int 0, .int 0, .int 0, .int 0])), (q1, .inr (6, [.ref q2, .ref q3, .ref q4])), (q2, .inl ((kcs κ).1, 24, .inl (fun _ => 0))), (q3, .inl ((kcs κ).1, 24, .inl (fun _ => 0))), (q4, .inl ((kcs κ).1, 24, .inl (fun _ => 0))), (q5, .inr (0, [.ref q6, .ref q7, .ref q8, .ref q9])), (q6, .inl ((kcs κ).1, 144, .inl (fun _ => 0))), (q7, .inl ((kcs κ).1, 144, .inl (fun _ => 0))), (q8, .inl ((kcs κ).1, 144, .inl (fun _ => 0))), (q9, .inl ((kcs κ).1, 24, .inl (fun _ => 0))), (q10, .inl ((kcs κ).1, 6, .inl (fun _ => 0))), (q11, .inl ((kcs κ).1, 6, .inl (fun _ => 0))), (q12, .inl ((kcs κ).1, 6, .inl (fun _ => 0))), (q13, .inl ((kcs κ).1, 6, .inl (fun _ => 0))), (q14, .inl ((kcs κ).1, 6, .inl (fun _ => 0))), (q15, .inl ((kcs κ).1, 6, .inl (fun _ => 0))), (q16, .inl ((kcs κ).1, 6, .inl (fun _ => 0)))] C hin dX2_init_79 0 rfl rfl wj_X2 tyX2_ok nmX2 8 (by decide) fwc_X2_44 rfl rfl (tyX2_ok 8 (by decide)) rfl rfl (Nat.le_of_ble_eq_true rfl) rfl rfl ?_
  refine z_aload_n 83 C dX2_init_82 0 rfl rfl rfl ?_
  refine z_bipush (v := (6 : Int32)) 85 C dX2_init_83 cb_6 rfl ?_
  refine z_newI (N := 6) 87 C dX2_init_85 (by decide) (by decide) (Nat.le_of_ble_eq_true rfl) (Nat.le_of_ble_eq_true rfl) (Nat.le_of_ble_eq_true rfl) rfl (fun q17 => ?_)
  refine z_nz [(h0, .inr (2, [.ref q1, .ref q5, .ref q10, .ref q11, .ref q12, .ref q13, .ref q14, .ref q15, .ref q16, .null, .null, .int 0, .int 0, .int 0, .int 0])), (q1, .inr (6, [.ref q2, .ref q3, .ref q4])), (q2, .inl ((kcs κ).1, 24, .inl (fun _ => 0))), (q3, .inl ((kcs κ).1, 24, .inl (fun _ => 0))), (q4, .inl ((kcs κ).1, 24, .inl (fun _ => 0))), (q5, .inr (0, [.ref q6, .ref q7, .ref q8, .ref q9])), (q6, .inl ((kcs κ).1, 144, .inl (fun _ => 0))), (q7, .inl ((kcs κ).1, 144, .inl (fun _ => 0))), (q8, .inl ((kcs κ).1, 144, .inl (fun _ => 0))), (q9, .inl ((kcs κ).1, 24, .inl (fun _ => 0))), (q10, .inl ((kcs κ).1, 6, .inl (fun _ => 0))), (q11, .inl ((kcs κ).1, 6, .inl (fun _ => 0))), (q12, .inl ((kcs κ).1, 6, .inl (fun _ => 0))), (q13, .inl ((kcs κ).1, 6, .inl (fun _ => 0))), (q14, .inl ((kcs κ).1, 6, .inl (fun _ => 0))), (q15, .inl ((kcs κ).1, 6, .inl (fun _ => 0))), (q16, .inl ((kcs κ).1, 6, .inl (fun _ => 0))), (q17, .inl ((kcs κ).1, 6, .inl (fun _ => 0)))] 17 583 rfl rfl rfl ?_
  refine z_putF 90 [(h0, .inr (2, [.ref q1, .ref q5, .ref q10, .ref q11, .ref q12, .ref q13, .ref q14, .ref q15, .ref q16, .ref q17, .null, .int 0, .int 0, .int 0, .int 0])), (q1, .inr (6, [.ref q2, .ref q3, .ref q4])), (q2, .inl ((kcs κ).1, 24, .inl (fun _ => 0))), (q3, .inl ((kcs κ).1, 24, .inl (fun _ => 0))), (q4, .inl ((kcs κ).1, 24, .inl (fun _ => 0))), (q5, .inr (0, [.ref q6, .ref q7, .ref q8, .ref q9])), (q6, .inl ((kcs κ).1, 144, .inl (fun _ => 0))), (q7, .inl ((kcs κ).1, 144, .inl (fun _ => 0))), (q8, .inl ((kcs κ).1, 144, .inl (fun _ => 0))), (q9, .inl ((kcs κ).1, 24, .inl (fun _ => 0))), (q10, .inl ((kcs κ).1, 6, .inl (fun _ => 0))), (q11, .inl ((kcs κ).1, 6, .inl (fun _ => 0))), (q12, .inl ((kcs κ).1, 6, .inl (fun _ => 0))), (q13, .inl ((kcs κ).1, 6, .inl (fun _ => 0))), (q14, .inl ((kcs κ).1, 6, .inl (fun _ => 0))), (q15, .inl ((kcs κ).1, 6, .inl (fun _ => 0))), (q16, .inl ((kcs κ).1, 6, .inl (fun _ => 0))), (q17, .inl ((kcs κ).1, 6, .inl (fun _ => 0)))] C hin dX2_init_87 0 rfl rfl wj_X2 tyX2_ok nmX2 9 (by decide) fwc_X2_47 rfl rfl (tyX2_ok 9 (by decide)) rfl rfl (Nat.le_of_ble_eq_true rfl) rfl rfl ?_
  refine z_aload_n 91 C dX2_init_90 0 rfl rfl rfl ?_
  refine z_bipush (v := (6 : Int32)) 93 C dX2_init_91 cb_6 rfl ?_
  refine z_newI (N := 6) 95 C dX2_init_93 (by decide) (by decide) (Nat.le_of_ble_eq_true rfl) (Nat.le_of_ble_eq_true rfl) (Nat.le_of_ble_eq_true rfl) rfl (fun q18 => ?_)
  refine z_nz [(h0, .inr (2, [.ref q1, .ref q5, .ref q10, .ref q11, .ref q12, .ref q13, .ref q14, .ref q15, .ref q16, .ref q17, .null, .int 0, .int 0, .int 0, .int 0])), (q1, .inr (6, [.ref q2, .ref q3, .ref q4])), (q2, .inl ((kcs κ).1, 24, .inl (fun _ => 0))), (q3, .inl ((kcs κ).1, 24, .inl (fun _ => 0))), (q4, .inl ((kcs κ).1, 24, .inl (fun _ => 0))), (q5, .inr (0, [.ref q6, .ref q7, .ref q8, .ref q9])), (q6, .inl ((kcs κ).1, 144, .inl (fun _ => 0))), (q7, .inl ((kcs κ).1, 144, .inl (fun _ => 0))), (q8, .inl ((kcs κ).1, 144, .inl (fun _ => 0))), (q9, .inl ((kcs κ).1, 24, .inl (fun _ => 0))), (q10, .inl ((kcs κ).1, 6, .inl (fun _ => 0))), (q11, .inl ((kcs κ).1, 6, .inl (fun _ => 0))), (q12, .inl ((kcs κ).1, 6, .inl (fun _ => 0))), (q13, .inl ((kcs κ).1, 6, .inl (fun _ => 0))), (q14, .inl ((kcs κ).1, 6, .inl (fun _ => 0))), (q15, .inl ((kcs κ).1, 6, .inl (fun _ => 0))), (q16, .inl ((kcs κ).1, 6, .inl (fun _ => 0))), (q17, .inl ((kcs κ).1, 6, .inl (fun _ => 0))), (q18, .inl ((kcs κ).1, 6, .inl (fun _ => 0)))] 18 589 rfl rfl rfl ?_
  refine z_putF 98 [(h0, .inr (2, [.ref q1, .ref q5, .ref q10, .ref q11, .ref q12, .ref q13, .ref q14, .ref q15, .ref q16, .ref q17, .ref q18, .int 0, .int 0, .int 0, .int 0])), (q1, .inr (6, [.ref q2, .ref q3, .ref q4])), (q2, .inl ((kcs κ).1, 24, .inl (fun _ => 0))), (q3, .inl ((kcs κ).1, 24, .inl (fun _ => 0))), (q4, .inl ((kcs κ).1, 24, .inl (fun _ => 0))), (q5, .inr (0, [.ref q6, .ref q7, .ref q8, .ref q9])), (q6, .inl ((kcs κ).1, 144, .inl (fun _ => 0))), (q7, .inl ((kcs κ).1, 144, .inl (fun _ => 0))), (q8, .inl ((kcs κ).1, 144, .inl (fun _ => 0))), (q9, .inl ((kcs κ).1, 24, .inl (fun _ => 0))), (q10, .inl ((kcs κ).1, 6, .inl (fun _ => 0))), (q11, .inl ((kcs κ).1, 6, .inl (fun _ => 0))), (q12, .inl ((kcs κ).1, 6, .inl (fun _ => 0))), (q13, .inl ((kcs κ).1, 6, .inl (fun _ => 0))), (q14, .inl ((kcs κ).1, 6, .inl (fun _ => 0))), (q15, .inl ((kcs κ).1, 6, .inl (fun _ => 0))), (q16, .inl ((kcs κ).1, 6, .inl (fun _ => 0))), (q17, .inl ((kcs κ).1, 6, .inl (fun _ => 0))), (q18, .inl ((kcs κ).1, 6, .inl (fun _ => 0)))] C hin dX2_init_95 0 rfl rfl wj_X2 tyX2_ok nmX2 10 (by decide) fwc_X2_50 rfl rfl (tyX2_ok 10 (by decide)) rfl rfl (Nat.le_of_ble_eq_true rfl) rfl rfl ?_
  refine z_aload_n 99 C dX2_init_98 0 rfl rfl rfl ?_
  refine z_iconst (v := (0 : Int32)) 100 C dX2_init_99 ci_0 rfl ?_
  refine z_putI 103 [(h0, .inr (2, [.ref q1, .ref q5, .ref q10, .ref q11, .ref q12, .ref q13, .ref q14, .ref q15, .ref q16, .ref q17, .ref q18, .int (0 : Int32), .int 0, .int 0, .int 0])), (q1, .inr (6, [.ref q2, .ref q3, .ref q4])), (q2, .inl ((kcs κ).1, 24, .inl (fun _ => 0))), (q3, .inl ((kcs κ).1, 24, .inl (fun _ => 0))), (q4, .inl ((kcs κ).1, 24, .inl (fun _ => 0))), (q5, .inr (0, [.ref q6, .ref q7, .ref q8, .ref q9])), (q6, .inl ((kcs κ).1, 144, .inl (fun _ => 0))), (q7, .inl ((kcs κ).1, 144, .inl (fun _ => 0))), (q8, .inl ((kcs κ).1, 144, .inl (fun _ => 0))), (q9, .inl ((kcs κ).1, 24, .inl (fun _ => 0))), (q10, .inl ((kcs κ).1, 6, .inl (fun _ => 0))), (q11, .inl ((kcs κ).1, 6, .inl (fun _ => 0))), (q12, .inl ((kcs κ).1, 6, .inl (fun _ => 0))), (q13, .inl ((kcs κ).1, 6, .inl (fun _ => 0))), (q14, .inl ((kcs κ).1, 6, .inl (fun _ => 0))), (q15, .inl ((kcs κ).1, 6, .inl (fun _ => 0))), (q16, .inl ((kcs κ).1, 6, .inl (fun _ => 0))), (q17, .inl ((kcs κ).1, 6, .inl (fun _ => 0))), (q18, .inl ((kcs κ).1, 6, .inl (fun _ => 0)))] C dX2_init_100 0 rfl rfl wj_X2 tyX2_ok nmX2 11 (by decide) fwc_X2_53 rfl (tyX2_ok 11 (by decide)) rfl rfl (Nat.le_of_ble_eq_true rfl) rfl rfl ?_
  refine z_aload_n 104 C dX2_init_103 0 rfl rfl rfl ?_
  refine z_iconst (v := (0 : Int32)) 105 C dX2_init_104 ci_0 rfl ?_
  refine z_putI 108 [(h0, .inr (2, [.ref q1, .ref q5, .ref q10, .ref q11, .ref q12, .ref q13, .ref q14, .ref q15, .ref q16, .ref q17, .ref q18, .int (0 : Int32), .int (0 : Int32), .int 0, .int 0])), (q1, .inr (6, [.ref q2, .ref q3, .ref q4])), (q2, .inl ((kcs κ).1, 24, .inl (fun _ => 0))), (q3, .inl ((kcs κ).1, 24, .inl (fun _ => 0))), (q4, .inl ((kcs κ).1, 24, .inl (fun _ => 0))), (q5, .inr (0, [.ref q6, .ref q7, .ref q8, .ref q9])), (q6, .inl ((kcs κ).1, 144, .inl (fun _ => 0))), (q7, .inl ((kcs κ).1, 144, .inl (fun _ => 0))), (q8, .inl ((kcs κ).1, 144, .inl (fun _ => 0))), (q9, .inl ((kcs κ).1, 24, .inl (fun _ => 0))), (q10, .inl ((kcs κ).1, 6, .inl (fun _ => 0))), (q11, .inl ((kcs κ).1, 6, .inl (fun _ => 0))), (q12, .inl ((kcs κ).1, 6, .inl (fun _ => 0))), (q13, .inl ((kcs κ).1, 6, .inl (fun _ => 0))), (q14, .inl ((kcs κ).1, 6, .inl (fun _ => 0))), (q15, .inl ((kcs κ).1, 6, .inl (fun _ => 0))), (q16, .inl ((kcs κ).1, 6, .inl (fun _ => 0))), (q17, .inl ((kcs κ).1, 6, .inl (fun _ => 0))), (q18, .inl ((kcs κ).1, 6, .inl (fun _ => 0)))] C dX2_init_105 0 rfl rfl wj_X2 tyX2_ok nmX2 12 (by decide) fwc_X2_57 rfl (tyX2_ok 12 (by decide)) rfl rfl (Nat.le_of_ble_eq_true rfl) rfl rfl ?_
  refine z_aload_n 109 C dX2_init_108 0 rfl rfl rfl ?_
  refine z_iconst (v := (0 : Int32)) 110 C dX2_init_109 ci_0 rfl ?_
  refine z_putI 113 [(h0, .inr (2, [.ref q1, .ref q5, .ref q10, .ref q11, .ref q12, .ref q13, .ref q14, .ref q15, .ref q16, .ref q17, .ref q18, .int (0 : Int32), .int (0 : Int32), .int (0 : Int32), .int 0])), (q1, .inr (6, [.ref q2, .ref q3, .ref q4])), (q2, .inl ((kcs κ).1, 24, .inl (fun _ => 0))), (q3, .inl ((kcs κ).1, 24, .inl (fun _ => 0))), (q4, .inl ((kcs κ).1, 24, .inl (fun _ => 0))), (q5, .inr (0, [.ref q6, .ref q7, .ref q8, .ref q9])), (q6, .inl ((kcs κ).1, 144, .inl (fun _ => 0))), (q7, .inl ((kcs κ).1, 144, .inl (fun _ => 0))), (q8, .inl ((kcs κ).1, 144, .inl (fun _ => 0))), (q9, .inl ((kcs κ).1, 24, .inl (fun _ => 0))), (q10, .inl ((kcs κ).1, 6, .inl (fun _ => 0))), (q11, .inl ((kcs κ).1, 6, .inl (fun _ => 0))), (q12, .inl ((kcs κ).1, 6, .inl (fun _ => 0))), (q13, .inl ((kcs κ).1, 6, .inl (fun _ => 0))), (q14, .inl ((kcs κ).1, 6, .inl (fun _ => 0))), (q15, .inl ((kcs κ).1, 6, .inl (fun _ => 0))), (q16, .inl ((kcs κ).1, 6, .inl (fun _ => 0))), (q17, .inl ((kcs κ).1, 6, .inl (fun _ => 0))), (q18, .inl ((kcs κ).1, 6, .inl (fun _ => 0)))] C dX2_init_110 0 rfl rfl wj_X2 tyX2_ok nmX2 13 (by decide) fwc_X2_60 rfl (tyX2_ok 13 (by decide)) rfl rfl (Nat.le_of_ble_eq_true rfl) rfl rfl ?_
  refine z_aload_n 114 C dX2_init_113 0 rfl rfl rfl ?_
  refine z_iconst (v := (0 : Int32)) 115 C dX2_init_114 ci_0 rfl ?_
  refine z_putI 118 [(h0, .inr (2, [.ref q1, .ref q5, .ref q10, .ref q11, .ref q12, .ref q13, .ref q14, .ref q15, .ref q16, .ref q17, .ref q18, .int (0 : Int32), .int (0 : Int32), .int (0 : Int32), .int (0 : Int32)])), (q1, .inr (6, [.ref q2, .ref q3, .ref q4])), (q2, .inl ((kcs κ).1, 24, .inl (fun _ => 0))), (q3, .inl ((kcs κ).1, 24, .inl (fun _ => 0))), (q4, .inl ((kcs κ).1, 24, .inl (fun _ => 0))), (q5, .inr (0, [.ref q6, .ref q7, .ref q8, .ref q9])), (q6, .inl ((kcs κ).1, 144, .inl (fun _ => 0))), (q7, .inl ((kcs κ).1, 144, .inl (fun _ => 0))), (q8, .inl ((kcs κ).1, 144, .inl (fun _ => 0))), (q9, .inl ((kcs κ).1, 24, .inl (fun _ => 0))), (q10, .inl ((kcs κ).1, 6, .inl (fun _ => 0))), (q11, .inl ((kcs κ).1, 6, .inl (fun _ => 0))), (q12, .inl ((kcs κ).1, 6, .inl (fun _ => 0))), (q13, .inl ((kcs κ).1, 6, .inl (fun _ => 0))), (q14, .inl ((kcs κ).1, 6, .inl (fun _ => 0))), (q15, .inl ((kcs κ).1, 6, .inl (fun _ => 0))), (q16, .inl ((kcs κ).1, 6, .inl (fun _ => 0))), (q17, .inl ((kcs κ).1, 6, .inl (fun _ => 0))), (q18, .inl ((kcs κ).1, 6, .inl (fun _ => 0)))] C dX2_init_115 0 rfl rfl wj_X2 tyX2_ok nmX2 14 (by decide) fwc_X2_63 rfl (tyX2_ok 14 (by decide)) rfl rfl (Nat.le_of_ble_eq_true rfl) rfl rfl ?_
  exact z_ret C E hA hr dX2_init_118 ⟨q1, q2, q3, q4, q5, q6, q7, q8, q9, q10, q11, q12, q13, q14, q15, q16, q17, q18, rfl⟩
theorem dX1_init_0 : decode cX1_init 0 = .ok (.aload_n 0, 1) := by decide +kernel
theorem dX1_init_1 : decode cX1_init 1 = .ok (.invokespecial 3, 3) := by decide +kernel
theorem dX1_init_4 : decode cX1_init 4 = .ok (.aload_n 0, 1) := by decide +kernel
theorem dX1_init_5 : decode cX1_init 5 = .ok (.bipush 60, 2) := by decide +kernel
theorem dX1_init_7 : decode cX1_init 7 = .ok (.newarray .int, 2) := by decide +kernel
theorem dX1_init_9 : decode cX1_init 9 = .ok (.putfield 9, 3) := by decide +kernel
theorem dX1_init_12 : decode cX1_init 12 = .ok (.aload_n 0, 1) := by decide +kernel
theorem dX1_init_13 : decode cX1_init 13 = .ok (.iconst 1, 1) := by decide +kernel
theorem dX1_init_14 : decode cX1_init 14 = .ok (.putfield 15, 3) := by decide +kernel
theorem dX1_init_17 : decode cX1_init 17 = .ok (.aload_n 0, 1) := by decide +kernel
theorem dX1_init_18 : decode cX1_init 18 = .ok (.iconst 0, 1) := by decide +kernel
theorem dX1_init_19 : decode cX1_init 19 = .ok (.putfield 19, 3) := by decide +kernel
theorem dX1_init_22 : decode cX1_init 22 = .ok (.aload_n 0, 1) := by decide +kernel
theorem dX1_init_23 : decode cX1_init 23 = .ok (.iconst 0, 1) := by decide +kernel
theorem dX1_init_24 : decode cX1_init 24 = .ok (.putfield 23, 3) := by decide +kernel
theorem dX1_init_27 : decode cX1_init 27 = .ok (.return_, 1) := by decide +kernel
def P_X1_init (h0 : Nat) (cs : C3) (w1 : va_W) : Prop := ∃ q1 : Nat, w1 = [(h0, .inr (1, [.ref q1, .int (1 : Int32), .int (0 : Int32), .int (0 : Int32)])), (q1, .inl (cs.1, 60, .inl (fun _ => 0)))]
set_option maxRecDepth 100000 in
theorem k_X1_init (h0 : Nat) : Cc yX1_init cX1_init 1 1 1 60 [.ref h0] [(h0, .inr (1, [.null, .int 0, .int 0, .int 0]))] (P_X1_init h0) := by
  refine cc_of (by decide) rfl (Nat.le_of_ble_eq_true rfl) (fun κ hn C hin E hA hr => ?_)
  show Zw κ 0 [(0, .ref h0)] [] [(h0, .inr (1, [.null, .int 0, .int 0, .int 0]))] 0 0
  refine z_aload_n 1 C dX1_init_0 0 rfl rfl rfl ?_
  refine z_obj 4 C dX1_init_1 owc_X1_3 (Nat.le_of_ble_eq_true rfl) (Nat.le_of_ble_eq_true rfl) rfl ?_
  refine z_aload_n 5 C dX1_init_4 0 rfl rfl rfl ?_
  refine z_bipush (v := (60 : Int32)) 7 C dX1_init_5 cb_60 rfl ?_
  refine z_newI (N := 60) 9 C dX1_init_7 (by decide) (by decide) (Nat.le_of_ble_eq_true rfl) (Nat.le_of_ble_eq_true rfl) (Nat.le_of_ble_eq_true rfl) rfl (fun q1 => ?_)
  refine z_nz [(h0, .inr (1, [.null, .int 0, .int 0, .int 0])), (q1, .inl ((kcs κ).1, 60, .inl (fun _ => 0)))] 1 60 rfl rfl rfl ?_
  refine z_putF 12 [(h0, .inr (1, [.ref q1, .int 0, .int 0, .int 0])), (q1, .inl ((kcs κ).1, 60, .inl (fun _ => 0)))] C hin dX1_init_9 0 rfl rfl wj_X1 tyX1_ok nmX1 0 (by decide) fwc_X1_9 rfl rfl (tyX1_ok 0 (by decide)) rfl rfl (Nat.le_of_ble_eq_true rfl) rfl rfl ?_
  refine z_aload_n 13 C dX1_init_12 0 rfl rfl rfl ?_
  refine z_iconst (v := (1 : Int32)) 14 C dX1_init_13 ci_1 rfl ?_
  refine z_putI 17 [(h0, .inr (1, [.ref q1, .int (1 : Int32), .int 0, .int 0])), (q1, .inl ((kcs κ).1, 60, .inl (fun _ => 0)))] C dX1_init_14 0 rfl rfl wj_X1 tyX1_ok nmX1 1 (by decide) fwc_X1_15 rfl (tyX1_ok 1 (by decide)) rfl rfl (Nat.le_of_ble_eq_true rfl) rfl rfl ?_
  refine z_aload_n 18 C dX1_init_17 0 rfl rfl rfl ?_
  refine z_iconst (v := (0 : Int32)) 19 C dX1_init_18 ci_0 rfl ?_
  refine z_putI 22 [(h0, .inr (1, [.ref q1, .int (1 : Int32), .int (0 : Int32), .int 0])), (q1, .inl ((kcs κ).1, 60, .inl (fun _ => 0)))] C dX1_init_19 0 rfl rfl wj_X1 tyX1_ok nmX1 2 (by decide) fwc_X1_19 rfl (tyX1_ok 2 (by decide)) rfl rfl (Nat.le_of_ble_eq_true rfl) rfl rfl ?_
  refine z_aload_n 23 C dX1_init_22 0 rfl rfl rfl ?_
  refine z_iconst (v := (0 : Int32)) 24 C dX1_init_23 ci_0 rfl ?_
  refine z_putI 27 [(h0, .inr (1, [.ref q1, .int (1 : Int32), .int (0 : Int32), .int (0 : Int32)])), (q1, .inl ((kcs κ).1, 60, .inl (fun _ => 0)))] C dX1_init_24 0 rfl rfl wj_X1 tyX1_ok nmX1 3 (by decide) fwc_X1_23 rfl (tyX1_ok 3 (by decide)) rfl rfl (Nat.le_of_ble_eq_true rfl) rfl rfl ?_
  exact z_ret C E hA hr dX1_init_27 ⟨q1, rfl⟩

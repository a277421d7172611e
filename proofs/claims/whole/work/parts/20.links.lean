theorem fw_X0 : ∀ w ∈ u_ws RX0 TX0 7, w ∈ cb_gt := by
  intro w hw
  obtain ⟨k, hk, rfl⟩ := List.mem_map.mp hw
  have hk := List.mem_range.mp hk
  match k, hk with
  | 0, _ => exact cb_in (cb_t1 (List.mem_of_getElem? (i := 204) rfl)) rfl
  | 1, _ => exact cb_in (cb_t1 (List.mem_of_getElem? (i := 206) rfl)) rfl
  | 2, _ => exact cb_in (cb_t1 (List.mem_of_getElem? (i := 208) rfl)) rfl
  | 3, _ => exact cb_in (cb_t1 (List.mem_of_getElem? (i := 210) rfl)) rfl
  | 4, _ => exact cb_in (cb_t1 (List.mem_of_getElem? (i := 212) rfl)) rfl
  | 5, _ => exact cb_in (cb_t1 (List.mem_of_getElem? (i := 214) rfl)) rfl
  | 6, _ => exact cb_in (cb_t1 (List.mem_of_getElem? (i := 216) rfl)) rfl
  | k + 7, hk => exact absurd hk (by omega)
theorem fw_X1 : ∀ w ∈ u_ws RX1 TX1 3, w ∈ cb_gt := by
  intro w hw
  obtain ⟨k, hk, rfl⟩ := List.mem_map.mp hw
  have hk := List.mem_range.mp hk
  match k, hk with
  | 0, _ => exact cb_in (cb_t1 (List.mem_of_getElem? (i := 232) rfl)) rfl
  | 1, _ => exact cb_in (cb_t1 (List.mem_of_getElem? (i := 234) rfl)) rfl
  | 2, _ => exact cb_in (cb_t1 (List.mem_of_getElem? (i := 236) rfl)) rfl
  | k + 3, hk => exact absurd hk (by omega)
theorem fw_X2 : ∀ w ∈ u_ws RX2 TX2 7, w ∈ cb_gt := by
  intro w hw
  obtain ⟨k, hk, rfl⟩ := List.mem_map.mp hw
  have hk := List.mem_range.mp hk
  match k, hk with
  | 0, _ => exact cb_in (cb_t1 (List.mem_of_getElem? (i := 175) rfl)) rfl
  | 1, _ => exact cb_in (cb_t1 (List.mem_of_getElem? (i := 177) rfl)) rfl
  | 2, _ => exact cb_in (cb_t1 (List.mem_of_getElem? (i := 179) rfl)) rfl
  | 3, _ => exact cb_in (cb_t1 (List.mem_of_getElem? (i := 181) rfl)) rfl
  | 4, _ => exact cb_in (cb_t1 (List.mem_of_getElem? (i := 183) rfl)) rfl
  | 5, _ => exact cb_in (cb_t1 (List.mem_of_getElem? (i := 185) rfl)) rfl
  | 6, _ => exact cb_in (cb_t1 (List.mem_of_getElem? (i := 187) rfl)) rfl
  | k + 7, hk => exact absurd hk (by omega)
theorem fw_X3 : ∀ w ∈ u_ws RX3 TX3 3, w ∈ cb_gt := by
  intro w hw
  obtain ⟨k, hk, rfl⟩ := List.mem_map.mp hw
  have hk := List.mem_range.mp hk
  match k, hk with
  | 0, _ => exact cb_in (cb_t1 (List.mem_of_getElem? (i := 152) rfl)) rfl
  | 1, _ => exact cb_in (cb_t1 (List.mem_of_getElem? (i := 154) rfl)) rfl
  | 2, _ => exact cb_in (cb_t1 (List.mem_of_getElem? (i := 156) rfl)) rfl
  | k + 3, hk => exact absurd hk (by omega)
theorem fw_X4 : ∀ w ∈ u_ws RX4 TX4 7, w ∈ cb_gt := by
  intro w hw
  obtain ⟨k, hk, rfl⟩ := List.mem_map.mp hw
  have hk := List.mem_range.mp hk
  match k, hk with
  | 0, _ => exact cb_in (cb_t1 (List.mem_of_getElem? (i := 124) rfl)) rfl
  | 1, _ => exact cb_in (cb_t1 (List.mem_of_getElem? (i := 126) rfl)) rfl
  | 2, _ => exact cb_in (cb_t1 (List.mem_of_getElem? (i := 128) rfl)) rfl
  | 3, _ => exact cb_in (cb_t1 (List.mem_of_getElem? (i := 130) rfl)) rfl
  | 4, _ => exact cb_in (cb_t1 (List.mem_of_getElem? (i := 132) rfl)) rfl
  | 5, _ => exact cb_in (cb_t1 (List.mem_of_getElem? (i := 134) rfl)) rfl
  | 6, _ => exact cb_in (cb_t1 (List.mem_of_getElem? (i := 136) rfl)) rfl
  | k + 7, hk => exact absurd hk (by omega)
theorem fw_X5 : ∀ w ∈ u_ws RX5 TX5 6, w ∈ cb_gt := by
  intro w hw
  obtain ⟨k, hk, rfl⟩ := List.mem_map.mp hw
  have hk := List.mem_range.mp hk
  match k, hk with
  | 0, _ => exact cb_in (cb_t1 (List.mem_of_getElem? (i := 89) rfl)) rfl
  | 1, _ => exact cb_in (cb_t1 (List.mem_of_getElem? (i := 91) rfl)) rfl
  | 2, _ => exact cb_in (cb_t1 (List.mem_of_getElem? (i := 93) rfl)) rfl
  | 3, _ => exact cb_in (cb_t1 (List.mem_of_getElem? (i := 95) rfl)) rfl
  | 4, _ => exact cb_in (cb_t1 (List.mem_of_getElem? (i := 97) rfl)) rfl
  | 5, _ => exact cb_in (cb_t1 (List.mem_of_getElem? (i := 99) rfl)) rfl
  | k + 6, hk => exact absurd hk (by omega)
theorem fw_X6 : ∀ w ∈ u_ws RX6 TX6 10, w ∈ cb_gt := by
  intro w hw
  obtain ⟨k, hk, rfl⟩ := List.mem_map.mp hw
  have hk := List.mem_range.mp hk
  match k, hk with
  | 0, _ => exact cb_in (cb_t1 (List.mem_of_getElem? (i := 57) rfl)) rfl
  | 1, _ => exact cb_in (cb_t1 (List.mem_of_getElem? (i := 59) rfl)) rfl
  | 2, _ => exact cb_in (cb_t1 (List.mem_of_getElem? (i := 61) rfl)) rfl
  | 3, _ => exact cb_in (cb_t1 (List.mem_of_getElem? (i := 63) rfl)) rfl
  | 4, _ => exact cb_in (cb_t1 (List.mem_of_getElem? (i := 65) rfl)) rfl
  | 5, _ => exact cb_in (cb_t1 (List.mem_of_getElem? (i := 67) rfl)) rfl
  | 6, _ => exact cb_in (cb_t1 (List.mem_of_getElem? (i := 69) rfl)) rfl
  | 7, _ => exact cb_in (cb_t1 (List.mem_of_getElem? (i := 71) rfl)) rfl
  | 8, _ => exact cb_in (cb_t1 (List.mem_of_getElem? (i := 73) rfl)) rfl
  | 9, _ => exact cb_in (cb_t1 (List.mem_of_getElem? (i := 75) rfl)) rfl
  | k + 10, hk => exact absurd hk (by omega)
theorem fw_X7 : ∀ w ∈ u_ws RX7 TX7 10, w ∈ cb_gt := by
  intro w hw
  obtain ⟨k, hk, rfl⟩ := List.mem_map.mp hw
  have hk := List.mem_range.mp hk
  match k, hk with
  | 0, _ => exact cb_in (cb_t2 (List.mem_of_getElem? (i := 9) rfl)) rfl
  | 1, _ => exact cb_in (cb_t2 (List.mem_of_getElem? (i := 11) rfl)) rfl
  | 2, _ => exact cb_in (cb_t2 (List.mem_of_getElem? (i := 13) rfl)) rfl
  | 3, _ => exact cb_in (cb_t2 (List.mem_of_getElem? (i := 15) rfl)) rfl
  | 4, _ => exact cb_in (cb_t2 (List.mem_of_getElem? (i := 17) rfl)) rfl
  | 5, _ => exact cb_in (cb_t2 (List.mem_of_getElem? (i := 19) rfl)) rfl
  | 6, _ => exact cb_in (cb_t2 (List.mem_of_getElem? (i := 21) rfl)) rfl
  | 7, _ => exact cb_in (cb_t2 (List.mem_of_getElem? (i := 23) rfl)) rfl
  | 8, _ => exact cb_in (cb_t2 (List.mem_of_getElem? (i := 25) rfl)) rfl
  | 9, _ => exact cb_in (cb_t2 (List.mem_of_getElem? (i := 27) rfl)) rfl
  | k + 10, hk => exact absurd hk (by omega)
theorem fw_X8 : ∀ w ∈ u_ws RX8 TX8 40, w ∈ cb_gt := by
  intro w hw
  obtain ⟨k, hk, rfl⟩ := List.mem_map.mp hw
  have hk := List.mem_range.mp hk
  match k, hk with
  | 0, _ => exact cb_in (cb_t4 (List.mem_of_getElem? (i := 151) rfl)) rfl
  | 1, _ => exact cb_in (cb_t4 (List.mem_of_getElem? (i := 153) rfl)) rfl
  | 2, _ => exact cb_in (cb_t4 (List.mem_of_getElem? (i := 155) rfl)) rfl
  | 3, _ => exact cb_in (cb_t4 (List.mem_of_getElem? (i := 157) rfl)) rfl
  | 4, _ => exact cb_in (cb_t4 (List.mem_of_getElem? (i := 159) rfl)) rfl
  | 5, _ => exact cb_in (cb_t4 (List.mem_of_getElem? (i := 161) rfl)) rfl
  | 6, _ => exact cb_in (cb_t4 (List.mem_of_getElem? (i := 163) rfl)) rfl
  | 7, _ => exact cb_in (cb_t4 (List.mem_of_getElem? (i := 165) rfl)) rfl
  | 8, _ => exact cb_in (cb_t4 (List.mem_of_getElem? (i := 167) rfl)) rfl
  | 9, _ => exact cb_in (cb_t4 (List.mem_of_getElem? (i := 169) rfl)) rfl
  | 10, _ => exact cb_in (cb_t4 (List.mem_of_getElem? (i := 171) rfl)) rfl
  | 11, _ => exact cb_in (cb_t4 (List.mem_of_getElem? (i := 173) rfl)) rfl
  | 12, _ => exact cb_in (cb_t4 (List.mem_of_getElem? (i := 175) rfl)) rfl
  | 13, _ => exact cb_in (cb_t4 (List.mem_of_getElem? (i := 177) rfl)) rfl
  | 14, _ => exact cb_in (cb_t4 (List.mem_of_getElem? (i := 179) rfl)) rfl
  | 15, _ => exact cb_in (cb_t4 (List.mem_of_getElem? (i := 181) rfl)) rfl
  | 16, _ => exact cb_in (cb_t4 (List.mem_of_getElem? (i := 183) rfl)) rfl
  | 17, _ => exact cb_in (cb_t4 (List.mem_of_getElem? (i := 185) rfl)) rfl
  | 18, _ => exact cb_in (cb_t4 (List.mem_of_getElem? (i := 187) rfl)) rfl
  | 19, _ => exact cb_in (cb_t4 (List.mem_of_getElem? (i := 189) rfl)) rfl
  | 20, _ => exact cb_in (cb_t4 (List.mem_of_getElem? (i := 191) rfl)) rfl
  | 21, _ => exact cb_in (cb_t4 (List.mem_of_getElem? (i := 193) rfl)) rfl
  | 22, _ => exact cb_in (cb_t4 (List.mem_of_getElem? (i := 195) rfl)) rfl
  | 23, _ => exact cb_in (cb_t4 (List.mem_of_getElem? (i := 197) rfl)) rfl
  | 24, _ => exact cb_in (cb_t4 (List.mem_of_getElem? (i := 199) rfl)) rfl
  | 25, _ => exact cb_in (cb_t4 (List.mem_of_getElem? (i := 201) rfl)) rfl
  | 26, _ => exact cb_in (cb_t4 (List.mem_of_getElem? (i := 203) rfl)) rfl
  | 27, _ => exact cb_in (cb_t4 (List.mem_of_getElem? (i := 205) rfl)) rfl
  | 28, _ => exact cb_in (cb_t4 (List.mem_of_getElem? (i := 207) rfl)) rfl
  | 29, _ => exact cb_in (cb_t4 (List.mem_of_getElem? (i := 209) rfl)) rfl
  | 30, _ => exact cb_in (cb_t4 (List.mem_of_getElem? (i := 211) rfl)) rfl
  | 31, _ => exact cb_in (cb_t4 (List.mem_of_getElem? (i := 213) rfl)) rfl
  | 32, _ => exact cb_in (cb_t4 (List.mem_of_getElem? (i := 215) rfl)) rfl
  | 33, _ => exact cb_in (cb_t4 (List.mem_of_getElem? (i := 217) rfl)) rfl
  | 34, _ => exact cb_in (cb_t4 (List.mem_of_getElem? (i := 219) rfl)) rfl
  | 35, _ => exact cb_in (cb_t4 (List.mem_of_getElem? (i := 221) rfl)) rfl
  | 36, _ => exact cb_in (cb_t4 (List.mem_of_getElem? (i := 223) rfl)) rfl
  | 37, _ => exact cb_in (cb_t4 (List.mem_of_getElem? (i := 225) rfl)) rfl
  | 38, _ => exact cb_in (cb_t4 (List.mem_of_getElem? (i := 227) rfl)) rfl
  | 39, _ => exact cb_in (cb_t4 (List.mem_of_getElem? (i := 229) rfl)) rfl
  | k + 40, hk => exact absurd hk (by omega)
theorem kf_X6_25 : Cond.fieldLink "CardBecome$Table" 25 "CardBecome$Table" "stands" "Z" ∈ cb_gt := cb_in (cb_t1 (List.mem_of_getElem? (i := 34) rfl)) rfl
theorem kf_X5_44 : Cond.fieldLink "CardBecome$Reader" 44 "CardBecome$Table" "stands" "Z" ∈ cb_gt := cb_in (cb_t1 (List.mem_of_getElem? (i := 35) rfl)) rfl
theorem kf_X7_220 : Cond.fieldLink "CardBecome" 220 "CardBecome$Table" "stands" "Z" ∈ cb_gt := cb_in (cb_t1 (List.mem_of_getElem? (i := 36) rfl)) rfl
theorem kf_X6_9 : Cond.fieldLink "CardBecome$Table" 9 "CardBecome$Table" "trump" "I" ∈ cb_gt := cb_in (cb_t1 (List.mem_of_getElem? (i := 37) rfl)) rfl
theorem kf_X5_62 : Cond.fieldLink "CardBecome$Reader" 62 "CardBecome$Table" "trump" "I" ∈ cb_gt := cb_in (cb_t1 (List.mem_of_getElem? (i := 38) rfl)) rfl
theorem kf_X7_111 : Cond.fieldLink "CardBecome" 111 "CardBecome$Table" "trump" "I" ∈ cb_gt := cb_in (cb_t1 (List.mem_of_getElem? (i := 39) rfl)) rfl
theorem kf_X6_29 : Cond.fieldLink "CardBecome$Table" 29 "CardBecome$Table" "low" "I" ∈ cb_gt := cb_in (cb_t1 (List.mem_of_getElem? (i := 40) rfl)) rfl
theorem kf_X5_65 : Cond.fieldLink "CardBecome$Reader" 65 "CardBecome$Table" "low" "I" ∈ cb_gt := cb_in (cb_t1 (List.mem_of_getElem? (i := 41) rfl)) rfl
theorem kf_X7_114 : Cond.fieldLink "CardBecome" 114 "CardBecome$Table" "low" "I" ∈ cb_gt := cb_in (cb_t1 (List.mem_of_getElem? (i := 42) rfl)) rfl
theorem kf_X6_32 : Cond.fieldLink "CardBecome$Table" 32 "CardBecome$Table" "knave" "I" ∈ cb_gt := cb_in (cb_t1 (List.mem_of_getElem? (i := 43) rfl)) rfl
theorem kf_X5_68 : Cond.fieldLink "CardBecome$Reader" 68 "CardBecome$Table" "knave" "I" ∈ cb_gt := cb_in (cb_t1 (List.mem_of_getElem? (i := 44) rfl)) rfl
theorem kf_X7_117 : Cond.fieldLink "CardBecome" 117 "CardBecome$Table" "knave" "I" ∈ cb_gt := cb_in (cb_t1 (List.mem_of_getElem? (i := 45) rfl)) rfl
theorem kf_X6_35 : Cond.fieldLink "CardBecome$Table" 35 "CardBecome$Table" "cards" "I" ∈ cb_gt := cb_in (cb_t1 (List.mem_of_getElem? (i := 46) rfl)) rfl
theorem kf_X7_88 : Cond.fieldLink "CardBecome" 88 "CardBecome$Table" "cards" "I" ∈ cb_gt := cb_in (cb_t1 (List.mem_of_getElem? (i := 47) rfl)) rfl
theorem kf_X5_85 : Cond.fieldLink "CardBecome$Reader" 85 "CardBecome$Table" "cards" "I" ∈ cb_gt := cb_in (cb_t1 (List.mem_of_getElem? (i := 48) rfl)) rfl
theorem kf_X0_39 : Cond.fieldLink "CardBecome$Deals" 39 "CardBecome$Table" "persons" "I" ∈ cb_gt := cb_in (cb_t1 (List.mem_of_getElem? (i := 49) rfl)) rfl
theorem kf_X6_38 : Cond.fieldLink "CardBecome$Table" 38 "CardBecome$Table" "persons" "I" ∈ cb_gt := cb_in (cb_t1 (List.mem_of_getElem? (i := 50) rfl)) rfl
theorem kf_X7_105 : Cond.fieldLink "CardBecome" 105 "CardBecome$Table" "persons" "I" ∈ cb_gt := cb_in (cb_t1 (List.mem_of_getElem? (i := 51) rfl)) rfl
theorem kf_X5_98 : Cond.fieldLink "CardBecome$Reader" 98 "CardBecome$Table" "persons" "I" ∈ cb_gt := cb_in (cb_t1 (List.mem_of_getElem? (i := 52) rfl)) rfl
theorem kf_X6_41 : Cond.fieldLink "CardBecome$Table" 41 "CardBecome$Table" "told" "J" ∈ cb_gt := cb_in (cb_t1 (List.mem_of_getElem? (i := 53) rfl)) rfl
theorem kf_X6_15 : Cond.fieldLink "CardBecome$Table" 15 "CardBecome$Table" "rank" "[I" ∈ cb_gt := cb_in (cb_t1 (List.mem_of_getElem? (i := 54) rfl)) rfl
theorem kf_X6_19 : Cond.fieldLink "CardBecome$Table" 19 "CardBecome$Table" "suit" "[I" ∈ cb_gt := cb_in (cb_t1 (List.mem_of_getElem? (i := 55) rfl)) rfl
theorem kf_X6_22 : Cond.fieldLink "CardBecome$Table" 22 "CardBecome$Table" "beaten" "[I" ∈ cb_gt := cb_in (cb_t1 (List.mem_of_getElem? (i := 56) rfl)) rfl
theorem kf_X5_12 : Cond.fieldLink "CardBecome$Reader" 12 "CardBecome$Reader" "draft" "LCardBecome$Table;" ∈ cb_gt := cb_in (cb_t1 (List.mem_of_getElem? (i := 79) rfl)) rfl
theorem kf_X7_81 : Cond.fieldLink "CardBecome" 81 "CardBecome$Reader" "draft" "LCardBecome$Table;" ∈ cb_gt := cb_in (cb_t1 (List.mem_of_getElem? (i := 80) rfl)) rfl
theorem kf_X5_32 : Cond.fieldLink "CardBecome$Reader" 32 "CardBecome$Reader" "fault" "I" ∈ cb_gt := cb_in (cb_t1 (List.mem_of_getElem? (i := 81) rfl)) rfl
theorem kf_X7_78 : Cond.fieldLink "CardBecome" 78 "CardBecome$Reader" "fault" "I" ∈ cb_gt := cb_in (cb_t1 (List.mem_of_getElem? (i := 82) rfl)) rfl
theorem kf_X5_18 : Cond.fieldLink "CardBecome$Reader" 18 "CardBecome$Reader" "faultAt" "I" ∈ cb_gt := cb_in (cb_t1 (List.mem_of_getElem? (i := 83) rfl)) rfl
theorem kf_X7_108 : Cond.fieldLink "CardBecome" 108 "CardBecome$Reader" "faultAt" "I" ∈ cb_gt := cb_in (cb_t1 (List.mem_of_getElem? (i := 84) rfl)) rfl
theorem kf_X5_26 : Cond.fieldLink "CardBecome$Reader" 26 "CardBecome$Reader" "letters" "I" ∈ cb_gt := cb_in (cb_t1 (List.mem_of_getElem? (i := 85) rfl)) rfl
theorem kf_X7_70 : Cond.fieldLink "CardBecome" 70 "CardBecome$Reader" "letters" "I" ∈ cb_gt := cb_in (cb_t1 (List.mem_of_getElem? (i := 86) rfl)) rfl
theorem kf_X5_22 : Cond.fieldLink "CardBecome$Reader" 22 "CardBecome$Reader" "text" "[I" ∈ cb_gt := cb_in (cb_t1 (List.mem_of_getElem? (i := 87) rfl)) rfl
theorem kf_X5_29 : Cond.fieldLink "CardBecome$Reader" 29 "CardBecome$Reader" "at" "I" ∈ cb_gt := cb_in (cb_t1 (List.mem_of_getElem? (i := 88) rfl)) rfl
theorem kf_X0_24 : Cond.fieldLink "CardBecome$Deals" 24 "CardBecome$Play" "packed" "I" ∈ cb_gt := cb_in (cb_t1 (List.mem_of_getElem? (i := 113) rfl)) rfl
theorem kf_X4_36 : Cond.fieldLink "CardBecome$Play" 36 "CardBecome$Play" "packed" "I" ∈ cb_gt := cb_in (cb_t1 (List.mem_of_getElem? (i := 114) rfl)) rfl
theorem kf_X7_120 : Cond.fieldLink "CardBecome" 120 "CardBecome$Play" "packed" "I" ∈ cb_gt := cb_in (cb_t1 (List.mem_of_getElem? (i := 115) rfl)) rfl
theorem kf_X4_40 : Cond.fieldLink "CardBecome$Play" 40 "CardBecome$Play" "drawers" "I" ∈ cb_gt := cb_in (cb_t1 (List.mem_of_getElem? (i := 116) rfl)) rfl
theorem kf_X7_123 : Cond.fieldLink "CardBecome" 123 "CardBecome$Play" "drawers" "I" ∈ cb_gt := cb_in (cb_t1 (List.mem_of_getElem? (i := 117) rfl)) rfl
theorem kf_X4_43 : Cond.fieldLink "CardBecome$Play" 43 "CardBecome$Play" "meetings" "I" ∈ cb_gt := cb_in (cb_t1 (List.mem_of_getElem? (i := 118) rfl)) rfl
theorem kf_X7_133 : Cond.fieldLink "CardBecome" 133 "CardBecome$Play" "meetings" "I" ∈ cb_gt := cb_in (cb_t1 (List.mem_of_getElem? (i := 119) rfl)) rfl
theorem kf_X4_9 : Cond.fieldLink "CardBecome$Play" 9 "CardBecome$Play" "pack" "[I" ∈ cb_gt := cb_in (cb_t1 (List.mem_of_getElem? (i := 120) rfl)) rfl
theorem kf_X4_15 : Cond.fieldLink "CardBecome$Play" 15 "CardBecome$Play" "held" "[I" ∈ cb_gt := cb_in (cb_t1 (List.mem_of_getElem? (i := 121) rfl)) rfl
theorem kf_X4_18 : Cond.fieldLink "CardBecome$Play" 18 "CardBecome$Play" "wins" "[I" ∈ cb_gt := cb_in (cb_t1 (List.mem_of_getElem? (i := 122) rfl)) rfl
theorem kf_X4_21 : Cond.fieldLink "CardBecome$Play" 21 "CardBecome$Play" "log" "[I" ∈ cb_gt := cb_in (cb_t1 (List.mem_of_getElem? (i := 123) rfl)) rfl
theorem kf_X3_18 : Cond.fieldLink "CardBecome$Past" 18 "CardBecome$Past" "kept" "I" ∈ cb_gt := cb_in (cb_t1 (List.mem_of_getElem? (i := 148) rfl)) rfl
theorem kf_X7_145 : Cond.fieldLink "CardBecome" 145 "CardBecome$Past" "kept" "I" ∈ cb_gt := cb_in (cb_t1 (List.mem_of_getElem? (i := 149) rfl)) rfl
theorem kf_X3_22 : Cond.fieldLink "CardBecome$Past" 22 "CardBecome$Past" "next" "I" ∈ cb_gt := cb_in (cb_t1 (List.mem_of_getElem? (i := 150) rfl)) rfl
theorem kf_X3_11 : Cond.fieldLink "CardBecome$Past" 11 "CardBecome$Past" "plays" "[LCardBecome$Play;" ∈ cb_gt := cb_in (cb_t1 (List.mem_of_getElem? (i := 151) rfl)) rfl
theorem kf_X2_27 : Cond.fieldLink "CardBecome$Papers" 27 "CardBecome$Papers" "seen" "I" ∈ cb_gt := cb_in (cb_t1 (List.mem_of_getElem? (i := 165) rfl)) rfl
theorem kf_X7_139 : Cond.fieldLink "CardBecome" 139 "CardBecome$Papers" "seen" "I" ∈ cb_gt := cb_in (cb_t1 (List.mem_of_getElem? (i := 166) rfl)) rfl
theorem kf_X0_75 : Cond.fieldLink "CardBecome$Deals" 75 "CardBecome$Papers" "seen" "I" ∈ cb_gt := cb_in (cb_t1 (List.mem_of_getElem? (i := 167) rfl)) rfl
theorem kf_X2_31 : Cond.fieldLink "CardBecome$Papers" 31 "CardBecome$Papers" "written" "I" ∈ cb_gt := cb_in (cb_t1 (List.mem_of_getElem? (i := 168) rfl)) rfl
theorem kf_X7_142 : Cond.fieldLink "CardBecome" 142 "CardBecome$Papers" "written" "I" ∈ cb_gt := cb_in (cb_t1 (List.mem_of_getElem? (i := 169) rfl)) rfl
theorem kf_X2_9 : Cond.fieldLink "CardBecome$Papers" 9 "CardBecome$Papers" "seenFirst" "[I" ∈ cb_gt := cb_in (cb_t1 (List.mem_of_getElem? (i := 170) rfl)) rfl
theorem kf_X2_15 : Cond.fieldLink "CardBecome$Papers" 15 "CardBecome$Papers" "seenSecond" "[I" ∈ cb_gt := cb_in (cb_t1 (List.mem_of_getElem? (i := 171) rfl)) rfl
theorem kf_X2_18 : Cond.fieldLink "CardBecome$Papers" 18 "CardBecome$Papers" "seenWho" "[I" ∈ cb_gt := cb_in (cb_t1 (List.mem_of_getElem? (i := 172) rfl)) rfl
theorem kf_X2_21 : Cond.fieldLink "CardBecome$Papers" 21 "CardBecome$Papers" "persons" "[I" ∈ cb_gt := cb_in (cb_t1 (List.mem_of_getElem? (i := 173) rfl)) rfl
theorem kf_X2_24 : Cond.fieldLink "CardBecome$Papers" 24 "CardBecome$Papers" "cards" "[I" ∈ cb_gt := cb_in (cb_t1 (List.mem_of_getElem? (i := 174) rfl)) rfl
theorem kf_X0_51 : Cond.fieldLink "CardBecome$Deals" 51 "CardBecome$Deals" "ways" "I" ∈ cb_gt := cb_in (cb_t1 (List.mem_of_getElem? (i := 196) rfl)) rfl
theorem kf_X7_286 : Cond.fieldLink "CardBecome" 286 "CardBecome$Deals" "ways" "I" ∈ cb_gt := cb_in (cb_t1 (List.mem_of_getElem? (i := 197) rfl)) rfl
theorem kf_X0_36 : Cond.fieldLink "CardBecome$Deals" 36 "CardBecome$Deals" "cards" "I" ∈ cb_gt := cb_in (cb_t1 (List.mem_of_getElem? (i := 198) rfl)) rfl
theorem kf_X0_44 : Cond.fieldLink "CardBecome$Deals" 44 "CardBecome$Deals" "holders" "I" ∈ cb_gt := cb_in (cb_t1 (List.mem_of_getElem? (i := 199) rfl)) rfl
theorem kf_X0_9 : Cond.fieldLink "CardBecome$Deals" 9 "CardBecome$Deals" "top" "[I" ∈ cb_gt := cb_in (cb_t1 (List.mem_of_getElem? (i := 200) rfl)) rfl
theorem kf_X0_15 : Cond.fieldLink "CardBecome$Deals" 15 "CardBecome$Deals" "lies" "[I" ∈ cb_gt := cb_in (cb_t1 (List.mem_of_getElem? (i := 201) rfl)) rfl
theorem kf_X0_18 : Cond.fieldLink "CardBecome$Deals" 18 "CardBecome$Deals" "sure" "[I" ∈ cb_gt := cb_in (cb_t1 (List.mem_of_getElem? (i := 202) rfl)) rfl
theorem kf_X0_21 : Cond.fieldLink "CardBecome$Deals" 21 "CardBecome$Deals" "parts" "[I" ∈ cb_gt := cb_in (cb_t1 (List.mem_of_getElem? (i := 203) rfl)) rfl
theorem kf_X7_101 : Cond.fieldLink "CardBecome" 101 "CardBecome$Image" "kept" "Z" ∈ cb_gt := cb_in (cb_t1 (List.mem_of_getElem? (i := 228) rfl)) rfl
theorem kf_X7_312 : Cond.fieldLink "CardBecome" 312 "CardBecome$Image" "chance" "I" ∈ cb_gt := cb_in (cb_t1 (List.mem_of_getElem? (i := 229) rfl)) rfl
theorem kf_X1_10 : Cond.fieldLink "CardBecome$Image" 10 "CardBecome$Image" "play" "LCardBecome$Play;" ∈ cb_gt := cb_in (cb_t1 (List.mem_of_getElem? (i := 230) rfl)) rfl
theorem kf_X7_307 : Cond.fieldLink "CardBecome" 307 "CardBecome$Image" "play" "LCardBecome$Play;" ∈ cb_gt := cb_in (cb_t1 (List.mem_of_getElem? (i := 231) rfl)) rfl
theorem kf_X7_304 : Cond.fieldLink "CardBecome" 304 "CardBecome" "chance" "I" ∈ cb_gt := cb_in (cb_t1 (List.mem_of_getElem? (i := 239) rfl)) rfl
theorem kf_X7_19 : Cond.fieldLink "CardBecome" 19 "CardBecome" "reader" "LCardBecome$Reader;" ∈ cb_gt := cb_in (cb_t2 (List.mem_of_getElem? (i := 0) rfl)) rfl
theorem kf_X7_26 : Cond.fieldLink "CardBecome" 26 "CardBecome" "laid" "LCardBecome$Table;" ∈ cb_gt := cb_in (cb_t2 (List.mem_of_getElem? (i := 1) rfl)) rfl
theorem kf_X7_33 : Cond.fieldLink "CardBecome" 33 "CardBecome" "now" "LCardBecome$Play;" ∈ cb_gt := cb_in (cb_t2 (List.mem_of_getElem? (i := 2) rfl)) rfl
theorem kf_X7_40 : Cond.fieldLink "CardBecome" 40 "CardBecome" "past" "LCardBecome$Past;" ∈ cb_gt := cb_in (cb_t2 (List.mem_of_getElem? (i := 3) rfl)) rfl
theorem kf_X7_47 : Cond.fieldLink "CardBecome" 47 "CardBecome" "papers" "LCardBecome$Papers;" ∈ cb_gt := cb_in (cb_t2 (List.mem_of_getElem? (i := 4) rfl)) rfl
theorem kf_X7_54 : Cond.fieldLink "CardBecome" 54 "CardBecome" "unseen" "LCardBecome$Deals;" ∈ cb_gt := cb_in (cb_t2 (List.mem_of_getElem? (i := 5) rfl)) rfl
theorem kf_X7_60 : Cond.fieldLink "CardBecome" 60 "CardBecome" "images" "[LCardBecome$Image;" ∈ cb_gt := cb_in (cb_t2 (List.mem_of_getElem? (i := 6) rfl)) rfl
theorem kf_X7_9 : Cond.fieldLink "CardBecome" 9 "CardBecome" "would" "[I" ∈ cb_gt := cb_in (cb_t2 (List.mem_of_getElem? (i := 7) rfl)) rfl
theorem kf_X7_13 : Cond.fieldLink "CardBecome" 13 "CardBecome" "spare" "[I" ∈ cb_gt := cb_in (cb_t2 (List.mem_of_getElem? (i := 8) rfl)) rfl
theorem kf_X8_143 : Cond.fieldLink "CardBecomeModel" 143 "CardBecomeModel" "isTable" "Z" ∈ cb_gt := cb_in (cb_t4 (List.mem_of_getElem? (i := 111) rfl)) rfl
theorem kf_X8_146 : Cond.fieldLink "CardBecomeModel" 146 "CardBecomeModel" "trump" "I" ∈ cb_gt := cb_in (cb_t4 (List.mem_of_getElem? (i := 112) rfl)) rfl
theorem kf_X8_149 : Cond.fieldLink "CardBecomeModel" 149 "CardBecomeModel" "lower" "I" ∈ cb_gt := cb_in (cb_t4 (List.mem_of_getElem? (i := 113) rfl)) rfl
theorem kf_X8_152 : Cond.fieldLink "CardBecomeModel" 152 "CardBecomeModel" "knaves" "I" ∈ cb_gt := cb_in (cb_t4 (List.mem_of_getElem? (i := 114) rfl)) rfl
theorem kf_X8_86 : Cond.fieldLink "CardBecomeModel" 86 "CardBecomeModel" "cards" "I" ∈ cb_gt := cb_in (cb_t4 (List.mem_of_getElem? (i := 115) rfl)) rfl
theorem kf_X8_7 : Cond.fieldLink "CardBecomeModel" 7 "CardBecomeModel" "rank" "[I" ∈ cb_gt := cb_in (cb_t4 (List.mem_of_getElem? (i := 116) rfl)) rfl
theorem kf_X8_13 : Cond.fieldLink "CardBecomeModel" 13 "CardBecomeModel" "suit" "[I" ∈ cb_gt := cb_in (cb_t4 (List.mem_of_getElem? (i := 117) rfl)) rfl
theorem kf_X8_75 : Cond.fieldLink "CardBecomeModel" 75 "CardBecomeModel" "persons" "I" ∈ cb_gt := cb_in (cb_t4 (List.mem_of_getElem? (i := 118) rfl)) rfl
theorem kf_X8_16 : Cond.fieldLink "CardBecomeModel" 16 "CardBecomeModel" "now" "[I" ∈ cb_gt := cb_in (cb_t4 (List.mem_of_getElem? (i := 119) rfl)) rfl
theorem kf_X8_259 : Cond.fieldLink "CardBecomeModel" 259 "CardBecomeModel" "seed" "I" ∈ cb_gt := cb_in (cb_t4 (List.mem_of_getElem? (i := 120) rfl)) rfl
theorem kf_X8_19 : Cond.fieldLink "CardBecomeModel" 19 "CardBecomeModel" "text" "[I" ∈ cb_gt := cb_in (cb_t4 (List.mem_of_getElem? (i := 121) rfl)) rfl
theorem kf_X8_92 : Cond.fieldLink "CardBecomeModel" 92 "CardBecomeModel" "texted" "I" ∈ cb_gt := cb_in (cb_t4 (List.mem_of_getElem? (i := 122) rfl)) rfl
theorem kf_X8_22 : Cond.fieldLink "CardBecomeModel" 22 "CardBecomeModel" "faultPlace" "I" ∈ cb_gt := cb_in (cb_t4 (List.mem_of_getElem? (i := 123) rfl)) rfl
theorem kf_X8_96 : Cond.fieldLink "CardBecomeModel" 96 "CardBecomeModel" "at0" "I" ∈ cb_gt := cb_in (cb_t4 (List.mem_of_getElem? (i := 124) rfl)) rfl
theorem kf_X8_114 : Cond.fieldLink "CardBecomeModel" 114 "CardBecomeModel" "number" "I" ∈ cb_gt := cb_in (cb_t4 (List.mem_of_getElem? (i := 125) rfl)) rfl
theorem kf_X8_111 : Cond.fieldLink "CardBecomeModel" 111 "CardBecomeModel" "numberAt" "I" ∈ cb_gt := cb_in (cb_t4 (List.mem_of_getElem? (i := 126) rfl)) rfl
theorem kf_X8_120 : Cond.fieldLink "CardBecomeModel" 120 "CardBecomeModel" "readTable" "Z" ∈ cb_gt := cb_in (cb_t4 (List.mem_of_getElem? (i := 127) rfl)) rfl
theorem kf_X8_26 : Cond.fieldLink "CardBecomeModel" 26 "CardBecomeModel" "readRules" "[I" ∈ cb_gt := cb_in (cb_t4 (List.mem_of_getElem? (i := 128) rfl)) rfl
theorem kf_X8_128 : Cond.fieldLink "CardBecomeModel" 128 "CardBecomeModel" "readCards" "I" ∈ cb_gt := cb_in (cb_t4 (List.mem_of_getElem? (i := 129) rfl)) rfl
theorem kf_X8_29 : Cond.fieldLink "CardBecomeModel" 29 "CardBecomeModel" "readRank" "[I" ∈ cb_gt := cb_in (cb_t4 (List.mem_of_getElem? (i := 130) rfl)) rfl
theorem kf_X8_32 : Cond.fieldLink "CardBecomeModel" 32 "CardBecomeModel" "readSuit" "[I" ∈ cb_gt := cb_in (cb_t4 (List.mem_of_getElem? (i := 131) rfl)) rfl
theorem kf_X8_131 : Cond.fieldLink "CardBecomeModel" 131 "CardBecomeModel" "readPersons" "I" ∈ cb_gt := cb_in (cb_t4 (List.mem_of_getElem? (i := 132) rfl)) rfl
theorem kf_X8_167 : Cond.fieldLink "CardBecomeModel" 167 "CardBecomeModel" "undos" "I" ∈ cb_gt := cb_in (cb_t4 (List.mem_of_getElem? (i := 133) rfl)) rfl
theorem kf_X8_35 : Cond.fieldLink "CardBecomeModel" 35 "CardBecomeModel" "past" "[I" ∈ cb_gt := cb_in (cb_t4 (List.mem_of_getElem? (i := 134) rfl)) rfl
theorem kf_X8_38 : Cond.fieldLink "CardBecomeModel" 38 "CardBecomeModel" "shuffled" "[I" ∈ cb_gt := cb_in (cb_t4 (List.mem_of_getElem? (i := 135) rfl)) rfl
theorem kf_X8_41 : Cond.fieldLink "CardBecomeModel" 41 "CardBecomeModel" "becomes" "[I" ∈ cb_gt := cb_in (cb_t4 (List.mem_of_getElem? (i := 136) rfl)) rfl
theorem kf_X8_44 : Cond.fieldLink "CardBecomeModel" 44 "CardBecomeModel" "away" "[I" ∈ cb_gt := cb_in (cb_t4 (List.mem_of_getElem? (i := 137) rfl)) rfl
theorem kf_X8_47 : Cond.fieldLink "CardBecomeModel" 47 "CardBecomeModel" "parts" "[I" ∈ cb_gt := cb_in (cb_t4 (List.mem_of_getElem? (i := 138) rfl)) rfl
theorem kf_X8_161 : Cond.fieldLink "CardBecomeModel" 161 "CardBecomeModel" "seen" "I" ∈ cb_gt := cb_in (cb_t4 (List.mem_of_getElem? (i := 139) rfl)) rfl
theorem kf_X8_50 : Cond.fieldLink "CardBecomeModel" 50 "CardBecomeModel" "seenOne" "[I" ∈ cb_gt := cb_in (cb_t4 (List.mem_of_getElem? (i := 140) rfl)) rfl
theorem kf_X8_53 : Cond.fieldLink "CardBecomeModel" 53 "CardBecomeModel" "seenOther" "[I" ∈ cb_gt := cb_in (cb_t4 (List.mem_of_getElem? (i := 141) rfl)) rfl
theorem kf_X8_56 : Cond.fieldLink "CardBecomeModel" 56 "CardBecomeModel" "seenWho" "[I" ∈ cb_gt := cb_in (cb_t4 (List.mem_of_getElem? (i := 142) rfl)) rfl
theorem kf_X8_59 : Cond.fieldLink "CardBecomeModel" 59 "CardBecomeModel" "dealt" "[I" ∈ cb_gt := cb_in (cb_t4 (List.mem_of_getElem? (i := 143) rfl)) rfl
theorem kf_X8_306 : Cond.fieldLink "CardBecomeModel" 306 "CardBecomeModel" "dealtTo" "I" ∈ cb_gt := cb_in (cb_t4 (List.mem_of_getElem? (i := 144) rfl)) rfl
theorem kf_X8_303 : Cond.fieldLink "CardBecomeModel" 303 "CardBecomeModel" "dealtOf" "I" ∈ cb_gt := cb_in (cb_t4 (List.mem_of_getElem? (i := 145) rfl)) rfl
theorem kf_X8_164 : Cond.fieldLink "CardBecomeModel" 164 "CardBecomeModel" "booked" "I" ∈ cb_gt := cb_in (cb_t4 (List.mem_of_getElem? (i := 146) rfl)) rfl
theorem kf_X8_62 : Cond.fieldLink "CardBecomeModel" 62 "CardBecomeModel" "bookOf" "[I" ∈ cb_gt := cb_in (cb_t4 (List.mem_of_getElem? (i := 147) rfl)) rfl
theorem kf_X8_65 : Cond.fieldLink "CardBecomeModel" 65 "CardBecomeModel" "bookIs" "[I" ∈ cb_gt := cb_in (cb_t4 (List.mem_of_getElem? (i := 148) rfl)) rfl
theorem kf_X8_68 : Cond.fieldLink "CardBecomeModel" 68 "CardBecomeModel" "images" "[I" ∈ cb_gt := cb_in (cb_t4 (List.mem_of_getElem? (i := 149) rfl)) rfl
theorem kf_X8_71 : Cond.fieldLink "CardBecomeModel" 71 "CardBecomeModel" "isKept" "[Z" ∈ cb_gt := cb_in (cb_t4 (List.mem_of_getElem? (i := 150) rfl)) rfl
theorem ml_L_9 : Cond.methodLink "CardBecomeLaw" 9 yX7_init ∈ cb_gt := cb_in (cb_t1 (List.mem_of_getElem? (i := 16) rfl)) rfl
theorem ml_X7_1 : Cond.methodLink "CardBecome" 1 objectInit ∈ cb_gt := cb_in (cb_t1 (List.mem_of_getElem? (i := 19) rfl)) rfl
theorem ml_X5_3 : Cond.methodLink "CardBecome$Reader" 3 objectInit ∈ cb_gt := cb_in (cb_t1 (List.mem_of_getElem? (i := 27) rfl)) rfl
theorem ml_X6_3 : Cond.methodLink "CardBecome$Table" 3 objectInit ∈ cb_gt := cb_in (cb_t1 (List.mem_of_getElem? (i := 33) rfl)) rfl
theorem ml_X7_32 : Cond.methodLink "CardBecome" 32 yX4_init ∈ cb_gt := cb_in (cb_t1 (List.mem_of_getElem? (i := 106) rfl)) rfl
theorem ml_X4_3 : Cond.methodLink "CardBecome$Play" 3 objectInit ∈ cb_gt := cb_in (cb_t1 (List.mem_of_getElem? (i := 109) rfl)) rfl
theorem ml_X4_24 : Cond.methodLink "CardBecome$Play" 24 yJ7_fill_53178 ∈ cb_gt := cb_in (cb_t1 (List.mem_of_getElem? (i := 110) rfl)) rfl
theorem ml_X7_39 : Cond.methodLink "CardBecome" 39 yX3_init ∈ cb_gt := cb_in (cb_t1 (List.mem_of_getElem? (i := 141) rfl)) rfl
theorem ml_X3_3 : Cond.methodLink "CardBecome$Past" 3 objectInit ∈ cb_gt := cb_in (cb_t1 (List.mem_of_getElem? (i := 144) rfl)) rfl
theorem ml_X3_17 : Cond.methodLink "CardBecome$Past" 17 yX4_init ∈ cb_gt := cb_in (cb_t1 (List.mem_of_getElem? (i := 147) rfl)) rfl
theorem ml_X2_3 : Cond.methodLink "CardBecome$Papers" 3 objectInit ∈ cb_gt := cb_in (cb_t1 (List.mem_of_getElem? (i := 164) rfl)) rfl
theorem ml_X0_3 : Cond.methodLink "CardBecome$Deals" 3 objectInit ∈ cb_gt := cb_in (cb_t1 (List.mem_of_getElem? (i := 195) rfl)) rfl
theorem ml_X1_1 : Cond.methodLink "CardBecome$Image" 1 objectInit ∈ cb_gt := cb_in (cb_t1 (List.mem_of_getElem? (i := 225) rfl)) rfl
theorem ml_X1_9 : Cond.methodLink "CardBecome$Image" 9 yX4_init ∈ cb_gt := cb_in (cb_t1 (List.mem_of_getElem? (i := 227) rfl)) rfl
theorem ml_L_13 : Cond.methodLink "CardBecomeLaw" 13 yX7_feed ∈ cb_gt := cb_in (cb_t2 (List.mem_of_getElem? (i := 30) rfl)) rfl
theorem ml_X7_66 : Cond.methodLink "CardBecome" 66 yX5_add ∈ cb_gt := cb_in (cb_t2 (List.mem_of_getElem? (i := 35) rfl)) rfl
theorem ml_L_18 : Cond.methodLink "CardBecomeLaw" 18 yX7_table ∈ cb_gt := cb_in (cb_t2 (List.mem_of_getElem? (i := 40) rfl)) rfl
theorem ml_X7_75 : Cond.methodLink "CardBecome" 75 yX5_read ∈ cb_gt := cb_in (cb_t2 (List.mem_of_getElem? (i := 44) rfl)) rfl
theorem ml_X5_35 : Cond.methodLink "CardBecome$Reader" 35 yX6_clear ∈ cb_gt := cb_in (cb_t2 (List.mem_of_getElem? (i := 48) rfl)) rfl
theorem ml_X5_38 : Cond.methodLink "CardBecome$Reader" 38 yX5_skipBlanks ∈ cb_gt := cb_in (cb_t2 (List.mem_of_getElem? (i := 52) rfl)) rfl
theorem ml_X5_71 : Cond.methodLink "CardBecome$Reader" 71 yX5_letterAt ∈ cb_gt := cb_in (cb_t2 (List.mem_of_getElem? (i := 56) rfl)) rfl
theorem ml_X5_41 : Cond.methodLink "CardBecome$Reader" 41 yX5_readAll ∈ cb_gt := cb_in (cb_t2 (List.mem_of_getElem? (i := 60) rfl)) rfl
theorem ml_X5_48 : Cond.methodLink "CardBecome$Reader" 48 yX5_readRules ∈ cb_gt := cb_in (cb_t2 (List.mem_of_getElem? (i := 64) rfl)) rfl
theorem ml_X5_54 : Cond.methodLink "CardBecome$Reader" 54 yX5_takeWord ∈ cb_gt := cb_in (cb_t2 (List.mem_of_getElem? (i := 68) rfl)) rfl
theorem ml_X5_81 : Cond.methodLink "CardBecome$Reader" 81 yX5_fail ∈ cb_gt := cb_in (cb_t2 (List.mem_of_getElem? (i := 72) rfl)) rfl
theorem ml_X5_58 : Cond.methodLink "CardBecome$Reader" 58 yX5_number ∈ cb_gt := cb_in (cb_t2 (List.mem_of_getElem? (i := 76) rfl)) rfl
theorem ml_X5_101 : Cond.methodLink "CardBecome$Reader" 101 yX5_isFigure ∈ cb_gt := cb_in (cb_t2 (List.mem_of_getElem? (i := 80) rfl)) rfl
theorem ml_X5_51 : Cond.methodLink "CardBecome$Reader" 51 yX5_readClause ∈ cb_gt := cb_in (cb_t2 (List.mem_of_getElem? (i := 84) rfl)) rfl
theorem ml_X5_75 : Cond.methodLink "CardBecome$Reader" 75 yX5_readCard ∈ cb_gt := cb_in (cb_t2 (List.mem_of_getElem? (i := 88) rfl)) rfl
theorem ml_X5_88 : Cond.methodLink "CardBecome$Reader" 88 yX6_oneOfAll ∈ cb_gt := cb_in (cb_t2 (List.mem_of_getElem? (i := 92) rfl)) rfl
theorem ml_X5_91 : Cond.methodLink "CardBecome$Reader" 91 yX6_hasTold ∈ cb_gt := cb_in (cb_t2 (List.mem_of_getElem? (i := 95) rfl)) rfl
theorem ml_X5_95 : Cond.methodLink "CardBecome$Reader" 95 yX6_addCard ∈ cb_gt := cb_in (cb_t2 (List.mem_of_getElem? (i := 99) rfl)) rfl
theorem ml_X6_59 : Cond.methodLink "CardBecome$Table" 59 yX6_oneOfAll ∈ cb_gt := cb_in (cb_t2 (List.mem_of_getElem? (i := 103) rfl)) rfl
theorem ml_X5_78 : Cond.methodLink "CardBecome$Reader" 78 yX5_readPerson ∈ cb_gt := cb_in (cb_t2 (List.mem_of_getElem? (i := 104) rfl)) rfl
theorem ml_X7_84 : Cond.methodLink "CardBecome" 84 yX6_become ∈ cb_gt := cb_in (cb_t2 (List.mem_of_getElem? (i := 108) rfl)) rfl
theorem ml_X6_45 : Cond.methodLink "CardBecome$Table" 45 arraycopyName ∈ cb_gt := cb_in (cb_t2 (List.mem_of_getElem? (i := 112) rfl)) rfl
theorem ml_X6_51 : Cond.methodLink "CardBecome$Table" 51 yX6_allBeatenBy ∈ cb_gt := cb_in (cb_t2 (List.mem_of_getElem? (i := 115) rfl)) rfl
theorem ml_X6_55 : Cond.methodLink "CardBecome$Table" 55 yX6_byTrump ∈ cb_gt := cb_in (cb_t2 (List.mem_of_getElem? (i := 119) rfl)) rfl
theorem ml_X6_71 : Cond.methodLink "CardBecome$Table" 71 yX6_suitOf ∈ cb_gt := cb_in (cb_t2 (List.mem_of_getElem? (i := 123) rfl)) rfl
theorem ml_X6_74 : Cond.methodLink "CardBecome$Table" 74 yX6_rankOf ∈ cb_gt := cb_in (cb_t2 (List.mem_of_getElem? (i := 127) rfl)) rfl
theorem ml_X7_91 : Cond.methodLink "CardBecome" 91 yX4_begin ∈ cb_gt := cb_in (cb_t2 (List.mem_of_getElem? (i := 131) rfl)) rfl
theorem ml_X4_30 : Cond.methodLink "CardBecome$Play" 30 yJ9_min_7cf53 ∈ cb_gt := cb_in (cb_t2 (List.mem_of_getElem? (i := 135) rfl)) rfl
theorem ml_X7_95 : Cond.methodLink "CardBecome" 95 yX2_empty ∈ cb_gt := cb_in (cb_t2 (List.mem_of_getElem? (i := 138) rfl)) rfl
theorem ml_X7_98 : Cond.methodLink "CardBecome" 98 yX3_forget ∈ cb_gt := cb_in (cb_t2 (List.mem_of_getElem? (i := 142) rfl)) rfl
theorem ml_L_23 : Cond.methodLink "CardBecomeLaw" 23 yX7_fault ∈ cb_gt := cb_in (cb_t2 (List.mem_of_getElem? (i := 146) rfl)) rfl
theorem ml_L_27 : Cond.methodLink "CardBecomeLaw" 27 yX7_told ∈ cb_gt := cb_in (cb_t2 (List.mem_of_getElem? (i := 150) rfl)) rfl
theorem ml_X7_126 : Cond.methodLink "CardBecome" 126 yX4_holders ∈ cb_gt := cb_in (cb_t2 (List.mem_of_getElem? (i := 154) rfl)) rfl
theorem ml_X7_130 : Cond.methodLink "CardBecome" 130 yX7_ruler ∈ cb_gt := cb_in (cb_t2 (List.mem_of_getElem? (i := 158) rfl)) rfl
theorem ml_X7_176 : Cond.methodLink "CardBecome" 176 yX7_beatenBy ∈ cb_gt := cb_in (cb_t2 (List.mem_of_getElem? (i := 162) rfl)) rfl
theorem ml_X7_273 : Cond.methodLink "CardBecome" 273 yX7_winsOver ∈ cb_gt := cb_in (cb_t2 (List.mem_of_getElem? (i := 166) rfl)) rfl
theorem ml_X7_170 : Cond.methodLink "CardBecome" 170 yX4_cardOf ∈ cb_gt := cb_in (cb_t2 (List.mem_of_getElem? (i := 170) rfl)) rfl
theorem ml_X4_52 : Cond.methodLink "CardBecome$Play" 52 yX4_isPerson ∈ cb_gt := cb_in (cb_t2 (List.mem_of_getElem? (i := 174) rfl)) rfl
theorem ml_X7_239 : Cond.methodLink "CardBecome" 239 yX6_between ∈ cb_gt := cb_in (cb_t2 (List.mem_of_getElem? (i := 177) rfl)) rfl
theorem ml_X6_67 : Cond.methodLink "CardBecome$Table" 67 yX6_isBeaten ∈ cb_gt := cb_in (cb_t2 (List.mem_of_getElem? (i := 181) rfl)) rfl
theorem ml_X7_264 : Cond.methodLink "CardBecome" 264 yJ6_bitCount_0f7a4 ∈ cb_gt := cb_in (cb_t2 (List.mem_of_getElem? (i := 185) rfl)) rfl
theorem ml_X7_136 : Cond.methodLink "CardBecome" 136 yX7_heldRules ∈ cb_gt := cb_in (cb_t2 (List.mem_of_getElem? (i := 191) rfl)) rfl
theorem ml_X7_344 : Cond.methodLink "CardBecome" 344 yX7_fitsLog ∈ cb_gt := cb_in (cb_t2 (List.mem_of_getElem? (i := 195) rfl)) rfl
theorem ml_X7_179 : Cond.methodLink "CardBecome" 179 yX4_entry ∈ cb_gt := cb_in (cb_t2 (List.mem_of_getElem? (i := 199) rfl)) rfl
theorem ml_X7_347 : Cond.methodLink "CardBecome" 347 yX4_firstCardIn ∈ cb_gt := cb_in (cb_t2 (List.mem_of_getElem? (i := 203) rfl)) rfl
theorem ml_X7_350 : Cond.methodLink "CardBecome" 350 yX4_secondCardIn ∈ cb_gt := cb_in (cb_t2 (List.mem_of_getElem? (i := 206) rfl)) rfl
theorem ml_X7_353 : Cond.methodLink "CardBecome" 353 yX6_byRule ∈ cb_gt := cb_in (cb_t2 (List.mem_of_getElem? (i := 209) rfl)) rfl
theorem ml_X7_188 : Cond.methodLink "CardBecome" 188 yX4_outcomeIn ∈ cb_gt := cb_in (cb_t2 (List.mem_of_getElem? (i := 213) rfl)) rfl
theorem ml_L_31 : Cond.methodLink "CardBecomeLaw" 31 yX7_card ∈ cb_gt := cb_in (cb_t2 (List.mem_of_getElem? (i := 216) rfl)) rfl
theorem ml_X7_147 : Cond.methodLink "CardBecome" 147 yX6_hasCard ∈ cb_gt := cb_in (cb_t2 (List.mem_of_getElem? (i := 220) rfl)) rfl
theorem ml_X7_151 : Cond.methodLink "CardBecome" 151 yX6_rankOf ∈ cb_gt := cb_in (cb_t2 (List.mem_of_getElem? (i := 225) rfl)) rfl
theorem ml_X7_155 : Cond.methodLink "CardBecome" 155 yX6_suitOf ∈ cb_gt := cb_in (cb_t2 (List.mem_of_getElem? (i := 226) rfl)) rfl
theorem ml_X7_158 : Cond.methodLink "CardBecome" 158 yX4_placeOf ∈ cb_gt := cb_in (cb_t2 (List.mem_of_getElem? (i := 227) rfl)) rfl
theorem ml_X4_56 : Cond.methodLink "CardBecome$Play" 56 yX4_cardAt ∈ cb_gt := cb_in (cb_t2 (List.mem_of_getElem? (i := 231) rfl)) rfl
theorem ml_X7_161 : Cond.methodLink "CardBecome" 161 yX4_holderOf ∈ cb_gt := cb_in (cb_t2 (List.mem_of_getElem? (i := 235) rfl)) rfl
theorem ml_L_36 : Cond.methodLink "CardBecomeLaw" 36 yX7_pack ∈ cb_gt := cb_in (cb_t2 (List.mem_of_getElem? (i := 239) rfl)) rfl
theorem ml_X7_164 : Cond.methodLink "CardBecome" 164 yX4_cardAt ∈ cb_gt := cb_in (cb_t3 (List.mem_of_getElem? (i := 3) rfl)) rfl
theorem ml_L_40 : Cond.methodLink "CardBecomeLaw" 40 yX7_person ∈ cb_gt := cb_in (cb_t3 (List.mem_of_getElem? (i := 4) rfl)) rfl
theorem ml_X7_167 : Cond.methodLink "CardBecome" 167 yX6_hasPerson ∈ cb_gt := cb_in (cb_t3 (List.mem_of_getElem? (i := 8) rfl)) rfl
theorem ml_X7_173 : Cond.methodLink "CardBecome" 173 yX4_winsOf ∈ cb_gt := cb_in (cb_t3 (List.mem_of_getElem? (i := 12) rfl)) rfl
theorem ml_L_44 : Cond.methodLink "CardBecomeLaw" 44 yX7_logged ∈ cb_gt := cb_in (cb_t3 (List.mem_of_getElem? (i := 16) rfl)) rfl
theorem ml_X7_182 : Cond.methodLink "CardBecome" 182 yX4_firstIn ∈ cb_gt := cb_in (cb_t3 (List.mem_of_getElem? (i := 20) rfl)) rfl
theorem ml_X7_185 : Cond.methodLink "CardBecome" 185 yX4_secondIn ∈ cb_gt := cb_in (cb_t3 (List.mem_of_getElem? (i := 23) rfl)) rfl
theorem ml_X7_191 : Cond.methodLink "CardBecome" 191 yX7_winner ∈ cb_gt := cb_in (cb_t3 (List.mem_of_getElem? (i := 26) rfl)) rfl
theorem ml_L_48 : Cond.methodLink "CardBecomeLaw" 48 yX7_drawOne ∈ cb_gt := cb_in (cb_t3 (List.mem_of_getElem? (i := 29) rfl)) rfl
theorem ml_X7_195 : Cond.methodLink "CardBecome" 195 yX4_canDraw ∈ cb_gt := cb_in (cb_t3 (List.mem_of_getElem? (i := 33) rfl)) rfl
theorem ml_X7_199 : Cond.methodLink "CardBecome" 199 yX3_push ∈ cb_gt := cb_in (cb_t3 (List.mem_of_getElem? (i := 38) rfl)) rfl
theorem ml_X3_25 : Cond.methodLink "CardBecome$Past" 25 yJ9_floorMod_7cf53 ∈ cb_gt := cb_in (cb_t3 (List.mem_of_getElem? (i := 42) rfl)) rfl
theorem ml_X3_31 : Cond.methodLink "CardBecome$Past" 31 yX4_become ∈ cb_gt := cb_in (cb_t3 (List.mem_of_getElem? (i := 45) rfl)) rfl
theorem ml_X4_46 : Cond.methodLink "CardBecome$Play" 46 arraycopyName ∈ cb_gt := cb_in (cb_t3 (List.mem_of_getElem? (i := 49) rfl)) rfl
theorem ml_X3_35 : Cond.methodLink "CardBecome$Past" 35 yJ9_min_7cf53 ∈ cb_gt := cb_in (cb_t3 (List.mem_of_getElem? (i := 50) rfl)) rfl
theorem ml_X7_203 : Cond.methodLink "CardBecome" 203 yX4_draw ∈ cb_gt := cb_in (cb_t3 (List.mem_of_getElem? (i := 51) rfl)) rfl
theorem ml_X4_60 : Cond.methodLink "CardBecome$Play" 60 yX4_canDraw ∈ cb_gt := cb_in (cb_t3 (List.mem_of_getElem? (i := 55) rfl)) rfl
theorem ml_L_52 : Cond.methodLink "CardBecomeLaw" 52 yX7_getBack ∈ cb_gt := cb_in (cb_t3 (List.mem_of_getElem? (i := 56) rfl)) rfl
theorem ml_X7_206 : Cond.methodLink "CardBecome" 206 yX4_giveBack ∈ cb_gt := cb_in (cb_t3 (List.mem_of_getElem? (i := 60) rfl)) rfl
theorem ml_X4_63 : Cond.methodLink "CardBecome$Play" 63 yX4_layDown ∈ cb_gt := cb_in (cb_t3 (List.mem_of_getElem? (i := 64) rfl)) rfl
theorem ml_X4_74 : Cond.methodLink "CardBecome$Play" 74 yX4_cardOf ∈ cb_gt := cb_in (cb_t3 (List.mem_of_getElem? (i := 68) rfl)) rfl
theorem ml_X4_66 : Cond.methodLink "CardBecome$Play" 66 yX4_putBelow ∈ cb_gt := cb_in (cb_t3 (List.mem_of_getElem? (i := 69) rfl)) rfl
theorem ml_L_56 : Cond.methodLink "CardBecomeLaw" 56 yX7_meet ∈ cb_gt := cb_in (cb_t3 (List.mem_of_getElem? (i := 73) rfl)) rfl
theorem ml_X7_209 : Cond.methodLink "CardBecome" 209 yX6_hasTwoPersons ∈ cb_gt := cb_in (cb_t3 (List.mem_of_getElem? (i := 77) rfl)) rfl
theorem ml_X6_63 : Cond.methodLink "CardBecome$Table" 63 yX6_hasPerson ∈ cb_gt := cb_in (cb_t3 (List.mem_of_getElem? (i := 81) rfl)) rfl
theorem ml_X7_213 : Cond.methodLink "CardBecome" 213 yX7_letMeet ∈ cb_gt := cb_in (cb_t3 (List.mem_of_getElem? (i := 82) rfl)) rfl
theorem ml_X7_313 : Cond.methodLink "CardBecome" 313 yX4_noteMeeting ∈ cb_gt := cb_in (cb_t3 (List.mem_of_getElem? (i := 86) rfl)) rfl
theorem ml_X4_77 : Cond.methodLink "CardBecome$Play" 77 yX4_countWin ∈ cb_gt := cb_in (cb_t3 (List.mem_of_getElem? (i := 90) rfl)) rfl
theorem ml_L_60 : Cond.methodLink "CardBecomeLaw" 60 yX7_force ∈ cb_gt := cb_in (cb_t3 (List.mem_of_getElem? (i := 95) rfl)) rfl
theorem ml_X7_217 : Cond.methodLink "CardBecome" 217 yX4_raise ∈ cb_gt := cb_in (cb_t3 (List.mem_of_getElem? (i := 99) rfl)) rfl
theorem ml_L_64 : Cond.methodLink "CardBecomeLaw" 64 yX7_shuffle ∈ cb_gt := cb_in (cb_t3 (List.mem_of_getElem? (i := 103) rfl)) rfl
theorem ml_X7_223 : Cond.methodLink "CardBecome" 223 yX4_mix ∈ cb_gt := cb_in (cb_t3 (List.mem_of_getElem? (i := 107) rfl)) rfl
theorem ml_L_68 : Cond.methodLink "CardBecomeLaw" 68 yX7_drawer ∈ cb_gt := cb_in (cb_t3 (List.mem_of_getElem? (i := 114) rfl)) rfl
theorem ml_X7_227 : Cond.methodLink "CardBecome" 227 yX4_putAway ∈ cb_gt := cb_in (cb_t3 (List.mem_of_getElem? (i := 118) rfl)) rfl
theorem ml_L_72 : Cond.methodLink "CardBecomeLaw" 72 yX7_out ∈ cb_gt := cb_in (cb_t3 (List.mem_of_getElem? (i := 122) rfl)) rfl
theorem ml_X7_230 : Cond.methodLink "CardBecome" 230 yX4_takeOut ∈ cb_gt := cb_in (cb_t3 (List.mem_of_getElem? (i := 126) rfl)) rfl
theorem ml_L_76 : Cond.methodLink "CardBecomeLaw" 76 yX7_drift ∈ cb_gt := cb_in (cb_t3 (List.mem_of_getElem? (i := 130) rfl)) rfl
theorem ml_X7_233 : Cond.methodLink "CardBecome" 233 yX7_driftOnce ∈ cb_gt := cb_in (cb_t3 (List.mem_of_getElem? (i := 134) rfl)) rfl
theorem ml_X7_320 : Cond.methodLink "CardBecome" 320 yX7_nextDraw ∈ cb_gt := cb_in (cb_t3 (List.mem_of_getElem? (i := 138) rfl)) rfl
theorem ml_L_80 : Cond.methodLink "CardBecomeLaw" 80 yX7_undo ∈ cb_gt := cb_in (cb_t3 (List.mem_of_getElem? (i := 145) rfl)) rfl
theorem ml_X7_236 : Cond.methodLink "CardBecome" 236 yX3_pop ∈ cb_gt := cb_in (cb_t3 (List.mem_of_getElem? (i := 149) rfl)) rfl
theorem ml_L_84 : Cond.methodLink "CardBecomeLaw" 84 yX7_beats ∈ cb_gt := cb_in (cb_t3 (List.mem_of_getElem? (i := 153) rfl)) rfl
theorem ml_L_88 : Cond.methodLink "CardBecomeLaw" 88 yX7_rings ∈ cb_gt := cb_in (cb_t3 (List.mem_of_getElem? (i := 157) rfl)) rfl
theorem ml_X7_242 : Cond.methodLink "CardBecome" 242 yX7_isRing ∈ cb_gt := cb_in (cb_t3 (List.mem_of_getElem? (i := 161) rfl)) rfl
theorem ml_L_92 : Cond.methodLink "CardBecomeLaw" 92 yX7_order ∈ cb_gt := cb_in (cb_t3 (List.mem_of_getElem? (i := 165) rfl)) rfl
theorem ml_X7_246 : Cond.methodLink "CardBecome" 246 yJ9_min_7cf53 ∈ cb_gt := cb_in (cb_t3 (List.mem_of_getElem? (i := 169) rfl)) rfl
theorem ml_X7_251 : Cond.methodLink "CardBecome" 251 yX7_orderFrom ∈ cb_gt := cb_in (cb_t3 (List.mem_of_getElem? (i := 170) rfl)) rfl
theorem ml_X7_323 : Cond.methodLink "CardBecome" 323 yX7_setWins ∈ cb_gt := cb_in (cb_t3 (List.mem_of_getElem? (i := 174) rfl)) rfl
theorem ml_X7_329 : Cond.methodLink "CardBecome" 329 yX7_wouldBe ∈ cb_gt := cb_in (cb_t3 (List.mem_of_getElem? (i := 178) rfl)) rfl
theorem ml_X7_326 : Cond.methodLink "CardBecome" 326 yX7_isNoHindrance ∈ cb_gt := cb_in (cb_t3 (List.mem_of_getElem? (i := 182) rfl)) rfl
theorem ml_L_96 : Cond.methodLink "CardBecomeLaw" 96 yX7_row ∈ cb_gt := cb_in (cb_t3 (List.mem_of_getElem? (i := 186) rfl)) rfl
theorem ml_X7_255 : Cond.methodLink "CardBecome" 255 yX7_countSteps ∈ cb_gt := cb_in (cb_t3 (List.mem_of_getElem? (i := 190) rfl)) rfl
theorem ml_X7_332 : Cond.methodLink "CardBecome" 332 yJ7_fill_53178 ∈ cb_gt := cb_in (cb_t3 (List.mem_of_getElem? (i := 194) rfl)) rfl
theorem ml_X7_258 : Cond.methodLink "CardBecome" 258 yX7_stepsFrom ∈ cb_gt := cb_in (cb_t3 (List.mem_of_getElem? (i := 195) rfl)) rfl
theorem ml_X7_338 : Cond.methodLink "CardBecome" 338 yX7_stepTo ∈ cb_gt := cb_in (cb_t3 (List.mem_of_getElem? (i := 199) rfl)) rfl
theorem ml_X7_341 : Cond.methodLink "CardBecome" 341 yX7_placeAfter ∈ cb_gt := cb_in (cb_t3 (List.mem_of_getElem? (i := 203) rfl)) rfl
theorem ml_X7_261 : Cond.methodLink "CardBecome" 261 yX7_firstStep ∈ cb_gt := cb_in (cb_t3 (List.mem_of_getElem? (i := 204) rfl)) rfl
theorem ml_L_101 : Cond.methodLink "CardBecomeLaw" 101 yX7_tells ∈ cb_gt := cb_in (cb_t3 (List.mem_of_getElem? (i := 208) rfl)) rfl
theorem ml_X7_269 : Cond.methodLink "CardBecome" 269 yX7_greatestPart ∈ cb_gt := cb_in (cb_t3 (List.mem_of_getElem? (i := 212) rfl)) rfl
theorem ml_X7_356 : Cond.methodLink "CardBecome" 356 yJ9_max_7cf53 ∈ cb_gt := cb_in (cb_t3 (List.mem_of_getElem? (i := 216) rfl)) rfl
theorem ml_L_105 : Cond.methodLink "CardBecomeLaw" 105 yX7_odds ∈ cb_gt := cb_in (cb_t3 (List.mem_of_getElem? (i := 219) rfl)) rfl
theorem ml_L_109 : Cond.methodLink "CardBecomeLaw" 109 yX7_back ∈ cb_gt := cb_in (cb_t3 (List.mem_of_getElem? (i := 224) rfl)) rfl
theorem ml_L_113 : Cond.methodLink "CardBecomeLaw" 113 yX7_missing ∈ cb_gt := cb_in (cb_t3 (List.mem_of_getElem? (i := 228) rfl)) rfl
theorem ml_X7_276 : Cond.methodLink "CardBecome" 276 yX6_hasTold ∈ cb_gt := cb_in (cb_t3 (List.mem_of_getElem? (i := 232) rfl)) rfl
theorem ml_L_117 : Cond.methodLink "CardBecomeLaw" 117 yX7_wanted ∈ cb_gt := cb_in (cb_t3 (List.mem_of_getElem? (i := 233) rfl)) rfl
theorem ml_L_121 : Cond.methodLink "CardBecomeLaw" 121 yX7_see ∈ cb_gt := cb_in (cb_t3 (List.mem_of_getElem? (i := 237) rfl)) rfl
theorem ml_X7_279 : Cond.methodLink "CardBecome" 279 yX2_addSeen ∈ cb_gt := cb_in (cb_t4 (List.mem_of_getElem? (i := 1) rfl)) rfl
theorem ml_L_125 : Cond.methodLink "CardBecomeLaw" 125 yX7_deals ∈ cb_gt := cb_in (cb_t4 (List.mem_of_getElem? (i := 5) rfl)) rfl
theorem ml_X7_282 : Cond.methodLink "CardBecome" 282 yX0_lay ∈ cb_gt := cb_in (cb_t4 (List.mem_of_getElem? (i := 9) rfl)) rfl
theorem ml_X0_30 : Cond.methodLink "CardBecome$Deals" 30 yJ9_min_7cf53 ∈ cb_gt := cb_in (cb_t4 (List.mem_of_getElem? (i := 13) rfl)) rfl
theorem ml_X0_47 : Cond.methodLink "CardBecome$Deals" 47 yX4_cardAt ∈ cb_gt := cb_in (cb_t4 (List.mem_of_getElem? (i := 14) rfl)) rfl
theorem ml_X0_54 : Cond.methodLink "CardBecome$Deals" 54 yJ7_fill_53178 ∈ cb_gt := cb_in (cb_t4 (List.mem_of_getElem? (i := 15) rfl)) rfl
theorem ml_X0_60 : Cond.methodLink "CardBecome$Deals" 60 yX0_layFrom ∈ cb_gt := cb_in (cb_t4 (List.mem_of_getElem? (i := 16) rfl)) rfl
theorem ml_X0_67 : Cond.methodLink "CardBecome$Deals" 67 yX0_isAsSeen ∈ cb_gt := cb_in (cb_t4 (List.mem_of_getElem? (i := 20) rfl)) rfl
theorem ml_X0_80 : Cond.methodLink "CardBecome$Deals" 80 yX2_firstSeen ∈ cb_gt := cb_in (cb_t4 (List.mem_of_getElem? (i := 24) rfl)) rfl
theorem ml_X2_34 : Cond.methodLink "CardBecome$Papers" 34 yX2_entry ∈ cb_gt := cb_in (cb_t4 (List.mem_of_getElem? (i := 28) rfl)) rfl
theorem ml_X0_83 : Cond.methodLink "CardBecome$Deals" 83 yX0_cardBefore ∈ cb_gt := cb_in (cb_t4 (List.mem_of_getElem? (i := 31) rfl)) rfl
theorem ml_X0_86 : Cond.methodLink "CardBecome$Deals" 86 yX2_secondSeen ∈ cb_gt := cb_in (cb_t4 (List.mem_of_getElem? (i := 35) rfl)) rfl
theorem ml_X0_89 : Cond.methodLink "CardBecome$Deals" 89 yX6_between ∈ cb_gt := cb_in (cb_t4 (List.mem_of_getElem? (i := 39) rfl)) rfl
theorem ml_X0_92 : Cond.methodLink "CardBecome$Deals" 92 yX2_whoSeen ∈ cb_gt := cb_in (cb_t4 (List.mem_of_getElem? (i := 40) rfl)) rfl
theorem ml_X0_71 : Cond.methodLink "CardBecome$Deals" 71 yX0_countThis ∈ cb_gt := cb_in (cb_t4 (List.mem_of_getElem? (i := 44) rfl)) rfl
theorem ml_X0_95 : Cond.methodLink "CardBecome$Deals" 95 yX0_partOf ∈ cb_gt := cb_in (cb_t4 (List.mem_of_getElem? (i := 48) rfl)) rfl
theorem ml_X7_289 : Cond.methodLink "CardBecome" 289 yX0_sureOf ∈ cb_gt := cb_in (cb_t4 (List.mem_of_getElem? (i := 51) rfl)) rfl
theorem ml_L_129 : Cond.methodLink "CardBecomeLaw" 129 yX7_ask ∈ cb_gt := cb_in (cb_t4 (List.mem_of_getElem? (i := 55) rfl)) rfl
theorem ml_X7_292 : Cond.methodLink "CardBecome" 292 yX0_bestPair ∈ cb_gt := cb_in (cb_t4 (List.mem_of_getElem? (i := 59) rfl)) rfl
theorem ml_X0_64 : Cond.methodLink "CardBecome$Deals" 64 yX0_greatest ∈ cb_gt := cb_in (cb_t4 (List.mem_of_getElem? (i := 63) rfl)) rfl
theorem ml_X0_99 : Cond.methodLink "CardBecome$Deals" 99 yJ9_max_7cf53 ∈ cb_gt := cb_in (cb_t4 (List.mem_of_getElem? (i := 67) rfl)) rfl
theorem ml_L_133 : Cond.methodLink "CardBecomeLaw" 133 yX7_write ∈ cb_gt := cb_in (cb_t4 (List.mem_of_getElem? (i := 68) rfl)) rfl
theorem ml_X7_295 : Cond.methodLink "CardBecome" 295 yX2_addWritten ∈ cb_gt := cb_in (cb_t4 (List.mem_of_getElem? (i := 72) rfl)) rfl
theorem ml_L_137 : Cond.methodLink "CardBecomeLaw" 137 yX7_tear ∈ cb_gt := cb_in (cb_t4 (List.mem_of_getElem? (i := 76) rfl)) rfl
theorem ml_L_141 : Cond.methodLink "CardBecomeLaw" 141 yX7_judge ∈ cb_gt := cb_in (cb_t4 (List.mem_of_getElem? (i := 80) rfl)) rfl
theorem ml_X7_298 : Cond.methodLink "CardBecome" 298 yX2_writtenPerson ∈ cb_gt := cb_in (cb_t4 (List.mem_of_getElem? (i := 84) rfl)) rfl
theorem ml_X7_301 : Cond.methodLink "CardBecome" 301 yX2_writtenCard ∈ cb_gt := cb_in (cb_t4 (List.mem_of_getElem? (i := 88) rfl)) rfl
theorem ml_L_145 : Cond.methodLink "CardBecomeLaw" 145 yX7_seed ∈ cb_gt := cb_in (cb_t4 (List.mem_of_getElem? (i := 92) rfl)) rfl
theorem ml_L_149 : Cond.methodLink "CardBecomeLaw" 149 yX7_keep ∈ cb_gt := cb_in (cb_t4 (List.mem_of_getElem? (i := 96) rfl)) rfl
theorem ml_X7_310 : Cond.methodLink "CardBecome" 310 yX4_become ∈ cb_gt := cb_in (cb_t4 (List.mem_of_getElem? (i := 100) rfl)) rfl
theorem ml_L_153 : Cond.methodLink "CardBecomeLaw" 153 yX7_goBack ∈ cb_gt := cb_in (cb_t4 (List.mem_of_getElem? (i := 101) rfl)) rfl
theorem ml_L_12 : Cond.methodLink "CardBecomeLaw" 12 yX8_init ∈ cb_gt := cb_in (cb_t4 (List.mem_of_getElem? (i := 107) rfl)) rfl
theorem ml_X8_1 : Cond.methodLink "CardBecomeModel" 1 objectInit ∈ cb_gt := cb_in (cb_t4 (List.mem_of_getElem? (i := 110) rfl)) rfl
theorem ml_L_17 : Cond.methodLink "CardBecomeLaw" 17 yX8_feed ∈ cb_gt := cb_in (cb_t4 (List.mem_of_getElem? (i := 233) rfl)) rfl
theorem ml_X8_78 : Cond.methodLink "CardBecomeModel" 78 yX8_in ∈ cb_gt := cb_in (cb_t4 (List.mem_of_getElem? (i := 238) rfl)) rfl
theorem ml_L_22 : Cond.methodLink "CardBecomeLaw" 22 yX8_table ∈ cb_gt := cb_in (cb_t5 (List.mem_of_getElem? (i := 3) rfl)) rfl
theorem ml_X8_99 : Cond.methodLink "CardBecomeModel" 99 yX8_here ∈ cb_gt := cb_in (cb_t5 (List.mem_of_getElem? (i := 7) rfl)) rfl
theorem ml_X8_155 : Cond.methodLink "CardBecomeModel" 155 yX8_takeClause ∈ cb_gt := cb_in (cb_t5 (List.mem_of_getElem? (i := 11) rfl)) rfl
theorem ml_X8_107 : Cond.methodLink "CardBecomeModel" 107 yX8_fails ∈ cb_gt := cb_in (cb_t5 (List.mem_of_getElem? (i := 15) rfl)) rfl
theorem ml_X8_134 : Cond.methodLink "CardBecomeModel" 134 yX8_takeRules ∈ cb_gt := cb_in (cb_t5 (List.mem_of_getElem? (i := 19) rfl)) rfl
theorem ml_X8_124 : Cond.methodLink "CardBecomeModel" 124 yX8_into ∈ cb_gt := cb_in (cb_t5 (List.mem_of_getElem? (i := 23) rfl)) rfl
theorem ml_X8_117 : Cond.methodLink "CardBecomeModel" 117 yX8_takeNumber ∈ cb_gt := cb_in (cb_t5 (List.mem_of_getElem? (i := 27) rfl)) rfl
theorem ml_X8_137 : Cond.methodLink "CardBecomeModel" 137 yX8_takeCard ∈ cb_gt := cb_in (cb_t5 (List.mem_of_getElem? (i := 33) rfl)) rfl
theorem ml_X8_140 : Cond.methodLink "CardBecomeModel" 140 yX8_takePerson ∈ cb_gt := cb_in (cb_t5 (List.mem_of_getElem? (i := 37) rfl)) rfl
theorem ml_X8_158 : Cond.methodLink "CardBecomeModel" 158 yX8_takeRead ∈ cb_gt := cb_in (cb_t5 (List.mem_of_getElem? (i := 41) rfl)) rfl
theorem ml_L_26 : Cond.methodLink "CardBecomeLaw" 26 yX8_fault ∈ cb_gt := cb_in (cb_t5 (List.mem_of_getElem? (i := 45) rfl)) rfl
theorem ml_L_30 : Cond.methodLink "CardBecomeLaw" 30 yX8_told ∈ cb_gt := cb_in (cb_t5 (List.mem_of_getElem? (i := 49) rfl)) rfl
theorem ml_X8_197 : Cond.methodLink "CardBecomeModel" 197 yX8_whoAreCards ∈ cb_gt := cb_in (cb_t5 (List.mem_of_getElem? (i := 53) rfl)) rfl
theorem ml_X8_200 : Cond.methodLink "CardBecomeModel" 200 yX8_ruler ∈ cb_gt := cb_in (cb_t5 (List.mem_of_getElem? (i := 57) rfl)) rfl
theorem ml_X8_180 : Cond.methodLink "CardBecomeModel" 180 yX8_beatenBy ∈ cb_gt := cb_in (cb_t5 (List.mem_of_getElem? (i := 61) rfl)) rfl
theorem ml_X8_177 : Cond.methodLink "CardBecomeModel" 177 yX8_meetBy ∈ cb_gt := cb_in (cb_t5 (List.mem_of_getElem? (i := 65) rfl)) rfl
theorem ml_X8_174 : Cond.methodLink "CardBecomeModel" 174 yX8_cardsMeet ∈ cb_gt := cb_in (cb_t5 (List.mem_of_getElem? (i := 69) rfl)) rfl
theorem ml_X8_170 : Cond.methodLink "CardBecomeModel" 170 yX8_beatsBy ∈ cb_gt := cb_in (cb_t5 (List.mem_of_getElem? (i := 73) rfl)) rfl
theorem ml_X8_184 : Cond.methodLink "CardBecomeModel" 184 yX8_bits ∈ cb_gt := cb_in (cb_t5 (List.mem_of_getElem? (i := 77) rfl)) rfl
theorem ml_X8_203 : Cond.methodLink "CardBecomeModel" 203 yX8_heldRules ∈ cb_gt := cb_in (cb_t5 (List.mem_of_getElem? (i := 80) rfl)) rfl
theorem ml_X8_194 : Cond.methodLink "CardBecomeModel" 194 yX8_isHeld ∈ cb_gt := cb_in (cb_t5 (List.mem_of_getElem? (i := 84) rfl)) rfl
theorem ml_X8_187 : Cond.methodLink "CardBecomeModel" 187 yX8_logCard ∈ cb_gt := cb_in (cb_t5 (List.mem_of_getElem? (i := 88) rfl)) rfl
theorem ml_X8_191 : Cond.methodLink "CardBecomeModel" 191 yX8_logWon ∈ cb_gt := cb_in (cb_t5 (List.mem_of_getElem? (i := 92) rfl)) rfl
theorem ml_L_35 : Cond.methodLink "CardBecomeLaw" 35 yX8_card ∈ cb_gt := cb_in (cb_t5 (List.mem_of_getElem? (i := 96) rfl)) rfl
theorem ml_X8_206 : Cond.methodLink "CardBecomeModel" 206 yX8_isCard ∈ cb_gt := cb_in (cb_t5 (List.mem_of_getElem? (i := 100) rfl)) rfl
theorem ml_X8_210 : Cond.methodLink "CardBecomeModel" 210 yX8_placeOf ∈ cb_gt := cb_in (cb_t5 (List.mem_of_getElem? (i := 105) rfl)) rfl
theorem ml_X8_213 : Cond.methodLink "CardBecomeModel" 213 yX8_whoIs ∈ cb_gt := cb_in (cb_t5 (List.mem_of_getElem? (i := 109) rfl)) rfl
theorem ml_L_39 : Cond.methodLink "CardBecomeLaw" 39 yX8_pack ∈ cb_gt := cb_in (cb_t5 (List.mem_of_getElem? (i := 113) rfl)) rfl
theorem ml_L_43 : Cond.methodLink "CardBecomeLaw" 43 yX8_person ∈ cb_gt := cb_in (cb_t5 (List.mem_of_getElem? (i := 117) rfl)) rfl
theorem ml_X8_82 : Cond.methodLink "CardBecomeModel" 82 yX8_isPerson ∈ cb_gt := cb_in (cb_t5 (List.mem_of_getElem? (i := 121) rfl)) rfl
theorem ml_L_47 : Cond.methodLink "CardBecomeLaw" 47 yX8_logged ∈ cb_gt := cb_in (cb_t5 (List.mem_of_getElem? (i := 125) rfl)) rfl
theorem ml_X8_218 : Cond.methodLink "CardBecomeModel" 218 yX8_logOne ∈ cb_gt := cb_in (cb_t5 (List.mem_of_getElem? (i := 130) rfl)) rfl
theorem ml_X8_221 : Cond.methodLink "CardBecomeModel" 221 yX8_logOther ∈ cb_gt := cb_in (cb_t5 (List.mem_of_getElem? (i := 134) rfl)) rfl
theorem ml_L_51 : Cond.methodLink "CardBecomeLaw" 51 yX8_drawOne ∈ cb_gt := cb_in (cb_t5 (List.mem_of_getElem? (i := 138) rfl)) rfl
theorem ml_X8_228 : Cond.methodLink "CardBecomeModel" 228 yX8_canDraw ∈ cb_gt := cb_in (cb_t5 (List.mem_of_getElem? (i := 142) rfl)) rfl
theorem ml_X8_232 : Cond.methodLink "CardBecomeModel" 232 yX8_remember ∈ cb_gt := cb_in (cb_t5 (List.mem_of_getElem? (i := 147) rfl)) rfl
theorem ml_X8_235 : Cond.methodLink "CardBecomeModel" 235 yX8_takeAt ∈ cb_gt := cb_in (cb_t5 (List.mem_of_getElem? (i := 151) rfl)) rfl
theorem ml_L_55 : Cond.methodLink "CardBecomeLaw" 55 yX8_getBack ∈ cb_gt := cb_in (cb_t5 (List.mem_of_getElem? (i := 155) rfl)) rfl
theorem ml_X8_238 : Cond.methodLink "CardBecomeModel" 238 yX8_backNow ∈ cb_gt := cb_in (cb_t5 (List.mem_of_getElem? (i := 159) rfl)) rfl
theorem ml_X8_224 : Cond.methodLink "CardBecomeModel" 224 yX8_layBelow ∈ cb_gt := cb_in (cb_t5 (List.mem_of_getElem? (i := 163) rfl)) rfl
theorem ml_L_59 : Cond.methodLink "CardBecomeLaw" 59 yX8_meet ∈ cb_gt := cb_in (cb_t5 (List.mem_of_getElem? (i := 167) rfl)) rfl
theorem ml_X8_242 : Cond.methodLink "CardBecomeModel" 242 yX8_areTwo ∈ cb_gt := cb_in (cb_t5 (List.mem_of_getElem? (i := 171) rfl)) rfl
theorem ml_X8_246 : Cond.methodLink "CardBecomeModel" 246 yX8_meetNow ∈ cb_gt := cb_in (cb_t5 (List.mem_of_getElem? (i := 175) rfl)) rfl
theorem ml_L_63 : Cond.methodLink "CardBecomeLaw" 63 yX8_force ∈ cb_gt := cb_in (cb_t5 (List.mem_of_getElem? (i := 180) rfl)) rfl
theorem ml_L_67 : Cond.methodLink "CardBecomeLaw" 67 yX8_shuffle ∈ cb_gt := cb_in (cb_t5 (List.mem_of_getElem? (i := 184) rfl)) rfl
theorem ml_X8_253 : Cond.methodLink "CardBecomeModel" 253 yX8_shuffleNow ∈ cb_gt := cb_in (cb_t5 (List.mem_of_getElem? (i := 188) rfl)) rfl
theorem ml_X8_249 : Cond.methodLink "CardBecomeModel" 249 yX8_goes ∈ cb_gt := cb_in (cb_t5 (List.mem_of_getElem? (i := 192) rfl)) rfl
theorem ml_L_71 : Cond.methodLink "CardBecomeLaw" 71 yX8_drawer ∈ cb_gt := cb_in (cb_t5 (List.mem_of_getElem? (i := 195) rfl)) rfl
theorem ml_L_75 : Cond.methodLink "CardBecomeLaw" 75 yX8_out ∈ cb_gt := cb_in (cb_t5 (List.mem_of_getElem? (i := 199) rfl)) rfl
theorem ml_X8_256 : Cond.methodLink "CardBecomeModel" 256 yX8_has ∈ cb_gt := cb_in (cb_t5 (List.mem_of_getElem? (i := 203) rfl)) rfl
theorem ml_L_79 : Cond.methodLink "CardBecomeLaw" 79 yX8_drift ∈ cb_gt := cb_in (cb_t5 (List.mem_of_getElem? (i := 206) rfl)) rfl
theorem ml_X8_274 : Cond.methodLink "CardBecomeModel" 274 yX8_happen ∈ cb_gt := cb_in (cb_t5 (List.mem_of_getElem? (i := 211) rfl)) rfl
theorem ml_X8_269 : Cond.methodLink "CardBecomeModel" 269 yX8_draw ∈ cb_gt := cb_in (cb_t5 (List.mem_of_getElem? (i := 215) rfl)) rfl
theorem ml_L_83 : Cond.methodLink "CardBecomeLaw" 83 yX8_undo ∈ cb_gt := cb_in (cb_t5 (List.mem_of_getElem? (i := 223) rfl)) rfl
theorem ml_L_87 : Cond.methodLink "CardBecomeLaw" 87 yX8_beats ∈ cb_gt := cb_in (cb_t5 (List.mem_of_getElem? (i := 227) rfl)) rfl
theorem ml_L_91 : Cond.methodLink "CardBecomeLaw" 91 yX8_rings ∈ cb_gt := cb_in (cb_t5 (List.mem_of_getElem? (i := 231) rfl)) rfl
theorem ml_X8_277 : Cond.methodLink "CardBecomeModel" 277 yX8_isRing ∈ cb_gt := cb_in (cb_t5 (List.mem_of_getElem? (i := 235) rfl)) rfl
theorem ml_L_95 : Cond.methodLink "CardBecomeLaw" 95 yX8_order ∈ cb_gt := cb_in (cb_t5 (List.mem_of_getElem? (i := 239) rfl)) rfl
theorem ml_X8_281 : Cond.methodLink "CardBecomeModel" 281 yX8_power ∈ cb_gt := cb_in (cb_t6 (List.mem_of_getElem? (i := 3) rfl)) rfl
theorem ml_X8_284 : Cond.methodLink "CardBecomeModel" 284 yX8_drawsBy ∈ cb_gt := cb_in (cb_t6 (List.mem_of_getElem? (i := 6) rfl)) rfl
theorem ml_X8_287 : Cond.methodLink "CardBecomeModel" 287 yX8_allBeat ∈ cb_gt := cb_in (cb_t6 (List.mem_of_getElem? (i := 10) rfl)) rfl
theorem ml_L_100 : Cond.methodLink "CardBecomeLaw" 100 yX8_row ∈ cb_gt := cb_in (cb_t6 (List.mem_of_getElem? (i := 14) rfl)) rfl
theorem ml_X8_292 : Cond.methodLink "CardBecomeModel" 292 yX8_findAway ∈ cb_gt := cb_in (cb_t6 (List.mem_of_getElem? (i := 19) rfl)) rfl
theorem ml_L_104 : Cond.methodLink "CardBecomeLaw" 104 yX8_tells ∈ cb_gt := cb_in (cb_t6 (List.mem_of_getElem? (i := 23) rfl)) rfl
theorem ml_X8_296 : Cond.methodLink "CardBecomeModel" 296 yX8_greatestPart ∈ cb_gt := cb_in (cb_t6 (List.mem_of_getElem? (i := 27) rfl)) rfl
theorem ml_L_108 : Cond.methodLink "CardBecomeLaw" 108 yX8_odds ∈ cb_gt := cb_in (cb_t6 (List.mem_of_getElem? (i := 31) rfl)) rfl
theorem ml_L_112 : Cond.methodLink "CardBecomeLaw" 112 yX8_back ∈ cb_gt := cb_in (cb_t6 (List.mem_of_getElem? (i := 36) rfl)) rfl
theorem ml_L_116 : Cond.methodLink "CardBecomeLaw" 116 yX8_missing ∈ cb_gt := cb_in (cb_t6 (List.mem_of_getElem? (i := 40) rfl)) rfl
theorem ml_X8_300 : Cond.methodLink "CardBecomeModel" 300 yX8_isTold ∈ cb_gt := cb_in (cb_t6 (List.mem_of_getElem? (i := 44) rfl)) rfl
theorem ml_L_120 : Cond.methodLink "CardBecomeLaw" 120 yX8_wanted ∈ cb_gt := cb_in (cb_t6 (List.mem_of_getElem? (i := 48) rfl)) rfl
theorem ml_L_124 : Cond.methodLink "CardBecomeLaw" 124 yX8_see ∈ cb_gt := cb_in (cb_t6 (List.mem_of_getElem? (i := 52) rfl)) rfl
theorem ml_L_128 : Cond.methodLink "CardBecomeLaw" 128 yX8_deals ∈ cb_gt := cb_in (cb_t6 (List.mem_of_getElem? (i := 56) rfl)) rfl
theorem ml_X8_311 : Cond.methodLink "CardBecomeModel" 311 yX8_beginDeals ∈ cb_gt := cb_in (cb_t6 (List.mem_of_getElem? (i := 61) rfl)) rfl
theorem ml_X8_314 : Cond.methodLink "CardBecomeModel" 314 yX8_dealsBy ∈ cb_gt := cb_in (cb_t6 (List.mem_of_getElem? (i := 65) rfl)) rfl
theorem ml_L_132 : Cond.methodLink "CardBecomeLaw" 132 yX8_ask ∈ cb_gt := cb_in (cb_t6 (List.mem_of_getElem? (i := 69) rfl)) rfl
theorem ml_X8_317 : Cond.methodLink "CardBecomeModel" 317 yX8_deals ∈ cb_gt := cb_in (cb_t6 (List.mem_of_getElem? (i := 73) rfl)) rfl
theorem ml_L_136 : Cond.methodLink "CardBecomeLaw" 136 yX8_write ∈ cb_gt := cb_in (cb_t6 (List.mem_of_getElem? (i := 74) rfl)) rfl
theorem ml_L_140 : Cond.methodLink "CardBecomeLaw" 140 yX8_tear ∈ cb_gt := cb_in (cb_t6 (List.mem_of_getElem? (i := 78) rfl)) rfl
theorem ml_L_144 : Cond.methodLink "CardBecomeLaw" 144 yX8_judge ∈ cb_gt := cb_in (cb_t6 (List.mem_of_getElem? (i := 82) rfl)) rfl
theorem ml_L_148 : Cond.methodLink "CardBecomeLaw" 148 yX8_seed ∈ cb_gt := cb_in (cb_t6 (List.mem_of_getElem? (i := 86) rfl)) rfl
theorem ml_L_152 : Cond.methodLink "CardBecomeLaw" 152 yX8_keep ∈ cb_gt := cb_in (cb_t6 (List.mem_of_getElem? (i := 90) rfl)) rfl
theorem ml_L_156 : Cond.methodLink "CardBecomeLaw" 156 yX8_goBack ∈ cb_gt := cb_in (cb_t6 (List.mem_of_getElem? (i := 94) rfl)) rfl
theorem kc_X7_65 : Cond.constant "CardBecome" 65 (-1000000002) ∈ cb_gt := cb_in (cb_t2 (List.mem_of_getElem? (i := 34) rfl)) rfl
theorem kc_X7_74 : Cond.constant "CardBecome" 74 (-1000000004) ∈ cb_gt := cb_in (cb_t2 (List.mem_of_getElem? (i := 39) rfl)) rfl
theorem kc_J6_265 : Cond.constant "java/lang/Integer" 265 (1431655765) ∈ cb_gt := cb_in (cb_t2 (List.mem_of_getElem? (i := 188) rfl)) rfl
theorem kc_J6_266 : Cond.constant "java/lang/Integer" 266 (858993459) ∈ cb_gt := cb_in (cb_t2 (List.mem_of_getElem? (i := 189) rfl)) rfl
theorem kc_J6_267 : Cond.constant "java/lang/Integer" 267 (252645135) ∈ cb_gt := cb_in (cb_t2 (List.mem_of_getElem? (i := 190) rfl)) rfl
theorem kc_X7_150 : Cond.constant "CardBecome" 150 (-1000000001) ∈ cb_gt := cb_in (cb_t2 (List.mem_of_getElem? (i := 224) rfl)) rfl
theorem kc_X7_198 : Cond.constant "CardBecome" 198 (-1000000003) ∈ cb_gt := cb_in (cb_t3 (List.mem_of_getElem? (i := 37) rfl)) rfl
theorem kc_X4_80 : Cond.constant "CardBecome$Play" 80 (999999) ∈ cb_gt := cb_in (cb_t3 (List.mem_of_getElem? (i := 94) rfl)) rfl
theorem kc_X7_317 : Cond.constant "CardBecome" 317 (1103515245) ∈ cb_gt := cb_in (cb_t3 (List.mem_of_getElem? (i := 142) rfl)) rfl
theorem kc_X7_318 : Cond.constant "CardBecome" 318 (2147483647) ∈ cb_gt := cb_in (cb_t3 (List.mem_of_getElem? (i := 143) rfl)) rfl
theorem kc_X7_319 : Cond.constant "CardBecome" 319 (65536) ∈ cb_gt := cb_in (cb_t3 (List.mem_of_getElem? (i := 144) rfl)) rfl
theorem kc_X7_272 : Cond.constant "CardBecome" 272 (1000000) ∈ cb_gt := cb_in (cb_t3 (List.mem_of_getElem? (i := 223) rfl)) rfl
theorem kc_X8_89 : Cond.constantLong "CardBecomeModel" 89 (255) ∈ cb_gt := cb_in (cb_t4 (List.mem_of_getElem? (i := 237) rfl)) rfl
theorem kc_X8_91 : Cond.constant "CardBecomeModel" 91 (-1000000002) ∈ cb_gt := cb_in (cb_t5 (List.mem_of_getElem? (i := 1) rfl)) rfl
theorem kc_X8_95 : Cond.constant "CardBecomeModel" 95 (-1000000004) ∈ cb_gt := cb_in (cb_t5 (List.mem_of_getElem? (i := 2) rfl)) rfl
theorem kc_X8_103 : Cond.constantLong "CardBecomeModel" 103 (48) ∈ cb_gt := cb_in (cb_t5 (List.mem_of_getElem? (i := 31) rfl)) rfl
theorem kc_X8_105 : Cond.constantLong "CardBecomeModel" 105 (57) ∈ cb_gt := cb_in (cb_t5 (List.mem_of_getElem? (i := 32) rfl)) rfl
theorem kc_X8_209 : Cond.constant "CardBecomeModel" 209 (-1000000001) ∈ cb_gt := cb_in (cb_t5 (List.mem_of_getElem? (i := 104) rfl)) rfl
theorem kc_X8_216 : Cond.constantLong "CardBecomeModel" 216 (2) ∈ cb_gt := cb_in (cb_t5 (List.mem_of_getElem? (i := 129) rfl)) rfl
theorem kc_X8_231 : Cond.constant "CardBecomeModel" 231 (-1000000003) ∈ cb_gt := cb_in (cb_t5 (List.mem_of_getElem? (i := 146) rfl)) rfl
theorem kc_X8_241 : Cond.constant "CardBecomeModel" 241 (999999) ∈ cb_gt := cb_in (cb_t5 (List.mem_of_getElem? (i := 179) rfl)) rfl
theorem kc_X8_272 : Cond.constantLong "CardBecomeModel" 272 (60) ∈ cb_gt := cb_in (cb_t5 (List.mem_of_getElem? (i := 210) rfl)) rfl
theorem kc_X8_262 : Cond.constantLong "CardBecomeModel" 262 (1103515245) ∈ cb_gt := cb_in (cb_t5 (List.mem_of_getElem? (i := 219) rfl)) rfl
theorem kc_X8_264 : Cond.constantLong "CardBecomeModel" 264 (12345) ∈ cb_gt := cb_in (cb_t5 (List.mem_of_getElem? (i := 220) rfl)) rfl
theorem kc_X8_266 : Cond.constantLong "CardBecomeModel" 266 (2147483648) ∈ cb_gt := cb_in (cb_t5 (List.mem_of_getElem? (i := 221) rfl)) rfl
theorem kc_X8_268 : Cond.constant "CardBecomeModel" 268 (65536) ∈ cb_gt := cb_in (cb_t5 (List.mem_of_getElem? (i := 222) rfl)) rfl
theorem kc_X8_290 : Cond.constantLong "CardBecomeModel" 290 (11) ∈ cb_gt := cb_in (cb_t6 (List.mem_of_getElem? (i := 18) rfl)) rfl
theorem kc_X8_299 : Cond.constant "CardBecomeModel" 299 (1000000) ∈ cb_gt := cb_in (cb_t6 (List.mem_of_getElem? (i := 35) rfl)) rfl
theorem kc_X8_309 : Cond.constantLong "CardBecomeModel" 309 (5) ∈ cb_gt := cb_in (cb_t6 (List.mem_of_getElem? (i := 60) rfl)) rfl
theorem mw_J7_fill_53178 : cb_sw yJ7_fill_53178 cJ7_fill_53178 4 none 2 := ⟨cb_in (cb_t1 (List.mem_of_getElem? (i := 112) rfl)) rfl, cb_in (cb_t1 (List.mem_of_getElem? (i := 111) rfl)) rfl, cb_in (cb_t1 (List.mem_of_getElem? (i := 5) rfl)) rfl, ⟨by decide +kernel, by decide +kernel, by decide +kernel⟩⟩
theorem mw_X7_feed : cb_vw yX7_feed cX7_feed 2 (some .int) 1 := ⟨cb_in (cb_t2 (List.mem_of_getElem? (i := 33) rfl)) rfl, cb_in (cb_t2 (List.mem_of_getElem? (i := 31) rfl)) rfl, cb_in (cb_t2 (List.mem_of_getElem? (i := 32) rfl)) rfl, cb_in (cb_t1 (List.mem_of_getElem? (i := 1) rfl)) rfl, ⟨by decide +kernel, by decide +kernel, by decide +kernel⟩⟩
theorem mw_X5_add : cb_vw yX5_add cX5_add 2 (some .boolean) 1 := ⟨cb_in (cb_t2 (List.mem_of_getElem? (i := 38) rfl)) rfl, cb_in (cb_t2 (List.mem_of_getElem? (i := 36) rfl)) rfl, cb_in (cb_t2 (List.mem_of_getElem? (i := 37) rfl)) rfl, cb_in (cb_t1 (List.mem_of_getElem? (i := 2) rfl)) rfl, ⟨by decide +kernel, by decide +kernel, by decide +kernel⟩⟩
theorem mw_X7_table : cb_vw yX7_table cX7_table 2 (some .int) 0 := ⟨cb_in (cb_t2 (List.mem_of_getElem? (i := 43) rfl)) rfl, cb_in (cb_t2 (List.mem_of_getElem? (i := 41) rfl)) rfl, cb_in (cb_t2 (List.mem_of_getElem? (i := 42) rfl)) rfl, cb_in (cb_t1 (List.mem_of_getElem? (i := 1) rfl)) rfl, ⟨by decide +kernel, by decide +kernel, by decide +kernel⟩⟩
theorem mw_X5_read : cb_vw yX5_read cX5_read 1 none 0 := ⟨cb_in (cb_t2 (List.mem_of_getElem? (i := 47) rfl)) rfl, cb_in (cb_t2 (List.mem_of_getElem? (i := 45) rfl)) rfl, cb_in (cb_t2 (List.mem_of_getElem? (i := 46) rfl)) rfl, cb_in (cb_t1 (List.mem_of_getElem? (i := 2) rfl)) rfl, ⟨by decide +kernel, by decide +kernel, by decide +kernel⟩⟩
theorem mw_X6_clear : cb_vw yX6_clear cX6_clear 1 none 0 := ⟨cb_in (cb_t2 (List.mem_of_getElem? (i := 51) rfl)) rfl, cb_in (cb_t2 (List.mem_of_getElem? (i := 49) rfl)) rfl, cb_in (cb_t2 (List.mem_of_getElem? (i := 50) rfl)) rfl, cb_in (cb_t1 (List.mem_of_getElem? (i := 3) rfl)) rfl, ⟨by decide +kernel, by decide +kernel, by decide +kernel⟩⟩
theorem mw_X5_skipBlanks : cb_vw yX5_skipBlanks cX5_skipBlanks 1 none 0 := ⟨cb_in (cb_t2 (List.mem_of_getElem? (i := 55) rfl)) rfl, cb_in (cb_t2 (List.mem_of_getElem? (i := 54) rfl)) rfl, cb_sel (n := 6) (cb_pv1 (List.mem_of_getElem? (i := 0) rfl)), cb_in (cb_t1 (List.mem_of_getElem? (i := 2) rfl)) rfl, ⟨by decide +kernel, by decide +kernel, by decide +kernel⟩⟩
theorem mw_X5_letterAt : cb_vw yX5_letterAt cX5_letterAt 2 (some .int) 1 := ⟨cb_in (cb_t2 (List.mem_of_getElem? (i := 59) rfl)) rfl, cb_in (cb_t2 (List.mem_of_getElem? (i := 58) rfl)) rfl, cb_sel (n := 6) (cb_pv1 (List.mem_of_getElem? (i := 1) rfl)), cb_in (cb_t1 (List.mem_of_getElem? (i := 2) rfl)) rfl, ⟨by decide +kernel, by decide +kernel, by decide +kernel⟩⟩
theorem mw_X5_readAll : cb_vw yX5_readAll cX5_readAll 2 none 0 := ⟨cb_in (cb_t2 (List.mem_of_getElem? (i := 63) rfl)) rfl, cb_in (cb_t2 (List.mem_of_getElem? (i := 62) rfl)) rfl, cb_sel (n := 6) (cb_pv1 (List.mem_of_getElem? (i := 2) rfl)), cb_in (cb_t1 (List.mem_of_getElem? (i := 2) rfl)) rfl, ⟨by decide +kernel, by decide +kernel, by decide +kernel⟩⟩
theorem mw_X5_readRules : cb_vw yX5_readRules cX5_readRules 1 none 0 := ⟨cb_in (cb_t2 (List.mem_of_getElem? (i := 67) rfl)) rfl, cb_in (cb_t2 (List.mem_of_getElem? (i := 66) rfl)) rfl, cb_sel (n := 6) (cb_pv1 (List.mem_of_getElem? (i := 3) rfl)), cb_in (cb_t1 (List.mem_of_getElem? (i := 2) rfl)) rfl, ⟨by decide +kernel, by decide +kernel, by decide +kernel⟩⟩
theorem mw_X5_takeWord : cb_vw yX5_takeWord cX5_takeWord 2 none 1 := ⟨cb_in (cb_t2 (List.mem_of_getElem? (i := 71) rfl)) rfl, cb_in (cb_t2 (List.mem_of_getElem? (i := 70) rfl)) rfl, cb_sel (n := 6) (cb_pv1 (List.mem_of_getElem? (i := 4) rfl)), cb_in (cb_t1 (List.mem_of_getElem? (i := 2) rfl)) rfl, ⟨by decide +kernel, by decide +kernel, by decide +kernel⟩⟩
theorem mw_X5_fail : cb_vw yX5_fail cX5_fail 3 none 2 := ⟨cb_in (cb_t2 (List.mem_of_getElem? (i := 75) rfl)) rfl, cb_in (cb_t2 (List.mem_of_getElem? (i := 74) rfl)) rfl, cb_sel (n := 6) (cb_pv1 (List.mem_of_getElem? (i := 5) rfl)), cb_in (cb_t1 (List.mem_of_getElem? (i := 2) rfl)) rfl, ⟨by decide +kernel, by decide +kernel, by decide +kernel⟩⟩
theorem mw_X5_number : cb_vw yX5_number cX5_number 5 (some .int) 2 := ⟨cb_in (cb_t2 (List.mem_of_getElem? (i := 79) rfl)) rfl, cb_in (cb_t2 (List.mem_of_getElem? (i := 78) rfl)) rfl, cb_sel (n := 6) (cb_pv1 (List.mem_of_getElem? (i := 6) rfl)), cb_in (cb_t1 (List.mem_of_getElem? (i := 2) rfl)) rfl, ⟨by decide +kernel, by decide +kernel, by decide +kernel⟩⟩
theorem mw_X5_isFigure : cb_vw yX5_isFigure cX5_isFigure 2 (some .boolean) 1 := ⟨cb_in (cb_t2 (List.mem_of_getElem? (i := 83) rfl)) rfl, cb_in (cb_t2 (List.mem_of_getElem? (i := 82) rfl)) rfl, cb_sel (n := 6) (cb_pv1 (List.mem_of_getElem? (i := 7) rfl)), cb_in (cb_t1 (List.mem_of_getElem? (i := 2) rfl)) rfl, ⟨by decide +kernel, by decide +kernel, by decide +kernel⟩⟩
theorem mw_X5_readClause : cb_vw yX5_readClause cX5_readClause 2 none 0 := ⟨cb_in (cb_t2 (List.mem_of_getElem? (i := 87) rfl)) rfl, cb_in (cb_t2 (List.mem_of_getElem? (i := 86) rfl)) rfl, cb_sel (n := 6) (cb_pv1 (List.mem_of_getElem? (i := 8) rfl)), cb_in (cb_t1 (List.mem_of_getElem? (i := 2) rfl)) rfl, ⟨by decide +kernel, by decide +kernel, by decide +kernel⟩⟩
theorem mw_X5_readCard : cb_vw yX5_readCard cX5_readCard 4 none 0 := ⟨cb_in (cb_t2 (List.mem_of_getElem? (i := 91) rfl)) rfl, cb_in (cb_t2 (List.mem_of_getElem? (i := 90) rfl)) rfl, cb_sel (n := 6) (cb_pv1 (List.mem_of_getElem? (i := 9) rfl)), cb_in (cb_t1 (List.mem_of_getElem? (i := 2) rfl)) rfl, ⟨by decide +kernel, by decide +kernel, by decide +kernel⟩⟩
theorem mw_X6_oneOfAll : cb_sw yX6_oneOfAll cX6_oneOfAll 2 (some .int) 2 := ⟨cb_in (cb_t2 (List.mem_of_getElem? (i := 94) rfl)) rfl, cb_in (cb_t2 (List.mem_of_getElem? (i := 93) rfl)) rfl, cb_in (cb_t1 (List.mem_of_getElem? (i := 3) rfl)) rfl, ⟨by decide +kernel, by decide +kernel, by decide +kernel⟩⟩
theorem mw_X6_hasTold : cb_vw yX6_hasTold cX6_hasTold 2 (some .boolean) 1 := ⟨cb_in (cb_t2 (List.mem_of_getElem? (i := 98) rfl)) rfl, cb_in (cb_t2 (List.mem_of_getElem? (i := 96) rfl)) rfl, cb_in (cb_t2 (List.mem_of_getElem? (i := 97) rfl)) rfl, cb_in (cb_t1 (List.mem_of_getElem? (i := 3) rfl)) rfl, ⟨by decide +kernel, by decide +kernel, by decide +kernel⟩⟩
theorem mw_X6_addCard : cb_vw yX6_addCard cX6_addCard 3 none 2 := ⟨cb_in (cb_t2 (List.mem_of_getElem? (i := 102) rfl)) rfl, cb_in (cb_t2 (List.mem_of_getElem? (i := 100) rfl)) rfl, cb_in (cb_t2 (List.mem_of_getElem? (i := 101) rfl)) rfl, cb_in (cb_t1 (List.mem_of_getElem? (i := 3) rfl)) rfl, ⟨by decide +kernel, by decide +kernel, by decide +kernel⟩⟩
theorem mw_X5_readPerson : cb_vw yX5_readPerson cX5_readPerson 1 none 0 := ⟨cb_in (cb_t2 (List.mem_of_getElem? (i := 107) rfl)) rfl, cb_in (cb_t2 (List.mem_of_getElem? (i := 106) rfl)) rfl, cb_sel (n := 6) (cb_pv1 (List.mem_of_getElem? (i := 10) rfl)), cb_in (cb_t1 (List.mem_of_getElem? (i := 2) rfl)) rfl, ⟨by decide +kernel, by decide +kernel, by decide +kernel⟩⟩
theorem mw_X6_become : cb_vw yX6_become cX6_become 3 none 1 := ⟨cb_in (cb_t2 (List.mem_of_getElem? (i := 111) rfl)) rfl, cb_in (cb_t2 (List.mem_of_getElem? (i := 109) rfl)) rfl, cb_in (cb_t2 (List.mem_of_getElem? (i := 110) rfl)) rfl, cb_in (cb_t1 (List.mem_of_getElem? (i := 3) rfl)) rfl, ⟨by decide +kernel, by decide +kernel, by decide +kernel⟩⟩
theorem mw_X6_allBeatenBy : cb_vw yX6_allBeatenBy cX6_allBeatenBy 4 (some .int) 1 := ⟨cb_in (cb_t2 (List.mem_of_getElem? (i := 118) rfl)) rfl, cb_in (cb_t2 (List.mem_of_getElem? (i := 117) rfl)) rfl, cb_sel (n := 10) (cb_pv1 (List.mem_of_getElem? (i := 11) rfl)), cb_in (cb_t1 (List.mem_of_getElem? (i := 3) rfl)) rfl, ⟨by decide +kernel, by decide +kernel, by decide +kernel⟩⟩
theorem mw_X6_byTrump : cb_vw yX6_byTrump cX6_byTrump 9 (some .int) 4 := ⟨cb_in (cb_t2 (List.mem_of_getElem? (i := 122) rfl)) rfl, cb_in (cb_t2 (List.mem_of_getElem? (i := 121) rfl)) rfl, cb_sel (n := 10) (cb_pv1 (List.mem_of_getElem? (i := 12) rfl)), cb_in (cb_t1 (List.mem_of_getElem? (i := 3) rfl)) rfl, ⟨by decide +kernel, by decide +kernel, by decide +kernel⟩⟩
theorem mw_X6_suitOf : cb_vw yX6_suitOf cX6_suitOf 2 (some .int) 1 := ⟨cb_in (cb_t2 (List.mem_of_getElem? (i := 126) rfl)) rfl, cb_in (cb_t2 (List.mem_of_getElem? (i := 124) rfl)) rfl, cb_in (cb_t2 (List.mem_of_getElem? (i := 125) rfl)) rfl, cb_in (cb_t1 (List.mem_of_getElem? (i := 3) rfl)) rfl, ⟨by decide +kernel, by decide +kernel, by decide +kernel⟩⟩
theorem mw_X6_rankOf : cb_vw yX6_rankOf cX6_rankOf 2 (some .int) 1 := ⟨cb_in (cb_t2 (List.mem_of_getElem? (i := 130) rfl)) rfl, cb_in (cb_t2 (List.mem_of_getElem? (i := 128) rfl)) rfl, cb_in (cb_t2 (List.mem_of_getElem? (i := 129) rfl)) rfl, cb_in (cb_t1 (List.mem_of_getElem? (i := 3) rfl)) rfl, ⟨by decide +kernel, by decide +kernel, by decide +kernel⟩⟩
theorem mw_X4_begin : cb_vw yX4_begin cX4_begin 3 none 1 := ⟨cb_in (cb_t2 (List.mem_of_getElem? (i := 134) rfl)) rfl, cb_in (cb_t2 (List.mem_of_getElem? (i := 132) rfl)) rfl, cb_in (cb_t2 (List.mem_of_getElem? (i := 133) rfl)) rfl, cb_in (cb_t1 (List.mem_of_getElem? (i := 4) rfl)) rfl, ⟨by decide +kernel, by decide +kernel, by decide +kernel⟩⟩
theorem mw_J9_min_7cf53 : cb_sw yJ9_min_7cf53 cJ9_min_7cf53 2 (some .int) 2 := ⟨cb_in (cb_t2 (List.mem_of_getElem? (i := 137) rfl)) rfl, cb_in (cb_t2 (List.mem_of_getElem? (i := 136) rfl)) rfl, cb_in (cb_t1 (List.mem_of_getElem? (i := 12) rfl)) rfl, ⟨by decide +kernel, by decide +kernel, by decide +kernel⟩⟩
theorem mw_X2_empty : cb_vw yX2_empty cX2_empty 1 none 0 := ⟨cb_in (cb_t2 (List.mem_of_getElem? (i := 141) rfl)) rfl, cb_in (cb_t2 (List.mem_of_getElem? (i := 139) rfl)) rfl, cb_in (cb_t2 (List.mem_of_getElem? (i := 140) rfl)) rfl, cb_in (cb_t1 (List.mem_of_getElem? (i := 7) rfl)) rfl, ⟨by decide +kernel, by decide +kernel, by decide +kernel⟩⟩
theorem mw_X3_forget : cb_vw yX3_forget cX3_forget 1 none 0 := ⟨cb_in (cb_t2 (List.mem_of_getElem? (i := 145) rfl)) rfl, cb_in (cb_t2 (List.mem_of_getElem? (i := 143) rfl)) rfl, cb_in (cb_t2 (List.mem_of_getElem? (i := 144) rfl)) rfl, cb_in (cb_t1 (List.mem_of_getElem? (i := 6) rfl)) rfl, ⟨by decide +kernel, by decide +kernel, by decide +kernel⟩⟩
theorem mw_X7_fault : cb_vw yX7_fault cX7_fault 1 (some .int) 0 := ⟨cb_in (cb_t2 (List.mem_of_getElem? (i := 149) rfl)) rfl, cb_in (cb_t2 (List.mem_of_getElem? (i := 147) rfl)) rfl, cb_in (cb_t2 (List.mem_of_getElem? (i := 148) rfl)) rfl, cb_in (cb_t1 (List.mem_of_getElem? (i := 1) rfl)) rfl, ⟨by decide +kernel, by decide +kernel, by decide +kernel⟩⟩
theorem mw_X7_told : cb_vw yX7_told cX7_told 2 (some .int) 1 := ⟨cb_in (cb_t2 (List.mem_of_getElem? (i := 153) rfl)) rfl, cb_in (cb_t2 (List.mem_of_getElem? (i := 151) rfl)) rfl, cb_in (cb_t2 (List.mem_of_getElem? (i := 152) rfl)) rfl, cb_in (cb_t1 (List.mem_of_getElem? (i := 1) rfl)) rfl, ⟨by decide +kernel, by decide +kernel, by decide +kernel⟩⟩
theorem mw_X4_holders : cb_vw yX4_holders cX4_holders 3 (some .int) 0 := ⟨cb_in (cb_t2 (List.mem_of_getElem? (i := 157) rfl)) rfl, cb_in (cb_t2 (List.mem_of_getElem? (i := 155) rfl)) rfl, cb_in (cb_t2 (List.mem_of_getElem? (i := 156) rfl)) rfl, cb_in (cb_t1 (List.mem_of_getElem? (i := 4) rfl)) rfl, ⟨by decide +kernel, by decide +kernel, by decide +kernel⟩⟩
theorem mw_X7_ruler : cb_vw yX7_ruler cX7_ruler 5 (some .int) 0 := ⟨cb_in (cb_t2 (List.mem_of_getElem? (i := 161) rfl)) rfl, cb_in (cb_t2 (List.mem_of_getElem? (i := 160) rfl)) rfl, cb_sel (n := 10) (cb_pv1 (List.mem_of_getElem? (i := 13) rfl)), cb_in (cb_t1 (List.mem_of_getElem? (i := 1) rfl)) rfl, ⟨by decide +kernel, by decide +kernel, by decide +kernel⟩⟩
theorem mw_X7_beatenBy : cb_vw yX7_beatenBy cX7_beatenBy 4 (some .int) 1 := ⟨cb_in (cb_t2 (List.mem_of_getElem? (i := 165) rfl)) rfl, cb_in (cb_t2 (List.mem_of_getElem? (i := 164) rfl)) rfl, cb_sel (n := 10) (cb_pv1 (List.mem_of_getElem? (i := 14) rfl)), cb_in (cb_t1 (List.mem_of_getElem? (i := 1) rfl)) rfl, ⟨by decide +kernel, by decide +kernel, by decide +kernel⟩⟩
theorem mw_X7_winsOver : cb_vw yX7_winsOver cX7_winsOver 3 (some .boolean) 2 := ⟨cb_in (cb_t2 (List.mem_of_getElem? (i := 169) rfl)) rfl, cb_in (cb_t2 (List.mem_of_getElem? (i := 168) rfl)) rfl, cb_sel (n := 10) (cb_pv1 (List.mem_of_getElem? (i := 15) rfl)), cb_in (cb_t1 (List.mem_of_getElem? (i := 1) rfl)) rfl, ⟨by decide +kernel, by decide +kernel, by decide +kernel⟩⟩
theorem mw_X4_cardOf : cb_vw yX4_cardOf cX4_cardOf 2 (some .int) 1 := ⟨cb_in (cb_t2 (List.mem_of_getElem? (i := 173) rfl)) rfl, cb_in (cb_t2 (List.mem_of_getElem? (i := 171) rfl)) rfl, cb_in (cb_t2 (List.mem_of_getElem? (i := 172) rfl)) rfl, cb_in (cb_t1 (List.mem_of_getElem? (i := 4) rfl)) rfl, ⟨by decide +kernel, by decide +kernel, by decide +kernel⟩⟩
theorem mw_X4_isPerson : cb_sw yX4_isPerson cX4_isPerson 1 (some .boolean) 1 := ⟨cb_in (cb_t2 (List.mem_of_getElem? (i := 176) rfl)) rfl, cb_in (cb_t2 (List.mem_of_getElem? (i := 175) rfl)) rfl, cb_in (cb_t1 (List.mem_of_getElem? (i := 4) rfl)) rfl, ⟨by decide +kernel, by decide +kernel, by decide +kernel⟩⟩
theorem mw_X6_between : cb_vw yX6_between cX6_between 3 (some .int) 2 := ⟨cb_in (cb_t2 (List.mem_of_getElem? (i := 180) rfl)) rfl, cb_in (cb_t2 (List.mem_of_getElem? (i := 178) rfl)) rfl, cb_in (cb_t2 (List.mem_of_getElem? (i := 179) rfl)) rfl, cb_in (cb_t1 (List.mem_of_getElem? (i := 3) rfl)) rfl, ⟨by decide +kernel, by decide +kernel, by decide +kernel⟩⟩
theorem mw_X6_isBeaten : cb_vw yX6_isBeaten cX6_isBeaten 3 (some .boolean) 2 := ⟨cb_in (cb_t2 (List.mem_of_getElem? (i := 184) rfl)) rfl, cb_in (cb_t2 (List.mem_of_getElem? (i := 183) rfl)) rfl, cb_sel (n := 10) (cb_pv2 (List.mem_of_getElem? (i := 0) rfl)), cb_in (cb_t1 (List.mem_of_getElem? (i := 3) rfl)) rfl, ⟨by decide +kernel, by decide +kernel, by decide +kernel⟩⟩
theorem mw_J6_bitCount_0f7a4 : cb_sw yJ6_bitCount_0f7a4 cJ6_bitCount_0f7a4 1 (some .int) 1 := ⟨cb_in (cb_t2 (List.mem_of_getElem? (i := 187) rfl)) rfl, cb_in (cb_t2 (List.mem_of_getElem? (i := 186) rfl)) rfl, cb_in (cb_t1 (List.mem_of_getElem? (i := 13) rfl)) rfl, ⟨by decide +kernel, by decide +kernel, by decide +kernel⟩⟩
theorem mw_X7_heldRules : cb_vw yX7_heldRules cX7_heldRules 3 (some .int) 0 := ⟨cb_in (cb_t2 (List.mem_of_getElem? (i := 194) rfl)) rfl, cb_in (cb_t2 (List.mem_of_getElem? (i := 193) rfl)) rfl, cb_sel (n := 10) (cb_pv2 (List.mem_of_getElem? (i := 1) rfl)), cb_in (cb_t1 (List.mem_of_getElem? (i := 1) rfl)) rfl, ⟨by decide +kernel, by decide +kernel, by decide +kernel⟩⟩
theorem mw_X7_fitsLog : cb_vw yX7_fitsLog cX7_fitsLog 6 (some .boolean) 1 := ⟨cb_in (cb_t2 (List.mem_of_getElem? (i := 198) rfl)) rfl, cb_in (cb_t2 (List.mem_of_getElem? (i := 197) rfl)) rfl, cb_sel (n := 10) (cb_pv2 (List.mem_of_getElem? (i := 2) rfl)), cb_in (cb_t1 (List.mem_of_getElem? (i := 1) rfl)) rfl, ⟨by decide +kernel, by decide +kernel, by decide +kernel⟩⟩
theorem mw_X4_entry : cb_vw yX4_entry cX4_entry 2 (some .int) 1 := ⟨cb_in (cb_t2 (List.mem_of_getElem? (i := 202) rfl)) rfl, cb_in (cb_t2 (List.mem_of_getElem? (i := 200) rfl)) rfl, cb_in (cb_t2 (List.mem_of_getElem? (i := 201) rfl)) rfl, cb_in (cb_t1 (List.mem_of_getElem? (i := 4) rfl)) rfl, ⟨by decide +kernel, by decide +kernel, by decide +kernel⟩⟩
theorem mw_X4_firstCardIn : cb_sw yX4_firstCardIn cX4_firstCardIn 1 (some .int) 1 := ⟨cb_in (cb_t2 (List.mem_of_getElem? (i := 205) rfl)) rfl, cb_in (cb_t2 (List.mem_of_getElem? (i := 204) rfl)) rfl, cb_in (cb_t1 (List.mem_of_getElem? (i := 4) rfl)) rfl, ⟨by decide +kernel, by decide +kernel, by decide +kernel⟩⟩
theorem mw_X4_secondCardIn : cb_sw yX4_secondCardIn cX4_secondCardIn 1 (some .int) 1 := ⟨cb_in (cb_t2 (List.mem_of_getElem? (i := 208) rfl)) rfl, cb_in (cb_t2 (List.mem_of_getElem? (i := 207) rfl)) rfl, cb_in (cb_t1 (List.mem_of_getElem? (i := 4) rfl)) rfl, ⟨by decide +kernel, by decide +kernel, by decide +kernel⟩⟩
theorem mw_X6_byRule : cb_vw yX6_byRule cX6_byRule 4 (some .int) 3 := ⟨cb_in (cb_t2 (List.mem_of_getElem? (i := 212) rfl)) rfl, cb_in (cb_t2 (List.mem_of_getElem? (i := 210) rfl)) rfl, cb_in (cb_t2 (List.mem_of_getElem? (i := 211) rfl)) rfl, cb_in (cb_t1 (List.mem_of_getElem? (i := 3) rfl)) rfl, ⟨by decide +kernel, by decide +kernel, by decide +kernel⟩⟩
theorem mw_X4_outcomeIn : cb_sw yX4_outcomeIn cX4_outcomeIn 1 (some .int) 1 := ⟨cb_in (cb_t2 (List.mem_of_getElem? (i := 215) rfl)) rfl, cb_in (cb_t2 (List.mem_of_getElem? (i := 214) rfl)) rfl, cb_in (cb_t1 (List.mem_of_getElem? (i := 4) rfl)) rfl, ⟨by decide +kernel, by decide +kernel, by decide +kernel⟩⟩
theorem mw_X7_card : cb_vw yX7_card cX7_card 3 (some .int) 2 := ⟨cb_in (cb_t2 (List.mem_of_getElem? (i := 219) rfl)) rfl, cb_in (cb_t2 (List.mem_of_getElem? (i := 217) rfl)) rfl, cb_in (cb_t2 (List.mem_of_getElem? (i := 218) rfl)) rfl, cb_in (cb_t1 (List.mem_of_getElem? (i := 1) rfl)) rfl, ⟨by decide +kernel, by decide +kernel, by decide +kernel⟩⟩
theorem mw_X6_hasCard : cb_vw yX6_hasCard cX6_hasCard 2 (some .boolean) 1 := ⟨cb_in (cb_t2 (List.mem_of_getElem? (i := 223) rfl)) rfl, cb_in (cb_t2 (List.mem_of_getElem? (i := 221) rfl)) rfl, cb_in (cb_t2 (List.mem_of_getElem? (i := 222) rfl)) rfl, cb_in (cb_t1 (List.mem_of_getElem? (i := 3) rfl)) rfl, ⟨by decide +kernel, by decide +kernel, by decide +kernel⟩⟩
theorem mw_X4_placeOf : cb_vw yX4_placeOf cX4_placeOf 3 (some .int) 1 := ⟨cb_in (cb_t2 (List.mem_of_getElem? (i := 230) rfl)) rfl, cb_in (cb_t2 (List.mem_of_getElem? (i := 228) rfl)) rfl, cb_in (cb_t2 (List.mem_of_getElem? (i := 229) rfl)) rfl, cb_in (cb_t1 (List.mem_of_getElem? (i := 4) rfl)) rfl, ⟨by decide +kernel, by decide +kernel, by decide +kernel⟩⟩
theorem mw_X4_cardAt : cb_vw yX4_cardAt cX4_cardAt 2 (some .int) 1 := ⟨cb_in (cb_t2 (List.mem_of_getElem? (i := 234) rfl)) rfl, cb_in (cb_t2 (List.mem_of_getElem? (i := 232) rfl)) rfl, cb_in (cb_t2 (List.mem_of_getElem? (i := 233) rfl)) rfl, cb_in (cb_t1 (List.mem_of_getElem? (i := 4) rfl)) rfl, ⟨by decide +kernel, by decide +kernel, by decide +kernel⟩⟩
theorem mw_X4_holderOf : cb_vw yX4_holderOf cX4_holderOf 3 (some .int) 1 := ⟨cb_in (cb_t2 (List.mem_of_getElem? (i := 238) rfl)) rfl, cb_in (cb_t2 (List.mem_of_getElem? (i := 236) rfl)) rfl, cb_in (cb_t2 (List.mem_of_getElem? (i := 237) rfl)) rfl, cb_in (cb_t1 (List.mem_of_getElem? (i := 4) rfl)) rfl, ⟨by decide +kernel, by decide +kernel, by decide +kernel⟩⟩
theorem mw_X7_pack : cb_vw yX7_pack cX7_pack 2 (some .int) 1 := ⟨cb_in (cb_t3 (List.mem_of_getElem? (i := 2) rfl)) rfl, cb_in (cb_t3 (List.mem_of_getElem? (i := 0) rfl)) rfl, cb_in (cb_t3 (List.mem_of_getElem? (i := 1) rfl)) rfl, cb_in (cb_t1 (List.mem_of_getElem? (i := 1) rfl)) rfl, ⟨by decide +kernel, by decide +kernel, by decide +kernel⟩⟩
theorem mw_X7_person : cb_vw yX7_person cX7_person 3 (some .int) 2 := ⟨cb_in (cb_t3 (List.mem_of_getElem? (i := 7) rfl)) rfl, cb_in (cb_t3 (List.mem_of_getElem? (i := 5) rfl)) rfl, cb_in (cb_t3 (List.mem_of_getElem? (i := 6) rfl)) rfl, cb_in (cb_t1 (List.mem_of_getElem? (i := 1) rfl)) rfl, ⟨by decide +kernel, by decide +kernel, by decide +kernel⟩⟩
theorem mw_X6_hasPerson : cb_vw yX6_hasPerson cX6_hasPerson 2 (some .boolean) 1 := ⟨cb_in (cb_t3 (List.mem_of_getElem? (i := 11) rfl)) rfl, cb_in (cb_t3 (List.mem_of_getElem? (i := 9) rfl)) rfl, cb_in (cb_t3 (List.mem_of_getElem? (i := 10) rfl)) rfl, cb_in (cb_t1 (List.mem_of_getElem? (i := 3) rfl)) rfl, ⟨by decide +kernel, by decide +kernel, by decide +kernel⟩⟩
theorem mw_X4_winsOf : cb_vw yX4_winsOf cX4_winsOf 2 (some .int) 1 := ⟨cb_in (cb_t3 (List.mem_of_getElem? (i := 15) rfl)) rfl, cb_in (cb_t3 (List.mem_of_getElem? (i := 13) rfl)) rfl, cb_in (cb_t3 (List.mem_of_getElem? (i := 14) rfl)) rfl, cb_in (cb_t1 (List.mem_of_getElem? (i := 4) rfl)) rfl, ⟨by decide +kernel, by decide +kernel, by decide +kernel⟩⟩
theorem mw_X7_logged : cb_vw yX7_logged cX7_logged 6 (some .int) 2 := ⟨cb_in (cb_t3 (List.mem_of_getElem? (i := 19) rfl)) rfl, cb_in (cb_t3 (List.mem_of_getElem? (i := 17) rfl)) rfl, cb_in (cb_t3 (List.mem_of_getElem? (i := 18) rfl)) rfl, cb_in (cb_t1 (List.mem_of_getElem? (i := 1) rfl)) rfl, ⟨by decide +kernel, by decide +kernel, by decide +kernel⟩⟩
theorem mw_X4_firstIn : cb_sw yX4_firstIn cX4_firstIn 1 (some .int) 1 := ⟨cb_in (cb_t3 (List.mem_of_getElem? (i := 22) rfl)) rfl, cb_in (cb_t3 (List.mem_of_getElem? (i := 21) rfl)) rfl, cb_in (cb_t1 (List.mem_of_getElem? (i := 4) rfl)) rfl, ⟨by decide +kernel, by decide +kernel, by decide +kernel⟩⟩
theorem mw_X4_secondIn : cb_sw yX4_secondIn cX4_secondIn 1 (some .int) 1 := ⟨cb_in (cb_t3 (List.mem_of_getElem? (i := 25) rfl)) rfl, cb_in (cb_t3 (List.mem_of_getElem? (i := 24) rfl)) rfl, cb_in (cb_t1 (List.mem_of_getElem? (i := 4) rfl)) rfl, ⟨by decide +kernel, by decide +kernel, by decide +kernel⟩⟩
theorem mw_X7_winner : cb_sw yX7_winner cX7_winner 3 (some .int) 3 := ⟨cb_in (cb_t3 (List.mem_of_getElem? (i := 28) rfl)) rfl, cb_in (cb_t3 (List.mem_of_getElem? (i := 27) rfl)) rfl, cb_in (cb_t1 (List.mem_of_getElem? (i := 1) rfl)) rfl, ⟨by decide +kernel, by decide +kernel, by decide +kernel⟩⟩
theorem mw_X7_drawOne : cb_vw yX7_drawOne cX7_drawOne 2 (some .int) 1 := ⟨cb_in (cb_t3 (List.mem_of_getElem? (i := 32) rfl)) rfl, cb_in (cb_t3 (List.mem_of_getElem? (i := 30) rfl)) rfl, cb_in (cb_t3 (List.mem_of_getElem? (i := 31) rfl)) rfl, cb_in (cb_t1 (List.mem_of_getElem? (i := 1) rfl)) rfl, ⟨by decide +kernel, by decide +kernel, by decide +kernel⟩⟩
theorem mw_X4_canDraw : cb_vw yX4_canDraw cX4_canDraw 2 (some .boolean) 1 := ⟨cb_in (cb_t3 (List.mem_of_getElem? (i := 36) rfl)) rfl, cb_in (cb_t3 (List.mem_of_getElem? (i := 34) rfl)) rfl, cb_in (cb_t3 (List.mem_of_getElem? (i := 35) rfl)) rfl, cb_in (cb_t1 (List.mem_of_getElem? (i := 4) rfl)) rfl, ⟨by decide +kernel, by decide +kernel, by decide +kernel⟩⟩
theorem mw_X3_push : cb_vw yX3_push cX3_push 2 none 1 := ⟨cb_in (cb_t3 (List.mem_of_getElem? (i := 41) rfl)) rfl, cb_in (cb_t3 (List.mem_of_getElem? (i := 39) rfl)) rfl, cb_in (cb_t3 (List.mem_of_getElem? (i := 40) rfl)) rfl, cb_in (cb_t1 (List.mem_of_getElem? (i := 6) rfl)) rfl, ⟨by decide +kernel, by decide +kernel, by decide +kernel⟩⟩
theorem mw_J9_floorMod_7cf53 : cb_sw yJ9_floorMod_7cf53 cJ9_floorMod_7cf53 3 (some .int) 2 := ⟨cb_in (cb_t3 (List.mem_of_getElem? (i := 44) rfl)) rfl, cb_in (cb_t3 (List.mem_of_getElem? (i := 43) rfl)) rfl, cb_in (cb_t1 (List.mem_of_getElem? (i := 12) rfl)) rfl, ⟨by decide +kernel, by decide +kernel, by decide +kernel⟩⟩
theorem mw_X4_become : cb_vw yX4_become cX4_become 2 none 1 := ⟨cb_in (cb_t3 (List.mem_of_getElem? (i := 48) rfl)) rfl, cb_in (cb_t3 (List.mem_of_getElem? (i := 46) rfl)) rfl, cb_in (cb_t3 (List.mem_of_getElem? (i := 47) rfl)) rfl, cb_in (cb_t1 (List.mem_of_getElem? (i := 4) rfl)) rfl, ⟨by decide +kernel, by decide +kernel, by decide +kernel⟩⟩
theorem mw_X4_draw : cb_vw yX4_draw cX4_draw 4 (some .int) 1 := ⟨cb_in (cb_t3 (List.mem_of_getElem? (i := 54) rfl)) rfl, cb_in (cb_t3 (List.mem_of_getElem? (i := 52) rfl)) rfl, cb_in (cb_t3 (List.mem_of_getElem? (i := 53) rfl)) rfl, cb_in (cb_t1 (List.mem_of_getElem? (i := 4) rfl)) rfl, ⟨by decide +kernel, by decide +kernel, by decide +kernel⟩⟩
theorem mw_X7_getBack : cb_vw yX7_getBack cX7_getBack 2 (some .int) 1 := ⟨cb_in (cb_t3 (List.mem_of_getElem? (i := 59) rfl)) rfl, cb_in (cb_t3 (List.mem_of_getElem? (i := 57) rfl)) rfl, cb_in (cb_t3 (List.mem_of_getElem? (i := 58) rfl)) rfl, cb_in (cb_t1 (List.mem_of_getElem? (i := 1) rfl)) rfl, ⟨by decide +kernel, by decide +kernel, by decide +kernel⟩⟩
theorem mw_X4_giveBack : cb_vw yX4_giveBack cX4_giveBack 3 (some .int) 1 := ⟨cb_in (cb_t3 (List.mem_of_getElem? (i := 63) rfl)) rfl, cb_in (cb_t3 (List.mem_of_getElem? (i := 61) rfl)) rfl, cb_in (cb_t3 (List.mem_of_getElem? (i := 62) rfl)) rfl, cb_in (cb_t1 (List.mem_of_getElem? (i := 4) rfl)) rfl, ⟨by decide +kernel, by decide +kernel, by decide +kernel⟩⟩
theorem mw_X4_layDown : cb_vw yX4_layDown cX4_layDown 3 (some .int) 1 := ⟨cb_in (cb_t3 (List.mem_of_getElem? (i := 67) rfl)) rfl, cb_in (cb_t3 (List.mem_of_getElem? (i := 66) rfl)) rfl, cb_sel (n := 7) (cb_pv2 (List.mem_of_getElem? (i := 3) rfl)), cb_in (cb_t1 (List.mem_of_getElem? (i := 4) rfl)) rfl, ⟨by decide +kernel, by decide +kernel, by decide +kernel⟩⟩
theorem mw_X4_putBelow : cb_vw yX4_putBelow cX4_putBelow 2 none 1 := ⟨cb_in (cb_t3 (List.mem_of_getElem? (i := 72) rfl)) rfl, cb_in (cb_t3 (List.mem_of_getElem? (i := 71) rfl)) rfl, cb_sel (n := 7) (cb_pv2 (List.mem_of_getElem? (i := 4) rfl)), cb_in (cb_t1 (List.mem_of_getElem? (i := 4) rfl)) rfl, ⟨by decide +kernel, by decide +kernel, by decide +kernel⟩⟩
theorem mw_X7_meet : cb_vw yX7_meet cX7_meet 3 (some .int) 2 := ⟨cb_in (cb_t3 (List.mem_of_getElem? (i := 76) rfl)) rfl, cb_in (cb_t3 (List.mem_of_getElem? (i := 74) rfl)) rfl, cb_in (cb_t3 (List.mem_of_getElem? (i := 75) rfl)) rfl, cb_in (cb_t1 (List.mem_of_getElem? (i := 1) rfl)) rfl, ⟨by decide +kernel, by decide +kernel, by decide +kernel⟩⟩
theorem mw_X6_hasTwoPersons : cb_vw yX6_hasTwoPersons cX6_hasTwoPersons 3 (some .boolean) 2 := ⟨cb_in (cb_t3 (List.mem_of_getElem? (i := 80) rfl)) rfl, cb_in (cb_t3 (List.mem_of_getElem? (i := 78) rfl)) rfl, cb_in (cb_t3 (List.mem_of_getElem? (i := 79) rfl)) rfl, cb_in (cb_t1 (List.mem_of_getElem? (i := 3) rfl)) rfl, ⟨by decide +kernel, by decide +kernel, by decide +kernel⟩⟩
theorem mw_X7_letMeet : cb_vw yX7_letMeet cX7_letMeet 4 (some .int) 2 := ⟨cb_in (cb_t3 (List.mem_of_getElem? (i := 85) rfl)) rfl, cb_in (cb_t3 (List.mem_of_getElem? (i := 84) rfl)) rfl, cb_sel (n := 10) (cb_pv2 (List.mem_of_getElem? (i := 5) rfl)), cb_in (cb_t1 (List.mem_of_getElem? (i := 1) rfl)) rfl, ⟨by decide +kernel, by decide +kernel, by decide +kernel⟩⟩
theorem mw_X4_noteMeeting : cb_vw yX4_noteMeeting cX4_noteMeeting 4 none 3 := ⟨cb_in (cb_t3 (List.mem_of_getElem? (i := 89) rfl)) rfl, cb_in (cb_t3 (List.mem_of_getElem? (i := 87) rfl)) rfl, cb_in (cb_t3 (List.mem_of_getElem? (i := 88) rfl)) rfl, cb_in (cb_t1 (List.mem_of_getElem? (i := 4) rfl)) rfl, ⟨by decide +kernel, by decide +kernel, by decide +kernel⟩⟩
theorem mw_X4_countWin : cb_vw yX4_countWin cX4_countWin 2 none 1 := ⟨cb_in (cb_t3 (List.mem_of_getElem? (i := 93) rfl)) rfl, cb_in (cb_t3 (List.mem_of_getElem? (i := 92) rfl)) rfl, cb_sel (n := 7) (cb_pv2 (List.mem_of_getElem? (i := 6) rfl)), cb_in (cb_t1 (List.mem_of_getElem? (i := 4) rfl)) rfl, ⟨by decide +kernel, by decide +kernel, by decide +kernel⟩⟩
theorem mw_X7_force : cb_vw yX7_force cX7_force 3 (some .int) 1 := ⟨cb_in (cb_t3 (List.mem_of_getElem? (i := 98) rfl)) rfl, cb_in (cb_t3 (List.mem_of_getElem? (i := 96) rfl)) rfl, cb_in (cb_t3 (List.mem_of_getElem? (i := 97) rfl)) rfl, cb_in (cb_t1 (List.mem_of_getElem? (i := 1) rfl)) rfl, ⟨by decide +kernel, by decide +kernel, by decide +kernel⟩⟩
theorem mw_X4_raise : cb_vw yX4_raise cX4_raise 4 none 1 := ⟨cb_in (cb_t3 (List.mem_of_getElem? (i := 102) rfl)) rfl, cb_in (cb_t3 (List.mem_of_getElem? (i := 100) rfl)) rfl, cb_in (cb_t3 (List.mem_of_getElem? (i := 101) rfl)) rfl, cb_in (cb_t1 (List.mem_of_getElem? (i := 4) rfl)) rfl, ⟨by decide +kernel, by decide +kernel, by decide +kernel⟩⟩
theorem mw_X7_shuffle : cb_vw yX7_shuffle cX7_shuffle 2 (some .int) 1 := ⟨cb_in (cb_t3 (List.mem_of_getElem? (i := 106) rfl)) rfl, cb_in (cb_t3 (List.mem_of_getElem? (i := 104) rfl)) rfl, cb_in (cb_t3 (List.mem_of_getElem? (i := 105) rfl)) rfl, cb_in (cb_t1 (List.mem_of_getElem? (i := 1) rfl)) rfl, ⟨by decide +kernel, by decide +kernel, by decide +kernel⟩⟩
theorem mw_X4_mix : cb_vw yX4_mix cX4_mix 5 none 2 := ⟨cb_in (cb_t3 (List.mem_of_getElem? (i := 110) rfl)) rfl, cb_in (cb_t3 (List.mem_of_getElem? (i := 108) rfl)) rfl, cb_in (cb_t3 (List.mem_of_getElem? (i := 109) rfl)) rfl, cb_in (cb_t1 (List.mem_of_getElem? (i := 4) rfl)) rfl, ⟨by decide +kernel, by decide +kernel, by decide +kernel⟩⟩
theorem mw_X7_placeAfter : cb_sw yX7_placeAfter cX7_placeAfter 4 (some .int) 3 := ⟨cb_in (cb_t3 (List.mem_of_getElem? (i := 113) rfl)) rfl, cb_in (cb_t3 (List.mem_of_getElem? (i := 112) rfl)) rfl, cb_in (cb_t1 (List.mem_of_getElem? (i := 1) rfl)) rfl, ⟨by decide +kernel, by decide +kernel, by decide +kernel⟩⟩
theorem mw_X7_drawer : cb_vw yX7_drawer cX7_drawer 2 (some .int) 1 := ⟨cb_in (cb_t3 (List.mem_of_getElem? (i := 117) rfl)) rfl, cb_in (cb_t3 (List.mem_of_getElem? (i := 115) rfl)) rfl, cb_in (cb_t3 (List.mem_of_getElem? (i := 116) rfl)) rfl, cb_in (cb_t1 (List.mem_of_getElem? (i := 1) rfl)) rfl, ⟨by decide +kernel, by decide +kernel, by decide +kernel⟩⟩
theorem mw_X4_putAway : cb_vw yX4_putAway cX4_putAway 3 (some .int) 1 := ⟨cb_in (cb_t3 (List.mem_of_getElem? (i := 121) rfl)) rfl, cb_in (cb_t3 (List.mem_of_getElem? (i := 119) rfl)) rfl, cb_in (cb_t3 (List.mem_of_getElem? (i := 120) rfl)) rfl, cb_in (cb_t1 (List.mem_of_getElem? (i := 4) rfl)) rfl, ⟨by decide +kernel, by decide +kernel, by decide +kernel⟩⟩
theorem mw_X7_out : cb_vw yX7_out cX7_out 2 (some .int) 1 := ⟨cb_in (cb_t3 (List.mem_of_getElem? (i := 125) rfl)) rfl, cb_in (cb_t3 (List.mem_of_getElem? (i := 123) rfl)) rfl, cb_in (cb_t3 (List.mem_of_getElem? (i := 124) rfl)) rfl, cb_in (cb_t1 (List.mem_of_getElem? (i := 1) rfl)) rfl, ⟨by decide +kernel, by decide +kernel, by decide +kernel⟩⟩
theorem mw_X4_takeOut : cb_vw yX4_takeOut cX4_takeOut 2 none 1 := ⟨cb_in (cb_t3 (List.mem_of_getElem? (i := 129) rfl)) rfl, cb_in (cb_t3 (List.mem_of_getElem? (i := 127) rfl)) rfl, cb_in (cb_t3 (List.mem_of_getElem? (i := 128) rfl)) rfl, cb_in (cb_t1 (List.mem_of_getElem? (i := 4) rfl)) rfl, ⟨by decide +kernel, by decide +kernel, by decide +kernel⟩⟩
theorem mw_X7_drift : cb_vw yX7_drift cX7_drift 3 (some .int) 1 := ⟨cb_in (cb_t3 (List.mem_of_getElem? (i := 133) rfl)) rfl, cb_in (cb_t3 (List.mem_of_getElem? (i := 131) rfl)) rfl, cb_in (cb_t3 (List.mem_of_getElem? (i := 132) rfl)) rfl, cb_in (cb_t1 (List.mem_of_getElem? (i := 1) rfl)) rfl, ⟨by decide +kernel, by decide +kernel, by decide +kernel⟩⟩
theorem mw_X7_driftOnce : cb_vw yX7_driftOnce cX7_driftOnce 4 none 0 := ⟨cb_in (cb_t3 (List.mem_of_getElem? (i := 137) rfl)) rfl, cb_in (cb_t3 (List.mem_of_getElem? (i := 136) rfl)) rfl, cb_sel (n := 10) (cb_pv2 (List.mem_of_getElem? (i := 7) rfl)), cb_in (cb_t1 (List.mem_of_getElem? (i := 1) rfl)) rfl, ⟨by decide +kernel, by decide +kernel, by decide +kernel⟩⟩
theorem mw_X7_nextDraw : cb_vw yX7_nextDraw cX7_nextDraw 2 (some .int) 1 := ⟨cb_in (cb_t3 (List.mem_of_getElem? (i := 141) rfl)) rfl, cb_in (cb_t3 (List.mem_of_getElem? (i := 140) rfl)) rfl, cb_sel (n := 10) (cb_pv2 (List.mem_of_getElem? (i := 8) rfl)), cb_in (cb_t1 (List.mem_of_getElem? (i := 1) rfl)) rfl, ⟨by decide +kernel, by decide +kernel, by decide +kernel⟩⟩
theorem mw_X7_undo : cb_vw yX7_undo cX7_undo 1 (some .int) 0 := ⟨cb_in (cb_t3 (List.mem_of_getElem? (i := 148) rfl)) rfl, cb_in (cb_t3 (List.mem_of_getElem? (i := 146) rfl)) rfl, cb_in (cb_t3 (List.mem_of_getElem? (i := 147) rfl)) rfl, cb_in (cb_t1 (List.mem_of_getElem? (i := 1) rfl)) rfl, ⟨by decide +kernel, by decide +kernel, by decide +kernel⟩⟩
theorem mw_X3_pop : cb_vw yX3_pop cX3_pop 2 none 1 := ⟨cb_in (cb_t3 (List.mem_of_getElem? (i := 152) rfl)) rfl, cb_in (cb_t3 (List.mem_of_getElem? (i := 150) rfl)) rfl, cb_in (cb_t3 (List.mem_of_getElem? (i := 151) rfl)) rfl, cb_in (cb_t1 (List.mem_of_getElem? (i := 6) rfl)) rfl, ⟨by decide +kernel, by decide +kernel, by decide +kernel⟩⟩
theorem mw_X7_beats : cb_vw yX7_beats cX7_beats 4 (some .int) 2 := ⟨cb_in (cb_t3 (List.mem_of_getElem? (i := 156) rfl)) rfl, cb_in (cb_t3 (List.mem_of_getElem? (i := 154) rfl)) rfl, cb_in (cb_t3 (List.mem_of_getElem? (i := 155) rfl)) rfl, cb_in (cb_t1 (List.mem_of_getElem? (i := 1) rfl)) rfl, ⟨by decide +kernel, by decide +kernel, by decide +kernel⟩⟩
theorem mw_X7_rings : cb_vw yX7_rings cX7_rings 6 (some .int) 1 := ⟨cb_in (cb_t3 (List.mem_of_getElem? (i := 160) rfl)) rfl, cb_in (cb_t3 (List.mem_of_getElem? (i := 158) rfl)) rfl, cb_in (cb_t3 (List.mem_of_getElem? (i := 159) rfl)) rfl, cb_in (cb_t1 (List.mem_of_getElem? (i := 1) rfl)) rfl, ⟨by decide +kernel, by decide +kernel, by decide +kernel⟩⟩
theorem mw_X7_isRing : cb_vw yX7_isRing cX7_isRing 4 (some .boolean) 3 := ⟨cb_in (cb_t3 (List.mem_of_getElem? (i := 164) rfl)) rfl, cb_in (cb_t3 (List.mem_of_getElem? (i := 163) rfl)) rfl, cb_sel (n := 10) (cb_pv2 (List.mem_of_getElem? (i := 9) rfl)), cb_in (cb_t1 (List.mem_of_getElem? (i := 1) rfl)) rfl, ⟨by decide +kernel, by decide +kernel, by decide +kernel⟩⟩
theorem mw_X7_order : cb_vw yX7_order cX7_order 4 (some .int) 1 := ⟨cb_in (cb_t3 (List.mem_of_getElem? (i := 168) rfl)) rfl, cb_in (cb_t3 (List.mem_of_getElem? (i := 166) rfl)) rfl, cb_in (cb_t3 (List.mem_of_getElem? (i := 167) rfl)) rfl, cb_in (cb_t1 (List.mem_of_getElem? (i := 1) rfl)) rfl, ⟨by decide +kernel, by decide +kernel, by decide +kernel⟩⟩
theorem mw_X7_orderFrom : cb_vw yX7_orderFrom cX7_orderFrom 7 (some .int) 4 := ⟨cb_in (cb_t3 (List.mem_of_getElem? (i := 173) rfl)) rfl, cb_in (cb_t3 (List.mem_of_getElem? (i := 172) rfl)) rfl, cb_sel (n := 10) (cb_pv2 (List.mem_of_getElem? (i := 10) rfl)), cb_in (cb_t1 (List.mem_of_getElem? (i := 1) rfl)) rfl, ⟨by decide +kernel, by decide +kernel, by decide +kernel⟩⟩
theorem mw_X7_setWins : cb_vw yX7_setWins cX7_setWins 5 (some .boolean) 1 := ⟨cb_in (cb_t3 (List.mem_of_getElem? (i := 177) rfl)) rfl, cb_in (cb_t3 (List.mem_of_getElem? (i := 176) rfl)) rfl, cb_sel (n := 10) (cb_pv2 (List.mem_of_getElem? (i := 11) rfl)), cb_in (cb_t1 (List.mem_of_getElem? (i := 1) rfl)) rfl, ⟨by decide +kernel, by decide +kernel, by decide +kernel⟩⟩
theorem mw_X7_wouldBe : cb_vw yX7_wouldBe cX7_wouldBe 2 (some .int) 1 := ⟨cb_in (cb_t3 (List.mem_of_getElem? (i := 181) rfl)) rfl, cb_in (cb_t3 (List.mem_of_getElem? (i := 180) rfl)) rfl, cb_sel (n := 10) (cb_pv2 (List.mem_of_getElem? (i := 12) rfl)), cb_in (cb_t1 (List.mem_of_getElem? (i := 1) rfl)) rfl, ⟨by decide +kernel, by decide +kernel, by decide +kernel⟩⟩
theorem mw_X7_isNoHindrance : cb_vw yX7_isNoHindrance cX7_isNoHindrance 7 (some .boolean) 2 := ⟨cb_in (cb_t3 (List.mem_of_getElem? (i := 185) rfl)) rfl, cb_in (cb_t3 (List.mem_of_getElem? (i := 184) rfl)) rfl, cb_sel (n := 10) (cb_pv2 (List.mem_of_getElem? (i := 13) rfl)), cb_in (cb_t1 (List.mem_of_getElem? (i := 1) rfl)) rfl, ⟨by decide +kernel, by decide +kernel, by decide +kernel⟩⟩
theorem mw_X7_row : cb_vw yX7_row cX7_row 6 (some .int) 3 := ⟨cb_in (cb_t3 (List.mem_of_getElem? (i := 189) rfl)) rfl, cb_in (cb_t3 (List.mem_of_getElem? (i := 187) rfl)) rfl, cb_in (cb_t3 (List.mem_of_getElem? (i := 188) rfl)) rfl, cb_in (cb_t1 (List.mem_of_getElem? (i := 1) rfl)) rfl, ⟨by decide +kernel, by decide +kernel, by decide +kernel⟩⟩
theorem mw_X7_countSteps : cb_vw yX7_countSteps cX7_countSteps 4 none 1 := ⟨cb_in (cb_t3 (List.mem_of_getElem? (i := 193) rfl)) rfl, cb_in (cb_t3 (List.mem_of_getElem? (i := 192) rfl)) rfl, cb_sel (n := 10) (cb_pv2 (List.mem_of_getElem? (i := 14) rfl)), cb_in (cb_t1 (List.mem_of_getElem? (i := 1) rfl)) rfl, ⟨by decide +kernel, by decide +kernel, by decide +kernel⟩⟩
theorem mw_X7_stepsFrom : cb_vw yX7_stepsFrom cX7_stepsFrom 2 (some .int) 1 := ⟨cb_in (cb_t3 (List.mem_of_getElem? (i := 198) rfl)) rfl, cb_in (cb_t3 (List.mem_of_getElem? (i := 197) rfl)) rfl, cb_sel (n := 10) (cb_pv2 (List.mem_of_getElem? (i := 15) rfl)), cb_in (cb_t1 (List.mem_of_getElem? (i := 1) rfl)) rfl, ⟨by decide +kernel, by decide +kernel, by decide +kernel⟩⟩
theorem mw_X7_stepTo : cb_vw yX7_stepTo cX7_stepTo 4 (some .int) 2 := ⟨cb_in (cb_t3 (List.mem_of_getElem? (i := 202) rfl)) rfl, cb_in (cb_t3 (List.mem_of_getElem? (i := 201) rfl)) rfl, cb_sel (n := 10) (cb_pv3 (List.mem_of_getElem? (i := 0) rfl)), cb_in (cb_t1 (List.mem_of_getElem? (i := 1) rfl)) rfl, ⟨by decide +kernel, by decide +kernel, by decide +kernel⟩⟩
theorem mw_X7_firstStep : cb_vw yX7_firstStep cX7_firstStep 3 (some .int) 2 := ⟨cb_in (cb_t3 (List.mem_of_getElem? (i := 207) rfl)) rfl, cb_in (cb_t3 (List.mem_of_getElem? (i := 206) rfl)) rfl, cb_sel (n := 10) (cb_pv3 (List.mem_of_getElem? (i := 1) rfl)), cb_in (cb_t1 (List.mem_of_getElem? (i := 1) rfl)) rfl, ⟨by decide +kernel, by decide +kernel, by decide +kernel⟩⟩
theorem mw_X7_tells : cb_vw yX7_tells cX7_tells 7 (some .int) 0 := ⟨cb_in (cb_t3 (List.mem_of_getElem? (i := 211) rfl)) rfl, cb_in (cb_t3 (List.mem_of_getElem? (i := 209) rfl)) rfl, cb_in (cb_t3 (List.mem_of_getElem? (i := 210) rfl)) rfl, cb_in (cb_t1 (List.mem_of_getElem? (i := 1) rfl)) rfl, ⟨by decide +kernel, by decide +kernel, by decide +kernel⟩⟩
theorem mw_X7_greatestPart : cb_vw yX7_greatestPart cX7_greatestPart 9 (some .int) 3 := ⟨cb_in (cb_t3 (List.mem_of_getElem? (i := 215) rfl)) rfl, cb_in (cb_t3 (List.mem_of_getElem? (i := 214) rfl)) rfl, cb_sel (n := 10) (cb_pv3 (List.mem_of_getElem? (i := 2) rfl)), cb_in (cb_t1 (List.mem_of_getElem? (i := 1) rfl)) rfl, ⟨by decide +kernel, by decide +kernel, by decide +kernel⟩⟩
theorem mw_J9_max_7cf53 : cb_sw yJ9_max_7cf53 cJ9_max_7cf53 2 (some .int) 2 := ⟨cb_in (cb_t3 (List.mem_of_getElem? (i := 218) rfl)) rfl, cb_in (cb_t3 (List.mem_of_getElem? (i := 217) rfl)) rfl, cb_in (cb_t1 (List.mem_of_getElem? (i := 12) rfl)) rfl, ⟨by decide +kernel, by decide +kernel, by decide +kernel⟩⟩
theorem mw_X7_odds : cb_vw yX7_odds cX7_odds 5 (some .int) 2 := ⟨cb_in (cb_t3 (List.mem_of_getElem? (i := 222) rfl)) rfl, cb_in (cb_t3 (List.mem_of_getElem? (i := 220) rfl)) rfl, cb_in (cb_t3 (List.mem_of_getElem? (i := 221) rfl)) rfl, cb_in (cb_t1 (List.mem_of_getElem? (i := 1) rfl)) rfl, ⟨by decide +kernel, by decide +kernel, by decide +kernel⟩⟩
theorem mw_X7_back : cb_vw yX7_back cX7_back 4 (some .int) 1 := ⟨cb_in (cb_t3 (List.mem_of_getElem? (i := 227) rfl)) rfl, cb_in (cb_t3 (List.mem_of_getElem? (i := 225) rfl)) rfl, cb_in (cb_t3 (List.mem_of_getElem? (i := 226) rfl)) rfl, cb_in (cb_t1 (List.mem_of_getElem? (i := 1) rfl)) rfl, ⟨by decide +kernel, by decide +kernel, by decide +kernel⟩⟩
theorem mw_X7_missing : cb_vw yX7_missing cX7_missing 4 (some .int) 1 := ⟨cb_in (cb_t3 (List.mem_of_getElem? (i := 231) rfl)) rfl, cb_in (cb_t3 (List.mem_of_getElem? (i := 229) rfl)) rfl, cb_in (cb_t3 (List.mem_of_getElem? (i := 230) rfl)) rfl, cb_in (cb_t1 (List.mem_of_getElem? (i := 1) rfl)) rfl, ⟨by decide +kernel, by decide +kernel, by decide +kernel⟩⟩
theorem mw_X7_wanted : cb_vw yX7_wanted cX7_wanted 6 (some .int) 1 := ⟨cb_in (cb_t3 (List.mem_of_getElem? (i := 236) rfl)) rfl, cb_in (cb_t3 (List.mem_of_getElem? (i := 234) rfl)) rfl, cb_in (cb_t3 (List.mem_of_getElem? (i := 235) rfl)) rfl, cb_in (cb_t1 (List.mem_of_getElem? (i := 1) rfl)) rfl, ⟨by decide +kernel, by decide +kernel, by decide +kernel⟩⟩
theorem mw_X7_see : cb_vw yX7_see cX7_see 4 (some .int) 3 := ⟨cb_in (cb_t4 (List.mem_of_getElem? (i := 0) rfl)) rfl, cb_in (cb_t3 (List.mem_of_getElem? (i := 238) rfl)) rfl, cb_in (cb_t3 (List.mem_of_getElem? (i := 239) rfl)) rfl, cb_in (cb_t1 (List.mem_of_getElem? (i := 1) rfl)) rfl, ⟨by decide +kernel, by decide +kernel, by decide +kernel⟩⟩
theorem mw_X2_addSeen : cb_vw yX2_addSeen cX2_addSeen 4 (some .boolean) 3 := ⟨cb_in (cb_t4 (List.mem_of_getElem? (i := 4) rfl)) rfl, cb_in (cb_t4 (List.mem_of_getElem? (i := 2) rfl)) rfl, cb_in (cb_t4 (List.mem_of_getElem? (i := 3) rfl)) rfl, cb_in (cb_t1 (List.mem_of_getElem? (i := 7) rfl)) rfl, ⟨by decide +kernel, by decide +kernel, by decide +kernel⟩⟩
theorem mw_X7_deals : cb_vw yX7_deals cX7_deals 3 (some .int) 2 := ⟨cb_in (cb_t4 (List.mem_of_getElem? (i := 8) rfl)) rfl, cb_in (cb_t4 (List.mem_of_getElem? (i := 6) rfl)) rfl, cb_in (cb_t4 (List.mem_of_getElem? (i := 7) rfl)) rfl, cb_in (cb_t1 (List.mem_of_getElem? (i := 1) rfl)) rfl, ⟨by decide +kernel, by decide +kernel, by decide +kernel⟩⟩
theorem mw_X0_lay : cb_vw yX0_lay cX0_lay 6 none 4 := ⟨cb_in (cb_t4 (List.mem_of_getElem? (i := 12) rfl)) rfl, cb_in (cb_t4 (List.mem_of_getElem? (i := 10) rfl)) rfl, cb_in (cb_t4 (List.mem_of_getElem? (i := 11) rfl)) rfl, cb_in (cb_t1 (List.mem_of_getElem? (i := 8) rfl)) rfl, ⟨by decide +kernel, by decide +kernel, by decide +kernel⟩⟩
theorem mw_X0_layFrom : cb_vw yX0_layFrom cX0_layFrom 6 none 4 := ⟨cb_in (cb_t4 (List.mem_of_getElem? (i := 19) rfl)) rfl, cb_in (cb_t4 (List.mem_of_getElem? (i := 18) rfl)) rfl, cb_sel (n := 7) (cb_pv3 (List.mem_of_getElem? (i := 3) rfl)), cb_in (cb_t1 (List.mem_of_getElem? (i := 8) rfl)) rfl, ⟨by decide +kernel, by decide +kernel, by decide +kernel⟩⟩
theorem mw_X0_isAsSeen : cb_vw yX0_isAsSeen cX0_isAsSeen 6 (some .boolean) 2 := ⟨cb_in (cb_t4 (List.mem_of_getElem? (i := 23) rfl)) rfl, cb_in (cb_t4 (List.mem_of_getElem? (i := 22) rfl)) rfl, cb_sel (n := 7) (cb_pv3 (List.mem_of_getElem? (i := 4) rfl)), cb_in (cb_t1 (List.mem_of_getElem? (i := 8) rfl)) rfl, ⟨by decide +kernel, by decide +kernel, by decide +kernel⟩⟩
theorem mw_X2_firstSeen : cb_vw yX2_firstSeen cX2_firstSeen 2 (some .int) 1 := ⟨cb_in (cb_t4 (List.mem_of_getElem? (i := 27) rfl)) rfl, cb_in (cb_t4 (List.mem_of_getElem? (i := 25) rfl)) rfl, cb_in (cb_t4 (List.mem_of_getElem? (i := 26) rfl)) rfl, cb_in (cb_t1 (List.mem_of_getElem? (i := 7) rfl)) rfl, ⟨by decide +kernel, by decide +kernel, by decide +kernel⟩⟩
theorem mw_X2_entry : cb_sw yX2_entry cX2_entry 3 (some .int) 3 := ⟨cb_in (cb_t4 (List.mem_of_getElem? (i := 30) rfl)) rfl, cb_in (cb_t4 (List.mem_of_getElem? (i := 29) rfl)) rfl, cb_in (cb_t1 (List.mem_of_getElem? (i := 7) rfl)) rfl, ⟨by decide +kernel, by decide +kernel, by decide +kernel⟩⟩
theorem mw_X0_cardBefore : cb_vw yX0_cardBefore cX0_cardBefore 2 (some .int) 1 := ⟨cb_in (cb_t4 (List.mem_of_getElem? (i := 34) rfl)) rfl, cb_in (cb_t4 (List.mem_of_getElem? (i := 33) rfl)) rfl, cb_sel (n := 7) (cb_pv3 (List.mem_of_getElem? (i := 5) rfl)), cb_in (cb_t1 (List.mem_of_getElem? (i := 8) rfl)) rfl, ⟨by decide +kernel, by decide +kernel, by decide +kernel⟩⟩
theorem mw_X2_secondSeen : cb_vw yX2_secondSeen cX2_secondSeen 2 (some .int) 1 := ⟨cb_in (cb_t4 (List.mem_of_getElem? (i := 38) rfl)) rfl, cb_in (cb_t4 (List.mem_of_getElem? (i := 36) rfl)) rfl, cb_in (cb_t4 (List.mem_of_getElem? (i := 37) rfl)) rfl, cb_in (cb_t1 (List.mem_of_getElem? (i := 7) rfl)) rfl, ⟨by decide +kernel, by decide +kernel, by decide +kernel⟩⟩
theorem mw_X2_whoSeen : cb_vw yX2_whoSeen cX2_whoSeen 2 (some .int) 1 := ⟨cb_in (cb_t4 (List.mem_of_getElem? (i := 43) rfl)) rfl, cb_in (cb_t4 (List.mem_of_getElem? (i := 41) rfl)) rfl, cb_in (cb_t4 (List.mem_of_getElem? (i := 42) rfl)) rfl, cb_in (cb_t1 (List.mem_of_getElem? (i := 7) rfl)) rfl, ⟨by decide +kernel, by decide +kernel, by decide +kernel⟩⟩
theorem mw_X0_countThis : cb_vw yX0_countThis cX0_countThis 5 none 1 := ⟨cb_in (cb_t4 (List.mem_of_getElem? (i := 47) rfl)) rfl, cb_in (cb_t4 (List.mem_of_getElem? (i := 46) rfl)) rfl, cb_sel (n := 7) (cb_pv3 (List.mem_of_getElem? (i := 6) rfl)), cb_in (cb_t1 (List.mem_of_getElem? (i := 8) rfl)) rfl, ⟨by decide +kernel, by decide +kernel, by decide +kernel⟩⟩
theorem mw_X0_partOf : cb_sw yX0_partOf cX0_partOf 3 (some .int) 3 := ⟨cb_in (cb_t4 (List.mem_of_getElem? (i := 50) rfl)) rfl, cb_in (cb_t4 (List.mem_of_getElem? (i := 49) rfl)) rfl, cb_in (cb_t1 (List.mem_of_getElem? (i := 8) rfl)) rfl, ⟨by decide +kernel, by decide +kernel, by decide +kernel⟩⟩
theorem mw_X0_sureOf : cb_vw yX0_sureOf cX0_sureOf 2 (some .int) 1 := ⟨cb_in (cb_t4 (List.mem_of_getElem? (i := 54) rfl)) rfl, cb_in (cb_t4 (List.mem_of_getElem? (i := 52) rfl)) rfl, cb_in (cb_t4 (List.mem_of_getElem? (i := 53) rfl)) rfl, cb_in (cb_t1 (List.mem_of_getElem? (i := 8) rfl)) rfl, ⟨by decide +kernel, by decide +kernel, by decide +kernel⟩⟩
theorem mw_X7_ask : cb_vw yX7_ask cX7_ask 2 (some .int) 1 := ⟨cb_in (cb_t4 (List.mem_of_getElem? (i := 58) rfl)) rfl, cb_in (cb_t4 (List.mem_of_getElem? (i := 56) rfl)) rfl, cb_in (cb_t4 (List.mem_of_getElem? (i := 57) rfl)) rfl, cb_in (cb_t1 (List.mem_of_getElem? (i := 1) rfl)) rfl, ⟨by decide +kernel, by decide +kernel, by decide +kernel⟩⟩
theorem mw_X0_bestPair : cb_vw yX0_bestPair cX0_bestPair 6 (some .int) 0 := ⟨cb_in (cb_t4 (List.mem_of_getElem? (i := 62) rfl)) rfl, cb_in (cb_t4 (List.mem_of_getElem? (i := 60) rfl)) rfl, cb_in (cb_t4 (List.mem_of_getElem? (i := 61) rfl)) rfl, cb_in (cb_t1 (List.mem_of_getElem? (i := 8) rfl)) rfl, ⟨by decide +kernel, by decide +kernel, by decide +kernel⟩⟩
theorem mw_X0_greatest : cb_vw yX0_greatest cX0_greatest 6 (some .int) 2 := ⟨cb_in (cb_t4 (List.mem_of_getElem? (i := 66) rfl)) rfl, cb_in (cb_t4 (List.mem_of_getElem? (i := 65) rfl)) rfl, cb_sel (n := 7) (cb_pv3 (List.mem_of_getElem? (i := 7) rfl)), cb_in (cb_t1 (List.mem_of_getElem? (i := 8) rfl)) rfl, ⟨by decide +kernel, by decide +kernel, by decide +kernel⟩⟩
theorem mw_X7_write : cb_vw yX7_write cX7_write 3 (some .int) 2 := ⟨cb_in (cb_t4 (List.mem_of_getElem? (i := 71) rfl)) rfl, cb_in (cb_t4 (List.mem_of_getElem? (i := 69) rfl)) rfl, cb_in (cb_t4 (List.mem_of_getElem? (i := 70) rfl)) rfl, cb_in (cb_t1 (List.mem_of_getElem? (i := 1) rfl)) rfl, ⟨by decide +kernel, by decide +kernel, by decide +kernel⟩⟩
theorem mw_X2_addWritten : cb_vw yX2_addWritten cX2_addWritten 3 (some .boolean) 2 := ⟨cb_in (cb_t4 (List.mem_of_getElem? (i := 75) rfl)) rfl, cb_in (cb_t4 (List.mem_of_getElem? (i := 73) rfl)) rfl, cb_in (cb_t4 (List.mem_of_getElem? (i := 74) rfl)) rfl, cb_in (cb_t1 (List.mem_of_getElem? (i := 7) rfl)) rfl, ⟨by decide +kernel, by decide +kernel, by decide +kernel⟩⟩
theorem mw_X7_tear : cb_vw yX7_tear cX7_tear 2 (some .int) 0 := ⟨cb_in (cb_t4 (List.mem_of_getElem? (i := 79) rfl)) rfl, cb_in (cb_t4 (List.mem_of_getElem? (i := 77) rfl)) rfl, cb_in (cb_t4 (List.mem_of_getElem? (i := 78) rfl)) rfl, cb_in (cb_t1 (List.mem_of_getElem? (i := 1) rfl)) rfl, ⟨by decide +kernel, by decide +kernel, by decide +kernel⟩⟩
theorem mw_X7_judge : cb_vw yX7_judge cX7_judge 2 (some .int) 0 := ⟨cb_in (cb_t4 (List.mem_of_getElem? (i := 83) rfl)) rfl, cb_in (cb_t4 (List.mem_of_getElem? (i := 81) rfl)) rfl, cb_in (cb_t4 (List.mem_of_getElem? (i := 82) rfl)) rfl, cb_in (cb_t1 (List.mem_of_getElem? (i := 1) rfl)) rfl, ⟨by decide +kernel, by decide +kernel, by decide +kernel⟩⟩
theorem mw_X2_writtenPerson : cb_vw yX2_writtenPerson cX2_writtenPerson 2 (some .int) 1 := ⟨cb_in (cb_t4 (List.mem_of_getElem? (i := 87) rfl)) rfl, cb_in (cb_t4 (List.mem_of_getElem? (i := 85) rfl)) rfl, cb_in (cb_t4 (List.mem_of_getElem? (i := 86) rfl)) rfl, cb_in (cb_t1 (List.mem_of_getElem? (i := 7) rfl)) rfl, ⟨by decide +kernel, by decide +kernel, by decide +kernel⟩⟩
theorem mw_X2_writtenCard : cb_vw yX2_writtenCard cX2_writtenCard 2 (some .int) 1 := ⟨cb_in (cb_t4 (List.mem_of_getElem? (i := 91) rfl)) rfl, cb_in (cb_t4 (List.mem_of_getElem? (i := 89) rfl)) rfl, cb_in (cb_t4 (List.mem_of_getElem? (i := 90) rfl)) rfl, cb_in (cb_t1 (List.mem_of_getElem? (i := 7) rfl)) rfl, ⟨by decide +kernel, by decide +kernel, by decide +kernel⟩⟩
theorem mw_X7_seed : cb_vw yX7_seed cX7_seed 3 (some .int) 1 := ⟨cb_in (cb_t4 (List.mem_of_getElem? (i := 95) rfl)) rfl, cb_in (cb_t4 (List.mem_of_getElem? (i := 93) rfl)) rfl, cb_in (cb_t4 (List.mem_of_getElem? (i := 94) rfl)) rfl, cb_in (cb_t1 (List.mem_of_getElem? (i := 1) rfl)) rfl, ⟨by decide +kernel, by decide +kernel, by decide +kernel⟩⟩
theorem mw_X7_keep : cb_vw yX7_keep cX7_keep 2 (some .int) 1 := ⟨cb_in (cb_t4 (List.mem_of_getElem? (i := 99) rfl)) rfl, cb_in (cb_t4 (List.mem_of_getElem? (i := 97) rfl)) rfl, cb_in (cb_t4 (List.mem_of_getElem? (i := 98) rfl)) rfl, cb_in (cb_t1 (List.mem_of_getElem? (i := 1) rfl)) rfl, ⟨by decide +kernel, by decide +kernel, by decide +kernel⟩⟩
theorem mw_X7_goBack : cb_vw yX7_goBack cX7_goBack 2 (some .int) 1 := ⟨cb_in (cb_t4 (List.mem_of_getElem? (i := 104) rfl)) rfl, cb_in (cb_t4 (List.mem_of_getElem? (i := 102) rfl)) rfl, cb_in (cb_t4 (List.mem_of_getElem? (i := 103) rfl)) rfl, cb_in (cb_t1 (List.mem_of_getElem? (i := 1) rfl)) rfl, ⟨by decide +kernel, by decide +kernel, by decide +kernel⟩⟩
theorem mw_X8_feed : cb_vw yX8_feed cX8_feed 2 (some .int) 1 := ⟨cb_in (cb_t4 (List.mem_of_getElem? (i := 236) rfl)) rfl, cb_in (cb_t4 (List.mem_of_getElem? (i := 234) rfl)) rfl, cb_in (cb_t4 (List.mem_of_getElem? (i := 235) rfl)) rfl, cb_in (cb_t1 (List.mem_of_getElem? (i := 10) rfl)) rfl, ⟨by decide +kernel, by decide +kernel, by decide +kernel⟩⟩
theorem mw_X8_in : cb_sw yX8_in cX8_in 6 (some .boolean) 3 := ⟨cb_in (cb_t5 (List.mem_of_getElem? (i := 0) rfl)) rfl, cb_in (cb_t4 (List.mem_of_getElem? (i := 239) rfl)) rfl, cb_in (cb_t1 (List.mem_of_getElem? (i := 10) rfl)) rfl, ⟨by decide +kernel, by decide +kernel, by decide +kernel⟩⟩
theorem mw_X8_table : cb_vw yX8_table cX8_table 2 (some .int) 0 := ⟨cb_in (cb_t5 (List.mem_of_getElem? (i := 6) rfl)) rfl, cb_in (cb_t5 (List.mem_of_getElem? (i := 4) rfl)) rfl, cb_in (cb_t5 (List.mem_of_getElem? (i := 5) rfl)) rfl, cb_in (cb_t1 (List.mem_of_getElem? (i := 10) rfl)) rfl, ⟨by decide +kernel, by decide +kernel, by decide +kernel⟩⟩
theorem mw_X8_here : cb_vw yX8_here cX8_here 1 (some .int) 0 := ⟨cb_in (cb_t5 (List.mem_of_getElem? (i := 10) rfl)) rfl, cb_in (cb_t5 (List.mem_of_getElem? (i := 9) rfl)) rfl, cb_sel (n := 40) (cb_pv3 (List.mem_of_getElem? (i := 8) rfl)), cb_in (cb_t1 (List.mem_of_getElem? (i := 10) rfl)) rfl, ⟨by decide +kernel, by decide +kernel, by decide +kernel⟩⟩
theorem mw_X8_takeClause : cb_vw yX8_takeClause cX8_takeClause 5 (some .int) 0 := ⟨cb_in (cb_t5 (List.mem_of_getElem? (i := 14) rfl)) rfl, cb_in (cb_t5 (List.mem_of_getElem? (i := 13) rfl)) rfl, cb_sel (n := 40) (cb_pv3 (List.mem_of_getElem? (i := 9) rfl)), cb_in (cb_t1 (List.mem_of_getElem? (i := 10) rfl)) rfl, ⟨by decide +kernel, by decide +kernel, by decide +kernel⟩⟩
theorem mw_X8_fails : cb_vw yX8_fails cX8_fails 3 (some .int) 2 := ⟨cb_in (cb_t5 (List.mem_of_getElem? (i := 18) rfl)) rfl, cb_in (cb_t5 (List.mem_of_getElem? (i := 17) rfl)) rfl, cb_sel (n := 40) (cb_pv3 (List.mem_of_getElem? (i := 10) rfl)), cb_in (cb_t1 (List.mem_of_getElem? (i := 10) rfl)) rfl, ⟨by decide +kernel, by decide +kernel, by decide +kernel⟩⟩
theorem mw_X8_takeRules : cb_vw yX8_takeRules cX8_takeRules 2 (some .int) 0 := ⟨cb_in (cb_t5 (List.mem_of_getElem? (i := 22) rfl)) rfl, cb_in (cb_t5 (List.mem_of_getElem? (i := 21) rfl)) rfl, cb_sel (n := 40) (cb_pv3 (List.mem_of_getElem? (i := 11) rfl)), cb_in (cb_t1 (List.mem_of_getElem? (i := 10) rfl)) rfl, ⟨by decide +kernel, by decide +kernel, by decide +kernel⟩⟩
theorem mw_X8_into : cb_vw yX8_into cX8_into 6 (some .int) 4 := ⟨cb_in (cb_t5 (List.mem_of_getElem? (i := 26) rfl)) rfl, cb_in (cb_t5 (List.mem_of_getElem? (i := 25) rfl)) rfl, cb_sel (n := 40) (cb_pv3 (List.mem_of_getElem? (i := 12) rfl)), cb_in (cb_t1 (List.mem_of_getElem? (i := 10) rfl)) rfl, ⟨by decide +kernel, by decide +kernel, by decide +kernel⟩⟩
theorem mw_X8_takeNumber : cb_vw yX8_takeNumber cX8_takeNumber 4 (some .int) 2 := ⟨cb_in (cb_t5 (List.mem_of_getElem? (i := 30) rfl)) rfl, cb_in (cb_t5 (List.mem_of_getElem? (i := 29) rfl)) rfl, cb_sel (n := 40) (cb_pv3 (List.mem_of_getElem? (i := 13) rfl)), cb_in (cb_t1 (List.mem_of_getElem? (i := 10) rfl)) rfl, ⟨by decide +kernel, by decide +kernel, by decide +kernel⟩⟩
theorem mw_X8_takeCard : cb_vw yX8_takeCard cX8_takeCard 4 (some .int) 0 := ⟨cb_in (cb_t5 (List.mem_of_getElem? (i := 36) rfl)) rfl, cb_in (cb_t5 (List.mem_of_getElem? (i := 35) rfl)) rfl, cb_sel (n := 40) (cb_pv3 (List.mem_of_getElem? (i := 14) rfl)), cb_in (cb_t1 (List.mem_of_getElem? (i := 10) rfl)) rfl, ⟨by decide +kernel, by decide +kernel, by decide +kernel⟩⟩
theorem mw_X8_takePerson : cb_vw yX8_takePerson cX8_takePerson 1 (some .int) 0 := ⟨cb_in (cb_t5 (List.mem_of_getElem? (i := 40) rfl)) rfl, cb_in (cb_t5 (List.mem_of_getElem? (i := 39) rfl)) rfl, cb_sel (n := 40) (cb_pv3 (List.mem_of_getElem? (i := 15) rfl)), cb_in (cb_t1 (List.mem_of_getElem? (i := 10) rfl)) rfl, ⟨by decide +kernel, by decide +kernel, by decide +kernel⟩⟩
theorem mw_X8_takeRead : cb_vw yX8_takeRead cX8_takeRead 2 none 0 := ⟨cb_in (cb_t5 (List.mem_of_getElem? (i := 44) rfl)) rfl, cb_in (cb_t5 (List.mem_of_getElem? (i := 43) rfl)) rfl, cb_sel (n := 40) (cb_pv4 (List.mem_of_getElem? (i := 0) rfl)), cb_in (cb_t1 (List.mem_of_getElem? (i := 10) rfl)) rfl, ⟨by decide +kernel, by decide +kernel, by decide +kernel⟩⟩
theorem mw_X8_fault : cb_vw yX8_fault cX8_fault 1 (some .int) 0 := ⟨cb_in (cb_t5 (List.mem_of_getElem? (i := 48) rfl)) rfl, cb_in (cb_t5 (List.mem_of_getElem? (i := 46) rfl)) rfl, cb_in (cb_t5 (List.mem_of_getElem? (i := 47) rfl)) rfl, cb_in (cb_t1 (List.mem_of_getElem? (i := 10) rfl)) rfl, ⟨by decide +kernel, by decide +kernel, by decide +kernel⟩⟩
theorem mw_X8_told : cb_vw yX8_told cX8_told 2 (some .int) 1 := ⟨cb_in (cb_t5 (List.mem_of_getElem? (i := 52) rfl)) rfl, cb_in (cb_t5 (List.mem_of_getElem? (i := 50) rfl)) rfl, cb_in (cb_t5 (List.mem_of_getElem? (i := 51) rfl)) rfl, cb_in (cb_t1 (List.mem_of_getElem? (i := 10) rfl)) rfl, ⟨by decide +kernel, by decide +kernel, by decide +kernel⟩⟩
theorem mw_X8_whoAreCards : cb_vw yX8_whoAreCards cX8_whoAreCards 3 (some .int) 0 := ⟨cb_in (cb_t5 (List.mem_of_getElem? (i := 56) rfl)) rfl, cb_in (cb_t5 (List.mem_of_getElem? (i := 55) rfl)) rfl, cb_sel (n := 40) (cb_pv4 (List.mem_of_getElem? (i := 1) rfl)), cb_in (cb_t1 (List.mem_of_getElem? (i := 10) rfl)) rfl, ⟨by decide +kernel, by decide +kernel, by decide +kernel⟩⟩
theorem mw_X8_ruler : cb_vw yX8_ruler cX8_ruler 5 (some .int) 0 := ⟨cb_in (cb_t5 (List.mem_of_getElem? (i := 60) rfl)) rfl, cb_in (cb_t5 (List.mem_of_getElem? (i := 59) rfl)) rfl, cb_sel (n := 40) (cb_pv4 (List.mem_of_getElem? (i := 2) rfl)), cb_in (cb_t1 (List.mem_of_getElem? (i := 10) rfl)) rfl, ⟨by decide +kernel, by decide +kernel, by decide +kernel⟩⟩
theorem mw_X8_beatenBy : cb_vw yX8_beatenBy cX8_beatenBy 4 (some .int) 1 := ⟨cb_in (cb_t5 (List.mem_of_getElem? (i := 64) rfl)) rfl, cb_in (cb_t5 (List.mem_of_getElem? (i := 63) rfl)) rfl, cb_sel (n := 40) (cb_pv4 (List.mem_of_getElem? (i := 3) rfl)), cb_in (cb_t1 (List.mem_of_getElem? (i := 10) rfl)) rfl, ⟨by decide +kernel, by decide +kernel, by decide +kernel⟩⟩
theorem mw_X8_meetBy : cb_vw yX8_meetBy cX8_meetBy 3 (some .int) 2 := ⟨cb_in (cb_t5 (List.mem_of_getElem? (i := 68) rfl)) rfl, cb_in (cb_t5 (List.mem_of_getElem? (i := 67) rfl)) rfl, cb_sel (n := 40) (cb_pv4 (List.mem_of_getElem? (i := 4) rfl)), cb_in (cb_t1 (List.mem_of_getElem? (i := 10) rfl)) rfl, ⟨by decide +kernel, by decide +kernel, by decide +kernel⟩⟩
theorem mw_X8_cardsMeet : cb_vw yX8_cardsMeet cX8_cardsMeet 3 (some .int) 2 := ⟨cb_in (cb_t5 (List.mem_of_getElem? (i := 72) rfl)) rfl, cb_in (cb_t5 (List.mem_of_getElem? (i := 71) rfl)) rfl, cb_sel (n := 40) (cb_pv4 (List.mem_of_getElem? (i := 5) rfl)), cb_in (cb_t1 (List.mem_of_getElem? (i := 10) rfl)) rfl, ⟨by decide +kernel, by decide +kernel, by decide +kernel⟩⟩
theorem mw_X8_beatsBy : cb_vw yX8_beatsBy cX8_beatsBy 7 (some .int) 4 := ⟨cb_in (cb_t5 (List.mem_of_getElem? (i := 76) rfl)) rfl, cb_in (cb_t5 (List.mem_of_getElem? (i := 75) rfl)) rfl, cb_sel (n := 40) (cb_pv4 (List.mem_of_getElem? (i := 6) rfl)), cb_in (cb_t1 (List.mem_of_getElem? (i := 10) rfl)) rfl, ⟨by decide +kernel, by decide +kernel, by decide +kernel⟩⟩
theorem mw_X8_bits : cb_sw yX8_bits cX8_bits 3 (some .int) 1 := ⟨cb_in (cb_t5 (List.mem_of_getElem? (i := 79) rfl)) rfl, cb_in (cb_t5 (List.mem_of_getElem? (i := 78) rfl)) rfl, cb_in (cb_t1 (List.mem_of_getElem? (i := 10) rfl)) rfl, ⟨by decide +kernel, by decide +kernel, by decide +kernel⟩⟩
theorem mw_X8_heldRules : cb_vw yX8_heldRules cX8_heldRules 3 (some .int) 0 := ⟨cb_in (cb_t5 (List.mem_of_getElem? (i := 83) rfl)) rfl, cb_in (cb_t5 (List.mem_of_getElem? (i := 82) rfl)) rfl, cb_sel (n := 40) (cb_pv4 (List.mem_of_getElem? (i := 7) rfl)), cb_in (cb_t1 (List.mem_of_getElem? (i := 10) rfl)) rfl, ⟨by decide +kernel, by decide +kernel, by decide +kernel⟩⟩
theorem mw_X8_isHeld : cb_vw yX8_isHeld cX8_isHeld 6 (some .boolean) 1 := ⟨cb_in (cb_t5 (List.mem_of_getElem? (i := 87) rfl)) rfl, cb_in (cb_t5 (List.mem_of_getElem? (i := 86) rfl)) rfl, cb_sel (n := 40) (cb_pv4 (List.mem_of_getElem? (i := 8) rfl)), cb_in (cb_t1 (List.mem_of_getElem? (i := 10) rfl)) rfl, ⟨by decide +kernel, by decide +kernel, by decide +kernel⟩⟩
theorem mw_X8_logCard : cb_vw yX8_logCard cX8_logCard 3 (some .int) 2 := ⟨cb_in (cb_t5 (List.mem_of_getElem? (i := 91) rfl)) rfl, cb_in (cb_t5 (List.mem_of_getElem? (i := 90) rfl)) rfl, cb_sel (n := 40) (cb_pv4 (List.mem_of_getElem? (i := 9) rfl)), cb_in (cb_t1 (List.mem_of_getElem? (i := 10) rfl)) rfl, ⟨by decide +kernel, by decide +kernel, by decide +kernel⟩⟩
theorem mw_X8_logWon : cb_vw yX8_logWon cX8_logWon 2 (some .int) 1 := ⟨cb_in (cb_t5 (List.mem_of_getElem? (i := 95) rfl)) rfl, cb_in (cb_t5 (List.mem_of_getElem? (i := 94) rfl)) rfl, cb_sel (n := 40) (cb_pv4 (List.mem_of_getElem? (i := 10) rfl)), cb_in (cb_t1 (List.mem_of_getElem? (i := 10) rfl)) rfl, ⟨by decide +kernel, by decide +kernel, by decide +kernel⟩⟩
theorem mw_X8_card : cb_vw yX8_card cX8_card 3 (some .int) 2 := ⟨cb_in (cb_t5 (List.mem_of_getElem? (i := 99) rfl)) rfl, cb_in (cb_t5 (List.mem_of_getElem? (i := 97) rfl)) rfl, cb_in (cb_t5 (List.mem_of_getElem? (i := 98) rfl)) rfl, cb_in (cb_t1 (List.mem_of_getElem? (i := 10) rfl)) rfl, ⟨by decide +kernel, by decide +kernel, by decide +kernel⟩⟩
theorem mw_X8_isCard : cb_vw yX8_isCard cX8_isCard 2 (some .boolean) 1 := ⟨cb_in (cb_t5 (List.mem_of_getElem? (i := 103) rfl)) rfl, cb_in (cb_t5 (List.mem_of_getElem? (i := 102) rfl)) rfl, cb_sel (n := 40) (cb_pv4 (List.mem_of_getElem? (i := 11) rfl)), cb_in (cb_t1 (List.mem_of_getElem? (i := 10) rfl)) rfl, ⟨by decide +kernel, by decide +kernel, by decide +kernel⟩⟩
theorem mw_X8_placeOf : cb_vw yX8_placeOf cX8_placeOf 3 (some .int) 1 := ⟨cb_in (cb_t5 (List.mem_of_getElem? (i := 108) rfl)) rfl, cb_in (cb_t5 (List.mem_of_getElem? (i := 107) rfl)) rfl, cb_sel (n := 40) (cb_pv4 (List.mem_of_getElem? (i := 12) rfl)), cb_in (cb_t1 (List.mem_of_getElem? (i := 10) rfl)) rfl, ⟨by decide +kernel, by decide +kernel, by decide +kernel⟩⟩
theorem mw_X8_whoIs : cb_vw yX8_whoIs cX8_whoIs 4 (some .int) 1 := ⟨cb_in (cb_t5 (List.mem_of_getElem? (i := 112) rfl)) rfl, cb_in (cb_t5 (List.mem_of_getElem? (i := 111) rfl)) rfl, cb_sel (n := 40) (cb_pv4 (List.mem_of_getElem? (i := 13) rfl)), cb_in (cb_t1 (List.mem_of_getElem? (i := 10) rfl)) rfl, ⟨by decide +kernel, by decide +kernel, by decide +kernel⟩⟩
theorem mw_X8_pack : cb_vw yX8_pack cX8_pack 2 (some .int) 1 := ⟨cb_in (cb_t5 (List.mem_of_getElem? (i := 116) rfl)) rfl, cb_in (cb_t5 (List.mem_of_getElem? (i := 114) rfl)) rfl, cb_in (cb_t5 (List.mem_of_getElem? (i := 115) rfl)) rfl, cb_in (cb_t1 (List.mem_of_getElem? (i := 10) rfl)) rfl, ⟨by decide +kernel, by decide +kernel, by decide +kernel⟩⟩
theorem mw_X8_person : cb_vw yX8_person cX8_person 3 (some .int) 2 := ⟨cb_in (cb_t5 (List.mem_of_getElem? (i := 120) rfl)) rfl, cb_in (cb_t5 (List.mem_of_getElem? (i := 118) rfl)) rfl, cb_in (cb_t5 (List.mem_of_getElem? (i := 119) rfl)) rfl, cb_in (cb_t1 (List.mem_of_getElem? (i := 10) rfl)) rfl, ⟨by decide +kernel, by decide +kernel, by decide +kernel⟩⟩
theorem mw_X8_isPerson : cb_vw yX8_isPerson cX8_isPerson 2 (some .boolean) 1 := ⟨cb_in (cb_t5 (List.mem_of_getElem? (i := 124) rfl)) rfl, cb_in (cb_t5 (List.mem_of_getElem? (i := 123) rfl)) rfl, cb_sel (n := 40) (cb_pv4 (List.mem_of_getElem? (i := 14) rfl)), cb_in (cb_t1 (List.mem_of_getElem? (i := 10) rfl)) rfl, ⟨by decide +kernel, by decide +kernel, by decide +kernel⟩⟩
theorem mw_X8_logged : cb_vw yX8_logged cX8_logged 5 (some .int) 2 := ⟨cb_in (cb_t5 (List.mem_of_getElem? (i := 128) rfl)) rfl, cb_in (cb_t5 (List.mem_of_getElem? (i := 126) rfl)) rfl, cb_in (cb_t5 (List.mem_of_getElem? (i := 127) rfl)) rfl, cb_in (cb_t1 (List.mem_of_getElem? (i := 10) rfl)) rfl, ⟨by decide +kernel, by decide +kernel, by decide +kernel⟩⟩
theorem mw_X8_logOne : cb_vw yX8_logOne cX8_logOne 2 (some .int) 1 := ⟨cb_in (cb_t5 (List.mem_of_getElem? (i := 133) rfl)) rfl, cb_in (cb_t5 (List.mem_of_getElem? (i := 132) rfl)) rfl, cb_sel (n := 40) (cb_pv4 (List.mem_of_getElem? (i := 15) rfl)), cb_in (cb_t1 (List.mem_of_getElem? (i := 10) rfl)) rfl, ⟨by decide +kernel, by decide +kernel, by decide +kernel⟩⟩
theorem mw_X8_logOther : cb_vw yX8_logOther cX8_logOther 2 (some .int) 1 := ⟨cb_in (cb_t5 (List.mem_of_getElem? (i := 137) rfl)) rfl, cb_in (cb_t5 (List.mem_of_getElem? (i := 136) rfl)) rfl, cb_sel (n := 40) (cb_pv5 (List.mem_of_getElem? (i := 0) rfl)), cb_in (cb_t1 (List.mem_of_getElem? (i := 10) rfl)) rfl, ⟨by decide +kernel, by decide +kernel, by decide +kernel⟩⟩
theorem mw_X8_drawOne : cb_vw yX8_drawOne cX8_drawOne 2 (some .int) 1 := ⟨cb_in (cb_t5 (List.mem_of_getElem? (i := 141) rfl)) rfl, cb_in (cb_t5 (List.mem_of_getElem? (i := 139) rfl)) rfl, cb_in (cb_t5 (List.mem_of_getElem? (i := 140) rfl)) rfl, cb_in (cb_t1 (List.mem_of_getElem? (i := 10) rfl)) rfl, ⟨by decide +kernel, by decide +kernel, by decide +kernel⟩⟩
theorem mw_X8_canDraw : cb_vw yX8_canDraw cX8_canDraw 2 (some .boolean) 1 := ⟨cb_in (cb_t5 (List.mem_of_getElem? (i := 145) rfl)) rfl, cb_in (cb_t5 (List.mem_of_getElem? (i := 144) rfl)) rfl, cb_sel (n := 40) (cb_pv5 (List.mem_of_getElem? (i := 1) rfl)), cb_in (cb_t1 (List.mem_of_getElem? (i := 10) rfl)) rfl, ⟨by decide +kernel, by decide +kernel, by decide +kernel⟩⟩
theorem mw_X8_remember : cb_vw yX8_remember cX8_remember 2 none 0 := ⟨cb_in (cb_t5 (List.mem_of_getElem? (i := 150) rfl)) rfl, cb_in (cb_t5 (List.mem_of_getElem? (i := 149) rfl)) rfl, cb_sel (n := 40) (cb_pv5 (List.mem_of_getElem? (i := 2) rfl)), cb_in (cb_t1 (List.mem_of_getElem? (i := 10) rfl)) rfl, ⟨by decide +kernel, by decide +kernel, by decide +kernel⟩⟩
theorem mw_X8_takeAt : cb_vw yX8_takeAt cX8_takeAt 4 (some .int) 1 := ⟨cb_in (cb_t5 (List.mem_of_getElem? (i := 154) rfl)) rfl, cb_in (cb_t5 (List.mem_of_getElem? (i := 153) rfl)) rfl, cb_sel (n := 40) (cb_pv5 (List.mem_of_getElem? (i := 3) rfl)), cb_in (cb_t1 (List.mem_of_getElem? (i := 10) rfl)) rfl, ⟨by decide +kernel, by decide +kernel, by decide +kernel⟩⟩
theorem mw_X8_getBack : cb_vw yX8_getBack cX8_getBack 3 (some .int) 1 := ⟨cb_in (cb_t5 (List.mem_of_getElem? (i := 158) rfl)) rfl, cb_in (cb_t5 (List.mem_of_getElem? (i := 156) rfl)) rfl, cb_in (cb_t5 (List.mem_of_getElem? (i := 157) rfl)) rfl, cb_in (cb_t1 (List.mem_of_getElem? (i := 10) rfl)) rfl, ⟨by decide +kernel, by decide +kernel, by decide +kernel⟩⟩
theorem mw_X8_backNow : cb_vw yX8_backNow cX8_backNow 2 none 1 := ⟨cb_in (cb_t5 (List.mem_of_getElem? (i := 162) rfl)) rfl, cb_in (cb_t5 (List.mem_of_getElem? (i := 161) rfl)) rfl, cb_sel (n := 40) (cb_pv5 (List.mem_of_getElem? (i := 4) rfl)), cb_in (cb_t1 (List.mem_of_getElem? (i := 10) rfl)) rfl, ⟨by decide +kernel, by decide +kernel, by decide +kernel⟩⟩
theorem mw_X8_layBelow : cb_vw yX8_layBelow cX8_layBelow 2 none 1 := ⟨cb_in (cb_t5 (List.mem_of_getElem? (i := 166) rfl)) rfl, cb_in (cb_t5 (List.mem_of_getElem? (i := 165) rfl)) rfl, cb_sel (n := 40) (cb_pv5 (List.mem_of_getElem? (i := 5) rfl)), cb_in (cb_t1 (List.mem_of_getElem? (i := 10) rfl)) rfl, ⟨by decide +kernel, by decide +kernel, by decide +kernel⟩⟩
theorem mw_X8_meet : cb_vw yX8_meet cX8_meet 3 (some .int) 2 := ⟨cb_in (cb_t5 (List.mem_of_getElem? (i := 170) rfl)) rfl, cb_in (cb_t5 (List.mem_of_getElem? (i := 168) rfl)) rfl, cb_in (cb_t5 (List.mem_of_getElem? (i := 169) rfl)) rfl, cb_in (cb_t1 (List.mem_of_getElem? (i := 10) rfl)) rfl, ⟨by decide +kernel, by decide +kernel, by decide +kernel⟩⟩
theorem mw_X8_areTwo : cb_vw yX8_areTwo cX8_areTwo 3 (some .boolean) 2 := ⟨cb_in (cb_t5 (List.mem_of_getElem? (i := 174) rfl)) rfl, cb_in (cb_t5 (List.mem_of_getElem? (i := 173) rfl)) rfl, cb_sel (n := 40) (cb_pv5 (List.mem_of_getElem? (i := 6) rfl)), cb_in (cb_t1 (List.mem_of_getElem? (i := 10) rfl)) rfl, ⟨by decide +kernel, by decide +kernel, by decide +kernel⟩⟩
theorem mw_X8_meetNow : cb_vw yX8_meetNow cX8_meetNow 5 (some .int) 2 := ⟨cb_in (cb_t5 (List.mem_of_getElem? (i := 178) rfl)) rfl, cb_in (cb_t5 (List.mem_of_getElem? (i := 177) rfl)) rfl, cb_sel (n := 40) (cb_pv5 (List.mem_of_getElem? (i := 7) rfl)), cb_in (cb_t1 (List.mem_of_getElem? (i := 10) rfl)) rfl, ⟨by decide +kernel, by decide +kernel, by decide +kernel⟩⟩
theorem mw_X8_force : cb_vw yX8_force cX8_force 4 (some .int) 1 := ⟨cb_in (cb_t5 (List.mem_of_getElem? (i := 183) rfl)) rfl, cb_in (cb_t5 (List.mem_of_getElem? (i := 181) rfl)) rfl, cb_in (cb_t5 (List.mem_of_getElem? (i := 182) rfl)) rfl, cb_in (cb_t1 (List.mem_of_getElem? (i := 10) rfl)) rfl, ⟨by decide +kernel, by decide +kernel, by decide +kernel⟩⟩
theorem mw_X8_shuffle : cb_vw yX8_shuffle cX8_shuffle 2 (some .int) 1 := ⟨cb_in (cb_t5 (List.mem_of_getElem? (i := 187) rfl)) rfl, cb_in (cb_t5 (List.mem_of_getElem? (i := 185) rfl)) rfl, cb_in (cb_t5 (List.mem_of_getElem? (i := 186) rfl)) rfl, cb_in (cb_t1 (List.mem_of_getElem? (i := 10) rfl)) rfl, ⟨by decide +kernel, by decide +kernel, by decide +kernel⟩⟩
theorem mw_X8_shuffleNow : cb_vw yX8_shuffleNow cX8_shuffleNow 4 none 1 := ⟨cb_in (cb_t5 (List.mem_of_getElem? (i := 191) rfl)) rfl, cb_in (cb_t5 (List.mem_of_getElem? (i := 190) rfl)) rfl, cb_sel (n := 40) (cb_pv5 (List.mem_of_getElem? (i := 8) rfl)), cb_in (cb_t1 (List.mem_of_getElem? (i := 10) rfl)) rfl, ⟨by decide +kernel, by decide +kernel, by decide +kernel⟩⟩
theorem mw_X8_goes : cb_sw yX8_goes cX8_goes 4 (some .int) 3 := ⟨cb_in (cb_t5 (List.mem_of_getElem? (i := 194) rfl)) rfl, cb_in (cb_t5 (List.mem_of_getElem? (i := 193) rfl)) rfl, cb_in (cb_t1 (List.mem_of_getElem? (i := 10) rfl)) rfl, ⟨by decide +kernel, by decide +kernel, by decide +kernel⟩⟩
theorem mw_X8_drawer : cb_vw yX8_drawer cX8_drawer 3 (some .int) 1 := ⟨cb_in (cb_t5 (List.mem_of_getElem? (i := 198) rfl)) rfl, cb_in (cb_t5 (List.mem_of_getElem? (i := 196) rfl)) rfl, cb_in (cb_t5 (List.mem_of_getElem? (i := 197) rfl)) rfl, cb_in (cb_t1 (List.mem_of_getElem? (i := 10) rfl)) rfl, ⟨by decide +kernel, by decide +kernel, by decide +kernel⟩⟩
theorem mw_X8_out : cb_vw yX8_out cX8_out 2 (some .int) 1 := ⟨cb_in (cb_t5 (List.mem_of_getElem? (i := 202) rfl)) rfl, cb_in (cb_t5 (List.mem_of_getElem? (i := 200) rfl)) rfl, cb_in (cb_t5 (List.mem_of_getElem? (i := 201) rfl)) rfl, cb_in (cb_t1 (List.mem_of_getElem? (i := 10) rfl)) rfl, ⟨by decide +kernel, by decide +kernel, by decide +kernel⟩⟩
theorem mw_X8_has : cb_sw yX8_has cX8_has 2 (some .boolean) 2 := ⟨cb_in (cb_t5 (List.mem_of_getElem? (i := 205) rfl)) rfl, cb_in (cb_t5 (List.mem_of_getElem? (i := 204) rfl)) rfl, cb_in (cb_t1 (List.mem_of_getElem? (i := 10) rfl)) rfl, ⟨by decide +kernel, by decide +kernel, by decide +kernel⟩⟩
theorem mw_X8_drift : cb_vw yX8_drift cX8_drift 3 (some .int) 1 := ⟨cb_in (cb_t5 (List.mem_of_getElem? (i := 209) rfl)) rfl, cb_in (cb_t5 (List.mem_of_getElem? (i := 207) rfl)) rfl, cb_in (cb_t5 (List.mem_of_getElem? (i := 208) rfl)) rfl, cb_in (cb_t1 (List.mem_of_getElem? (i := 10) rfl)) rfl, ⟨by decide +kernel, by decide +kernel, by decide +kernel⟩⟩
theorem mw_X8_happen : cb_vw yX8_happen cX8_happen 5 none 0 := ⟨cb_in (cb_t5 (List.mem_of_getElem? (i := 214) rfl)) rfl, cb_in (cb_t5 (List.mem_of_getElem? (i := 213) rfl)) rfl, cb_sel (n := 40) (cb_pv5 (List.mem_of_getElem? (i := 9) rfl)), cb_in (cb_t1 (List.mem_of_getElem? (i := 10) rfl)) rfl, ⟨by decide +kernel, by decide +kernel, by decide +kernel⟩⟩
theorem mw_X8_draw : cb_vw yX8_draw cX8_draw 2 (some .int) 1 := ⟨cb_in (cb_t5 (List.mem_of_getElem? (i := 218) rfl)) rfl, cb_in (cb_t5 (List.mem_of_getElem? (i := 217) rfl)) rfl, cb_sel (n := 40) (cb_pv5 (List.mem_of_getElem? (i := 10) rfl)), cb_in (cb_t1 (List.mem_of_getElem? (i := 10) rfl)) rfl, ⟨by decide +kernel, by decide +kernel, by decide +kernel⟩⟩
theorem mw_X8_undo : cb_vw yX8_undo cX8_undo 2 (some .int) 0 := ⟨cb_in (cb_t5 (List.mem_of_getElem? (i := 226) rfl)) rfl, cb_in (cb_t5 (List.mem_of_getElem? (i := 224) rfl)) rfl, cb_in (cb_t5 (List.mem_of_getElem? (i := 225) rfl)) rfl, cb_in (cb_t1 (List.mem_of_getElem? (i := 10) rfl)) rfl, ⟨by decide +kernel, by decide +kernel, by decide +kernel⟩⟩
theorem mw_X8_beats : cb_vw yX8_beats cX8_beats 4 (some .int) 2 := ⟨cb_in (cb_t5 (List.mem_of_getElem? (i := 230) rfl)) rfl, cb_in (cb_t5 (List.mem_of_getElem? (i := 228) rfl)) rfl, cb_in (cb_t5 (List.mem_of_getElem? (i := 229) rfl)) rfl, cb_in (cb_t1 (List.mem_of_getElem? (i := 10) rfl)) rfl, ⟨by decide +kernel, by decide +kernel, by decide +kernel⟩⟩
theorem mw_X8_rings : cb_vw yX8_rings cX8_rings 7 (some .int) 1 := ⟨cb_in (cb_t5 (List.mem_of_getElem? (i := 234) rfl)) rfl, cb_in (cb_t5 (List.mem_of_getElem? (i := 232) rfl)) rfl, cb_in (cb_t5 (List.mem_of_getElem? (i := 233) rfl)) rfl, cb_in (cb_t1 (List.mem_of_getElem? (i := 10) rfl)) rfl, ⟨by decide +kernel, by decide +kernel, by decide +kernel⟩⟩
theorem mw_X8_isRing : cb_vw yX8_isRing cX8_isRing 5 (some .boolean) 3 := ⟨cb_in (cb_t5 (List.mem_of_getElem? (i := 238) rfl)) rfl, cb_in (cb_t5 (List.mem_of_getElem? (i := 237) rfl)) rfl, cb_sel (n := 40) (cb_pv5 (List.mem_of_getElem? (i := 11) rfl)), cb_in (cb_t1 (List.mem_of_getElem? (i := 10) rfl)) rfl, ⟨by decide +kernel, by decide +kernel, by decide +kernel⟩⟩
theorem mw_X8_order : cb_vw yX8_order cX8_order 6 (some .int) 1 := ⟨cb_in (cb_t6 (List.mem_of_getElem? (i := 2) rfl)) rfl, cb_in (cb_t6 (List.mem_of_getElem? (i := 0) rfl)) rfl, cb_in (cb_t6 (List.mem_of_getElem? (i := 1) rfl)) rfl, cb_in (cb_t1 (List.mem_of_getElem? (i := 10) rfl)) rfl, ⟨by decide +kernel, by decide +kernel, by decide +kernel⟩⟩
theorem mw_X8_power : cb_sw yX8_power cX8_power 4 (some .int) 2 := ⟨cb_in (cb_t6 (List.mem_of_getElem? (i := 5) rfl)) rfl, cb_in (cb_t6 (List.mem_of_getElem? (i := 4) rfl)) rfl, cb_in (cb_t1 (List.mem_of_getElem? (i := 10) rfl)) rfl, ⟨by decide +kernel, by decide +kernel, by decide +kernel⟩⟩
theorem mw_X8_drawsBy : cb_vw yX8_drawsBy cX8_drawsBy 7 (some .boolean) 2 := ⟨cb_in (cb_t6 (List.mem_of_getElem? (i := 9) rfl)) rfl, cb_in (cb_t6 (List.mem_of_getElem? (i := 8) rfl)) rfl, cb_sel (n := 40) (cb_pv5 (List.mem_of_getElem? (i := 12) rfl)), cb_in (cb_t1 (List.mem_of_getElem? (i := 10) rfl)) rfl, ⟨by decide +kernel, by decide +kernel, by decide +kernel⟩⟩
theorem mw_X8_allBeat : cb_vw yX8_allBeat cX8_allBeat 5 (some .boolean) 1 := ⟨cb_in (cb_t6 (List.mem_of_getElem? (i := 13) rfl)) rfl, cb_in (cb_t6 (List.mem_of_getElem? (i := 12) rfl)) rfl, cb_sel (n := 40) (cb_pv5 (List.mem_of_getElem? (i := 13) rfl)), cb_in (cb_t1 (List.mem_of_getElem? (i := 10) rfl)) rfl, ⟨by decide +kernel, by decide +kernel, by decide +kernel⟩⟩
theorem mw_X8_row : cb_vw yX8_row cX8_row 7 (some .int) 3 := ⟨cb_in (cb_t6 (List.mem_of_getElem? (i := 17) rfl)) rfl, cb_in (cb_t6 (List.mem_of_getElem? (i := 15) rfl)) rfl, cb_in (cb_t6 (List.mem_of_getElem? (i := 16) rfl)) rfl, cb_in (cb_t1 (List.mem_of_getElem? (i := 10) rfl)) rfl, ⟨by decide +kernel, by decide +kernel, by decide +kernel⟩⟩
theorem mw_X8_findAway : cb_vw yX8_findAway cX8_findAway 6 none 2 := ⟨cb_in (cb_t6 (List.mem_of_getElem? (i := 22) rfl)) rfl, cb_in (cb_t6 (List.mem_of_getElem? (i := 21) rfl)) rfl, cb_sel (n := 40) (cb_pv5 (List.mem_of_getElem? (i := 14) rfl)), cb_in (cb_t1 (List.mem_of_getElem? (i := 10) rfl)) rfl, ⟨by decide +kernel, by decide +kernel, by decide +kernel⟩⟩
theorem mw_X8_tells : cb_vw yX8_tells cX8_tells 7 (some .int) 0 := ⟨cb_in (cb_t6 (List.mem_of_getElem? (i := 26) rfl)) rfl, cb_in (cb_t6 (List.mem_of_getElem? (i := 24) rfl)) rfl, cb_in (cb_t6 (List.mem_of_getElem? (i := 25) rfl)) rfl, cb_in (cb_t1 (List.mem_of_getElem? (i := 10) rfl)) rfl, ⟨by decide +kernel, by decide +kernel, by decide +kernel⟩⟩
theorem mw_X8_greatestPart : cb_vw yX8_greatestPart cX8_greatestPart 3 (some .int) 0 := ⟨cb_in (cb_t6 (List.mem_of_getElem? (i := 30) rfl)) rfl, cb_in (cb_t6 (List.mem_of_getElem? (i := 29) rfl)) rfl, cb_sel (n := 40) (cb_pv5 (List.mem_of_getElem? (i := 15) rfl)), cb_in (cb_t1 (List.mem_of_getElem? (i := 10) rfl)) rfl, ⟨by decide +kernel, by decide +kernel, by decide +kernel⟩⟩
theorem mw_X8_odds : cb_vw yX8_odds cX8_odds 6 (some .int) 2 := ⟨cb_in (cb_t6 (List.mem_of_getElem? (i := 34) rfl)) rfl, cb_in (cb_t6 (List.mem_of_getElem? (i := 32) rfl)) rfl, cb_in (cb_t6 (List.mem_of_getElem? (i := 33) rfl)) rfl, cb_in (cb_t1 (List.mem_of_getElem? (i := 10) rfl)) rfl, ⟨by decide +kernel, by decide +kernel, by decide +kernel⟩⟩
theorem mw_X8_back : cb_vw yX8_back cX8_back 4 (some .int) 1 := ⟨cb_in (cb_t6 (List.mem_of_getElem? (i := 39) rfl)) rfl, cb_in (cb_t6 (List.mem_of_getElem? (i := 37) rfl)) rfl, cb_in (cb_t6 (List.mem_of_getElem? (i := 38) rfl)) rfl, cb_in (cb_t1 (List.mem_of_getElem? (i := 10) rfl)) rfl, ⟨by decide +kernel, by decide +kernel, by decide +kernel⟩⟩
theorem mw_X8_missing : cb_vw yX8_missing cX8_missing 4 (some .int) 1 := ⟨cb_in (cb_t6 (List.mem_of_getElem? (i := 43) rfl)) rfl, cb_in (cb_t6 (List.mem_of_getElem? (i := 41) rfl)) rfl, cb_in (cb_t6 (List.mem_of_getElem? (i := 42) rfl)) rfl, cb_in (cb_t1 (List.mem_of_getElem? (i := 10) rfl)) rfl, ⟨by decide +kernel, by decide +kernel, by decide +kernel⟩⟩
theorem mw_X8_isTold : cb_vw yX8_isTold cX8_isTold 4 (some .boolean) 1 := ⟨cb_in (cb_t6 (List.mem_of_getElem? (i := 47) rfl)) rfl, cb_in (cb_t6 (List.mem_of_getElem? (i := 46) rfl)) rfl, cb_sel (n := 40) (cb_pv6 (List.mem_of_getElem? (i := 0) rfl)), cb_in (cb_t1 (List.mem_of_getElem? (i := 10) rfl)) rfl, ⟨by decide +kernel, by decide +kernel, by decide +kernel⟩⟩
theorem mw_X8_wanted : cb_vw yX8_wanted cX8_wanted 6 (some .int) 1 := ⟨cb_in (cb_t6 (List.mem_of_getElem? (i := 51) rfl)) rfl, cb_in (cb_t6 (List.mem_of_getElem? (i := 49) rfl)) rfl, cb_in (cb_t6 (List.mem_of_getElem? (i := 50) rfl)) rfl, cb_in (cb_t1 (List.mem_of_getElem? (i := 10) rfl)) rfl, ⟨by decide +kernel, by decide +kernel, by decide +kernel⟩⟩
theorem mw_X8_see : cb_vw yX8_see cX8_see 4 (some .int) 3 := ⟨cb_in (cb_t6 (List.mem_of_getElem? (i := 55) rfl)) rfl, cb_in (cb_t6 (List.mem_of_getElem? (i := 53) rfl)) rfl, cb_in (cb_t6 (List.mem_of_getElem? (i := 54) rfl)) rfl, cb_in (cb_t1 (List.mem_of_getElem? (i := 10) rfl)) rfl, ⟨by decide +kernel, by decide +kernel, by decide +kernel⟩⟩
theorem mw_X8_deals : cb_vw yX8_deals cX8_deals 8 (some .int) 2 := ⟨cb_in (cb_t6 (List.mem_of_getElem? (i := 59) rfl)) rfl, cb_in (cb_t6 (List.mem_of_getElem? (i := 57) rfl)) rfl, cb_in (cb_t6 (List.mem_of_getElem? (i := 58) rfl)) rfl, cb_in (cb_t1 (List.mem_of_getElem? (i := 10) rfl)) rfl, ⟨by decide +kernel, by decide +kernel, by decide +kernel⟩⟩
theorem mw_X8_beginDeals : cb_vw yX8_beginDeals cX8_beginDeals 2 none 1 := ⟨cb_in (cb_t6 (List.mem_of_getElem? (i := 64) rfl)) rfl, cb_in (cb_t6 (List.mem_of_getElem? (i := 63) rfl)) rfl, cb_sel (n := 40) (cb_pv6 (List.mem_of_getElem? (i := 1) rfl)), cb_in (cb_t1 (List.mem_of_getElem? (i := 10) rfl)) rfl, ⟨by decide +kernel, by decide +kernel, by decide +kernel⟩⟩
theorem mw_X8_dealsBy : cb_vw yX8_dealsBy cX8_dealsBy 8 (some .boolean) 1 := ⟨cb_in (cb_t6 (List.mem_of_getElem? (i := 68) rfl)) rfl, cb_in (cb_t6 (List.mem_of_getElem? (i := 67) rfl)) rfl, cb_sel (n := 40) (cb_pv6 (List.mem_of_getElem? (i := 2) rfl)), cb_in (cb_t1 (List.mem_of_getElem? (i := 10) rfl)) rfl, ⟨by decide +kernel, by decide +kernel, by decide +kernel⟩⟩
theorem mw_X8_ask : cb_vw yX8_ask cX8_ask 8 (some .int) 1 := ⟨cb_in (cb_t6 (List.mem_of_getElem? (i := 72) rfl)) rfl, cb_in (cb_t6 (List.mem_of_getElem? (i := 70) rfl)) rfl, cb_in (cb_t6 (List.mem_of_getElem? (i := 71) rfl)) rfl, cb_in (cb_t1 (List.mem_of_getElem? (i := 10) rfl)) rfl, ⟨by decide +kernel, by decide +kernel, by decide +kernel⟩⟩
theorem mw_X8_write : cb_vw yX8_write cX8_write 3 (some .int) 2 := ⟨cb_in (cb_t6 (List.mem_of_getElem? (i := 77) rfl)) rfl, cb_in (cb_t6 (List.mem_of_getElem? (i := 75) rfl)) rfl, cb_in (cb_t6 (List.mem_of_getElem? (i := 76) rfl)) rfl, cb_in (cb_t1 (List.mem_of_getElem? (i := 10) rfl)) rfl, ⟨by decide +kernel, by decide +kernel, by decide +kernel⟩⟩
theorem mw_X8_tear : cb_vw yX8_tear cX8_tear 2 (some .int) 0 := ⟨cb_in (cb_t6 (List.mem_of_getElem? (i := 81) rfl)) rfl, cb_in (cb_t6 (List.mem_of_getElem? (i := 79) rfl)) rfl, cb_in (cb_t6 (List.mem_of_getElem? (i := 80) rfl)) rfl, cb_in (cb_t1 (List.mem_of_getElem? (i := 10) rfl)) rfl, ⟨by decide +kernel, by decide +kernel, by decide +kernel⟩⟩
theorem mw_X8_judge : cb_vw yX8_judge cX8_judge 2 (some .int) 0 := ⟨cb_in (cb_t6 (List.mem_of_getElem? (i := 85) rfl)) rfl, cb_in (cb_t6 (List.mem_of_getElem? (i := 83) rfl)) rfl, cb_in (cb_t6 (List.mem_of_getElem? (i := 84) rfl)) rfl, cb_in (cb_t1 (List.mem_of_getElem? (i := 10) rfl)) rfl, ⟨by decide +kernel, by decide +kernel, by decide +kernel⟩⟩
theorem mw_X8_seed : cb_vw yX8_seed cX8_seed 3 (some .int) 1 := ⟨cb_in (cb_t6 (List.mem_of_getElem? (i := 89) rfl)) rfl, cb_in (cb_t6 (List.mem_of_getElem? (i := 87) rfl)) rfl, cb_in (cb_t6 (List.mem_of_getElem? (i := 88) rfl)) rfl, cb_in (cb_t1 (List.mem_of_getElem? (i := 10) rfl)) rfl, ⟨by decide +kernel, by decide +kernel, by decide +kernel⟩⟩
theorem mw_X8_keep : cb_vw yX8_keep cX8_keep 3 (some .int) 1 := ⟨cb_in (cb_t6 (List.mem_of_getElem? (i := 93) rfl)) rfl, cb_in (cb_t6 (List.mem_of_getElem? (i := 91) rfl)) rfl, cb_in (cb_t6 (List.mem_of_getElem? (i := 92) rfl)) rfl, cb_in (cb_t1 (List.mem_of_getElem? (i := 10) rfl)) rfl, ⟨by decide +kernel, by decide +kernel, by decide +kernel⟩⟩
theorem mw_X8_goBack : cb_vw yX8_goBack cX8_goBack 3 (some .int) 1 := ⟨cb_in (cb_t6 (List.mem_of_getElem? (i := 97) rfl)) rfl, cb_in (cb_t6 (List.mem_of_getElem? (i := 95) rfl)) rfl, cb_in (cb_t6 (List.mem_of_getElem? (i := 96) rfl)) rfl, cb_in (cb_t1 (List.mem_of_getElem? (i := 10) rfl)) rfl, ⟨by decide +kernel, by decide +kernel, by decide +kernel⟩⟩
theorem mw_copy : Cond.native arraycopyName ∈ cb_gt ∧ Cond.static arraycopyName ∈ cb_gt ∧ Cond.initialized "java/lang/System" ∈ cb_gt := ⟨cb_in (cb_t2 (List.mem_of_getElem? (i := 114) rfl)) rfl, cb_in (cb_t2 (List.mem_of_getElem? (i := 113) rfl)) rfl, cb_in (cb_t1 (List.mem_of_getElem? (i := 11) rfl)) rfl⟩

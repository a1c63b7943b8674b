/-! ===== the shape of the world, and facts that a program decides ===== -/
abbrev bsl : List (Option (Option Nat)) := [none, none, none, none, none, none, none, none]
def SH : List Sh := [
  .inl (9, [some (some 1), some (some 4), some (some 13), some (some 22), some (some 31), some (some 32), some (some 38), some (some 42), some (some 44), some (some 48), none]),
  .inl (8, [some (some 2), some (some 3), none, none, none, none, none, none, none]),
  .inr (.inl (1, 400)),
  .inr (.inl (0, 3)),
  .inl (7, [some (some 5), some (some 6), some (some 7), some (some 8), some (some 9), some (some 10), some (some 11), some (some 12), none, none, none, none]),
  .inr (.inl (0, 4)),
  .inr (.inl (0, 4)),
  .inr (.inl (0, 8)),
  .inr (.inl (0, 8)),
  .inr (.inl (0, 8)),
  .inr (.inl (0, 6)),
  .inr (.inl (0, 6)),
  .inr (.inl (0, 8)),
  .inl (7, [some (some 14), some (some 15), some (some 16), some (some 17), some (some 18), some (some 19), some (some 20), some (some 21), none, none, none, none]),
  .inr (.inl (0, 4)),
  .inr (.inl (0, 4)),
  .inr (.inl (0, 8)),
  .inr (.inl (0, 8)),
  .inr (.inl (0, 8)),
  .inr (.inl (0, 6)),
  .inr (.inl (0, 6)),
  .inr (.inl (0, 8)),
  .inr (.inr (4, 8, fun j => if j < 8 then some (23 + j) else none)),
  .inl (0, [none, none, none, none, none, none, none, none]),
  .inl (0, [none, none, none, none, none, none, none, none]),
  .inl (0, [none, none, none, none, none, none, none, none]),
  .inl (0, [none, none, none, none, none, none, none, none]),
  .inl (0, [none, none, none, none, none, none, none, none]),
  .inl (0, [none, none, none, none, none, none, none, none]),
  .inl (0, [none, none, none, none, none, none, none, none]),
  .inl (0, [none, none, none, none, none, none, none, none]),
  .inl (2, [some (some 4), some (some 22)]),
  .inl (4, [some (some 4), some (some 22), some (some 33), some (some 34), some (some 35), some (some 36), some (some 37), none, none]),
  .inr (.inl (0, 6561)),
  .inr (.inl (0, 6561)),
  .inr (.inl (0, 8)),
  .inr (.inl (0, 8)),
  .inr (.inl (0, 4)),
  .inl (6, [some (some 4), some (some 22), some (some 39), some (some 40), some (some 41)]),
  .inr (.inl (0, 1000)),
  .inr (.inl (0, 1000)),
  .inr (.inl (0, 8)),
  .inl (1, [some (some 4), some (some 22), some (some 43)]),
  .inr (.inl (2, 1440)),
  .inl (5, [some (some 4), some (some 22), some (some 45), some (some 46), some (some 47), none]),
  .inr (.inl (0, 256)),
  .inr (.inl (0, 256)),
  .inr (.inl (0, 256)),
  .inl (3, [some (some 49), some (some 50), none, none]),
  .inr (.inl (0, 12)),
  .inr (.inr (4, 12, fun j => if j < 12 then some (51 + j) else none)),
  .inl (0, [none, none, none, none, none, none, none, none]),
  .inl (0, [none, none, none, none, none, none, none, none]),
  .inl (0, [none, none, none, none, none, none, none, none]),
  .inl (0, [none, none, none, none, none, none, none, none]),
  .inl (0, [none, none, none, none, none, none, none, none]),
  .inl (0, [none, none, none, none, none, none, none, none]),
  .inl (0, [none, none, none, none, none, none, none, none]),
  .inl (0, [none, none, none, none, none, none, none, none]),
  .inl (0, [none, none, none, none, none, none, none, none]),
  .inl (0, [none, none, none, none, none, none, none, none]),
  .inl (0, [none, none, none, none, none, none, none, none]),
  .inl (0, [none, none, none, none, none, none, none, none]),
  .inl (10, [some (some 64), some (some 65), none, none, none, none, some (some 66), some (some 67), none, some (some 68), some (some 69), some (some 70), none, some (some 71), some (some 72), none, some (some 73), some (some 74), none, none, none, none, none, none, none, none, some (some 75), none, none, none, none, none, some (some 76), some (some 77), some (some 78), some (some 79), some (some 80), some (some 81), some (some 82), some (some 83), some (some 84)]),
  .inr (.inl (0, 80)),
  .inr (.inl (0, 960)),
  .inr (.inl (0, 4)),
  .inr (.inl (0, 4)),
  .inr (.inl (0, 8)),
  .inr (.inl (0, 8)),
  .inr (.inl (0, 8)),
  .inr (.inl (0, 6)),
  .inr (.inl (0, 6)),
  .inr (.inl (0, 8)),
  .inr (.inl (0, 400)),
  .inr (.inl (0, 64)),
  .inr (.inl (0, 8)),
  .inr (.inl (0, 8)),
  .inr (.inl (0, 8)),
  .inr (.inl (0, 6561)),
  .inr (.inl (0, 6561)),
  .inr (.inl (0, 2304)),
  .inr (.inl (0, 8)),
  .inr (.inl (0, 8)),
  .inr (.inl (0, 256)),
  .inr (.inl (3, 1))]
theorem sh_0 : SH[0]? = some (.inl (9, [some (some 1), some (some 4), some (some 13), some (some 22), some (some 31), some (some 32), some (some 38), some (some 42), some (some 44), some (some 48), none])) := rfl
theorem sh_1 : SH[1]? = some (.inl (8, [some (some 2), some (some 3), none, none, none, none, none, none, none])) := rfl
theorem sh_2 : SH[2]? = some (.inr (.inl (1, 400))) := rfl
theorem sh_3 : SH[3]? = some (.inr (.inl (0, 3))) := rfl
theorem sh_4 : SH[4]? = some (.inl (7, [some (some 5), some (some 6), some (some 7), some (some 8), some (some 9), some (some 10), some (some 11), some (some 12), none, none, none, none])) := rfl
theorem sh_5 : SH[5]? = some (.inr (.inl (0, 4))) := rfl
theorem sh_6 : SH[6]? = some (.inr (.inl (0, 4))) := rfl
theorem sh_7 : SH[7]? = some (.inr (.inl (0, 8))) := rfl
theorem sh_8 : SH[8]? = some (.inr (.inl (0, 8))) := rfl
theorem sh_9 : SH[9]? = some (.inr (.inl (0, 8))) := rfl
theorem sh_10 : SH[10]? = some (.inr (.inl (0, 6))) := rfl
theorem sh_11 : SH[11]? = some (.inr (.inl (0, 6))) := rfl
theorem sh_12 : SH[12]? = some (.inr (.inl (0, 8))) := rfl
theorem sh_13 : SH[13]? = some (.inl (7, [some (some 14), some (some 15), some (some 16), some (some 17), some (some 18), some (some 19), some (some 20), some (some 21), none, none, none, none])) := rfl
theorem sh_14 : SH[14]? = some (.inr (.inl (0, 4))) := rfl
theorem sh_15 : SH[15]? = some (.inr (.inl (0, 4))) := rfl
theorem sh_16 : SH[16]? = some (.inr (.inl (0, 8))) := rfl
theorem sh_17 : SH[17]? = some (.inr (.inl (0, 8))) := rfl
theorem sh_18 : SH[18]? = some (.inr (.inl (0, 8))) := rfl
theorem sh_19 : SH[19]? = some (.inr (.inl (0, 6))) := rfl
theorem sh_20 : SH[20]? = some (.inr (.inl (0, 6))) := rfl
theorem sh_21 : SH[21]? = some (.inr (.inl (0, 8))) := rfl
theorem sh_22 : SH[22]? = some (.inr (.inr (4, 8, fun j => if j < 8 then some (23 + j) else none))) := rfl
theorem sh_23 : SH[23]? = some (.inl (0, [none, none, none, none, none, none, none, none])) := rfl
theorem sh_24 : SH[24]? = some (.inl (0, [none, none, none, none, none, none, none, none])) := rfl
theorem sh_25 : SH[25]? = some (.inl (0, [none, none, none, none, none, none, none, none])) := rfl
theorem sh_26 : SH[26]? = some (.inl (0, [none, none, none, none, none, none, none, none])) := rfl
theorem sh_27 : SH[27]? = some (.inl (0, [none, none, none, none, none, none, none, none])) := rfl
theorem sh_28 : SH[28]? = some (.inl (0, [none, none, none, none, none, none, none, none])) := rfl
theorem sh_29 : SH[29]? = some (.inl (0, [none, none, none, none, none, none, none, none])) := rfl
theorem sh_30 : SH[30]? = some (.inl (0, [none, none, none, none, none, none, none, none])) := rfl
theorem sh_31 : SH[31]? = some (.inl (2, [some (some 4), some (some 22)])) := rfl
theorem sh_32 : SH[32]? = some (.inl (4, [some (some 4), some (some 22), some (some 33), some (some 34), some (some 35), some (some 36), some (some 37), none, none])) := rfl
theorem sh_33 : SH[33]? = some (.inr (.inl (0, 6561))) := rfl
theorem sh_34 : SH[34]? = some (.inr (.inl (0, 6561))) := rfl
theorem sh_35 : SH[35]? = some (.inr (.inl (0, 8))) := rfl
theorem sh_36 : SH[36]? = some (.inr (.inl (0, 8))) := rfl
theorem sh_37 : SH[37]? = some (.inr (.inl (0, 4))) := rfl
theorem sh_38 : SH[38]? = some (.inl (6, [some (some 4), some (some 22), some (some 39), some (some 40), some (some 41)])) := rfl
theorem sh_39 : SH[39]? = some (.inr (.inl (0, 1000))) := rfl
theorem sh_40 : SH[40]? = some (.inr (.inl (0, 1000))) := rfl
theorem sh_41 : SH[41]? = some (.inr (.inl (0, 8))) := rfl
theorem sh_42 : SH[42]? = some (.inl (1, [some (some 4), some (some 22), some (some 43)])) := rfl
theorem sh_43 : SH[43]? = some (.inr (.inl (2, 1440))) := rfl
theorem sh_44 : SH[44]? = some (.inl (5, [some (some 4), some (some 22), some (some 45), some (some 46), some (some 47), none])) := rfl
theorem sh_45 : SH[45]? = some (.inr (.inl (0, 256))) := rfl
theorem sh_46 : SH[46]? = some (.inr (.inl (0, 256))) := rfl
theorem sh_47 : SH[47]? = some (.inr (.inl (0, 256))) := rfl
theorem sh_48 : SH[48]? = some (.inl (3, [some (some 49), some (some 50), none, none])) := rfl
theorem sh_49 : SH[49]? = some (.inr (.inl (0, 12))) := rfl
theorem sh_50 : SH[50]? = some (.inr (.inr (4, 12, fun j => if j < 12 then some (51 + j) else none))) := rfl
theorem sh_51 : SH[51]? = some (.inl (0, [none, none, none, none, none, none, none, none])) := rfl
theorem sh_52 : SH[52]? = some (.inl (0, [none, none, none, none, none, none, none, none])) := rfl
theorem sh_53 : SH[53]? = some (.inl (0, [none, none, none, none, none, none, none, none])) := rfl
theorem sh_54 : SH[54]? = some (.inl (0, [none, none, none, none, none, none, none, none])) := rfl
theorem sh_55 : SH[55]? = some (.inl (0, [none, none, none, none, none, none, none, none])) := rfl
theorem sh_56 : SH[56]? = some (.inl (0, [none, none, none, none, none, none, none, none])) := rfl
theorem sh_57 : SH[57]? = some (.inl (0, [none, none, none, none, none, none, none, none])) := rfl
theorem sh_58 : SH[58]? = some (.inl (0, [none, none, none, none, none, none, none, none])) := rfl
theorem sh_59 : SH[59]? = some (.inl (0, [none, none, none, none, none, none, none, none])) := rfl
theorem sh_60 : SH[60]? = some (.inl (0, [none, none, none, none, none, none, none, none])) := rfl
theorem sh_61 : SH[61]? = some (.inl (0, [none, none, none, none, none, none, none, none])) := rfl
theorem sh_62 : SH[62]? = some (.inl (0, [none, none, none, none, none, none, none, none])) := rfl
theorem sh_63 : SH[63]? = some (.inl (10, [some (some 64), some (some 65), none, none, none, none, some (some 66), some (some 67), none, some (some 68), some (some 69), some (some 70), none, some (some 71), some (some 72), none, some (some 73), some (some 74), none, none, none, none, none, none, none, none, some (some 75), none, none, none, none, none, some (some 76), some (some 77), some (some 78), some (some 79), some (some 80), some (some 81), some (some 82), some (some 83), some (some 84)])) := rfl
theorem sh_64 : SH[64]? = some (.inr (.inl (0, 80))) := rfl
theorem sh_65 : SH[65]? = some (.inr (.inl (0, 960))) := rfl
theorem sh_66 : SH[66]? = some (.inr (.inl (0, 4))) := rfl
theorem sh_67 : SH[67]? = some (.inr (.inl (0, 4))) := rfl
theorem sh_68 : SH[68]? = some (.inr (.inl (0, 8))) := rfl
theorem sh_69 : SH[69]? = some (.inr (.inl (0, 8))) := rfl
theorem sh_70 : SH[70]? = some (.inr (.inl (0, 8))) := rfl
theorem sh_71 : SH[71]? = some (.inr (.inl (0, 6))) := rfl
theorem sh_72 : SH[72]? = some (.inr (.inl (0, 6))) := rfl
theorem sh_73 : SH[73]? = some (.inr (.inl (0, 8))) := rfl
theorem sh_74 : SH[74]? = some (.inr (.inl (0, 400))) := rfl
theorem sh_75 : SH[75]? = some (.inr (.inl (0, 64))) := rfl
theorem sh_76 : SH[76]? = some (.inr (.inl (0, 8))) := rfl
theorem sh_77 : SH[77]? = some (.inr (.inl (0, 8))) := rfl
theorem sh_78 : SH[78]? = some (.inr (.inl (0, 8))) := rfl
theorem sh_79 : SH[79]? = some (.inr (.inl (0, 6561))) := rfl
theorem sh_80 : SH[80]? = some (.inr (.inl (0, 6561))) := rfl
theorem sh_81 : SH[81]? = some (.inr (.inl (0, 2304))) := rfl
theorem sh_82 : SH[82]? = some (.inr (.inl (0, 8))) := rfl
theorem sh_83 : SH[83]? = some (.inr (.inl (0, 8))) := rfl
theorem sh_84 : SH[84]? = some (.inr (.inl (0, 256))) := rfl
theorem sh_85 : SH[85]? = some (.inr (.inl (3, 1))) := rfl
theorem sh_b23 {j : Nat} (h : j < 8) : SH[23 + j]? = some (.inl (0, bsl)) := by
  match j, h with
  | 0, _ => rfl
  | 1, _ => rfl
  | 2, _ => rfl
  | 3, _ => rfl
  | 4, _ => rfl
  | 5, _ => rfl
  | 6, _ => rfl
  | 7, _ => rfl
theorem sh_b51 {j : Nat} (h : j < 12) : SH[51 + j]? = some (.inl (0, bsl)) := by
  match j, h with
  | 0, _ => rfl
  | 1, _ => rfl
  | 2, _ => rfl
  | 3, _ => rfl
  | 4, _ => rfl
  | 5, _ => rfl
  | 6, _ => rfl
  | 7, _ => rfl
  | 8, _ => rfl
  | 9, _ => rfl
  | 10, _ => rfl
  | 11, _ => rfl
def tl_1001 : List Int32 := [1, 3, 9, 27, 81, 243, 729, 2187, 6561]
theorem tb_1001 : ("BellTowerPlanner$Plans", "POWER", 1001, tl_1001) ∈ tblS := List.mem_of_getElem? (i := 0) rfl
def tl_1002 : List Int32 := [0, 2, 5, 7, 8]
theorem tb_1002 : ("BellTowerPlanner$TowerText", "FIRST_RANGE", 1002, tl_1002) ∈ tblS := List.mem_of_getElem? (i := 1) rfl
def tl_1003 : List Int32 := [300, 0, 10, 2, 4, 0, 1, 100]
theorem tb_1003 : ("BellTowerPlanner$TowerText", "LEAST", 1003, tl_1003) ∈ tblS := List.mem_of_getElem? (i := 2) rfl
def tl_1004 : List Int32 := [5000, 50000, 3000, 10, 40, 1439, 1440, 9999]
theorem tb_1004 : ("BellTowerPlanner$TowerText", "GREATEST", 1004, tl_1004) ∈ tblS := List.mem_of_getElem? (i := 3) rfl
theorem kw_1010 : (1010, 1030, [98, 101, 97, 109]) ∈ kwS := List.mem_of_getElem? (i := 0) rfl
theorem kw_1011 : (1011, 1031, [98, 101, 108, 108]) ∈ kwS := List.mem_of_getElem? (i := 1) rfl
theorem kw_1012 : (1012, 1032, [113, 117, 105, 101, 116]) ∈ kwS := List.mem_of_getElem? (i := 2) rfl
theorem kw_1013 : (1013, 1033, [114, 111, 112, 101]) ∈ kwS := List.mem_of_getElem? (i := 3) rfl
theorem st_RX8_91 : ("BellTowerPlanner$TowerText", 91, "beam", 1010) ∈ strS := List.mem_of_getElem? (i := 0) rfl
theorem st_RX8_97 : ("BellTowerPlanner$TowerText", 97, "bell", 1011) ∈ strS := List.mem_of_getElem? (i := 1) rfl
theorem st_RX8_99 : ("BellTowerPlanner$TowerText", 99, "quiet", 1012) ∈ strS := List.mem_of_getElem? (i := 2) rfl
theorem st_RX8_101 : ("BellTowerPlanner$TowerText", 101, "rope", 1013) ∈ strS := List.mem_of_getElem? (i := 3) rfl
theorem st_RX9_87 : ("BellTowerPlanner", 87, "the text buffer is full", 1014) ∈ strS := List.mem_of_getElem? (i := 4) rfl
theorem st_RX9_332 : ("BellTowerPlanner", 332, "an argument is out of its range", 1015) ∈ strS := List.mem_of_getElem? (i := 5) rfl
theorem st_RX9_327 : ("BellTowerPlanner", 327, "no tower text was loaded", 1016) ∈ strS := List.mem_of_getElem? (i := 6) rfl
theorem st_RX9_334 : ("BellTowerPlanner", 334, "the bell does not hang", 1017) ∈ strS := List.mem_of_getElem? (i := 7) rfl
theorem st_RX9_228 : ("BellTowerPlanner", 228, "a bell has no gap to itself", 1018) ∈ strS := List.mem_of_getElem? (i := 8) rfl
theorem st_RX9_237 : ("BellTowerPlanner", 237, "the bells do not hang on the same beam", 1019) ∈ strS := List.mem_of_getElem? (i := 9) rfl
theorem st_RX10_159 : ("BellTowerPlannerModel", 159, "beam", 1010) ∈ strS := List.mem_of_getElem? (i := 10) rfl
theorem st_RX10_180 : ("BellTowerPlannerModel", 180, "bell", 1011) ∈ strS := List.mem_of_getElem? (i := 11) rfl
theorem st_RX10_185 : ("BellTowerPlannerModel", 185, "quiet", 1012) ∈ strS := List.mem_of_getElem? (i := 12) rfl
theorem st_RX10_190 : ("BellTowerPlannerModel", 190, "rope", 1013) ∈ strS := List.mem_of_getElem? (i := 13) rfl
abbrev M_X0_init : Md := (yX0_init, cX0_init, 1, none, [], 1, 20)
abbrev M_X0_reset : Md := (yX0_reset, cX0_reset, 1, none, [], 0, 0)
abbrev M_X0_copyFrom : Md := (yX0_copyFrom, cX0_copyFrom, 2, none, [], 0, 0)
abbrev M_X0_hangs : Md := (yX0_hangs, cX0_hangs, 1, (some .boolean), [], 0, 0)
abbrev M_X0_hasPlan : Md := (yX0_hasPlan, cX0_hasPlan, 1, (some .boolean), [], 0, 0)
abbrev M_X0_swings : Md := (yX0_swings, cX0_swings, 1, (some .boolean), [], 0, 0)
abbrev M_X0_hasChime : Md := (yX0_hasChime, cX0_hasChime, 1, (some .boolean), [], 0, 0)
abbrev M_X0_sharesBeamWith : Md := (yX0_sharesBeamWith, cX0_sharesBeamWith, 2, (some .boolean), [], 1, 20)
abbrev M_X0_plannedWhereItHangs : Md := (yX0_plannedWhereItHangs, cX0_plannedWhereItHangs, 1, (some .boolean), [], 1, 20)
abbrev M_X0_chimesAt : Md := (yX0_chimesAt, cX0_chimesAt, 2, (some .boolean), [], 1, 20)
abbrev M_X1_init : Md := (yX1_init, cX1_init, 3, none, [], 1, 20)
abbrev M_X1_markQuietMinutes : Md := (yX1_markQuietMinutes, cX1_markQuietMinutes, 4, none, [], 1, 21)
abbrev M_X1_countChiming : Md := (yX1_countChiming, cX1_countChiming, 3, (some .int), [], 1, 20)
abbrev M_X1_countQuiet : Md := (yX1_countQuiet, cX1_countQuiet, 3, (some .int), [], 0, 0)
abbrev M_X1_longestLoudRun : Md := (yX1_longestLoudRun, cX1_longestLoudRun, 4, (some .int), [], 1, 21)
abbrev M_X1_soundingSet : Md := (yX1_soundingSet, cX1_soundingSet, 4, (some .int), [], 3, 63)
abbrev M_X1_isHeard : Md := (yX1_isHeard, cX1_isHeard, 3, (some .boolean), [], 2, 41)
abbrev M_X1_firstSoundFrom : Md := (yX1_firstSoundFrom, cX1_firstSoundFrom, 3, (some .int), [], 4, 86)
abbrev M_X1_minuteOfMostSounds : Md := (yX1_minuteOfMostSounds, cX1_minuteOfMostSounds, 5, (some .int), [], 4, 86)
abbrev M_X1_countCommonSounds : Md := (yX1_countCommonSounds, cX1_countCommonSounds, 5, (some .int), [], 3, 63)
abbrev M_X1_delayToLoudMinutes : Md := (yX1_delayToLoudMinutes, cX1_delayToLoudMinutes, 6, (some .int), [], 1, 24)
abbrev M_X1_firstLoudChime : Md := (yX1_firstLoudChime, cX1_firstLoudChime, 5, (some .int), [], 0, 0)
abbrev M_X2_init : Md := (yX2_init, cX2_init, 3, none, [], 1, 20)
abbrev M_X2_countOn : Md := (yX2_countOn, cX2_countOn, 4, (some .int), [], 0, 0)
abbrev M_X2_momentWithout : Md := (yX2_momentWithout, cX2_momentWithout, 5, (some .int), [], 0, 0)
abbrev M_X2_momentWith : Md := (yX2_momentWith, cX2_momentWith, 4, (some .int), [], 1, 24)
abbrev M_X2_fits : Md := (yX2_fits, cX2_fits, 5, (some .boolean), [], 2, 43)
abbrev M_X2_errorOfPlace : Md := (yX2_errorOfPlace, cX2_errorOfPlace, 4, (some .int), [], 3, 67)
abbrev M_X2_countPlaces : Md := (yX2_countPlaces, cX2_countPlaces, 5, (some .int), [], 4, 90)
abbrev M_X2_calmestPlace : Md := (yX2_calmestPlace, cX2_calmestPlace, 7, (some .int), [], 4, 90)
abbrev M_X2_bellInPlace : Md := (yX2_bellInPlace, cX2_bellInPlace, 4, (some .int), [], 3, 64)
abbrev M_X2_countBefore : Md := (yX2_countBefore, cX2_countBefore, 4, (some .int), [], 2, 41)
abbrev M_X2_bestMirror : Md := (yX2_bestMirror, cX2_bestMirror, 8, (some .int), [], 3, 68)
abbrev M_X2_momentMirrored : Md := (yX2_momentMirrored, cX2_momentMirrored, 5, (some .int), [], 1, 23)
abbrev M_X2_bellsOn : Md := (yX2_bellsOn, cX2_bellsOn, 4, (some .int), [], 0, 0)
abbrev M_X2_clearMirrored : Md := (yX2_clearMirrored, cX2_clearMirrored, 6, (some .boolean), [], 2, 43)
abbrev M_X2_positionMirrored : Md := (yX2_positionMirrored, cX2_positionMirrored, 4, (some .int), [], 0, 0)
abbrev M_X3_init : Md := (yX3_init, cX3_init, 2, none, [], 2, 40)
abbrev M_X3_forgetAll : Md := (yX3_forgetAll, cX3_forgetAll, 1, none, [], 0, 0)
abbrev M_X3_push : Md := (yX3_push, cX3_push, 4, none, [], 1, 21)
abbrev M_X3_stepBack : Md := (yX3_stepBack, cX3_stepBack, 4, none, [], 1, 21)
abbrev M_X4_init : Md := (yX4_init, cX4_init, 3, none, [], 1, 20)
abbrev M_X4_countPlanned : Md := (yX4_countPlanned, cX4_countPlanned, 3, (some .int), [], 1, 20)
abbrev M_X4_countConflicts : Md := (yX4_countConflicts, cX4_countConflicts, 1, (some .int), [], 3, 67)
abbrev M_X4_unbalancedBeams : Md := (yX4_unbalancedBeams, cX4_unbalancedBeams, 1, (some .int), [], 3, 64)
abbrev M_X4_findWay : Md := (yX4_findWay, cX4_findWay, 3, (some .boolean), [], 6, 134)
abbrev M_X4_countSteps : Md := (yX4_countSteps, cX4_countSteps, 3, (some .int), [], 0, 0)
abbrev M_X4_stepOfWay : Md := (yX4_stepOfWay, cX4_stepOfWay, 5, (some .int), [], 1, 22)
abbrev M_X4_presentArrangement : Md := (yX4_presentArrangement, cX4_presentArrangement, 3, (some .int), [], 1, 20)
abbrev M_X4_goalArrangement : Md := (yX4_goalArrangement, cX4_goalArrangement, 3, (some .int), [], 2, 40)
abbrev M_X4_isReached : Md := (yX4_isReached, cX4_isReached, 2, (some .boolean), [], 0, 0)
abbrev M_X4_stepFrom : Md := (yX4_stepFrom, cX4_stepFrom, 4, none, [], 5, 111)
abbrev M_X4_reach : Md := (yX4_reach, cX4_reach, 4, none, [], 4, 88)
abbrev M_X4_allowed : Md := (yX4_allowed, cX4_allowed, 2, (some .boolean), [], 3, 67)
abbrev M_X4_arrange : Md := (yX4_arrange, cX4_arrange, 6, none, [], 1, 21)
abbrev M_X4_unbalancedThere : Md := (yX4_unbalancedThere, cX4_unbalancedThere, 3, (some .int), [], 2, 42)
abbrev M_X4_conflictsThere : Md := (yX4_conflictsThere, cX4_conflictsThere, 5, (some .int), [], 2, 43)
abbrev M_X4_stateIn : Md := (yX4_stateIn, cX4_stateIn, 2, (some .int), [], 0, 0)
abbrev M_X4_beamIn : Md := (yX4_beamIn, cX4_beamIn, 2, (some .int), [], 0, 0)
abbrev M_X5_init : Md := (yX5_init, cX5_init, 3, none, [], 1, 20)
abbrev M_X5_lengthFor : Md := (yX5_lengthFor, cX5_lengthFor, 3, (some .int), [], 1, 20)
abbrev M_X5_findCutting : Md := (yX5_findCutting, cX5_findCutting, 2, (some .boolean), [], 3, 67)
abbrev M_X5_measureSets : Md := (yX5_measureSets, cX5_measureSets, 6, none, [], 2, 42)
abbrev M_X5_digitPlace : Md := (yX5_digitPlace, cX5_digitPlace, 1, (some .int), [], 0, 0)
abbrev M_X5_offerPiece : Md := (yX5_offerPiece, cX5_offerPiece, 6, none, [], 1, 21)
abbrev M_X5_countUsedPieces : Md := (yX5_countUsedPieces, cX5_countUsedPieces, 1, (some .int), [], 0, 0)
abbrev M_X5_pieceFor : Md := (yX5_pieceFor, cX5_pieceFor, 2, (some .int), [], 1, 20)
abbrev M_X5_lengthLeft : Md := (yX5_lengthLeft, cX5_lengthLeft, 4, (some .int), [], 2, 41)
abbrev M_X5_leastMissingLength : Md := (yX5_leastMissingLength, cX5_leastMissingLength, 3, (some .int), [], 1, 21)
abbrev M_X6_init : Md := (yX6_init, cX6_init, 3, none, [], 1, 20)
abbrev M_X6_countSwinging : Md := (yX6_countSwinging, cX6_countSwinging, 3, (some .int), [], 1, 20)
abbrev M_X6_offsetOf : Md := (yX6_offsetOf, cX6_offsetOf, 4, (some .int), [], 1, 23)
abbrev M_X6_offsetOfSwing : Md := (yX6_offsetOfSwing, cX6_offsetOfSwing, 4, (some .int), [], 0, 0)
abbrev M_X6_gapBetween : Md := (yX6_gapBetween, cX6_gapBetween, 4, (some .int), [], 3, 68)
abbrev M_X6_gapOfSpots : Md := (yX6_gapOfSpots, cX6_gapOfSpots, 6, (some .int), [], 0, 0)
abbrev M_X6_spotOf : Md := (yX6_spotOf, cX6_spotOf, 3, (some .int), [], 2, 46)
abbrev M_X6_tickOfCollision : Md := (yX6_tickOfCollision, cX6_tickOfCollision, 2, (some .int), [], 4, 91)
abbrev M_X6_pairCollidingAt : Md := (yX6_pairCollidingAt, cX6_pairCollidingAt, 4, (some .int), [], 3, 68)
abbrev M_X6_leastSafeStart : Md := (yX6_leastSafeStart, cX6_leastSafeStart, 4, (some .int), [], 5, 117)
abbrev M_X6_greatestSafeAmplitude : Md := (yX6_greatestSafeAmplitude, cX6_greatestSafeAmplitude, 3, (some .int), [], 5, 117)
abbrev M_X6_findRoom : Md := (yX6_findRoom, cX6_findRoom, 3, none, [], 4, 95)
abbrev M_X6_narrowRoom : Md := (yX6_narrowRoom, cX6_narrowRoom, 8, none, [], 3, 68)
abbrev M_X6_staysInRoom : Md := (yX6_staysInRoom, cX6_staysInRoom, 7, (some .boolean), [], 1, 23)
abbrev M_X6_countStrikes : Md := (yX6_countStrikes, cX6_countStrikes, 6, (some .int), [], 1, 25)
abbrev M_X6_firstCommonStrike : Md := (yX6_firstCommonStrike, cX6_firstCommonStrike, 4, (some .int), [], 1, 25)
abbrev M_X6_strikesAt : Md := (yX6_strikesAt, cX6_strikesAt, 6, (some .boolean), [], 0, 0)
abbrev M_X7_init : Md := (yX7_init, cX7_init, 1, none, [], 1, 20)
abbrev M_X7_empty : Md := (yX7_empty, cX7_empty, 1, none, [], 0, 0)
abbrev M_X7_isFull : Md := (yX7_isFull, cX7_isFull, 2, (some .boolean), [], 0, 0)
abbrev M_X7_add : Md := (yX7_add, cX7_add, 3, none, [], 1, 21)
abbrev M_X7_copyFrom : Md := (yX7_copyFrom, cX7_copyFrom, 2, none, [], 1, 60)
abbrev M_X7_keepsClear : Md := (yX7_keepsClear, cX7_keepsClear, 4, (some .boolean), [], 1, 20)
abbrev M_X7_bears : Md := (yX7_bears, cX7_bears, 3, (some .boolean), [], 1, 20)
abbrev M_X8_init : Md := (yX8_init, cX8_init, 1, none, [], 1, 20)
abbrev M_X8_addWord : Md := (yX8_addWord, cX8_addWord, 3, none, [], 0, 0)
abbrev M_X8_parse : Md := (yX8_parse, cX8_parse, 4, (some .int), [], 8, 171)
abbrev M_X8_parseStatement : Md := (yX8_parseStatement, cX8_parseStatement, 4, (some .int), [], 7, 148)
abbrev M_X8_mayStand : Md := (yX8_mayStand, cX8_mayStand, 2, (some .boolean), [], 0, 0)
abbrev M_X8_parseNumbers : Md := (yX8_parseNumbers, cX8_parseNumbers, 5, none, [], 3, 61)
abbrev M_X8_fail : Md := (yX8_fail, cX8_fail, 2, none, [], 0, 0)
abbrev M_X8_statementOfToken : Md := (yX8_statementOfToken, cX8_statementOfToken, 1, (some .int), [], 6, 128)
abbrev M_X8_tokenIs : Md := (yX8_tokenIs, cX8_tokenIs, 3, (some .boolean), [], 5, 106)
abbrev M_X8_readToken : Md := (yX8_readToken, cX8_readToken, 1, none, [], 2, 41)
abbrev M_X8_skipBlanks : Md := (yX8_skipBlanks, cX8_skipBlanks, 1, none, [], 1, 21)
abbrev M_X8_skipLetters : Md := (yX8_skipLetters, cX8_skipLetters, 1, none, [], 1, 21)
abbrev M_X8_readNumber : Md := (yX8_readNumber, cX8_readNumber, 1, none, [], 1, 21)
abbrev M_X8_byteAt : Md := (yX8_byteAt, cX8_byteAt, 2, (some .int), [], 0, 0)
abbrev M_X8_isLetter : Md := (yX8_isLetter, cX8_isLetter, 1, (some .boolean), [], 0, 0)
abbrev M_X8_isDigit : Md := (yX8_isDigit, cX8_isDigit, 1, (some .boolean), [], 0, 0)
abbrev M_X9_init : Md := (yX9_init, cX9_init, 2, none, [], 3, 61)
abbrev M_X9_append : Md := (yX9_append, cX9_append, 6, (some .int), [], 6, 90)
abbrev M_X9_truncate : Md := (yX9_truncate, cX9_truncate, 2, (some .int), [], 7, 112)
abbrev M_X9_load : Md := (yX9_load, cX9_load, 3, (some .int), [], 9, 194)
abbrev M_X9_errorPosition : Md := (yX9_errorPosition, cX9_errorPosition, 1, (some .int), [], 0, 0)
abbrev M_X9_hang : Md := (yX9_hang, cX9_hang, 5, (some .int), [], 8, 133)
abbrev M_X9_takeDown : Md := (yX9_takeDown, cX9_takeDown, 3, (some .int), [], 8, 133)
abbrev M_X9_shift : Md := (yX9_shift, cX9_shift, 5, (some .int), [], 8, 133)
abbrev M_X9_beamOf : Md := (yX9_beamOf, cX9_beamOf, 2, (some .int), [], 8, 133)
abbrev M_X9_positionOf : Md := (yX9_positionOf, cX9_positionOf, 2, (some .int), [], 8, 133)
abbrev M_X9_torque : Md := (yX9_torque, cX9_torque, 2, (some .int), [], 8, 133)
abbrev M_X9_bellAt : Md := (yX9_bellAt, cX9_bellAt, 3, (some .int), [], 8, 133)
abbrev M_X9_freePositions : Md := (yX9_freePositions, cX9_freePositions, 3, (some .int), [], 8, 133)
abbrev M_X9_bestPosition : Md := (yX9_bestPosition, cX9_bestPosition, 3, (some .int), [], 8, 133)
abbrev M_X9_mirroredTorque : Md := (yX9_mirroredTorque, cX9_mirroredTorque, 2, (some .int), [], 8, 133)
abbrev M_X9_mirroredBells : Md := (yX9_mirroredBells, cX9_mirroredBells, 2, (some .int), [], 8, 133)
abbrev M_X9_setPlan : Md := (yX9_setPlan, cX9_setPlan, 4, (some .int), [], 8, 133)
abbrev M_X9_clearPlan : Md := (yX9_clearPlan, cX9_clearPlan, 2, (some .int), [], 8, 133)
abbrev M_X9_planConflicts : Md := (yX9_planConflicts, cX9_planConflicts, 1, (some .int), [], 7, 110)
abbrev M_X9_planUnbalanced : Md := (yX9_planUnbalanced, cX9_planUnbalanced, 1, (some .int), [], 7, 110)
abbrev M_X9_stepsToPlan : Md := (yX9_stepsToPlan, cX9_stepsToPlan, 1, (some .int), [], 7, 156)
abbrev M_X9_planStep : Md := (yX9_planStep, cX9_planStep, 2, (some .int), [], 7, 156)
abbrev M_X9_startSwing : Md := (yX9_startSwing, cX9_startSwing, 4, (some .int), [], 8, 133)
abbrev M_X9_stopSwing : Md := (yX9_stopSwing, cX9_stopSwing, 2, (some .int), [], 8, 133)
abbrev M_X9_offset : Md := (yX9_offset, cX9_offset, 3, (some .int), [], 8, 133)
abbrev M_X9_gap : Md := (yX9_gap, cX9_gap, 4, (some .int), [], 8, 133)
abbrev M_X9_firstCollision : Md := (yX9_firstCollision, cX9_firstCollision, 2, (some .int), [], 7, 112)
abbrev M_X9_collidingBells : Md := (yX9_collidingBells, cX9_collidingBells, 2, (some .int), [], 7, 112)
abbrev M_X9_safeStart : Md := (yX9_safeStart, cX9_safeStart, 3, (some .int), [], 8, 140)
abbrev M_X9_safeAmplitude : Md := (yX9_safeAmplitude, cX9_safeAmplitude, 2, (some .int), [], 8, 139)
abbrev M_X9_strikes : Md := (yX9_strikes, cX9_strikes, 4, (some .int), [], 8, 133)
abbrev M_X9_strikeTogether : Md := (yX9_strikeTogether, cX9_strikeTogether, 3, (some .int), [], 8, 133)
abbrev M_X9_setChime : Md := (yX9_setChime, cX9_setChime, 4, (some .int), [], 8, 133)
abbrev M_X9_clearChime : Md := (yX9_clearChime, cX9_clearChime, 2, (some .int), [], 8, 133)
abbrev M_X9_isQuiet : Md := (yX9_isQuiet, cX9_isQuiet, 2, (some .boolean), [], 7, 112)
abbrev M_X9_quietMinutes : Md := (yX9_quietMinutes, cX9_quietMinutes, 1, (some .int), [], 7, 110)
abbrev M_X9_longestLoud : Md := (yX9_longestLoud, cX9_longestLoud, 1, (some .int), [], 7, 110)
abbrev M_X9_soundsAt : Md := (yX9_soundsAt, cX9_soundsAt, 2, (some .int), [], 7, 112)
abbrev M_X9_soundsPerDay : Md := (yX9_soundsPerDay, cX9_soundsPerDay, 2, (some .int), [], 8, 133)
abbrev M_X9_nextSound : Md := (yX9_nextSound, cX9_nextSound, 2, (some .int), [], 7, 112)
abbrev M_X9_busiestMinute : Md := (yX9_busiestMinute, cX9_busiestMinute, 1, (some .int), [], 7, 110)
abbrev M_X9_soundTogether : Md := (yX9_soundTogether, cX9_soundTogether, 3, (some .int), [], 8, 133)
abbrev M_X9_leastDelay : Md := (yX9_leastDelay, cX9_leastDelay, 2, (some .int), [], 8, 133)
abbrev M_X9_ropeLength : Md := (yX9_ropeLength, cX9_ropeLength, 2, (some .int), [], 8, 133)
abbrev M_X9_fewestPieces : Md := (yX9_fewestPieces, cX9_fewestPieces, 1, (some .int), [], 7, 110)
abbrev M_X9_pieceOf : Md := (yX9_pieceOf, cX9_pieceOf, 2, (some .int), [], 8, 133)
abbrev M_X9_waste : Md := (yX9_waste, cX9_waste, 1, (some .int), [], 7, 110)
abbrev M_X9_extraPiece : Md := (yX9_extraPiece, cX9_extraPiece, 1, (some .int), [], 7, 110)
abbrev M_X9_undo : Md := (yX9_undo, cX9_undo, 1, (some .int), [], 7, 110)
abbrev M_X9_rememberBell : Md := (yX9_rememberBell, cX9_rememberBell, 2, none, [], 2, 44)
abbrev M_X9_requireTower : Md := (yX9_requireTower, cX9_requireTower, 1, none, [], 6, 90)
abbrev M_X9_requireBell : Md := (yX9_requireBell, cX9_requireBell, 2, none, [], 7, 112)
abbrev M_X9_requireBeam : Md := (yX9_requireBeam, cX9_requireBeam, 2, none, [], 7, 112)
abbrev M_X9_requireRange : Md := (yX9_requireRange, cX9_requireRange, 3, none, [], 6, 90)
abbrev M_X9_requireHanging : Md := (yX9_requireHanging, cX9_requireHanging, 2, none, [], 6, 90)
abbrev M_X10_init : Md := (yX10_init, cX10_init, 1, none, [], 1, 20)
abbrev M_X10_thrown : Md := (yX10_thrown, cX10_thrown, 1, (some .int), [], 0, 0)
abbrev M_X10_isIn : Md := (yX10_isIn, cX10_isIn, 6, (some .boolean), [], 0, 0)
abbrev M_X10_size : Md := (yX10_size, cX10_size, 1, (some .int), [], 0, 0)
abbrev M_X10_has : Md := (yX10_has, cX10_has, 2, (some .boolean), [], 0, 0)
abbrev M_X10_count : Md := (yX10_count, cX10_count, 3, (some .int), [], 0, 0)
abbrev M_X10_isWrong : Md := (yX10_isWrong, cX10_isWrong, 2, (some .boolean), [], 0, 0)
abbrev M_X10_put : Md := (yX10_put, cX10_put, 3, none, [], 0, 0)
abbrev M_X10_append : Md := (yX10_append, cX10_append, 6, (some .int), [], 1, 22)
abbrev M_X10_truncate : Md := (yX10_truncate, cX10_truncate, 2, (some .int), [], 1, 25)
abbrev M_X10_byteAt : Md := (yX10_byteAt, cX10_byteAt, 2, (some .int), [], 0, 0)
abbrev M_X10_isLetterAt : Md := (yX10_isLetterAt, cX10_isLetterAt, 2, (some .boolean), [], 1, 25)
abbrev M_X10_isDigitAt : Md := (yX10_isDigitAt, cX10_isDigitAt, 2, (some .boolean), [], 1, 25)
abbrev M_X10_isFine : Md := (yX10_isFine, cX10_isFine, 1, (some .boolean), [], 0, 0)
abbrev M_X10_next : Md := (yX10_next, cX10_next, 1, none, [], 2, 46)
abbrev M_X10_fail : Md := (yX10_fail, cX10_fail, 2, none, [], 1, 20)
abbrev M_X10_isKeyword : Md := (yX10_isKeyword, cX10_isKeyword, 3, (some .boolean), [], 5, 106)
abbrev M_X10_readAbove : Md := (yX10_readAbove, cX10_readAbove, 5, (some .int), [], 3, 66)
abbrev M_X10_readIn : Md := (yX10_readIn, cX10_readIn, 3, (some .int), [], 4, 90)
abbrev M_X10_expectSemicolon : Md := (yX10_expectSemicolon, cX10_expectSemicolon, 1, none, [], 3, 66)
abbrev M_X10_begins : Md := (yX10_begins, cX10_begins, 3, (some .boolean), [], 3, 66)
abbrev M_X10_readBeams : Md := (yX10_readBeams, cX10_readBeams, 1, none, [], 6, 128)
abbrev M_X10_readBells : Md := (yX10_readBells, cX10_readBells, 1, none, [], 6, 128)
abbrev M_X10_readQuiets : Md := (yX10_readQuiets, cX10_readQuiets, 2, none, [], 6, 128)
abbrev M_X10_readRopes : Md := (yX10_readRopes, cX10_readRopes, 1, none, [], 6, 128)
abbrev M_X10_load : Md := (yX10_load, cX10_load, 1, (some .int), [], 7, 149)
abbrev M_X10_takeOver : Md := (yX10_takeOver, cX10_takeOver, 2, none, [], 0, 0)
abbrev M_X10_errorPosition : Md := (yX10_errorPosition, cX10_errorPosition, 1, (some .int), [], 0, 0)
abbrev M_X10_remember : Md := (yX10_remember, cX10_remember, 2, none, [], 0, 0)
abbrev M_X10_undo : Md := (yX10_undo, cX10_undo, 2, (some .int), [], 1, 21)
abbrev M_X10_of : Md := (yX10_of, cX10_of, 3, (some .int), [], 0, 0)
abbrev M_X10_set : Md := (yX10_set, cX10_set, 4, none, [], 0, 0)
abbrev M_X10_isBell : Md := (yX10_isBell, cX10_isBell, 2, (some .boolean), [], 1, 25)
abbrev M_X10_isBeam : Md := (yX10_isBeam, cX10_isBeam, 2, (some .boolean), [], 1, 25)
abbrev M_X10_isPosition : Md := (yX10_isPosition, cX10_isPosition, 1, (some .boolean), [], 1, 25)
abbrev M_X10_hangs : Md := (yX10_hangs, cX10_hangs, 2, (some .boolean), [], 1, 22)
abbrev M_X10_swings : Md := (yX10_swings, cX10_swings, 2, (some .boolean), [], 1, 22)
abbrev M_X10_chimes : Md := (yX10_chimes, cX10_chimes, 2, (some .boolean), [], 1, 22)
abbrev M_X10_bellsOn : Md := (yX10_bellsOn, cX10_bellsOn, 4, (some .int), [], 1, 22)
abbrev M_X10_pull : Md := (yX10_pull, cX10_pull, 4, (some .int), [], 1, 22)
abbrev M_X10_isClear : Md := (yX10_isClear, cX10_isClear, 5, (some .boolean), [], 1, 22)
abbrev M_X10_isBalanced : Md := (yX10_isBalanced, cX10_isBalanced, 3, (some .boolean), [], 1, 20)
abbrev M_X10_hang : Md := (yX10_hang, cX10_hang, 4, (some .int), [], 2, 46)
abbrev M_X10_takeDown : Md := (yX10_takeDown, cX10_takeDown, 3, (some .int), [], 2, 46)
abbrev M_X10_shift : Md := (yX10_shift, cX10_shift, 5, (some .int), [], 2, 46)
abbrev M_X10_beamOf : Md := (yX10_beamOf, cX10_beamOf, 2, (some .int), [], 2, 46)
abbrev M_X10_positionOf : Md := (yX10_positionOf, cX10_positionOf, 2, (some .int), [], 2, 46)
abbrev M_X10_torque : Md := (yX10_torque, cX10_torque, 2, (some .int), [], 2, 46)
abbrev M_X10_bellAt : Md := (yX10_bellAt, cX10_bellAt, 6, (some .int), [], 2, 46)
abbrev M_X10_canHang : Md := (yX10_canHang, cX10_canHang, 4, (some .boolean), [], 2, 46)
abbrev M_X10_freePositions : Md := (yX10_freePositions, cX10_freePositions, 5, (some .int), [], 3, 69)
abbrev M_X10_bestPosition : Md := (yX10_bestPosition, cX10_bestPosition, 7, (some .int), [], 3, 69)
abbrev M_X10_isMirrorClear : Md := (yX10_isMirrorClear, cX10_isMirrorClear, 7, (some .boolean), [], 1, 22)
abbrev M_X10_bestMirror : Md := (yX10_bestMirror, cX10_bestMirror, 7, (some .int), [], 2, 48)
abbrev M_X10_mirroredTorque : Md := (yX10_mirroredTorque, cX10_mirroredTorque, 3, (some .int), [], 3, 74)
abbrev M_X10_mirroredBells : Md := (yX10_mirroredBells, cX10_mirroredBells, 2, (some .int), [], 3, 74)
abbrev M_X10_plans : Md := (yX10_plans, cX10_plans, 3, (some .int), [], 1, 22)
abbrev M_X10_setPlan : Md := (yX10_setPlan, cX10_setPlan, 4, (some .int), [], 2, 46)
abbrev M_X10_clearPlan : Md := (yX10_clearPlan, cX10_clearPlan, 2, (some .int), [], 2, 46)
abbrev M_X10_layOut : Md := (yX10_layOut, cX10_layOut, 4, none, [], 1, 22)
abbrev M_X10_isPlaced : Md := (yX10_isPlaced, cX10_isPlaced, 2, (some .boolean), [], 0, 0)
abbrev M_X10_areClear : Md := (yX10_areClear, cX10_areClear, 3, (some .boolean), [], 1, 21)
abbrev M_X10_torqueLaid : Md := (yX10_torqueLaid, cX10_torqueLaid, 4, (some .int), [], 0, 0)
abbrev M_X10_canBe : Md := (yX10_canBe, cX10_canBe, 4, (some .boolean), [], 2, 45)
abbrev M_X10_isAtGoal : Md := (yX10_isAtGoal, cX10_isAtGoal, 2, (some .boolean), [], 2, 43)
abbrev M_X10_goal : Md := (yX10_goal, cX10_goal, 4, (some .int), [], 2, 43)
abbrev M_X10_planConflicts : Md := (yX10_planConflicts, cX10_planConflicts, 4, (some .int), [], 3, 66)
abbrev M_X10_planUnbalanced : Md := (yX10_planUnbalanced, cX10_planUnbalanced, 3, (some .int), [], 3, 66)
abbrev M_X10_powerOf : Md := (yX10_powerOf, cX10_powerOf, 4, (some .int), [], 0, 0)
abbrev M_X10_present : Md := (yX10_present, cX10_present, 3, (some .int), [], 2, 43)
abbrev M_X10_digitOf : Md := (yX10_digitOf, cX10_digitOf, 2, (some .int), [], 0, 0)
abbrev M_X10_findWays : Md := (yX10_findWays, cX10_findWays, 7, none, [], 3, 68)
abbrev M_X10_after : Md := (yX10_after, cX10_after, 6, (some .int), [], 1, 23)
abbrev M_X10_stepsToPlan : Md := (yX10_stepsToPlan, cX10_stepsToPlan, 2, (some .int), [], 4, 94)
abbrev M_X10_planStep : Md := (yX10_planStep, cX10_planStep, 5, (some .int), [], 4, 94)
abbrev M_X10_swinging : Md := (yX10_swinging, cX10_swinging, 3, (some .int), [], 2, 43)
abbrev M_X10_startSwing : Md := (yX10_startSwing, cX10_startSwing, 4, (some .int), [], 3, 65)
abbrev M_X10_stopSwing : Md := (yX10_stopSwing, cX10_stopSwing, 2, (some .int), [], 3, 65)
abbrev M_X10_offsetBy : Md := (yX10_offsetBy, cX10_offsetBy, 7, (some .int), [], 0, 0)
abbrev M_X10_offsetAt : Md := (yX10_offsetAt, cX10_offsetAt, 3, (some .int), [], 2, 43)
abbrev M_X10_offset : Md := (yX10_offset, cX10_offset, 3, (some .int), [], 3, 65)
abbrev M_X10_areTogether : Md := (yX10_areTogether, cX10_areTogether, 3, (some .boolean), [], 2, 43)
abbrev M_X10_gapBy : Md := (yX10_gapBy, cX10_gapBy, 6, (some .int), [], 1, 22)
abbrev M_X10_gap : Md := (yX10_gap, cX10_gap, 4, (some .int), [], 3, 65)
abbrev M_X10_collide : Md := (yX10_collide, cX10_collide, 4, (some .boolean), [], 3, 65)
abbrev M_X10_collision : Md := (yX10_collision, cX10_collision, 4, (some .int), [], 4, 88)
abbrev M_X10_firstCollision : Md := (yX10_firstCollision, cX10_firstCollision, 2, (some .int), [], 5, 111)
abbrev M_X10_collidingBells : Md := (yX10_collidingBells, cX10_collidingBells, 2, (some .int), [], 5, 111)
abbrev M_X10_isSafe : Md := (yX10_isSafe, cX10_isSafe, 6, (some .boolean), [], 3, 65)
abbrev M_X10_safeStart : Md := (yX10_safeStart, cX10_safeStart, 4, (some .int), [], 4, 90)
abbrev M_X10_safeAmplitude : Md := (yX10_safeAmplitude, cX10_safeAmplitude, 3, (some .int), [], 4, 90)
abbrev M_X10_strikesAt : Md := (yX10_strikesAt, cX10_strikesAt, 5, (some .boolean), [], 1, 22)
abbrev M_X10_strikes : Md := (yX10_strikes, cX10_strikes, 6, (some .int), [], 2, 46)
abbrev M_X10_strikeTogether : Md := (yX10_strikeTogether, cX10_strikeTogether, 4, (some .int), [], 2, 46)
abbrev M_X10_setChime : Md := (yX10_setChime, cX10_setChime, 4, (some .int), [], 2, 46)
abbrev M_X10_clearChime : Md := (yX10_clearChime, cX10_clearChime, 4, (some .int), [], 2, 46)
abbrev M_X10_isSilent : Md := (yX10_isSilent, cX10_isSilent, 3, (some .boolean), [], 0, 0)
abbrev M_X10_isQuiet : Md := (yX10_isQuiet, cX10_isQuiet, 2, (some .boolean), [], 1, 25)
abbrev M_X10_quietMinutes : Md := (yX10_quietMinutes, cX10_quietMinutes, 3, (some .int), [], 1, 22)
abbrev M_X10_longestLoud : Md := (yX10_longestLoud, cX10_longestLoud, 4, (some .int), [], 1, 22)
abbrev M_X10_sounds : Md := (yX10_sounds, cX10_sounds, 4, (some .boolean), [], 2, 43)
abbrev M_X10_soundingAt : Md := (yX10_soundingAt, cX10_soundingAt, 4, (some .int), [], 3, 66)
abbrev M_X10_soundsAt : Md := (yX10_soundsAt, cX10_soundsAt, 2, (some .int), [], 4, 89)
abbrev M_X10_soundsPerDay : Md := (yX10_soundsPerDay, cX10_soundsPerDay, 4, (some .int), [], 3, 66)
abbrev M_X10_nextSound : Md := (yX10_nextSound, cX10_nextSound, 3, (some .int), [], 4, 89)
abbrev M_X10_busiestMinute : Md := (yX10_busiestMinute, cX10_busiestMinute, 5, (some .int), [], 4, 89)
abbrev M_X10_soundTogether : Md := (yX10_soundTogether, cX10_soundTogether, 5, (some .int), [], 3, 66)
abbrev M_X10_isLoudFrom : Md := (yX10_isLoudFrom, cX10_isLoudFrom, 4, (some .boolean), [], 1, 22)
abbrev M_X10_leastDelay : Md := (yX10_leastDelay, cX10_leastDelay, 3, (some .int), [], 2, 46)
abbrev M_X10_lengthOf : Md := (yX10_lengthOf, cX10_lengthOf, 2, (some .int), [], 1, 22)
abbrev M_X10_hanging : Md := (yX10_hanging, cX10_hanging, 3, (some .int), [], 2, 43)
abbrev M_X10_lengthsOf : Md := (yX10_lengthsOf, cX10_lengthsOf, 4, (some .int), [], 2, 43)
abbrev M_X10_laySums : Md := (yX10_laySums, cX10_laySums, 3, none, [], 3, 66)
abbrev M_X10_layFewest : Md := (yX10_layFewest, cX10_layFewest, 3, none, [], 1, 25)
abbrev M_X10_bestWith : Md := (yX10_bestWith, cX10_bestWith, 6, (some .int), [], 0, 0)
abbrev M_X10_cutting : Md := (yX10_cutting, cX10_cutting, 5, (some .int), [], 4, 88)
abbrev M_X10_choose : Md := (yX10_choose, cX10_choose, 7, (some .int), [], 2, 47)
abbrev M_X10_ropeLength : Md := (yX10_ropeLength, cX10_ropeLength, 2, (some .int), [], 2, 46)
abbrev M_X10_fewestPieces : Md := (yX10_fewestPieces, cX10_fewestPieces, 2, (some .int), [], 5, 112)
abbrev M_X10_pieceOf : Md := (yX10_pieceOf, cX10_pieceOf, 2, (some .int), [], 5, 112)
abbrev M_X10_waste : Md := (yX10_waste, cX10_waste, 3, (some .int), [], 5, 112)
abbrev M_X10_extraPiece : Md := (yX10_extraPiece, cX10_extraPiece, 4, (some .int), [], 4, 88)
abbrev M_J6_bitCount_0f7a4 : Md := (yJ6_bitCount_0f7a4, cJ6_bitCount_0f7a4, 1, (some .int), [], 0, 0)
abbrev M_J9_abs_0f7a4 : Md := (yJ9_abs_0f7a4, cJ9_abs_0f7a4, 1, (some .int), [], 0, 0)
abbrev M_J9_max_7cf53 : Md := (yJ9_max_7cf53, cJ9_max_7cf53, 2, (some .int), [], 0, 0)
abbrev M_J9_min_7cf53 : Md := (yJ9_min_7cf53, cJ9_min_7cf53, 2, (some .int), [], 0, 0)
abbrev M_J0_length_8abf5 : Md := (yJ0_length_8abf5, cJ0_length_8abf5, 1, (some .int), [], 1, 20)
abbrev M_J0_charAt_5068e : Md := (yJ0_charAt_5068e, cJ0_charAt_5068e, 2, (some .char), [], 4, 85)
abbrev M_J0_coder_7d493 : Md := (yJ0_coder_7d493, cJ0_coder_7d493, 1, (some .byte), [], 0, 0)
abbrev M_J0_isLatin1_aae02 : Md := (yJ0_isLatin1_aae02, cJ0_isLatin1_aae02, 1, (some .boolean), [], 0, 0)
abbrev M_J0_checkIndex_df160 : Md := (yJ0_checkIndex_df160, cJ0_checkIndex_df160, 2, none, [], 1, 22)
abbrev M_J1_charAt_3b067 : Md := (yJ1_charAt_3b067, cJ1_charAt_3b067, 2, (some .char), [], 2, 43)
abbrev M_J2_getChar_3b067 : Md := (yJ2_getChar_3b067, cJ2_getChar_3b067, 2, (some .char), [], 1, 20)
abbrev M_J2_length_9d52b : Md := (yJ2_length_9d52b, cJ2_length_9d52b, 1, (some .int), [], 0, 0)
abbrev M_J2_charAt_3b067 : Md := (yJ2_charAt_3b067, cJ2_charAt_3b067, 2, (some .char), [], 3, 64)
abbrev M_J2_checkIndex_2214a : Md := (yJ2_checkIndex_2214a, cJ2_checkIndex_2214a, 2, none, [], 2, 43)
abbrev M_J3_checkIndex_8e157 : Md := (yJ3_checkIndex_8e157, cJ3_checkIndex_8e157, 3, (some .int), [], 0, 0)
abbrev M_L_append : Md := (yL_append, cL_append, 8, (some .int), [(0, 16, 19, 13)], 7, 115)
abbrev M_L_truncate : Md := (yL_truncate, cL_truncate, 4, (some .int), [(0, 9, 12, 19)], 8, 133)
abbrev M_L_hang : Md := (yL_hang, cL_hang, 6, (some .int), [(0, 12, 15, 13), (0, 12, 19, 19)], 9, 157)
abbrev M_L_takeDown : Md := (yL_takeDown, cL_takeDown, 4, (some .int), [(0, 9, 12, 13), (0, 9, 15, 19)], 9, 155)
abbrev M_L_shift : Md := (yL_shift, cL_shift, 5, (some .int), [(0, 10, 13, 13), (0, 10, 17, 19)], 9, 157)
abbrev M_L_beamOf : Md := (yL_beamOf, cL_beamOf, 4, (some .int), [(0, 9, 12, 13), (0, 9, 15, 19)], 9, 154)
abbrev M_L_positionOf : Md := (yL_positionOf, cL_positionOf, 4, (some .int), [(0, 9, 12, 13), (0, 9, 15, 19), (0, 9, 18, 38)], 9, 154)
abbrev M_L_torque : Md := (yL_torque, cL_torque, 4, (some .int), [(0, 9, 12, 13), (0, 9, 15, 19)], 9, 154)
abbrev M_L_bellAt : Md := (yL_bellAt, cL_bellAt, 5, (some .int), [(0, 10, 13, 13), (0, 10, 17, 19)], 9, 155)
abbrev M_L_freePositions : Md := (yL_freePositions, cL_freePositions, 5, (some .int), [(0, 10, 13, 13), (0, 10, 17, 19)], 9, 155)
abbrev M_L_bestPosition : Md := (yL_bestPosition, cL_bestPosition, 5, (some .int), [(0, 10, 13, 13), (0, 10, 17, 19)], 9, 155)
abbrev M_L_mirroredTorque : Md := (yL_mirroredTorque, cL_mirroredTorque, 4, (some .int), [(0, 9, 12, 13), (0, 9, 15, 19)], 9, 154)
abbrev M_L_mirroredBells : Md := (yL_mirroredBells, cL_mirroredBells, 4, (some .int), [(0, 9, 12, 13), (0, 9, 15, 19)], 9, 154)
abbrev M_L_setPlan : Md := (yL_setPlan, cL_setPlan, 6, (some .int), [(0, 12, 15, 13), (0, 12, 19, 19)], 9, 156)
abbrev M_L_clearPlan : Md := (yL_clearPlan, cL_clearPlan, 4, (some .int), [(0, 9, 12, 13), (0, 9, 15, 19)], 9, 154)
abbrev M_L_planConflicts : Md := (yL_planConflicts, cL_planConflicts, 3, (some .int), [(0, 8, 11, 13)], 8, 130)
abbrev M_L_planUnbalanced : Md := (yL_planUnbalanced, cL_planUnbalanced, 3, (some .int), [(0, 8, 11, 13)], 8, 130)
abbrev M_L_stepsToPlan : Md := (yL_stepsToPlan, cL_stepsToPlan, 3, (some .int), [(0, 8, 11, 13)], 8, 176)
abbrev M_L_planStep : Md := (yL_planStep, cL_planStep, 4, (some .int), [(0, 9, 12, 13), (0, 9, 15, 19)], 8, 177)
abbrev M_L_startSwing : Md := (yL_startSwing, cL_startSwing, 6, (some .int), [(0, 12, 15, 13), (0, 12, 19, 19)], 9, 156)
abbrev M_L_stopSwing : Md := (yL_stopSwing, cL_stopSwing, 4, (some .int), [(0, 9, 12, 13), (0, 9, 15, 19)], 9, 154)
abbrev M_L_offset : Md := (yL_offset, cL_offset, 5, (some .int), [(0, 10, 13, 13), (0, 10, 17, 19), (0, 10, 21, 38)], 9, 155)
abbrev M_L_gap : Md := (yL_gap, cL_gap, 6, (some .int), [(0, 12, 15, 13), (0, 12, 19, 19), (0, 12, 23, 38)], 9, 156)
abbrev M_L_firstCollision : Md := (yL_firstCollision, cL_firstCollision, 3, (some .int), [(0, 8, 11, 13)], 8, 133)
abbrev M_L_collidingBells : Md := (yL_collidingBells, cL_collidingBells, 3, (some .int), [(0, 8, 11, 13)], 8, 133)
abbrev M_L_safeStart : Md := (yL_safeStart, cL_safeStart, 5, (some .int), [(0, 10, 13, 13), (0, 10, 17, 19)], 9, 162)
abbrev M_L_safeAmplitude : Md := (yL_safeAmplitude, cL_safeAmplitude, 4, (some .int), [(0, 9, 12, 13), (0, 9, 15, 19)], 9, 160)
abbrev M_L_strikes : Md := (yL_strikes, cL_strikes, 6, (some .int), [(0, 12, 15, 13), (0, 12, 19, 19)], 9, 156)
abbrev M_L_strikeTogether : Md := (yL_strikeTogether, cL_strikeTogether, 5, (some .int), [(0, 10, 13, 13), (0, 10, 17, 19)], 9, 155)
abbrev M_L_setChime : Md := (yL_setChime, cL_setChime, 6, (some .int), [(0, 12, 15, 13), (0, 12, 19, 19)], 9, 156)
abbrev M_L_clearChime : Md := (yL_clearChime, cL_clearChime, 4, (some .int), [(0, 9, 12, 13), (0, 9, 15, 19)], 9, 154)
abbrev M_L_isQuiet : Md := (yL_isQuiet, cL_isQuiet, 4, (some .int), [(0, 16, 19, 13), (0, 16, 22, 19)], 8, 133)
abbrev M_L_quietMinutes : Md := (yL_quietMinutes, cL_quietMinutes, 3, (some .int), [(0, 8, 11, 13)], 8, 130)
abbrev M_L_longestLoud : Md := (yL_longestLoud, cL_longestLoud, 3, (some .int), [(0, 8, 11, 13)], 8, 130)
abbrev M_L_soundsAt : Md := (yL_soundsAt, cL_soundsAt, 4, (some .int), [(0, 9, 12, 13), (0, 9, 15, 19)], 8, 133)
abbrev M_L_soundsPerDay : Md := (yL_soundsPerDay, cL_soundsPerDay, 4, (some .int), [(0, 9, 12, 13), (0, 9, 15, 19)], 9, 154)
abbrev M_L_nextSound : Md := (yL_nextSound, cL_nextSound, 4, (some .int), [(0, 9, 12, 13), (0, 9, 15, 19)], 8, 133)
abbrev M_L_busiestMinute : Md := (yL_busiestMinute, cL_busiestMinute, 3, (some .int), [(0, 8, 11, 13)], 8, 130)
abbrev M_L_soundTogether : Md := (yL_soundTogether, cL_soundTogether, 5, (some .int), [(0, 10, 13, 13), (0, 10, 17, 19)], 9, 155)
abbrev M_L_leastDelay : Md := (yL_leastDelay, cL_leastDelay, 4, (some .int), [(0, 9, 12, 13), (0, 9, 15, 19)], 9, 154)
abbrev M_L_ropeLength : Md := (yL_ropeLength, cL_ropeLength, 4, (some .int), [(0, 9, 12, 13), (0, 9, 15, 19)], 9, 154)
abbrev M_L_fewestPieces : Md := (yL_fewestPieces, cL_fewestPieces, 3, (some .int), [(0, 8, 11, 13)], 8, 130)
abbrev M_L_pieceOf : Md := (yL_pieceOf, cL_pieceOf, 4, (some .int), [(0, 9, 12, 13), (0, 9, 15, 19)], 9, 154)
abbrev M_L_waste : Md := (yL_waste, cL_waste, 3, (some .int), [(0, 8, 11, 13)], 8, 130)
abbrev M_L_extraPiece : Md := (yL_extraPiece, cL_extraPiece, 3, (some .int), [(0, 8, 11, 13)], 8, 130)
abbrev M_L_undo : Md := (yL_undo, cL_undo, 3, (some .int), [(0, 8, 11, 13)], 8, 130)
abbrev M_L_law : Md := (yL_law, cL_law, 7, some .boolean, [], 10, 216)
theorem gw_0 : Cond.selects "BellTowerPlanner$TowerText" ⟨"BellTowerPlanner$TowerText", "readToken", "()V"⟩ ⟨"BellTowerPlanner$TowerText", "readToken", "()V"⟩ ∈ gt := gt_in (List.mem_of_getElem? (i := 0) (by decide +kernel)) (by decide +kernel)
theorem gw_1 : Cond.selects "BellTowerPlanner$TowerText" ⟨"BellTowerPlanner$TowerText", "skipBlanks", "()V"⟩ ⟨"BellTowerPlanner$TowerText", "skipBlanks", "()V"⟩ ∈ gt := gt_in (List.mem_of_getElem? (i := 1) (by decide +kernel)) (by decide +kernel)
theorem gw_2 : Cond.selects "BellTowerPlanner$TowerText" ⟨"BellTowerPlanner$TowerText", "byteAt", "(I)I"⟩ ⟨"BellTowerPlanner$TowerText", "byteAt", "(I)I"⟩ ∈ gt := gt_in (List.mem_of_getElem? (i := 2) (by decide +kernel)) (by decide +kernel)
theorem gw_3 : Cond.selects "BellTowerPlanner$TowerText" ⟨"BellTowerPlanner$TowerText", "skipLetters", "()V"⟩ ⟨"BellTowerPlanner$TowerText", "skipLetters", "()V"⟩ ∈ gt := gt_in (List.mem_of_getElem? (i := 3) (by decide +kernel)) (by decide +kernel)
theorem gw_4 : Cond.selects "BellTowerPlanner$TowerText" ⟨"BellTowerPlanner$TowerText", "readNumber", "()V"⟩ ⟨"BellTowerPlanner$TowerText", "readNumber", "()V"⟩ ∈ gt := gt_in (List.mem_of_getElem? (i := 4) (by decide +kernel)) (by decide +kernel)
theorem gw_5 : Cond.selects "BellTowerPlanner$TowerText" ⟨"BellTowerPlanner$TowerText", "parseStatement", "(LBellTowerPlanner$Tower;I)I"⟩ ⟨"BellTowerPlanner$TowerText", "parseStatement", "(LBellTowerPlanner$Tower;I)I"⟩ ∈ gt := gt_in (List.mem_of_getElem? (i := 5) (by decide +kernel)) (by decide +kernel)
theorem gw_6 : Cond.selects "BellTowerPlanner$TowerText" ⟨"BellTowerPlanner$TowerText", "statementOfToken", "()I"⟩ ⟨"BellTowerPlanner$TowerText", "statementOfToken", "()I"⟩ ∈ gt := gt_in (List.mem_of_getElem? (i := 6) (by decide +kernel)) (by decide +kernel)
theorem gw_7 : Cond.selects "BellTowerPlanner$TowerText" ⟨"BellTowerPlanner$TowerText", "tokenIs", "(Ljava/lang/String;)Z"⟩ ⟨"BellTowerPlanner$TowerText", "tokenIs", "(Ljava/lang/String;)Z"⟩ ∈ gt := gt_in (List.mem_of_getElem? (i := 7) (by decide +kernel)) (by decide +kernel)
theorem gw_8 : Cond.selects "BellTowerPlanner$TowerText" ⟨"BellTowerPlanner$TowerText", "fail", "(I)V"⟩ ⟨"BellTowerPlanner$TowerText", "fail", "(I)V"⟩ ∈ gt := gt_in (List.mem_of_getElem? (i := 8) (by decide +kernel)) (by decide +kernel)
theorem gw_9 : Cond.selects "BellTowerPlanner$TowerText" ⟨"BellTowerPlanner$TowerText", "parseNumbers", "(I)V"⟩ ⟨"BellTowerPlanner$TowerText", "parseNumbers", "(I)V"⟩ ∈ gt := gt_in (List.mem_of_getElem? (i := 9) (by decide +kernel)) (by decide +kernel)
theorem gw_11 : Cond.selects "BellTowerPlanner" ⟨"BellTowerPlanner", "requireTower", "()V"⟩ ⟨"BellTowerPlanner", "requireTower", "()V"⟩ ∈ gt := gt_in (List.mem_of_getElem? (i := 11) (by decide +kernel)) (by decide +kernel)
theorem gw_12 : Cond.selects "BellTowerPlanner" ⟨"BellTowerPlanner", "requireBell", "(I)V"⟩ ⟨"BellTowerPlanner", "requireBell", "(I)V"⟩ ∈ gt := gt_in (List.mem_of_getElem? (i := 12) (by decide +kernel)) (by decide +kernel)
theorem gw_13 : Cond.selects "BellTowerPlanner" ⟨"BellTowerPlanner", "requireBeam", "(I)V"⟩ ⟨"BellTowerPlanner", "requireBeam", "(I)V"⟩ ∈ gt := gt_in (List.mem_of_getElem? (i := 13) (by decide +kernel)) (by decide +kernel)
theorem gw_14 : Cond.selects "BellTowerPlanner$Hanging" ⟨"BellTowerPlanner$Hanging", "fits", "(III)Z"⟩ ⟨"BellTowerPlanner$Hanging", "fits", "(III)Z"⟩ ∈ gt := gt_in (List.mem_of_getElem? (i := 14) (by decide +kernel)) (by decide +kernel)
theorem gw_15 : Cond.selects "BellTowerPlanner$Hanging" ⟨"BellTowerPlanner$Hanging", "momentWith", "(III)I"⟩ ⟨"BellTowerPlanner$Hanging", "momentWith", "(III)I"⟩ ∈ gt := gt_in (List.mem_of_getElem? (i := 15) (by decide +kernel)) (by decide +kernel)
theorem gw_16 : Cond.selects "BellTowerPlanner" ⟨"BellTowerPlanner", "rememberBell", "(I)V"⟩ ⟨"BellTowerPlanner", "rememberBell", "(I)V"⟩ ∈ gt := gt_in (List.mem_of_getElem? (i := 16) (by decide +kernel)) (by decide +kernel)
theorem gw_17 : Cond.selects "BellTowerPlanner" ⟨"BellTowerPlanner", "requireHanging", "(I)V"⟩ ⟨"BellTowerPlanner", "requireHanging", "(I)V"⟩ ∈ gt := gt_in (List.mem_of_getElem? (i := 17) (by decide +kernel)) (by decide +kernel)
theorem gw_18 : Cond.selects "BellTowerPlanner$Hanging" ⟨"BellTowerPlanner$Hanging", "countBefore", "(I)I"⟩ ⟨"BellTowerPlanner$Hanging", "countBefore", "(I)I"⟩ ∈ gt := gt_in (List.mem_of_getElem? (i := 18) (by decide +kernel)) (by decide +kernel)
theorem gw_19 : Cond.selects "BellTowerPlanner$Hanging" ⟨"BellTowerPlanner$Hanging", "bellsOn", "(I)I"⟩ ⟨"BellTowerPlanner$Hanging", "bellsOn", "(I)I"⟩ ∈ gt := gt_in (List.mem_of_getElem? (i := 19) (by decide +kernel)) (by decide +kernel)
theorem gw_20 : Cond.selects "BellTowerPlanner$Hanging" ⟨"BellTowerPlanner$Hanging", "positionMirrored", "(II)I"⟩ ⟨"BellTowerPlanner$Hanging", "positionMirrored", "(II)I"⟩ ∈ gt := gt_in (List.mem_of_getElem? (i := 20) (by decide +kernel)) (by decide +kernel)
theorem gw_21 : Cond.selects "BellTowerPlanner$Hanging" ⟨"BellTowerPlanner$Hanging", "clearMirrored", "(II)Z"⟩ ⟨"BellTowerPlanner$Hanging", "clearMirrored", "(II)Z"⟩ ∈ gt := gt_in (List.mem_of_getElem? (i := 21) (by decide +kernel)) (by decide +kernel)
theorem gw_22 : Cond.selects "BellTowerPlanner$Plans" ⟨"BellTowerPlanner$Plans", "goalArrangement", "()I"⟩ ⟨"BellTowerPlanner$Plans", "goalArrangement", "()I"⟩ ∈ gt := gt_in (List.mem_of_getElem? (i := 22) (by decide +kernel)) (by decide +kernel)
theorem gw_23 : Cond.selects "BellTowerPlanner$Plans" ⟨"BellTowerPlanner$Plans", "arrange", "(I)V"⟩ ⟨"BellTowerPlanner$Plans", "arrange", "(I)V"⟩ ∈ gt := gt_in (List.mem_of_getElem? (i := 23) (by decide +kernel)) (by decide +kernel)
theorem gw_24 : Cond.selects "BellTowerPlanner$Plans" ⟨"BellTowerPlanner$Plans", "conflictsThere", "()I"⟩ ⟨"BellTowerPlanner$Plans", "conflictsThere", "()I"⟩ ∈ gt := gt_in (List.mem_of_getElem? (i := 24) (by decide +kernel)) (by decide +kernel)
theorem gw_25 : Cond.selects "BellTowerPlanner$Plans" ⟨"BellTowerPlanner$Plans", "unbalancedThere", "()I"⟩ ⟨"BellTowerPlanner$Plans", "unbalancedThere", "()I"⟩ ∈ gt := gt_in (List.mem_of_getElem? (i := 25) (by decide +kernel)) (by decide +kernel)
theorem gw_26 : Cond.selects "BellTowerPlanner$Plans" ⟨"BellTowerPlanner$Plans", "presentArrangement", "()I"⟩ ⟨"BellTowerPlanner$Plans", "presentArrangement", "()I"⟩ ∈ gt := gt_in (List.mem_of_getElem? (i := 26) (by decide +kernel)) (by decide +kernel)
theorem gw_27 : Cond.selects "BellTowerPlanner$Plans" ⟨"BellTowerPlanner$Plans", "allowed", "(I)Z"⟩ ⟨"BellTowerPlanner$Plans", "allowed", "(I)Z"⟩ ∈ gt := gt_in (List.mem_of_getElem? (i := 27) (by decide +kernel)) (by decide +kernel)
theorem gw_28 : Cond.selects "BellTowerPlanner$Plans" ⟨"BellTowerPlanner$Plans", "isReached", "(I)Z"⟩ ⟨"BellTowerPlanner$Plans", "isReached", "(I)Z"⟩ ∈ gt := gt_in (List.mem_of_getElem? (i := 28) (by decide +kernel)) (by decide +kernel)
theorem gw_29 : Cond.selects "BellTowerPlanner$Plans" ⟨"BellTowerPlanner$Plans", "stepFrom", "(I)V"⟩ ⟨"BellTowerPlanner$Plans", "stepFrom", "(I)V"⟩ ∈ gt := gt_in (List.mem_of_getElem? (i := 29) (by decide +kernel)) (by decide +kernel)
theorem gw_30 : Cond.selects "BellTowerPlanner$Plans" ⟨"BellTowerPlanner$Plans", "reach", "(III)V"⟩ ⟨"BellTowerPlanner$Plans", "reach", "(III)V"⟩ ∈ gt := gt_in (List.mem_of_getElem? (i := 30) (by decide +kernel)) (by decide +kernel)
theorem gw_31 : Cond.selects "BellTowerPlanner$Swings" ⟨"BellTowerPlanner$Swings", "spotOf", "(II)I"⟩ ⟨"BellTowerPlanner$Swings", "spotOf", "(II)I"⟩ ∈ gt := gt_in (List.mem_of_getElem? (i := 31) (by decide +kernel)) (by decide +kernel)
theorem gw_32 : Cond.selects "BellTowerPlanner$Swings" ⟨"BellTowerPlanner$Swings", "gapOfSpots", "(III)I"⟩ ⟨"BellTowerPlanner$Swings", "gapOfSpots", "(III)I"⟩ ∈ gt := gt_in (List.mem_of_getElem? (i := 32) (by decide +kernel)) (by decide +kernel)
theorem gw_33 : Cond.selects "BellTowerPlanner$Swings" ⟨"BellTowerPlanner$Swings", "findRoom", "(I)V"⟩ ⟨"BellTowerPlanner$Swings", "findRoom", "(I)V"⟩ ∈ gt := gt_in (List.mem_of_getElem? (i := 33) (by decide +kernel)) (by decide +kernel)
theorem gw_34 : Cond.selects "BellTowerPlanner$Swings" ⟨"BellTowerPlanner$Swings", "narrowRoom", "(II)V"⟩ ⟨"BellTowerPlanner$Swings", "narrowRoom", "(II)V"⟩ ∈ gt := gt_in (List.mem_of_getElem? (i := 34) (by decide +kernel)) (by decide +kernel)
theorem gw_35 : Cond.selects "BellTowerPlanner$Swings" ⟨"BellTowerPlanner$Swings", "staysInRoom", "(III)Z"⟩ ⟨"BellTowerPlanner$Swings", "staysInRoom", "(III)Z"⟩ ∈ gt := gt_in (List.mem_of_getElem? (i := 35) (by decide +kernel)) (by decide +kernel)
theorem gw_36 : Cond.selects "BellTowerPlanner$Swings" ⟨"BellTowerPlanner$Swings", "strikesAt", "(II)Z"⟩ ⟨"BellTowerPlanner$Swings", "strikesAt", "(II)Z"⟩ ∈ gt := gt_in (List.mem_of_getElem? (i := 36) (by decide +kernel)) (by decide +kernel)
theorem gw_37 : Cond.selects "BellTowerPlanner$Chimes" ⟨"BellTowerPlanner$Chimes", "isHeard", "(II)Z"⟩ ⟨"BellTowerPlanner$Chimes", "isHeard", "(II)Z"⟩ ∈ gt := gt_in (List.mem_of_getElem? (i := 37) (by decide +kernel)) (by decide +kernel)
theorem gw_38 : Cond.selects "BellTowerPlanner$Chimes" ⟨"BellTowerPlanner$Chimes", "firstLoudChime", "(II)I"⟩ ⟨"BellTowerPlanner$Chimes", "firstLoudChime", "(II)I"⟩ ∈ gt := gt_in (List.mem_of_getElem? (i := 38) (by decide +kernel)) (by decide +kernel)
theorem gw_39 : Cond.selects "BellTowerPlanner$Ropes" ⟨"BellTowerPlanner$Ropes", "measureSets", "()V"⟩ ⟨"BellTowerPlanner$Ropes", "measureSets", "()V"⟩ ∈ gt := gt_in (List.mem_of_getElem? (i := 39) (by decide +kernel)) (by decide +kernel)
theorem gw_40 : Cond.selects "BellTowerPlanner$Ropes" ⟨"BellTowerPlanner$Ropes", "offerPiece", "(I)V"⟩ ⟨"BellTowerPlanner$Ropes", "offerPiece", "(I)V"⟩ ∈ gt := gt_in (List.mem_of_getElem? (i := 40) (by decide +kernel)) (by decide +kernel)
theorem gw_41 : Cond.selects "BellTowerPlannerModel" ⟨"BellTowerPlannerModel", "put", "(I)V"⟩ ⟨"BellTowerPlannerModel", "put", "(I)V"⟩ ∈ gt := gt_in (List.mem_of_getElem? (i := 41) (by decide +kernel)) (by decide +kernel)
theorem gw_42 : Cond.selects "BellTowerPlannerModel" ⟨"BellTowerPlannerModel", "next", "()V"⟩ ⟨"BellTowerPlannerModel", "next", "()V"⟩ ∈ gt := gt_in (List.mem_of_getElem? (i := 42) (by decide +kernel)) (by decide +kernel)
theorem gw_43 : Cond.selects "BellTowerPlannerModel" ⟨"BellTowerPlannerModel", "isFine", "()Z"⟩ ⟨"BellTowerPlannerModel", "isFine", "()Z"⟩ ∈ gt := gt_in (List.mem_of_getElem? (i := 43) (by decide +kernel)) (by decide +kernel)
theorem gw_44 : Cond.selects "BellTowerPlannerModel" ⟨"BellTowerPlannerModel", "byteAt", "(I)I"⟩ ⟨"BellTowerPlannerModel", "byteAt", "(I)I"⟩ ∈ gt := gt_in (List.mem_of_getElem? (i := 44) (by decide +kernel)) (by decide +kernel)
theorem gw_45 : Cond.selects "BellTowerPlannerModel" ⟨"BellTowerPlannerModel", "isLetterAt", "(I)Z"⟩ ⟨"BellTowerPlannerModel", "isLetterAt", "(I)Z"⟩ ∈ gt := gt_in (List.mem_of_getElem? (i := 45) (by decide +kernel)) (by decide +kernel)
theorem gw_46 : Cond.selects "BellTowerPlannerModel" ⟨"BellTowerPlannerModel", "isDigitAt", "(I)Z"⟩ ⟨"BellTowerPlannerModel", "isDigitAt", "(I)Z"⟩ ∈ gt := gt_in (List.mem_of_getElem? (i := 46) (by decide +kernel)) (by decide +kernel)
theorem gw_47 : Cond.selects "BellTowerPlannerModel" ⟨"BellTowerPlannerModel", "readBeams", "()V"⟩ ⟨"BellTowerPlannerModel", "readBeams", "()V"⟩ ∈ gt := gt_in (List.mem_of_getElem? (i := 47) (by decide +kernel)) (by decide +kernel)
theorem gw_48 : Cond.selects "BellTowerPlannerModel" ⟨"BellTowerPlannerModel", "isKeyword", "(Ljava/lang/String;)Z"⟩ ⟨"BellTowerPlannerModel", "isKeyword", "(Ljava/lang/String;)Z"⟩ ∈ gt := gt_in (List.mem_of_getElem? (i := 48) (by decide +kernel)) (by decide +kernel)
theorem gw_49 : Cond.selects "BellTowerPlannerModel" ⟨"BellTowerPlannerModel", "begins", "(II)Z"⟩ ⟨"BellTowerPlannerModel", "begins", "(II)Z"⟩ ∈ gt := gt_in (List.mem_of_getElem? (i := 49) (by decide +kernel)) (by decide +kernel)
theorem gw_50 : Cond.selects "BellTowerPlannerModel" ⟨"BellTowerPlannerModel", "fail", "(I)V"⟩ ⟨"BellTowerPlannerModel", "fail", "(I)V"⟩ ∈ gt := gt_in (List.mem_of_getElem? (i := 50) (by decide +kernel)) (by decide +kernel)
theorem gw_51 : Cond.selects "BellTowerPlannerModel" ⟨"BellTowerPlannerModel", "readIn", "(II)I"⟩ ⟨"BellTowerPlannerModel", "readIn", "(II)I"⟩ ∈ gt := gt_in (List.mem_of_getElem? (i := 51) (by decide +kernel)) (by decide +kernel)
theorem gw_52 : Cond.selects "BellTowerPlannerModel" ⟨"BellTowerPlannerModel", "readAbove", "(III)I"⟩ ⟨"BellTowerPlannerModel", "readAbove", "(III)I"⟩ ∈ gt := gt_in (List.mem_of_getElem? (i := 52) (by decide +kernel)) (by decide +kernel)
theorem gw_53 : Cond.selects "BellTowerPlannerModel" ⟨"BellTowerPlannerModel", "expectSemicolon", "()V"⟩ ⟨"BellTowerPlannerModel", "expectSemicolon", "()V"⟩ ∈ gt := gt_in (List.mem_of_getElem? (i := 53) (by decide +kernel)) (by decide +kernel)
theorem gw_54 : Cond.selects "BellTowerPlannerModel" ⟨"BellTowerPlannerModel", "readBells", "()V"⟩ ⟨"BellTowerPlannerModel", "readBells", "()V"⟩ ∈ gt := gt_in (List.mem_of_getElem? (i := 54) (by decide +kernel)) (by decide +kernel)
theorem gw_55 : Cond.selects "BellTowerPlannerModel" ⟨"BellTowerPlannerModel", "readQuiets", "()V"⟩ ⟨"BellTowerPlannerModel", "readQuiets", "()V"⟩ ∈ gt := gt_in (List.mem_of_getElem? (i := 55) (by decide +kernel)) (by decide +kernel)
theorem gw_56 : Cond.selects "BellTowerPlannerModel" ⟨"BellTowerPlannerModel", "readRopes", "()V"⟩ ⟨"BellTowerPlannerModel", "readRopes", "()V"⟩ ∈ gt := gt_in (List.mem_of_getElem? (i := 56) (by decide +kernel)) (by decide +kernel)
theorem gw_57 : Cond.selects "BellTowerPlannerModel" ⟨"BellTowerPlannerModel", "takeOver", "()V"⟩ ⟨"BellTowerPlannerModel", "takeOver", "()V"⟩ ∈ gt := gt_in (List.mem_of_getElem? (i := 57) (by decide +kernel)) (by decide +kernel)
theorem gw_58 : Cond.selects "BellTowerPlannerModel" ⟨"BellTowerPlannerModel", "isWrong", "(Z)Z"⟩ ⟨"BellTowerPlannerModel", "isWrong", "(Z)Z"⟩ ∈ gt := gt_in (List.mem_of_getElem? (i := 58) (by decide +kernel)) (by decide +kernel)
theorem gw_59 : Cond.selects "BellTowerPlannerModel" ⟨"BellTowerPlannerModel", "isBell", "(I)Z"⟩ ⟨"BellTowerPlannerModel", "isBell", "(I)Z"⟩ ∈ gt := gt_in (List.mem_of_getElem? (i := 59) (by decide +kernel)) (by decide +kernel)
theorem gw_60 : Cond.selects "BellTowerPlannerModel" ⟨"BellTowerPlannerModel", "isBeam", "(I)Z"⟩ ⟨"BellTowerPlannerModel", "isBeam", "(I)Z"⟩ ∈ gt := gt_in (List.mem_of_getElem? (i := 60) (by decide +kernel)) (by decide +kernel)
theorem gw_61 : Cond.selects "BellTowerPlannerModel" ⟨"BellTowerPlannerModel", "hangs", "(I)Z"⟩ ⟨"BellTowerPlannerModel", "hangs", "(I)Z"⟩ ∈ gt := gt_in (List.mem_of_getElem? (i := 61) (by decide +kernel)) (by decide +kernel)
theorem gw_62 : Cond.selects "BellTowerPlannerModel" ⟨"BellTowerPlannerModel", "of", "(II)I"⟩ ⟨"BellTowerPlannerModel", "of", "(II)I"⟩ ∈ gt := gt_in (List.mem_of_getElem? (i := 62) (by decide +kernel)) (by decide +kernel)
theorem gw_63 : Cond.selects "BellTowerPlannerModel" ⟨"BellTowerPlannerModel", "isClear", "(III)Z"⟩ ⟨"BellTowerPlannerModel", "isClear", "(III)Z"⟩ ∈ gt := gt_in (List.mem_of_getElem? (i := 63) (by decide +kernel)) (by decide +kernel)
theorem gw_64 : Cond.selects "BellTowerPlannerModel" ⟨"BellTowerPlannerModel", "pull", "(I)I"⟩ ⟨"BellTowerPlannerModel", "pull", "(I)I"⟩ ∈ gt := gt_in (List.mem_of_getElem? (i := 64) (by decide +kernel)) (by decide +kernel)
theorem gw_65 : Cond.selects "BellTowerPlannerModel" ⟨"BellTowerPlannerModel", "isBalanced", "(II)Z"⟩ ⟨"BellTowerPlannerModel", "isBalanced", "(II)Z"⟩ ∈ gt := gt_in (List.mem_of_getElem? (i := 65) (by decide +kernel)) (by decide +kernel)
theorem gw_66 : Cond.selects "BellTowerPlannerModel" ⟨"BellTowerPlannerModel", "remember", "()V"⟩ ⟨"BellTowerPlannerModel", "remember", "()V"⟩ ∈ gt := gt_in (List.mem_of_getElem? (i := 66) (by decide +kernel)) (by decide +kernel)
theorem gw_67 : Cond.selects "BellTowerPlannerModel" ⟨"BellTowerPlannerModel", "set", "(III)V"⟩ ⟨"BellTowerPlannerModel", "set", "(III)V"⟩ ∈ gt := gt_in (List.mem_of_getElem? (i := 67) (by decide +kernel)) (by decide +kernel)
theorem gw_68 : Cond.selects "BellTowerPlannerModel" ⟨"BellTowerPlannerModel", "bellsOn", "(I)I"⟩ ⟨"BellTowerPlannerModel", "bellsOn", "(I)I"⟩ ∈ gt := gt_in (List.mem_of_getElem? (i := 68) (by decide +kernel)) (by decide +kernel)
theorem gw_69 : Cond.selects "BellTowerPlannerModel" ⟨"BellTowerPlannerModel", "canHang", "(III)Z"⟩ ⟨"BellTowerPlannerModel", "canHang", "(III)Z"⟩ ∈ gt := gt_in (List.mem_of_getElem? (i := 69) (by decide +kernel)) (by decide +kernel)
theorem gw_70 : Cond.selects "BellTowerPlannerModel" ⟨"BellTowerPlannerModel", "bestMirror", "(I)I"⟩ ⟨"BellTowerPlannerModel", "bestMirror", "(I)I"⟩ ∈ gt := gt_in (List.mem_of_getElem? (i := 70) (by decide +kernel)) (by decide +kernel)
theorem gw_71 : Cond.selects "BellTowerPlannerModel" ⟨"BellTowerPlannerModel", "isMirrorClear", "(II)Z"⟩ ⟨"BellTowerPlannerModel", "isMirrorClear", "(II)Z"⟩ ∈ gt := gt_in (List.mem_of_getElem? (i := 71) (by decide +kernel)) (by decide +kernel)
theorem gw_72 : Cond.selects "BellTowerPlannerModel" ⟨"BellTowerPlannerModel", "plans", "()I"⟩ ⟨"BellTowerPlannerModel", "plans", "()I"⟩ ∈ gt := gt_in (List.mem_of_getElem? (i := 72) (by decide +kernel)) (by decide +kernel)
theorem gw_73 : Cond.selects "BellTowerPlannerModel" ⟨"BellTowerPlannerModel", "goal", "()I"⟩ ⟨"BellTowerPlannerModel", "goal", "()I"⟩ ∈ gt := gt_in (List.mem_of_getElem? (i := 73) (by decide +kernel)) (by decide +kernel)
theorem gw_74 : Cond.selects "BellTowerPlannerModel" ⟨"BellTowerPlannerModel", "layOut", "(I)V"⟩ ⟨"BellTowerPlannerModel", "layOut", "(I)V"⟩ ∈ gt := gt_in (List.mem_of_getElem? (i := 74) (by decide +kernel)) (by decide +kernel)
theorem gw_75 : Cond.selects "BellTowerPlannerModel" ⟨"BellTowerPlannerModel", "areClear", "(II)Z"⟩ ⟨"BellTowerPlannerModel", "areClear", "(II)Z"⟩ ∈ gt := gt_in (List.mem_of_getElem? (i := 75) (by decide +kernel)) (by decide +kernel)
theorem gw_76 : Cond.selects "BellTowerPlannerModel" ⟨"BellTowerPlannerModel", "isPlaced", "(I)Z"⟩ ⟨"BellTowerPlannerModel", "isPlaced", "(I)Z"⟩ ∈ gt := gt_in (List.mem_of_getElem? (i := 76) (by decide +kernel)) (by decide +kernel)
theorem gw_77 : Cond.selects "BellTowerPlannerModel" ⟨"BellTowerPlannerModel", "torqueLaid", "(I)I"⟩ ⟨"BellTowerPlannerModel", "torqueLaid", "(I)I"⟩ ∈ gt := gt_in (List.mem_of_getElem? (i := 77) (by decide +kernel)) (by decide +kernel)
theorem gw_78 : Cond.selects "BellTowerPlannerModel" ⟨"BellTowerPlannerModel", "findWays", "()V"⟩ ⟨"BellTowerPlannerModel", "findWays", "()V"⟩ ∈ gt := gt_in (List.mem_of_getElem? (i := 78) (by decide +kernel)) (by decide +kernel)
theorem gw_79 : Cond.selects "BellTowerPlannerModel" ⟨"BellTowerPlannerModel", "powerOf", "(I)I"⟩ ⟨"BellTowerPlannerModel", "powerOf", "(I)I"⟩ ∈ gt := gt_in (List.mem_of_getElem? (i := 79) (by decide +kernel)) (by decide +kernel)
theorem gw_80 : Cond.selects "BellTowerPlannerModel" ⟨"BellTowerPlannerModel", "canBe", "(I)Z"⟩ ⟨"BellTowerPlannerModel", "canBe", "(I)Z"⟩ ∈ gt := gt_in (List.mem_of_getElem? (i := 80) (by decide +kernel)) (by decide +kernel)
theorem gw_81 : Cond.selects "BellTowerPlannerModel" ⟨"BellTowerPlannerModel", "isAtGoal", "(I)Z"⟩ ⟨"BellTowerPlannerModel", "isAtGoal", "(I)Z"⟩ ∈ gt := gt_in (List.mem_of_getElem? (i := 81) (by decide +kernel)) (by decide +kernel)
theorem gw_82 : Cond.selects "BellTowerPlannerModel" ⟨"BellTowerPlannerModel", "after", "(II)I"⟩ ⟨"BellTowerPlannerModel", "after", "(II)I"⟩ ∈ gt := gt_in (List.mem_of_getElem? (i := 82) (by decide +kernel)) (by decide +kernel)
theorem gw_83 : Cond.selects "BellTowerPlannerModel" ⟨"BellTowerPlannerModel", "present", "()I"⟩ ⟨"BellTowerPlannerModel", "present", "()I"⟩ ∈ gt := gt_in (List.mem_of_getElem? (i := 83) (by decide +kernel)) (by decide +kernel)
theorem gw_84 : Cond.selects "BellTowerPlannerModel" ⟨"BellTowerPlannerModel", "swinging", "()I"⟩ ⟨"BellTowerPlannerModel", "swinging", "()I"⟩ ∈ gt := gt_in (List.mem_of_getElem? (i := 84) (by decide +kernel)) (by decide +kernel)
theorem gw_85 : Cond.selects "BellTowerPlannerModel" ⟨"BellTowerPlannerModel", "swings", "(I)Z"⟩ ⟨"BellTowerPlannerModel", "swings", "(I)Z"⟩ ∈ gt := gt_in (List.mem_of_getElem? (i := 85) (by decide +kernel)) (by decide +kernel)
theorem gw_86 : Cond.selects "BellTowerPlannerModel" ⟨"BellTowerPlannerModel", "offsetAt", "(II)I"⟩ ⟨"BellTowerPlannerModel", "offsetAt", "(II)I"⟩ ∈ gt := gt_in (List.mem_of_getElem? (i := 86) (by decide +kernel)) (by decide +kernel)
theorem gw_87 : Cond.selects "BellTowerPlannerModel" ⟨"BellTowerPlannerModel", "offsetBy", "(IIII)I"⟩ ⟨"BellTowerPlannerModel", "offsetBy", "(IIII)I"⟩ ∈ gt := gt_in (List.mem_of_getElem? (i := 87) (by decide +kernel)) (by decide +kernel)
theorem gw_88 : Cond.selects "BellTowerPlannerModel" ⟨"BellTowerPlannerModel", "areTogether", "(II)Z"⟩ ⟨"BellTowerPlannerModel", "areTogether", "(II)Z"⟩ ∈ gt := gt_in (List.mem_of_getElem? (i := 88) (by decide +kernel)) (by decide +kernel)
theorem gw_89 : Cond.selects "BellTowerPlannerModel" ⟨"BellTowerPlannerModel", "gapBy", "(IIII)I"⟩ ⟨"BellTowerPlannerModel", "gapBy", "(IIII)I"⟩ ∈ gt := gt_in (List.mem_of_getElem? (i := 89) (by decide +kernel)) (by decide +kernel)
theorem gw_90 : Cond.selects "BellTowerPlannerModel" ⟨"BellTowerPlannerModel", "collision", "()I"⟩ ⟨"BellTowerPlannerModel", "collision", "()I"⟩ ∈ gt := gt_in (List.mem_of_getElem? (i := 90) (by decide +kernel)) (by decide +kernel)
theorem gw_91 : Cond.selects "BellTowerPlannerModel" ⟨"BellTowerPlannerModel", "collide", "(III)Z"⟩ ⟨"BellTowerPlannerModel", "collide", "(III)Z"⟩ ∈ gt := gt_in (List.mem_of_getElem? (i := 91) (by decide +kernel)) (by decide +kernel)
theorem gw_92 : Cond.selects "BellTowerPlannerModel" ⟨"BellTowerPlannerModel", "isSafe", "(III)Z"⟩ ⟨"BellTowerPlannerModel", "isSafe", "(III)Z"⟩ ∈ gt := gt_in (List.mem_of_getElem? (i := 92) (by decide +kernel)) (by decide +kernel)
theorem gw_93 : Cond.selects "BellTowerPlannerModel" ⟨"BellTowerPlannerModel", "strikesAt", "(II)Z"⟩ ⟨"BellTowerPlannerModel", "strikesAt", "(II)Z"⟩ ∈ gt := gt_in (List.mem_of_getElem? (i := 93) (by decide +kernel)) (by decide +kernel)
theorem gw_94 : Cond.selects "BellTowerPlannerModel" ⟨"BellTowerPlannerModel", "chimes", "(I)Z"⟩ ⟨"BellTowerPlannerModel", "chimes", "(I)Z"⟩ ∈ gt := gt_in (List.mem_of_getElem? (i := 94) (by decide +kernel)) (by decide +kernel)
theorem gw_95 : Cond.selects "BellTowerPlannerModel" ⟨"BellTowerPlannerModel", "isSilent", "(I)Z"⟩ ⟨"BellTowerPlannerModel", "isSilent", "(I)Z"⟩ ∈ gt := gt_in (List.mem_of_getElem? (i := 95) (by decide +kernel)) (by decide +kernel)
theorem gw_96 : Cond.selects "BellTowerPlannerModel" ⟨"BellTowerPlannerModel", "soundingAt", "(I)I"⟩ ⟨"BellTowerPlannerModel", "soundingAt", "(I)I"⟩ ∈ gt := gt_in (List.mem_of_getElem? (i := 96) (by decide +kernel)) (by decide +kernel)
theorem gw_97 : Cond.selects "BellTowerPlannerModel" ⟨"BellTowerPlannerModel", "sounds", "(II)Z"⟩ ⟨"BellTowerPlannerModel", "sounds", "(II)Z"⟩ ∈ gt := gt_in (List.mem_of_getElem? (i := 97) (by decide +kernel)) (by decide +kernel)
theorem gw_98 : Cond.selects "BellTowerPlannerModel" ⟨"BellTowerPlannerModel", "isLoudFrom", "(II)Z"⟩ ⟨"BellTowerPlannerModel", "isLoudFrom", "(II)Z"⟩ ∈ gt := gt_in (List.mem_of_getElem? (i := 98) (by decide +kernel)) (by decide +kernel)
theorem gw_99 : Cond.selects "BellTowerPlannerModel" ⟨"BellTowerPlannerModel", "lengthOf", "(I)I"⟩ ⟨"BellTowerPlannerModel", "lengthOf", "(I)I"⟩ ∈ gt := gt_in (List.mem_of_getElem? (i := 99) (by decide +kernel)) (by decide +kernel)
theorem gw_100 : Cond.selects "BellTowerPlannerModel" ⟨"BellTowerPlannerModel", "cutting", "()I"⟩ ⟨"BellTowerPlannerModel", "cutting", "()I"⟩ ∈ gt := gt_in (List.mem_of_getElem? (i := 100) (by decide +kernel)) (by decide +kernel)
theorem gw_101 : Cond.selects "BellTowerPlannerModel" ⟨"BellTowerPlannerModel", "laySums", "()V"⟩ ⟨"BellTowerPlannerModel", "laySums", "()V"⟩ ∈ gt := gt_in (List.mem_of_getElem? (i := 101) (by decide +kernel)) (by decide +kernel)
theorem gw_102 : Cond.selects "BellTowerPlannerModel" ⟨"BellTowerPlannerModel", "hanging", "()I"⟩ ⟨"BellTowerPlannerModel", "hanging", "()I"⟩ ∈ gt := gt_in (List.mem_of_getElem? (i := 102) (by decide +kernel)) (by decide +kernel)
theorem gw_103 : Cond.selects "BellTowerPlannerModel" ⟨"BellTowerPlannerModel", "lengthsOf", "(I)I"⟩ ⟨"BellTowerPlannerModel", "lengthsOf", "(I)I"⟩ ∈ gt := gt_in (List.mem_of_getElem? (i := 103) (by decide +kernel)) (by decide +kernel)
theorem gw_104 : Cond.selects "BellTowerPlannerModel" ⟨"BellTowerPlannerModel", "layFewest", "()V"⟩ ⟨"BellTowerPlannerModel", "layFewest", "()V"⟩ ∈ gt := gt_in (List.mem_of_getElem? (i := 104) (by decide +kernel)) (by decide +kernel)
theorem gw_105 : Cond.selects "BellTowerPlannerModel" ⟨"BellTowerPlannerModel", "bestWith", "(II)I"⟩ ⟨"BellTowerPlannerModel", "bestWith", "(II)I"⟩ ∈ gt := gt_in (List.mem_of_getElem? (i := 105) (by decide +kernel)) (by decide +kernel)
theorem gw_106 : Cond.selects "BellTowerPlannerModel" ⟨"BellTowerPlannerModel", "choose", "(III)I"⟩ ⟨"BellTowerPlannerModel", "choose", "(III)I"⟩ ∈ gt := gt_in (List.mem_of_getElem? (i := 106) (by decide +kernel)) (by decide +kernel)
theorem gw_108 : Cond.initialized "BellTowerPlanner" ∈ gt := gt_in (List.mem_of_getElem? (i := 108) (by decide +kernel)) (by decide +kernel)
theorem gw_109 : Cond.initialized "BellTowerPlanner$TowerText" ∈ gt := gt_in (List.mem_of_getElem? (i := 109) (by decide +kernel)) (by decide +kernel)
theorem gw_110 : Cond.initialized "BellTowerPlanner$Tower" ∈ gt := gt_in (List.mem_of_getElem? (i := 110) (by decide +kernel)) (by decide +kernel)
theorem gw_111 : Cond.initialized "BellTowerPlanner$BellState" ∈ gt := gt_in (List.mem_of_getElem? (i := 111) (by decide +kernel)) (by decide +kernel)
theorem gw_112 : Cond.initialized "BellTowerPlanner$Hanging" ∈ gt := gt_in (List.mem_of_getElem? (i := 112) (by decide +kernel)) (by decide +kernel)
theorem gw_113 : Cond.initialized "BellTowerPlanner$Plans" ∈ gt := gt_in (List.mem_of_getElem? (i := 113) (by decide +kernel)) (by decide +kernel)
theorem gw_114 : Cond.initialized "BellTowerPlanner$Swings" ∈ gt := gt_in (List.mem_of_getElem? (i := 114) (by decide +kernel)) (by decide +kernel)
theorem gw_115 : Cond.initialized "BellTowerPlanner$Chimes" ∈ gt := gt_in (List.mem_of_getElem? (i := 115) (by decide +kernel)) (by decide +kernel)
theorem gw_116 : Cond.initialized "BellTowerPlanner$Ropes" ∈ gt := gt_in (List.mem_of_getElem? (i := 116) (by decide +kernel)) (by decide +kernel)
theorem gw_117 : Cond.initialized "BellTowerPlanner$History" ∈ gt := gt_in (List.mem_of_getElem? (i := 117) (by decide +kernel)) (by decide +kernel)
theorem gw_118 : Cond.initialized "BellTowerPlannerModel" ∈ gt := gt_in (List.mem_of_getElem? (i := 118) (by decide +kernel)) (by decide +kernel)
theorem gw_122 : Cond.initialized "java/lang/IllegalStateException" ∈ gt := gt_in (List.mem_of_getElem? (i := 122) (by decide +kernel)) (by decide +kernel)
theorem gw_123 : Cond.initialized "java/lang/IllegalArgumentException" ∈ gt := gt_in (List.mem_of_getElem? (i := 123) (by decide +kernel)) (by decide +kernel)
theorem gw_124 : Cond.initialized "java/lang/String" ∈ gt := gt_in (List.mem_of_getElem? (i := 124) (by decide +kernel)) (by decide +kernel)
theorem gw_125 : Cond.initialized "java/lang/StringLatin1" ∈ gt := gt_in (List.mem_of_getElem? (i := 125) (by decide +kernel)) (by decide +kernel)
theorem gw_126 : Cond.initialized "jdk/internal/util/Preconditions" ∈ gt := gt_in (List.mem_of_getElem? (i := 126) (by decide +kernel)) (by decide +kernel)
theorem gw_127 : Cond.initialized "java/lang/StringUTF16" ∈ gt := gt_in (List.mem_of_getElem? (i := 127) (by decide +kernel)) (by decide +kernel)
theorem gw_128 : Cond.initialized "java/lang/System" ∈ gt := gt_in (List.mem_of_getElem? (i := 128) (by decide +kernel)) (by decide +kernel)
theorem gw_129 : Cond.initialized "java/lang/Math" ∈ gt := gt_in (List.mem_of_getElem? (i := 129) (by decide +kernel)) (by decide +kernel)
theorem gw_130 : Cond.initialized "java/util/NoSuchElementException" ∈ gt := gt_in (List.mem_of_getElem? (i := 130) (by decide +kernel)) (by decide +kernel)
theorem gw_131 : Cond.initialized "java/lang/Integer" ∈ gt := gt_in (List.mem_of_getElem? (i := 131) (by decide +kernel)) (by decide +kernel)
theorem gw_146 : Cond.fieldLink "BellTowerPlanner$TowerText" 9 "BellTowerPlanner$TowerText" "bytes" "[B" ∈ gt := gt_in (List.mem_of_getElem? (i := 146) (by decide +kernel)) (by decide +kernel)
theorem gw_147 : Cond.fieldLink "BellTowerPlanner$TowerText" 15 "BellTowerPlanner$TowerText" "numbers" "[I" ∈ gt := gt_in (List.mem_of_getElem? (i := 147) (by decide +kernel)) (by decide +kernel)
theorem gw_148 : Cond.fieldLink "BellTowerPlanner" 81 "BellTowerPlanner$TowerText" "length" "I" ∈ gt := gt_in (List.mem_of_getElem? (i := 148) (by decide +kernel)) (by decide +kernel)
theorem gw_149 : Cond.fieldLink "BellTowerPlanner$TowerText" 23 "BellTowerPlanner$TowerText" "length" "I" ∈ gt := gt_in (List.mem_of_getElem? (i := 149) (by decide +kernel)) (by decide +kernel)
theorem gw_150 : Cond.fieldLink "BellTowerPlanner$TowerText" 19 "BellTowerPlanner$TowerText" "errorAt" "I" ∈ gt := gt_in (List.mem_of_getElem? (i := 150) (by decide +kernel)) (by decide +kernel)
theorem gw_151 : Cond.fieldLink "BellTowerPlanner" 119 "BellTowerPlanner$TowerText" "errorAt" "I" ∈ gt := gt_in (List.mem_of_getElem? (i := 151) (by decide +kernel)) (by decide +kernel)
theorem gw_152 : Cond.fieldLink "BellTowerPlanner$TowerText" 31 "BellTowerPlanner$TowerText" "errorCode" "I" ∈ gt := gt_in (List.mem_of_getElem? (i := 152) (by decide +kernel)) (by decide +kernel)
theorem gw_153 : Cond.fieldLink "BellTowerPlanner$TowerText" 34 "BellTowerPlanner$TowerText" "next" "I" ∈ gt := gt_in (List.mem_of_getElem? (i := 153) (by decide +kernel)) (by decide +kernel)
theorem gw_154 : Cond.fieldLink "BellTowerPlanner$TowerText" 88 "BellTowerPlanner$TowerText" "start" "I" ∈ gt := gt_in (List.mem_of_getElem? (i := 154) (by decide +kernel)) (by decide +kernel)
theorem gw_155 : Cond.fieldLink "BellTowerPlanner$TowerText" 40 "BellTowerPlanner$TowerText" "kind" "I" ∈ gt := gt_in (List.mem_of_getElem? (i := 155) (by decide +kernel)) (by decide +kernel)
theorem gw_156 : Cond.fieldLink "BellTowerPlanner$TowerText" 79 "BellTowerPlanner$TowerText" "value" "I" ∈ gt := gt_in (List.mem_of_getElem? (i := 156) (by decide +kernel)) (by decide +kernel)
theorem gw_157 : Cond.laysFinal "BellTowerPlanner$TowerText" "BellTowerPlanner$TowerText" "bytes" "[B" ∈ gt := gt_in (List.mem_of_getElem? (i := 157) (by decide +kernel)) (by decide +kernel)
theorem gw_159 : Cond.laysFinal "BellTowerPlanner$TowerText" "BellTowerPlanner$TowerText" "numbers" "[I" ∈ gt := gt_in (List.mem_of_getElem? (i := 159) (by decide +kernel)) (by decide +kernel)
theorem gw_161 : Cond.lays "BellTowerPlanner$TowerText" "BellTowerPlanner$TowerText" "length" "I" ∈ gt := gt_in (List.mem_of_getElem? (i := 161) (by decide +kernel)) (by decide +kernel)
theorem gw_163 : Cond.lays "BellTowerPlanner$TowerText" "BellTowerPlanner$TowerText" "errorAt" "I" ∈ gt := gt_in (List.mem_of_getElem? (i := 163) (by decide +kernel)) (by decide +kernel)
theorem gw_165 : Cond.lays "BellTowerPlanner$TowerText" "BellTowerPlanner$TowerText" "errorCode" "I" ∈ gt := gt_in (List.mem_of_getElem? (i := 165) (by decide +kernel)) (by decide +kernel)
theorem gw_167 : Cond.lays "BellTowerPlanner$TowerText" "BellTowerPlanner$TowerText" "next" "I" ∈ gt := gt_in (List.mem_of_getElem? (i := 167) (by decide +kernel)) (by decide +kernel)
theorem gw_169 : Cond.lays "BellTowerPlanner$TowerText" "BellTowerPlanner$TowerText" "start" "I" ∈ gt := gt_in (List.mem_of_getElem? (i := 169) (by decide +kernel)) (by decide +kernel)
theorem gw_171 : Cond.lays "BellTowerPlanner$TowerText" "BellTowerPlanner$TowerText" "kind" "I" ∈ gt := gt_in (List.mem_of_getElem? (i := 171) (by decide +kernel)) (by decide +kernel)
theorem gw_173 : Cond.lays "BellTowerPlanner$TowerText" "BellTowerPlanner$TowerText" "value" "I" ∈ gt := gt_in (List.mem_of_getElem? (i := 173) (by decide +kernel)) (by decide +kernel)
theorem gw_184 : Cond.fieldLink "BellTowerPlanner$Tower" 9 "BellTowerPlanner$Tower" "height" "[I" ∈ gt := gt_in (List.mem_of_getElem? (i := 184) (by decide +kernel)) (by decide +kernel)
theorem gw_185 : Cond.fieldLink "BellTowerPlanner$Ropes" 40 "BellTowerPlanner$Tower" "height" "[I" ∈ gt := gt_in (List.mem_of_getElem? (i := 185) (by decide +kernel)) (by decide +kernel)
theorem gw_186 : Cond.fieldLink "BellTowerPlanner$Tower" 15 "BellTowerPlanner$Tower" "limit" "[I" ∈ gt := gt_in (List.mem_of_getElem? (i := 186) (by decide +kernel)) (by decide +kernel)
theorem gw_187 : Cond.fieldLink "BellTowerPlanner$Tower" 18 "BellTowerPlanner$Tower" "weight" "[I" ∈ gt := gt_in (List.mem_of_getElem? (i := 187) (by decide +kernel)) (by decide +kernel)
theorem gw_188 : Cond.fieldLink "BellTowerPlanner$Hanging" 29 "BellTowerPlanner$Tower" "weight" "[I" ∈ gt := gt_in (List.mem_of_getElem? (i := 188) (by decide +kernel)) (by decide +kernel)
theorem gw_189 : Cond.fieldLink "BellTowerPlanner$Plans" 109 "BellTowerPlanner$Tower" "weight" "[I" ∈ gt := gt_in (List.mem_of_getElem? (i := 189) (by decide +kernel)) (by decide +kernel)
theorem gw_190 : Cond.fieldLink "BellTowerPlanner$Tower" 21 "BellTowerPlanner$Tower" "radius" "[I" ∈ gt := gt_in (List.mem_of_getElem? (i := 190) (by decide +kernel)) (by decide +kernel)
theorem gw_191 : Cond.fieldLink "BellTowerPlanner$Swings" 63 "BellTowerPlanner$Tower" "radius" "[I" ∈ gt := gt_in (List.mem_of_getElem? (i := 191) (by decide +kernel)) (by decide +kernel)
theorem gw_192 : Cond.fieldLink "BellTowerPlanner$Tower" 24 "BellTowerPlanner$Tower" "period" "[I" ∈ gt := gt_in (List.mem_of_getElem? (i := 192) (by decide +kernel)) (by decide +kernel)
theorem gw_193 : Cond.fieldLink "BellTowerPlanner$Swings" 40 "BellTowerPlanner$Tower" "period" "[I" ∈ gt := gt_in (List.mem_of_getElem? (i := 193) (by decide +kernel)) (by decide +kernel)
theorem gw_194 : Cond.fieldLink "BellTowerPlanner$Tower" 27 "BellTowerPlanner$Tower" "quietFrom" "[I" ∈ gt := gt_in (List.mem_of_getElem? (i := 194) (by decide +kernel)) (by decide +kernel)
theorem gw_195 : Cond.fieldLink "BellTowerPlanner$Chimes" 39 "BellTowerPlanner$Tower" "quietFrom" "[I" ∈ gt := gt_in (List.mem_of_getElem? (i := 195) (by decide +kernel)) (by decide +kernel)
theorem gw_196 : Cond.fieldLink "BellTowerPlanner$Tower" 30 "BellTowerPlanner$Tower" "quietTo" "[I" ∈ gt := gt_in (List.mem_of_getElem? (i := 196) (by decide +kernel)) (by decide +kernel)
theorem gw_197 : Cond.fieldLink "BellTowerPlanner$Chimes" 29 "BellTowerPlanner$Tower" "quietTo" "[I" ∈ gt := gt_in (List.mem_of_getElem? (i := 197) (by decide +kernel)) (by decide +kernel)
theorem gw_198 : Cond.fieldLink "BellTowerPlanner$Tower" 33 "BellTowerPlanner$Tower" "piece" "[I" ∈ gt := gt_in (List.mem_of_getElem? (i := 198) (by decide +kernel)) (by decide +kernel)
theorem gw_199 : Cond.fieldLink "BellTowerPlanner$Ropes" 78 "BellTowerPlanner$Tower" "piece" "[I" ∈ gt := gt_in (List.mem_of_getElem? (i := 199) (by decide +kernel)) (by decide +kernel)
theorem gw_200 : Cond.fieldLink "BellTowerPlanner$Tower" 36 "BellTowerPlanner$Tower" "beams" "I" ∈ gt := gt_in (List.mem_of_getElem? (i := 200) (by decide +kernel)) (by decide +kernel)
theorem gw_201 : Cond.fieldLink "BellTowerPlanner$Ropes" 35 "BellTowerPlanner$Tower" "beams" "I" ∈ gt := gt_in (List.mem_of_getElem? (i := 201) (by decide +kernel)) (by decide +kernel)
theorem gw_202 : Cond.fieldLink "BellTowerPlanner$TowerText" 73 "BellTowerPlanner$Tower" "beams" "I" ∈ gt := gt_in (List.mem_of_getElem? (i := 202) (by decide +kernel)) (by decide +kernel)
theorem gw_203 : Cond.fieldLink "BellTowerPlanner$Plans" 112 "BellTowerPlanner$Tower" "beams" "I" ∈ gt := gt_in (List.mem_of_getElem? (i := 203) (by decide +kernel)) (by decide +kernel)
theorem gw_204 : Cond.fieldLink "BellTowerPlanner" 329 "BellTowerPlanner$Tower" "beams" "I" ∈ gt := gt_in (List.mem_of_getElem? (i := 204) (by decide +kernel)) (by decide +kernel)
theorem gw_205 : Cond.fieldLink "BellTowerPlanner$Tower" 40 "BellTowerPlanner$Tower" "bells" "I" ∈ gt := gt_in (List.mem_of_getElem? (i := 205) (by decide +kernel)) (by decide +kernel)
theorem gw_206 : Cond.fieldLink "BellTowerPlanner$Hanging" 19 "BellTowerPlanner$Tower" "bells" "I" ∈ gt := gt_in (List.mem_of_getElem? (i := 206) (by decide +kernel)) (by decide +kernel)
theorem gw_207 : Cond.fieldLink "BellTowerPlanner$Plans" 35 "BellTowerPlanner$Tower" "bells" "I" ∈ gt := gt_in (List.mem_of_getElem? (i := 207) (by decide +kernel)) (by decide +kernel)
theorem gw_208 : Cond.fieldLink "BellTowerPlanner$Swings" 29 "BellTowerPlanner$Tower" "bells" "I" ∈ gt := gt_in (List.mem_of_getElem? (i := 208) (by decide +kernel)) (by decide +kernel)
theorem gw_209 : Cond.fieldLink "BellTowerPlanner$Chimes" 45 "BellTowerPlanner$Tower" "bells" "I" ∈ gt := gt_in (List.mem_of_getElem? (i := 209) (by decide +kernel)) (by decide +kernel)
theorem gw_210 : Cond.fieldLink "BellTowerPlanner$TowerText" 47 "BellTowerPlanner$Tower" "bells" "I" ∈ gt := gt_in (List.mem_of_getElem? (i := 210) (by decide +kernel)) (by decide +kernel)
theorem gw_211 : Cond.fieldLink "BellTowerPlanner$Ropes" 66 "BellTowerPlanner$Tower" "bells" "I" ∈ gt := gt_in (List.mem_of_getElem? (i := 211) (by decide +kernel)) (by decide +kernel)
theorem gw_212 : Cond.fieldLink "BellTowerPlanner" 117 "BellTowerPlanner$Tower" "bells" "I" ∈ gt := gt_in (List.mem_of_getElem? (i := 212) (by decide +kernel)) (by decide +kernel)
theorem gw_213 : Cond.fieldLink "BellTowerPlanner$Tower" 43 "BellTowerPlanner$Tower" "quiets" "I" ∈ gt := gt_in (List.mem_of_getElem? (i := 213) (by decide +kernel)) (by decide +kernel)
theorem gw_214 : Cond.fieldLink "BellTowerPlanner$Chimes" 23 "BellTowerPlanner$Tower" "quiets" "I" ∈ gt := gt_in (List.mem_of_getElem? (i := 214) (by decide +kernel)) (by decide +kernel)
theorem gw_215 : Cond.fieldLink "BellTowerPlanner$Tower" 46 "BellTowerPlanner$Tower" "pieces" "I" ∈ gt := gt_in (List.mem_of_getElem? (i := 215) (by decide +kernel)) (by decide +kernel)
theorem gw_216 : Cond.fieldLink "BellTowerPlanner$Ropes" 56 "BellTowerPlanner$Tower" "pieces" "I" ∈ gt := gt_in (List.mem_of_getElem? (i := 216) (by decide +kernel)) (by decide +kernel)
theorem gw_217 : Cond.laysFinal "BellTowerPlanner$Tower" "BellTowerPlanner$Tower" "height" "[I" ∈ gt := gt_in (List.mem_of_getElem? (i := 217) (by decide +kernel)) (by decide +kernel)
theorem gw_219 : Cond.laysFinal "BellTowerPlanner$Tower" "BellTowerPlanner$Tower" "limit" "[I" ∈ gt := gt_in (List.mem_of_getElem? (i := 219) (by decide +kernel)) (by decide +kernel)
theorem gw_221 : Cond.laysFinal "BellTowerPlanner$Tower" "BellTowerPlanner$Tower" "weight" "[I" ∈ gt := gt_in (List.mem_of_getElem? (i := 221) (by decide +kernel)) (by decide +kernel)
theorem gw_223 : Cond.laysFinal "BellTowerPlanner$Tower" "BellTowerPlanner$Tower" "radius" "[I" ∈ gt := gt_in (List.mem_of_getElem? (i := 223) (by decide +kernel)) (by decide +kernel)
theorem gw_225 : Cond.laysFinal "BellTowerPlanner$Tower" "BellTowerPlanner$Tower" "period" "[I" ∈ gt := gt_in (List.mem_of_getElem? (i := 225) (by decide +kernel)) (by decide +kernel)
theorem gw_227 : Cond.laysFinal "BellTowerPlanner$Tower" "BellTowerPlanner$Tower" "quietFrom" "[I" ∈ gt := gt_in (List.mem_of_getElem? (i := 227) (by decide +kernel)) (by decide +kernel)
theorem gw_229 : Cond.laysFinal "BellTowerPlanner$Tower" "BellTowerPlanner$Tower" "quietTo" "[I" ∈ gt := gt_in (List.mem_of_getElem? (i := 229) (by decide +kernel)) (by decide +kernel)
theorem gw_231 : Cond.laysFinal "BellTowerPlanner$Tower" "BellTowerPlanner$Tower" "piece" "[I" ∈ gt := gt_in (List.mem_of_getElem? (i := 231) (by decide +kernel)) (by decide +kernel)
theorem gw_233 : Cond.lays "BellTowerPlanner$Tower" "BellTowerPlanner$Tower" "beams" "I" ∈ gt := gt_in (List.mem_of_getElem? (i := 233) (by decide +kernel)) (by decide +kernel)
theorem gw_235 : Cond.lays "BellTowerPlanner$Tower" "BellTowerPlanner$Tower" "bells" "I" ∈ gt := gt_in (List.mem_of_getElem? (i := 235) (by decide +kernel)) (by decide +kernel)
theorem gw_237 : Cond.lays "BellTowerPlanner$Tower" "BellTowerPlanner$Tower" "quiets" "I" ∈ gt := gt_in (List.mem_of_getElem? (i := 237) (by decide +kernel)) (by decide +kernel)
theorem gw_239 : Cond.lays "BellTowerPlanner$Tower" "BellTowerPlanner$Tower" "pieces" "I" ∈ gt := gt_in (List.mem_of_getElem? (i := 239) (by decide +kernel)) (by decide +kernel)
theorem gw_249 : Cond.fieldLink "BellTowerPlanner$BellState" 9 "BellTowerPlanner$BellState" "beam" "I" ∈ gt := gt_in (List.mem_of_getElem? (i := 249) (by decide +kernel)) (by decide +kernel)
theorem gw_250 : Cond.fieldLink "BellTowerPlanner$Ropes" 29 "BellTowerPlanner$BellState" "beam" "I" ∈ gt := gt_in (List.mem_of_getElem? (i := 250) (by decide +kernel)) (by decide +kernel)
theorem gw_251 : Cond.fieldLink "BellTowerPlanner$Hanging" 24 "BellTowerPlanner$BellState" "beam" "I" ∈ gt := gt_in (List.mem_of_getElem? (i := 251) (by decide +kernel)) (by decide +kernel)
theorem gw_252 : Cond.fieldLink "BellTowerPlanner" 142 "BellTowerPlanner$BellState" "beam" "I" ∈ gt := gt_in (List.mem_of_getElem? (i := 252) (by decide +kernel)) (by decide +kernel)
theorem gw_253 : Cond.fieldLink "BellTowerPlanner$Plans" 123 "BellTowerPlanner$BellState" "beam" "I" ∈ gt := gt_in (List.mem_of_getElem? (i := 253) (by decide +kernel)) (by decide +kernel)
theorem gw_254 : Cond.fieldLink "BellTowerPlanner$BellState" 18 "BellTowerPlanner$BellState" "position" "I" ∈ gt := gt_in (List.mem_of_getElem? (i := 254) (by decide +kernel)) (by decide +kernel)
theorem gw_255 : Cond.fieldLink "BellTowerPlanner$Ropes" 43 "BellTowerPlanner$BellState" "position" "I" ∈ gt := gt_in (List.mem_of_getElem? (i := 255) (by decide +kernel)) (by decide +kernel)
theorem gw_256 : Cond.fieldLink "BellTowerPlanner$Hanging" 33 "BellTowerPlanner$BellState" "position" "I" ∈ gt := gt_in (List.mem_of_getElem? (i := 256) (by decide +kernel)) (by decide +kernel)
theorem gw_257 : Cond.fieldLink "BellTowerPlanner$Swings" 60 "BellTowerPlanner$BellState" "position" "I" ∈ gt := gt_in (List.mem_of_getElem? (i := 257) (by decide +kernel)) (by decide +kernel)
theorem gw_258 : Cond.fieldLink "BellTowerPlanner" 145 "BellTowerPlanner$BellState" "position" "I" ∈ gt := gt_in (List.mem_of_getElem? (i := 258) (by decide +kernel)) (by decide +kernel)
theorem gw_259 : Cond.fieldLink "BellTowerPlanner$Plans" 106 "BellTowerPlanner$BellState" "position" "I" ∈ gt := gt_in (List.mem_of_getElem? (i := 259) (by decide +kernel)) (by decide +kernel)
theorem gw_260 : Cond.fieldLink "BellTowerPlanner$BellState" 15 "BellTowerPlanner$BellState" "planBeam" "I" ∈ gt := gt_in (List.mem_of_getElem? (i := 260) (by decide +kernel)) (by decide +kernel)
theorem gw_261 : Cond.fieldLink "BellTowerPlanner" 187 "BellTowerPlanner$BellState" "planBeam" "I" ∈ gt := gt_in (List.mem_of_getElem? (i := 261) (by decide +kernel)) (by decide +kernel)
theorem gw_262 : Cond.fieldLink "BellTowerPlanner$Plans" 126 "BellTowerPlanner$BellState" "planBeam" "I" ∈ gt := gt_in (List.mem_of_getElem? (i := 262) (by decide +kernel)) (by decide +kernel)
theorem gw_263 : Cond.fieldLink "BellTowerPlanner$BellState" 21 "BellTowerPlanner$BellState" "planPosition" "I" ∈ gt := gt_in (List.mem_of_getElem? (i := 263) (by decide +kernel)) (by decide +kernel)
theorem gw_264 : Cond.fieldLink "BellTowerPlanner$Plans" 103 "BellTowerPlanner$BellState" "planPosition" "I" ∈ gt := gt_in (List.mem_of_getElem? (i := 264) (by decide +kernel)) (by decide +kernel)
theorem gw_265 : Cond.fieldLink "BellTowerPlanner" 190 "BellTowerPlanner$BellState" "planPosition" "I" ∈ gt := gt_in (List.mem_of_getElem? (i := 265) (by decide +kernel)) (by decide +kernel)
theorem gw_266 : Cond.fieldLink "BellTowerPlanner$BellState" 24 "BellTowerPlanner$BellState" "swingStart" "I" ∈ gt := gt_in (List.mem_of_getElem? (i := 266) (by decide +kernel)) (by decide +kernel)
theorem gw_267 : Cond.fieldLink "BellTowerPlanner$Swings" 43 "BellTowerPlanner$BellState" "swingStart" "I" ∈ gt := gt_in (List.mem_of_getElem? (i := 267) (by decide +kernel)) (by decide +kernel)
theorem gw_268 : Cond.fieldLink "BellTowerPlanner" 215 "BellTowerPlanner$BellState" "swingStart" "I" ∈ gt := gt_in (List.mem_of_getElem? (i := 268) (by decide +kernel)) (by decide +kernel)
theorem gw_269 : Cond.fieldLink "BellTowerPlanner$BellState" 27 "BellTowerPlanner$BellState" "amplitude" "I" ∈ gt := gt_in (List.mem_of_getElem? (i := 269) (by decide +kernel)) (by decide +kernel)
theorem gw_270 : Cond.fieldLink "BellTowerPlanner$Swings" 46 "BellTowerPlanner$BellState" "amplitude" "I" ∈ gt := gt_in (List.mem_of_getElem? (i := 270) (by decide +kernel)) (by decide +kernel)
theorem gw_271 : Cond.fieldLink "BellTowerPlanner" 160 "BellTowerPlanner$BellState" "amplitude" "I" ∈ gt := gt_in (List.mem_of_getElem? (i := 271) (by decide +kernel)) (by decide +kernel)
theorem gw_272 : Cond.fieldLink "BellTowerPlanner$BellState" 30 "BellTowerPlanner$BellState" "chimeFirst" "I" ∈ gt := gt_in (List.mem_of_getElem? (i := 272) (by decide +kernel)) (by decide +kernel)
theorem gw_273 : Cond.fieldLink "BellTowerPlanner$Chimes" 73 "BellTowerPlanner$BellState" "chimeFirst" "I" ∈ gt := gt_in (List.mem_of_getElem? (i := 273) (by decide +kernel)) (by decide +kernel)
theorem gw_274 : Cond.fieldLink "BellTowerPlanner" 261 "BellTowerPlanner$BellState" "chimeFirst" "I" ∈ gt := gt_in (List.mem_of_getElem? (i := 274) (by decide +kernel)) (by decide +kernel)
theorem gw_275 : Cond.fieldLink "BellTowerPlanner$BellState" 33 "BellTowerPlanner$BellState" "chimeInterval" "I" ∈ gt := gt_in (List.mem_of_getElem? (i := 275) (by decide +kernel)) (by decide +kernel)
theorem gw_276 : Cond.fieldLink "BellTowerPlanner$Chimes" 76 "BellTowerPlanner$BellState" "chimeInterval" "I" ∈ gt := gt_in (List.mem_of_getElem? (i := 276) (by decide +kernel)) (by decide +kernel)
theorem gw_277 : Cond.fieldLink "BellTowerPlanner" 264 "BellTowerPlanner$BellState" "chimeInterval" "I" ∈ gt := gt_in (List.mem_of_getElem? (i := 277) (by decide +kernel)) (by decide +kernel)
theorem gw_278 : Cond.lays "BellTowerPlanner$BellState" "BellTowerPlanner$BellState" "beam" "I" ∈ gt := gt_in (List.mem_of_getElem? (i := 278) (by decide +kernel)) (by decide +kernel)
theorem gw_280 : Cond.lays "BellTowerPlanner$BellState" "BellTowerPlanner$BellState" "position" "I" ∈ gt := gt_in (List.mem_of_getElem? (i := 280) (by decide +kernel)) (by decide +kernel)
theorem gw_282 : Cond.lays "BellTowerPlanner$BellState" "BellTowerPlanner$BellState" "planBeam" "I" ∈ gt := gt_in (List.mem_of_getElem? (i := 282) (by decide +kernel)) (by decide +kernel)
theorem gw_284 : Cond.lays "BellTowerPlanner$BellState" "BellTowerPlanner$BellState" "planPosition" "I" ∈ gt := gt_in (List.mem_of_getElem? (i := 284) (by decide +kernel)) (by decide +kernel)
theorem gw_286 : Cond.lays "BellTowerPlanner$BellState" "BellTowerPlanner$BellState" "swingStart" "I" ∈ gt := gt_in (List.mem_of_getElem? (i := 286) (by decide +kernel)) (by decide +kernel)
theorem gw_288 : Cond.lays "BellTowerPlanner$BellState" "BellTowerPlanner$BellState" "amplitude" "I" ∈ gt := gt_in (List.mem_of_getElem? (i := 288) (by decide +kernel)) (by decide +kernel)
theorem gw_290 : Cond.lays "BellTowerPlanner$BellState" "BellTowerPlanner$BellState" "chimeFirst" "I" ∈ gt := gt_in (List.mem_of_getElem? (i := 290) (by decide +kernel)) (by decide +kernel)
theorem gw_292 : Cond.lays "BellTowerPlanner$BellState" "BellTowerPlanner$BellState" "chimeInterval" "I" ∈ gt := gt_in (List.mem_of_getElem? (i := 292) (by decide +kernel)) (by decide +kernel)
theorem gw_301 : Cond.fieldLink "BellTowerPlanner$Hanging" 9 "BellTowerPlanner$Hanging" "tower" "LBellTowerPlanner$Tower;" ∈ gt := gt_in (List.mem_of_getElem? (i := 301) (by decide +kernel)) (by decide +kernel)
theorem gw_302 : Cond.fieldLink "BellTowerPlanner$Hanging" 15 "BellTowerPlanner$Hanging" "bells" "[LBellTowerPlanner$BellState;" ∈ gt := gt_in (List.mem_of_getElem? (i := 302) (by decide +kernel)) (by decide +kernel)
theorem gw_303 : Cond.laysFinal "BellTowerPlanner$Hanging" "BellTowerPlanner$Hanging" "tower" "LBellTowerPlanner$Tower;" ∈ gt := gt_in (List.mem_of_getElem? (i := 303) (by decide +kernel)) (by decide +kernel)
theorem gw_305 : Cond.laysFinal "BellTowerPlanner$Hanging" "BellTowerPlanner$Hanging" "bells" "[LBellTowerPlanner$BellState;" ∈ gt := gt_in (List.mem_of_getElem? (i := 305) (by decide +kernel)) (by decide +kernel)
theorem gw_314 : Cond.fieldLink "BellTowerPlanner$Plans" 27 "BellTowerPlanner$Plans" "tower" "LBellTowerPlanner$Tower;" ∈ gt := gt_in (List.mem_of_getElem? (i := 314) (by decide +kernel)) (by decide +kernel)
theorem gw_315 : Cond.fieldLink "BellTowerPlanner$Plans" 31 "BellTowerPlanner$Plans" "bells" "[LBellTowerPlanner$BellState;" ∈ gt := gt_in (List.mem_of_getElem? (i := 315) (by decide +kernel)) (by decide +kernel)
theorem gw_316 : Cond.fieldLink "BellTowerPlanner$Plans" 11 "BellTowerPlanner$Plans" "reachedBy" "[I" ∈ gt := gt_in (List.mem_of_getElem? (i := 316) (by decide +kernel)) (by decide +kernel)
theorem gw_317 : Cond.fieldLink "BellTowerPlanner$Plans" 15 "BellTowerPlanner$Plans" "queue" "[I" ∈ gt := gt_in (List.mem_of_getElem? (i := 317) (by decide +kernel)) (by decide +kernel)
theorem gw_318 : Cond.fieldLink "BellTowerPlanner$Plans" 18 "BellTowerPlanner$Plans" "beamThere" "[I" ∈ gt := gt_in (List.mem_of_getElem? (i := 318) (by decide +kernel)) (by decide +kernel)
theorem gw_319 : Cond.fieldLink "BellTowerPlanner$Plans" 21 "BellTowerPlanner$Plans" "positionThere" "[I" ∈ gt := gt_in (List.mem_of_getElem? (i := 319) (by decide +kernel)) (by decide +kernel)
theorem gw_320 : Cond.fieldLink "BellTowerPlanner$Plans" 24 "BellTowerPlanner$Plans" "momentThere" "[I" ∈ gt := gt_in (List.mem_of_getElem? (i := 320) (by decide +kernel)) (by decide +kernel)
theorem gw_321 : Cond.fieldLink "BellTowerPlanner$Plans" 66 "BellTowerPlanner$Plans" "queued" "I" ∈ gt := gt_in (List.mem_of_getElem? (i := 321) (by decide +kernel)) (by decide +kernel)
theorem gw_322 : Cond.fieldLink "BellTowerPlanner$Plans" 63 "BellTowerPlanner$Plans" "goal" "I" ∈ gt := gt_in (List.mem_of_getElem? (i := 322) (by decide +kernel)) (by decide +kernel)
theorem gw_323 : Cond.laysFinal "BellTowerPlanner$Plans" "BellTowerPlanner$Plans" "tower" "LBellTowerPlanner$Tower;" ∈ gt := gt_in (List.mem_of_getElem? (i := 323) (by decide +kernel)) (by decide +kernel)
theorem gw_325 : Cond.laysFinal "BellTowerPlanner$Plans" "BellTowerPlanner$Plans" "bells" "[LBellTowerPlanner$BellState;" ∈ gt := gt_in (List.mem_of_getElem? (i := 325) (by decide +kernel)) (by decide +kernel)
theorem gw_327 : Cond.laysFinal "BellTowerPlanner$Plans" "BellTowerPlanner$Plans" "reachedBy" "[I" ∈ gt := gt_in (List.mem_of_getElem? (i := 327) (by decide +kernel)) (by decide +kernel)
theorem gw_329 : Cond.laysFinal "BellTowerPlanner$Plans" "BellTowerPlanner$Plans" "queue" "[I" ∈ gt := gt_in (List.mem_of_getElem? (i := 329) (by decide +kernel)) (by decide +kernel)
theorem gw_331 : Cond.laysFinal "BellTowerPlanner$Plans" "BellTowerPlanner$Plans" "beamThere" "[I" ∈ gt := gt_in (List.mem_of_getElem? (i := 331) (by decide +kernel)) (by decide +kernel)
theorem gw_333 : Cond.laysFinal "BellTowerPlanner$Plans" "BellTowerPlanner$Plans" "positionThere" "[I" ∈ gt := gt_in (List.mem_of_getElem? (i := 333) (by decide +kernel)) (by decide +kernel)
theorem gw_335 : Cond.laysFinal "BellTowerPlanner$Plans" "BellTowerPlanner$Plans" "momentThere" "[I" ∈ gt := gt_in (List.mem_of_getElem? (i := 335) (by decide +kernel)) (by decide +kernel)
theorem gw_337 : Cond.lays "BellTowerPlanner$Plans" "BellTowerPlanner$Plans" "queued" "I" ∈ gt := gt_in (List.mem_of_getElem? (i := 337) (by decide +kernel)) (by decide +kernel)
theorem gw_339 : Cond.lays "BellTowerPlanner$Plans" "BellTowerPlanner$Plans" "goal" "I" ∈ gt := gt_in (List.mem_of_getElem? (i := 339) (by decide +kernel)) (by decide +kernel)
theorem gw_348 : Cond.fieldLink "BellTowerPlanner$Swings" 21 "BellTowerPlanner$Swings" "tower" "LBellTowerPlanner$Tower;" ∈ gt := gt_in (List.mem_of_getElem? (i := 348) (by decide +kernel)) (by decide +kernel)
theorem gw_349 : Cond.fieldLink "BellTowerPlanner$Swings" 25 "BellTowerPlanner$Swings" "bells" "[LBellTowerPlanner$BellState;" ∈ gt := gt_in (List.mem_of_getElem? (i := 349) (by decide +kernel)) (by decide +kernel)
theorem gw_350 : Cond.fieldLink "BellTowerPlanner$Swings" 9 "BellTowerPlanner$Swings" "leastOffset" "[I" ∈ gt := gt_in (List.mem_of_getElem? (i := 350) (by decide +kernel)) (by decide +kernel)
theorem gw_351 : Cond.fieldLink "BellTowerPlanner$Swings" 15 "BellTowerPlanner$Swings" "greatestOffset" "[I" ∈ gt := gt_in (List.mem_of_getElem? (i := 351) (by decide +kernel)) (by decide +kernel)
theorem gw_352 : Cond.fieldLink "BellTowerPlanner$Swings" 18 "BellTowerPlanner$Swings" "spot" "[I" ∈ gt := gt_in (List.mem_of_getElem? (i := 352) (by decide +kernel)) (by decide +kernel)
theorem gw_353 : Cond.laysFinal "BellTowerPlanner$Swings" "BellTowerPlanner$Swings" "tower" "LBellTowerPlanner$Tower;" ∈ gt := gt_in (List.mem_of_getElem? (i := 353) (by decide +kernel)) (by decide +kernel)
theorem gw_355 : Cond.laysFinal "BellTowerPlanner$Swings" "BellTowerPlanner$Swings" "bells" "[LBellTowerPlanner$BellState;" ∈ gt := gt_in (List.mem_of_getElem? (i := 355) (by decide +kernel)) (by decide +kernel)
theorem gw_357 : Cond.laysFinal "BellTowerPlanner$Swings" "BellTowerPlanner$Swings" "leastOffset" "[I" ∈ gt := gt_in (List.mem_of_getElem? (i := 357) (by decide +kernel)) (by decide +kernel)
theorem gw_359 : Cond.laysFinal "BellTowerPlanner$Swings" "BellTowerPlanner$Swings" "greatestOffset" "[I" ∈ gt := gt_in (List.mem_of_getElem? (i := 359) (by decide +kernel)) (by decide +kernel)
theorem gw_361 : Cond.laysFinal "BellTowerPlanner$Swings" "BellTowerPlanner$Swings" "spot" "[I" ∈ gt := gt_in (List.mem_of_getElem? (i := 361) (by decide +kernel)) (by decide +kernel)
theorem gw_370 : Cond.fieldLink "BellTowerPlanner$Chimes" 15 "BellTowerPlanner$Chimes" "tower" "LBellTowerPlanner$Tower;" ∈ gt := gt_in (List.mem_of_getElem? (i := 370) (by decide +kernel)) (by decide +kernel)
theorem gw_371 : Cond.fieldLink "BellTowerPlanner$Chimes" 19 "BellTowerPlanner$Chimes" "bells" "[LBellTowerPlanner$BellState;" ∈ gt := gt_in (List.mem_of_getElem? (i := 371) (by decide +kernel)) (by decide +kernel)
theorem gw_372 : Cond.fieldLink "BellTowerPlanner$Chimes" 9 "BellTowerPlanner$Chimes" "quiet" "[Z" ∈ gt := gt_in (List.mem_of_getElem? (i := 372) (by decide +kernel)) (by decide +kernel)
theorem gw_373 : Cond.fieldLink "BellTowerPlanner" 273 "BellTowerPlanner$Chimes" "quiet" "[Z" ∈ gt := gt_in (List.mem_of_getElem? (i := 373) (by decide +kernel)) (by decide +kernel)
theorem gw_374 : Cond.laysFinal "BellTowerPlanner$Chimes" "BellTowerPlanner$Chimes" "tower" "LBellTowerPlanner$Tower;" ∈ gt := gt_in (List.mem_of_getElem? (i := 374) (by decide +kernel)) (by decide +kernel)
theorem gw_376 : Cond.laysFinal "BellTowerPlanner$Chimes" "BellTowerPlanner$Chimes" "bells" "[LBellTowerPlanner$BellState;" ∈ gt := gt_in (List.mem_of_getElem? (i := 376) (by decide +kernel)) (by decide +kernel)
theorem gw_378 : Cond.laysFinal "BellTowerPlanner$Chimes" "BellTowerPlanner$Chimes" "quiet" "[Z" ∈ gt := gt_in (List.mem_of_getElem? (i := 378) (by decide +kernel)) (by decide +kernel)
theorem gw_388 : Cond.fieldLink "BellTowerPlanner$Ropes" 21 "BellTowerPlanner$Ropes" "tower" "LBellTowerPlanner$Tower;" ∈ gt := gt_in (List.mem_of_getElem? (i := 388) (by decide +kernel)) (by decide +kernel)
theorem gw_389 : Cond.fieldLink "BellTowerPlanner$Ropes" 25 "BellTowerPlanner$Ropes" "bells" "[LBellTowerPlanner$BellState;" ∈ gt := gt_in (List.mem_of_getElem? (i := 389) (by decide +kernel)) (by decide +kernel)
theorem gw_390 : Cond.fieldLink "BellTowerPlanner$Ropes" 11 "BellTowerPlanner$Ropes" "totalLength" "[I" ∈ gt := gt_in (List.mem_of_getElem? (i := 390) (by decide +kernel)) (by decide +kernel)
theorem gw_391 : Cond.fieldLink "BellTowerPlanner$Ropes" 15 "BellTowerPlanner$Ropes" "digitOnes" "[I" ∈ gt := gt_in (List.mem_of_getElem? (i := 391) (by decide +kernel)) (by decide +kernel)
theorem gw_392 : Cond.fieldLink "BellTowerPlanner$Ropes" 18 "BellTowerPlanner$Ropes" "leastCost" "[I" ∈ gt := gt_in (List.mem_of_getElem? (i := 392) (by decide +kernel)) (by decide +kernel)
theorem gw_393 : Cond.fieldLink "BellTowerPlanner$Ropes" 63 "BellTowerPlanner$Ropes" "hangingSet" "I" ∈ gt := gt_in (List.mem_of_getElem? (i := 393) (by decide +kernel)) (by decide +kernel)
theorem gw_394 : Cond.laysFinal "BellTowerPlanner$Ropes" "BellTowerPlanner$Ropes" "tower" "LBellTowerPlanner$Tower;" ∈ gt := gt_in (List.mem_of_getElem? (i := 394) (by decide +kernel)) (by decide +kernel)
theorem gw_396 : Cond.laysFinal "BellTowerPlanner$Ropes" "BellTowerPlanner$Ropes" "bells" "[LBellTowerPlanner$BellState;" ∈ gt := gt_in (List.mem_of_getElem? (i := 396) (by decide +kernel)) (by decide +kernel)
theorem gw_398 : Cond.laysFinal "BellTowerPlanner$Ropes" "BellTowerPlanner$Ropes" "totalLength" "[I" ∈ gt := gt_in (List.mem_of_getElem? (i := 398) (by decide +kernel)) (by decide +kernel)
theorem gw_400 : Cond.laysFinal "BellTowerPlanner$Ropes" "BellTowerPlanner$Ropes" "digitOnes" "[I" ∈ gt := gt_in (List.mem_of_getElem? (i := 400) (by decide +kernel)) (by decide +kernel)
theorem gw_402 : Cond.laysFinal "BellTowerPlanner$Ropes" "BellTowerPlanner$Ropes" "leastCost" "[I" ∈ gt := gt_in (List.mem_of_getElem? (i := 402) (by decide +kernel)) (by decide +kernel)
theorem gw_404 : Cond.lays "BellTowerPlanner$Ropes" "BellTowerPlanner$Ropes" "hangingSet" "I" ∈ gt := gt_in (List.mem_of_getElem? (i := 404) (by decide +kernel)) (by decide +kernel)
theorem gw_415 : Cond.fieldLink "BellTowerPlanner$History" 9 "BellTowerPlanner$History" "changedBell" "[I" ∈ gt := gt_in (List.mem_of_getElem? (i := 415) (by decide +kernel)) (by decide +kernel)
theorem gw_416 : Cond.fieldLink "BellTowerPlanner$History" 15 "BellTowerPlanner$History" "before" "[LBellTowerPlanner$BellState;" ∈ gt := gt_in (List.mem_of_getElem? (i := 416) (by decide +kernel)) (by decide +kernel)
theorem gw_417 : Cond.fieldLink "BellTowerPlanner$History" 20 "BellTowerPlanner$History" "oldest" "I" ∈ gt := gt_in (List.mem_of_getElem? (i := 417) (by decide +kernel)) (by decide +kernel)
theorem gw_418 : Cond.fieldLink "BellTowerPlanner$History" 24 "BellTowerPlanner$History" "size" "I" ∈ gt := gt_in (List.mem_of_getElem? (i := 418) (by decide +kernel)) (by decide +kernel)
theorem gw_419 : Cond.fieldLink "BellTowerPlanner" 316 "BellTowerPlanner$History" "size" "I" ∈ gt := gt_in (List.mem_of_getElem? (i := 419) (by decide +kernel)) (by decide +kernel)
theorem gw_420 : Cond.laysFinal "BellTowerPlanner$History" "BellTowerPlanner$History" "changedBell" "[I" ∈ gt := gt_in (List.mem_of_getElem? (i := 420) (by decide +kernel)) (by decide +kernel)
theorem gw_422 : Cond.laysFinal "BellTowerPlanner$History" "BellTowerPlanner$History" "before" "[LBellTowerPlanner$BellState;" ∈ gt := gt_in (List.mem_of_getElem? (i := 422) (by decide +kernel)) (by decide +kernel)
theorem gw_424 : Cond.lays "BellTowerPlanner$History" "BellTowerPlanner$History" "oldest" "I" ∈ gt := gt_in (List.mem_of_getElem? (i := 424) (by decide +kernel)) (by decide +kernel)
theorem gw_426 : Cond.lays "BellTowerPlanner$History" "BellTowerPlanner$History" "size" "I" ∈ gt := gt_in (List.mem_of_getElem? (i := 426) (by decide +kernel)) (by decide +kernel)
theorem gw_429 : Cond.fieldLink "BellTowerPlanner" 10 "BellTowerPlanner" "text" "LBellTowerPlanner$TowerText;" ∈ gt := gt_in (List.mem_of_getElem? (i := 429) (by decide +kernel)) (by decide +kernel)
theorem gw_430 : Cond.fieldLink "BellTowerPlanner" 19 "BellTowerPlanner" "tower" "LBellTowerPlanner$Tower;" ∈ gt := gt_in (List.mem_of_getElem? (i := 430) (by decide +kernel)) (by decide +kernel)
theorem gw_431 : Cond.fieldLink "BellTowerPlanner" 23 "BellTowerPlanner" "candidate" "LBellTowerPlanner$Tower;" ∈ gt := gt_in (List.mem_of_getElem? (i := 431) (by decide +kernel)) (by decide +kernel)
theorem gw_432 : Cond.fieldLink "BellTowerPlanner" 28 "BellTowerPlanner" "bells" "[LBellTowerPlanner$BellState;" ∈ gt := gt_in (List.mem_of_getElem? (i := 432) (by decide +kernel)) (by decide +kernel)
theorem gw_433 : Cond.fieldLink "BellTowerPlanner" 38 "BellTowerPlanner" "hanging" "LBellTowerPlanner$Hanging;" ∈ gt := gt_in (List.mem_of_getElem? (i := 433) (by decide +kernel)) (by decide +kernel)
theorem gw_434 : Cond.fieldLink "BellTowerPlanner" 45 "BellTowerPlanner" "plans" "LBellTowerPlanner$Plans;" ∈ gt := gt_in (List.mem_of_getElem? (i := 434) (by decide +kernel)) (by decide +kernel)
theorem gw_435 : Cond.fieldLink "BellTowerPlanner" 52 "BellTowerPlanner" "swings" "LBellTowerPlanner$Swings;" ∈ gt := gt_in (List.mem_of_getElem? (i := 435) (by decide +kernel)) (by decide +kernel)
theorem gw_436 : Cond.fieldLink "BellTowerPlanner" 59 "BellTowerPlanner" "chimes" "LBellTowerPlanner$Chimes;" ∈ gt := gt_in (List.mem_of_getElem? (i := 436) (by decide +kernel)) (by decide +kernel)
theorem gw_437 : Cond.fieldLink "BellTowerPlanner" 66 "BellTowerPlanner" "ropes" "LBellTowerPlanner$Ropes;" ∈ gt := gt_in (List.mem_of_getElem? (i := 437) (by decide +kernel)) (by decide +kernel)
theorem gw_438 : Cond.fieldLink "BellTowerPlanner" 73 "BellTowerPlanner" "history" "LBellTowerPlanner$History;" ∈ gt := gt_in (List.mem_of_getElem? (i := 438) (by decide +kernel)) (by decide +kernel)
theorem gw_439 : Cond.fieldLink "BellTowerPlanner" 77 "BellTowerPlanner" "loaded" "Z" ∈ gt := gt_in (List.mem_of_getElem? (i := 439) (by decide +kernel)) (by decide +kernel)
theorem gw_440 : Cond.laysFinal "BellTowerPlanner" "BellTowerPlanner" "text" "LBellTowerPlanner$TowerText;" ∈ gt := gt_in (List.mem_of_getElem? (i := 440) (by decide +kernel)) (by decide +kernel)
theorem gw_442 : Cond.laysFinal "BellTowerPlanner" "BellTowerPlanner" "tower" "LBellTowerPlanner$Tower;" ∈ gt := gt_in (List.mem_of_getElem? (i := 442) (by decide +kernel)) (by decide +kernel)
theorem gw_444 : Cond.laysFinal "BellTowerPlanner" "BellTowerPlanner" "candidate" "LBellTowerPlanner$Tower;" ∈ gt := gt_in (List.mem_of_getElem? (i := 444) (by decide +kernel)) (by decide +kernel)
theorem gw_446 : Cond.laysFinal "BellTowerPlanner" "BellTowerPlanner" "bells" "[LBellTowerPlanner$BellState;" ∈ gt := gt_in (List.mem_of_getElem? (i := 446) (by decide +kernel)) (by decide +kernel)
theorem gw_448 : Cond.laysFinal "BellTowerPlanner" "BellTowerPlanner" "hanging" "LBellTowerPlanner$Hanging;" ∈ gt := gt_in (List.mem_of_getElem? (i := 448) (by decide +kernel)) (by decide +kernel)
theorem gw_450 : Cond.laysFinal "BellTowerPlanner" "BellTowerPlanner" "plans" "LBellTowerPlanner$Plans;" ∈ gt := gt_in (List.mem_of_getElem? (i := 450) (by decide +kernel)) (by decide +kernel)
theorem gw_452 : Cond.laysFinal "BellTowerPlanner" "BellTowerPlanner" "swings" "LBellTowerPlanner$Swings;" ∈ gt := gt_in (List.mem_of_getElem? (i := 452) (by decide +kernel)) (by decide +kernel)
theorem gw_454 : Cond.laysFinal "BellTowerPlanner" "BellTowerPlanner" "chimes" "LBellTowerPlanner$Chimes;" ∈ gt := gt_in (List.mem_of_getElem? (i := 454) (by decide +kernel)) (by decide +kernel)
theorem gw_456 : Cond.laysFinal "BellTowerPlanner" "BellTowerPlanner" "ropes" "LBellTowerPlanner$Ropes;" ∈ gt := gt_in (List.mem_of_getElem? (i := 456) (by decide +kernel)) (by decide +kernel)
theorem gw_458 : Cond.laysFinal "BellTowerPlanner" "BellTowerPlanner" "history" "LBellTowerPlanner$History;" ∈ gt := gt_in (List.mem_of_getElem? (i := 458) (by decide +kernel)) (by decide +kernel)
theorem gw_460 : Cond.lays "BellTowerPlanner" "BellTowerPlanner" "loaded" "Z" ∈ gt := gt_in (List.mem_of_getElem? (i := 460) (by decide +kernel)) (by decide +kernel)
theorem gw_467 : Cond.methodLink "BellTowerPlanner" 100 ⟨"BellTowerPlanner$TowerText", "parse", "(LBellTowerPlanner$Tower;)I"⟩ ∈ gt := gt_in (List.mem_of_getElem? (i := 467) (by decide +kernel)) (by decide +kernel)
theorem gw_468 : Cond.instanceMethod ⟨"BellTowerPlanner$TowerText", "parse", "(LBellTowerPlanner$Tower;)I"⟩ ∈ gt := gt_in (List.mem_of_getElem? (i := 468) (by decide +kernel)) (by decide +kernel)
theorem gw_469 : Cond.selects "BellTowerPlanner$TowerText" ⟨"BellTowerPlanner$TowerText", "parse", "(LBellTowerPlanner$Tower;)I"⟩ ⟨"BellTowerPlanner$TowerText", "parse", "(LBellTowerPlanner$Tower;)I"⟩ ∈ gt := gt_in (List.mem_of_getElem? (i := 469) (by decide +kernel)) (by decide +kernel)
theorem gw_470 : Cond.code ⟨"BellTowerPlanner$TowerText", "parse", "(LBellTowerPlanner$Tower;)I"⟩ prog_10_method_3_code 4 (some .int) ∈ gt := gt_in (List.mem_of_getElem? (i := 470) (by decide +kernel)) (by decide +kernel)
theorem gw_471 : Cond.methodLink "BellTowerPlanner$TowerText" 26 ⟨"BellTowerPlanner$Tower", "empty", "()V"⟩ ∈ gt := gt_in (List.mem_of_getElem? (i := 471) (by decide +kernel)) (by decide +kernel)
theorem gw_472 : Cond.instanceMethod ⟨"BellTowerPlanner$Tower", "empty", "()V"⟩ ∈ gt := gt_in (List.mem_of_getElem? (i := 472) (by decide +kernel)) (by decide +kernel)
theorem gw_473 : Cond.selects "BellTowerPlanner$Tower" ⟨"BellTowerPlanner$Tower", "empty", "()V"⟩ ⟨"BellTowerPlanner$Tower", "empty", "()V"⟩ ∈ gt := gt_in (List.mem_of_getElem? (i := 473) (by decide +kernel)) (by decide +kernel)
theorem gw_474 : Cond.code ⟨"BellTowerPlanner$Tower", "empty", "()V"⟩ prog_9_method_2_code 1 none ∈ gt := gt_in (List.mem_of_getElem? (i := 474) (by decide +kernel)) (by decide +kernel)
theorem gw_475 : Cond.methodLink "BellTowerPlanner$TowerText" 37 ⟨"BellTowerPlanner$TowerText", "readToken", "()V"⟩ ∈ gt := gt_in (List.mem_of_getElem? (i := 475) (by decide +kernel)) (by decide +kernel)
theorem gw_477 : Cond.instanceMethod ⟨"BellTowerPlanner$TowerText", "readToken", "()V"⟩ ∈ gt := gt_in (List.mem_of_getElem? (i := 477) (by decide +kernel)) (by decide +kernel)
theorem gw_478 : Cond.code ⟨"BellTowerPlanner$TowerText", "readToken", "()V"⟩ prog_10_method_10_code 1 none ∈ gt := gt_in (List.mem_of_getElem? (i := 478) (by decide +kernel)) (by decide +kernel)
theorem gw_479 : Cond.methodLink "BellTowerPlanner$TowerText" 115 ⟨"BellTowerPlanner$TowerText", "skipBlanks", "()V"⟩ ∈ gt := gt_in (List.mem_of_getElem? (i := 479) (by decide +kernel)) (by decide +kernel)
theorem gw_481 : Cond.instanceMethod ⟨"BellTowerPlanner$TowerText", "skipBlanks", "()V"⟩ ∈ gt := gt_in (List.mem_of_getElem? (i := 481) (by decide +kernel)) (by decide +kernel)
theorem gw_482 : Cond.code ⟨"BellTowerPlanner$TowerText", "skipBlanks", "()V"⟩ prog_10_method_11_code 1 none ∈ gt := gt_in (List.mem_of_getElem? (i := 482) (by decide +kernel)) (by decide +kernel)
theorem gw_483 : Cond.methodLink "BellTowerPlanner$TowerText" 107 ⟨"BellTowerPlanner$TowerText", "byteAt", "(I)I"⟩ ∈ gt := gt_in (List.mem_of_getElem? (i := 483) (by decide +kernel)) (by decide +kernel)
theorem gw_485 : Cond.instanceMethod ⟨"BellTowerPlanner$TowerText", "byteAt", "(I)I"⟩ ∈ gt := gt_in (List.mem_of_getElem? (i := 485) (by decide +kernel)) (by decide +kernel)
theorem gw_486 : Cond.code ⟨"BellTowerPlanner$TowerText", "byteAt", "(I)I"⟩ prog_10_method_14_code 2 (some .int) ∈ gt := gt_in (List.mem_of_getElem? (i := 486) (by decide +kernel)) (by decide +kernel)
theorem gw_487 : Cond.methodLink "BellTowerPlanner$TowerText" 118 ⟨"BellTowerPlanner$TowerText", "isLetter", "(I)Z"⟩ ∈ gt := gt_in (List.mem_of_getElem? (i := 487) (by decide +kernel)) (by decide +kernel)
theorem gw_488 : Cond.static ⟨"BellTowerPlanner$TowerText", "isLetter", "(I)Z"⟩ ∈ gt := gt_in (List.mem_of_getElem? (i := 488) (by decide +kernel)) (by decide +kernel)
theorem gw_489 : Cond.code ⟨"BellTowerPlanner$TowerText", "isLetter", "(I)Z"⟩ prog_10_method_15_code 1 (some .boolean) ∈ gt := gt_in (List.mem_of_getElem? (i := 489) (by decide +kernel)) (by decide +kernel)
theorem gw_490 : Cond.methodLink "BellTowerPlanner$TowerText" 121 ⟨"BellTowerPlanner$TowerText", "skipLetters", "()V"⟩ ∈ gt := gt_in (List.mem_of_getElem? (i := 490) (by decide +kernel)) (by decide +kernel)
theorem gw_492 : Cond.instanceMethod ⟨"BellTowerPlanner$TowerText", "skipLetters", "()V"⟩ ∈ gt := gt_in (List.mem_of_getElem? (i := 492) (by decide +kernel)) (by decide +kernel)
theorem gw_493 : Cond.code ⟨"BellTowerPlanner$TowerText", "skipLetters", "()V"⟩ prog_10_method_12_code 1 none ∈ gt := gt_in (List.mem_of_getElem? (i := 493) (by decide +kernel)) (by decide +kernel)
theorem gw_494 : Cond.methodLink "BellTowerPlanner$TowerText" 124 ⟨"BellTowerPlanner$TowerText", "isDigit", "(I)Z"⟩ ∈ gt := gt_in (List.mem_of_getElem? (i := 494) (by decide +kernel)) (by decide +kernel)
theorem gw_495 : Cond.static ⟨"BellTowerPlanner$TowerText", "isDigit", "(I)Z"⟩ ∈ gt := gt_in (List.mem_of_getElem? (i := 495) (by decide +kernel)) (by decide +kernel)
theorem gw_496 : Cond.code ⟨"BellTowerPlanner$TowerText", "isDigit", "(I)Z"⟩ prog_10_method_16_code 1 (some .boolean) ∈ gt := gt_in (List.mem_of_getElem? (i := 496) (by decide +kernel)) (by decide +kernel)
theorem gw_497 : Cond.methodLink "BellTowerPlanner$TowerText" 127 ⟨"BellTowerPlanner$TowerText", "readNumber", "()V"⟩ ∈ gt := gt_in (List.mem_of_getElem? (i := 497) (by decide +kernel)) (by decide +kernel)
theorem gw_499 : Cond.instanceMethod ⟨"BellTowerPlanner$TowerText", "readNumber", "()V"⟩ ∈ gt := gt_in (List.mem_of_getElem? (i := 499) (by decide +kernel)) (by decide +kernel)
theorem gw_500 : Cond.code ⟨"BellTowerPlanner$TowerText", "readNumber", "()V"⟩ prog_10_method_13_code 1 none ∈ gt := gt_in (List.mem_of_getElem? (i := 500) (by decide +kernel)) (by decide +kernel)
theorem gw_501 : Cond.methodLink "BellTowerPlanner$TowerText" 43 ⟨"BellTowerPlanner$TowerText", "parseStatement", "(LBellTowerPlanner$Tower;I)I"⟩ ∈ gt := gt_in (List.mem_of_getElem? (i := 501) (by decide +kernel)) (by decide +kernel)
theorem gw_503 : Cond.instanceMethod ⟨"BellTowerPlanner$TowerText", "parseStatement", "(LBellTowerPlanner$Tower;I)I"⟩ ∈ gt := gt_in (List.mem_of_getElem? (i := 503) (by decide +kernel)) (by decide +kernel)
theorem gw_504 : Cond.code ⟨"BellTowerPlanner$TowerText", "parseStatement", "(LBellTowerPlanner$Tower;I)I"⟩ prog_10_method_4_code 4 (some .int) ∈ gt := gt_in (List.mem_of_getElem? (i := 504) (by decide +kernel)) (by decide +kernel)
theorem gw_505 : Cond.methodLink "BellTowerPlanner$TowerText" 54 ⟨"BellTowerPlanner$TowerText", "statementOfToken", "()I"⟩ ∈ gt := gt_in (List.mem_of_getElem? (i := 505) (by decide +kernel)) (by decide +kernel)
theorem gw_507 : Cond.instanceMethod ⟨"BellTowerPlanner$TowerText", "statementOfToken", "()I"⟩ ∈ gt := gt_in (List.mem_of_getElem? (i := 507) (by decide +kernel)) (by decide +kernel)
theorem gw_508 : Cond.code ⟨"BellTowerPlanner$TowerText", "statementOfToken", "()I"⟩ prog_10_method_8_code 1 (some .int) ∈ gt := gt_in (List.mem_of_getElem? (i := 508) (by decide +kernel)) (by decide +kernel)
theorem gw_510 : Cond.methodLink "BellTowerPlanner$TowerText" 93 ⟨"BellTowerPlanner$TowerText", "tokenIs", "(Ljava/lang/String;)Z"⟩ ∈ gt := gt_in (List.mem_of_getElem? (i := 510) (by decide +kernel)) (by decide +kernel)
theorem gw_512 : Cond.instanceMethod ⟨"BellTowerPlanner$TowerText", "tokenIs", "(Ljava/lang/String;)Z"⟩ ∈ gt := gt_in (List.mem_of_getElem? (i := 512) (by decide +kernel)) (by decide +kernel)
theorem gw_513 : Cond.code ⟨"BellTowerPlanner$TowerText", "tokenIs", "(Ljava/lang/String;)Z"⟩ prog_10_method_9_code 3 (some .boolean) ∈ gt := gt_in (List.mem_of_getElem? (i := 513) (by decide +kernel)) (by decide +kernel)
theorem gw_514 : Cond.methodLink "BellTowerPlanner$TowerText" 103 ⟨"java/lang/String", "length", "()I"⟩ ∈ gt := gt_in (List.mem_of_getElem? (i := 514) (by decide +kernel)) (by decide +kernel)
theorem gw_515 : Cond.instanceMethod ⟨"java/lang/String", "length", "()I"⟩ ∈ gt := gt_in (List.mem_of_getElem? (i := 515) (by decide +kernel)) (by decide +kernel)
theorem gw_516 : Cond.selects "java/lang/String" ⟨"java/lang/String", "length", "()I"⟩ ⟨"java/lang/String", "length", "()I"⟩ ∈ gt := gt_in (List.mem_of_getElem? (i := 516) (by decide +kernel)) (by decide +kernel)
theorem gw_517 : Cond.code ⟨"java/lang/String", "length", "()I"⟩ prog_22_method_54_code 1 (some .int) ∈ gt := gt_in (List.mem_of_getElem? (i := 517) (by decide +kernel)) (by decide +kernel)
theorem gw_518 : Cond.methodLink "java/lang/String" 335 ⟨"java/lang/String", "coder", "()B"⟩ ∈ gt := gt_in (List.mem_of_getElem? (i := 518) (by decide +kernel)) (by decide +kernel)
theorem gw_519 : Cond.instanceMethod ⟨"java/lang/String", "coder", "()B"⟩ ∈ gt := gt_in (List.mem_of_getElem? (i := 519) (by decide +kernel)) (by decide +kernel)
theorem gw_520 : Cond.selects "java/lang/String" ⟨"java/lang/String", "coder", "()B"⟩ ⟨"java/lang/String", "coder", "()B"⟩ ∈ gt := gt_in (List.mem_of_getElem? (i := 520) (by decide +kernel)) (by decide +kernel)
theorem gw_521 : Cond.code ⟨"java/lang/String", "coder", "()B"⟩ prog_22_method_152_code 1 (some .byte) ∈ gt := gt_in (List.mem_of_getElem? (i := 521) (by decide +kernel)) (by decide +kernel)
theorem gw_522 : Cond.fieldLink "java/lang/String" 38 "java/lang/String" "COMPACT_STRINGS" "Z" ∈ gt := gt_in (List.mem_of_getElem? (i := 522) (by decide +kernel)) (by decide +kernel)
theorem gw_524 : Cond.methodLink "BellTowerPlanner$TowerText" 111 ⟨"java/lang/String", "charAt", "(I)C"⟩ ∈ gt := gt_in (List.mem_of_getElem? (i := 524) (by decide +kernel)) (by decide +kernel)
theorem gw_525 : Cond.instanceMethod ⟨"java/lang/String", "charAt", "(I)C"⟩ ∈ gt := gt_in (List.mem_of_getElem? (i := 525) (by decide +kernel)) (by decide +kernel)
theorem gw_526 : Cond.selects "java/lang/String" ⟨"java/lang/String", "charAt", "(I)C"⟩ ⟨"java/lang/String", "charAt", "(I)C"⟩ ∈ gt := gt_in (List.mem_of_getElem? (i := 526) (by decide +kernel)) (by decide +kernel)
theorem gw_527 : Cond.code ⟨"java/lang/String", "charAt", "(I)C"⟩ prog_22_method_56_code 2 (some .char) ∈ gt := gt_in (List.mem_of_getElem? (i := 527) (by decide +kernel)) (by decide +kernel)
theorem gw_528 : Cond.methodLink "java/lang/String" 492 ⟨"java/lang/String", "isLatin1", "()Z"⟩ ∈ gt := gt_in (List.mem_of_getElem? (i := 528) (by decide +kernel)) (by decide +kernel)
theorem gw_529 : Cond.instanceMethod ⟨"java/lang/String", "isLatin1", "()Z"⟩ ∈ gt := gt_in (List.mem_of_getElem? (i := 529) (by decide +kernel)) (by decide +kernel)
theorem gw_530 : Cond.selects "java/lang/String" ⟨"java/lang/String", "isLatin1", "()Z"⟩ ⟨"java/lang/String", "isLatin1", "()Z"⟩ ∈ gt := gt_in (List.mem_of_getElem? (i := 530) (by decide +kernel)) (by decide +kernel)
theorem gw_531 : Cond.code ⟨"java/lang/String", "isLatin1", "()Z"⟩ prog_22_method_154_code 1 (some .boolean) ∈ gt := gt_in (List.mem_of_getElem? (i := 531) (by decide +kernel)) (by decide +kernel)
theorem gw_532 : Cond.methodLink "java/lang/String" 495 ⟨"java/lang/StringLatin1", "charAt", "([BI)C"⟩ ∈ gt := gt_in (List.mem_of_getElem? (i := 532) (by decide +kernel)) (by decide +kernel)
theorem gw_533 : Cond.static ⟨"java/lang/StringLatin1", "charAt", "([BI)C"⟩ ∈ gt := gt_in (List.mem_of_getElem? (i := 533) (by decide +kernel)) (by decide +kernel)
theorem gw_534 : Cond.code ⟨"java/lang/StringLatin1", "charAt", "([BI)C"⟩ prog_23_method_2_code 2 (some .char) ∈ gt := gt_in (List.mem_of_getElem? (i := 534) (by decide +kernel)) (by decide +kernel)
theorem gw_535 : Cond.methodLink "java/lang/StringLatin1" 9 ⟨"java/lang/String", "checkIndex", "(II)V"⟩ ∈ gt := gt_in (List.mem_of_getElem? (i := 535) (by decide +kernel)) (by decide +kernel)
theorem gw_536 : Cond.static ⟨"java/lang/String", "checkIndex", "(II)V"⟩ ∈ gt := gt_in (List.mem_of_getElem? (i := 536) (by decide +kernel)) (by decide +kernel)
theorem gw_537 : Cond.code ⟨"java/lang/String", "checkIndex", "(II)V"⟩ prog_22_method_155_code 2 none ∈ gt := gt_in (List.mem_of_getElem? (i := 537) (by decide +kernel)) (by decide +kernel)
theorem gw_538 : Cond.fieldLink "java/lang/String" 1053 "jdk/internal/util/Preconditions" "SIOOBE_FORMATTER" "Ljava/util/function/BiFunction;" ∈ gt := gt_in (List.mem_of_getElem? (i := 538) (by decide +kernel)) (by decide +kernel)
theorem gw_540 : Cond.methodLink "java/lang/String" 1059 ⟨"jdk/internal/util/Preconditions", "checkIndex", "(IILjava/util/function/BiFunction;)I"⟩ ∈ gt := gt_in (List.mem_of_getElem? (i := 540) (by decide +kernel)) (by decide +kernel)
theorem gw_541 : Cond.static ⟨"jdk/internal/util/Preconditions", "checkIndex", "(IILjava/util/function/BiFunction;)I"⟩ ∈ gt := gt_in (List.mem_of_getElem? (i := 541) (by decide +kernel)) (by decide +kernel)
theorem gw_542 : Cond.code ⟨"jdk/internal/util/Preconditions", "checkIndex", "(IILjava/util/function/BiFunction;)I"⟩ prog_30_method_11_code 3 (some .int) ∈ gt := gt_in (List.mem_of_getElem? (i := 542) (by decide +kernel)) (by decide +kernel)
theorem gw_543 : Cond.methodLink "java/lang/String" 498 ⟨"java/lang/StringUTF16", "charAt", "([BI)C"⟩ ∈ gt := gt_in (List.mem_of_getElem? (i := 543) (by decide +kernel)) (by decide +kernel)
theorem gw_544 : Cond.static ⟨"java/lang/StringUTF16", "charAt", "([BI)C"⟩ ∈ gt := gt_in (List.mem_of_getElem? (i := 544) (by decide +kernel)) (by decide +kernel)
theorem gw_545 : Cond.code ⟨"java/lang/StringUTF16", "charAt", "([BI)C"⟩ prog_24_method_83_code 2 (some .char) ∈ gt := gt_in (List.mem_of_getElem? (i := 545) (by decide +kernel)) (by decide +kernel)
theorem gw_565 : Cond.methodLink "BellTowerPlanner$TowerText" 58 ⟨"BellTowerPlanner$TowerText", "mayStand", "(LBellTowerPlanner$Tower;I)Z"⟩ ∈ gt := gt_in (List.mem_of_getElem? (i := 565) (by decide +kernel)) (by decide +kernel)
theorem gw_566 : Cond.static ⟨"BellTowerPlanner$TowerText", "mayStand", "(LBellTowerPlanner$Tower;I)Z"⟩ ∈ gt := gt_in (List.mem_of_getElem? (i := 566) (by decide +kernel)) (by decide +kernel)
theorem gw_567 : Cond.code ⟨"BellTowerPlanner$TowerText", "mayStand", "(LBellTowerPlanner$Tower;I)Z"⟩ prog_10_method_5_code 2 (some .boolean) ∈ gt := gt_in (List.mem_of_getElem? (i := 567) (by decide +kernel)) (by decide +kernel)
theorem gw_568 : Cond.methodLink "BellTowerPlanner$TowerText" 50 ⟨"BellTowerPlanner$TowerText", "fail", "(I)V"⟩ ∈ gt := gt_in (List.mem_of_getElem? (i := 568) (by decide +kernel)) (by decide +kernel)
theorem gw_570 : Cond.instanceMethod ⟨"BellTowerPlanner$TowerText", "fail", "(I)V"⟩ ∈ gt := gt_in (List.mem_of_getElem? (i := 570) (by decide +kernel)) (by decide +kernel)
theorem gw_571 : Cond.code ⟨"BellTowerPlanner$TowerText", "fail", "(I)V"⟩ prog_10_method_7_code 2 none ∈ gt := gt_in (List.mem_of_getElem? (i := 571) (by decide +kernel)) (by decide +kernel)
theorem gw_572 : Cond.methodLink "BellTowerPlanner$TowerText" 62 ⟨"BellTowerPlanner$Tower", "isFull", "(I)Z"⟩ ∈ gt := gt_in (List.mem_of_getElem? (i := 572) (by decide +kernel)) (by decide +kernel)
theorem gw_573 : Cond.instanceMethod ⟨"BellTowerPlanner$Tower", "isFull", "(I)Z"⟩ ∈ gt := gt_in (List.mem_of_getElem? (i := 573) (by decide +kernel)) (by decide +kernel)
theorem gw_574 : Cond.selects "BellTowerPlanner$Tower" ⟨"BellTowerPlanner$Tower", "isFull", "(I)Z"⟩ ⟨"BellTowerPlanner$Tower", "isFull", "(I)Z"⟩ ∈ gt := gt_in (List.mem_of_getElem? (i := 574) (by decide +kernel)) (by decide +kernel)
theorem gw_575 : Cond.code ⟨"BellTowerPlanner$Tower", "isFull", "(I)Z"⟩ prog_9_method_3_code 2 (some .boolean) ∈ gt := gt_in (List.mem_of_getElem? (i := 575) (by decide +kernel)) (by decide +kernel)
theorem gw_576 : Cond.methodLink "BellTowerPlanner$TowerText" 66 ⟨"BellTowerPlanner$TowerText", "parseNumbers", "(I)V"⟩ ∈ gt := gt_in (List.mem_of_getElem? (i := 576) (by decide +kernel)) (by decide +kernel)
theorem gw_578 : Cond.instanceMethod ⟨"BellTowerPlanner$TowerText", "parseNumbers", "(I)V"⟩ ∈ gt := gt_in (List.mem_of_getElem? (i := 578) (by decide +kernel)) (by decide +kernel)
theorem gw_579 : Cond.code ⟨"BellTowerPlanner$TowerText", "parseNumbers", "(I)V"⟩ prog_10_method_6_code 5 none ∈ gt := gt_in (List.mem_of_getElem? (i := 579) (by decide +kernel)) (by decide +kernel)
theorem gw_580 : Cond.fieldLink "BellTowerPlanner$TowerText" 76 "BellTowerPlanner$TowerText" "FIRST_RANGE" "[I" ∈ gt := gt_in (List.mem_of_getElem? (i := 580) (by decide +kernel)) (by decide +kernel)
theorem gw_582 : Cond.fieldLink "BellTowerPlanner$TowerText" 82 "BellTowerPlanner$TowerText" "LEAST" "[I" ∈ gt := gt_in (List.mem_of_getElem? (i := 582) (by decide +kernel)) (by decide +kernel)
theorem gw_584 : Cond.fieldLink "BellTowerPlanner$TowerText" 85 "BellTowerPlanner$TowerText" "GREATEST" "[I" ∈ gt := gt_in (List.mem_of_getElem? (i := 584) (by decide +kernel)) (by decide +kernel)
theorem gw_586 : Cond.methodLink "BellTowerPlanner$TowerText" 69 ⟨"BellTowerPlanner$Tower", "add", "(I[I)V"⟩ ∈ gt := gt_in (List.mem_of_getElem? (i := 586) (by decide +kernel)) (by decide +kernel)
theorem gw_587 : Cond.instanceMethod ⟨"BellTowerPlanner$Tower", "add", "(I[I)V"⟩ ∈ gt := gt_in (List.mem_of_getElem? (i := 587) (by decide +kernel)) (by decide +kernel)
theorem gw_588 : Cond.selects "BellTowerPlanner$Tower" ⟨"BellTowerPlanner$Tower", "add", "(I[I)V"⟩ ⟨"BellTowerPlanner$Tower", "add", "(I[I)V"⟩ ∈ gt := gt_in (List.mem_of_getElem? (i := 588) (by decide +kernel)) (by decide +kernel)
theorem gw_589 : Cond.code ⟨"BellTowerPlanner$Tower", "add", "(I[I)V"⟩ prog_9_method_4_code 3 none ∈ gt := gt_in (List.mem_of_getElem? (i := 589) (by decide +kernel)) (by decide +kernel)
theorem gw_590 : Cond.methodLink "BellTowerPlanner$Tower" 49 ⟨"BellTowerPlanner$Tower", "isFull", "(I)Z"⟩ ∈ gt := gt_in (List.mem_of_getElem? (i := 590) (by decide +kernel)) (by decide +kernel)
theorem gw_591 : Cond.methodLink "BellTowerPlanner" 104 ⟨"BellTowerPlanner$Tower", "copyFrom", "(LBellTowerPlanner$Tower;)V"⟩ ∈ gt := gt_in (List.mem_of_getElem? (i := 591) (by decide +kernel)) (by decide +kernel)
theorem gw_592 : Cond.instanceMethod ⟨"BellTowerPlanner$Tower", "copyFrom", "(LBellTowerPlanner$Tower;)V"⟩ ∈ gt := gt_in (List.mem_of_getElem? (i := 592) (by decide +kernel)) (by decide +kernel)
theorem gw_593 : Cond.selects "BellTowerPlanner$Tower" ⟨"BellTowerPlanner$Tower", "copyFrom", "(LBellTowerPlanner$Tower;)V"⟩ ⟨"BellTowerPlanner$Tower", "copyFrom", "(LBellTowerPlanner$Tower;)V"⟩ ∈ gt := gt_in (List.mem_of_getElem? (i := 593) (by decide +kernel)) (by decide +kernel)
theorem gw_594 : Cond.code ⟨"BellTowerPlanner$Tower", "copyFrom", "(LBellTowerPlanner$Tower;)V"⟩ prog_9_method_5_code 2 none ∈ gt := gt_in (List.mem_of_getElem? (i := 594) (by decide +kernel)) (by decide +kernel)
theorem gw_595 : Cond.methodLink "BellTowerPlanner$Tower" 53 ⟨"java/lang/System", "arraycopy", "(Ljava/lang/Object;ILjava/lang/Object;II)V"⟩ ∈ gt := gt_in (List.mem_of_getElem? (i := 595) (by decide +kernel)) (by decide +kernel)
theorem gw_596 : Cond.static ⟨"java/lang/System", "arraycopy", "(Ljava/lang/Object;ILjava/lang/Object;II)V"⟩ ∈ gt := gt_in (List.mem_of_getElem? (i := 596) (by decide +kernel)) (by decide +kernel)
theorem gw_597 : Cond.native ⟨"java/lang/System", "arraycopy", "(Ljava/lang/Object;ILjava/lang/Object;II)V"⟩ ∈ gt := gt_in (List.mem_of_getElem? (i := 597) (by decide +kernel)) (by decide +kernel)
theorem gw_598 : Cond.methodLink "BellTowerPlanner" 108 ⟨"BellTowerPlanner$BellState", "reset", "()V"⟩ ∈ gt := gt_in (List.mem_of_getElem? (i := 598) (by decide +kernel)) (by decide +kernel)
theorem gw_599 : Cond.instanceMethod ⟨"BellTowerPlanner$BellState", "reset", "()V"⟩ ∈ gt := gt_in (List.mem_of_getElem? (i := 599) (by decide +kernel)) (by decide +kernel)
theorem gw_600 : Cond.selects "BellTowerPlanner$BellState" ⟨"BellTowerPlanner$BellState", "reset", "()V"⟩ ⟨"BellTowerPlanner$BellState", "reset", "()V"⟩ ∈ gt := gt_in (List.mem_of_getElem? (i := 600) (by decide +kernel)) (by decide +kernel)
theorem gw_601 : Cond.code ⟨"BellTowerPlanner$BellState", "reset", "()V"⟩ prog_2_method_2_code 1 none ∈ gt := gt_in (List.mem_of_getElem? (i := 601) (by decide +kernel)) (by decide +kernel)
theorem gw_602 : Cond.methodLink "BellTowerPlanner" 111 ⟨"BellTowerPlanner$Chimes", "markQuietMinutes", "()V"⟩ ∈ gt := gt_in (List.mem_of_getElem? (i := 602) (by decide +kernel)) (by decide +kernel)
theorem gw_603 : Cond.instanceMethod ⟨"BellTowerPlanner$Chimes", "markQuietMinutes", "()V"⟩ ∈ gt := gt_in (List.mem_of_getElem? (i := 603) (by decide +kernel)) (by decide +kernel)
theorem gw_604 : Cond.selects "BellTowerPlanner$Chimes" ⟨"BellTowerPlanner$Chimes", "markQuietMinutes", "()V"⟩ ⟨"BellTowerPlanner$Chimes", "markQuietMinutes", "()V"⟩ ∈ gt := gt_in (List.mem_of_getElem? (i := 604) (by decide +kernel)) (by decide +kernel)
theorem gw_605 : Cond.code ⟨"BellTowerPlanner$Chimes", "markQuietMinutes", "()V"⟩ prog_3_method_2_code 4 none ∈ gt := gt_in (List.mem_of_getElem? (i := 605) (by decide +kernel)) (by decide +kernel)
theorem gw_606 : Cond.methodLink "BellTowerPlanner$Chimes" 33 ⟨"java/lang/Math", "min", "(II)I"⟩ ∈ gt := gt_in (List.mem_of_getElem? (i := 606) (by decide +kernel)) (by decide +kernel)
theorem gw_607 : Cond.static ⟨"java/lang/Math", "min", "(II)I"⟩ ∈ gt := gt_in (List.mem_of_getElem? (i := 607) (by decide +kernel)) (by decide +kernel)
theorem gw_608 : Cond.code ⟨"java/lang/Math", "min", "(II)I"⟩ prog_20_method_69_code 2 (some .int) ∈ gt := gt_in (List.mem_of_getElem? (i := 608) (by decide +kernel)) (by decide +kernel)
theorem gw_609 : Cond.methodLink "BellTowerPlanner$Chimes" 42 ⟨"java/lang/Math", "max", "(II)I"⟩ ∈ gt := gt_in (List.mem_of_getElem? (i := 609) (by decide +kernel)) (by decide +kernel)
theorem gw_610 : Cond.static ⟨"java/lang/Math", "max", "(II)I"⟩ ∈ gt := gt_in (List.mem_of_getElem? (i := 610) (by decide +kernel)) (by decide +kernel)
theorem gw_611 : Cond.code ⟨"java/lang/Math", "max", "(II)I"⟩ prog_20_method_65_code 2 (some .int) ∈ gt := gt_in (List.mem_of_getElem? (i := 611) (by decide +kernel)) (by decide +kernel)
theorem gw_612 : Cond.methodLink "BellTowerPlanner" 114 ⟨"BellTowerPlanner$History", "forgetAll", "()V"⟩ ∈ gt := gt_in (List.mem_of_getElem? (i := 612) (by decide +kernel)) (by decide +kernel)
theorem gw_613 : Cond.instanceMethod ⟨"BellTowerPlanner$History", "forgetAll", "()V"⟩ ∈ gt := gt_in (List.mem_of_getElem? (i := 613) (by decide +kernel)) (by decide +kernel)
theorem gw_614 : Cond.selects "BellTowerPlanner$History" ⟨"BellTowerPlanner$History", "forgetAll", "()V"⟩ ⟨"BellTowerPlanner$History", "forgetAll", "()V"⟩ ∈ gt := gt_in (List.mem_of_getElem? (i := 614) (by decide +kernel)) (by decide +kernel)
theorem gw_615 : Cond.code ⟨"BellTowerPlanner$History", "forgetAll", "()V"⟩ prog_5_method_2_code 1 none ∈ gt := gt_in (List.mem_of_getElem? (i := 615) (by decide +kernel)) (by decide +kernel)
theorem gw_628 : Cond.classLink "BellTowerPlanner" 85 "java/lang/IllegalStateException" ∈ gt := gt_in (List.mem_of_getElem? (i := 628) (by decide +kernel)) (by decide +kernel)
theorem gw_695 : Cond.methodLink "BellTowerPlanner" 92 ⟨"BellTowerPlanner$TowerText", "addWord", "(I)V"⟩ ∈ gt := gt_in (List.mem_of_getElem? (i := 695) (by decide +kernel)) (by decide +kernel)
theorem gw_696 : Cond.instanceMethod ⟨"BellTowerPlanner$TowerText", "addWord", "(I)V"⟩ ∈ gt := gt_in (List.mem_of_getElem? (i := 696) (by decide +kernel)) (by decide +kernel)
theorem gw_697 : Cond.selects "BellTowerPlanner$TowerText" ⟨"BellTowerPlanner$TowerText", "addWord", "(I)V"⟩ ⟨"BellTowerPlanner$TowerText", "addWord", "(I)V"⟩ ∈ gt := gt_in (List.mem_of_getElem? (i := 697) (by decide +kernel)) (by decide +kernel)
theorem gw_698 : Cond.code ⟨"BellTowerPlanner$TowerText", "addWord", "(I)V"⟩ prog_10_method_2_code 3 none ∈ gt := gt_in (List.mem_of_getElem? (i := 698) (by decide +kernel)) (by decide +kernel)
theorem gw_707 : Cond.methodLink "BellTowerPlanner" 96 ⟨"BellTowerPlanner", "requireRange", "(III)V"⟩ ∈ gt := gt_in (List.mem_of_getElem? (i := 707) (by decide +kernel)) (by decide +kernel)
theorem gw_708 : Cond.static ⟨"BellTowerPlanner", "requireRange", "(III)V"⟩ ∈ gt := gt_in (List.mem_of_getElem? (i := 708) (by decide +kernel)) (by decide +kernel)
theorem gw_709 : Cond.code ⟨"BellTowerPlanner", "requireRange", "(III)V"⟩ prog_1_method_54_code 3 none ∈ gt := gt_in (List.mem_of_getElem? (i := 709) (by decide +kernel)) (by decide +kernel)
theorem gw_710 : Cond.classLink "BellTowerPlanner" 226 "java/lang/IllegalArgumentException" ∈ gt := gt_in (List.mem_of_getElem? (i := 710) (by decide +kernel)) (by decide +kernel)
theorem gw_733 : Cond.methodLink "BellTowerPlanner" 122 ⟨"BellTowerPlanner", "requireTower", "()V"⟩ ∈ gt := gt_in (List.mem_of_getElem? (i := 733) (by decide +kernel)) (by decide +kernel)
theorem gw_735 : Cond.instanceMethod ⟨"BellTowerPlanner", "requireTower", "()V"⟩ ∈ gt := gt_in (List.mem_of_getElem? (i := 735) (by decide +kernel)) (by decide +kernel)
theorem gw_736 : Cond.code ⟨"BellTowerPlanner", "requireTower", "()V"⟩ prog_1_method_51_code 1 none ∈ gt := gt_in (List.mem_of_getElem? (i := 736) (by decide +kernel)) (by decide +kernel)
theorem gw_738 : Cond.methodLink "BellTowerPlanner" 125 ⟨"BellTowerPlanner", "requireBell", "(I)V"⟩ ∈ gt := gt_in (List.mem_of_getElem? (i := 738) (by decide +kernel)) (by decide +kernel)
theorem gw_740 : Cond.instanceMethod ⟨"BellTowerPlanner", "requireBell", "(I)V"⟩ ∈ gt := gt_in (List.mem_of_getElem? (i := 740) (by decide +kernel)) (by decide +kernel)
theorem gw_741 : Cond.code ⟨"BellTowerPlanner", "requireBell", "(I)V"⟩ prog_1_method_52_code 2 none ∈ gt := gt_in (List.mem_of_getElem? (i := 741) (by decide +kernel)) (by decide +kernel)
theorem gw_742 : Cond.methodLink "BellTowerPlanner" 128 ⟨"BellTowerPlanner", "requireBeam", "(I)V"⟩ ∈ gt := gt_in (List.mem_of_getElem? (i := 742) (by decide +kernel)) (by decide +kernel)
theorem gw_744 : Cond.instanceMethod ⟨"BellTowerPlanner", "requireBeam", "(I)V"⟩ ∈ gt := gt_in (List.mem_of_getElem? (i := 744) (by decide +kernel)) (by decide +kernel)
theorem gw_745 : Cond.code ⟨"BellTowerPlanner", "requireBeam", "(I)V"⟩ prog_1_method_53_code 2 none ∈ gt := gt_in (List.mem_of_getElem? (i := 745) (by decide +kernel)) (by decide +kernel)
theorem gw_746 : Cond.methodLink "BellTowerPlanner" 131 ⟨"BellTowerPlanner$BellState", "hangs", "()Z"⟩ ∈ gt := gt_in (List.mem_of_getElem? (i := 746) (by decide +kernel)) (by decide +kernel)
theorem gw_747 : Cond.instanceMethod ⟨"BellTowerPlanner$BellState", "hangs", "()Z"⟩ ∈ gt := gt_in (List.mem_of_getElem? (i := 747) (by decide +kernel)) (by decide +kernel)
theorem gw_748 : Cond.selects "BellTowerPlanner$BellState" ⟨"BellTowerPlanner$BellState", "hangs", "()Z"⟩ ⟨"BellTowerPlanner$BellState", "hangs", "()Z"⟩ ∈ gt := gt_in (List.mem_of_getElem? (i := 748) (by decide +kernel)) (by decide +kernel)
theorem gw_749 : Cond.code ⟨"BellTowerPlanner$BellState", "hangs", "()Z"⟩ prog_2_method_4_code 1 (some .boolean) ∈ gt := gt_in (List.mem_of_getElem? (i := 749) (by decide +kernel)) (by decide +kernel)
theorem gw_750 : Cond.methodLink "BellTowerPlanner" 135 ⟨"BellTowerPlanner$Hanging", "errorOfPlace", "(III)I"⟩ ∈ gt := gt_in (List.mem_of_getElem? (i := 750) (by decide +kernel)) (by decide +kernel)
theorem gw_751 : Cond.instanceMethod ⟨"BellTowerPlanner$Hanging", "errorOfPlace", "(III)I"⟩ ∈ gt := gt_in (List.mem_of_getElem? (i := 751) (by decide +kernel)) (by decide +kernel)
theorem gw_752 : Cond.selects "BellTowerPlanner$Hanging" ⟨"BellTowerPlanner$Hanging", "errorOfPlace", "(III)I"⟩ ⟨"BellTowerPlanner$Hanging", "errorOfPlace", "(III)I"⟩ ∈ gt := gt_in (List.mem_of_getElem? (i := 752) (by decide +kernel)) (by decide +kernel)
theorem gw_753 : Cond.code ⟨"BellTowerPlanner$Hanging", "errorOfPlace", "(III)I"⟩ prog_4_method_6_code 4 (some .int) ∈ gt := gt_in (List.mem_of_getElem? (i := 753) (by decide +kernel)) (by decide +kernel)
theorem gw_754 : Cond.methodLink "BellTowerPlanner$Hanging" 44 ⟨"BellTowerPlanner$Hanging", "fits", "(III)Z"⟩ ∈ gt := gt_in (List.mem_of_getElem? (i := 754) (by decide +kernel)) (by decide +kernel)
theorem gw_756 : Cond.instanceMethod ⟨"BellTowerPlanner$Hanging", "fits", "(III)Z"⟩ ∈ gt := gt_in (List.mem_of_getElem? (i := 756) (by decide +kernel)) (by decide +kernel)
theorem gw_757 : Cond.code ⟨"BellTowerPlanner$Hanging", "fits", "(III)Z"⟩ prog_4_method_5_code 5 (some .boolean) ∈ gt := gt_in (List.mem_of_getElem? (i := 757) (by decide +kernel)) (by decide +kernel)
theorem gw_758 : Cond.methodLink "BellTowerPlanner$Hanging" 40 ⟨"BellTowerPlanner$Tower", "keepsClear", "(III)Z"⟩ ∈ gt := gt_in (List.mem_of_getElem? (i := 758) (by decide +kernel)) (by decide +kernel)
theorem gw_759 : Cond.instanceMethod ⟨"BellTowerPlanner$Tower", "keepsClear", "(III)Z"⟩ ∈ gt := gt_in (List.mem_of_getElem? (i := 759) (by decide +kernel)) (by decide +kernel)
theorem gw_760 : Cond.selects "BellTowerPlanner$Tower" ⟨"BellTowerPlanner$Tower", "keepsClear", "(III)Z"⟩ ⟨"BellTowerPlanner$Tower", "keepsClear", "(III)Z"⟩ ∈ gt := gt_in (List.mem_of_getElem? (i := 760) (by decide +kernel)) (by decide +kernel)
theorem gw_761 : Cond.code ⟨"BellTowerPlanner$Tower", "keepsClear", "(III)Z"⟩ prog_9_method_6_code 4 (some .boolean) ∈ gt := gt_in (List.mem_of_getElem? (i := 761) (by decide +kernel)) (by decide +kernel)
theorem gw_762 : Cond.methodLink "BellTowerPlanner$Tower" 59 ⟨"java/lang/Math", "abs", "(I)I"⟩ ∈ gt := gt_in (List.mem_of_getElem? (i := 762) (by decide +kernel)) (by decide +kernel)
theorem gw_763 : Cond.static ⟨"java/lang/Math", "abs", "(I)I"⟩ ∈ gt := gt_in (List.mem_of_getElem? (i := 763) (by decide +kernel)) (by decide +kernel)
theorem gw_764 : Cond.code ⟨"java/lang/Math", "abs", "(I)I"⟩ prog_20_method_59_code 1 (some .int) ∈ gt := gt_in (List.mem_of_getElem? (i := 764) (by decide +kernel)) (by decide +kernel)
theorem gw_765 : Cond.methodLink "BellTowerPlanner$Hanging" 47 ⟨"BellTowerPlanner$Hanging", "momentWith", "(III)I"⟩ ∈ gt := gt_in (List.mem_of_getElem? (i := 765) (by decide +kernel)) (by decide +kernel)
theorem gw_767 : Cond.instanceMethod ⟨"BellTowerPlanner$Hanging", "momentWith", "(III)I"⟩ ∈ gt := gt_in (List.mem_of_getElem? (i := 767) (by decide +kernel)) (by decide +kernel)
theorem gw_768 : Cond.code ⟨"BellTowerPlanner$Hanging", "momentWith", "(III)I"⟩ prog_4_method_4_code 4 (some .int) ∈ gt := gt_in (List.mem_of_getElem? (i := 768) (by decide +kernel)) (by decide +kernel)
theorem gw_769 : Cond.methodLink "BellTowerPlanner$Hanging" 36 ⟨"BellTowerPlanner$Hanging", "momentWithout", "(II)I"⟩ ∈ gt := gt_in (List.mem_of_getElem? (i := 769) (by decide +kernel)) (by decide +kernel)
theorem gw_770 : Cond.instanceMethod ⟨"BellTowerPlanner$Hanging", "momentWithout", "(II)I"⟩ ∈ gt := gt_in (List.mem_of_getElem? (i := 770) (by decide +kernel)) (by decide +kernel)
theorem gw_771 : Cond.selects "BellTowerPlanner$Hanging" ⟨"BellTowerPlanner$Hanging", "momentWithout", "(II)I"⟩ ⟨"BellTowerPlanner$Hanging", "momentWithout", "(II)I"⟩ ∈ gt := gt_in (List.mem_of_getElem? (i := 771) (by decide +kernel)) (by decide +kernel)
theorem gw_772 : Cond.code ⟨"BellTowerPlanner$Hanging", "momentWithout", "(II)I"⟩ prog_4_method_3_code 5 (some .int) ∈ gt := gt_in (List.mem_of_getElem? (i := 772) (by decide +kernel)) (by decide +kernel)
theorem gw_773 : Cond.methodLink "BellTowerPlanner$Hanging" 51 ⟨"BellTowerPlanner$Tower", "bears", "(II)Z"⟩ ∈ gt := gt_in (List.mem_of_getElem? (i := 773) (by decide +kernel)) (by decide +kernel)
theorem gw_774 : Cond.instanceMethod ⟨"BellTowerPlanner$Tower", "bears", "(II)Z"⟩ ∈ gt := gt_in (List.mem_of_getElem? (i := 774) (by decide +kernel)) (by decide +kernel)
theorem gw_775 : Cond.selects "BellTowerPlanner$Tower" ⟨"BellTowerPlanner$Tower", "bears", "(II)Z"⟩ ⟨"BellTowerPlanner$Tower", "bears", "(II)Z"⟩ ∈ gt := gt_in (List.mem_of_getElem? (i := 775) (by decide +kernel)) (by decide +kernel)
theorem gw_776 : Cond.code ⟨"BellTowerPlanner$Tower", "bears", "(II)Z"⟩ prog_9_method_7_code 3 (some .boolean) ∈ gt := gt_in (List.mem_of_getElem? (i := 776) (by decide +kernel)) (by decide +kernel)
theorem gw_777 : Cond.methodLink "BellTowerPlanner" 139 ⟨"BellTowerPlanner", "rememberBell", "(I)V"⟩ ∈ gt := gt_in (List.mem_of_getElem? (i := 777) (by decide +kernel)) (by decide +kernel)
theorem gw_779 : Cond.instanceMethod ⟨"BellTowerPlanner", "rememberBell", "(I)V"⟩ ∈ gt := gt_in (List.mem_of_getElem? (i := 779) (by decide +kernel)) (by decide +kernel)
theorem gw_780 : Cond.code ⟨"BellTowerPlanner", "rememberBell", "(I)V"⟩ prog_1_method_50_code 2 none ∈ gt := gt_in (List.mem_of_getElem? (i := 780) (by decide +kernel)) (by decide +kernel)
theorem gw_781 : Cond.methodLink "BellTowerPlanner" 323 ⟨"BellTowerPlanner$History", "push", "(ILBellTowerPlanner$BellState;)V"⟩ ∈ gt := gt_in (List.mem_of_getElem? (i := 781) (by decide +kernel)) (by decide +kernel)
theorem gw_782 : Cond.instanceMethod ⟨"BellTowerPlanner$History", "push", "(ILBellTowerPlanner$BellState;)V"⟩ ∈ gt := gt_in (List.mem_of_getElem? (i := 782) (by decide +kernel)) (by decide +kernel)
theorem gw_783 : Cond.selects "BellTowerPlanner$History" ⟨"BellTowerPlanner$History", "push", "(ILBellTowerPlanner$BellState;)V"⟩ ⟨"BellTowerPlanner$History", "push", "(ILBellTowerPlanner$BellState;)V"⟩ ∈ gt := gt_in (List.mem_of_getElem? (i := 783) (by decide +kernel)) (by decide +kernel)
theorem gw_784 : Cond.code ⟨"BellTowerPlanner$History", "push", "(ILBellTowerPlanner$BellState;)V"⟩ prog_5_method_3_code 4 none ∈ gt := gt_in (List.mem_of_getElem? (i := 784) (by decide +kernel)) (by decide +kernel)
theorem gw_785 : Cond.methodLink "BellTowerPlanner$History" 27 ⟨"BellTowerPlanner$BellState", "copyFrom", "(LBellTowerPlanner$BellState;)V"⟩ ∈ gt := gt_in (List.mem_of_getElem? (i := 785) (by decide +kernel)) (by decide +kernel)
theorem gw_786 : Cond.instanceMethod ⟨"BellTowerPlanner$BellState", "copyFrom", "(LBellTowerPlanner$BellState;)V"⟩ ∈ gt := gt_in (List.mem_of_getElem? (i := 786) (by decide +kernel)) (by decide +kernel)
theorem gw_787 : Cond.selects "BellTowerPlanner$BellState" ⟨"BellTowerPlanner$BellState", "copyFrom", "(LBellTowerPlanner$BellState;)V"⟩ ⟨"BellTowerPlanner$BellState", "copyFrom", "(LBellTowerPlanner$BellState;)V"⟩ ∈ gt := gt_in (List.mem_of_getElem? (i := 787) (by decide +kernel)) (by decide +kernel)
theorem gw_788 : Cond.code ⟨"BellTowerPlanner$BellState", "copyFrom", "(LBellTowerPlanner$BellState;)V"⟩ prog_2_method_3_code 2 none ∈ gt := gt_in (List.mem_of_getElem? (i := 788) (by decide +kernel)) (by decide +kernel)
theorem gw_789 : Cond.methodLink "BellTowerPlanner" 148 ⟨"BellTowerPlanner$Hanging", "countOn", "(I)I"⟩ ∈ gt := gt_in (List.mem_of_getElem? (i := 789) (by decide +kernel)) (by decide +kernel)
theorem gw_790 : Cond.instanceMethod ⟨"BellTowerPlanner$Hanging", "countOn", "(I)I"⟩ ∈ gt := gt_in (List.mem_of_getElem? (i := 790) (by decide +kernel)) (by decide +kernel)
theorem gw_791 : Cond.selects "BellTowerPlanner$Hanging" ⟨"BellTowerPlanner$Hanging", "countOn", "(I)I"⟩ ⟨"BellTowerPlanner$Hanging", "countOn", "(I)I"⟩ ∈ gt := gt_in (List.mem_of_getElem? (i := 791) (by decide +kernel)) (by decide +kernel)
theorem gw_792 : Cond.code ⟨"BellTowerPlanner$Hanging", "countOn", "(I)I"⟩ prog_4_method_2_code 4 (some .int) ∈ gt := gt_in (List.mem_of_getElem? (i := 792) (by decide +kernel)) (by decide +kernel)
theorem gw_800 : Cond.methodLink "BellTowerPlanner" 152 ⟨"BellTowerPlanner$Hanging", "momentWithout", "(II)I"⟩ ∈ gt := gt_in (List.mem_of_getElem? (i := 800) (by decide +kernel)) (by decide +kernel)
theorem gw_801 : Cond.methodLink "BellTowerPlanner" 156 ⟨"BellTowerPlanner$Tower", "bears", "(II)Z"⟩ ∈ gt := gt_in (List.mem_of_getElem? (i := 801) (by decide +kernel)) (by decide +kernel)
theorem gw_824 : Cond.methodLink "BellTowerPlanner" 163 ⟨"BellTowerPlanner", "requireHanging", "(I)V"⟩ ∈ gt := gt_in (List.mem_of_getElem? (i := 824) (by decide +kernel)) (by decide +kernel)
theorem gw_826 : Cond.instanceMethod ⟨"BellTowerPlanner", "requireHanging", "(I)V"⟩ ∈ gt := gt_in (List.mem_of_getElem? (i := 826) (by decide +kernel)) (by decide +kernel)
theorem gw_827 : Cond.code ⟨"BellTowerPlanner", "requireHanging", "(I)V"⟩ prog_1_method_55_code 2 none ∈ gt := gt_in (List.mem_of_getElem? (i := 827) (by decide +kernel)) (by decide +kernel)
theorem gw_828 : Cond.classLink "BellTowerPlanner" 235 "java/util/NoSuchElementException" ∈ gt := gt_in (List.mem_of_getElem? (i := 828) (by decide +kernel)) (by decide +kernel)
theorem gw_858 : Cond.constant "BellTowerPlanner" 166 (2147483647) ∈ gt := gt_in (List.mem_of_getElem? (i := 858) (by decide +kernel)) (by decide +kernel)
theorem gw_859 : Cond.methodLink "BellTowerPlanner" 167 ⟨"BellTowerPlanner$Hanging", "bellInPlace", "(II)I"⟩ ∈ gt := gt_in (List.mem_of_getElem? (i := 859) (by decide +kernel)) (by decide +kernel)
theorem gw_860 : Cond.instanceMethod ⟨"BellTowerPlanner$Hanging", "bellInPlace", "(II)I"⟩ ∈ gt := gt_in (List.mem_of_getElem? (i := 860) (by decide +kernel)) (by decide +kernel)
theorem gw_861 : Cond.selects "BellTowerPlanner$Hanging" ⟨"BellTowerPlanner$Hanging", "bellInPlace", "(II)I"⟩ ⟨"BellTowerPlanner$Hanging", "bellInPlace", "(II)I"⟩ ∈ gt := gt_in (List.mem_of_getElem? (i := 861) (by decide +kernel)) (by decide +kernel)
theorem gw_862 : Cond.code ⟨"BellTowerPlanner$Hanging", "bellInPlace", "(II)I"⟩ prog_4_method_9_code 4 (some .int) ∈ gt := gt_in (List.mem_of_getElem? (i := 862) (by decide +kernel)) (by decide +kernel)
theorem gw_863 : Cond.methodLink "BellTowerPlanner$Hanging" 65 ⟨"BellTowerPlanner$Hanging", "countBefore", "(I)I"⟩ ∈ gt := gt_in (List.mem_of_getElem? (i := 863) (by decide +kernel)) (by decide +kernel)
theorem gw_865 : Cond.instanceMethod ⟨"BellTowerPlanner$Hanging", "countBefore", "(I)I"⟩ ∈ gt := gt_in (List.mem_of_getElem? (i := 865) (by decide +kernel)) (by decide +kernel)
theorem gw_866 : Cond.code ⟨"BellTowerPlanner$Hanging", "countBefore", "(I)I"⟩ prog_4_method_10_code 4 (some .int) ∈ gt := gt_in (List.mem_of_getElem? (i := 866) (by decide +kernel)) (by decide +kernel)
theorem gw_867 : Cond.methodLink "BellTowerPlanner$Hanging" 68 ⟨"BellTowerPlanner$BellState", "sharesBeamWith", "(LBellTowerPlanner$BellState;)Z"⟩ ∈ gt := gt_in (List.mem_of_getElem? (i := 867) (by decide +kernel)) (by decide +kernel)
theorem gw_868 : Cond.instanceMethod ⟨"BellTowerPlanner$BellState", "sharesBeamWith", "(LBellTowerPlanner$BellState;)Z"⟩ ∈ gt := gt_in (List.mem_of_getElem? (i := 868) (by decide +kernel)) (by decide +kernel)
theorem gw_869 : Cond.selects "BellTowerPlanner$BellState" ⟨"BellTowerPlanner$BellState", "sharesBeamWith", "(LBellTowerPlanner$BellState;)Z"⟩ ⟨"BellTowerPlanner$BellState", "sharesBeamWith", "(LBellTowerPlanner$BellState;)Z"⟩ ∈ gt := gt_in (List.mem_of_getElem? (i := 869) (by decide +kernel)) (by decide +kernel)
theorem gw_870 : Cond.code ⟨"BellTowerPlanner$BellState", "sharesBeamWith", "(LBellTowerPlanner$BellState;)Z"⟩ prog_2_method_8_code 2 (some .boolean) ∈ gt := gt_in (List.mem_of_getElem? (i := 870) (by decide +kernel)) (by decide +kernel)
theorem gw_871 : Cond.methodLink "BellTowerPlanner$BellState" 36 ⟨"BellTowerPlanner$BellState", "hangs", "()Z"⟩ ∈ gt := gt_in (List.mem_of_getElem? (i := 871) (by decide +kernel)) (by decide +kernel)
theorem gw_879 : Cond.methodLink "BellTowerPlanner" 170 ⟨"BellTowerPlanner$Hanging", "countPlaces", "(II)I"⟩ ∈ gt := gt_in (List.mem_of_getElem? (i := 879) (by decide +kernel)) (by decide +kernel)
theorem gw_880 : Cond.instanceMethod ⟨"BellTowerPlanner$Hanging", "countPlaces", "(II)I"⟩ ∈ gt := gt_in (List.mem_of_getElem? (i := 880) (by decide +kernel)) (by decide +kernel)
theorem gw_881 : Cond.selects "BellTowerPlanner$Hanging" ⟨"BellTowerPlanner$Hanging", "countPlaces", "(II)I"⟩ ⟨"BellTowerPlanner$Hanging", "countPlaces", "(II)I"⟩ ∈ gt := gt_in (List.mem_of_getElem? (i := 881) (by decide +kernel)) (by decide +kernel)
theorem gw_882 : Cond.code ⟨"BellTowerPlanner$Hanging", "countPlaces", "(II)I"⟩ prog_4_method_7_code 5 (some .int) ∈ gt := gt_in (List.mem_of_getElem? (i := 882) (by decide +kernel)) (by decide +kernel)
theorem gw_883 : Cond.methodLink "BellTowerPlanner$Hanging" 55 ⟨"BellTowerPlanner$Hanging", "errorOfPlace", "(III)I"⟩ ∈ gt := gt_in (List.mem_of_getElem? (i := 883) (by decide +kernel)) (by decide +kernel)
theorem gw_891 : Cond.methodLink "BellTowerPlanner" 173 ⟨"BellTowerPlanner$Hanging", "calmestPlace", "(II)I"⟩ ∈ gt := gt_in (List.mem_of_getElem? (i := 891) (by decide +kernel)) (by decide +kernel)
theorem gw_892 : Cond.instanceMethod ⟨"BellTowerPlanner$Hanging", "calmestPlace", "(II)I"⟩ ∈ gt := gt_in (List.mem_of_getElem? (i := 892) (by decide +kernel)) (by decide +kernel)
theorem gw_893 : Cond.selects "BellTowerPlanner$Hanging" ⟨"BellTowerPlanner$Hanging", "calmestPlace", "(II)I"⟩ ⟨"BellTowerPlanner$Hanging", "calmestPlace", "(II)I"⟩ ∈ gt := gt_in (List.mem_of_getElem? (i := 893) (by decide +kernel)) (by decide +kernel)
theorem gw_894 : Cond.code ⟨"BellTowerPlanner$Hanging", "calmestPlace", "(II)I"⟩ prog_4_method_8_code 7 (some .int) ∈ gt := gt_in (List.mem_of_getElem? (i := 894) (by decide +kernel)) (by decide +kernel)
theorem gw_895 : Cond.constant "BellTowerPlanner$Hanging" 58 (2147483647) ∈ gt := gt_in (List.mem_of_getElem? (i := 895) (by decide +kernel)) (by decide +kernel)
theorem gw_896 : Cond.methodLink "BellTowerPlanner$Hanging" 59 ⟨"java/lang/Math", "abs", "(I)I"⟩ ∈ gt := gt_in (List.mem_of_getElem? (i := 896) (by decide +kernel)) (by decide +kernel)
theorem gw_904 : Cond.methodLink "BellTowerPlanner" 176 ⟨"BellTowerPlanner$Hanging", "bestMirror", "(I)I"⟩ ∈ gt := gt_in (List.mem_of_getElem? (i := 904) (by decide +kernel)) (by decide +kernel)
theorem gw_905 : Cond.instanceMethod ⟨"BellTowerPlanner$Hanging", "bestMirror", "(I)I"⟩ ∈ gt := gt_in (List.mem_of_getElem? (i := 905) (by decide +kernel)) (by decide +kernel)
theorem gw_906 : Cond.selects "BellTowerPlanner$Hanging" ⟨"BellTowerPlanner$Hanging", "bestMirror", "(I)I"⟩ ⟨"BellTowerPlanner$Hanging", "bestMirror", "(I)I"⟩ ∈ gt := gt_in (List.mem_of_getElem? (i := 906) (by decide +kernel)) (by decide +kernel)
theorem gw_907 : Cond.code ⟨"BellTowerPlanner$Hanging", "bestMirror", "(I)I"⟩ prog_4_method_11_code 8 (some .int) ∈ gt := gt_in (List.mem_of_getElem? (i := 907) (by decide +kernel)) (by decide +kernel)
theorem gw_908 : Cond.methodLink "BellTowerPlanner$Hanging" 72 ⟨"BellTowerPlanner$Hanging", "bellsOn", "(I)I"⟩ ∈ gt := gt_in (List.mem_of_getElem? (i := 908) (by decide +kernel)) (by decide +kernel)
theorem gw_910 : Cond.instanceMethod ⟨"BellTowerPlanner$Hanging", "bellsOn", "(I)I"⟩ ∈ gt := gt_in (List.mem_of_getElem? (i := 910) (by decide +kernel)) (by decide +kernel)
theorem gw_911 : Cond.code ⟨"BellTowerPlanner$Hanging", "bellsOn", "(I)I"⟩ prog_4_method_13_code 4 (some .int) ∈ gt := gt_in (List.mem_of_getElem? (i := 911) (by decide +kernel)) (by decide +kernel)
theorem gw_912 : Cond.methodLink "BellTowerPlanner$Hanging" 75 ⟨"BellTowerPlanner$Hanging", "momentMirrored", "(II)I"⟩ ∈ gt := gt_in (List.mem_of_getElem? (i := 912) (by decide +kernel)) (by decide +kernel)
theorem gw_913 : Cond.instanceMethod ⟨"BellTowerPlanner$Hanging", "momentMirrored", "(II)I"⟩ ∈ gt := gt_in (List.mem_of_getElem? (i := 913) (by decide +kernel)) (by decide +kernel)
theorem gw_914 : Cond.selects "BellTowerPlanner$Hanging" ⟨"BellTowerPlanner$Hanging", "momentMirrored", "(II)I"⟩ ⟨"BellTowerPlanner$Hanging", "momentMirrored", "(II)I"⟩ ∈ gt := gt_in (List.mem_of_getElem? (i := 914) (by decide +kernel)) (by decide +kernel)
theorem gw_915 : Cond.code ⟨"BellTowerPlanner$Hanging", "momentMirrored", "(II)I"⟩ prog_4_method_12_code 5 (some .int) ∈ gt := gt_in (List.mem_of_getElem? (i := 915) (by decide +kernel)) (by decide +kernel)
theorem gw_916 : Cond.methodLink "BellTowerPlanner$Hanging" 86 ⟨"BellTowerPlanner$Hanging", "positionMirrored", "(II)I"⟩ ∈ gt := gt_in (List.mem_of_getElem? (i := 916) (by decide +kernel)) (by decide +kernel)
theorem gw_918 : Cond.instanceMethod ⟨"BellTowerPlanner$Hanging", "positionMirrored", "(II)I"⟩ ∈ gt := gt_in (List.mem_of_getElem? (i := 918) (by decide +kernel)) (by decide +kernel)
theorem gw_919 : Cond.code ⟨"BellTowerPlanner$Hanging", "positionMirrored", "(II)I"⟩ prog_4_method_15_code 4 (some .int) ∈ gt := gt_in (List.mem_of_getElem? (i := 919) (by decide +kernel)) (by decide +kernel)
theorem gw_920 : Cond.methodLink "BellTowerPlanner$Hanging" 78 ⟨"java/lang/Integer", "bitCount", "(I)I"⟩ ∈ gt := gt_in (List.mem_of_getElem? (i := 920) (by decide +kernel)) (by decide +kernel)
theorem gw_921 : Cond.static ⟨"java/lang/Integer", "bitCount", "(I)I"⟩ ∈ gt := gt_in (List.mem_of_getElem? (i := 921) (by decide +kernel)) (by decide +kernel)
theorem gw_922 : Cond.code ⟨"java/lang/Integer", "bitCount", "(I)I"⟩ prog_19_method_49_code 1 (some .int) ∈ gt := gt_in (List.mem_of_getElem? (i := 922) (by decide +kernel)) (by decide +kernel)
theorem gw_923 : Cond.constant "java/lang/Integer" 265 (1431655765) ∈ gt := gt_in (List.mem_of_getElem? (i := 923) (by decide +kernel)) (by decide +kernel)
theorem gw_924 : Cond.constant "java/lang/Integer" 266 (858993459) ∈ gt := gt_in (List.mem_of_getElem? (i := 924) (by decide +kernel)) (by decide +kernel)
theorem gw_925 : Cond.constant "java/lang/Integer" 267 (252645135) ∈ gt := gt_in (List.mem_of_getElem? (i := 925) (by decide +kernel)) (by decide +kernel)
theorem gw_926 : Cond.methodLink "BellTowerPlanner$Hanging" 83 ⟨"BellTowerPlanner$Hanging", "clearMirrored", "(II)Z"⟩ ∈ gt := gt_in (List.mem_of_getElem? (i := 926) (by decide +kernel)) (by decide +kernel)
theorem gw_928 : Cond.instanceMethod ⟨"BellTowerPlanner$Hanging", "clearMirrored", "(II)Z"⟩ ∈ gt := gt_in (List.mem_of_getElem? (i := 928) (by decide +kernel)) (by decide +kernel)
theorem gw_929 : Cond.code ⟨"BellTowerPlanner$Hanging", "clearMirrored", "(II)Z"⟩ prog_4_method_14_code 6 (some .boolean) ∈ gt := gt_in (List.mem_of_getElem? (i := 929) (by decide +kernel)) (by decide +kernel)
theorem gw_930 : Cond.methodLink "BellTowerPlanner" 179 ⟨"BellTowerPlanner$Hanging", "momentMirrored", "(II)I"⟩ ∈ gt := gt_in (List.mem_of_getElem? (i := 930) (by decide +kernel)) (by decide +kernel)
theorem gw_931 : Cond.methodLink "BellTowerPlanner" 182 ⟨"java/lang/Math", "abs", "(I)I"⟩ ∈ gt := gt_in (List.mem_of_getElem? (i := 931) (by decide +kernel)) (by decide +kernel)
theorem gw_946 : Cond.methodLink "BellTowerPlanner" 193 ⟨"BellTowerPlanner$Plans", "countPlanned", "()I"⟩ ∈ gt := gt_in (List.mem_of_getElem? (i := 946) (by decide +kernel)) (by decide +kernel)
theorem gw_947 : Cond.instanceMethod ⟨"BellTowerPlanner$Plans", "countPlanned", "()I"⟩ ∈ gt := gt_in (List.mem_of_getElem? (i := 947) (by decide +kernel)) (by decide +kernel)
theorem gw_948 : Cond.selects "BellTowerPlanner$Plans" ⟨"BellTowerPlanner$Plans", "countPlanned", "()I"⟩ ⟨"BellTowerPlanner$Plans", "countPlanned", "()I"⟩ ∈ gt := gt_in (List.mem_of_getElem? (i := 948) (by decide +kernel)) (by decide +kernel)
theorem gw_949 : Cond.code ⟨"BellTowerPlanner$Plans", "countPlanned", "()I"⟩ prog_6_method_2_code 3 (some .int) ∈ gt := gt_in (List.mem_of_getElem? (i := 949) (by decide +kernel)) (by decide +kernel)
theorem gw_950 : Cond.methodLink "BellTowerPlanner$Plans" 40 ⟨"BellTowerPlanner$BellState", "hasPlan", "()Z"⟩ ∈ gt := gt_in (List.mem_of_getElem? (i := 950) (by decide +kernel)) (by decide +kernel)
theorem gw_951 : Cond.instanceMethod ⟨"BellTowerPlanner$BellState", "hasPlan", "()Z"⟩ ∈ gt := gt_in (List.mem_of_getElem? (i := 951) (by decide +kernel)) (by decide +kernel)
theorem gw_952 : Cond.selects "BellTowerPlanner$BellState" ⟨"BellTowerPlanner$BellState", "hasPlan", "()Z"⟩ ⟨"BellTowerPlanner$BellState", "hasPlan", "()Z"⟩ ∈ gt := gt_in (List.mem_of_getElem? (i := 952) (by decide +kernel)) (by decide +kernel)
theorem gw_953 : Cond.code ⟨"BellTowerPlanner$BellState", "hasPlan", "()Z"⟩ prog_2_method_5_code 1 (some .boolean) ∈ gt := gt_in (List.mem_of_getElem? (i := 953) (by decide +kernel)) (by decide +kernel)
theorem gw_961 : Cond.methodLink "BellTowerPlanner" 197 ⟨"BellTowerPlanner$BellState", "hasPlan", "()Z"⟩ ∈ gt := gt_in (List.mem_of_getElem? (i := 961) (by decide +kernel)) (by decide +kernel)
theorem gw_969 : Cond.methodLink "BellTowerPlanner" 200 ⟨"BellTowerPlanner$Plans", "countConflicts", "()I"⟩ ∈ gt := gt_in (List.mem_of_getElem? (i := 969) (by decide +kernel)) (by decide +kernel)
theorem gw_970 : Cond.instanceMethod ⟨"BellTowerPlanner$Plans", "countConflicts", "()I"⟩ ∈ gt := gt_in (List.mem_of_getElem? (i := 970) (by decide +kernel)) (by decide +kernel)
theorem gw_971 : Cond.selects "BellTowerPlanner$Plans" ⟨"BellTowerPlanner$Plans", "countConflicts", "()I"⟩ ⟨"BellTowerPlanner$Plans", "countConflicts", "()I"⟩ ∈ gt := gt_in (List.mem_of_getElem? (i := 971) (by decide +kernel)) (by decide +kernel)
theorem gw_972 : Cond.code ⟨"BellTowerPlanner$Plans", "countConflicts", "()I"⟩ prog_6_method_3_code 1 (some .int) ∈ gt := gt_in (List.mem_of_getElem? (i := 972) (by decide +kernel)) (by decide +kernel)
theorem gw_973 : Cond.methodLink "BellTowerPlanner$Plans" 46 ⟨"BellTowerPlanner$Plans", "goalArrangement", "()I"⟩ ∈ gt := gt_in (List.mem_of_getElem? (i := 973) (by decide +kernel)) (by decide +kernel)
theorem gw_975 : Cond.instanceMethod ⟨"BellTowerPlanner$Plans", "goalArrangement", "()I"⟩ ∈ gt := gt_in (List.mem_of_getElem? (i := 975) (by decide +kernel)) (by decide +kernel)
theorem gw_976 : Cond.code ⟨"BellTowerPlanner$Plans", "goalArrangement", "()I"⟩ prog_6_method_9_code 3 (some .int) ∈ gt := gt_in (List.mem_of_getElem? (i := 976) (by decide +kernel)) (by decide +kernel)
theorem gw_977 : Cond.methodLink "BellTowerPlanner$Plans" 88 ⟨"BellTowerPlanner$BellState", "plannedWhereItHangs", "()Z"⟩ ∈ gt := gt_in (List.mem_of_getElem? (i := 977) (by decide +kernel)) (by decide +kernel)
theorem gw_978 : Cond.instanceMethod ⟨"BellTowerPlanner$BellState", "plannedWhereItHangs", "()Z"⟩ ∈ gt := gt_in (List.mem_of_getElem? (i := 978) (by decide +kernel)) (by decide +kernel)
theorem gw_979 : Cond.selects "BellTowerPlanner$BellState" ⟨"BellTowerPlanner$BellState", "plannedWhereItHangs", "()Z"⟩ ⟨"BellTowerPlanner$BellState", "plannedWhereItHangs", "()Z"⟩ ∈ gt := gt_in (List.mem_of_getElem? (i := 979) (by decide +kernel)) (by decide +kernel)
theorem gw_980 : Cond.code ⟨"BellTowerPlanner$BellState", "plannedWhereItHangs", "()Z"⟩ prog_2_method_9_code 1 (some .boolean) ∈ gt := gt_in (List.mem_of_getElem? (i := 980) (by decide +kernel)) (by decide +kernel)
theorem gw_981 : Cond.methodLink "BellTowerPlanner$BellState" 40 ⟨"BellTowerPlanner$BellState", "hasPlan", "()Z"⟩ ∈ gt := gt_in (List.mem_of_getElem? (i := 981) (by decide +kernel)) (by decide +kernel)
theorem gw_982 : Cond.fieldLink "BellTowerPlanner$Plans" 85 "BellTowerPlanner$Plans" "POWER" "[I" ∈ gt := gt_in (List.mem_of_getElem? (i := 982) (by decide +kernel)) (by decide +kernel)
theorem gw_984 : Cond.methodLink "BellTowerPlanner$Plans" 82 ⟨"BellTowerPlanner$BellState", "hangs", "()Z"⟩ ∈ gt := gt_in (List.mem_of_getElem? (i := 984) (by decide +kernel)) (by decide +kernel)
theorem gw_985 : Cond.methodLink "BellTowerPlanner$Plans" 50 ⟨"BellTowerPlanner$Plans", "arrange", "(I)V"⟩ ∈ gt := gt_in (List.mem_of_getElem? (i := 985) (by decide +kernel)) (by decide +kernel)
theorem gw_987 : Cond.instanceMethod ⟨"BellTowerPlanner$Plans", "arrange", "(I)V"⟩ ∈ gt := gt_in (List.mem_of_getElem? (i := 987) (by decide +kernel)) (by decide +kernel)
theorem gw_988 : Cond.code ⟨"BellTowerPlanner$Plans", "arrange", "(I)V"⟩ prog_6_method_14_code 6 none ∈ gt := gt_in (List.mem_of_getElem? (i := 988) (by decide +kernel)) (by decide +kernel)
theorem gw_989 : Cond.methodLink "BellTowerPlanner$Plans" 91 ⟨"BellTowerPlanner$Plans", "stateIn", "(II)I"⟩ ∈ gt := gt_in (List.mem_of_getElem? (i := 989) (by decide +kernel)) (by decide +kernel)
theorem gw_990 : Cond.static ⟨"BellTowerPlanner$Plans", "stateIn", "(II)I"⟩ ∈ gt := gt_in (List.mem_of_getElem? (i := 990) (by decide +kernel)) (by decide +kernel)
theorem gw_991 : Cond.code ⟨"BellTowerPlanner$Plans", "stateIn", "(II)I"⟩ prog_6_method_17_code 2 (some .int) ∈ gt := gt_in (List.mem_of_getElem? (i := 991) (by decide +kernel)) (by decide +kernel)
theorem gw_992 : Cond.methodLink "BellTowerPlanner$Plans" 99 ⟨"BellTowerPlanner$Plans", "beamIn", "(ILBellTowerPlanner$BellState;)I"⟩ ∈ gt := gt_in (List.mem_of_getElem? (i := 992) (by decide +kernel)) (by decide +kernel)
theorem gw_993 : Cond.static ⟨"BellTowerPlanner$Plans", "beamIn", "(ILBellTowerPlanner$BellState;)I"⟩ ∈ gt := gt_in (List.mem_of_getElem? (i := 993) (by decide +kernel)) (by decide +kernel)
theorem gw_994 : Cond.code ⟨"BellTowerPlanner$Plans", "beamIn", "(ILBellTowerPlanner$BellState;)I"⟩ prog_6_method_18_code 2 (some .int) ∈ gt := gt_in (List.mem_of_getElem? (i := 994) (by decide +kernel)) (by decide +kernel)
theorem gw_995 : Cond.methodLink "BellTowerPlanner$Plans" 54 ⟨"BellTowerPlanner$Plans", "conflictsThere", "()I"⟩ ∈ gt := gt_in (List.mem_of_getElem? (i := 995) (by decide +kernel)) (by decide +kernel)
theorem gw_997 : Cond.instanceMethod ⟨"BellTowerPlanner$Plans", "conflictsThere", "()I"⟩ ∈ gt := gt_in (List.mem_of_getElem? (i := 997) (by decide +kernel)) (by decide +kernel)
theorem gw_998 : Cond.code ⟨"BellTowerPlanner$Plans", "conflictsThere", "()I"⟩ prog_6_method_16_code 5 (some .int) ∈ gt := gt_in (List.mem_of_getElem? (i := 998) (by decide +kernel)) (by decide +kernel)
theorem gw_999 : Cond.methodLink "BellTowerPlanner$Plans" 119 ⟨"BellTowerPlanner$Tower", "keepsClear", "(III)Z"⟩ ∈ gt := gt_in (List.mem_of_getElem? (i := 999) (by decide +kernel)) (by decide +kernel)
theorem gw_1007 : Cond.methodLink "BellTowerPlanner" 203 ⟨"BellTowerPlanner$Plans", "unbalancedBeams", "()I"⟩ ∈ gt := gt_in (List.mem_of_getElem? (i := 1007) (by decide +kernel)) (by decide +kernel)
theorem gw_1008 : Cond.instanceMethod ⟨"BellTowerPlanner$Plans", "unbalancedBeams", "()I"⟩ ∈ gt := gt_in (List.mem_of_getElem? (i := 1008) (by decide +kernel)) (by decide +kernel)
theorem gw_1009 : Cond.selects "BellTowerPlanner$Plans" ⟨"BellTowerPlanner$Plans", "unbalancedBeams", "()I"⟩ ⟨"BellTowerPlanner$Plans", "unbalancedBeams", "()I"⟩ ∈ gt := gt_in (List.mem_of_getElem? (i := 1009) (by decide +kernel)) (by decide +kernel)
theorem gw_1010 : Cond.code ⟨"BellTowerPlanner$Plans", "unbalancedBeams", "()I"⟩ prog_6_method_4_code 1 (some .int) ∈ gt := gt_in (List.mem_of_getElem? (i := 1010) (by decide +kernel)) (by decide +kernel)
theorem gw_1011 : Cond.methodLink "BellTowerPlanner$Plans" 57 ⟨"BellTowerPlanner$Plans", "unbalancedThere", "()I"⟩ ∈ gt := gt_in (List.mem_of_getElem? (i := 1011) (by decide +kernel)) (by decide +kernel)
theorem gw_1013 : Cond.instanceMethod ⟨"BellTowerPlanner$Plans", "unbalancedThere", "()I"⟩ ∈ gt := gt_in (List.mem_of_getElem? (i := 1013) (by decide +kernel)) (by decide +kernel)
theorem gw_1014 : Cond.code ⟨"BellTowerPlanner$Plans", "unbalancedThere", "()I"⟩ prog_6_method_15_code 3 (some .int) ∈ gt := gt_in (List.mem_of_getElem? (i := 1014) (by decide +kernel)) (by decide +kernel)
theorem gw_1015 : Cond.methodLink "BellTowerPlanner$Plans" 115 ⟨"BellTowerPlanner$Tower", "bears", "(II)Z"⟩ ∈ gt := gt_in (List.mem_of_getElem? (i := 1015) (by decide +kernel)) (by decide +kernel)
theorem gw_1023 : Cond.methodLink "BellTowerPlanner" 206 ⟨"BellTowerPlanner$Plans", "findWay", "()Z"⟩ ∈ gt := gt_in (List.mem_of_getElem? (i := 1023) (by decide +kernel)) (by decide +kernel)
theorem gw_1024 : Cond.instanceMethod ⟨"BellTowerPlanner$Plans", "findWay", "()Z"⟩ ∈ gt := gt_in (List.mem_of_getElem? (i := 1024) (by decide +kernel)) (by decide +kernel)
theorem gw_1025 : Cond.selects "BellTowerPlanner$Plans" ⟨"BellTowerPlanner$Plans", "findWay", "()Z"⟩ ⟨"BellTowerPlanner$Plans", "findWay", "()Z"⟩ ∈ gt := gt_in (List.mem_of_getElem? (i := 1025) (by decide +kernel)) (by decide +kernel)
theorem gw_1026 : Cond.code ⟨"BellTowerPlanner$Plans", "findWay", "()Z"⟩ prog_6_method_5_code 3 (some .boolean) ∈ gt := gt_in (List.mem_of_getElem? (i := 1026) (by decide +kernel)) (by decide +kernel)
theorem gw_1027 : Cond.methodLink "BellTowerPlanner$Plans" 60 ⟨"BellTowerPlanner$Plans", "presentArrangement", "()I"⟩ ∈ gt := gt_in (List.mem_of_getElem? (i := 1027) (by decide +kernel)) (by decide +kernel)
theorem gw_1029 : Cond.instanceMethod ⟨"BellTowerPlanner$Plans", "presentArrangement", "()I"⟩ ∈ gt := gt_in (List.mem_of_getElem? (i := 1029) (by decide +kernel)) (by decide +kernel)
theorem gw_1030 : Cond.code ⟨"BellTowerPlanner$Plans", "presentArrangement", "()I"⟩ prog_6_method_8_code 3 (some .int) ∈ gt := gt_in (List.mem_of_getElem? (i := 1030) (by decide +kernel)) (by decide +kernel)
theorem gw_1031 : Cond.methodLink "BellTowerPlanner$Plans" 69 ⟨"BellTowerPlanner$Plans", "allowed", "(I)Z"⟩ ∈ gt := gt_in (List.mem_of_getElem? (i := 1031) (by decide +kernel)) (by decide +kernel)
theorem gw_1033 : Cond.instanceMethod ⟨"BellTowerPlanner$Plans", "allowed", "(I)Z"⟩ ∈ gt := gt_in (List.mem_of_getElem? (i := 1033) (by decide +kernel)) (by decide +kernel)
theorem gw_1034 : Cond.code ⟨"BellTowerPlanner$Plans", "allowed", "(I)Z"⟩ prog_6_method_13_code 2 (some .boolean) ∈ gt := gt_in (List.mem_of_getElem? (i := 1034) (by decide +kernel)) (by decide +kernel)
theorem gw_1035 : Cond.methodLink "BellTowerPlanner$Plans" 73 ⟨"BellTowerPlanner$Plans", "isReached", "(I)Z"⟩ ∈ gt := gt_in (List.mem_of_getElem? (i := 1035) (by decide +kernel)) (by decide +kernel)
theorem gw_1037 : Cond.instanceMethod ⟨"BellTowerPlanner$Plans", "isReached", "(I)Z"⟩ ∈ gt := gt_in (List.mem_of_getElem? (i := 1037) (by decide +kernel)) (by decide +kernel)
theorem gw_1038 : Cond.code ⟨"BellTowerPlanner$Plans", "isReached", "(I)Z"⟩ prog_6_method_10_code 2 (some .boolean) ∈ gt := gt_in (List.mem_of_getElem? (i := 1038) (by decide +kernel)) (by decide +kernel)
theorem gw_1039 : Cond.methodLink "BellTowerPlanner$Plans" 76 ⟨"BellTowerPlanner$Plans", "stepFrom", "(I)V"⟩ ∈ gt := gt_in (List.mem_of_getElem? (i := 1039) (by decide +kernel)) (by decide +kernel)
theorem gw_1041 : Cond.instanceMethod ⟨"BellTowerPlanner$Plans", "stepFrom", "(I)V"⟩ ∈ gt := gt_in (List.mem_of_getElem? (i := 1041) (by decide +kernel)) (by decide +kernel)
theorem gw_1042 : Cond.code ⟨"BellTowerPlanner$Plans", "stepFrom", "(I)V"⟩ prog_6_method_11_code 4 none ∈ gt := gt_in (List.mem_of_getElem? (i := 1042) (by decide +kernel)) (by decide +kernel)
theorem gw_1043 : Cond.methodLink "BellTowerPlanner$Plans" 95 ⟨"BellTowerPlanner$Plans", "reach", "(III)V"⟩ ∈ gt := gt_in (List.mem_of_getElem? (i := 1043) (by decide +kernel)) (by decide +kernel)
theorem gw_1045 : Cond.instanceMethod ⟨"BellTowerPlanner$Plans", "reach", "(III)V"⟩ ∈ gt := gt_in (List.mem_of_getElem? (i := 1045) (by decide +kernel)) (by decide +kernel)
theorem gw_1046 : Cond.code ⟨"BellTowerPlanner$Plans", "reach", "(III)V"⟩ prog_6_method_12_code 4 none ∈ gt := gt_in (List.mem_of_getElem? (i := 1046) (by decide +kernel)) (by decide +kernel)
theorem gw_1047 : Cond.methodLink "BellTowerPlanner" 209 ⟨"BellTowerPlanner$Plans", "countSteps", "()I"⟩ ∈ gt := gt_in (List.mem_of_getElem? (i := 1047) (by decide +kernel)) (by decide +kernel)
theorem gw_1048 : Cond.instanceMethod ⟨"BellTowerPlanner$Plans", "countSteps", "()I"⟩ ∈ gt := gt_in (List.mem_of_getElem? (i := 1048) (by decide +kernel)) (by decide +kernel)
theorem gw_1049 : Cond.selects "BellTowerPlanner$Plans" ⟨"BellTowerPlanner$Plans", "countSteps", "()I"⟩ ⟨"BellTowerPlanner$Plans", "countSteps", "()I"⟩ ∈ gt := gt_in (List.mem_of_getElem? (i := 1049) (by decide +kernel)) (by decide +kernel)
theorem gw_1050 : Cond.code ⟨"BellTowerPlanner$Plans", "countSteps", "()I"⟩ prog_6_method_6_code 3 (some .int) ∈ gt := gt_in (List.mem_of_getElem? (i := 1050) (by decide +kernel)) (by decide +kernel)
theorem gw_1058 : Cond.methodLink "BellTowerPlanner" 212 ⟨"BellTowerPlanner$Plans", "stepOfWay", "(I)I"⟩ ∈ gt := gt_in (List.mem_of_getElem? (i := 1058) (by decide +kernel)) (by decide +kernel)
theorem gw_1059 : Cond.instanceMethod ⟨"BellTowerPlanner$Plans", "stepOfWay", "(I)I"⟩ ∈ gt := gt_in (List.mem_of_getElem? (i := 1059) (by decide +kernel)) (by decide +kernel)
theorem gw_1060 : Cond.selects "BellTowerPlanner$Plans" ⟨"BellTowerPlanner$Plans", "stepOfWay", "(I)I"⟩ ⟨"BellTowerPlanner$Plans", "stepOfWay", "(I)I"⟩ ∈ gt := gt_in (List.mem_of_getElem? (i := 1060) (by decide +kernel)) (by decide +kernel)
theorem gw_1061 : Cond.code ⟨"BellTowerPlanner$Plans", "stepOfWay", "(I)I"⟩ prog_6_method_7_code 5 (some .int) ∈ gt := gt_in (List.mem_of_getElem? (i := 1061) (by decide +kernel)) (by decide +kernel)
theorem gw_1062 : Cond.methodLink "BellTowerPlanner$Plans" 79 ⟨"BellTowerPlanner$Plans", "countSteps", "()I"⟩ ∈ gt := gt_in (List.mem_of_getElem? (i := 1062) (by decide +kernel)) (by decide +kernel)
theorem gw_1070 : Cond.methodLink "BellTowerPlanner" 218 ⟨"BellTowerPlanner$Swings", "countSwinging", "()I"⟩ ∈ gt := gt_in (List.mem_of_getElem? (i := 1070) (by decide +kernel)) (by decide +kernel)
theorem gw_1071 : Cond.instanceMethod ⟨"BellTowerPlanner$Swings", "countSwinging", "()I"⟩ ∈ gt := gt_in (List.mem_of_getElem? (i := 1071) (by decide +kernel)) (by decide +kernel)
theorem gw_1072 : Cond.selects "BellTowerPlanner$Swings" ⟨"BellTowerPlanner$Swings", "countSwinging", "()I"⟩ ⟨"BellTowerPlanner$Swings", "countSwinging", "()I"⟩ ∈ gt := gt_in (List.mem_of_getElem? (i := 1072) (by decide +kernel)) (by decide +kernel)
theorem gw_1073 : Cond.code ⟨"BellTowerPlanner$Swings", "countSwinging", "()I"⟩ prog_8_method_2_code 3 (some .int) ∈ gt := gt_in (List.mem_of_getElem? (i := 1073) (by decide +kernel)) (by decide +kernel)
theorem gw_1074 : Cond.methodLink "BellTowerPlanner$Swings" 34 ⟨"BellTowerPlanner$BellState", "swings", "()Z"⟩ ∈ gt := gt_in (List.mem_of_getElem? (i := 1074) (by decide +kernel)) (by decide +kernel)
theorem gw_1075 : Cond.instanceMethod ⟨"BellTowerPlanner$BellState", "swings", "()Z"⟩ ∈ gt := gt_in (List.mem_of_getElem? (i := 1075) (by decide +kernel)) (by decide +kernel)
theorem gw_1076 : Cond.selects "BellTowerPlanner$BellState" ⟨"BellTowerPlanner$BellState", "swings", "()Z"⟩ ⟨"BellTowerPlanner$BellState", "swings", "()Z"⟩ ∈ gt := gt_in (List.mem_of_getElem? (i := 1076) (by decide +kernel)) (by decide +kernel)
theorem gw_1077 : Cond.code ⟨"BellTowerPlanner$BellState", "swings", "()Z"⟩ prog_2_method_6_code 1 (some .boolean) ∈ gt := gt_in (List.mem_of_getElem? (i := 1077) (by decide +kernel)) (by decide +kernel)
theorem gw_1085 : Cond.methodLink "BellTowerPlanner" 221 ⟨"BellTowerPlanner$BellState", "swings", "()Z"⟩ ∈ gt := gt_in (List.mem_of_getElem? (i := 1085) (by decide +kernel)) (by decide +kernel)
theorem gw_1093 : Cond.methodLink "BellTowerPlanner" 223 ⟨"BellTowerPlanner$Swings", "offsetOf", "(II)I"⟩ ∈ gt := gt_in (List.mem_of_getElem? (i := 1093) (by decide +kernel)) (by decide +kernel)
theorem gw_1094 : Cond.instanceMethod ⟨"BellTowerPlanner$Swings", "offsetOf", "(II)I"⟩ ∈ gt := gt_in (List.mem_of_getElem? (i := 1094) (by decide +kernel)) (by decide +kernel)
theorem gw_1095 : Cond.selects "BellTowerPlanner$Swings" ⟨"BellTowerPlanner$Swings", "offsetOf", "(II)I"⟩ ⟨"BellTowerPlanner$Swings", "offsetOf", "(II)I"⟩ ∈ gt := gt_in (List.mem_of_getElem? (i := 1095) (by decide +kernel)) (by decide +kernel)
theorem gw_1096 : Cond.code ⟨"BellTowerPlanner$Swings", "offsetOf", "(II)I"⟩ prog_8_method_3_code 4 (some .int) ∈ gt := gt_in (List.mem_of_getElem? (i := 1096) (by decide +kernel)) (by decide +kernel)
theorem gw_1097 : Cond.methodLink "BellTowerPlanner$Swings" 49 ⟨"BellTowerPlanner$Swings", "offsetOfSwing", "(III)I"⟩ ∈ gt := gt_in (List.mem_of_getElem? (i := 1097) (by decide +kernel)) (by decide +kernel)
theorem gw_1098 : Cond.static ⟨"BellTowerPlanner$Swings", "offsetOfSwing", "(III)I"⟩ ∈ gt := gt_in (List.mem_of_getElem? (i := 1098) (by decide +kernel)) (by decide +kernel)
theorem gw_1099 : Cond.code ⟨"BellTowerPlanner$Swings", "offsetOfSwing", "(III)I"⟩ prog_8_method_4_code 4 (some .int) ∈ gt := gt_in (List.mem_of_getElem? (i := 1099) (by decide +kernel)) (by decide +kernel)
theorem gw_1108 : Cond.methodLink "BellTowerPlanner" 231 ⟨"BellTowerPlanner$BellState", "sharesBeamWith", "(LBellTowerPlanner$BellState;)Z"⟩ ∈ gt := gt_in (List.mem_of_getElem? (i := 1108) (by decide +kernel)) (by decide +kernel)
theorem gw_1110 : Cond.methodLink "BellTowerPlanner" 240 ⟨"BellTowerPlanner$Swings", "gapBetween", "(III)I"⟩ ∈ gt := gt_in (List.mem_of_getElem? (i := 1110) (by decide +kernel)) (by decide +kernel)
theorem gw_1111 : Cond.instanceMethod ⟨"BellTowerPlanner$Swings", "gapBetween", "(III)I"⟩ ∈ gt := gt_in (List.mem_of_getElem? (i := 1111) (by decide +kernel)) (by decide +kernel)
theorem gw_1112 : Cond.selects "BellTowerPlanner$Swings" ⟨"BellTowerPlanner$Swings", "gapBetween", "(III)I"⟩ ⟨"BellTowerPlanner$Swings", "gapBetween", "(III)I"⟩ ∈ gt := gt_in (List.mem_of_getElem? (i := 1112) (by decide +kernel)) (by decide +kernel)
theorem gw_1113 : Cond.code ⟨"BellTowerPlanner$Swings", "gapBetween", "(III)I"⟩ prog_8_method_5_code 4 (some .int) ∈ gt := gt_in (List.mem_of_getElem? (i := 1113) (by decide +kernel)) (by decide +kernel)
theorem gw_1114 : Cond.methodLink "BellTowerPlanner$Swings" 53 ⟨"BellTowerPlanner$Swings", "spotOf", "(II)I"⟩ ∈ gt := gt_in (List.mem_of_getElem? (i := 1114) (by decide +kernel)) (by decide +kernel)
theorem gw_1116 : Cond.instanceMethod ⟨"BellTowerPlanner$Swings", "spotOf", "(II)I"⟩ ∈ gt := gt_in (List.mem_of_getElem? (i := 1116) (by decide +kernel)) (by decide +kernel)
theorem gw_1117 : Cond.code ⟨"BellTowerPlanner$Swings", "spotOf", "(II)I"⟩ prog_8_method_7_code 3 (some .int) ∈ gt := gt_in (List.mem_of_getElem? (i := 1117) (by decide +kernel)) (by decide +kernel)
theorem gw_1118 : Cond.methodLink "BellTowerPlanner$Swings" 66 ⟨"BellTowerPlanner$Swings", "offsetOf", "(II)I"⟩ ∈ gt := gt_in (List.mem_of_getElem? (i := 1118) (by decide +kernel)) (by decide +kernel)
theorem gw_1119 : Cond.methodLink "BellTowerPlanner$Swings" 57 ⟨"BellTowerPlanner$Swings", "gapOfSpots", "(III)I"⟩ ∈ gt := gt_in (List.mem_of_getElem? (i := 1119) (by decide +kernel)) (by decide +kernel)
theorem gw_1121 : Cond.instanceMethod ⟨"BellTowerPlanner$Swings", "gapOfSpots", "(III)I"⟩ ∈ gt := gt_in (List.mem_of_getElem? (i := 1121) (by decide +kernel)) (by decide +kernel)
theorem gw_1122 : Cond.code ⟨"BellTowerPlanner$Swings", "gapOfSpots", "(III)I"⟩ prog_8_method_6_code 6 (some .int) ∈ gt := gt_in (List.mem_of_getElem? (i := 1122) (by decide +kernel)) (by decide +kernel)
theorem gw_1130 : Cond.methodLink "BellTowerPlanner" 243 ⟨"BellTowerPlanner$Swings", "tickOfCollision", "()I"⟩ ∈ gt := gt_in (List.mem_of_getElem? (i := 1130) (by decide +kernel)) (by decide +kernel)
theorem gw_1131 : Cond.instanceMethod ⟨"BellTowerPlanner$Swings", "tickOfCollision", "()I"⟩ ∈ gt := gt_in (List.mem_of_getElem? (i := 1131) (by decide +kernel)) (by decide +kernel)
theorem gw_1132 : Cond.selects "BellTowerPlanner$Swings" ⟨"BellTowerPlanner$Swings", "tickOfCollision", "()I"⟩ ⟨"BellTowerPlanner$Swings", "tickOfCollision", "()I"⟩ ∈ gt := gt_in (List.mem_of_getElem? (i := 1132) (by decide +kernel)) (by decide +kernel)
theorem gw_1133 : Cond.code ⟨"BellTowerPlanner$Swings", "tickOfCollision", "()I"⟩ prog_8_method_8_code 2 (some .int) ∈ gt := gt_in (List.mem_of_getElem? (i := 1133) (by decide +kernel)) (by decide +kernel)
theorem gw_1134 : Cond.methodLink "BellTowerPlanner$Swings" 69 ⟨"BellTowerPlanner$Swings", "pairCollidingAt", "(I)I"⟩ ∈ gt := gt_in (List.mem_of_getElem? (i := 1134) (by decide +kernel)) (by decide +kernel)
theorem gw_1135 : Cond.instanceMethod ⟨"BellTowerPlanner$Swings", "pairCollidingAt", "(I)I"⟩ ∈ gt := gt_in (List.mem_of_getElem? (i := 1135) (by decide +kernel)) (by decide +kernel)
theorem gw_1136 : Cond.selects "BellTowerPlanner$Swings" ⟨"BellTowerPlanner$Swings", "pairCollidingAt", "(I)I"⟩ ⟨"BellTowerPlanner$Swings", "pairCollidingAt", "(I)I"⟩ ∈ gt := gt_in (List.mem_of_getElem? (i := 1136) (by decide +kernel)) (by decide +kernel)
theorem gw_1137 : Cond.code ⟨"BellTowerPlanner$Swings", "pairCollidingAt", "(I)I"⟩ prog_8_method_9_code 4 (some .int) ∈ gt := gt_in (List.mem_of_getElem? (i := 1137) (by decide +kernel)) (by decide +kernel)
theorem gw_1138 : Cond.methodLink "BellTowerPlanner$Swings" 73 ⟨"BellTowerPlanner$BellState", "sharesBeamWith", "(LBellTowerPlanner$BellState;)Z"⟩ ∈ gt := gt_in (List.mem_of_getElem? (i := 1138) (by decide +kernel)) (by decide +kernel)
theorem gw_1146 : Cond.methodLink "BellTowerPlanner" 246 ⟨"BellTowerPlanner$Swings", "pairCollidingAt", "(I)I"⟩ ∈ gt := gt_in (List.mem_of_getElem? (i := 1146) (by decide +kernel)) (by decide +kernel)
theorem gw_1154 : Cond.methodLink "BellTowerPlanner" 249 ⟨"BellTowerPlanner$Swings", "leastSafeStart", "(II)I"⟩ ∈ gt := gt_in (List.mem_of_getElem? (i := 1154) (by decide +kernel)) (by decide +kernel)
theorem gw_1155 : Cond.instanceMethod ⟨"BellTowerPlanner$Swings", "leastSafeStart", "(II)I"⟩ ∈ gt := gt_in (List.mem_of_getElem? (i := 1155) (by decide +kernel)) (by decide +kernel)
theorem gw_1156 : Cond.selects "BellTowerPlanner$Swings" ⟨"BellTowerPlanner$Swings", "leastSafeStart", "(II)I"⟩ ⟨"BellTowerPlanner$Swings", "leastSafeStart", "(II)I"⟩ ∈ gt := gt_in (List.mem_of_getElem? (i := 1156) (by decide +kernel)) (by decide +kernel)
theorem gw_1157 : Cond.code ⟨"BellTowerPlanner$Swings", "leastSafeStart", "(II)I"⟩ prog_8_method_10_code 4 (some .int) ∈ gt := gt_in (List.mem_of_getElem? (i := 1157) (by decide +kernel)) (by decide +kernel)
theorem gw_1158 : Cond.methodLink "BellTowerPlanner$Swings" 77 ⟨"BellTowerPlanner$Swings", "findRoom", "(I)V"⟩ ∈ gt := gt_in (List.mem_of_getElem? (i := 1158) (by decide +kernel)) (by decide +kernel)
theorem gw_1160 : Cond.instanceMethod ⟨"BellTowerPlanner$Swings", "findRoom", "(I)V"⟩ ∈ gt := gt_in (List.mem_of_getElem? (i := 1160) (by decide +kernel)) (by decide +kernel)
theorem gw_1161 : Cond.code ⟨"BellTowerPlanner$Swings", "findRoom", "(I)V"⟩ prog_8_method_12_code 3 none ∈ gt := gt_in (List.mem_of_getElem? (i := 1161) (by decide +kernel)) (by decide +kernel)
theorem gw_1162 : Cond.methodLink "BellTowerPlanner$Swings" 85 ⟨"BellTowerPlanner$Swings", "narrowRoom", "(II)V"⟩ ∈ gt := gt_in (List.mem_of_getElem? (i := 1162) (by decide +kernel)) (by decide +kernel)
theorem gw_1164 : Cond.instanceMethod ⟨"BellTowerPlanner$Swings", "narrowRoom", "(II)V"⟩ ∈ gt := gt_in (List.mem_of_getElem? (i := 1164) (by decide +kernel)) (by decide +kernel)
theorem gw_1165 : Cond.code ⟨"BellTowerPlanner$Swings", "narrowRoom", "(II)V"⟩ prog_8_method_13_code 8 none ∈ gt := gt_in (List.mem_of_getElem? (i := 1165) (by decide +kernel)) (by decide +kernel)
theorem gw_1166 : Cond.methodLink "BellTowerPlanner$Swings" 89 ⟨"java/lang/Math", "max", "(II)I"⟩ ∈ gt := gt_in (List.mem_of_getElem? (i := 1166) (by decide +kernel)) (by decide +kernel)
theorem gw_1167 : Cond.methodLink "BellTowerPlanner$Swings" 94 ⟨"java/lang/Math", "min", "(II)I"⟩ ∈ gt := gt_in (List.mem_of_getElem? (i := 1167) (by decide +kernel)) (by decide +kernel)
theorem gw_1168 : Cond.methodLink "BellTowerPlanner$Swings" 81 ⟨"BellTowerPlanner$Swings", "staysInRoom", "(III)Z"⟩ ∈ gt := gt_in (List.mem_of_getElem? (i := 1168) (by decide +kernel)) (by decide +kernel)
theorem gw_1170 : Cond.instanceMethod ⟨"BellTowerPlanner$Swings", "staysInRoom", "(III)Z"⟩ ∈ gt := gt_in (List.mem_of_getElem? (i := 1170) (by decide +kernel)) (by decide +kernel)
theorem gw_1171 : Cond.code ⟨"BellTowerPlanner$Swings", "staysInRoom", "(III)Z"⟩ prog_8_method_14_code 7 (some .boolean) ∈ gt := gt_in (List.mem_of_getElem? (i := 1171) (by decide +kernel)) (by decide +kernel)
theorem gw_1179 : Cond.methodLink "BellTowerPlanner" 252 ⟨"BellTowerPlanner$Swings", "greatestSafeAmplitude", "(I)I"⟩ ∈ gt := gt_in (List.mem_of_getElem? (i := 1179) (by decide +kernel)) (by decide +kernel)
theorem gw_1180 : Cond.instanceMethod ⟨"BellTowerPlanner$Swings", "greatestSafeAmplitude", "(I)I"⟩ ∈ gt := gt_in (List.mem_of_getElem? (i := 1180) (by decide +kernel)) (by decide +kernel)
theorem gw_1181 : Cond.selects "BellTowerPlanner$Swings" ⟨"BellTowerPlanner$Swings", "greatestSafeAmplitude", "(I)I"⟩ ⟨"BellTowerPlanner$Swings", "greatestSafeAmplitude", "(I)I"⟩ ∈ gt := gt_in (List.mem_of_getElem? (i := 1181) (by decide +kernel)) (by decide +kernel)
theorem gw_1182 : Cond.code ⟨"BellTowerPlanner$Swings", "greatestSafeAmplitude", "(I)I"⟩ prog_8_method_11_code 3 (some .int) ∈ gt := gt_in (List.mem_of_getElem? (i := 1182) (by decide +kernel)) (by decide +kernel)
theorem gw_1190 : Cond.methodLink "BellTowerPlanner" 255 ⟨"BellTowerPlanner$Swings", "countStrikes", "(III)I"⟩ ∈ gt := gt_in (List.mem_of_getElem? (i := 1190) (by decide +kernel)) (by decide +kernel)
theorem gw_1191 : Cond.instanceMethod ⟨"BellTowerPlanner$Swings", "countStrikes", "(III)I"⟩ ∈ gt := gt_in (List.mem_of_getElem? (i := 1191) (by decide +kernel)) (by decide +kernel)
theorem gw_1192 : Cond.selects "BellTowerPlanner$Swings" ⟨"BellTowerPlanner$Swings", "countStrikes", "(III)I"⟩ ⟨"BellTowerPlanner$Swings", "countStrikes", "(III)I"⟩ ∈ gt := gt_in (List.mem_of_getElem? (i := 1192) (by decide +kernel)) (by decide +kernel)
theorem gw_1193 : Cond.code ⟨"BellTowerPlanner$Swings", "countStrikes", "(III)I"⟩ prog_8_method_15_code 6 (some .int) ∈ gt := gt_in (List.mem_of_getElem? (i := 1193) (by decide +kernel)) (by decide +kernel)
theorem gw_1194 : Cond.methodLink "BellTowerPlanner$Swings" 97 ⟨"BellTowerPlanner$Swings", "strikesAt", "(II)Z"⟩ ∈ gt := gt_in (List.mem_of_getElem? (i := 1194) (by decide +kernel)) (by decide +kernel)
theorem gw_1196 : Cond.instanceMethod ⟨"BellTowerPlanner$Swings", "strikesAt", "(II)Z"⟩ ∈ gt := gt_in (List.mem_of_getElem? (i := 1196) (by decide +kernel)) (by decide +kernel)
theorem gw_1197 : Cond.code ⟨"BellTowerPlanner$Swings", "strikesAt", "(II)Z"⟩ prog_8_method_17_code 6 (some .boolean) ∈ gt := gt_in (List.mem_of_getElem? (i := 1197) (by decide +kernel)) (by decide +kernel)
theorem gw_1205 : Cond.methodLink "BellTowerPlanner" 258 ⟨"BellTowerPlanner$Swings", "firstCommonStrike", "(II)I"⟩ ∈ gt := gt_in (List.mem_of_getElem? (i := 1205) (by decide +kernel)) (by decide +kernel)
theorem gw_1206 : Cond.instanceMethod ⟨"BellTowerPlanner$Swings", "firstCommonStrike", "(II)I"⟩ ∈ gt := gt_in (List.mem_of_getElem? (i := 1206) (by decide +kernel)) (by decide +kernel)
theorem gw_1207 : Cond.selects "BellTowerPlanner$Swings" ⟨"BellTowerPlanner$Swings", "firstCommonStrike", "(II)I"⟩ ⟨"BellTowerPlanner$Swings", "firstCommonStrike", "(II)I"⟩ ∈ gt := gt_in (List.mem_of_getElem? (i := 1207) (by decide +kernel)) (by decide +kernel)
theorem gw_1208 : Cond.code ⟨"BellTowerPlanner$Swings", "firstCommonStrike", "(II)I"⟩ prog_8_method_16_code 4 (some .int) ∈ gt := gt_in (List.mem_of_getElem? (i := 1208) (by decide +kernel)) (by decide +kernel)
theorem gw_1223 : Cond.methodLink "BellTowerPlanner" 267 ⟨"BellTowerPlanner$BellState", "hasChime", "()Z"⟩ ∈ gt := gt_in (List.mem_of_getElem? (i := 1223) (by decide +kernel)) (by decide +kernel)
theorem gw_1224 : Cond.instanceMethod ⟨"BellTowerPlanner$BellState", "hasChime", "()Z"⟩ ∈ gt := gt_in (List.mem_of_getElem? (i := 1224) (by decide +kernel)) (by decide +kernel)
theorem gw_1225 : Cond.selects "BellTowerPlanner$BellState" ⟨"BellTowerPlanner$BellState", "hasChime", "()Z"⟩ ⟨"BellTowerPlanner$BellState", "hasChime", "()Z"⟩ ∈ gt := gt_in (List.mem_of_getElem? (i := 1225) (by decide +kernel)) (by decide +kernel)
theorem gw_1226 : Cond.code ⟨"BellTowerPlanner$BellState", "hasChime", "()Z"⟩ prog_2_method_7_code 1 (some .boolean) ∈ gt := gt_in (List.mem_of_getElem? (i := 1226) (by decide +kernel)) (by decide +kernel)
theorem gw_1227 : Cond.methodLink "BellTowerPlanner" 270 ⟨"BellTowerPlanner$Chimes", "countChiming", "()I"⟩ ∈ gt := gt_in (List.mem_of_getElem? (i := 1227) (by decide +kernel)) (by decide +kernel)
theorem gw_1228 : Cond.instanceMethod ⟨"BellTowerPlanner$Chimes", "countChiming", "()I"⟩ ∈ gt := gt_in (List.mem_of_getElem? (i := 1228) (by decide +kernel)) (by decide +kernel)
theorem gw_1229 : Cond.selects "BellTowerPlanner$Chimes" ⟨"BellTowerPlanner$Chimes", "countChiming", "()I"⟩ ⟨"BellTowerPlanner$Chimes", "countChiming", "()I"⟩ ∈ gt := gt_in (List.mem_of_getElem? (i := 1229) (by decide +kernel)) (by decide +kernel)
theorem gw_1230 : Cond.code ⟨"BellTowerPlanner$Chimes", "countChiming", "()I"⟩ prog_3_method_3_code 3 (some .int) ∈ gt := gt_in (List.mem_of_getElem? (i := 1230) (by decide +kernel)) (by decide +kernel)
theorem gw_1231 : Cond.methodLink "BellTowerPlanner$Chimes" 47 ⟨"BellTowerPlanner$BellState", "hasChime", "()Z"⟩ ∈ gt := gt_in (List.mem_of_getElem? (i := 1231) (by decide +kernel)) (by decide +kernel)
theorem gw_1246 : Cond.methodLink "BellTowerPlanner" 277 ⟨"BellTowerPlanner$Chimes", "countQuiet", "()I"⟩ ∈ gt := gt_in (List.mem_of_getElem? (i := 1246) (by decide +kernel)) (by decide +kernel)
theorem gw_1247 : Cond.instanceMethod ⟨"BellTowerPlanner$Chimes", "countQuiet", "()I"⟩ ∈ gt := gt_in (List.mem_of_getElem? (i := 1247) (by decide +kernel)) (by decide +kernel)
theorem gw_1248 : Cond.selects "BellTowerPlanner$Chimes" ⟨"BellTowerPlanner$Chimes", "countQuiet", "()I"⟩ ⟨"BellTowerPlanner$Chimes", "countQuiet", "()I"⟩ ∈ gt := gt_in (List.mem_of_getElem? (i := 1248) (by decide +kernel)) (by decide +kernel)
theorem gw_1249 : Cond.code ⟨"BellTowerPlanner$Chimes", "countQuiet", "()I"⟩ prog_3_method_4_code 3 (some .int) ∈ gt := gt_in (List.mem_of_getElem? (i := 1249) (by decide +kernel)) (by decide +kernel)
theorem gw_1257 : Cond.methodLink "BellTowerPlanner" 280 ⟨"BellTowerPlanner$Chimes", "longestLoudRun", "()I"⟩ ∈ gt := gt_in (List.mem_of_getElem? (i := 1257) (by decide +kernel)) (by decide +kernel)
theorem gw_1258 : Cond.instanceMethod ⟨"BellTowerPlanner$Chimes", "longestLoudRun", "()I"⟩ ∈ gt := gt_in (List.mem_of_getElem? (i := 1258) (by decide +kernel)) (by decide +kernel)
theorem gw_1259 : Cond.selects "BellTowerPlanner$Chimes" ⟨"BellTowerPlanner$Chimes", "longestLoudRun", "()I"⟩ ⟨"BellTowerPlanner$Chimes", "longestLoudRun", "()I"⟩ ∈ gt := gt_in (List.mem_of_getElem? (i := 1259) (by decide +kernel)) (by decide +kernel)
theorem gw_1260 : Cond.code ⟨"BellTowerPlanner$Chimes", "longestLoudRun", "()I"⟩ prog_3_method_5_code 4 (some .int) ∈ gt := gt_in (List.mem_of_getElem? (i := 1260) (by decide +kernel)) (by decide +kernel)
theorem gw_1268 : Cond.methodLink "BellTowerPlanner" 283 ⟨"BellTowerPlanner$Chimes", "soundingSet", "(I)I"⟩ ∈ gt := gt_in (List.mem_of_getElem? (i := 1268) (by decide +kernel)) (by decide +kernel)
theorem gw_1269 : Cond.instanceMethod ⟨"BellTowerPlanner$Chimes", "soundingSet", "(I)I"⟩ ∈ gt := gt_in (List.mem_of_getElem? (i := 1269) (by decide +kernel)) (by decide +kernel)
theorem gw_1270 : Cond.selects "BellTowerPlanner$Chimes" ⟨"BellTowerPlanner$Chimes", "soundingSet", "(I)I"⟩ ⟨"BellTowerPlanner$Chimes", "soundingSet", "(I)I"⟩ ∈ gt := gt_in (List.mem_of_getElem? (i := 1270) (by decide +kernel)) (by decide +kernel)
theorem gw_1271 : Cond.code ⟨"BellTowerPlanner$Chimes", "soundingSet", "(I)I"⟩ prog_3_method_6_code 4 (some .int) ∈ gt := gt_in (List.mem_of_getElem? (i := 1271) (by decide +kernel)) (by decide +kernel)
theorem gw_1272 : Cond.methodLink "BellTowerPlanner$Chimes" 53 ⟨"BellTowerPlanner$Chimes", "isHeard", "(II)Z"⟩ ∈ gt := gt_in (List.mem_of_getElem? (i := 1272) (by decide +kernel)) (by decide +kernel)
theorem gw_1274 : Cond.instanceMethod ⟨"BellTowerPlanner$Chimes", "isHeard", "(II)Z"⟩ ∈ gt := gt_in (List.mem_of_getElem? (i := 1274) (by decide +kernel)) (by decide +kernel)
theorem gw_1275 : Cond.code ⟨"BellTowerPlanner$Chimes", "isHeard", "(II)Z"⟩ prog_3_method_7_code 3 (some .boolean) ∈ gt := gt_in (List.mem_of_getElem? (i := 1275) (by decide +kernel)) (by decide +kernel)
theorem gw_1276 : Cond.methodLink "BellTowerPlanner$Chimes" 57 ⟨"BellTowerPlanner$BellState", "hangs", "()Z"⟩ ∈ gt := gt_in (List.mem_of_getElem? (i := 1276) (by decide +kernel)) (by decide +kernel)
theorem gw_1277 : Cond.methodLink "BellTowerPlanner$Chimes" 60 ⟨"BellTowerPlanner$BellState", "chimesAt", "(I)Z"⟩ ∈ gt := gt_in (List.mem_of_getElem? (i := 1277) (by decide +kernel)) (by decide +kernel)
theorem gw_1278 : Cond.instanceMethod ⟨"BellTowerPlanner$BellState", "chimesAt", "(I)Z"⟩ ∈ gt := gt_in (List.mem_of_getElem? (i := 1278) (by decide +kernel)) (by decide +kernel)
theorem gw_1279 : Cond.selects "BellTowerPlanner$BellState" ⟨"BellTowerPlanner$BellState", "chimesAt", "(I)Z"⟩ ⟨"BellTowerPlanner$BellState", "chimesAt", "(I)Z"⟩ ∈ gt := gt_in (List.mem_of_getElem? (i := 1279) (by decide +kernel)) (by decide +kernel)
theorem gw_1280 : Cond.code ⟨"BellTowerPlanner$BellState", "chimesAt", "(I)Z"⟩ prog_2_method_10_code 2 (some .boolean) ∈ gt := gt_in (List.mem_of_getElem? (i := 1280) (by decide +kernel)) (by decide +kernel)
theorem gw_1281 : Cond.methodLink "BellTowerPlanner$BellState" 43 ⟨"BellTowerPlanner$BellState", "hasChime", "()Z"⟩ ∈ gt := gt_in (List.mem_of_getElem? (i := 1281) (by decide +kernel)) (by decide +kernel)
theorem gw_1289 : Cond.methodLink "BellTowerPlanner" 286 ⟨"BellTowerPlanner$Chimes", "countCommonSounds", "(II)I"⟩ ∈ gt := gt_in (List.mem_of_getElem? (i := 1289) (by decide +kernel)) (by decide +kernel)
theorem gw_1290 : Cond.instanceMethod ⟨"BellTowerPlanner$Chimes", "countCommonSounds", "(II)I"⟩ ∈ gt := gt_in (List.mem_of_getElem? (i := 1290) (by decide +kernel)) (by decide +kernel)
theorem gw_1291 : Cond.selects "BellTowerPlanner$Chimes" ⟨"BellTowerPlanner$Chimes", "countCommonSounds", "(II)I"⟩ ⟨"BellTowerPlanner$Chimes", "countCommonSounds", "(II)I"⟩ ∈ gt := gt_in (List.mem_of_getElem? (i := 1291) (by decide +kernel)) (by decide +kernel)
theorem gw_1292 : Cond.code ⟨"BellTowerPlanner$Chimes", "countCommonSounds", "(II)I"⟩ prog_3_method_10_code 5 (some .int) ∈ gt := gt_in (List.mem_of_getElem? (i := 1292) (by decide +kernel)) (by decide +kernel)
theorem gw_1300 : Cond.methodLink "BellTowerPlanner" 289 ⟨"BellTowerPlanner$Chimes", "firstSoundFrom", "(I)I"⟩ ∈ gt := gt_in (List.mem_of_getElem? (i := 1300) (by decide +kernel)) (by decide +kernel)
theorem gw_1301 : Cond.instanceMethod ⟨"BellTowerPlanner$Chimes", "firstSoundFrom", "(I)I"⟩ ∈ gt := gt_in (List.mem_of_getElem? (i := 1301) (by decide +kernel)) (by decide +kernel)
theorem gw_1302 : Cond.selects "BellTowerPlanner$Chimes" ⟨"BellTowerPlanner$Chimes", "firstSoundFrom", "(I)I"⟩ ⟨"BellTowerPlanner$Chimes", "firstSoundFrom", "(I)I"⟩ ∈ gt := gt_in (List.mem_of_getElem? (i := 1302) (by decide +kernel)) (by decide +kernel)
theorem gw_1303 : Cond.code ⟨"BellTowerPlanner$Chimes", "firstSoundFrom", "(I)I"⟩ prog_3_method_8_code 3 (some .int) ∈ gt := gt_in (List.mem_of_getElem? (i := 1303) (by decide +kernel)) (by decide +kernel)
theorem gw_1304 : Cond.methodLink "BellTowerPlanner$Chimes" 64 ⟨"BellTowerPlanner$Chimes", "soundingSet", "(I)I"⟩ ∈ gt := gt_in (List.mem_of_getElem? (i := 1304) (by decide +kernel)) (by decide +kernel)
theorem gw_1312 : Cond.methodLink "BellTowerPlanner" 292 ⟨"BellTowerPlanner$Chimes", "minuteOfMostSounds", "()I"⟩ ∈ gt := gt_in (List.mem_of_getElem? (i := 1312) (by decide +kernel)) (by decide +kernel)
theorem gw_1313 : Cond.instanceMethod ⟨"BellTowerPlanner$Chimes", "minuteOfMostSounds", "()I"⟩ ∈ gt := gt_in (List.mem_of_getElem? (i := 1313) (by decide +kernel)) (by decide +kernel)
theorem gw_1314 : Cond.selects "BellTowerPlanner$Chimes" ⟨"BellTowerPlanner$Chimes", "minuteOfMostSounds", "()I"⟩ ⟨"BellTowerPlanner$Chimes", "minuteOfMostSounds", "()I"⟩ ∈ gt := gt_in (List.mem_of_getElem? (i := 1314) (by decide +kernel)) (by decide +kernel)
theorem gw_1315 : Cond.code ⟨"BellTowerPlanner$Chimes", "minuteOfMostSounds", "()I"⟩ prog_3_method_9_code 5 (some .int) ∈ gt := gt_in (List.mem_of_getElem? (i := 1315) (by decide +kernel)) (by decide +kernel)
theorem gw_1316 : Cond.methodLink "BellTowerPlanner$Chimes" 68 ⟨"java/lang/Integer", "bitCount", "(I)I"⟩ ∈ gt := gt_in (List.mem_of_getElem? (i := 1316) (by decide +kernel)) (by decide +kernel)
theorem gw_1331 : Cond.methodLink "BellTowerPlanner" 295 ⟨"BellTowerPlanner$Chimes", "delayToLoudMinutes", "(I)I"⟩ ∈ gt := gt_in (List.mem_of_getElem? (i := 1331) (by decide +kernel)) (by decide +kernel)
theorem gw_1332 : Cond.instanceMethod ⟨"BellTowerPlanner$Chimes", "delayToLoudMinutes", "(I)I"⟩ ∈ gt := gt_in (List.mem_of_getElem? (i := 1332) (by decide +kernel)) (by decide +kernel)
theorem gw_1333 : Cond.selects "BellTowerPlanner$Chimes" ⟨"BellTowerPlanner$Chimes", "delayToLoudMinutes", "(I)I"⟩ ⟨"BellTowerPlanner$Chimes", "delayToLoudMinutes", "(I)I"⟩ ∈ gt := gt_in (List.mem_of_getElem? (i := 1333) (by decide +kernel)) (by decide +kernel)
theorem gw_1334 : Cond.code ⟨"BellTowerPlanner$Chimes", "delayToLoudMinutes", "(I)I"⟩ prog_3_method_11_code 6 (some .int) ∈ gt := gt_in (List.mem_of_getElem? (i := 1334) (by decide +kernel)) (by decide +kernel)
theorem gw_1335 : Cond.methodLink "BellTowerPlanner$Chimes" 79 ⟨"BellTowerPlanner$Chimes", "firstLoudChime", "(II)I"⟩ ∈ gt := gt_in (List.mem_of_getElem? (i := 1335) (by decide +kernel)) (by decide +kernel)
theorem gw_1337 : Cond.instanceMethod ⟨"BellTowerPlanner$Chimes", "firstLoudChime", "(II)I"⟩ ∈ gt := gt_in (List.mem_of_getElem? (i := 1337) (by decide +kernel)) (by decide +kernel)
theorem gw_1338 : Cond.code ⟨"BellTowerPlanner$Chimes", "firstLoudChime", "(II)I"⟩ prog_3_method_12_code 5 (some .int) ∈ gt := gt_in (List.mem_of_getElem? (i := 1338) (by decide +kernel)) (by decide +kernel)
theorem gw_1346 : Cond.methodLink "BellTowerPlanner" 298 ⟨"BellTowerPlanner$Ropes", "lengthFor", "(I)I"⟩ ∈ gt := gt_in (List.mem_of_getElem? (i := 1346) (by decide +kernel)) (by decide +kernel)
theorem gw_1347 : Cond.instanceMethod ⟨"BellTowerPlanner$Ropes", "lengthFor", "(I)I"⟩ ∈ gt := gt_in (List.mem_of_getElem? (i := 1347) (by decide +kernel)) (by decide +kernel)
theorem gw_1348 : Cond.selects "BellTowerPlanner$Ropes" ⟨"BellTowerPlanner$Ropes", "lengthFor", "(I)I"⟩ ⟨"BellTowerPlanner$Ropes", "lengthFor", "(I)I"⟩ ∈ gt := gt_in (List.mem_of_getElem? (i := 1348) (by decide +kernel)) (by decide +kernel)
theorem gw_1349 : Cond.code ⟨"BellTowerPlanner$Ropes", "lengthFor", "(I)I"⟩ prog_7_method_2_code 3 (some .int) ∈ gt := gt_in (List.mem_of_getElem? (i := 1349) (by decide +kernel)) (by decide +kernel)
theorem gw_1350 : Cond.methodLink "BellTowerPlanner$Ropes" 46 ⟨"java/lang/Math", "abs", "(I)I"⟩ ∈ gt := gt_in (List.mem_of_getElem? (i := 1350) (by decide +kernel)) (by decide +kernel)
theorem gw_1358 : Cond.methodLink "BellTowerPlanner" 301 ⟨"BellTowerPlanner$Ropes", "findCutting", "()Z"⟩ ∈ gt := gt_in (List.mem_of_getElem? (i := 1358) (by decide +kernel)) (by decide +kernel)
theorem gw_1359 : Cond.instanceMethod ⟨"BellTowerPlanner$Ropes", "findCutting", "()Z"⟩ ∈ gt := gt_in (List.mem_of_getElem? (i := 1359) (by decide +kernel)) (by decide +kernel)
theorem gw_1360 : Cond.selects "BellTowerPlanner$Ropes" ⟨"BellTowerPlanner$Ropes", "findCutting", "()Z"⟩ ⟨"BellTowerPlanner$Ropes", "findCutting", "()Z"⟩ ∈ gt := gt_in (List.mem_of_getElem? (i := 1360) (by decide +kernel)) (by decide +kernel)
theorem gw_1361 : Cond.code ⟨"BellTowerPlanner$Ropes", "findCutting", "()Z"⟩ prog_7_method_3_code 2 (some .boolean) ∈ gt := gt_in (List.mem_of_getElem? (i := 1361) (by decide +kernel)) (by decide +kernel)
theorem gw_1362 : Cond.methodLink "BellTowerPlanner$Ropes" 52 ⟨"BellTowerPlanner$Ropes", "measureSets", "()V"⟩ ∈ gt := gt_in (List.mem_of_getElem? (i := 1362) (by decide +kernel)) (by decide +kernel)
theorem gw_1364 : Cond.instanceMethod ⟨"BellTowerPlanner$Ropes", "measureSets", "()V"⟩ ∈ gt := gt_in (List.mem_of_getElem? (i := 1364) (by decide +kernel)) (by decide +kernel)
theorem gw_1365 : Cond.code ⟨"BellTowerPlanner$Ropes", "measureSets", "()V"⟩ prog_7_method_4_code 6 none ∈ gt := gt_in (List.mem_of_getElem? (i := 1365) (by decide +kernel)) (by decide +kernel)
theorem gw_1366 : Cond.methodLink "BellTowerPlanner$Ropes" 68 ⟨"BellTowerPlanner$BellState", "hangs", "()Z"⟩ ∈ gt := gt_in (List.mem_of_getElem? (i := 1366) (by decide +kernel)) (by decide +kernel)
theorem gw_1367 : Cond.methodLink "BellTowerPlanner$Ropes" 72 ⟨"BellTowerPlanner$Ropes", "lengthFor", "(I)I"⟩ ∈ gt := gt_in (List.mem_of_getElem? (i := 1367) (by decide +kernel)) (by decide +kernel)
theorem gw_1368 : Cond.methodLink "BellTowerPlanner$Ropes" 75 ⟨"BellTowerPlanner$Ropes", "digitPlace", "(I)I"⟩ ∈ gt := gt_in (List.mem_of_getElem? (i := 1368) (by decide +kernel)) (by decide +kernel)
theorem gw_1369 : Cond.static ⟨"BellTowerPlanner$Ropes", "digitPlace", "(I)I"⟩ ∈ gt := gt_in (List.mem_of_getElem? (i := 1369) (by decide +kernel)) (by decide +kernel)
theorem gw_1370 : Cond.code ⟨"BellTowerPlanner$Ropes", "digitPlace", "(I)I"⟩ prog_7_method_5_code 1 (some .int) ∈ gt := gt_in (List.mem_of_getElem? (i := 1370) (by decide +kernel)) (by decide +kernel)
theorem gw_1371 : Cond.constant "BellTowerPlanner$Ropes" 55 (2147483647) ∈ gt := gt_in (List.mem_of_getElem? (i := 1371) (by decide +kernel)) (by decide +kernel)
theorem gw_1372 : Cond.methodLink "BellTowerPlanner$Ropes" 59 ⟨"BellTowerPlanner$Ropes", "offerPiece", "(I)V"⟩ ∈ gt := gt_in (List.mem_of_getElem? (i := 1372) (by decide +kernel)) (by decide +kernel)
theorem gw_1374 : Cond.instanceMethod ⟨"BellTowerPlanner$Ropes", "offerPiece", "(I)V"⟩ ∈ gt := gt_in (List.mem_of_getElem? (i := 1374) (by decide +kernel)) (by decide +kernel)
theorem gw_1375 : Cond.code ⟨"BellTowerPlanner$Ropes", "offerPiece", "(I)V"⟩ prog_7_method_6_code 6 none ∈ gt := gt_in (List.mem_of_getElem? (i := 1375) (by decide +kernel)) (by decide +kernel)
theorem gw_1376 : Cond.constant "BellTowerPlanner$Ropes" 81 (16777216) ∈ gt := gt_in (List.mem_of_getElem? (i := 1376) (by decide +kernel)) (by decide +kernel)
theorem gw_1377 : Cond.methodLink "BellTowerPlanner$Ropes" 82 ⟨"java/lang/Math", "min", "(II)I"⟩ ∈ gt := gt_in (List.mem_of_getElem? (i := 1377) (by decide +kernel)) (by decide +kernel)
theorem gw_1378 : Cond.methodLink "BellTowerPlanner" 304 ⟨"BellTowerPlanner$Ropes", "countUsedPieces", "()I"⟩ ∈ gt := gt_in (List.mem_of_getElem? (i := 1378) (by decide +kernel)) (by decide +kernel)
theorem gw_1379 : Cond.instanceMethod ⟨"BellTowerPlanner$Ropes", "countUsedPieces", "()I"⟩ ∈ gt := gt_in (List.mem_of_getElem? (i := 1379) (by decide +kernel)) (by decide +kernel)
theorem gw_1380 : Cond.selects "BellTowerPlanner$Ropes" ⟨"BellTowerPlanner$Ropes", "countUsedPieces", "()I"⟩ ⟨"BellTowerPlanner$Ropes", "countUsedPieces", "()I"⟩ ∈ gt := gt_in (List.mem_of_getElem? (i := 1380) (by decide +kernel)) (by decide +kernel)
theorem gw_1381 : Cond.code ⟨"BellTowerPlanner$Ropes", "countUsedPieces", "()I"⟩ prog_7_method_7_code 1 (some .int) ∈ gt := gt_in (List.mem_of_getElem? (i := 1381) (by decide +kernel)) (by decide +kernel)
theorem gw_1389 : Cond.methodLink "BellTowerPlanner" 307 ⟨"BellTowerPlanner$Ropes", "pieceFor", "(I)I"⟩ ∈ gt := gt_in (List.mem_of_getElem? (i := 1389) (by decide +kernel)) (by decide +kernel)
theorem gw_1390 : Cond.instanceMethod ⟨"BellTowerPlanner$Ropes", "pieceFor", "(I)I"⟩ ∈ gt := gt_in (List.mem_of_getElem? (i := 1390) (by decide +kernel)) (by decide +kernel)
theorem gw_1391 : Cond.selects "BellTowerPlanner$Ropes" ⟨"BellTowerPlanner$Ropes", "pieceFor", "(I)I"⟩ ⟨"BellTowerPlanner$Ropes", "pieceFor", "(I)I"⟩ ∈ gt := gt_in (List.mem_of_getElem? (i := 1391) (by decide +kernel)) (by decide +kernel)
theorem gw_1392 : Cond.code ⟨"BellTowerPlanner$Ropes", "pieceFor", "(I)I"⟩ prog_7_method_8_code 2 (some .int) ∈ gt := gt_in (List.mem_of_getElem? (i := 1392) (by decide +kernel)) (by decide +kernel)
theorem gw_1400 : Cond.methodLink "BellTowerPlanner" 310 ⟨"BellTowerPlanner$Ropes", "lengthLeft", "()I"⟩ ∈ gt := gt_in (List.mem_of_getElem? (i := 1400) (by decide +kernel)) (by decide +kernel)
theorem gw_1401 : Cond.instanceMethod ⟨"BellTowerPlanner$Ropes", "lengthLeft", "()I"⟩ ∈ gt := gt_in (List.mem_of_getElem? (i := 1401) (by decide +kernel)) (by decide +kernel)
theorem gw_1402 : Cond.selects "BellTowerPlanner$Ropes" ⟨"BellTowerPlanner$Ropes", "lengthLeft", "()I"⟩ ⟨"BellTowerPlanner$Ropes", "lengthLeft", "()I"⟩ ∈ gt := gt_in (List.mem_of_getElem? (i := 1402) (by decide +kernel)) (by decide +kernel)
theorem gw_1403 : Cond.code ⟨"BellTowerPlanner$Ropes", "lengthLeft", "()I"⟩ prog_7_method_9_code 4 (some .int) ∈ gt := gt_in (List.mem_of_getElem? (i := 1403) (by decide +kernel)) (by decide +kernel)
theorem gw_1404 : Cond.methodLink "BellTowerPlanner$Ropes" 86 ⟨"BellTowerPlanner$Ropes", "pieceFor", "(I)I"⟩ ∈ gt := gt_in (List.mem_of_getElem? (i := 1404) (by decide +kernel)) (by decide +kernel)
theorem gw_1412 : Cond.methodLink "BellTowerPlanner" 313 ⟨"BellTowerPlanner$Ropes", "leastMissingLength", "()I"⟩ ∈ gt := gt_in (List.mem_of_getElem? (i := 1412) (by decide +kernel)) (by decide +kernel)
theorem gw_1413 : Cond.instanceMethod ⟨"BellTowerPlanner$Ropes", "leastMissingLength", "()I"⟩ ∈ gt := gt_in (List.mem_of_getElem? (i := 1413) (by decide +kernel)) (by decide +kernel)
theorem gw_1414 : Cond.selects "BellTowerPlanner$Ropes" ⟨"BellTowerPlanner$Ropes", "leastMissingLength", "()I"⟩ ⟨"BellTowerPlanner$Ropes", "leastMissingLength", "()I"⟩ ∈ gt := gt_in (List.mem_of_getElem? (i := 1414) (by decide +kernel)) (by decide +kernel)
theorem gw_1415 : Cond.code ⟨"BellTowerPlanner$Ropes", "leastMissingLength", "()I"⟩ prog_7_method_10_code 3 (some .int) ∈ gt := gt_in (List.mem_of_getElem? (i := 1415) (by decide +kernel)) (by decide +kernel)
theorem gw_1423 : Cond.methodLink "BellTowerPlanner" 319 ⟨"BellTowerPlanner$History", "stepBack", "([LBellTowerPlanner$BellState;)V"⟩ ∈ gt := gt_in (List.mem_of_getElem? (i := 1423) (by decide +kernel)) (by decide +kernel)
theorem gw_1424 : Cond.instanceMethod ⟨"BellTowerPlanner$History", "stepBack", "([LBellTowerPlanner$BellState;)V"⟩ ∈ gt := gt_in (List.mem_of_getElem? (i := 1424) (by decide +kernel)) (by decide +kernel)
theorem gw_1425 : Cond.selects "BellTowerPlanner$History" ⟨"BellTowerPlanner$History", "stepBack", "([LBellTowerPlanner$BellState;)V"⟩ ⟨"BellTowerPlanner$History", "stepBack", "([LBellTowerPlanner$BellState;)V"⟩ ∈ gt := gt_in (List.mem_of_getElem? (i := 1425) (by decide +kernel)) (by decide +kernel)
theorem gw_1426 : Cond.code ⟨"BellTowerPlanner$History", "stepBack", "([LBellTowerPlanner$BellState;)V"⟩ prog_5_method_4_code 4 none ∈ gt := gt_in (List.mem_of_getElem? (i := 1426) (by decide +kernel)) (by decide +kernel)
theorem gw_1433 : Cond.fieldLink "BellTowerPlannerModel" 7 "BellTowerPlannerModel" "state" "[I" ∈ gt := gt_in (List.mem_of_getElem? (i := 1433) (by decide +kernel)) (by decide +kernel)
theorem gw_1434 : Cond.fieldLink "BellTowerPlannerModel" 13 "BellTowerPlannerModel" "past" "[I" ∈ gt := gt_in (List.mem_of_getElem? (i := 1434) (by decide +kernel)) (by decide +kernel)
theorem gw_1435 : Cond.fieldLink "BellTowerPlannerModel" 218 "BellTowerPlannerModel" "actions" "I" ∈ gt := gt_in (List.mem_of_getElem? (i := 1435) (by decide +kernel)) (by decide +kernel)
theorem gw_1436 : Cond.fieldLink "BellTowerPlannerModel" 80 "BellTowerPlannerModel" "isLoaded" "Z" ∈ gt := gt_in (List.mem_of_getElem? (i := 1436) (by decide +kernel)) (by decide +kernel)
theorem gw_1437 : Cond.fieldLink "BellTowerPlannerModel" 77 "BellTowerPlannerModel" "thrown" "I" ∈ gt := gt_in (List.mem_of_getElem? (i := 1437) (by decide +kernel)) (by decide +kernel)
theorem gw_1438 : Cond.fieldLink "BellTowerPlannerModel" 209 "BellTowerPlannerModel" "beams" "I" ∈ gt := gt_in (List.mem_of_getElem? (i := 1438) (by decide +kernel)) (by decide +kernel)
theorem gw_1439 : Cond.fieldLink "BellTowerPlannerModel" 16 "BellTowerPlannerModel" "height" "[I" ∈ gt := gt_in (List.mem_of_getElem? (i := 1439) (by decide +kernel)) (by decide +kernel)
theorem gw_1440 : Cond.fieldLink "BellTowerPlannerModel" 19 "BellTowerPlannerModel" "limit" "[I" ∈ gt := gt_in (List.mem_of_getElem? (i := 1440) (by decide +kernel)) (by decide +kernel)
theorem gw_1441 : Cond.fieldLink "BellTowerPlannerModel" 206 "BellTowerPlannerModel" "bells" "I" ∈ gt := gt_in (List.mem_of_getElem? (i := 1441) (by decide +kernel)) (by decide +kernel)
theorem gw_1442 : Cond.fieldLink "BellTowerPlannerModel" 22 "BellTowerPlannerModel" "weight" "[I" ∈ gt := gt_in (List.mem_of_getElem? (i := 1442) (by decide +kernel)) (by decide +kernel)
theorem gw_1443 : Cond.fieldLink "BellTowerPlannerModel" 25 "BellTowerPlannerModel" "radius" "[I" ∈ gt := gt_in (List.mem_of_getElem? (i := 1443) (by decide +kernel)) (by decide +kernel)
theorem gw_1444 : Cond.fieldLink "BellTowerPlannerModel" 28 "BellTowerPlannerModel" "period" "[I" ∈ gt := gt_in (List.mem_of_getElem? (i := 1444) (by decide +kernel)) (by decide +kernel)
theorem gw_1445 : Cond.fieldLink "BellTowerPlannerModel" 212 "BellTowerPlannerModel" "quiets" "I" ∈ gt := gt_in (List.mem_of_getElem? (i := 1445) (by decide +kernel)) (by decide +kernel)
theorem gw_1446 : Cond.fieldLink "BellTowerPlannerModel" 31 "BellTowerPlannerModel" "quietFrom" "[I" ∈ gt := gt_in (List.mem_of_getElem? (i := 1446) (by decide +kernel)) (by decide +kernel)
theorem gw_1447 : Cond.fieldLink "BellTowerPlannerModel" 34 "BellTowerPlannerModel" "quietTo" "[I" ∈ gt := gt_in (List.mem_of_getElem? (i := 1447) (by decide +kernel)) (by decide +kernel)
theorem gw_1448 : Cond.fieldLink "BellTowerPlannerModel" 215 "BellTowerPlannerModel" "ropes" "I" ∈ gt := gt_in (List.mem_of_getElem? (i := 1448) (by decide +kernel)) (by decide +kernel)
theorem gw_1449 : Cond.fieldLink "BellTowerPlannerModel" 37 "BellTowerPlannerModel" "rope" "[I" ∈ gt := gt_in (List.mem_of_getElem? (i := 1449) (by decide +kernel)) (by decide +kernel)
theorem gw_1450 : Cond.fieldLink "BellTowerPlannerModel" 40 "BellTowerPlannerModel" "buffer" "[I" ∈ gt := gt_in (List.mem_of_getElem? (i := 1450) (by decide +kernel)) (by decide +kernel)
theorem gw_1451 : Cond.fieldLink "BellTowerPlannerModel" 84 "BellTowerPlannerModel" "buffered" "I" ∈ gt := gt_in (List.mem_of_getElem? (i := 1451) (by decide +kernel)) (by decide +kernel)
theorem gw_1452 : Cond.fieldLink "BellTowerPlannerModel" 95 "BellTowerPlannerModel" "textSize" "I" ∈ gt := gt_in (List.mem_of_getElem? (i := 1452) (by decide +kernel)) (by decide +kernel)
theorem gw_1453 : Cond.fieldLink "BellTowerPlannerModel" 117 "BellTowerPlannerModel" "at" "I" ∈ gt := gt_in (List.mem_of_getElem? (i := 1453) (by decide +kernel)) (by decide +kernel)
theorem gw_1454 : Cond.fieldLink "BellTowerPlannerModel" 120 "BellTowerPlannerModel" "start" "I" ∈ gt := gt_in (List.mem_of_getElem? (i := 1454) (by decide +kernel)) (by decide +kernel)
theorem gw_1455 : Cond.fieldLink "BellTowerPlannerModel" 123 "BellTowerPlannerModel" "token" "I" ∈ gt := gt_in (List.mem_of_getElem? (i := 1455) (by decide +kernel)) (by decide +kernel)
theorem gw_1456 : Cond.fieldLink "BellTowerPlannerModel" 133 "BellTowerPlannerModel" "number" "I" ∈ gt := gt_in (List.mem_of_getElem? (i := 1456) (by decide +kernel)) (by decide +kernel)
theorem gw_1457 : Cond.fieldLink "BellTowerPlannerModel" 110 "BellTowerPlannerModel" "errorCode" "I" ∈ gt := gt_in (List.mem_of_getElem? (i := 1457) (by decide +kernel)) (by decide +kernel)
theorem gw_1458 : Cond.fieldLink "BellTowerPlannerModel" 43 "BellTowerPlannerModel" "errorAt" "I" ∈ gt := gt_in (List.mem_of_getElem? (i := 1458) (by decide +kernel)) (by decide +kernel)
theorem gw_1459 : Cond.fieldLink "BellTowerPlannerModel" 47 "BellTowerPlannerModel" "draft" "[I" ∈ gt := gt_in (List.mem_of_getElem? (i := 1459) (by decide +kernel)) (by decide +kernel)
theorem gw_1460 : Cond.fieldLink "BellTowerPlannerModel" 156 "BellTowerPlannerModel" "draftBeams" "I" ∈ gt := gt_in (List.mem_of_getElem? (i := 1460) (by decide +kernel)) (by decide +kernel)
theorem gw_1461 : Cond.fieldLink "BellTowerPlannerModel" 177 "BellTowerPlannerModel" "draftBells" "I" ∈ gt := gt_in (List.mem_of_getElem? (i := 1461) (by decide +kernel)) (by decide +kernel)
theorem gw_1462 : Cond.fieldLink "BellTowerPlannerModel" 182 "BellTowerPlannerModel" "draftQuiets" "I" ∈ gt := gt_in (List.mem_of_getElem? (i := 1462) (by decide +kernel)) (by decide +kernel)
theorem gw_1463 : Cond.fieldLink "BellTowerPlannerModel" 187 "BellTowerPlannerModel" "draftRopes" "I" ∈ gt := gt_in (List.mem_of_getElem? (i := 1463) (by decide +kernel)) (by decide +kernel)
theorem gw_1464 : Cond.fieldLink "BellTowerPlannerModel" 270 "BellTowerPlannerModel" "mirrored" "I" ∈ gt := gt_in (List.mem_of_getElem? (i := 1464) (by decide +kernel)) (by decide +kernel)
theorem gw_1465 : Cond.fieldLink "BellTowerPlannerModel" 50 "BellTowerPlannerModel" "place" "[I" ∈ gt := gt_in (List.mem_of_getElem? (i := 1465) (by decide +kernel)) (by decide +kernel)
theorem gw_1466 : Cond.fieldLink "BellTowerPlannerModel" 53 "BellTowerPlannerModel" "placeBeam" "[I" ∈ gt := gt_in (List.mem_of_getElem? (i := 1466) (by decide +kernel)) (by decide +kernel)
theorem gw_1467 : Cond.fieldLink "BellTowerPlannerModel" 56 "BellTowerPlannerModel" "digit" "[I" ∈ gt := gt_in (List.mem_of_getElem? (i := 1467) (by decide +kernel)) (by decide +kernel)
theorem gw_1468 : Cond.fieldLink "BellTowerPlannerModel" 59 "BellTowerPlannerModel" "toGoal" "[I" ∈ gt := gt_in (List.mem_of_getElem? (i := 1468) (by decide +kernel)) (by decide +kernel)
theorem gw_1469 : Cond.fieldLink "BellTowerPlannerModel" 62 "BellTowerPlannerModel" "queue" "[I" ∈ gt := gt_in (List.mem_of_getElem? (i := 1469) (by decide +kernel)) (by decide +kernel)
theorem gw_1470 : Cond.fieldLink "BellTowerPlannerModel" 65 "BellTowerPlannerModel" "fewest" "[I" ∈ gt := gt_in (List.mem_of_getElem? (i := 1470) (by decide +kernel)) (by decide +kernel)
theorem gw_1471 : Cond.fieldLink "BellTowerPlannerModel" 68 "BellTowerPlannerModel" "used" "[I" ∈ gt := gt_in (List.mem_of_getElem? (i := 1471) (by decide +kernel)) (by decide +kernel)
theorem gw_1472 : Cond.fieldLink "BellTowerPlannerModel" 71 "BellTowerPlannerModel" "cut" "[I" ∈ gt := gt_in (List.mem_of_getElem? (i := 1472) (by decide +kernel)) (by decide +kernel)
theorem gw_1473 : Cond.fieldLink "BellTowerPlannerModel" 74 "BellTowerPlannerModel" "sums" "[I" ∈ gt := gt_in (List.mem_of_getElem? (i := 1473) (by decide +kernel)) (by decide +kernel)
theorem gw_1474 : Cond.laysFinal "BellTowerPlannerModel" "BellTowerPlannerModel" "state" "[I" ∈ gt := gt_in (List.mem_of_getElem? (i := 1474) (by decide +kernel)) (by decide +kernel)
theorem gw_1476 : Cond.laysFinal "BellTowerPlannerModel" "BellTowerPlannerModel" "past" "[I" ∈ gt := gt_in (List.mem_of_getElem? (i := 1476) (by decide +kernel)) (by decide +kernel)
theorem gw_1478 : Cond.lays "BellTowerPlannerModel" "BellTowerPlannerModel" "actions" "I" ∈ gt := gt_in (List.mem_of_getElem? (i := 1478) (by decide +kernel)) (by decide +kernel)
theorem gw_1480 : Cond.lays "BellTowerPlannerModel" "BellTowerPlannerModel" "isLoaded" "Z" ∈ gt := gt_in (List.mem_of_getElem? (i := 1480) (by decide +kernel)) (by decide +kernel)
theorem gw_1482 : Cond.lays "BellTowerPlannerModel" "BellTowerPlannerModel" "thrown" "I" ∈ gt := gt_in (List.mem_of_getElem? (i := 1482) (by decide +kernel)) (by decide +kernel)
theorem gw_1484 : Cond.lays "BellTowerPlannerModel" "BellTowerPlannerModel" "beams" "I" ∈ gt := gt_in (List.mem_of_getElem? (i := 1484) (by decide +kernel)) (by decide +kernel)
theorem gw_1486 : Cond.laysFinal "BellTowerPlannerModel" "BellTowerPlannerModel" "height" "[I" ∈ gt := gt_in (List.mem_of_getElem? (i := 1486) (by decide +kernel)) (by decide +kernel)
theorem gw_1488 : Cond.laysFinal "BellTowerPlannerModel" "BellTowerPlannerModel" "limit" "[I" ∈ gt := gt_in (List.mem_of_getElem? (i := 1488) (by decide +kernel)) (by decide +kernel)
theorem gw_1490 : Cond.lays "BellTowerPlannerModel" "BellTowerPlannerModel" "bells" "I" ∈ gt := gt_in (List.mem_of_getElem? (i := 1490) (by decide +kernel)) (by decide +kernel)
theorem gw_1492 : Cond.laysFinal "BellTowerPlannerModel" "BellTowerPlannerModel" "weight" "[I" ∈ gt := gt_in (List.mem_of_getElem? (i := 1492) (by decide +kernel)) (by decide +kernel)
theorem gw_1494 : Cond.laysFinal "BellTowerPlannerModel" "BellTowerPlannerModel" "radius" "[I" ∈ gt := gt_in (List.mem_of_getElem? (i := 1494) (by decide +kernel)) (by decide +kernel)
theorem gw_1496 : Cond.laysFinal "BellTowerPlannerModel" "BellTowerPlannerModel" "period" "[I" ∈ gt := gt_in (List.mem_of_getElem? (i := 1496) (by decide +kernel)) (by decide +kernel)
theorem gw_1498 : Cond.lays "BellTowerPlannerModel" "BellTowerPlannerModel" "quiets" "I" ∈ gt := gt_in (List.mem_of_getElem? (i := 1498) (by decide +kernel)) (by decide +kernel)
theorem gw_1500 : Cond.laysFinal "BellTowerPlannerModel" "BellTowerPlannerModel" "quietFrom" "[I" ∈ gt := gt_in (List.mem_of_getElem? (i := 1500) (by decide +kernel)) (by decide +kernel)
theorem gw_1502 : Cond.laysFinal "BellTowerPlannerModel" "BellTowerPlannerModel" "quietTo" "[I" ∈ gt := gt_in (List.mem_of_getElem? (i := 1502) (by decide +kernel)) (by decide +kernel)
theorem gw_1504 : Cond.lays "BellTowerPlannerModel" "BellTowerPlannerModel" "ropes" "I" ∈ gt := gt_in (List.mem_of_getElem? (i := 1504) (by decide +kernel)) (by decide +kernel)
theorem gw_1506 : Cond.laysFinal "BellTowerPlannerModel" "BellTowerPlannerModel" "rope" "[I" ∈ gt := gt_in (List.mem_of_getElem? (i := 1506) (by decide +kernel)) (by decide +kernel)
theorem gw_1508 : Cond.laysFinal "BellTowerPlannerModel" "BellTowerPlannerModel" "buffer" "[I" ∈ gt := gt_in (List.mem_of_getElem? (i := 1508) (by decide +kernel)) (by decide +kernel)
theorem gw_1510 : Cond.lays "BellTowerPlannerModel" "BellTowerPlannerModel" "buffered" "I" ∈ gt := gt_in (List.mem_of_getElem? (i := 1510) (by decide +kernel)) (by decide +kernel)
theorem gw_1512 : Cond.lays "BellTowerPlannerModel" "BellTowerPlannerModel" "textSize" "I" ∈ gt := gt_in (List.mem_of_getElem? (i := 1512) (by decide +kernel)) (by decide +kernel)
theorem gw_1514 : Cond.lays "BellTowerPlannerModel" "BellTowerPlannerModel" "at" "I" ∈ gt := gt_in (List.mem_of_getElem? (i := 1514) (by decide +kernel)) (by decide +kernel)
theorem gw_1516 : Cond.lays "BellTowerPlannerModel" "BellTowerPlannerModel" "start" "I" ∈ gt := gt_in (List.mem_of_getElem? (i := 1516) (by decide +kernel)) (by decide +kernel)
theorem gw_1518 : Cond.lays "BellTowerPlannerModel" "BellTowerPlannerModel" "token" "I" ∈ gt := gt_in (List.mem_of_getElem? (i := 1518) (by decide +kernel)) (by decide +kernel)
theorem gw_1520 : Cond.lays "BellTowerPlannerModel" "BellTowerPlannerModel" "number" "I" ∈ gt := gt_in (List.mem_of_getElem? (i := 1520) (by decide +kernel)) (by decide +kernel)
theorem gw_1522 : Cond.lays "BellTowerPlannerModel" "BellTowerPlannerModel" "errorCode" "I" ∈ gt := gt_in (List.mem_of_getElem? (i := 1522) (by decide +kernel)) (by decide +kernel)
theorem gw_1524 : Cond.lays "BellTowerPlannerModel" "BellTowerPlannerModel" "errorAt" "I" ∈ gt := gt_in (List.mem_of_getElem? (i := 1524) (by decide +kernel)) (by decide +kernel)
theorem gw_1526 : Cond.laysFinal "BellTowerPlannerModel" "BellTowerPlannerModel" "draft" "[I" ∈ gt := gt_in (List.mem_of_getElem? (i := 1526) (by decide +kernel)) (by decide +kernel)
theorem gw_1528 : Cond.lays "BellTowerPlannerModel" "BellTowerPlannerModel" "draftBeams" "I" ∈ gt := gt_in (List.mem_of_getElem? (i := 1528) (by decide +kernel)) (by decide +kernel)
theorem gw_1530 : Cond.lays "BellTowerPlannerModel" "BellTowerPlannerModel" "draftBells" "I" ∈ gt := gt_in (List.mem_of_getElem? (i := 1530) (by decide +kernel)) (by decide +kernel)
theorem gw_1532 : Cond.lays "BellTowerPlannerModel" "BellTowerPlannerModel" "draftQuiets" "I" ∈ gt := gt_in (List.mem_of_getElem? (i := 1532) (by decide +kernel)) (by decide +kernel)
theorem gw_1534 : Cond.lays "BellTowerPlannerModel" "BellTowerPlannerModel" "draftRopes" "I" ∈ gt := gt_in (List.mem_of_getElem? (i := 1534) (by decide +kernel)) (by decide +kernel)
theorem gw_1536 : Cond.lays "BellTowerPlannerModel" "BellTowerPlannerModel" "mirrored" "I" ∈ gt := gt_in (List.mem_of_getElem? (i := 1536) (by decide +kernel)) (by decide +kernel)
theorem gw_1538 : Cond.laysFinal "BellTowerPlannerModel" "BellTowerPlannerModel" "place" "[I" ∈ gt := gt_in (List.mem_of_getElem? (i := 1538) (by decide +kernel)) (by decide +kernel)
theorem gw_1540 : Cond.laysFinal "BellTowerPlannerModel" "BellTowerPlannerModel" "placeBeam" "[I" ∈ gt := gt_in (List.mem_of_getElem? (i := 1540) (by decide +kernel)) (by decide +kernel)
theorem gw_1542 : Cond.laysFinal "BellTowerPlannerModel" "BellTowerPlannerModel" "digit" "[I" ∈ gt := gt_in (List.mem_of_getElem? (i := 1542) (by decide +kernel)) (by decide +kernel)
theorem gw_1544 : Cond.laysFinal "BellTowerPlannerModel" "BellTowerPlannerModel" "toGoal" "[I" ∈ gt := gt_in (List.mem_of_getElem? (i := 1544) (by decide +kernel)) (by decide +kernel)
theorem gw_1546 : Cond.laysFinal "BellTowerPlannerModel" "BellTowerPlannerModel" "queue" "[I" ∈ gt := gt_in (List.mem_of_getElem? (i := 1546) (by decide +kernel)) (by decide +kernel)
theorem gw_1548 : Cond.laysFinal "BellTowerPlannerModel" "BellTowerPlannerModel" "fewest" "[I" ∈ gt := gt_in (List.mem_of_getElem? (i := 1548) (by decide +kernel)) (by decide +kernel)
theorem gw_1550 : Cond.laysFinal "BellTowerPlannerModel" "BellTowerPlannerModel" "used" "[I" ∈ gt := gt_in (List.mem_of_getElem? (i := 1550) (by decide +kernel)) (by decide +kernel)
theorem gw_1552 : Cond.laysFinal "BellTowerPlannerModel" "BellTowerPlannerModel" "cut" "[I" ∈ gt := gt_in (List.mem_of_getElem? (i := 1552) (by decide +kernel)) (by decide +kernel)
theorem gw_1554 : Cond.laysFinal "BellTowerPlannerModel" "BellTowerPlannerModel" "sums" "[I" ∈ gt := gt_in (List.mem_of_getElem? (i := 1554) (by decide +kernel)) (by decide +kernel)
theorem gw_1565 : Cond.methodLink "BellTowerPlannerModel" 87 ⟨"BellTowerPlannerModel", "put", "(I)V"⟩ ∈ gt := gt_in (List.mem_of_getElem? (i := 1565) (by decide +kernel)) (by decide +kernel)
theorem gw_1567 : Cond.instanceMethod ⟨"BellTowerPlannerModel", "put", "(I)V"⟩ ∈ gt := gt_in (List.mem_of_getElem? (i := 1567) (by decide +kernel)) (by decide +kernel)
theorem gw_1568 : Cond.code ⟨"BellTowerPlannerModel", "put", "(I)V"⟩ prog_12_method_8_code 3 none ∈ gt := gt_in (List.mem_of_getElem? (i := 1568) (by decide +kernel)) (by decide +kernel)
theorem gw_1573 : Cond.methodLink "BellTowerPlannerModel" 91 ⟨"BellTowerPlannerModel", "isIn", "(JJJ)Z"⟩ ∈ gt := gt_in (List.mem_of_getElem? (i := 1573) (by decide +kernel)) (by decide +kernel)
theorem gw_1574 : Cond.static ⟨"BellTowerPlannerModel", "isIn", "(JJJ)Z"⟩ ∈ gt := gt_in (List.mem_of_getElem? (i := 1574) (by decide +kernel)) (by decide +kernel)
theorem gw_1575 : Cond.code ⟨"BellTowerPlannerModel", "isIn", "(JJJ)Z"⟩ prog_12_method_3_code 6 (some .boolean) ∈ gt := gt_in (List.mem_of_getElem? (i := 1575) (by decide +kernel)) (by decide +kernel)
theorem gw_1580 : Cond.methodLink "BellTowerPlannerModel" 149 ⟨"BellTowerPlannerModel", "next", "()V"⟩ ∈ gt := gt_in (List.mem_of_getElem? (i := 1580) (by decide +kernel)) (by decide +kernel)
theorem gw_1582 : Cond.instanceMethod ⟨"BellTowerPlannerModel", "next", "()V"⟩ ∈ gt := gt_in (List.mem_of_getElem? (i := 1582) (by decide +kernel)) (by decide +kernel)
theorem gw_1583 : Cond.code ⟨"BellTowerPlannerModel", "next", "()V"⟩ prog_12_method_15_code 1 none ∈ gt := gt_in (List.mem_of_getElem? (i := 1583) (by decide +kernel)) (by decide +kernel)
theorem gw_1584 : Cond.methodLink "BellTowerPlannerModel" 113 ⟨"BellTowerPlannerModel", "isFine", "()Z"⟩ ∈ gt := gt_in (List.mem_of_getElem? (i := 1584) (by decide +kernel)) (by decide +kernel)
theorem gw_1586 : Cond.instanceMethod ⟨"BellTowerPlannerModel", "isFine", "()Z"⟩ ∈ gt := gt_in (List.mem_of_getElem? (i := 1586) (by decide +kernel)) (by decide +kernel)
theorem gw_1587 : Cond.code ⟨"BellTowerPlannerModel", "isFine", "()Z"⟩ prog_12_method_14_code 1 (some .boolean) ∈ gt := gt_in (List.mem_of_getElem? (i := 1587) (by decide +kernel)) (by decide +kernel)
theorem gw_1588 : Cond.methodLink "BellTowerPlannerModel" 98 ⟨"BellTowerPlannerModel", "byteAt", "(I)I"⟩ ∈ gt := gt_in (List.mem_of_getElem? (i := 1588) (by decide +kernel)) (by decide +kernel)
theorem gw_1590 : Cond.instanceMethod ⟨"BellTowerPlannerModel", "byteAt", "(I)I"⟩ ∈ gt := gt_in (List.mem_of_getElem? (i := 1590) (by decide +kernel)) (by decide +kernel)
theorem gw_1591 : Cond.code ⟨"BellTowerPlannerModel", "byteAt", "(I)I"⟩ prog_12_method_11_code 2 (some .int) ∈ gt := gt_in (List.mem_of_getElem? (i := 1591) (by decide +kernel)) (by decide +kernel)
theorem gw_1592 : Cond.methodLink "BellTowerPlannerModel" 126 ⟨"BellTowerPlannerModel", "isLetterAt", "(I)Z"⟩ ∈ gt := gt_in (List.mem_of_getElem? (i := 1592) (by decide +kernel)) (by decide +kernel)
theorem gw_1594 : Cond.instanceMethod ⟨"BellTowerPlannerModel", "isLetterAt", "(I)Z"⟩ ∈ gt := gt_in (List.mem_of_getElem? (i := 1594) (by decide +kernel)) (by decide +kernel)
theorem gw_1595 : Cond.code ⟨"BellTowerPlannerModel", "isLetterAt", "(I)Z"⟩ prog_12_method_12_code 2 (some .boolean) ∈ gt := gt_in (List.mem_of_getElem? (i := 1595) (by decide +kernel)) (by decide +kernel)
theorem gw_1596 : Cond.constantLong "BellTowerPlannerModel" 102 (97) ∈ gt := gt_in (List.mem_of_getElem? (i := 1596) (by decide +kernel)) (by decide +kernel)
theorem gw_1597 : Cond.constantLong "BellTowerPlannerModel" 104 (122) ∈ gt := gt_in (List.mem_of_getElem? (i := 1597) (by decide +kernel)) (by decide +kernel)
theorem gw_1598 : Cond.methodLink "BellTowerPlannerModel" 130 ⟨"BellTowerPlannerModel", "isDigitAt", "(I)Z"⟩ ∈ gt := gt_in (List.mem_of_getElem? (i := 1598) (by decide +kernel)) (by decide +kernel)
theorem gw_1600 : Cond.instanceMethod ⟨"BellTowerPlannerModel", "isDigitAt", "(I)Z"⟩ ∈ gt := gt_in (List.mem_of_getElem? (i := 1600) (by decide +kernel)) (by decide +kernel)
theorem gw_1601 : Cond.code ⟨"BellTowerPlannerModel", "isDigitAt", "(I)Z"⟩ prog_12_method_13_code 2 (some .boolean) ∈ gt := gt_in (List.mem_of_getElem? (i := 1601) (by decide +kernel)) (by decide +kernel)
theorem gw_1602 : Cond.constantLong "BellTowerPlannerModel" 106 (48) ∈ gt := gt_in (List.mem_of_getElem? (i := 1602) (by decide +kernel)) (by decide +kernel)
theorem gw_1603 : Cond.constantLong "BellTowerPlannerModel" 108 (57) ∈ gt := gt_in (List.mem_of_getElem? (i := 1603) (by decide +kernel)) (by decide +kernel)
theorem gw_1604 : Cond.methodLink "BellTowerPlannerModel" 191 ⟨"BellTowerPlannerModel", "readBeams", "()V"⟩ ∈ gt := gt_in (List.mem_of_getElem? (i := 1604) (by decide +kernel)) (by decide +kernel)
theorem gw_1606 : Cond.instanceMethod ⟨"BellTowerPlannerModel", "readBeams", "()V"⟩ ∈ gt := gt_in (List.mem_of_getElem? (i := 1606) (by decide +kernel)) (by decide +kernel)
theorem gw_1607 : Cond.code ⟨"BellTowerPlannerModel", "readBeams", "()V"⟩ prog_12_method_22_code 1 none ∈ gt := gt_in (List.mem_of_getElem? (i := 1607) (by decide +kernel)) (by decide +kernel)
theorem gw_1609 : Cond.methodLink "BellTowerPlannerModel" 161 ⟨"BellTowerPlannerModel", "isKeyword", "(Ljava/lang/String;)Z"⟩ ∈ gt := gt_in (List.mem_of_getElem? (i := 1609) (by decide +kernel)) (by decide +kernel)
theorem gw_1611 : Cond.instanceMethod ⟨"BellTowerPlannerModel", "isKeyword", "(Ljava/lang/String;)Z"⟩ ∈ gt := gt_in (List.mem_of_getElem? (i := 1611) (by decide +kernel)) (by decide +kernel)
theorem gw_1612 : Cond.code ⟨"BellTowerPlannerModel", "isKeyword", "(Ljava/lang/String;)Z"⟩ prog_12_method_17_code 3 (some .boolean) ∈ gt := gt_in (List.mem_of_getElem? (i := 1612) (by decide +kernel)) (by decide +kernel)
theorem gw_1613 : Cond.methodLink "BellTowerPlannerModel" 136 ⟨"java/lang/String", "length", "()I"⟩ ∈ gt := gt_in (List.mem_of_getElem? (i := 1613) (by decide +kernel)) (by decide +kernel)
theorem gw_1614 : Cond.methodLink "BellTowerPlannerModel" 142 ⟨"java/lang/String", "charAt", "(I)C"⟩ ∈ gt := gt_in (List.mem_of_getElem? (i := 1614) (by decide +kernel)) (by decide +kernel)
theorem gw_1615 : Cond.methodLink "BellTowerPlannerModel" 165 ⟨"BellTowerPlannerModel", "begins", "(II)Z"⟩ ∈ gt := gt_in (List.mem_of_getElem? (i := 1615) (by decide +kernel)) (by decide +kernel)
theorem gw_1617 : Cond.instanceMethod ⟨"BellTowerPlannerModel", "begins", "(II)Z"⟩ ∈ gt := gt_in (List.mem_of_getElem? (i := 1617) (by decide +kernel)) (by decide +kernel)
theorem gw_1618 : Cond.code ⟨"BellTowerPlannerModel", "begins", "(II)Z"⟩ prog_12_method_21_code 3 (some .boolean) ∈ gt := gt_in (List.mem_of_getElem? (i := 1618) (by decide +kernel)) (by decide +kernel)
theorem gw_1619 : Cond.methodLink "BellTowerPlannerModel" 146 ⟨"BellTowerPlannerModel", "fail", "(I)V"⟩ ∈ gt := gt_in (List.mem_of_getElem? (i := 1619) (by decide +kernel)) (by decide +kernel)
theorem gw_1621 : Cond.instanceMethod ⟨"BellTowerPlannerModel", "fail", "(I)V"⟩ ∈ gt := gt_in (List.mem_of_getElem? (i := 1621) (by decide +kernel)) (by decide +kernel)
theorem gw_1622 : Cond.code ⟨"BellTowerPlannerModel", "fail", "(I)V"⟩ prog_12_method_16_code 2 none ∈ gt := gt_in (List.mem_of_getElem? (i := 1622) (by decide +kernel)) (by decide +kernel)
theorem gw_1623 : Cond.methodLink "BellTowerPlannerModel" 169 ⟨"BellTowerPlannerModel", "readIn", "(II)I"⟩ ∈ gt := gt_in (List.mem_of_getElem? (i := 1623) (by decide +kernel)) (by decide +kernel)
theorem gw_1625 : Cond.instanceMethod ⟨"BellTowerPlannerModel", "readIn", "(II)I"⟩ ∈ gt := gt_in (List.mem_of_getElem? (i := 1625) (by decide +kernel)) (by decide +kernel)
theorem gw_1626 : Cond.code ⟨"BellTowerPlannerModel", "readIn", "(II)I"⟩ prog_12_method_19_code 3 (some .int) ∈ gt := gt_in (List.mem_of_getElem? (i := 1626) (by decide +kernel)) (by decide +kernel)
theorem gw_1627 : Cond.methodLink "BellTowerPlannerModel" 152 ⟨"BellTowerPlannerModel", "readAbove", "(III)I"⟩ ∈ gt := gt_in (List.mem_of_getElem? (i := 1627) (by decide +kernel)) (by decide +kernel)
theorem gw_1629 : Cond.instanceMethod ⟨"BellTowerPlannerModel", "readAbove", "(III)I"⟩ ∈ gt := gt_in (List.mem_of_getElem? (i := 1629) (by decide +kernel)) (by decide +kernel)
theorem gw_1630 : Cond.code ⟨"BellTowerPlannerModel", "readAbove", "(III)I"⟩ prog_12_method_18_code 5 (some .int) ∈ gt := gt_in (List.mem_of_getElem? (i := 1630) (by decide +kernel)) (by decide +kernel)
theorem gw_1631 : Cond.constant "BellTowerPlannerModel" 173 (50000) ∈ gt := gt_in (List.mem_of_getElem? (i := 1631) (by decide +kernel)) (by decide +kernel)
theorem gw_1632 : Cond.methodLink "BellTowerPlannerModel" 174 ⟨"BellTowerPlannerModel", "expectSemicolon", "()V"⟩ ∈ gt := gt_in (List.mem_of_getElem? (i := 1632) (by decide +kernel)) (by decide +kernel)
theorem gw_1634 : Cond.instanceMethod ⟨"BellTowerPlannerModel", "expectSemicolon", "()V"⟩ ∈ gt := gt_in (List.mem_of_getElem? (i := 1634) (by decide +kernel)) (by decide +kernel)
theorem gw_1635 : Cond.code ⟨"BellTowerPlannerModel", "expectSemicolon", "()V"⟩ prog_12_method_20_code 1 none ∈ gt := gt_in (List.mem_of_getElem? (i := 1635) (by decide +kernel)) (by decide +kernel)
theorem gw_1636 : Cond.methodLink "BellTowerPlannerModel" 194 ⟨"BellTowerPlannerModel", "readBells", "()V"⟩ ∈ gt := gt_in (List.mem_of_getElem? (i := 1636) (by decide +kernel)) (by decide +kernel)
theorem gw_1638 : Cond.instanceMethod ⟨"BellTowerPlannerModel", "readBells", "()V"⟩ ∈ gt := gt_in (List.mem_of_getElem? (i := 1638) (by decide +kernel)) (by decide +kernel)
theorem gw_1639 : Cond.code ⟨"BellTowerPlannerModel", "readBells", "()V"⟩ prog_12_method_23_code 1 none ∈ gt := gt_in (List.mem_of_getElem? (i := 1639) (by decide +kernel)) (by decide +kernel)
theorem gw_1641 : Cond.methodLink "BellTowerPlannerModel" 197 ⟨"BellTowerPlannerModel", "readQuiets", "()V"⟩ ∈ gt := gt_in (List.mem_of_getElem? (i := 1641) (by decide +kernel)) (by decide +kernel)
theorem gw_1643 : Cond.instanceMethod ⟨"BellTowerPlannerModel", "readQuiets", "()V"⟩ ∈ gt := gt_in (List.mem_of_getElem? (i := 1643) (by decide +kernel)) (by decide +kernel)
theorem gw_1644 : Cond.code ⟨"BellTowerPlannerModel", "readQuiets", "()V"⟩ prog_12_method_24_code 2 none ∈ gt := gt_in (List.mem_of_getElem? (i := 1644) (by decide +kernel)) (by decide +kernel)
theorem gw_1646 : Cond.methodLink "BellTowerPlannerModel" 200 ⟨"BellTowerPlannerModel", "readRopes", "()V"⟩ ∈ gt := gt_in (List.mem_of_getElem? (i := 1646) (by decide +kernel)) (by decide +kernel)
theorem gw_1648 : Cond.instanceMethod ⟨"BellTowerPlannerModel", "readRopes", "()V"⟩ ∈ gt := gt_in (List.mem_of_getElem? (i := 1648) (by decide +kernel)) (by decide +kernel)
theorem gw_1649 : Cond.code ⟨"BellTowerPlannerModel", "readRopes", "()V"⟩ prog_12_method_25_code 1 none ∈ gt := gt_in (List.mem_of_getElem? (i := 1649) (by decide +kernel)) (by decide +kernel)
theorem gw_1651 : Cond.methodLink "BellTowerPlannerModel" 203 ⟨"BellTowerPlannerModel", "takeOver", "()V"⟩ ∈ gt := gt_in (List.mem_of_getElem? (i := 1651) (by decide +kernel)) (by decide +kernel)
theorem gw_1653 : Cond.instanceMethod ⟨"BellTowerPlannerModel", "takeOver", "()V"⟩ ∈ gt := gt_in (List.mem_of_getElem? (i := 1653) (by decide +kernel)) (by decide +kernel)
theorem gw_1654 : Cond.code ⟨"BellTowerPlannerModel", "takeOver", "()V"⟩ prog_12_method_27_code 2 none ∈ gt := gt_in (List.mem_of_getElem? (i := 1654) (by decide +kernel)) (by decide +kernel)
theorem gw_1663 : Cond.methodLink "BellTowerPlannerModel" 221 ⟨"BellTowerPlannerModel", "isWrong", "(Z)Z"⟩ ∈ gt := gt_in (List.mem_of_getElem? (i := 1663) (by decide +kernel)) (by decide +kernel)
theorem gw_1665 : Cond.instanceMethod ⟨"BellTowerPlannerModel", "isWrong", "(Z)Z"⟩ ∈ gt := gt_in (List.mem_of_getElem? (i := 1665) (by decide +kernel)) (by decide +kernel)
theorem gw_1666 : Cond.code ⟨"BellTowerPlannerModel", "isWrong", "(Z)Z"⟩ prog_12_method_7_code 2 (some .boolean) ∈ gt := gt_in (List.mem_of_getElem? (i := 1666) (by decide +kernel)) (by decide +kernel)
theorem gw_1671 : Cond.methodLink "BellTowerPlannerModel" 235 ⟨"BellTowerPlannerModel", "isBell", "(I)Z"⟩ ∈ gt := gt_in (List.mem_of_getElem? (i := 1671) (by decide +kernel)) (by decide +kernel)
theorem gw_1673 : Cond.instanceMethod ⟨"BellTowerPlannerModel", "isBell", "(I)Z"⟩ ∈ gt := gt_in (List.mem_of_getElem? (i := 1673) (by decide +kernel)) (by decide +kernel)
theorem gw_1674 : Cond.code ⟨"BellTowerPlannerModel", "isBell", "(I)Z"⟩ prog_12_method_33_code 2 (some .boolean) ∈ gt := gt_in (List.mem_of_getElem? (i := 1674) (by decide +kernel)) (by decide +kernel)
theorem gw_1675 : Cond.methodLink "BellTowerPlannerModel" 238 ⟨"BellTowerPlannerModel", "isBeam", "(I)Z"⟩ ∈ gt := gt_in (List.mem_of_getElem? (i := 1675) (by decide +kernel)) (by decide +kernel)
theorem gw_1677 : Cond.instanceMethod ⟨"BellTowerPlannerModel", "isBeam", "(I)Z"⟩ ∈ gt := gt_in (List.mem_of_getElem? (i := 1677) (by decide +kernel)) (by decide +kernel)
theorem gw_1678 : Cond.code ⟨"BellTowerPlannerModel", "isBeam", "(I)Z"⟩ prog_12_method_34_code 2 (some .boolean) ∈ gt := gt_in (List.mem_of_getElem? (i := 1678) (by decide +kernel)) (by decide +kernel)
theorem gw_1679 : Cond.methodLink "BellTowerPlannerModel" 241 ⟨"BellTowerPlannerModel", "isPosition", "(I)Z"⟩ ∈ gt := gt_in (List.mem_of_getElem? (i := 1679) (by decide +kernel)) (by decide +kernel)
theorem gw_1680 : Cond.static ⟨"BellTowerPlannerModel", "isPosition", "(I)Z"⟩ ∈ gt := gt_in (List.mem_of_getElem? (i := 1680) (by decide +kernel)) (by decide +kernel)
theorem gw_1681 : Cond.code ⟨"BellTowerPlannerModel", "isPosition", "(I)Z"⟩ prog_12_method_35_code 1 (some .boolean) ∈ gt := gt_in (List.mem_of_getElem? (i := 1681) (by decide +kernel)) (by decide +kernel)
theorem gw_1682 : Cond.constantLong "BellTowerPlannerModel" 225 (-15) ∈ gt := gt_in (List.mem_of_getElem? (i := 1682) (by decide +kernel)) (by decide +kernel)
theorem gw_1683 : Cond.constantLong "BellTowerPlannerModel" 227 (15) ∈ gt := gt_in (List.mem_of_getElem? (i := 1683) (by decide +kernel)) (by decide +kernel)
theorem gw_1684 : Cond.methodLink "BellTowerPlannerModel" 244 ⟨"BellTowerPlannerModel", "hangs", "(I)Z"⟩ ∈ gt := gt_in (List.mem_of_getElem? (i := 1684) (by decide +kernel)) (by decide +kernel)
theorem gw_1686 : Cond.instanceMethod ⟨"BellTowerPlannerModel", "hangs", "(I)Z"⟩ ∈ gt := gt_in (List.mem_of_getElem? (i := 1686) (by decide +kernel)) (by decide +kernel)
theorem gw_1687 : Cond.code ⟨"BellTowerPlannerModel", "hangs", "(I)Z"⟩ prog_12_method_36_code 2 (some .boolean) ∈ gt := gt_in (List.mem_of_getElem? (i := 1687) (by decide +kernel)) (by decide +kernel)
theorem gw_1688 : Cond.methodLink "BellTowerPlannerModel" 229 ⟨"BellTowerPlannerModel", "of", "(II)I"⟩ ∈ gt := gt_in (List.mem_of_getElem? (i := 1688) (by decide +kernel)) (by decide +kernel)
theorem gw_1690 : Cond.instanceMethod ⟨"BellTowerPlannerModel", "of", "(II)I"⟩ ∈ gt := gt_in (List.mem_of_getElem? (i := 1690) (by decide +kernel)) (by decide +kernel)
theorem gw_1691 : Cond.code ⟨"BellTowerPlannerModel", "of", "(II)I"⟩ prog_12_method_31_code 3 (some .int) ∈ gt := gt_in (List.mem_of_getElem? (i := 1691) (by decide +kernel)) (by decide +kernel)
theorem gw_1692 : Cond.methodLink "BellTowerPlannerModel" 247 ⟨"BellTowerPlannerModel", "isClear", "(III)Z"⟩ ∈ gt := gt_in (List.mem_of_getElem? (i := 1692) (by decide +kernel)) (by decide +kernel)
theorem gw_1694 : Cond.instanceMethod ⟨"BellTowerPlannerModel", "isClear", "(III)Z"⟩ ∈ gt := gt_in (List.mem_of_getElem? (i := 1694) (by decide +kernel)) (by decide +kernel)
theorem gw_1695 : Cond.code ⟨"BellTowerPlannerModel", "isClear", "(III)Z"⟩ prog_12_method_41_code 5 (some .boolean) ∈ gt := gt_in (List.mem_of_getElem? (i := 1695) (by decide +kernel)) (by decide +kernel)
theorem gw_1696 : Cond.methodLink "BellTowerPlannerModel" 232 ⟨"BellTowerPlannerModel", "size", "(I)I"⟩ ∈ gt := gt_in (List.mem_of_getElem? (i := 1696) (by decide +kernel)) (by decide +kernel)
theorem gw_1697 : Cond.static ⟨"BellTowerPlannerModel", "size", "(I)I"⟩ ∈ gt := gt_in (List.mem_of_getElem? (i := 1697) (by decide +kernel)) (by decide +kernel)
theorem gw_1698 : Cond.code ⟨"BellTowerPlannerModel", "size", "(I)I"⟩ prog_12_method_4_code 1 (some .int) ∈ gt := gt_in (List.mem_of_getElem? (i := 1698) (by decide +kernel)) (by decide +kernel)
theorem gw_1699 : Cond.methodLink "BellTowerPlannerModel" 251 ⟨"BellTowerPlannerModel", "pull", "(I)I"⟩ ∈ gt := gt_in (List.mem_of_getElem? (i := 1699) (by decide +kernel)) (by decide +kernel)
theorem gw_1701 : Cond.instanceMethod ⟨"BellTowerPlannerModel", "pull", "(I)I"⟩ ∈ gt := gt_in (List.mem_of_getElem? (i := 1701) (by decide +kernel)) (by decide +kernel)
theorem gw_1702 : Cond.code ⟨"BellTowerPlannerModel", "pull", "(I)I"⟩ prog_12_method_40_code 4 (some .int) ∈ gt := gt_in (List.mem_of_getElem? (i := 1702) (by decide +kernel)) (by decide +kernel)
theorem gw_1703 : Cond.methodLink "BellTowerPlannerModel" 254 ⟨"BellTowerPlannerModel", "isBalanced", "(II)Z"⟩ ∈ gt := gt_in (List.mem_of_getElem? (i := 1703) (by decide +kernel)) (by decide +kernel)
theorem gw_1705 : Cond.instanceMethod ⟨"BellTowerPlannerModel", "isBalanced", "(II)Z"⟩ ∈ gt := gt_in (List.mem_of_getElem? (i := 1705) (by decide +kernel)) (by decide +kernel)
theorem gw_1706 : Cond.code ⟨"BellTowerPlannerModel", "isBalanced", "(II)Z"⟩ prog_12_method_42_code 3 (some .boolean) ∈ gt := gt_in (List.mem_of_getElem? (i := 1706) (by decide +kernel)) (by decide +kernel)
theorem gw_1707 : Cond.methodLink "BellTowerPlannerModel" 257 ⟨"BellTowerPlannerModel", "remember", "()V"⟩ ∈ gt := gt_in (List.mem_of_getElem? (i := 1707) (by decide +kernel)) (by decide +kernel)
theorem gw_1709 : Cond.instanceMethod ⟨"BellTowerPlannerModel", "remember", "()V"⟩ ∈ gt := gt_in (List.mem_of_getElem? (i := 1709) (by decide +kernel)) (by decide +kernel)
theorem gw_1710 : Cond.code ⟨"BellTowerPlannerModel", "remember", "()V"⟩ prog_12_method_29_code 2 none ∈ gt := gt_in (List.mem_of_getElem? (i := 1710) (by decide +kernel)) (by decide +kernel)
theorem gw_1711 : Cond.methodLink "BellTowerPlannerModel" 260 ⟨"BellTowerPlannerModel", "set", "(III)V"⟩ ∈ gt := gt_in (List.mem_of_getElem? (i := 1711) (by decide +kernel)) (by decide +kernel)
theorem gw_1713 : Cond.instanceMethod ⟨"BellTowerPlannerModel", "set", "(III)V"⟩ ∈ gt := gt_in (List.mem_of_getElem? (i := 1713) (by decide +kernel)) (by decide +kernel)
theorem gw_1714 : Cond.code ⟨"BellTowerPlannerModel", "set", "(III)V"⟩ prog_12_method_32_code 4 none ∈ gt := gt_in (List.mem_of_getElem? (i := 1714) (by decide +kernel)) (by decide +kernel)
theorem gw_1715 : Cond.methodLink "BellTowerPlannerModel" 264 ⟨"BellTowerPlannerModel", "bellsOn", "(I)I"⟩ ∈ gt := gt_in (List.mem_of_getElem? (i := 1715) (by decide +kernel)) (by decide +kernel)
theorem gw_1717 : Cond.instanceMethod ⟨"BellTowerPlannerModel", "bellsOn", "(I)I"⟩ ∈ gt := gt_in (List.mem_of_getElem? (i := 1717) (by decide +kernel)) (by decide +kernel)
theorem gw_1718 : Cond.code ⟨"BellTowerPlannerModel", "bellsOn", "(I)I"⟩ prog_12_method_39_code 4 (some .int) ∈ gt := gt_in (List.mem_of_getElem? (i := 1718) (by decide +kernel)) (by decide +kernel)
theorem gw_1747 : Cond.methodLink "BellTowerPlannerModel" 267 ⟨"BellTowerPlannerModel", "canHang", "(III)Z"⟩ ∈ gt := gt_in (List.mem_of_getElem? (i := 1747) (by decide +kernel)) (by decide +kernel)
theorem gw_1749 : Cond.instanceMethod ⟨"BellTowerPlannerModel", "canHang", "(III)Z"⟩ ∈ gt := gt_in (List.mem_of_getElem? (i := 1749) (by decide +kernel)) (by decide +kernel)
theorem gw_1750 : Cond.code ⟨"BellTowerPlannerModel", "canHang", "(III)Z"⟩ prog_12_method_50_code 4 (some .boolean) ∈ gt := gt_in (List.mem_of_getElem? (i := 1750) (by decide +kernel)) (by decide +kernel)
theorem gw_1759 : Cond.methodLink "BellTowerPlannerModel" 283 ⟨"BellTowerPlannerModel", "bestMirror", "(I)I"⟩ ∈ gt := gt_in (List.mem_of_getElem? (i := 1759) (by decide +kernel)) (by decide +kernel)
theorem gw_1761 : Cond.instanceMethod ⟨"BellTowerPlannerModel", "bestMirror", "(I)I"⟩ ∈ gt := gt_in (List.mem_of_getElem? (i := 1761) (by decide +kernel)) (by decide +kernel)
theorem gw_1762 : Cond.code ⟨"BellTowerPlannerModel", "bestMirror", "(I)I"⟩ prog_12_method_54_code 7 (some .int) ∈ gt := gt_in (List.mem_of_getElem? (i := 1762) (by decide +kernel)) (by decide +kernel)
theorem gw_1763 : Cond.constant "BellTowerPlannerModel" 276 (1000000) ∈ gt := gt_in (List.mem_of_getElem? (i := 1763) (by decide +kernel)) (by decide +kernel)
theorem gw_1764 : Cond.methodLink "BellTowerPlannerModel" 277 ⟨"BellTowerPlannerModel", "isMirrorClear", "(II)Z"⟩ ∈ gt := gt_in (List.mem_of_getElem? (i := 1764) (by decide +kernel)) (by decide +kernel)
theorem gw_1766 : Cond.instanceMethod ⟨"BellTowerPlannerModel", "isMirrorClear", "(II)Z"⟩ ∈ gt := gt_in (List.mem_of_getElem? (i := 1766) (by decide +kernel)) (by decide +kernel)
theorem gw_1767 : Cond.code ⟨"BellTowerPlannerModel", "isMirrorClear", "(II)Z"⟩ prog_12_method_53_code 7 (some .boolean) ∈ gt := gt_in (List.mem_of_getElem? (i := 1767) (by decide +kernel)) (by decide +kernel)
theorem gw_1768 : Cond.methodLink "BellTowerPlannerModel" 273 ⟨"BellTowerPlannerModel", "has", "(II)Z"⟩ ∈ gt := gt_in (List.mem_of_getElem? (i := 1768) (by decide +kernel)) (by decide +kernel)
theorem gw_1769 : Cond.static ⟨"BellTowerPlannerModel", "has", "(II)Z"⟩ ∈ gt := gt_in (List.mem_of_getElem? (i := 1769) (by decide +kernel)) (by decide +kernel)
theorem gw_1770 : Cond.code ⟨"BellTowerPlannerModel", "has", "(II)Z"⟩ prog_12_method_5_code 2 (some .boolean) ∈ gt := gt_in (List.mem_of_getElem? (i := 1770) (by decide +kernel)) (by decide +kernel)
theorem gw_1771 : Cond.methodLink "BellTowerPlannerModel" 280 ⟨"BellTowerPlannerModel", "count", "(I)I"⟩ ∈ gt := gt_in (List.mem_of_getElem? (i := 1771) (by decide +kernel)) (by decide +kernel)
theorem gw_1772 : Cond.static ⟨"BellTowerPlannerModel", "count", "(I)I"⟩ ∈ gt := gt_in (List.mem_of_getElem? (i := 1772) (by decide +kernel)) (by decide +kernel)
theorem gw_1773 : Cond.code ⟨"BellTowerPlannerModel", "count", "(I)I"⟩ prog_12_method_6_code 3 (some .int) ∈ gt := gt_in (List.mem_of_getElem? (i := 1773) (by decide +kernel)) (by decide +kernel)
theorem gw_1782 : Cond.methodLink "BellTowerPlannerModel" 286 ⟨"BellTowerPlannerModel", "plans", "()I"⟩ ∈ gt := gt_in (List.mem_of_getElem? (i := 1782) (by decide +kernel)) (by decide +kernel)
theorem gw_1784 : Cond.instanceMethod ⟨"BellTowerPlannerModel", "plans", "()I"⟩ ∈ gt := gt_in (List.mem_of_getElem? (i := 1784) (by decide +kernel)) (by decide +kernel)
theorem gw_1785 : Cond.code ⟨"BellTowerPlannerModel", "plans", "()I"⟩ prog_12_method_57_code 3 (some .int) ∈ gt := gt_in (List.mem_of_getElem? (i := 1785) (by decide +kernel)) (by decide +kernel)
theorem gw_1794 : Cond.methodLink "BellTowerPlannerModel" 301 ⟨"BellTowerPlannerModel", "goal", "()I"⟩ ∈ gt := gt_in (List.mem_of_getElem? (i := 1794) (by decide +kernel)) (by decide +kernel)
theorem gw_1796 : Cond.instanceMethod ⟨"BellTowerPlannerModel", "goal", "()I"⟩ ∈ gt := gt_in (List.mem_of_getElem? (i := 1796) (by decide +kernel)) (by decide +kernel)
theorem gw_1797 : Cond.code ⟨"BellTowerPlannerModel", "goal", "()I"⟩ prog_12_method_66_code 4 (some .int) ∈ gt := gt_in (List.mem_of_getElem? (i := 1797) (by decide +kernel)) (by decide +kernel)
theorem gw_1798 : Cond.methodLink "BellTowerPlannerModel" 292 ⟨"BellTowerPlannerModel", "layOut", "(I)V"⟩ ∈ gt := gt_in (List.mem_of_getElem? (i := 1798) (by decide +kernel)) (by decide +kernel)
theorem gw_1800 : Cond.instanceMethod ⟨"BellTowerPlannerModel", "layOut", "(I)V"⟩ ∈ gt := gt_in (List.mem_of_getElem? (i := 1800) (by decide +kernel)) (by decide +kernel)
theorem gw_1801 : Cond.code ⟨"BellTowerPlannerModel", "layOut", "(I)V"⟩ prog_12_method_60_code 4 none ∈ gt := gt_in (List.mem_of_getElem? (i := 1801) (by decide +kernel)) (by decide +kernel)
theorem gw_1802 : Cond.methodLink "BellTowerPlannerModel" 295 ⟨"BellTowerPlannerModel", "areClear", "(II)Z"⟩ ∈ gt := gt_in (List.mem_of_getElem? (i := 1802) (by decide +kernel)) (by decide +kernel)
theorem gw_1804 : Cond.instanceMethod ⟨"BellTowerPlannerModel", "areClear", "(II)Z"⟩ ∈ gt := gt_in (List.mem_of_getElem? (i := 1804) (by decide +kernel)) (by decide +kernel)
theorem gw_1805 : Cond.code ⟨"BellTowerPlannerModel", "areClear", "(II)Z"⟩ prog_12_method_62_code 3 (some .boolean) ∈ gt := gt_in (List.mem_of_getElem? (i := 1805) (by decide +kernel)) (by decide +kernel)
theorem gw_1806 : Cond.methodLink "BellTowerPlannerModel" 289 ⟨"BellTowerPlannerModel", "isPlaced", "(I)Z"⟩ ∈ gt := gt_in (List.mem_of_getElem? (i := 1806) (by decide +kernel)) (by decide +kernel)
theorem gw_1808 : Cond.instanceMethod ⟨"BellTowerPlannerModel", "isPlaced", "(I)Z"⟩ ∈ gt := gt_in (List.mem_of_getElem? (i := 1808) (by decide +kernel)) (by decide +kernel)
theorem gw_1809 : Cond.code ⟨"BellTowerPlannerModel", "isPlaced", "(I)Z"⟩ prog_12_method_61_code 2 (some .boolean) ∈ gt := gt_in (List.mem_of_getElem? (i := 1809) (by decide +kernel)) (by decide +kernel)
theorem gw_1814 : Cond.methodLink "BellTowerPlannerModel" 298 ⟨"BellTowerPlannerModel", "torqueLaid", "(I)I"⟩ ∈ gt := gt_in (List.mem_of_getElem? (i := 1814) (by decide +kernel)) (by decide +kernel)
theorem gw_1816 : Cond.instanceMethod ⟨"BellTowerPlannerModel", "torqueLaid", "(I)I"⟩ ∈ gt := gt_in (List.mem_of_getElem? (i := 1816) (by decide +kernel)) (by decide +kernel)
theorem gw_1817 : Cond.code ⟨"BellTowerPlannerModel", "torqueLaid", "(I)I"⟩ prog_12_method_63_code 4 (some .int) ∈ gt := gt_in (List.mem_of_getElem? (i := 1817) (by decide +kernel)) (by decide +kernel)
theorem gw_1822 : Cond.methodLink "BellTowerPlannerModel" 319 ⟨"BellTowerPlannerModel", "findWays", "()V"⟩ ∈ gt := gt_in (List.mem_of_getElem? (i := 1822) (by decide +kernel)) (by decide +kernel)
theorem gw_1824 : Cond.instanceMethod ⟨"BellTowerPlannerModel", "findWays", "()V"⟩ ∈ gt := gt_in (List.mem_of_getElem? (i := 1824) (by decide +kernel)) (by decide +kernel)
theorem gw_1825 : Cond.code ⟨"BellTowerPlannerModel", "findWays", "()V"⟩ prog_12_method_72_code 7 none ∈ gt := gt_in (List.mem_of_getElem? (i := 1825) (by decide +kernel)) (by decide +kernel)
theorem gw_1826 : Cond.methodLink "BellTowerPlannerModel" 304 ⟨"BellTowerPlannerModel", "powerOf", "(I)I"⟩ ∈ gt := gt_in (List.mem_of_getElem? (i := 1826) (by decide +kernel)) (by decide +kernel)
theorem gw_1828 : Cond.instanceMethod ⟨"BellTowerPlannerModel", "powerOf", "(I)I"⟩ ∈ gt := gt_in (List.mem_of_getElem? (i := 1828) (by decide +kernel)) (by decide +kernel)
theorem gw_1829 : Cond.code ⟨"BellTowerPlannerModel", "powerOf", "(I)I"⟩ prog_12_method_69_code 4 (some .int) ∈ gt := gt_in (List.mem_of_getElem? (i := 1829) (by decide +kernel)) (by decide +kernel)
theorem gw_1830 : Cond.methodLink "BellTowerPlannerModel" 307 ⟨"BellTowerPlannerModel", "canBe", "(I)Z"⟩ ∈ gt := gt_in (List.mem_of_getElem? (i := 1830) (by decide +kernel)) (by decide +kernel)
theorem gw_1832 : Cond.instanceMethod ⟨"BellTowerPlannerModel", "canBe", "(I)Z"⟩ ∈ gt := gt_in (List.mem_of_getElem? (i := 1832) (by decide +kernel)) (by decide +kernel)
theorem gw_1833 : Cond.code ⟨"BellTowerPlannerModel", "canBe", "(I)Z"⟩ prog_12_method_64_code 4 (some .boolean) ∈ gt := gt_in (List.mem_of_getElem? (i := 1833) (by decide +kernel)) (by decide +kernel)
theorem gw_1834 : Cond.methodLink "BellTowerPlannerModel" 310 ⟨"BellTowerPlannerModel", "isAtGoal", "(I)Z"⟩ ∈ gt := gt_in (List.mem_of_getElem? (i := 1834) (by decide +kernel)) (by decide +kernel)
theorem gw_1836 : Cond.instanceMethod ⟨"BellTowerPlannerModel", "isAtGoal", "(I)Z"⟩ ∈ gt := gt_in (List.mem_of_getElem? (i := 1836) (by decide +kernel)) (by decide +kernel)
theorem gw_1837 : Cond.code ⟨"BellTowerPlannerModel", "isAtGoal", "(I)Z"⟩ prog_12_method_65_code 2 (some .boolean) ∈ gt := gt_in (List.mem_of_getElem? (i := 1837) (by decide +kernel)) (by decide +kernel)
theorem gw_1838 : Cond.methodLink "BellTowerPlannerModel" 313 ⟨"BellTowerPlannerModel", "after", "(II)I"⟩ ∈ gt := gt_in (List.mem_of_getElem? (i := 1838) (by decide +kernel)) (by decide +kernel)
theorem gw_1840 : Cond.instanceMethod ⟨"BellTowerPlannerModel", "after", "(II)I"⟩ ∈ gt := gt_in (List.mem_of_getElem? (i := 1840) (by decide +kernel)) (by decide +kernel)
theorem gw_1841 : Cond.code ⟨"BellTowerPlannerModel", "after", "(II)I"⟩ prog_12_method_73_code 6 (some .int) ∈ gt := gt_in (List.mem_of_getElem? (i := 1841) (by decide +kernel)) (by decide +kernel)
theorem gw_1842 : Cond.methodLink "BellTowerPlannerModel" 316 ⟨"BellTowerPlannerModel", "digitOf", "(II)I"⟩ ∈ gt := gt_in (List.mem_of_getElem? (i := 1842) (by decide +kernel)) (by decide +kernel)
theorem gw_1843 : Cond.static ⟨"BellTowerPlannerModel", "digitOf", "(II)I"⟩ ∈ gt := gt_in (List.mem_of_getElem? (i := 1843) (by decide +kernel)) (by decide +kernel)
theorem gw_1844 : Cond.code ⟨"BellTowerPlannerModel", "digitOf", "(II)I"⟩ prog_12_method_71_code 2 (some .int) ∈ gt := gt_in (List.mem_of_getElem? (i := 1844) (by decide +kernel)) (by decide +kernel)
theorem gw_1845 : Cond.methodLink "BellTowerPlannerModel" 322 ⟨"BellTowerPlannerModel", "present", "()I"⟩ ∈ gt := gt_in (List.mem_of_getElem? (i := 1845) (by decide +kernel)) (by decide +kernel)
theorem gw_1847 : Cond.instanceMethod ⟨"BellTowerPlannerModel", "present", "()I"⟩ ∈ gt := gt_in (List.mem_of_getElem? (i := 1847) (by decide +kernel)) (by decide +kernel)
theorem gw_1848 : Cond.code ⟨"BellTowerPlannerModel", "present", "()I"⟩ prog_12_method_70_code 3 (some .int) ∈ gt := gt_in (List.mem_of_getElem? (i := 1848) (by decide +kernel)) (by decide +kernel)
theorem gw_1857 : Cond.constantLong "BellTowerPlannerModel" 328 (999) ∈ gt := gt_in (List.mem_of_getElem? (i := 1857) (by decide +kernel)) (by decide +kernel)
theorem gw_1858 : Cond.methodLink "BellTowerPlannerModel" 330 ⟨"BellTowerPlannerModel", "swinging", "()I"⟩ ∈ gt := gt_in (List.mem_of_getElem? (i := 1858) (by decide +kernel)) (by decide +kernel)
theorem gw_1860 : Cond.instanceMethod ⟨"BellTowerPlannerModel", "swinging", "()I"⟩ ∈ gt := gt_in (List.mem_of_getElem? (i := 1860) (by decide +kernel)) (by decide +kernel)
theorem gw_1861 : Cond.code ⟨"BellTowerPlannerModel", "swinging", "()I"⟩ prog_12_method_76_code 3 (some .int) ∈ gt := gt_in (List.mem_of_getElem? (i := 1861) (by decide +kernel)) (by decide +kernel)
theorem gw_1862 : Cond.methodLink "BellTowerPlannerModel" 325 ⟨"BellTowerPlannerModel", "swings", "(I)Z"⟩ ∈ gt := gt_in (List.mem_of_getElem? (i := 1862) (by decide +kernel)) (by decide +kernel)
theorem gw_1864 : Cond.instanceMethod ⟨"BellTowerPlannerModel", "swings", "(I)Z"⟩ ∈ gt := gt_in (List.mem_of_getElem? (i := 1864) (by decide +kernel)) (by decide +kernel)
theorem gw_1865 : Cond.code ⟨"BellTowerPlannerModel", "swings", "(I)Z"⟩ prog_12_method_37_code 2 (some .boolean) ∈ gt := gt_in (List.mem_of_getElem? (i := 1865) (by decide +kernel)) (by decide +kernel)
theorem gw_1874 : Cond.constantLong "BellTowerPlannerModel" 337 (9999) ∈ gt := gt_in (List.mem_of_getElem? (i := 1874) (by decide +kernel)) (by decide +kernel)
theorem gw_1875 : Cond.methodLink "BellTowerPlannerModel" 339 ⟨"BellTowerPlannerModel", "offsetAt", "(II)I"⟩ ∈ gt := gt_in (List.mem_of_getElem? (i := 1875) (by decide +kernel)) (by decide +kernel)
theorem gw_1877 : Cond.instanceMethod ⟨"BellTowerPlannerModel", "offsetAt", "(II)I"⟩ ∈ gt := gt_in (List.mem_of_getElem? (i := 1877) (by decide +kernel)) (by decide +kernel)
theorem gw_1878 : Cond.code ⟨"BellTowerPlannerModel", "offsetAt", "(II)I"⟩ prog_12_method_80_code 3 (some .int) ∈ gt := gt_in (List.mem_of_getElem? (i := 1878) (by decide +kernel)) (by decide +kernel)
theorem gw_1879 : Cond.methodLink "BellTowerPlannerModel" 333 ⟨"BellTowerPlannerModel", "offsetBy", "(IIII)I"⟩ ∈ gt := gt_in (List.mem_of_getElem? (i := 1879) (by decide +kernel)) (by decide +kernel)
theorem gw_1881 : Cond.instanceMethod ⟨"BellTowerPlannerModel", "offsetBy", "(IIII)I"⟩ ∈ gt := gt_in (List.mem_of_getElem? (i := 1881) (by decide +kernel)) (by decide +kernel)
theorem gw_1882 : Cond.code ⟨"BellTowerPlannerModel", "offsetBy", "(IIII)I"⟩ prog_12_method_79_code 7 (some .int) ∈ gt := gt_in (List.mem_of_getElem? (i := 1882) (by decide +kernel)) (by decide +kernel)
theorem gw_1887 : Cond.methodLink "BellTowerPlannerModel" 342 ⟨"BellTowerPlannerModel", "areTogether", "(II)Z"⟩ ∈ gt := gt_in (List.mem_of_getElem? (i := 1887) (by decide +kernel)) (by decide +kernel)
theorem gw_1889 : Cond.instanceMethod ⟨"BellTowerPlannerModel", "areTogether", "(II)Z"⟩ ∈ gt := gt_in (List.mem_of_getElem? (i := 1889) (by decide +kernel)) (by decide +kernel)
theorem gw_1890 : Cond.code ⟨"BellTowerPlannerModel", "areTogether", "(II)Z"⟩ prog_12_method_82_code 3 (some .boolean) ∈ gt := gt_in (List.mem_of_getElem? (i := 1890) (by decide +kernel)) (by decide +kernel)
theorem gw_1891 : Cond.methodLink "BellTowerPlannerModel" 345 ⟨"BellTowerPlannerModel", "gapBy", "(IIII)I"⟩ ∈ gt := gt_in (List.mem_of_getElem? (i := 1891) (by decide +kernel)) (by decide +kernel)
theorem gw_1893 : Cond.instanceMethod ⟨"BellTowerPlannerModel", "gapBy", "(IIII)I"⟩ ∈ gt := gt_in (List.mem_of_getElem? (i := 1893) (by decide +kernel)) (by decide +kernel)
theorem gw_1894 : Cond.code ⟨"BellTowerPlannerModel", "gapBy", "(IIII)I"⟩ prog_12_method_83_code 6 (some .int) ∈ gt := gt_in (List.mem_of_getElem? (i := 1894) (by decide +kernel)) (by decide +kernel)
theorem gw_1899 : Cond.methodLink "BellTowerPlannerModel" 351 ⟨"BellTowerPlannerModel", "collision", "()I"⟩ ∈ gt := gt_in (List.mem_of_getElem? (i := 1899) (by decide +kernel)) (by decide +kernel)
theorem gw_1901 : Cond.instanceMethod ⟨"BellTowerPlannerModel", "collision", "()I"⟩ ∈ gt := gt_in (List.mem_of_getElem? (i := 1901) (by decide +kernel)) (by decide +kernel)
theorem gw_1902 : Cond.code ⟨"BellTowerPlannerModel", "collision", "()I"⟩ prog_12_method_86_code 4 (some .int) ∈ gt := gt_in (List.mem_of_getElem? (i := 1902) (by decide +kernel)) (by decide +kernel)
theorem gw_1903 : Cond.methodLink "BellTowerPlannerModel" 348 ⟨"BellTowerPlannerModel", "collide", "(III)Z"⟩ ∈ gt := gt_in (List.mem_of_getElem? (i := 1903) (by decide +kernel)) (by decide +kernel)
theorem gw_1905 : Cond.instanceMethod ⟨"BellTowerPlannerModel", "collide", "(III)Z"⟩ ∈ gt := gt_in (List.mem_of_getElem? (i := 1905) (by decide +kernel)) (by decide +kernel)
theorem gw_1906 : Cond.code ⟨"BellTowerPlannerModel", "collide", "(III)Z"⟩ prog_12_method_85_code 4 (some .boolean) ∈ gt := gt_in (List.mem_of_getElem? (i := 1906) (by decide +kernel)) (by decide +kernel)
theorem gw_1915 : Cond.methodLink "BellTowerPlannerModel" 354 ⟨"BellTowerPlannerModel", "isSafe", "(III)Z"⟩ ∈ gt := gt_in (List.mem_of_getElem? (i := 1915) (by decide +kernel)) (by decide +kernel)
theorem gw_1917 : Cond.instanceMethod ⟨"BellTowerPlannerModel", "isSafe", "(III)Z"⟩ ∈ gt := gt_in (List.mem_of_getElem? (i := 1917) (by decide +kernel)) (by decide +kernel)
theorem gw_1918 : Cond.code ⟨"BellTowerPlannerModel", "isSafe", "(III)Z"⟩ prog_12_method_89_code 6 (some .boolean) ∈ gt := gt_in (List.mem_of_getElem? (i := 1918) (by decide +kernel)) (by decide +kernel)
theorem gw_1927 : Cond.methodLink "BellTowerPlannerModel" 357 ⟨"BellTowerPlannerModel", "strikesAt", "(II)Z"⟩ ∈ gt := gt_in (List.mem_of_getElem? (i := 1927) (by decide +kernel)) (by decide +kernel)
theorem gw_1929 : Cond.instanceMethod ⟨"BellTowerPlannerModel", "strikesAt", "(II)Z"⟩ ∈ gt := gt_in (List.mem_of_getElem? (i := 1929) (by decide +kernel)) (by decide +kernel)
theorem gw_1930 : Cond.code ⟨"BellTowerPlannerModel", "strikesAt", "(II)Z"⟩ prog_12_method_92_code 5 (some .boolean) ∈ gt := gt_in (List.mem_of_getElem? (i := 1930) (by decide +kernel)) (by decide +kernel)
theorem gw_1939 : Cond.constantLong "BellTowerPlannerModel" 360 (1439) ∈ gt := gt_in (List.mem_of_getElem? (i := 1939) (by decide +kernel)) (by decide +kernel)
theorem gw_1940 : Cond.constantLong "BellTowerPlannerModel" 362 (1440) ∈ gt := gt_in (List.mem_of_getElem? (i := 1940) (by decide +kernel)) (by decide +kernel)
theorem gw_1945 : Cond.methodLink "BellTowerPlannerModel" 364 ⟨"BellTowerPlannerModel", "chimes", "(I)Z"⟩ ∈ gt := gt_in (List.mem_of_getElem? (i := 1945) (by decide +kernel)) (by decide +kernel)
theorem gw_1947 : Cond.instanceMethod ⟨"BellTowerPlannerModel", "chimes", "(I)Z"⟩ ∈ gt := gt_in (List.mem_of_getElem? (i := 1947) (by decide +kernel)) (by decide +kernel)
theorem gw_1948 : Cond.code ⟨"BellTowerPlannerModel", "chimes", "(I)Z"⟩ prog_12_method_38_code 2 (some .boolean) ∈ gt := gt_in (List.mem_of_getElem? (i := 1948) (by decide +kernel)) (by decide +kernel)
theorem gw_1953 : Cond.methodLink "BellTowerPlannerModel" 367 ⟨"BellTowerPlannerModel", "isSilent", "(I)Z"⟩ ∈ gt := gt_in (List.mem_of_getElem? (i := 1953) (by decide +kernel)) (by decide +kernel)
theorem gw_1955 : Cond.instanceMethod ⟨"BellTowerPlannerModel", "isSilent", "(I)Z"⟩ ∈ gt := gt_in (List.mem_of_getElem? (i := 1955) (by decide +kernel)) (by decide +kernel)
theorem gw_1956 : Cond.code ⟨"BellTowerPlannerModel", "isSilent", "(I)Z"⟩ prog_12_method_97_code 3 (some .boolean) ∈ gt := gt_in (List.mem_of_getElem? (i := 1956) (by decide +kernel)) (by decide +kernel)
theorem gw_1969 : Cond.methodLink "BellTowerPlannerModel" 373 ⟨"BellTowerPlannerModel", "soundingAt", "(I)I"⟩ ∈ gt := gt_in (List.mem_of_getElem? (i := 1969) (by decide +kernel)) (by decide +kernel)
theorem gw_1971 : Cond.instanceMethod ⟨"BellTowerPlannerModel", "soundingAt", "(I)I"⟩ ∈ gt := gt_in (List.mem_of_getElem? (i := 1971) (by decide +kernel)) (by decide +kernel)
theorem gw_1972 : Cond.code ⟨"BellTowerPlannerModel", "soundingAt", "(I)I"⟩ prog_12_method_102_code 4 (some .int) ∈ gt := gt_in (List.mem_of_getElem? (i := 1972) (by decide +kernel)) (by decide +kernel)
theorem gw_1973 : Cond.methodLink "BellTowerPlannerModel" 370 ⟨"BellTowerPlannerModel", "sounds", "(II)Z"⟩ ∈ gt := gt_in (List.mem_of_getElem? (i := 1973) (by decide +kernel)) (by decide +kernel)
theorem gw_1975 : Cond.instanceMethod ⟨"BellTowerPlannerModel", "sounds", "(II)Z"⟩ ∈ gt := gt_in (List.mem_of_getElem? (i := 1975) (by decide +kernel)) (by decide +kernel)
theorem gw_1976 : Cond.code ⟨"BellTowerPlannerModel", "sounds", "(II)Z"⟩ prog_12_method_101_code 4 (some .boolean) ∈ gt := gt_in (List.mem_of_getElem? (i := 1976) (by decide +kernel)) (by decide +kernel)
theorem gw_1997 : Cond.methodLink "BellTowerPlannerModel" 376 ⟨"BellTowerPlannerModel", "isLoudFrom", "(II)Z"⟩ ∈ gt := gt_in (List.mem_of_getElem? (i := 1997) (by decide +kernel)) (by decide +kernel)
theorem gw_1999 : Cond.instanceMethod ⟨"BellTowerPlannerModel", "isLoudFrom", "(II)Z"⟩ ∈ gt := gt_in (List.mem_of_getElem? (i := 1999) (by decide +kernel)) (by decide +kernel)
theorem gw_2000 : Cond.code ⟨"BellTowerPlannerModel", "isLoudFrom", "(II)Z"⟩ prog_12_method_108_code 4 (some .boolean) ∈ gt := gt_in (List.mem_of_getElem? (i := 2000) (by decide +kernel)) (by decide +kernel)
theorem gw_2005 : Cond.methodLink "BellTowerPlannerModel" 379 ⟨"BellTowerPlannerModel", "lengthOf", "(I)I"⟩ ∈ gt := gt_in (List.mem_of_getElem? (i := 2005) (by decide +kernel)) (by decide +kernel)
theorem gw_2007 : Cond.instanceMethod ⟨"BellTowerPlannerModel", "lengthOf", "(I)I"⟩ ∈ gt := gt_in (List.mem_of_getElem? (i := 2007) (by decide +kernel)) (by decide +kernel)
theorem gw_2008 : Cond.code ⟨"BellTowerPlannerModel", "lengthOf", "(I)I"⟩ prog_12_method_110_code 2 (some .int) ∈ gt := gt_in (List.mem_of_getElem? (i := 2008) (by decide +kernel)) (by decide +kernel)
theorem gw_2013 : Cond.methodLink "BellTowerPlannerModel" 400 ⟨"BellTowerPlannerModel", "cutting", "()I"⟩ ∈ gt := gt_in (List.mem_of_getElem? (i := 2013) (by decide +kernel)) (by decide +kernel)
theorem gw_2015 : Cond.instanceMethod ⟨"BellTowerPlannerModel", "cutting", "()I"⟩ ∈ gt := gt_in (List.mem_of_getElem? (i := 2015) (by decide +kernel)) (by decide +kernel)
theorem gw_2016 : Cond.code ⟨"BellTowerPlannerModel", "cutting", "()I"⟩ prog_12_method_116_code 5 (some .int) ∈ gt := gt_in (List.mem_of_getElem? (i := 2016) (by decide +kernel)) (by decide +kernel)
theorem gw_2017 : Cond.methodLink "BellTowerPlannerModel" 391 ⟨"BellTowerPlannerModel", "laySums", "()V"⟩ ∈ gt := gt_in (List.mem_of_getElem? (i := 2017) (by decide +kernel)) (by decide +kernel)
theorem gw_2019 : Cond.instanceMethod ⟨"BellTowerPlannerModel", "laySums", "()V"⟩ ∈ gt := gt_in (List.mem_of_getElem? (i := 2019) (by decide +kernel)) (by decide +kernel)
theorem gw_2020 : Cond.code ⟨"BellTowerPlannerModel", "laySums", "()V"⟩ prog_12_method_113_code 3 none ∈ gt := gt_in (List.mem_of_getElem? (i := 2020) (by decide +kernel)) (by decide +kernel)
theorem gw_2021 : Cond.methodLink "BellTowerPlannerModel" 382 ⟨"BellTowerPlannerModel", "hanging", "()I"⟩ ∈ gt := gt_in (List.mem_of_getElem? (i := 2021) (by decide +kernel)) (by decide +kernel)
theorem gw_2023 : Cond.instanceMethod ⟨"BellTowerPlannerModel", "hanging", "()I"⟩ ∈ gt := gt_in (List.mem_of_getElem? (i := 2023) (by decide +kernel)) (by decide +kernel)
theorem gw_2024 : Cond.code ⟨"BellTowerPlannerModel", "hanging", "()I"⟩ prog_12_method_111_code 3 (some .int) ∈ gt := gt_in (List.mem_of_getElem? (i := 2024) (by decide +kernel)) (by decide +kernel)
theorem gw_2025 : Cond.methodLink "BellTowerPlannerModel" 385 ⟨"BellTowerPlannerModel", "lengthsOf", "(I)I"⟩ ∈ gt := gt_in (List.mem_of_getElem? (i := 2025) (by decide +kernel)) (by decide +kernel)
theorem gw_2027 : Cond.instanceMethod ⟨"BellTowerPlannerModel", "lengthsOf", "(I)I"⟩ ∈ gt := gt_in (List.mem_of_getElem? (i := 2027) (by decide +kernel)) (by decide +kernel)
theorem gw_2028 : Cond.code ⟨"BellTowerPlannerModel", "lengthsOf", "(I)I"⟩ prog_12_method_112_code 4 (some .int) ∈ gt := gt_in (List.mem_of_getElem? (i := 2028) (by decide +kernel)) (by decide +kernel)
theorem gw_2029 : Cond.methodLink "BellTowerPlannerModel" 394 ⟨"BellTowerPlannerModel", "layFewest", "()V"⟩ ∈ gt := gt_in (List.mem_of_getElem? (i := 2029) (by decide +kernel)) (by decide +kernel)
theorem gw_2031 : Cond.instanceMethod ⟨"BellTowerPlannerModel", "layFewest", "()V"⟩ ∈ gt := gt_in (List.mem_of_getElem? (i := 2031) (by decide +kernel)) (by decide +kernel)
theorem gw_2032 : Cond.code ⟨"BellTowerPlannerModel", "layFewest", "()V"⟩ prog_12_method_114_code 3 none ∈ gt := gt_in (List.mem_of_getElem? (i := 2032) (by decide +kernel)) (by decide +kernel)
theorem gw_2033 : Cond.methodLink "BellTowerPlannerModel" 388 ⟨"BellTowerPlannerModel", "bestWith", "(II)I"⟩ ∈ gt := gt_in (List.mem_of_getElem? (i := 2033) (by decide +kernel)) (by decide +kernel)
theorem gw_2035 : Cond.instanceMethod ⟨"BellTowerPlannerModel", "bestWith", "(II)I"⟩ ∈ gt := gt_in (List.mem_of_getElem? (i := 2035) (by decide +kernel)) (by decide +kernel)
theorem gw_2036 : Cond.code ⟨"BellTowerPlannerModel", "bestWith", "(II)I"⟩ prog_12_method_115_code 6 (some .int) ∈ gt := gt_in (List.mem_of_getElem? (i := 2036) (by decide +kernel)) (by decide +kernel)
theorem gw_2037 : Cond.methodLink "BellTowerPlannerModel" 397 ⟨"BellTowerPlannerModel", "choose", "(III)I"⟩ ∈ gt := gt_in (List.mem_of_getElem? (i := 2037) (by decide +kernel)) (by decide +kernel)
theorem gw_2039 : Cond.instanceMethod ⟨"BellTowerPlannerModel", "choose", "(III)I"⟩ ∈ gt := gt_in (List.mem_of_getElem? (i := 2039) (by decide +kernel)) (by decide +kernel)
theorem gw_2040 : Cond.code ⟨"BellTowerPlannerModel", "choose", "(III)I"⟩ prog_12_method_117_code 7 (some .int) ∈ gt := gt_in (List.mem_of_getElem? (i := 2040) (by decide +kernel)) (by decide +kernel)
theorem gw_2071 : Cond.fieldLink "java/lang/String" 9 "java/lang/String" "value" "[B" ∈ gt := gt_in (List.mem_of_getElem? (i := 2071) (by decide +kernel)) (by decide +kernel)
theorem gw_2072 : Cond.fieldLink "java/lang/String" 15 "java/lang/String" "coder" "B" ∈ gt := gt_in (List.mem_of_getElem? (i := 2072) (by decide +kernel)) (by decide +kernel)
theorem kls_0 : Kls 0 RX0 TX0 8 tyX0 := ⟨rfl, show ∀ w ∈ ([u_lay RX0 TX0 0, u_lay RX0 TX0 1, u_lay RX0 TX0 2, u_lay RX0 TX0 3, u_lay RX0 TX0 4, u_lay RX0 TX0 5, u_lay RX0 TX0 6, u_lay RX0 TX0 7] : List Cond), w ∈ gt from List.forall_mem_cons.mpr ⟨gw_278, List.forall_mem_cons.mpr ⟨gw_280, List.forall_mem_cons.mpr ⟨gw_282, List.forall_mem_cons.mpr ⟨gw_284, List.forall_mem_cons.mpr ⟨gw_286, List.forall_mem_cons.mpr ⟨gw_288, List.forall_mem_cons.mpr ⟨gw_290, List.forall_mem_cons.mpr ⟨gw_292, fun _ h => absurd h List.not_mem_nil⟩⟩⟩⟩⟩⟩⟩⟩, tyX0_ok, nmX0⟩
theorem kls_1 : Kls 1 RX1 TX1 3 tyX1 := ⟨rfl, show ∀ w ∈ ([u_lay RX1 TX1 0, u_lay RX1 TX1 1, u_lay RX1 TX1 2] : List Cond), w ∈ gt from List.forall_mem_cons.mpr ⟨gw_374, List.forall_mem_cons.mpr ⟨gw_376, List.forall_mem_cons.mpr ⟨gw_378, fun _ h => absurd h List.not_mem_nil⟩⟩⟩, tyX1_ok, nmX1⟩
theorem kls_2 : Kls 2 RX2 TX2 2 tyX2 := ⟨rfl, show ∀ w ∈ ([u_lay RX2 TX2 0, u_lay RX2 TX2 1] : List Cond), w ∈ gt from List.forall_mem_cons.mpr ⟨gw_303, List.forall_mem_cons.mpr ⟨gw_305, fun _ h => absurd h List.not_mem_nil⟩⟩, tyX2_ok, nmX2⟩
theorem kls_3 : Kls 3 RX3 TX3 4 tyX3 := ⟨rfl, show ∀ w ∈ ([u_lay RX3 TX3 0, u_lay RX3 TX3 1, u_lay RX3 TX3 2, u_lay RX3 TX3 3] : List Cond), w ∈ gt from List.forall_mem_cons.mpr ⟨gw_420, List.forall_mem_cons.mpr ⟨gw_422, List.forall_mem_cons.mpr ⟨gw_424, List.forall_mem_cons.mpr ⟨gw_426, fun _ h => absurd h List.not_mem_nil⟩⟩⟩⟩, tyX3_ok, nmX3⟩
theorem kls_4 : Kls 4 RX4 TX4 9 tyX4 := ⟨rfl, show ∀ w ∈ ([u_lay RX4 TX4 0, u_lay RX4 TX4 1, u_lay RX4 TX4 2, u_lay RX4 TX4 3, u_lay RX4 TX4 4, u_lay RX4 TX4 5, u_lay RX4 TX4 6, u_lay RX4 TX4 7, u_lay RX4 TX4 8] : List Cond), w ∈ gt from List.forall_mem_cons.mpr ⟨gw_323, List.forall_mem_cons.mpr ⟨gw_325, List.forall_mem_cons.mpr ⟨gw_327, List.forall_mem_cons.mpr ⟨gw_329, List.forall_mem_cons.mpr ⟨gw_331, List.forall_mem_cons.mpr ⟨gw_333, List.forall_mem_cons.mpr ⟨gw_335, List.forall_mem_cons.mpr ⟨gw_337, List.forall_mem_cons.mpr ⟨gw_339, fun _ h => absurd h List.not_mem_nil⟩⟩⟩⟩⟩⟩⟩⟩⟩, tyX4_ok, nmX4⟩
theorem kls_5 : Kls 5 RX5 TX5 6 tyX5 := ⟨rfl, show ∀ w ∈ ([u_lay RX5 TX5 0, u_lay RX5 TX5 1, u_lay RX5 TX5 2, u_lay RX5 TX5 3, u_lay RX5 TX5 4, u_lay RX5 TX5 5] : List Cond), w ∈ gt from List.forall_mem_cons.mpr ⟨gw_394, List.forall_mem_cons.mpr ⟨gw_396, List.forall_mem_cons.mpr ⟨gw_398, List.forall_mem_cons.mpr ⟨gw_400, List.forall_mem_cons.mpr ⟨gw_402, List.forall_mem_cons.mpr ⟨gw_404, fun _ h => absurd h List.not_mem_nil⟩⟩⟩⟩⟩⟩, tyX5_ok, nmX5⟩
theorem kls_6 : Kls 6 RX6 TX6 5 tyX6 := ⟨rfl, show ∀ w ∈ ([u_lay RX6 TX6 0, u_lay RX6 TX6 1, u_lay RX6 TX6 2, u_lay RX6 TX6 3, u_lay RX6 TX6 4] : List Cond), w ∈ gt from List.forall_mem_cons.mpr ⟨gw_353, List.forall_mem_cons.mpr ⟨gw_355, List.forall_mem_cons.mpr ⟨gw_357, List.forall_mem_cons.mpr ⟨gw_359, List.forall_mem_cons.mpr ⟨gw_361, fun _ h => absurd h List.not_mem_nil⟩⟩⟩⟩⟩, tyX6_ok, nmX6⟩
theorem kls_7 : Kls 7 RX7 TX7 12 tyX7 := ⟨rfl, show ∀ w ∈ ([u_lay RX7 TX7 0, u_lay RX7 TX7 1, u_lay RX7 TX7 2, u_lay RX7 TX7 3, u_lay RX7 TX7 4, u_lay RX7 TX7 5, u_lay RX7 TX7 6, u_lay RX7 TX7 7, u_lay RX7 TX7 8, u_lay RX7 TX7 9, u_lay RX7 TX7 10, u_lay RX7 TX7 11] : List Cond), w ∈ gt from List.forall_mem_cons.mpr ⟨gw_217, List.forall_mem_cons.mpr ⟨gw_219, List.forall_mem_cons.mpr ⟨gw_221, List.forall_mem_cons.mpr ⟨gw_223, List.forall_mem_cons.mpr ⟨gw_225, List.forall_mem_cons.mpr ⟨gw_227, List.forall_mem_cons.mpr ⟨gw_229, List.forall_mem_cons.mpr ⟨gw_231, List.forall_mem_cons.mpr ⟨gw_233, List.forall_mem_cons.mpr ⟨gw_235, List.forall_mem_cons.mpr ⟨gw_237, List.forall_mem_cons.mpr ⟨gw_239, fun _ h => absurd h List.not_mem_nil⟩⟩⟩⟩⟩⟩⟩⟩⟩⟩⟩⟩, tyX7_ok, nmX7⟩
theorem kls_8 : Kls 8 RX8 TX8 9 tyX8 := ⟨rfl, show ∀ w ∈ ([u_lay RX8 TX8 0, u_lay RX8 TX8 1, u_lay RX8 TX8 2, u_lay RX8 TX8 3, u_lay RX8 TX8 4, u_lay RX8 TX8 5, u_lay RX8 TX8 6, u_lay RX8 TX8 7, u_lay RX8 TX8 8] : List Cond), w ∈ gt from List.forall_mem_cons.mpr ⟨gw_157, List.forall_mem_cons.mpr ⟨gw_159, List.forall_mem_cons.mpr ⟨gw_161, List.forall_mem_cons.mpr ⟨gw_163, List.forall_mem_cons.mpr ⟨gw_165, List.forall_mem_cons.mpr ⟨gw_167, List.forall_mem_cons.mpr ⟨gw_169, List.forall_mem_cons.mpr ⟨gw_171, List.forall_mem_cons.mpr ⟨gw_173, fun _ h => absurd h List.not_mem_nil⟩⟩⟩⟩⟩⟩⟩⟩⟩, tyX8_ok, nmX8⟩
theorem kls_9 : Kls 9 RX9 TX9 11 tyX9 := ⟨rfl, show ∀ w ∈ ([u_lay RX9 TX9 0, u_lay RX9 TX9 1, u_lay RX9 TX9 2, u_lay RX9 TX9 3, u_lay RX9 TX9 4, u_lay RX9 TX9 5, u_lay RX9 TX9 6, u_lay RX9 TX9 7, u_lay RX9 TX9 8, u_lay RX9 TX9 9, u_lay RX9 TX9 10] : List Cond), w ∈ gt from List.forall_mem_cons.mpr ⟨gw_440, List.forall_mem_cons.mpr ⟨gw_442, List.forall_mem_cons.mpr ⟨gw_444, List.forall_mem_cons.mpr ⟨gw_446, List.forall_mem_cons.mpr ⟨gw_448, List.forall_mem_cons.mpr ⟨gw_450, List.forall_mem_cons.mpr ⟨gw_452, List.forall_mem_cons.mpr ⟨gw_454, List.forall_mem_cons.mpr ⟨gw_456, List.forall_mem_cons.mpr ⟨gw_458, List.forall_mem_cons.mpr ⟨gw_460, fun _ h => absurd h List.not_mem_nil⟩⟩⟩⟩⟩⟩⟩⟩⟩⟩⟩, tyX9_ok, nmX9⟩
theorem kls_10 : Kls 10 RX10 TX10 41 tyX10 := ⟨rfl, show ∀ w ∈ ([u_lay RX10 TX10 0, u_lay RX10 TX10 1, u_lay RX10 TX10 2, u_lay RX10 TX10 3, u_lay RX10 TX10 4, u_lay RX10 TX10 5, u_lay RX10 TX10 6, u_lay RX10 TX10 7, u_lay RX10 TX10 8, u_lay RX10 TX10 9, u_lay RX10 TX10 10, u_lay RX10 TX10 11, u_lay RX10 TX10 12, u_lay RX10 TX10 13, u_lay RX10 TX10 14, u_lay RX10 TX10 15, u_lay RX10 TX10 16, u_lay RX10 TX10 17, u_lay RX10 TX10 18, u_lay RX10 TX10 19, u_lay RX10 TX10 20, u_lay RX10 TX10 21, u_lay RX10 TX10 22, u_lay RX10 TX10 23, u_lay RX10 TX10 24, u_lay RX10 TX10 25, u_lay RX10 TX10 26, u_lay RX10 TX10 27, u_lay RX10 TX10 28, u_lay RX10 TX10 29, u_lay RX10 TX10 30, u_lay RX10 TX10 31, u_lay RX10 TX10 32, u_lay RX10 TX10 33, u_lay RX10 TX10 34, u_lay RX10 TX10 35, u_lay RX10 TX10 36, u_lay RX10 TX10 37, u_lay RX10 TX10 38, u_lay RX10 TX10 39, u_lay RX10 TX10 40] : List Cond), w ∈ gt from List.forall_mem_cons.mpr ⟨gw_1474, List.forall_mem_cons.mpr ⟨gw_1476, List.forall_mem_cons.mpr ⟨gw_1478, List.forall_mem_cons.mpr ⟨gw_1480, List.forall_mem_cons.mpr ⟨gw_1482, List.forall_mem_cons.mpr ⟨gw_1484, List.forall_mem_cons.mpr ⟨gw_1486, List.forall_mem_cons.mpr ⟨gw_1488, List.forall_mem_cons.mpr ⟨gw_1490, List.forall_mem_cons.mpr ⟨gw_1492, List.forall_mem_cons.mpr ⟨gw_1494, List.forall_mem_cons.mpr ⟨gw_1496, List.forall_mem_cons.mpr ⟨gw_1498, List.forall_mem_cons.mpr ⟨gw_1500, List.forall_mem_cons.mpr ⟨gw_1502, List.forall_mem_cons.mpr ⟨gw_1504, List.forall_mem_cons.mpr ⟨gw_1506, List.forall_mem_cons.mpr ⟨gw_1508, List.forall_mem_cons.mpr ⟨gw_1510, List.forall_mem_cons.mpr ⟨gw_1512, List.forall_mem_cons.mpr ⟨gw_1514, List.forall_mem_cons.mpr ⟨gw_1516, List.forall_mem_cons.mpr ⟨gw_1518, List.forall_mem_cons.mpr ⟨gw_1520, List.forall_mem_cons.mpr ⟨gw_1522, List.forall_mem_cons.mpr ⟨gw_1524, List.forall_mem_cons.mpr ⟨gw_1526, List.forall_mem_cons.mpr ⟨gw_1528, List.forall_mem_cons.mpr ⟨gw_1530, List.forall_mem_cons.mpr ⟨gw_1532, List.forall_mem_cons.mpr ⟨gw_1534, List.forall_mem_cons.mpr ⟨gw_1536, List.forall_mem_cons.mpr ⟨gw_1538, List.forall_mem_cons.mpr ⟨gw_1540, List.forall_mem_cons.mpr ⟨gw_1542, List.forall_mem_cons.mpr ⟨gw_1544, List.forall_mem_cons.mpr ⟨gw_1546, List.forall_mem_cons.mpr ⟨gw_1548, List.forall_mem_cons.mpr ⟨gw_1550, List.forall_mem_cons.mpr ⟨gw_1552, List.forall_mem_cons.mpr ⟨gw_1554, fun _ h => absurd h List.not_mem_nil⟩⟩⟩⟩⟩⟩⟩⟩⟩⟩⟩⟩⟩⟩⟩⟩⟩⟩⟩⟩⟩⟩⟩⟩⟩⟩⟩⟩⟩⟩⟩⟩⟩⟩⟩⟩⟩⟩⟩⟩⟩, tyX10_ok, nmX10⟩
theorem cal_J0_charAt_5068e : Cal M_J0_charAt_5068e := ⟨rfl, gw_527, gw_124, ⟨by decide, by decide⟩⟩
theorem cai_J0_charAt_5068e : Cond.instanceMethod (mY M_J0_charAt_5068e) ∈ gt ∧ Cond.selects (mY M_J0_charAt_5068e).cls (mY M_J0_charAt_5068e) (mY M_J0_charAt_5068e) ∈ gt := ⟨gw_525, gw_526⟩
theorem cnt_J0_charAt_5068e : Cnt M_J0_charAt_5068e 1 := by unfold Cnt; decide +kernel
theorem cal_J0_checkIndex_df160 : Cal M_J0_checkIndex_df160 := ⟨rfl, gw_537, gw_124, ⟨by decide, by decide⟩⟩
theorem cas_J0_checkIndex_df160 : Cond.static (mY M_J0_checkIndex_df160) ∈ gt := gw_536
theorem cnt_J0_checkIndex_df160 : Cnt M_J0_checkIndex_df160 2 := by unfold Cnt; decide +kernel
theorem cal_J0_coder_7d493 : Cal M_J0_coder_7d493 := ⟨rfl, gw_521, gw_124, ⟨by decide, by decide⟩⟩
theorem cai_J0_coder_7d493 : Cond.instanceMethod (mY M_J0_coder_7d493) ∈ gt ∧ Cond.selects (mY M_J0_coder_7d493).cls (mY M_J0_coder_7d493) (mY M_J0_coder_7d493) ∈ gt := ⟨gw_519, gw_520⟩
theorem cnt_J0_coder_7d493 : Cnt M_J0_coder_7d493 0 := by unfold Cnt; decide +kernel
theorem cal_J0_isLatin1_aae02 : Cal M_J0_isLatin1_aae02 := ⟨rfl, gw_531, gw_124, ⟨by decide, by decide⟩⟩
theorem cai_J0_isLatin1_aae02 : Cond.instanceMethod (mY M_J0_isLatin1_aae02) ∈ gt ∧ Cond.selects (mY M_J0_isLatin1_aae02).cls (mY M_J0_isLatin1_aae02) (mY M_J0_isLatin1_aae02) ∈ gt := ⟨gw_529, gw_530⟩
theorem cnt_J0_isLatin1_aae02 : Cnt M_J0_isLatin1_aae02 0 := by unfold Cnt; decide +kernel
theorem cal_J0_length_8abf5 : Cal M_J0_length_8abf5 := ⟨rfl, gw_517, gw_124, ⟨by decide, by decide⟩⟩
theorem cai_J0_length_8abf5 : Cond.instanceMethod (mY M_J0_length_8abf5) ∈ gt ∧ Cond.selects (mY M_J0_length_8abf5).cls (mY M_J0_length_8abf5) (mY M_J0_length_8abf5) ∈ gt := ⟨gw_515, gw_516⟩
theorem cnt_J0_length_8abf5 : Cnt M_J0_length_8abf5 0 := by unfold Cnt; decide +kernel
theorem cal_J1_charAt_3b067 : Cal M_J1_charAt_3b067 := ⟨rfl, gw_534, gw_125, ⟨by decide, by decide⟩⟩
theorem cas_J1_charAt_3b067 : Cond.static (mY M_J1_charAt_3b067) ∈ gt := gw_533
theorem cnt_J1_charAt_3b067 : Cnt M_J1_charAt_3b067 2 := by unfold Cnt; decide +kernel
theorem cal_J2_charAt_3b067 : Cal M_J2_charAt_3b067 := ⟨rfl, gw_545, gw_127, ⟨by decide, by decide⟩⟩
theorem cas_J2_charAt_3b067 : Cond.static (mY M_J2_charAt_3b067) ∈ gt := gw_544
theorem cnt_J2_charAt_3b067 : Cnt M_J2_charAt_3b067 2 := by unfold Cnt; decide +kernel
theorem cal_J3_checkIndex_8e157 : Cal M_J3_checkIndex_8e157 := ⟨rfl, gw_542, gw_126, ⟨by decide, by decide⟩⟩
theorem cas_J3_checkIndex_8e157 : Cond.static (mY M_J3_checkIndex_8e157) ∈ gt := gw_541
theorem cnt_J3_checkIndex_8e157 : Cnt M_J3_checkIndex_8e157 3 := by unfold Cnt; decide +kernel
theorem cal_J6_bitCount_0f7a4 : Cal M_J6_bitCount_0f7a4 := ⟨rfl, gw_922, gw_131, ⟨by decide, by decide⟩⟩
theorem cas_J6_bitCount_0f7a4 : Cond.static (mY M_J6_bitCount_0f7a4) ∈ gt := gw_921
theorem cnt_J6_bitCount_0f7a4 : Cnt M_J6_bitCount_0f7a4 1 := by unfold Cnt; decide +kernel
theorem cal_J9_abs_0f7a4 : Cal M_J9_abs_0f7a4 := ⟨rfl, gw_764, gw_129, ⟨by decide, by decide⟩⟩
theorem cas_J9_abs_0f7a4 : Cond.static (mY M_J9_abs_0f7a4) ∈ gt := gw_763
theorem cnt_J9_abs_0f7a4 : Cnt M_J9_abs_0f7a4 1 := by unfold Cnt; decide +kernel
theorem cal_J9_max_7cf53 : Cal M_J9_max_7cf53 := ⟨rfl, gw_611, gw_129, ⟨by decide, by decide⟩⟩
theorem cas_J9_max_7cf53 : Cond.static (mY M_J9_max_7cf53) ∈ gt := gw_610
theorem cnt_J9_max_7cf53 : Cnt M_J9_max_7cf53 2 := by unfold Cnt; decide +kernel
theorem cal_J9_min_7cf53 : Cal M_J9_min_7cf53 := ⟨rfl, gw_608, gw_129, ⟨by decide, by decide⟩⟩
theorem cas_J9_min_7cf53 : Cond.static (mY M_J9_min_7cf53) ∈ gt := gw_607
theorem cnt_J9_min_7cf53 : Cnt M_J9_min_7cf53 2 := by unfold Cnt; decide +kernel
theorem cal_X0_chimesAt : Cal M_X0_chimesAt := ⟨rfl, gw_1280, gw_111, ⟨by decide, by decide⟩⟩
theorem cai_X0_chimesAt : Cond.instanceMethod (mY M_X0_chimesAt) ∈ gt ∧ Cond.selects (mY M_X0_chimesAt).cls (mY M_X0_chimesAt) (mY M_X0_chimesAt) ∈ gt := ⟨gw_1278, gw_1279⟩
theorem cnt_X0_chimesAt : Cnt M_X0_chimesAt 1 := by unfold Cnt; decide +kernel
theorem cal_X0_copyFrom : Cal M_X0_copyFrom := ⟨rfl, gw_788, gw_111, ⟨by decide, by decide⟩⟩
theorem cai_X0_copyFrom : Cond.instanceMethod (mY M_X0_copyFrom) ∈ gt ∧ Cond.selects (mY M_X0_copyFrom).cls (mY M_X0_copyFrom) (mY M_X0_copyFrom) ∈ gt := ⟨gw_786, gw_787⟩
theorem cnt_X0_copyFrom : Cnt M_X0_copyFrom 1 := by unfold Cnt; decide +kernel
theorem cal_X0_hangs : Cal M_X0_hangs := ⟨rfl, gw_749, gw_111, ⟨by decide, by decide⟩⟩
theorem cai_X0_hangs : Cond.instanceMethod (mY M_X0_hangs) ∈ gt ∧ Cond.selects (mY M_X0_hangs).cls (mY M_X0_hangs) (mY M_X0_hangs) ∈ gt := ⟨gw_747, gw_748⟩
theorem cnt_X0_hangs : Cnt M_X0_hangs 0 := by unfold Cnt; decide +kernel
theorem cal_X0_hasChime : Cal M_X0_hasChime := ⟨rfl, gw_1226, gw_111, ⟨by decide, by decide⟩⟩
theorem cai_X0_hasChime : Cond.instanceMethod (mY M_X0_hasChime) ∈ gt ∧ Cond.selects (mY M_X0_hasChime).cls (mY M_X0_hasChime) (mY M_X0_hasChime) ∈ gt := ⟨gw_1224, gw_1225⟩
theorem cnt_X0_hasChime : Cnt M_X0_hasChime 0 := by unfold Cnt; decide +kernel
theorem cal_X0_hasPlan : Cal M_X0_hasPlan := ⟨rfl, gw_953, gw_111, ⟨by decide, by decide⟩⟩
theorem cai_X0_hasPlan : Cond.instanceMethod (mY M_X0_hasPlan) ∈ gt ∧ Cond.selects (mY M_X0_hasPlan).cls (mY M_X0_hasPlan) (mY M_X0_hasPlan) ∈ gt := ⟨gw_951, gw_952⟩
theorem cnt_X0_hasPlan : Cnt M_X0_hasPlan 0 := by unfold Cnt; decide +kernel
theorem cal_X0_plannedWhereItHangs : Cal M_X0_plannedWhereItHangs := ⟨rfl, gw_980, gw_111, ⟨by decide, by decide⟩⟩
theorem cai_X0_plannedWhereItHangs : Cond.instanceMethod (mY M_X0_plannedWhereItHangs) ∈ gt ∧ Cond.selects (mY M_X0_plannedWhereItHangs).cls (mY M_X0_plannedWhereItHangs) (mY M_X0_plannedWhereItHangs) ∈ gt := ⟨gw_978, gw_979⟩
theorem cnt_X0_plannedWhereItHangs : Cnt M_X0_plannedWhereItHangs 0 := by unfold Cnt; decide +kernel
theorem cal_X0_reset : Cal M_X0_reset := ⟨rfl, gw_601, gw_111, ⟨by decide, by decide⟩⟩
theorem cai_X0_reset : Cond.instanceMethod (mY M_X0_reset) ∈ gt ∧ Cond.selects (mY M_X0_reset).cls (mY M_X0_reset) (mY M_X0_reset) ∈ gt := ⟨gw_599, gw_600⟩
theorem cnt_X0_reset : Cnt M_X0_reset 0 := by unfold Cnt; decide +kernel
theorem cal_X0_sharesBeamWith : Cal M_X0_sharesBeamWith := ⟨rfl, gw_870, gw_111, ⟨by decide, by decide⟩⟩
theorem cai_X0_sharesBeamWith : Cond.instanceMethod (mY M_X0_sharesBeamWith) ∈ gt ∧ Cond.selects (mY M_X0_sharesBeamWith).cls (mY M_X0_sharesBeamWith) (mY M_X0_sharesBeamWith) ∈ gt := ⟨gw_868, gw_869⟩
theorem cnt_X0_sharesBeamWith : Cnt M_X0_sharesBeamWith 1 := by unfold Cnt; decide +kernel
theorem cal_X0_swings : Cal M_X0_swings := ⟨rfl, gw_1077, gw_111, ⟨by decide, by decide⟩⟩
theorem cai_X0_swings : Cond.instanceMethod (mY M_X0_swings) ∈ gt ∧ Cond.selects (mY M_X0_swings).cls (mY M_X0_swings) (mY M_X0_swings) ∈ gt := ⟨gw_1075, gw_1076⟩
theorem cnt_X0_swings : Cnt M_X0_swings 0 := by unfold Cnt; decide +kernel
theorem cal_X10_after : Cal M_X10_after := ⟨rfl, gw_1841, gw_118, ⟨by decide, by decide⟩⟩
theorem cai_X10_after : Cond.instanceMethod (mY M_X10_after) ∈ gt ∧ Cond.selects (mY M_X10_after).cls (mY M_X10_after) (mY M_X10_after) ∈ gt := ⟨gw_1840, gw_82⟩
theorem cnt_X10_after : Cnt M_X10_after 2 := by unfold Cnt; decide +kernel
theorem cal_X10_areClear : Cal M_X10_areClear := ⟨rfl, gw_1805, gw_118, ⟨by decide, by decide⟩⟩
theorem cai_X10_areClear : Cond.instanceMethod (mY M_X10_areClear) ∈ gt ∧ Cond.selects (mY M_X10_areClear).cls (mY M_X10_areClear) (mY M_X10_areClear) ∈ gt := ⟨gw_1804, gw_75⟩
theorem cnt_X10_areClear : Cnt M_X10_areClear 2 := by unfold Cnt; decide +kernel
theorem cal_X10_areTogether : Cal M_X10_areTogether := ⟨rfl, gw_1890, gw_118, ⟨by decide, by decide⟩⟩
theorem cai_X10_areTogether : Cond.instanceMethod (mY M_X10_areTogether) ∈ gt ∧ Cond.selects (mY M_X10_areTogether).cls (mY M_X10_areTogether) (mY M_X10_areTogether) ∈ gt := ⟨gw_1889, gw_88⟩
theorem cnt_X10_areTogether : Cnt M_X10_areTogether 2 := by unfold Cnt; decide +kernel
theorem cal_X10_begins : Cal M_X10_begins := ⟨rfl, gw_1618, gw_118, ⟨by decide, by decide⟩⟩
theorem cai_X10_begins : Cond.instanceMethod (mY M_X10_begins) ∈ gt ∧ Cond.selects (mY M_X10_begins).cls (mY M_X10_begins) (mY M_X10_begins) ∈ gt := ⟨gw_1617, gw_49⟩
theorem cnt_X10_begins : Cnt M_X10_begins 2 := by unfold Cnt; decide +kernel
theorem cal_X10_bellsOn : Cal M_X10_bellsOn := ⟨rfl, gw_1718, gw_118, ⟨by decide, by decide⟩⟩
theorem cai_X10_bellsOn : Cond.instanceMethod (mY M_X10_bellsOn) ∈ gt ∧ Cond.selects (mY M_X10_bellsOn).cls (mY M_X10_bellsOn) (mY M_X10_bellsOn) ∈ gt := ⟨gw_1717, gw_68⟩
theorem cnt_X10_bellsOn : Cnt M_X10_bellsOn 1 := by unfold Cnt; decide +kernel
theorem cal_X10_bestMirror : Cal M_X10_bestMirror := ⟨rfl, gw_1762, gw_118, ⟨by decide, by decide⟩⟩
theorem cai_X10_bestMirror : Cond.instanceMethod (mY M_X10_bestMirror) ∈ gt ∧ Cond.selects (mY M_X10_bestMirror).cls (mY M_X10_bestMirror) (mY M_X10_bestMirror) ∈ gt := ⟨gw_1761, gw_70⟩
theorem cnt_X10_bestMirror : Cnt M_X10_bestMirror 1 := by unfold Cnt; decide +kernel
theorem cal_X10_bestWith : Cal M_X10_bestWith := ⟨rfl, gw_2036, gw_118, ⟨by decide, by decide⟩⟩
theorem cai_X10_bestWith : Cond.instanceMethod (mY M_X10_bestWith) ∈ gt ∧ Cond.selects (mY M_X10_bestWith).cls (mY M_X10_bestWith) (mY M_X10_bestWith) ∈ gt := ⟨gw_2035, gw_105⟩
theorem cnt_X10_bestWith : Cnt M_X10_bestWith 2 := by unfold Cnt; decide +kernel
theorem cal_X10_byteAt : Cal M_X10_byteAt := ⟨rfl, gw_1591, gw_118, ⟨by decide, by decide⟩⟩
theorem cai_X10_byteAt : Cond.instanceMethod (mY M_X10_byteAt) ∈ gt ∧ Cond.selects (mY M_X10_byteAt).cls (mY M_X10_byteAt) (mY M_X10_byteAt) ∈ gt := ⟨gw_1590, gw_44⟩
theorem cnt_X10_byteAt : Cnt M_X10_byteAt 1 := by unfold Cnt; decide +kernel
theorem cal_X10_canBe : Cal M_X10_canBe := ⟨rfl, gw_1833, gw_118, ⟨by decide, by decide⟩⟩
theorem cai_X10_canBe : Cond.instanceMethod (mY M_X10_canBe) ∈ gt ∧ Cond.selects (mY M_X10_canBe).cls (mY M_X10_canBe) (mY M_X10_canBe) ∈ gt := ⟨gw_1832, gw_80⟩
theorem cnt_X10_canBe : Cnt M_X10_canBe 1 := by unfold Cnt; decide +kernel
theorem cal_X10_canHang : Cal M_X10_canHang := ⟨rfl, gw_1750, gw_118, ⟨by decide, by decide⟩⟩
theorem cai_X10_canHang : Cond.instanceMethod (mY M_X10_canHang) ∈ gt ∧ Cond.selects (mY M_X10_canHang).cls (mY M_X10_canHang) (mY M_X10_canHang) ∈ gt := ⟨gw_1749, gw_69⟩
theorem cnt_X10_canHang : Cnt M_X10_canHang 3 := by unfold Cnt; decide +kernel
theorem cal_X10_chimes : Cal M_X10_chimes := ⟨rfl, gw_1948, gw_118, ⟨by decide, by decide⟩⟩
theorem cai_X10_chimes : Cond.instanceMethod (mY M_X10_chimes) ∈ gt ∧ Cond.selects (mY M_X10_chimes).cls (mY M_X10_chimes) (mY M_X10_chimes) ∈ gt := ⟨gw_1947, gw_94⟩
theorem cnt_X10_chimes : Cnt M_X10_chimes 1 := by unfold Cnt; decide +kernel
theorem cal_X10_choose : Cal M_X10_choose := ⟨rfl, gw_2040, gw_118, ⟨by decide, by decide⟩⟩
theorem cai_X10_choose : Cond.instanceMethod (mY M_X10_choose) ∈ gt ∧ Cond.selects (mY M_X10_choose).cls (mY M_X10_choose) (mY M_X10_choose) ∈ gt := ⟨gw_2039, gw_106⟩
theorem cnt_X10_choose : Cnt M_X10_choose 3 := by unfold Cnt; decide +kernel
theorem cal_X10_collide : Cal M_X10_collide := ⟨rfl, gw_1906, gw_118, ⟨by decide, by decide⟩⟩
theorem cai_X10_collide : Cond.instanceMethod (mY M_X10_collide) ∈ gt ∧ Cond.selects (mY M_X10_collide).cls (mY M_X10_collide) (mY M_X10_collide) ∈ gt := ⟨gw_1905, gw_91⟩
theorem cnt_X10_collide : Cnt M_X10_collide 3 := by unfold Cnt; decide +kernel
theorem cal_X10_collision : Cal M_X10_collision := ⟨rfl, gw_1902, gw_118, ⟨by decide, by decide⟩⟩
theorem cai_X10_collision : Cond.instanceMethod (mY M_X10_collision) ∈ gt ∧ Cond.selects (mY M_X10_collision).cls (mY M_X10_collision) (mY M_X10_collision) ∈ gt := ⟨gw_1901, gw_90⟩
theorem cnt_X10_collision : Cnt M_X10_collision 0 := by unfold Cnt; decide +kernel
theorem cal_X10_count : Cal M_X10_count := ⟨rfl, gw_1773, gw_118, ⟨by decide, by decide⟩⟩
theorem cas_X10_count : Cond.static (mY M_X10_count) ∈ gt := gw_1772
theorem cnt_X10_count : Cnt M_X10_count 1 := by unfold Cnt; decide +kernel
theorem cal_X10_cutting : Cal M_X10_cutting := ⟨rfl, gw_2016, gw_118, ⟨by decide, by decide⟩⟩
theorem cai_X10_cutting : Cond.instanceMethod (mY M_X10_cutting) ∈ gt ∧ Cond.selects (mY M_X10_cutting).cls (mY M_X10_cutting) (mY M_X10_cutting) ∈ gt := ⟨gw_2015, gw_100⟩
theorem cnt_X10_cutting : Cnt M_X10_cutting 0 := by unfold Cnt; decide +kernel
theorem cal_X10_digitOf : Cal M_X10_digitOf := ⟨rfl, gw_1844, gw_118, ⟨by decide, by decide⟩⟩
theorem cas_X10_digitOf : Cond.static (mY M_X10_digitOf) ∈ gt := gw_1843
theorem cnt_X10_digitOf : Cnt M_X10_digitOf 2 := by unfold Cnt; decide +kernel
theorem cal_X10_expectSemicolon : Cal M_X10_expectSemicolon := ⟨rfl, gw_1635, gw_118, ⟨by decide, by decide⟩⟩
theorem cai_X10_expectSemicolon : Cond.instanceMethod (mY M_X10_expectSemicolon) ∈ gt ∧ Cond.selects (mY M_X10_expectSemicolon).cls (mY M_X10_expectSemicolon) (mY M_X10_expectSemicolon) ∈ gt := ⟨gw_1634, gw_53⟩
theorem cnt_X10_expectSemicolon : Cnt M_X10_expectSemicolon 0 := by unfold Cnt; decide +kernel
theorem cal_X10_fail : Cal M_X10_fail := ⟨rfl, gw_1622, gw_118, ⟨by decide, by decide⟩⟩
theorem cai_X10_fail : Cond.instanceMethod (mY M_X10_fail) ∈ gt ∧ Cond.selects (mY M_X10_fail).cls (mY M_X10_fail) (mY M_X10_fail) ∈ gt := ⟨gw_1621, gw_50⟩
theorem cnt_X10_fail : Cnt M_X10_fail 1 := by unfold Cnt; decide +kernel
theorem cal_X10_findWays : Cal M_X10_findWays := ⟨rfl, gw_1825, gw_118, ⟨by decide, by decide⟩⟩
theorem cai_X10_findWays : Cond.instanceMethod (mY M_X10_findWays) ∈ gt ∧ Cond.selects (mY M_X10_findWays).cls (mY M_X10_findWays) (mY M_X10_findWays) ∈ gt := ⟨gw_1824, gw_78⟩
theorem cnt_X10_findWays : Cnt M_X10_findWays 0 := by unfold Cnt; decide +kernel
theorem cal_X10_gapBy : Cal M_X10_gapBy := ⟨rfl, gw_1894, gw_118, ⟨by decide, by decide⟩⟩
theorem cai_X10_gapBy : Cond.instanceMethod (mY M_X10_gapBy) ∈ gt ∧ Cond.selects (mY M_X10_gapBy).cls (mY M_X10_gapBy) (mY M_X10_gapBy) ∈ gt := ⟨gw_1893, gw_89⟩
theorem cnt_X10_gapBy : Cnt M_X10_gapBy 4 := by unfold Cnt; decide +kernel
theorem cal_X10_goal : Cal M_X10_goal := ⟨rfl, gw_1797, gw_118, ⟨by decide, by decide⟩⟩
theorem cai_X10_goal : Cond.instanceMethod (mY M_X10_goal) ∈ gt ∧ Cond.selects (mY M_X10_goal).cls (mY M_X10_goal) (mY M_X10_goal) ∈ gt := ⟨gw_1796, gw_73⟩
theorem cnt_X10_goal : Cnt M_X10_goal 0 := by unfold Cnt; decide +kernel
theorem cal_X10_hanging : Cal M_X10_hanging := ⟨rfl, gw_2024, gw_118, ⟨by decide, by decide⟩⟩
theorem cai_X10_hanging : Cond.instanceMethod (mY M_X10_hanging) ∈ gt ∧ Cond.selects (mY M_X10_hanging).cls (mY M_X10_hanging) (mY M_X10_hanging) ∈ gt := ⟨gw_2023, gw_102⟩
theorem cnt_X10_hanging : Cnt M_X10_hanging 0 := by unfold Cnt; decide +kernel
theorem cal_X10_hangs : Cal M_X10_hangs := ⟨rfl, gw_1687, gw_118, ⟨by decide, by decide⟩⟩
theorem cai_X10_hangs : Cond.instanceMethod (mY M_X10_hangs) ∈ gt ∧ Cond.selects (mY M_X10_hangs).cls (mY M_X10_hangs) (mY M_X10_hangs) ∈ gt := ⟨gw_1686, gw_61⟩
theorem cnt_X10_hangs : Cnt M_X10_hangs 1 := by unfold Cnt; decide +kernel
theorem cal_X10_has : Cal M_X10_has := ⟨rfl, gw_1770, gw_118, ⟨by decide, by decide⟩⟩
theorem cas_X10_has : Cond.static (mY M_X10_has) ∈ gt := gw_1769
theorem cnt_X10_has : Cnt M_X10_has 2 := by unfold Cnt; decide +kernel
theorem cal_X10_isAtGoal : Cal M_X10_isAtGoal := ⟨rfl, gw_1837, gw_118, ⟨by decide, by decide⟩⟩
theorem cai_X10_isAtGoal : Cond.instanceMethod (mY M_X10_isAtGoal) ∈ gt ∧ Cond.selects (mY M_X10_isAtGoal).cls (mY M_X10_isAtGoal) (mY M_X10_isAtGoal) ∈ gt := ⟨gw_1836, gw_81⟩
theorem cnt_X10_isAtGoal : Cnt M_X10_isAtGoal 1 := by unfold Cnt; decide +kernel
theorem cal_X10_isBalanced : Cal M_X10_isBalanced := ⟨rfl, gw_1706, gw_118, ⟨by decide, by decide⟩⟩
theorem cai_X10_isBalanced : Cond.instanceMethod (mY M_X10_isBalanced) ∈ gt ∧ Cond.selects (mY M_X10_isBalanced).cls (mY M_X10_isBalanced) (mY M_X10_isBalanced) ∈ gt := ⟨gw_1705, gw_65⟩
theorem cnt_X10_isBalanced : Cnt M_X10_isBalanced 2 := by unfold Cnt; decide +kernel
theorem cal_X10_isBeam : Cal M_X10_isBeam := ⟨rfl, gw_1678, gw_118, ⟨by decide, by decide⟩⟩
theorem cai_X10_isBeam : Cond.instanceMethod (mY M_X10_isBeam) ∈ gt ∧ Cond.selects (mY M_X10_isBeam).cls (mY M_X10_isBeam) (mY M_X10_isBeam) ∈ gt := ⟨gw_1677, gw_60⟩
theorem cnt_X10_isBeam : Cnt M_X10_isBeam 1 := by unfold Cnt; decide +kernel
theorem cal_X10_isBell : Cal M_X10_isBell := ⟨rfl, gw_1674, gw_118, ⟨by decide, by decide⟩⟩
theorem cai_X10_isBell : Cond.instanceMethod (mY M_X10_isBell) ∈ gt ∧ Cond.selects (mY M_X10_isBell).cls (mY M_X10_isBell) (mY M_X10_isBell) ∈ gt := ⟨gw_1673, gw_59⟩
theorem cnt_X10_isBell : Cnt M_X10_isBell 1 := by unfold Cnt; decide +kernel
theorem cal_X10_isClear : Cal M_X10_isClear := ⟨rfl, gw_1695, gw_118, ⟨by decide, by decide⟩⟩
theorem cai_X10_isClear : Cond.instanceMethod (mY M_X10_isClear) ∈ gt ∧ Cond.selects (mY M_X10_isClear).cls (mY M_X10_isClear) (mY M_X10_isClear) ∈ gt := ⟨gw_1694, gw_63⟩
theorem cnt_X10_isClear : Cnt M_X10_isClear 3 := by unfold Cnt; decide +kernel
theorem cal_X10_isDigitAt : Cal M_X10_isDigitAt := ⟨rfl, gw_1601, gw_118, ⟨by decide, by decide⟩⟩
theorem cai_X10_isDigitAt : Cond.instanceMethod (mY M_X10_isDigitAt) ∈ gt ∧ Cond.selects (mY M_X10_isDigitAt).cls (mY M_X10_isDigitAt) (mY M_X10_isDigitAt) ∈ gt := ⟨gw_1600, gw_46⟩
theorem cnt_X10_isDigitAt : Cnt M_X10_isDigitAt 1 := by unfold Cnt; decide +kernel
theorem cal_X10_isFine : Cal M_X10_isFine := ⟨rfl, gw_1587, gw_118, ⟨by decide, by decide⟩⟩
theorem cai_X10_isFine : Cond.instanceMethod (mY M_X10_isFine) ∈ gt ∧ Cond.selects (mY M_X10_isFine).cls (mY M_X10_isFine) (mY M_X10_isFine) ∈ gt := ⟨gw_1586, gw_43⟩
theorem cnt_X10_isFine : Cnt M_X10_isFine 0 := by unfold Cnt; decide +kernel
theorem cal_X10_isIn : Cal M_X10_isIn := ⟨rfl, gw_1575, gw_118, ⟨by decide, by decide⟩⟩
theorem cas_X10_isIn : Cond.static (mY M_X10_isIn) ∈ gt := gw_1574
theorem cnt_X10_isIn : Cnt M_X10_isIn 3 := by unfold Cnt; decide +kernel
theorem cal_X10_isKeyword : Cal M_X10_isKeyword := ⟨rfl, gw_1612, gw_118, ⟨by decide, by decide⟩⟩
theorem cai_X10_isKeyword : Cond.instanceMethod (mY M_X10_isKeyword) ∈ gt ∧ Cond.selects (mY M_X10_isKeyword).cls (mY M_X10_isKeyword) (mY M_X10_isKeyword) ∈ gt := ⟨gw_1611, gw_48⟩
theorem cnt_X10_isKeyword : Cnt M_X10_isKeyword 1 := by unfold Cnt; decide +kernel
theorem cal_X10_isLetterAt : Cal M_X10_isLetterAt := ⟨rfl, gw_1595, gw_118, ⟨by decide, by decide⟩⟩
theorem cai_X10_isLetterAt : Cond.instanceMethod (mY M_X10_isLetterAt) ∈ gt ∧ Cond.selects (mY M_X10_isLetterAt).cls (mY M_X10_isLetterAt) (mY M_X10_isLetterAt) ∈ gt := ⟨gw_1594, gw_45⟩
theorem cnt_X10_isLetterAt : Cnt M_X10_isLetterAt 1 := by unfold Cnt; decide +kernel
theorem cal_X10_isLoudFrom : Cal M_X10_isLoudFrom := ⟨rfl, gw_2000, gw_118, ⟨by decide, by decide⟩⟩
theorem cai_X10_isLoudFrom : Cond.instanceMethod (mY M_X10_isLoudFrom) ∈ gt ∧ Cond.selects (mY M_X10_isLoudFrom).cls (mY M_X10_isLoudFrom) (mY M_X10_isLoudFrom) ∈ gt := ⟨gw_1999, gw_98⟩
theorem cnt_X10_isLoudFrom : Cnt M_X10_isLoudFrom 2 := by unfold Cnt; decide +kernel
theorem cal_X10_isMirrorClear : Cal M_X10_isMirrorClear := ⟨rfl, gw_1767, gw_118, ⟨by decide, by decide⟩⟩
theorem cai_X10_isMirrorClear : Cond.instanceMethod (mY M_X10_isMirrorClear) ∈ gt ∧ Cond.selects (mY M_X10_isMirrorClear).cls (mY M_X10_isMirrorClear) (mY M_X10_isMirrorClear) ∈ gt := ⟨gw_1766, gw_71⟩
theorem cnt_X10_isMirrorClear : Cnt M_X10_isMirrorClear 2 := by unfold Cnt; decide +kernel
theorem cal_X10_isPlaced : Cal M_X10_isPlaced := ⟨rfl, gw_1809, gw_118, ⟨by decide, by decide⟩⟩
theorem cai_X10_isPlaced : Cond.instanceMethod (mY M_X10_isPlaced) ∈ gt ∧ Cond.selects (mY M_X10_isPlaced).cls (mY M_X10_isPlaced) (mY M_X10_isPlaced) ∈ gt := ⟨gw_1808, gw_76⟩
theorem cnt_X10_isPlaced : Cnt M_X10_isPlaced 1 := by unfold Cnt; decide +kernel
theorem cal_X10_isPosition : Cal M_X10_isPosition := ⟨rfl, gw_1681, gw_118, ⟨by decide, by decide⟩⟩
theorem cas_X10_isPosition : Cond.static (mY M_X10_isPosition) ∈ gt := gw_1680
theorem cnt_X10_isPosition : Cnt M_X10_isPosition 1 := by unfold Cnt; decide +kernel
theorem cal_X10_isSafe : Cal M_X10_isSafe := ⟨rfl, gw_1918, gw_118, ⟨by decide, by decide⟩⟩
theorem cai_X10_isSafe : Cond.instanceMethod (mY M_X10_isSafe) ∈ gt ∧ Cond.selects (mY M_X10_isSafe).cls (mY M_X10_isSafe) (mY M_X10_isSafe) ∈ gt := ⟨gw_1917, gw_92⟩
theorem cnt_X10_isSafe : Cnt M_X10_isSafe 3 := by unfold Cnt; decide +kernel
theorem cal_X10_isSilent : Cal M_X10_isSilent := ⟨rfl, gw_1956, gw_118, ⟨by decide, by decide⟩⟩
theorem cai_X10_isSilent : Cond.instanceMethod (mY M_X10_isSilent) ∈ gt ∧ Cond.selects (mY M_X10_isSilent).cls (mY M_X10_isSilent) (mY M_X10_isSilent) ∈ gt := ⟨gw_1955, gw_95⟩
theorem cnt_X10_isSilent : Cnt M_X10_isSilent 1 := by unfold Cnt; decide +kernel
theorem cal_X10_isWrong : Cal M_X10_isWrong := ⟨rfl, gw_1666, gw_118, ⟨by decide, by decide⟩⟩
theorem cai_X10_isWrong : Cond.instanceMethod (mY M_X10_isWrong) ∈ gt ∧ Cond.selects (mY M_X10_isWrong).cls (mY M_X10_isWrong) (mY M_X10_isWrong) ∈ gt := ⟨gw_1665, gw_58⟩
theorem cnt_X10_isWrong : Cnt M_X10_isWrong 1 := by unfold Cnt; decide +kernel
theorem cal_X10_layFewest : Cal M_X10_layFewest := ⟨rfl, gw_2032, gw_118, ⟨by decide, by decide⟩⟩
theorem cai_X10_layFewest : Cond.instanceMethod (mY M_X10_layFewest) ∈ gt ∧ Cond.selects (mY M_X10_layFewest).cls (mY M_X10_layFewest) (mY M_X10_layFewest) ∈ gt := ⟨gw_2031, gw_104⟩
theorem cnt_X10_layFewest : Cnt M_X10_layFewest 0 := by unfold Cnt; decide +kernel
theorem cal_X10_layOut : Cal M_X10_layOut := ⟨rfl, gw_1801, gw_118, ⟨by decide, by decide⟩⟩
theorem cai_X10_layOut : Cond.instanceMethod (mY M_X10_layOut) ∈ gt ∧ Cond.selects (mY M_X10_layOut).cls (mY M_X10_layOut) (mY M_X10_layOut) ∈ gt := ⟨gw_1800, gw_74⟩
theorem cnt_X10_layOut : Cnt M_X10_layOut 1 := by unfold Cnt; decide +kernel
theorem cal_X10_laySums : Cal M_X10_laySums := ⟨rfl, gw_2020, gw_118, ⟨by decide, by decide⟩⟩
theorem cai_X10_laySums : Cond.instanceMethod (mY M_X10_laySums) ∈ gt ∧ Cond.selects (mY M_X10_laySums).cls (mY M_X10_laySums) (mY M_X10_laySums) ∈ gt := ⟨gw_2019, gw_101⟩
theorem cnt_X10_laySums : Cnt M_X10_laySums 0 := by unfold Cnt; decide +kernel
theorem cal_X10_lengthOf : Cal M_X10_lengthOf := ⟨rfl, gw_2008, gw_118, ⟨by decide, by decide⟩⟩
theorem cai_X10_lengthOf : Cond.instanceMethod (mY M_X10_lengthOf) ∈ gt ∧ Cond.selects (mY M_X10_lengthOf).cls (mY M_X10_lengthOf) (mY M_X10_lengthOf) ∈ gt := ⟨gw_2007, gw_99⟩
theorem cnt_X10_lengthOf : Cnt M_X10_lengthOf 1 := by unfold Cnt; decide +kernel
theorem cal_X10_lengthsOf : Cal M_X10_lengthsOf := ⟨rfl, gw_2028, gw_118, ⟨by decide, by decide⟩⟩
theorem cai_X10_lengthsOf : Cond.instanceMethod (mY M_X10_lengthsOf) ∈ gt ∧ Cond.selects (mY M_X10_lengthsOf).cls (mY M_X10_lengthsOf) (mY M_X10_lengthsOf) ∈ gt := ⟨gw_2027, gw_103⟩
theorem cnt_X10_lengthsOf : Cnt M_X10_lengthsOf 1 := by unfold Cnt; decide +kernel
theorem cal_X10_next : Cal M_X10_next := ⟨rfl, gw_1583, gw_118, ⟨by decide, by decide⟩⟩
theorem cai_X10_next : Cond.instanceMethod (mY M_X10_next) ∈ gt ∧ Cond.selects (mY M_X10_next).cls (mY M_X10_next) (mY M_X10_next) ∈ gt := ⟨gw_1582, gw_42⟩
theorem cnt_X10_next : Cnt M_X10_next 0 := by unfold Cnt; decide +kernel
theorem cal_X10_of : Cal M_X10_of := ⟨rfl, gw_1691, gw_118, ⟨by decide, by decide⟩⟩
theorem cai_X10_of : Cond.instanceMethod (mY M_X10_of) ∈ gt ∧ Cond.selects (mY M_X10_of).cls (mY M_X10_of) (mY M_X10_of) ∈ gt := ⟨gw_1690, gw_62⟩
theorem cnt_X10_of : Cnt M_X10_of 2 := by unfold Cnt; decide +kernel
theorem cal_X10_offsetAt : Cal M_X10_offsetAt := ⟨rfl, gw_1878, gw_118, ⟨by decide, by decide⟩⟩
theorem cai_X10_offsetAt : Cond.instanceMethod (mY M_X10_offsetAt) ∈ gt ∧ Cond.selects (mY M_X10_offsetAt).cls (mY M_X10_offsetAt) (mY M_X10_offsetAt) ∈ gt := ⟨gw_1877, gw_86⟩
theorem cnt_X10_offsetAt : Cnt M_X10_offsetAt 2 := by unfold Cnt; decide +kernel
theorem cal_X10_offsetBy : Cal M_X10_offsetBy := ⟨rfl, gw_1882, gw_118, ⟨by decide, by decide⟩⟩
theorem cai_X10_offsetBy : Cond.instanceMethod (mY M_X10_offsetBy) ∈ gt ∧ Cond.selects (mY M_X10_offsetBy).cls (mY M_X10_offsetBy) (mY M_X10_offsetBy) ∈ gt := ⟨gw_1881, gw_87⟩
theorem cnt_X10_offsetBy : Cnt M_X10_offsetBy 4 := by unfold Cnt; decide +kernel
theorem cal_X10_plans : Cal M_X10_plans := ⟨rfl, gw_1785, gw_118, ⟨by decide, by decide⟩⟩
theorem cai_X10_plans : Cond.instanceMethod (mY M_X10_plans) ∈ gt ∧ Cond.selects (mY M_X10_plans).cls (mY M_X10_plans) (mY M_X10_plans) ∈ gt := ⟨gw_1784, gw_72⟩
theorem cnt_X10_plans : Cnt M_X10_plans 0 := by unfold Cnt; decide +kernel
theorem cal_X10_powerOf : Cal M_X10_powerOf := ⟨rfl, gw_1829, gw_118, ⟨by decide, by decide⟩⟩
theorem cai_X10_powerOf : Cond.instanceMethod (mY M_X10_powerOf) ∈ gt ∧ Cond.selects (mY M_X10_powerOf).cls (mY M_X10_powerOf) (mY M_X10_powerOf) ∈ gt := ⟨gw_1828, gw_79⟩
theorem cnt_X10_powerOf : Cnt M_X10_powerOf 1 := by unfold Cnt; decide +kernel
theorem cal_X10_present : Cal M_X10_present := ⟨rfl, gw_1848, gw_118, ⟨by decide, by decide⟩⟩
theorem cai_X10_present : Cond.instanceMethod (mY M_X10_present) ∈ gt ∧ Cond.selects (mY M_X10_present).cls (mY M_X10_present) (mY M_X10_present) ∈ gt := ⟨gw_1847, gw_83⟩
theorem cnt_X10_present : Cnt M_X10_present 0 := by unfold Cnt; decide +kernel
theorem cal_X10_pull : Cal M_X10_pull := ⟨rfl, gw_1702, gw_118, ⟨by decide, by decide⟩⟩
theorem cai_X10_pull : Cond.instanceMethod (mY M_X10_pull) ∈ gt ∧ Cond.selects (mY M_X10_pull).cls (mY M_X10_pull) (mY M_X10_pull) ∈ gt := ⟨gw_1701, gw_64⟩
theorem cnt_X10_pull : Cnt M_X10_pull 1 := by unfold Cnt; decide +kernel
theorem cal_X10_put : Cal M_X10_put := ⟨rfl, gw_1568, gw_118, ⟨by decide, by decide⟩⟩
theorem cai_X10_put : Cond.instanceMethod (mY M_X10_put) ∈ gt ∧ Cond.selects (mY M_X10_put).cls (mY M_X10_put) (mY M_X10_put) ∈ gt := ⟨gw_1567, gw_41⟩
theorem cnt_X10_put : Cnt M_X10_put 1 := by unfold Cnt; decide +kernel
theorem cal_X10_readAbove : Cal M_X10_readAbove := ⟨rfl, gw_1630, gw_118, ⟨by decide, by decide⟩⟩
theorem cai_X10_readAbove : Cond.instanceMethod (mY M_X10_readAbove) ∈ gt ∧ Cond.selects (mY M_X10_readAbove).cls (mY M_X10_readAbove) (mY M_X10_readAbove) ∈ gt := ⟨gw_1629, gw_52⟩
theorem cnt_X10_readAbove : Cnt M_X10_readAbove 3 := by unfold Cnt; decide +kernel
theorem cal_X10_readBeams : Cal M_X10_readBeams := ⟨rfl, gw_1607, gw_118, ⟨by decide, by decide⟩⟩
theorem cai_X10_readBeams : Cond.instanceMethod (mY M_X10_readBeams) ∈ gt ∧ Cond.selects (mY M_X10_readBeams).cls (mY M_X10_readBeams) (mY M_X10_readBeams) ∈ gt := ⟨gw_1606, gw_47⟩
theorem cnt_X10_readBeams : Cnt M_X10_readBeams 0 := by unfold Cnt; decide +kernel
theorem cal_X10_readBells : Cal M_X10_readBells := ⟨rfl, gw_1639, gw_118, ⟨by decide, by decide⟩⟩
theorem cai_X10_readBells : Cond.instanceMethod (mY M_X10_readBells) ∈ gt ∧ Cond.selects (mY M_X10_readBells).cls (mY M_X10_readBells) (mY M_X10_readBells) ∈ gt := ⟨gw_1638, gw_54⟩
theorem cnt_X10_readBells : Cnt M_X10_readBells 0 := by unfold Cnt; decide +kernel
theorem cal_X10_readIn : Cal M_X10_readIn := ⟨rfl, gw_1626, gw_118, ⟨by decide, by decide⟩⟩
theorem cai_X10_readIn : Cond.instanceMethod (mY M_X10_readIn) ∈ gt ∧ Cond.selects (mY M_X10_readIn).cls (mY M_X10_readIn) (mY M_X10_readIn) ∈ gt := ⟨gw_1625, gw_51⟩
theorem cnt_X10_readIn : Cnt M_X10_readIn 2 := by unfold Cnt; decide +kernel
theorem cal_X10_readQuiets : Cal M_X10_readQuiets := ⟨rfl, gw_1644, gw_118, ⟨by decide, by decide⟩⟩
theorem cai_X10_readQuiets : Cond.instanceMethod (mY M_X10_readQuiets) ∈ gt ∧ Cond.selects (mY M_X10_readQuiets).cls (mY M_X10_readQuiets) (mY M_X10_readQuiets) ∈ gt := ⟨gw_1643, gw_55⟩
theorem cnt_X10_readQuiets : Cnt M_X10_readQuiets 0 := by unfold Cnt; decide +kernel
theorem cal_X10_readRopes : Cal M_X10_readRopes := ⟨rfl, gw_1649, gw_118, ⟨by decide, by decide⟩⟩
theorem cai_X10_readRopes : Cond.instanceMethod (mY M_X10_readRopes) ∈ gt ∧ Cond.selects (mY M_X10_readRopes).cls (mY M_X10_readRopes) (mY M_X10_readRopes) ∈ gt := ⟨gw_1648, gw_56⟩
theorem cnt_X10_readRopes : Cnt M_X10_readRopes 0 := by unfold Cnt; decide +kernel
theorem cal_X10_remember : Cal M_X10_remember := ⟨rfl, gw_1710, gw_118, ⟨by decide, by decide⟩⟩
theorem cai_X10_remember : Cond.instanceMethod (mY M_X10_remember) ∈ gt ∧ Cond.selects (mY M_X10_remember).cls (mY M_X10_remember) (mY M_X10_remember) ∈ gt := ⟨gw_1709, gw_66⟩
theorem cnt_X10_remember : Cnt M_X10_remember 0 := by unfold Cnt; decide +kernel
theorem cal_X10_set : Cal M_X10_set := ⟨rfl, gw_1714, gw_118, ⟨by decide, by decide⟩⟩
theorem cai_X10_set : Cond.instanceMethod (mY M_X10_set) ∈ gt ∧ Cond.selects (mY M_X10_set).cls (mY M_X10_set) (mY M_X10_set) ∈ gt := ⟨gw_1713, gw_67⟩
theorem cnt_X10_set : Cnt M_X10_set 3 := by unfold Cnt; decide +kernel
theorem cal_X10_size : Cal M_X10_size := ⟨rfl, gw_1698, gw_118, ⟨by decide, by decide⟩⟩
theorem cas_X10_size : Cond.static (mY M_X10_size) ∈ gt := gw_1697
theorem cnt_X10_size : Cnt M_X10_size 1 := by unfold Cnt; decide +kernel
theorem cal_X10_soundingAt : Cal M_X10_soundingAt := ⟨rfl, gw_1972, gw_118, ⟨by decide, by decide⟩⟩
theorem cai_X10_soundingAt : Cond.instanceMethod (mY M_X10_soundingAt) ∈ gt ∧ Cond.selects (mY M_X10_soundingAt).cls (mY M_X10_soundingAt) (mY M_X10_soundingAt) ∈ gt := ⟨gw_1971, gw_96⟩
theorem cnt_X10_soundingAt : Cnt M_X10_soundingAt 1 := by unfold Cnt; decide +kernel
theorem cal_X10_sounds : Cal M_X10_sounds := ⟨rfl, gw_1976, gw_118, ⟨by decide, by decide⟩⟩
theorem cai_X10_sounds : Cond.instanceMethod (mY M_X10_sounds) ∈ gt ∧ Cond.selects (mY M_X10_sounds).cls (mY M_X10_sounds) (mY M_X10_sounds) ∈ gt := ⟨gw_1975, gw_97⟩
theorem cnt_X10_sounds : Cnt M_X10_sounds 2 := by unfold Cnt; decide +kernel
theorem cal_X10_strikesAt : Cal M_X10_strikesAt := ⟨rfl, gw_1930, gw_118, ⟨by decide, by decide⟩⟩
theorem cai_X10_strikesAt : Cond.instanceMethod (mY M_X10_strikesAt) ∈ gt ∧ Cond.selects (mY M_X10_strikesAt).cls (mY M_X10_strikesAt) (mY M_X10_strikesAt) ∈ gt := ⟨gw_1929, gw_93⟩
theorem cnt_X10_strikesAt : Cnt M_X10_strikesAt 2 := by unfold Cnt; decide +kernel
theorem cal_X10_swinging : Cal M_X10_swinging := ⟨rfl, gw_1861, gw_118, ⟨by decide, by decide⟩⟩
theorem cai_X10_swinging : Cond.instanceMethod (mY M_X10_swinging) ∈ gt ∧ Cond.selects (mY M_X10_swinging).cls (mY M_X10_swinging) (mY M_X10_swinging) ∈ gt := ⟨gw_1860, gw_84⟩
theorem cnt_X10_swinging : Cnt M_X10_swinging 0 := by unfold Cnt; decide +kernel
theorem cal_X10_swings : Cal M_X10_swings := ⟨rfl, gw_1865, gw_118, ⟨by decide, by decide⟩⟩
theorem cai_X10_swings : Cond.instanceMethod (mY M_X10_swings) ∈ gt ∧ Cond.selects (mY M_X10_swings).cls (mY M_X10_swings) (mY M_X10_swings) ∈ gt := ⟨gw_1864, gw_85⟩
theorem cnt_X10_swings : Cnt M_X10_swings 1 := by unfold Cnt; decide +kernel
theorem cal_X10_takeOver : Cal M_X10_takeOver := ⟨rfl, gw_1654, gw_118, ⟨by decide, by decide⟩⟩
theorem cai_X10_takeOver : Cond.instanceMethod (mY M_X10_takeOver) ∈ gt ∧ Cond.selects (mY M_X10_takeOver).cls (mY M_X10_takeOver) (mY M_X10_takeOver) ∈ gt := ⟨gw_1653, gw_57⟩
theorem cnt_X10_takeOver : Cnt M_X10_takeOver 0 := by unfold Cnt; decide +kernel
theorem cal_X10_torqueLaid : Cal M_X10_torqueLaid := ⟨rfl, gw_1817, gw_118, ⟨by decide, by decide⟩⟩
theorem cai_X10_torqueLaid : Cond.instanceMethod (mY M_X10_torqueLaid) ∈ gt ∧ Cond.selects (mY M_X10_torqueLaid).cls (mY M_X10_torqueLaid) (mY M_X10_torqueLaid) ∈ gt := ⟨gw_1816, gw_77⟩
theorem cnt_X10_torqueLaid : Cnt M_X10_torqueLaid 1 := by unfold Cnt; decide +kernel
theorem cal_X1_countChiming : Cal M_X1_countChiming := ⟨rfl, gw_1230, gw_115, ⟨by decide, by decide⟩⟩
theorem cai_X1_countChiming : Cond.instanceMethod (mY M_X1_countChiming) ∈ gt ∧ Cond.selects (mY M_X1_countChiming).cls (mY M_X1_countChiming) (mY M_X1_countChiming) ∈ gt := ⟨gw_1228, gw_1229⟩
theorem cnt_X1_countChiming : Cnt M_X1_countChiming 0 := by unfold Cnt; decide +kernel
theorem cal_X1_countCommonSounds : Cal M_X1_countCommonSounds := ⟨rfl, gw_1292, gw_115, ⟨by decide, by decide⟩⟩
theorem cai_X1_countCommonSounds : Cond.instanceMethod (mY M_X1_countCommonSounds) ∈ gt ∧ Cond.selects (mY M_X1_countCommonSounds).cls (mY M_X1_countCommonSounds) (mY M_X1_countCommonSounds) ∈ gt := ⟨gw_1290, gw_1291⟩
theorem cnt_X1_countCommonSounds : Cnt M_X1_countCommonSounds 2 := by unfold Cnt; decide +kernel
theorem cal_X1_countQuiet : Cal M_X1_countQuiet := ⟨rfl, gw_1249, gw_115, ⟨by decide, by decide⟩⟩
theorem cai_X1_countQuiet : Cond.instanceMethod (mY M_X1_countQuiet) ∈ gt ∧ Cond.selects (mY M_X1_countQuiet).cls (mY M_X1_countQuiet) (mY M_X1_countQuiet) ∈ gt := ⟨gw_1247, gw_1248⟩
theorem cnt_X1_countQuiet : Cnt M_X1_countQuiet 0 := by unfold Cnt; decide +kernel
theorem cal_X1_delayToLoudMinutes : Cal M_X1_delayToLoudMinutes := ⟨rfl, gw_1334, gw_115, ⟨by decide, by decide⟩⟩
theorem cai_X1_delayToLoudMinutes : Cond.instanceMethod (mY M_X1_delayToLoudMinutes) ∈ gt ∧ Cond.selects (mY M_X1_delayToLoudMinutes).cls (mY M_X1_delayToLoudMinutes) (mY M_X1_delayToLoudMinutes) ∈ gt := ⟨gw_1332, gw_1333⟩
theorem cnt_X1_delayToLoudMinutes : Cnt M_X1_delayToLoudMinutes 1 := by unfold Cnt; decide +kernel
theorem cal_X1_firstLoudChime : Cal M_X1_firstLoudChime := ⟨rfl, gw_1338, gw_115, ⟨by decide, by decide⟩⟩
theorem cai_X1_firstLoudChime : Cond.instanceMethod (mY M_X1_firstLoudChime) ∈ gt ∧ Cond.selects (mY M_X1_firstLoudChime).cls (mY M_X1_firstLoudChime) (mY M_X1_firstLoudChime) ∈ gt := ⟨gw_1337, gw_38⟩
theorem cnt_X1_firstLoudChime : Cnt M_X1_firstLoudChime 2 := by unfold Cnt; decide +kernel
theorem cal_X1_firstSoundFrom : Cal M_X1_firstSoundFrom := ⟨rfl, gw_1303, gw_115, ⟨by decide, by decide⟩⟩
theorem cai_X1_firstSoundFrom : Cond.instanceMethod (mY M_X1_firstSoundFrom) ∈ gt ∧ Cond.selects (mY M_X1_firstSoundFrom).cls (mY M_X1_firstSoundFrom) (mY M_X1_firstSoundFrom) ∈ gt := ⟨gw_1301, gw_1302⟩
theorem cnt_X1_firstSoundFrom : Cnt M_X1_firstSoundFrom 1 := by unfold Cnt; decide +kernel
theorem cal_X1_isHeard : Cal M_X1_isHeard := ⟨rfl, gw_1275, gw_115, ⟨by decide, by decide⟩⟩
theorem cai_X1_isHeard : Cond.instanceMethod (mY M_X1_isHeard) ∈ gt ∧ Cond.selects (mY M_X1_isHeard).cls (mY M_X1_isHeard) (mY M_X1_isHeard) ∈ gt := ⟨gw_1274, gw_37⟩
theorem cnt_X1_isHeard : Cnt M_X1_isHeard 2 := by unfold Cnt; decide +kernel
theorem cal_X1_longestLoudRun : Cal M_X1_longestLoudRun := ⟨rfl, gw_1260, gw_115, ⟨by decide, by decide⟩⟩
theorem cai_X1_longestLoudRun : Cond.instanceMethod (mY M_X1_longestLoudRun) ∈ gt ∧ Cond.selects (mY M_X1_longestLoudRun).cls (mY M_X1_longestLoudRun) (mY M_X1_longestLoudRun) ∈ gt := ⟨gw_1258, gw_1259⟩
theorem cnt_X1_longestLoudRun : Cnt M_X1_longestLoudRun 0 := by unfold Cnt; decide +kernel
theorem cal_X1_markQuietMinutes : Cal M_X1_markQuietMinutes := ⟨rfl, gw_605, gw_115, ⟨by decide, by decide⟩⟩
theorem cai_X1_markQuietMinutes : Cond.instanceMethod (mY M_X1_markQuietMinutes) ∈ gt ∧ Cond.selects (mY M_X1_markQuietMinutes).cls (mY M_X1_markQuietMinutes) (mY M_X1_markQuietMinutes) ∈ gt := ⟨gw_603, gw_604⟩
theorem cnt_X1_markQuietMinutes : Cnt M_X1_markQuietMinutes 0 := by unfold Cnt; decide +kernel
theorem cal_X1_minuteOfMostSounds : Cal M_X1_minuteOfMostSounds := ⟨rfl, gw_1315, gw_115, ⟨by decide, by decide⟩⟩
theorem cai_X1_minuteOfMostSounds : Cond.instanceMethod (mY M_X1_minuteOfMostSounds) ∈ gt ∧ Cond.selects (mY M_X1_minuteOfMostSounds).cls (mY M_X1_minuteOfMostSounds) (mY M_X1_minuteOfMostSounds) ∈ gt := ⟨gw_1313, gw_1314⟩
theorem cnt_X1_minuteOfMostSounds : Cnt M_X1_minuteOfMostSounds 0 := by unfold Cnt; decide +kernel
theorem cal_X1_soundingSet : Cal M_X1_soundingSet := ⟨rfl, gw_1271, gw_115, ⟨by decide, by decide⟩⟩
theorem cai_X1_soundingSet : Cond.instanceMethod (mY M_X1_soundingSet) ∈ gt ∧ Cond.selects (mY M_X1_soundingSet).cls (mY M_X1_soundingSet) (mY M_X1_soundingSet) ∈ gt := ⟨gw_1269, gw_1270⟩
theorem cnt_X1_soundingSet : Cnt M_X1_soundingSet 1 := by unfold Cnt; decide +kernel
theorem cal_X2_bellInPlace : Cal M_X2_bellInPlace := ⟨rfl, gw_862, gw_112, ⟨by decide, by decide⟩⟩
theorem cai_X2_bellInPlace : Cond.instanceMethod (mY M_X2_bellInPlace) ∈ gt ∧ Cond.selects (mY M_X2_bellInPlace).cls (mY M_X2_bellInPlace) (mY M_X2_bellInPlace) ∈ gt := ⟨gw_860, gw_861⟩
theorem cnt_X2_bellInPlace : Cnt M_X2_bellInPlace 2 := by unfold Cnt; decide +kernel
theorem cal_X2_bellsOn : Cal M_X2_bellsOn := ⟨rfl, gw_911, gw_112, ⟨by decide, by decide⟩⟩
theorem cai_X2_bellsOn : Cond.instanceMethod (mY M_X2_bellsOn) ∈ gt ∧ Cond.selects (mY M_X2_bellsOn).cls (mY M_X2_bellsOn) (mY M_X2_bellsOn) ∈ gt := ⟨gw_910, gw_19⟩
theorem cnt_X2_bellsOn : Cnt M_X2_bellsOn 1 := by unfold Cnt; decide +kernel
theorem cal_X2_bestMirror : Cal M_X2_bestMirror := ⟨rfl, gw_907, gw_112, ⟨by decide, by decide⟩⟩
theorem cai_X2_bestMirror : Cond.instanceMethod (mY M_X2_bestMirror) ∈ gt ∧ Cond.selects (mY M_X2_bestMirror).cls (mY M_X2_bestMirror) (mY M_X2_bestMirror) ∈ gt := ⟨gw_905, gw_906⟩
theorem cnt_X2_bestMirror : Cnt M_X2_bestMirror 1 := by unfold Cnt; decide +kernel
theorem cal_X2_calmestPlace : Cal M_X2_calmestPlace := ⟨rfl, gw_894, gw_112, ⟨by decide, by decide⟩⟩
theorem cai_X2_calmestPlace : Cond.instanceMethod (mY M_X2_calmestPlace) ∈ gt ∧ Cond.selects (mY M_X2_calmestPlace).cls (mY M_X2_calmestPlace) (mY M_X2_calmestPlace) ∈ gt := ⟨gw_892, gw_893⟩
theorem cnt_X2_calmestPlace : Cnt M_X2_calmestPlace 2 := by unfold Cnt; decide +kernel
theorem cal_X2_clearMirrored : Cal M_X2_clearMirrored := ⟨rfl, gw_929, gw_112, ⟨by decide, by decide⟩⟩
theorem cai_X2_clearMirrored : Cond.instanceMethod (mY M_X2_clearMirrored) ∈ gt ∧ Cond.selects (mY M_X2_clearMirrored).cls (mY M_X2_clearMirrored) (mY M_X2_clearMirrored) ∈ gt := ⟨gw_928, gw_21⟩
theorem cnt_X2_clearMirrored : Cnt M_X2_clearMirrored 2 := by unfold Cnt; decide +kernel
theorem cal_X2_countBefore : Cal M_X2_countBefore := ⟨rfl, gw_866, gw_112, ⟨by decide, by decide⟩⟩
theorem cai_X2_countBefore : Cond.instanceMethod (mY M_X2_countBefore) ∈ gt ∧ Cond.selects (mY M_X2_countBefore).cls (mY M_X2_countBefore) (mY M_X2_countBefore) ∈ gt := ⟨gw_865, gw_18⟩
theorem cnt_X2_countBefore : Cnt M_X2_countBefore 1 := by unfold Cnt; decide +kernel
theorem cal_X2_countOn : Cal M_X2_countOn := ⟨rfl, gw_792, gw_112, ⟨by decide, by decide⟩⟩
theorem cai_X2_countOn : Cond.instanceMethod (mY M_X2_countOn) ∈ gt ∧ Cond.selects (mY M_X2_countOn).cls (mY M_X2_countOn) (mY M_X2_countOn) ∈ gt := ⟨gw_790, gw_791⟩
theorem cnt_X2_countOn : Cnt M_X2_countOn 1 := by unfold Cnt; decide +kernel
theorem cal_X2_countPlaces : Cal M_X2_countPlaces := ⟨rfl, gw_882, gw_112, ⟨by decide, by decide⟩⟩
theorem cai_X2_countPlaces : Cond.instanceMethod (mY M_X2_countPlaces) ∈ gt ∧ Cond.selects (mY M_X2_countPlaces).cls (mY M_X2_countPlaces) (mY M_X2_countPlaces) ∈ gt := ⟨gw_880, gw_881⟩
theorem cnt_X2_countPlaces : Cnt M_X2_countPlaces 2 := by unfold Cnt; decide +kernel
theorem cal_X2_errorOfPlace : Cal M_X2_errorOfPlace := ⟨rfl, gw_753, gw_112, ⟨by decide, by decide⟩⟩
theorem cai_X2_errorOfPlace : Cond.instanceMethod (mY M_X2_errorOfPlace) ∈ gt ∧ Cond.selects (mY M_X2_errorOfPlace).cls (mY M_X2_errorOfPlace) (mY M_X2_errorOfPlace) ∈ gt := ⟨gw_751, gw_752⟩
theorem cnt_X2_errorOfPlace : Cnt M_X2_errorOfPlace 3 := by unfold Cnt; decide +kernel
theorem cal_X2_fits : Cal M_X2_fits := ⟨rfl, gw_757, gw_112, ⟨by decide, by decide⟩⟩
theorem cai_X2_fits : Cond.instanceMethod (mY M_X2_fits) ∈ gt ∧ Cond.selects (mY M_X2_fits).cls (mY M_X2_fits) (mY M_X2_fits) ∈ gt := ⟨gw_756, gw_14⟩
theorem cnt_X2_fits : Cnt M_X2_fits 3 := by unfold Cnt; decide +kernel
theorem cal_X2_momentMirrored : Cal M_X2_momentMirrored := ⟨rfl, gw_915, gw_112, ⟨by decide, by decide⟩⟩
theorem cai_X2_momentMirrored : Cond.instanceMethod (mY M_X2_momentMirrored) ∈ gt ∧ Cond.selects (mY M_X2_momentMirrored).cls (mY M_X2_momentMirrored) (mY M_X2_momentMirrored) ∈ gt := ⟨gw_913, gw_914⟩
theorem cnt_X2_momentMirrored : Cnt M_X2_momentMirrored 2 := by unfold Cnt; decide +kernel
theorem cal_X2_momentWith : Cal M_X2_momentWith := ⟨rfl, gw_768, gw_112, ⟨by decide, by decide⟩⟩
theorem cai_X2_momentWith : Cond.instanceMethod (mY M_X2_momentWith) ∈ gt ∧ Cond.selects (mY M_X2_momentWith).cls (mY M_X2_momentWith) (mY M_X2_momentWith) ∈ gt := ⟨gw_767, gw_15⟩
theorem cnt_X2_momentWith : Cnt M_X2_momentWith 3 := by unfold Cnt; decide +kernel
theorem cal_X2_momentWithout : Cal M_X2_momentWithout := ⟨rfl, gw_772, gw_112, ⟨by decide, by decide⟩⟩
theorem cai_X2_momentWithout : Cond.instanceMethod (mY M_X2_momentWithout) ∈ gt ∧ Cond.selects (mY M_X2_momentWithout).cls (mY M_X2_momentWithout) (mY M_X2_momentWithout) ∈ gt := ⟨gw_770, gw_771⟩
theorem cnt_X2_momentWithout : Cnt M_X2_momentWithout 2 := by unfold Cnt; decide +kernel
theorem cal_X2_positionMirrored : Cal M_X2_positionMirrored := ⟨rfl, gw_919, gw_112, ⟨by decide, by decide⟩⟩
theorem cai_X2_positionMirrored : Cond.instanceMethod (mY M_X2_positionMirrored) ∈ gt ∧ Cond.selects (mY M_X2_positionMirrored).cls (mY M_X2_positionMirrored) (mY M_X2_positionMirrored) ∈ gt := ⟨gw_918, gw_20⟩
theorem cnt_X2_positionMirrored : Cnt M_X2_positionMirrored 2 := by unfold Cnt; decide +kernel
theorem cal_X3_forgetAll : Cal M_X3_forgetAll := ⟨rfl, gw_615, gw_117, ⟨by decide, by decide⟩⟩
theorem cai_X3_forgetAll : Cond.instanceMethod (mY M_X3_forgetAll) ∈ gt ∧ Cond.selects (mY M_X3_forgetAll).cls (mY M_X3_forgetAll) (mY M_X3_forgetAll) ∈ gt := ⟨gw_613, gw_614⟩
theorem cnt_X3_forgetAll : Cnt M_X3_forgetAll 0 := by unfold Cnt; decide +kernel
theorem cal_X3_push : Cal M_X3_push := ⟨rfl, gw_784, gw_117, ⟨by decide, by decide⟩⟩
theorem cai_X3_push : Cond.instanceMethod (mY M_X3_push) ∈ gt ∧ Cond.selects (mY M_X3_push).cls (mY M_X3_push) (mY M_X3_push) ∈ gt := ⟨gw_782, gw_783⟩
theorem cnt_X3_push : Cnt M_X3_push 2 := by unfold Cnt; decide +kernel
theorem cal_X3_stepBack : Cal M_X3_stepBack := ⟨rfl, gw_1426, gw_117, ⟨by decide, by decide⟩⟩
theorem cai_X3_stepBack : Cond.instanceMethod (mY M_X3_stepBack) ∈ gt ∧ Cond.selects (mY M_X3_stepBack).cls (mY M_X3_stepBack) (mY M_X3_stepBack) ∈ gt := ⟨gw_1424, gw_1425⟩
theorem cnt_X3_stepBack : Cnt M_X3_stepBack 1 := by unfold Cnt; decide +kernel
theorem cal_X4_allowed : Cal M_X4_allowed := ⟨rfl, gw_1034, gw_113, ⟨by decide, by decide⟩⟩
theorem cai_X4_allowed : Cond.instanceMethod (mY M_X4_allowed) ∈ gt ∧ Cond.selects (mY M_X4_allowed).cls (mY M_X4_allowed) (mY M_X4_allowed) ∈ gt := ⟨gw_1033, gw_27⟩
theorem cnt_X4_allowed : Cnt M_X4_allowed 1 := by unfold Cnt; decide +kernel
theorem cal_X4_arrange : Cal M_X4_arrange := ⟨rfl, gw_988, gw_113, ⟨by decide, by decide⟩⟩
theorem cai_X4_arrange : Cond.instanceMethod (mY M_X4_arrange) ∈ gt ∧ Cond.selects (mY M_X4_arrange).cls (mY M_X4_arrange) (mY M_X4_arrange) ∈ gt := ⟨gw_987, gw_23⟩
theorem cnt_X4_arrange : Cnt M_X4_arrange 1 := by unfold Cnt; decide +kernel
theorem cal_X4_beamIn : Cal M_X4_beamIn := ⟨rfl, gw_994, gw_113, ⟨by decide, by decide⟩⟩
theorem cas_X4_beamIn : Cond.static (mY M_X4_beamIn) ∈ gt := gw_993
theorem cnt_X4_beamIn : Cnt M_X4_beamIn 2 := by unfold Cnt; decide +kernel
theorem cal_X4_conflictsThere : Cal M_X4_conflictsThere := ⟨rfl, gw_998, gw_113, ⟨by decide, by decide⟩⟩
theorem cai_X4_conflictsThere : Cond.instanceMethod (mY M_X4_conflictsThere) ∈ gt ∧ Cond.selects (mY M_X4_conflictsThere).cls (mY M_X4_conflictsThere) (mY M_X4_conflictsThere) ∈ gt := ⟨gw_997, gw_24⟩
theorem cnt_X4_conflictsThere : Cnt M_X4_conflictsThere 0 := by unfold Cnt; decide +kernel
theorem cal_X4_countConflicts : Cal M_X4_countConflicts := ⟨rfl, gw_972, gw_113, ⟨by decide, by decide⟩⟩
theorem cai_X4_countConflicts : Cond.instanceMethod (mY M_X4_countConflicts) ∈ gt ∧ Cond.selects (mY M_X4_countConflicts).cls (mY M_X4_countConflicts) (mY M_X4_countConflicts) ∈ gt := ⟨gw_970, gw_971⟩
theorem cnt_X4_countConflicts : Cnt M_X4_countConflicts 0 := by unfold Cnt; decide +kernel
theorem cal_X4_countPlanned : Cal M_X4_countPlanned := ⟨rfl, gw_949, gw_113, ⟨by decide, by decide⟩⟩
theorem cai_X4_countPlanned : Cond.instanceMethod (mY M_X4_countPlanned) ∈ gt ∧ Cond.selects (mY M_X4_countPlanned).cls (mY M_X4_countPlanned) (mY M_X4_countPlanned) ∈ gt := ⟨gw_947, gw_948⟩
theorem cnt_X4_countPlanned : Cnt M_X4_countPlanned 0 := by unfold Cnt; decide +kernel
theorem cal_X4_countSteps : Cal M_X4_countSteps := ⟨rfl, gw_1050, gw_113, ⟨by decide, by decide⟩⟩
theorem cai_X4_countSteps : Cond.instanceMethod (mY M_X4_countSteps) ∈ gt ∧ Cond.selects (mY M_X4_countSteps).cls (mY M_X4_countSteps) (mY M_X4_countSteps) ∈ gt := ⟨gw_1048, gw_1049⟩
theorem cnt_X4_countSteps : Cnt M_X4_countSteps 0 := by unfold Cnt; decide +kernel
theorem cal_X4_findWay : Cal M_X4_findWay := ⟨rfl, gw_1026, gw_113, ⟨by decide, by decide⟩⟩
theorem cai_X4_findWay : Cond.instanceMethod (mY M_X4_findWay) ∈ gt ∧ Cond.selects (mY M_X4_findWay).cls (mY M_X4_findWay) (mY M_X4_findWay) ∈ gt := ⟨gw_1024, gw_1025⟩
theorem cnt_X4_findWay : Cnt M_X4_findWay 0 := by unfold Cnt; decide +kernel
theorem cal_X4_goalArrangement : Cal M_X4_goalArrangement := ⟨rfl, gw_976, gw_113, ⟨by decide, by decide⟩⟩
theorem cai_X4_goalArrangement : Cond.instanceMethod (mY M_X4_goalArrangement) ∈ gt ∧ Cond.selects (mY M_X4_goalArrangement).cls (mY M_X4_goalArrangement) (mY M_X4_goalArrangement) ∈ gt := ⟨gw_975, gw_22⟩
theorem cnt_X4_goalArrangement : Cnt M_X4_goalArrangement 0 := by unfold Cnt; decide +kernel
theorem cal_X4_isReached : Cal M_X4_isReached := ⟨rfl, gw_1038, gw_113, ⟨by decide, by decide⟩⟩
theorem cai_X4_isReached : Cond.instanceMethod (mY M_X4_isReached) ∈ gt ∧ Cond.selects (mY M_X4_isReached).cls (mY M_X4_isReached) (mY M_X4_isReached) ∈ gt := ⟨gw_1037, gw_28⟩
theorem cnt_X4_isReached : Cnt M_X4_isReached 1 := by unfold Cnt; decide +kernel
theorem cal_X4_presentArrangement : Cal M_X4_presentArrangement := ⟨rfl, gw_1030, gw_113, ⟨by decide, by decide⟩⟩
theorem cai_X4_presentArrangement : Cond.instanceMethod (mY M_X4_presentArrangement) ∈ gt ∧ Cond.selects (mY M_X4_presentArrangement).cls (mY M_X4_presentArrangement) (mY M_X4_presentArrangement) ∈ gt := ⟨gw_1029, gw_26⟩
theorem cnt_X4_presentArrangement : Cnt M_X4_presentArrangement 0 := by unfold Cnt; decide +kernel
theorem cal_X4_reach : Cal M_X4_reach := ⟨rfl, gw_1046, gw_113, ⟨by decide, by decide⟩⟩
theorem cai_X4_reach : Cond.instanceMethod (mY M_X4_reach) ∈ gt ∧ Cond.selects (mY M_X4_reach).cls (mY M_X4_reach) (mY M_X4_reach) ∈ gt := ⟨gw_1045, gw_30⟩
theorem cnt_X4_reach : Cnt M_X4_reach 3 := by unfold Cnt; decide +kernel
theorem cal_X4_stateIn : Cal M_X4_stateIn := ⟨rfl, gw_991, gw_113, ⟨by decide, by decide⟩⟩
theorem cas_X4_stateIn : Cond.static (mY M_X4_stateIn) ∈ gt := gw_990
theorem cnt_X4_stateIn : Cnt M_X4_stateIn 2 := by unfold Cnt; decide +kernel
theorem cal_X4_stepFrom : Cal M_X4_stepFrom := ⟨rfl, gw_1042, gw_113, ⟨by decide, by decide⟩⟩
theorem cai_X4_stepFrom : Cond.instanceMethod (mY M_X4_stepFrom) ∈ gt ∧ Cond.selects (mY M_X4_stepFrom).cls (mY M_X4_stepFrom) (mY M_X4_stepFrom) ∈ gt := ⟨gw_1041, gw_29⟩
theorem cnt_X4_stepFrom : Cnt M_X4_stepFrom 1 := by unfold Cnt; decide +kernel
theorem cal_X4_stepOfWay : Cal M_X4_stepOfWay := ⟨rfl, gw_1061, gw_113, ⟨by decide, by decide⟩⟩
theorem cai_X4_stepOfWay : Cond.instanceMethod (mY M_X4_stepOfWay) ∈ gt ∧ Cond.selects (mY M_X4_stepOfWay).cls (mY M_X4_stepOfWay) (mY M_X4_stepOfWay) ∈ gt := ⟨gw_1059, gw_1060⟩
theorem cnt_X4_stepOfWay : Cnt M_X4_stepOfWay 1 := by unfold Cnt; decide +kernel
theorem cal_X4_unbalancedBeams : Cal M_X4_unbalancedBeams := ⟨rfl, gw_1010, gw_113, ⟨by decide, by decide⟩⟩
theorem cai_X4_unbalancedBeams : Cond.instanceMethod (mY M_X4_unbalancedBeams) ∈ gt ∧ Cond.selects (mY M_X4_unbalancedBeams).cls (mY M_X4_unbalancedBeams) (mY M_X4_unbalancedBeams) ∈ gt := ⟨gw_1008, gw_1009⟩
theorem cnt_X4_unbalancedBeams : Cnt M_X4_unbalancedBeams 0 := by unfold Cnt; decide +kernel
theorem cal_X4_unbalancedThere : Cal M_X4_unbalancedThere := ⟨rfl, gw_1014, gw_113, ⟨by decide, by decide⟩⟩
theorem cai_X4_unbalancedThere : Cond.instanceMethod (mY M_X4_unbalancedThere) ∈ gt ∧ Cond.selects (mY M_X4_unbalancedThere).cls (mY M_X4_unbalancedThere) (mY M_X4_unbalancedThere) ∈ gt := ⟨gw_1013, gw_25⟩
theorem cnt_X4_unbalancedThere : Cnt M_X4_unbalancedThere 0 := by unfold Cnt; decide +kernel
theorem cal_X5_countUsedPieces : Cal M_X5_countUsedPieces := ⟨rfl, gw_1381, gw_116, ⟨by decide, by decide⟩⟩
theorem cai_X5_countUsedPieces : Cond.instanceMethod (mY M_X5_countUsedPieces) ∈ gt ∧ Cond.selects (mY M_X5_countUsedPieces).cls (mY M_X5_countUsedPieces) (mY M_X5_countUsedPieces) ∈ gt := ⟨gw_1379, gw_1380⟩
theorem cnt_X5_countUsedPieces : Cnt M_X5_countUsedPieces 0 := by unfold Cnt; decide +kernel
theorem cal_X5_digitPlace : Cal M_X5_digitPlace := ⟨rfl, gw_1370, gw_116, ⟨by decide, by decide⟩⟩
theorem cas_X5_digitPlace : Cond.static (mY M_X5_digitPlace) ∈ gt := gw_1369
theorem cnt_X5_digitPlace : Cnt M_X5_digitPlace 1 := by unfold Cnt; decide +kernel
theorem cal_X5_findCutting : Cal M_X5_findCutting := ⟨rfl, gw_1361, gw_116, ⟨by decide, by decide⟩⟩
theorem cai_X5_findCutting : Cond.instanceMethod (mY M_X5_findCutting) ∈ gt ∧ Cond.selects (mY M_X5_findCutting).cls (mY M_X5_findCutting) (mY M_X5_findCutting) ∈ gt := ⟨gw_1359, gw_1360⟩
theorem cnt_X5_findCutting : Cnt M_X5_findCutting 0 := by unfold Cnt; decide +kernel
theorem cal_X5_leastMissingLength : Cal M_X5_leastMissingLength := ⟨rfl, gw_1415, gw_116, ⟨by decide, by decide⟩⟩
theorem cai_X5_leastMissingLength : Cond.instanceMethod (mY M_X5_leastMissingLength) ∈ gt ∧ Cond.selects (mY M_X5_leastMissingLength).cls (mY M_X5_leastMissingLength) (mY M_X5_leastMissingLength) ∈ gt := ⟨gw_1413, gw_1414⟩
theorem cnt_X5_leastMissingLength : Cnt M_X5_leastMissingLength 0 := by unfold Cnt; decide +kernel
theorem cal_X5_lengthFor : Cal M_X5_lengthFor := ⟨rfl, gw_1349, gw_116, ⟨by decide, by decide⟩⟩
theorem cai_X5_lengthFor : Cond.instanceMethod (mY M_X5_lengthFor) ∈ gt ∧ Cond.selects (mY M_X5_lengthFor).cls (mY M_X5_lengthFor) (mY M_X5_lengthFor) ∈ gt := ⟨gw_1347, gw_1348⟩
theorem cnt_X5_lengthFor : Cnt M_X5_lengthFor 1 := by unfold Cnt; decide +kernel
theorem cal_X5_lengthLeft : Cal M_X5_lengthLeft := ⟨rfl, gw_1403, gw_116, ⟨by decide, by decide⟩⟩
theorem cai_X5_lengthLeft : Cond.instanceMethod (mY M_X5_lengthLeft) ∈ gt ∧ Cond.selects (mY M_X5_lengthLeft).cls (mY M_X5_lengthLeft) (mY M_X5_lengthLeft) ∈ gt := ⟨gw_1401, gw_1402⟩
theorem cnt_X5_lengthLeft : Cnt M_X5_lengthLeft 0 := by unfold Cnt; decide +kernel
theorem cal_X5_measureSets : Cal M_X5_measureSets := ⟨rfl, gw_1365, gw_116, ⟨by decide, by decide⟩⟩
theorem cai_X5_measureSets : Cond.instanceMethod (mY M_X5_measureSets) ∈ gt ∧ Cond.selects (mY M_X5_measureSets).cls (mY M_X5_measureSets) (mY M_X5_measureSets) ∈ gt := ⟨gw_1364, gw_39⟩
theorem cnt_X5_measureSets : Cnt M_X5_measureSets 0 := by unfold Cnt; decide +kernel
theorem cal_X5_offerPiece : Cal M_X5_offerPiece := ⟨rfl, gw_1375, gw_116, ⟨by decide, by decide⟩⟩
theorem cai_X5_offerPiece : Cond.instanceMethod (mY M_X5_offerPiece) ∈ gt ∧ Cond.selects (mY M_X5_offerPiece).cls (mY M_X5_offerPiece) (mY M_X5_offerPiece) ∈ gt := ⟨gw_1374, gw_40⟩
theorem cnt_X5_offerPiece : Cnt M_X5_offerPiece 1 := by unfold Cnt; decide +kernel
theorem cal_X5_pieceFor : Cal M_X5_pieceFor := ⟨rfl, gw_1392, gw_116, ⟨by decide, by decide⟩⟩
theorem cai_X5_pieceFor : Cond.instanceMethod (mY M_X5_pieceFor) ∈ gt ∧ Cond.selects (mY M_X5_pieceFor).cls (mY M_X5_pieceFor) (mY M_X5_pieceFor) ∈ gt := ⟨gw_1390, gw_1391⟩
theorem cnt_X5_pieceFor : Cnt M_X5_pieceFor 1 := by unfold Cnt; decide +kernel
theorem cal_X6_countStrikes : Cal M_X6_countStrikes := ⟨rfl, gw_1193, gw_114, ⟨by decide, by decide⟩⟩
theorem cai_X6_countStrikes : Cond.instanceMethod (mY M_X6_countStrikes) ∈ gt ∧ Cond.selects (mY M_X6_countStrikes).cls (mY M_X6_countStrikes) (mY M_X6_countStrikes) ∈ gt := ⟨gw_1191, gw_1192⟩
theorem cnt_X6_countStrikes : Cnt M_X6_countStrikes 3 := by unfold Cnt; decide +kernel
theorem cal_X6_countSwinging : Cal M_X6_countSwinging := ⟨rfl, gw_1073, gw_114, ⟨by decide, by decide⟩⟩
theorem cai_X6_countSwinging : Cond.instanceMethod (mY M_X6_countSwinging) ∈ gt ∧ Cond.selects (mY M_X6_countSwinging).cls (mY M_X6_countSwinging) (mY M_X6_countSwinging) ∈ gt := ⟨gw_1071, gw_1072⟩
theorem cnt_X6_countSwinging : Cnt M_X6_countSwinging 0 := by unfold Cnt; decide +kernel
theorem cal_X6_findRoom : Cal M_X6_findRoom := ⟨rfl, gw_1161, gw_114, ⟨by decide, by decide⟩⟩
theorem cai_X6_findRoom : Cond.instanceMethod (mY M_X6_findRoom) ∈ gt ∧ Cond.selects (mY M_X6_findRoom).cls (mY M_X6_findRoom) (mY M_X6_findRoom) ∈ gt := ⟨gw_1160, gw_33⟩
theorem cnt_X6_findRoom : Cnt M_X6_findRoom 1 := by unfold Cnt; decide +kernel
theorem cal_X6_firstCommonStrike : Cal M_X6_firstCommonStrike := ⟨rfl, gw_1208, gw_114, ⟨by decide, by decide⟩⟩
theorem cai_X6_firstCommonStrike : Cond.instanceMethod (mY M_X6_firstCommonStrike) ∈ gt ∧ Cond.selects (mY M_X6_firstCommonStrike).cls (mY M_X6_firstCommonStrike) (mY M_X6_firstCommonStrike) ∈ gt := ⟨gw_1206, gw_1207⟩
theorem cnt_X6_firstCommonStrike : Cnt M_X6_firstCommonStrike 2 := by unfold Cnt; decide +kernel
theorem cal_X6_gapBetween : Cal M_X6_gapBetween := ⟨rfl, gw_1113, gw_114, ⟨by decide, by decide⟩⟩
theorem cai_X6_gapBetween : Cond.instanceMethod (mY M_X6_gapBetween) ∈ gt ∧ Cond.selects (mY M_X6_gapBetween).cls (mY M_X6_gapBetween) (mY M_X6_gapBetween) ∈ gt := ⟨gw_1111, gw_1112⟩
theorem cnt_X6_gapBetween : Cnt M_X6_gapBetween 3 := by unfold Cnt; decide +kernel
theorem cal_X6_gapOfSpots : Cal M_X6_gapOfSpots := ⟨rfl, gw_1122, gw_114, ⟨by decide, by decide⟩⟩
theorem cai_X6_gapOfSpots : Cond.instanceMethod (mY M_X6_gapOfSpots) ∈ gt ∧ Cond.selects (mY M_X6_gapOfSpots).cls (mY M_X6_gapOfSpots) (mY M_X6_gapOfSpots) ∈ gt := ⟨gw_1121, gw_32⟩
theorem cnt_X6_gapOfSpots : Cnt M_X6_gapOfSpots 3 := by unfold Cnt; decide +kernel
theorem cal_X6_greatestSafeAmplitude : Cal M_X6_greatestSafeAmplitude := ⟨rfl, gw_1182, gw_114, ⟨by decide, by decide⟩⟩
theorem cai_X6_greatestSafeAmplitude : Cond.instanceMethod (mY M_X6_greatestSafeAmplitude) ∈ gt ∧ Cond.selects (mY M_X6_greatestSafeAmplitude).cls (mY M_X6_greatestSafeAmplitude) (mY M_X6_greatestSafeAmplitude) ∈ gt := ⟨gw_1180, gw_1181⟩
theorem cnt_X6_greatestSafeAmplitude : Cnt M_X6_greatestSafeAmplitude 1 := by unfold Cnt; decide +kernel
theorem cal_X6_leastSafeStart : Cal M_X6_leastSafeStart := ⟨rfl, gw_1157, gw_114, ⟨by decide, by decide⟩⟩
theorem cai_X6_leastSafeStart : Cond.instanceMethod (mY M_X6_leastSafeStart) ∈ gt ∧ Cond.selects (mY M_X6_leastSafeStart).cls (mY M_X6_leastSafeStart) (mY M_X6_leastSafeStart) ∈ gt := ⟨gw_1155, gw_1156⟩
theorem cnt_X6_leastSafeStart : Cnt M_X6_leastSafeStart 2 := by unfold Cnt; decide +kernel
theorem cal_X6_narrowRoom : Cal M_X6_narrowRoom := ⟨rfl, gw_1165, gw_114, ⟨by decide, by decide⟩⟩
theorem cai_X6_narrowRoom : Cond.instanceMethod (mY M_X6_narrowRoom) ∈ gt ∧ Cond.selects (mY M_X6_narrowRoom).cls (mY M_X6_narrowRoom) (mY M_X6_narrowRoom) ∈ gt := ⟨gw_1164, gw_34⟩
theorem cnt_X6_narrowRoom : Cnt M_X6_narrowRoom 2 := by unfold Cnt; decide +kernel
theorem cal_X6_offsetOf : Cal M_X6_offsetOf := ⟨rfl, gw_1096, gw_114, ⟨by decide, by decide⟩⟩
theorem cai_X6_offsetOf : Cond.instanceMethod (mY M_X6_offsetOf) ∈ gt ∧ Cond.selects (mY M_X6_offsetOf).cls (mY M_X6_offsetOf) (mY M_X6_offsetOf) ∈ gt := ⟨gw_1094, gw_1095⟩
theorem cnt_X6_offsetOf : Cnt M_X6_offsetOf 2 := by unfold Cnt; decide +kernel
theorem cal_X6_offsetOfSwing : Cal M_X6_offsetOfSwing := ⟨rfl, gw_1099, gw_114, ⟨by decide, by decide⟩⟩
theorem cas_X6_offsetOfSwing : Cond.static (mY M_X6_offsetOfSwing) ∈ gt := gw_1098
theorem cnt_X6_offsetOfSwing : Cnt M_X6_offsetOfSwing 3 := by unfold Cnt; decide +kernel
theorem cal_X6_pairCollidingAt : Cal M_X6_pairCollidingAt := ⟨rfl, gw_1137, gw_114, ⟨by decide, by decide⟩⟩
theorem cai_X6_pairCollidingAt : Cond.instanceMethod (mY M_X6_pairCollidingAt) ∈ gt ∧ Cond.selects (mY M_X6_pairCollidingAt).cls (mY M_X6_pairCollidingAt) (mY M_X6_pairCollidingAt) ∈ gt := ⟨gw_1135, gw_1136⟩
theorem cnt_X6_pairCollidingAt : Cnt M_X6_pairCollidingAt 1 := by unfold Cnt; decide +kernel
theorem cal_X6_spotOf : Cal M_X6_spotOf := ⟨rfl, gw_1117, gw_114, ⟨by decide, by decide⟩⟩
theorem cai_X6_spotOf : Cond.instanceMethod (mY M_X6_spotOf) ∈ gt ∧ Cond.selects (mY M_X6_spotOf).cls (mY M_X6_spotOf) (mY M_X6_spotOf) ∈ gt := ⟨gw_1116, gw_31⟩
theorem cnt_X6_spotOf : Cnt M_X6_spotOf 2 := by unfold Cnt; decide +kernel
theorem cal_X6_staysInRoom : Cal M_X6_staysInRoom := ⟨rfl, gw_1171, gw_114, ⟨by decide, by decide⟩⟩
theorem cai_X6_staysInRoom : Cond.instanceMethod (mY M_X6_staysInRoom) ∈ gt ∧ Cond.selects (mY M_X6_staysInRoom).cls (mY M_X6_staysInRoom) (mY M_X6_staysInRoom) ∈ gt := ⟨gw_1170, gw_35⟩
theorem cnt_X6_staysInRoom : Cnt M_X6_staysInRoom 3 := by unfold Cnt; decide +kernel
theorem cal_X6_strikesAt : Cal M_X6_strikesAt := ⟨rfl, gw_1197, gw_114, ⟨by decide, by decide⟩⟩
theorem cai_X6_strikesAt : Cond.instanceMethod (mY M_X6_strikesAt) ∈ gt ∧ Cond.selects (mY M_X6_strikesAt).cls (mY M_X6_strikesAt) (mY M_X6_strikesAt) ∈ gt := ⟨gw_1196, gw_36⟩
theorem cnt_X6_strikesAt : Cnt M_X6_strikesAt 2 := by unfold Cnt; decide +kernel
theorem cal_X6_tickOfCollision : Cal M_X6_tickOfCollision := ⟨rfl, gw_1133, gw_114, ⟨by decide, by decide⟩⟩
theorem cai_X6_tickOfCollision : Cond.instanceMethod (mY M_X6_tickOfCollision) ∈ gt ∧ Cond.selects (mY M_X6_tickOfCollision).cls (mY M_X6_tickOfCollision) (mY M_X6_tickOfCollision) ∈ gt := ⟨gw_1131, gw_1132⟩
theorem cnt_X6_tickOfCollision : Cnt M_X6_tickOfCollision 0 := by unfold Cnt; decide +kernel
theorem cal_X7_add : Cal M_X7_add := ⟨rfl, gw_589, gw_110, ⟨by decide, by decide⟩⟩
theorem cai_X7_add : Cond.instanceMethod (mY M_X7_add) ∈ gt ∧ Cond.selects (mY M_X7_add).cls (mY M_X7_add) (mY M_X7_add) ∈ gt := ⟨gw_587, gw_588⟩
theorem cnt_X7_add : Cnt M_X7_add 2 := by unfold Cnt; decide +kernel
theorem cal_X7_bears : Cal M_X7_bears := ⟨rfl, gw_776, gw_110, ⟨by decide, by decide⟩⟩
theorem cai_X7_bears : Cond.instanceMethod (mY M_X7_bears) ∈ gt ∧ Cond.selects (mY M_X7_bears).cls (mY M_X7_bears) (mY M_X7_bears) ∈ gt := ⟨gw_774, gw_775⟩
theorem cnt_X7_bears : Cnt M_X7_bears 2 := by unfold Cnt; decide +kernel
theorem cal_X7_copyFrom : Cal M_X7_copyFrom := ⟨rfl, gw_594, gw_110, ⟨by decide, by decide⟩⟩
theorem cai_X7_copyFrom : Cond.instanceMethod (mY M_X7_copyFrom) ∈ gt ∧ Cond.selects (mY M_X7_copyFrom).cls (mY M_X7_copyFrom) (mY M_X7_copyFrom) ∈ gt := ⟨gw_592, gw_593⟩
theorem cnt_X7_copyFrom : Cnt M_X7_copyFrom 1 := by unfold Cnt; decide +kernel
theorem cal_X7_empty : Cal M_X7_empty := ⟨rfl, gw_474, gw_110, ⟨by decide, by decide⟩⟩
theorem cai_X7_empty : Cond.instanceMethod (mY M_X7_empty) ∈ gt ∧ Cond.selects (mY M_X7_empty).cls (mY M_X7_empty) (mY M_X7_empty) ∈ gt := ⟨gw_472, gw_473⟩
theorem cnt_X7_empty : Cnt M_X7_empty 0 := by unfold Cnt; decide +kernel
theorem cal_X7_isFull : Cal M_X7_isFull := ⟨rfl, gw_575, gw_110, ⟨by decide, by decide⟩⟩
theorem cai_X7_isFull : Cond.instanceMethod (mY M_X7_isFull) ∈ gt ∧ Cond.selects (mY M_X7_isFull).cls (mY M_X7_isFull) (mY M_X7_isFull) ∈ gt := ⟨gw_573, gw_574⟩
theorem cnt_X7_isFull : Cnt M_X7_isFull 1 := by unfold Cnt; decide +kernel
theorem cal_X7_keepsClear : Cal M_X7_keepsClear := ⟨rfl, gw_761, gw_110, ⟨by decide, by decide⟩⟩
theorem cai_X7_keepsClear : Cond.instanceMethod (mY M_X7_keepsClear) ∈ gt ∧ Cond.selects (mY M_X7_keepsClear).cls (mY M_X7_keepsClear) (mY M_X7_keepsClear) ∈ gt := ⟨gw_759, gw_760⟩
theorem cnt_X7_keepsClear : Cnt M_X7_keepsClear 3 := by unfold Cnt; decide +kernel
theorem cal_X8_addWord : Cal M_X8_addWord := ⟨rfl, gw_698, gw_109, ⟨by decide, by decide⟩⟩
theorem cai_X8_addWord : Cond.instanceMethod (mY M_X8_addWord) ∈ gt ∧ Cond.selects (mY M_X8_addWord).cls (mY M_X8_addWord) (mY M_X8_addWord) ∈ gt := ⟨gw_696, gw_697⟩
theorem cnt_X8_addWord : Cnt M_X8_addWord 1 := by unfold Cnt; decide +kernel
theorem cal_X8_byteAt : Cal M_X8_byteAt := ⟨rfl, gw_486, gw_109, ⟨by decide, by decide⟩⟩
theorem cai_X8_byteAt : Cond.instanceMethod (mY M_X8_byteAt) ∈ gt ∧ Cond.selects (mY M_X8_byteAt).cls (mY M_X8_byteAt) (mY M_X8_byteAt) ∈ gt := ⟨gw_485, gw_2⟩
theorem cnt_X8_byteAt : Cnt M_X8_byteAt 1 := by unfold Cnt; decide +kernel
theorem cal_X8_fail : Cal M_X8_fail := ⟨rfl, gw_571, gw_109, ⟨by decide, by decide⟩⟩
theorem cai_X8_fail : Cond.instanceMethod (mY M_X8_fail) ∈ gt ∧ Cond.selects (mY M_X8_fail).cls (mY M_X8_fail) (mY M_X8_fail) ∈ gt := ⟨gw_570, gw_8⟩
theorem cnt_X8_fail : Cnt M_X8_fail 1 := by unfold Cnt; decide +kernel
theorem cal_X8_isDigit : Cal M_X8_isDigit := ⟨rfl, gw_496, gw_109, ⟨by decide, by decide⟩⟩
theorem cas_X8_isDigit : Cond.static (mY M_X8_isDigit) ∈ gt := gw_495
theorem cnt_X8_isDigit : Cnt M_X8_isDigit 1 := by unfold Cnt; decide +kernel
theorem cal_X8_isLetter : Cal M_X8_isLetter := ⟨rfl, gw_489, gw_109, ⟨by decide, by decide⟩⟩
theorem cas_X8_isLetter : Cond.static (mY M_X8_isLetter) ∈ gt := gw_488
theorem cnt_X8_isLetter : Cnt M_X8_isLetter 1 := by unfold Cnt; decide +kernel
theorem cal_X8_mayStand : Cal M_X8_mayStand := ⟨rfl, gw_567, gw_109, ⟨by decide, by decide⟩⟩
theorem cas_X8_mayStand : Cond.static (mY M_X8_mayStand) ∈ gt := gw_566
theorem cnt_X8_mayStand : Cnt M_X8_mayStand 2 := by unfold Cnt; decide +kernel
theorem cal_X8_parse : Cal M_X8_parse := ⟨rfl, gw_470, gw_109, ⟨by decide, by decide⟩⟩
theorem cai_X8_parse : Cond.instanceMethod (mY M_X8_parse) ∈ gt ∧ Cond.selects (mY M_X8_parse).cls (mY M_X8_parse) (mY M_X8_parse) ∈ gt := ⟨gw_468, gw_469⟩
theorem cnt_X8_parse : Cnt M_X8_parse 1 := by unfold Cnt; decide +kernel
theorem cal_X8_parseNumbers : Cal M_X8_parseNumbers := ⟨rfl, gw_579, gw_109, ⟨by decide, by decide⟩⟩
theorem cai_X8_parseNumbers : Cond.instanceMethod (mY M_X8_parseNumbers) ∈ gt ∧ Cond.selects (mY M_X8_parseNumbers).cls (mY M_X8_parseNumbers) (mY M_X8_parseNumbers) ∈ gt := ⟨gw_578, gw_9⟩
theorem cnt_X8_parseNumbers : Cnt M_X8_parseNumbers 1 := by unfold Cnt; decide +kernel
theorem cal_X8_parseStatement : Cal M_X8_parseStatement := ⟨rfl, gw_504, gw_109, ⟨by decide, by decide⟩⟩
theorem cai_X8_parseStatement : Cond.instanceMethod (mY M_X8_parseStatement) ∈ gt ∧ Cond.selects (mY M_X8_parseStatement).cls (mY M_X8_parseStatement) (mY M_X8_parseStatement) ∈ gt := ⟨gw_503, gw_5⟩
theorem cnt_X8_parseStatement : Cnt M_X8_parseStatement 2 := by unfold Cnt; decide +kernel
theorem cal_X8_readNumber : Cal M_X8_readNumber := ⟨rfl, gw_500, gw_109, ⟨by decide, by decide⟩⟩
theorem cai_X8_readNumber : Cond.instanceMethod (mY M_X8_readNumber) ∈ gt ∧ Cond.selects (mY M_X8_readNumber).cls (mY M_X8_readNumber) (mY M_X8_readNumber) ∈ gt := ⟨gw_499, gw_4⟩
theorem cnt_X8_readNumber : Cnt M_X8_readNumber 0 := by unfold Cnt; decide +kernel
theorem cal_X8_readToken : Cal M_X8_readToken := ⟨rfl, gw_478, gw_109, ⟨by decide, by decide⟩⟩
theorem cai_X8_readToken : Cond.instanceMethod (mY M_X8_readToken) ∈ gt ∧ Cond.selects (mY M_X8_readToken).cls (mY M_X8_readToken) (mY M_X8_readToken) ∈ gt := ⟨gw_477, gw_0⟩
theorem cnt_X8_readToken : Cnt M_X8_readToken 0 := by unfold Cnt; decide +kernel
theorem cal_X8_skipBlanks : Cal M_X8_skipBlanks := ⟨rfl, gw_482, gw_109, ⟨by decide, by decide⟩⟩
theorem cai_X8_skipBlanks : Cond.instanceMethod (mY M_X8_skipBlanks) ∈ gt ∧ Cond.selects (mY M_X8_skipBlanks).cls (mY M_X8_skipBlanks) (mY M_X8_skipBlanks) ∈ gt := ⟨gw_481, gw_1⟩
theorem cnt_X8_skipBlanks : Cnt M_X8_skipBlanks 0 := by unfold Cnt; decide +kernel
theorem cal_X8_skipLetters : Cal M_X8_skipLetters := ⟨rfl, gw_493, gw_109, ⟨by decide, by decide⟩⟩
theorem cai_X8_skipLetters : Cond.instanceMethod (mY M_X8_skipLetters) ∈ gt ∧ Cond.selects (mY M_X8_skipLetters).cls (mY M_X8_skipLetters) (mY M_X8_skipLetters) ∈ gt := ⟨gw_492, gw_3⟩
theorem cnt_X8_skipLetters : Cnt M_X8_skipLetters 0 := by unfold Cnt; decide +kernel
theorem cal_X8_statementOfToken : Cal M_X8_statementOfToken := ⟨rfl, gw_508, gw_109, ⟨by decide, by decide⟩⟩
theorem cai_X8_statementOfToken : Cond.instanceMethod (mY M_X8_statementOfToken) ∈ gt ∧ Cond.selects (mY M_X8_statementOfToken).cls (mY M_X8_statementOfToken) (mY M_X8_statementOfToken) ∈ gt := ⟨gw_507, gw_6⟩
theorem cnt_X8_statementOfToken : Cnt M_X8_statementOfToken 0 := by unfold Cnt; decide +kernel
theorem cal_X8_tokenIs : Cal M_X8_tokenIs := ⟨rfl, gw_513, gw_109, ⟨by decide, by decide⟩⟩
theorem cai_X8_tokenIs : Cond.instanceMethod (mY M_X8_tokenIs) ∈ gt ∧ Cond.selects (mY M_X8_tokenIs).cls (mY M_X8_tokenIs) (mY M_X8_tokenIs) ∈ gt := ⟨gw_512, gw_7⟩
theorem cnt_X8_tokenIs : Cnt M_X8_tokenIs 1 := by unfold Cnt; decide +kernel
theorem cal_X9_rememberBell : Cal M_X9_rememberBell := ⟨rfl, gw_780, gw_108, ⟨by decide, by decide⟩⟩
theorem cai_X9_rememberBell : Cond.instanceMethod (mY M_X9_rememberBell) ∈ gt ∧ Cond.selects (mY M_X9_rememberBell).cls (mY M_X9_rememberBell) (mY M_X9_rememberBell) ∈ gt := ⟨gw_779, gw_16⟩
theorem cnt_X9_rememberBell : Cnt M_X9_rememberBell 1 := by unfold Cnt; decide +kernel
theorem cal_X9_requireBeam : Cal M_X9_requireBeam := ⟨rfl, gw_745, gw_108, ⟨by decide, by decide⟩⟩
theorem cai_X9_requireBeam : Cond.instanceMethod (mY M_X9_requireBeam) ∈ gt ∧ Cond.selects (mY M_X9_requireBeam).cls (mY M_X9_requireBeam) (mY M_X9_requireBeam) ∈ gt := ⟨gw_744, gw_13⟩
theorem cnt_X9_requireBeam : Cnt M_X9_requireBeam 1 := by unfold Cnt; decide +kernel
theorem cal_X9_requireBell : Cal M_X9_requireBell := ⟨rfl, gw_741, gw_108, ⟨by decide, by decide⟩⟩
theorem cai_X9_requireBell : Cond.instanceMethod (mY M_X9_requireBell) ∈ gt ∧ Cond.selects (mY M_X9_requireBell).cls (mY M_X9_requireBell) (mY M_X9_requireBell) ∈ gt := ⟨gw_740, gw_12⟩
theorem cnt_X9_requireBell : Cnt M_X9_requireBell 1 := by unfold Cnt; decide +kernel
theorem cal_X9_requireHanging : Cal M_X9_requireHanging := ⟨rfl, gw_827, gw_108, ⟨by decide, by decide⟩⟩
theorem cai_X9_requireHanging : Cond.instanceMethod (mY M_X9_requireHanging) ∈ gt ∧ Cond.selects (mY M_X9_requireHanging).cls (mY M_X9_requireHanging) (mY M_X9_requireHanging) ∈ gt := ⟨gw_826, gw_17⟩
theorem cnt_X9_requireHanging : Cnt M_X9_requireHanging 1 := by unfold Cnt; decide +kernel
theorem cal_X9_requireRange : Cal M_X9_requireRange := ⟨rfl, gw_709, gw_108, ⟨by decide, by decide⟩⟩
theorem cas_X9_requireRange : Cond.static (mY M_X9_requireRange) ∈ gt := gw_708
theorem cnt_X9_requireRange : Cnt M_X9_requireRange 3 := by unfold Cnt; decide +kernel
theorem cal_X9_requireTower : Cal M_X9_requireTower := ⟨rfl, gw_736, gw_108, ⟨by decide, by decide⟩⟩
theorem cai_X9_requireTower : Cond.instanceMethod (mY M_X9_requireTower) ∈ gt ∧ Cond.selects (mY M_X9_requireTower).cls (mY M_X9_requireTower) (mY M_X9_requireTower) ∈ gt := ⟨gw_735, gw_11⟩
theorem cnt_X9_requireTower : Cnt M_X9_requireTower 0 := by unfold Cnt; decide +kernel

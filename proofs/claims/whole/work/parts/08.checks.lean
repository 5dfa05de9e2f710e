def yI (mi : Nat) : Bool := ([true, false, false, false, false, false, false, false, false, false, false, false, false, false, false, false, false, false, true, false, false, false, false, false, false, false, false, false, false, false, false, false, false, true, false, false, false, false, false, false, false, true, false, false, false, false, false, false, false, true, false, false, false, false, false, false, false, false, false, false, false, false, false, true, false, false, true, false, false, false, false, false, false, false, true, false, false, false, false, true, false, false, false, false, true, false, false, false, false, false, false, false, false, false, false, false, false, false, false, false, true, false, false, false, false, false, true, false, false, false, false, false, false, false, false, false, false, false, false, false, false, false, false, false, false, false, false, false, false, false, false, false, false, false, false, false, false, false, false, false, false, false, false, false, false, false, false, false, false, false, false, false, false, false, false, false, false, false, false, false, false, false, false, false, false, false, false, false, false, false, false, false, false, false, false, false, false, false, false, false, false, false, false, false, false, false, false, false, false, true, false, false, false, false, false, false, false, false, false, false, false, false, false, false, false, false, false, false, false, false, false, false, false, false, false, false, false, false, false, false, false, false, false, false, false, false, false, false, false, false, false, false, false, false, false, false, false, false, false, false, false, false, false, false, false, false, false, false, false, false, false, false, false, false, false, false, false, false, false, false, false, false, false, false, false, false, false, false, false, false, false, false, false, false, false, false, false, false, false, false, false, false, false, false, false, false, false, false, false, false, false, false, false, false, false, false, false, false, false, false, false, false, false, false, false, false, false, false, false, false, false, false, false, false, false, false, false, false, false, false, false, false, false, false, false, false, false, false, false, false, false, false, false, false, false, false, false, false, false, false, false, false, false, false, false, false, false, false, false, false, false, false, false, false, false, false, false, false, false, false, false, false, false, false, false, false, false, false, false, false, false, false] : List Bool).getD mi false
def MCk (mi : Nat) : Prop := mchk (yB mi) (yO mi) (mtab mi).2 (rcc (yR mi)) (yI mi) (mtab mi).1 = true ∧ (yI mi = true → (yN mi).name = "<init>")
theorem ck0 : mchk prog_2_method_1_code 0 2 5 true k_X0_init = true := by decide +kernel
theorem mck0 : MCk 0 := ⟨ck0, fun _ => rfl⟩
theorem ck1 : mchk prog_2_method_2_code 0 1 5 false k_X0_reset = true := by decide +kernel
theorem mck1 : MCk 1 := ⟨ck1, fun h => absurd h (by decide)⟩
theorem ck2 : mchk prog_2_method_3_code 0 3 5 false k_X0_copyFrom = true := by decide +kernel
theorem mck2 : MCk 2 := ⟨ck2, fun h => absurd h (by decide)⟩
theorem ck3 : mchk prog_2_method_4_code 0 5 0 false k_X0_find = true := by decide +kernel
theorem mck3 : MCk 3 := ⟨ck3, fun h => absurd h (by decide)⟩
theorem ck4 : mchk prog_2_method_5_code 0 3 0 false k_X0_findParty = true := by decide +kernel
theorem mck4 : MCk 4 := ⟨ck4, fun h => absurd h (by decide)⟩
theorem ck5 : mchk prog_2_method_6_code 0 3 0 false k_X0_findMotion = true := by decide +kernel
theorem mck5 : MCk 5 := ⟨ck5, fun h => absurd h (by decide)⟩
theorem ck6 : mchk prog_2_method_7_code 0 4 0 false k_X0_findMember = true := by decide +kernel
theorem mck6 : MCk 6 := ⟨ck6, fun h => absurd h (by decide)⟩
theorem ck7 : mchk prog_2_method_8_code 0 3 1 false k_X0_hasName = true := by decide +kernel
theorem mck7 : MCk 7 := ⟨ck7, fun h => absurd h (by decide)⟩
theorem ck8 : mchk prog_2_method_9_code 0 3 0 false k_X0_deadSet = true := by decide +kernel
theorem mck8 : MCk 8 := ⟨ck8, fun h => absurd h (by decide)⟩
theorem ck9 : mchk prog_2_method_10_code 0 3 0 false k_X0_sickSet = true := by decide +kernel
theorem mck9 : MCk 9 := ⟨ck9, fun h => absurd h (by decide)⟩
theorem ck10 : mchk prog_2_method_11_code 0 1 0 false k_X0_walkers = true := by decide +kernel
theorem mck10 : MCk 10 := ⟨ck10, fun h => absurd h (by decide)⟩
theorem ck11 : mchk prog_2_method_12_code 0 4 0 false k_X0_pricesOf = true := by decide +kernel
theorem mck11 : MCk 11 := ⟨ck11, fun h => absurd h (by decide)⟩
theorem ck12 : mchk prog_2_method_13_code 0 9 0 false k_X0_pass = true := by decide +kernel
theorem mck12 : MCk 12 := ⟨ck12, fun h => absurd h (by decide)⟩
theorem ck13 : mchk prog_2_method_14_code 0 4 1 false k_X0_walkAll = true := by decide +kernel
theorem mck13 : MCk 13 := ⟨ck13, fun h => absurd h (by decide)⟩
theorem ck14 : mchk prog_2_method_15_code 0 6 0 false k_X0_elapse = true := by decide +kernel
theorem mck14 : MCk 14 := ⟨ck14, fun h => absurd h (by decide)⟩
theorem ck15 : mchk prog_2_method_16_code 0 3 0 false k_X0_allOdds = true := by decide +kernel
theorem mck15 : MCk 15 := ⟨ck15, fun h => absurd h (by decide)⟩
theorem ck16 : mchk prog_2_method_17_code 0 4 5 false k_X0_orderRooms = true := by decide +kernel
theorem mck16 : MCk 16 := ⟨ck16, fun h => absurd h (by decide)⟩
theorem ck17 : mchk prog_2_method_18_code 0 3 1 false k_X0_isSoughtAhead = true := by decide +kernel
theorem mck17 : MCk 17 := ⟨ck17, fun h => absurd h (by decide)⟩
theorem ck18 : mchk prog_3_method_1_code 1 3 5 true k_X1_init = true := by decide +kernel
theorem mck18 : MCk 18 := ⟨ck18, fun _ => rfl⟩
theorem ck19 : mchk prog_3_method_2_code 1 3 1 false k_X1_parse = true := by decide +kernel
theorem mck19 : MCk 19 := ⟨ck19, fun h => absurd h (by decide)⟩
theorem ck20 : mchk prog_3_method_3_code 1 1 1 false k_X1_takePart = true := by decide +kernel
theorem mck20 : MCk 20 := ⟨ck20, fun h => absurd h (by decide)⟩
theorem ck21 : mchk prog_3_method_4_code 1 2 1 false k_X1_takeLaw = true := by decide +kernel
theorem mck21 : MCk 21 := ⟨ck21, fun h => absurd h (by decide)⟩
theorem ck22 : mchk prog_3_method_5_code 1 1 1 false k_X1_takePartyPart = true := by decide +kernel
theorem mck22 : MCk 22 := ⟨ck22, fun h => absurd h (by decide)⟩
theorem ck23 : mchk prog_3_method_6_code 1 2 1 false k_X1_takeMemberPart = true := by decide +kernel
theorem mck23 : MCk 23 := ⟨ck23, fun h => absurd h (by decide)⟩
theorem ck24 : mchk prog_3_method_7_code 1 2 1 false k_X1_takeTraits = true := by decide +kernel
theorem mck24 : MCk 24 := ⟨ck24, fun h => absurd h (by decide)⟩
theorem ck25 : mchk prog_3_method_8_code 1 5 1 false k_X1_takeTrait = true := by decide +kernel
theorem mck25 : MCk 25 := ⟨ck25, fun h => absurd h (by decide)⟩
theorem ck26 : mchk prog_3_method_9_code 1 2 1 false k_X1_takeTwinsPart = true := by decide +kernel
theorem mck26 : MCk 26 := ⟨ck26, fun h => absurd h (by decide)⟩
theorem ck27 : mchk prog_3_method_10_code 1 2 1 false k_X1_takeMotionPart = true := by decide +kernel
theorem mck27 : MCk 27 := ⟨ck27, fun h => absurd h (by decide)⟩
theorem ck28 : mchk prog_3_method_11_code 1 2 1 false k_X1_takeRoomPart = true := by decide +kernel
theorem mck28 : MCk 28 := ⟨ck28, fun h => absurd h (by decide)⟩
theorem ck29 : mchk prog_3_method_12_code 1 1 1 false k_X1_takeNewName = true := by decide +kernel
theorem mck29 : MCk 29 := ⟨ck29, fun h => absurd h (by decide)⟩
theorem ck30 : mchk prog_3_method_13_code 1 1 1 false k_X1_takeParty = true := by decide +kernel
theorem mck30 : MCk 30 := ⟨ck30, fun h => absurd h (by decide)⟩
theorem ck31 : mchk prog_3_method_14_code 1 2 1 false k_X1_takeLoneMember = true := by decide +kernel
theorem mck31 : MCk 31 := ⟨ck31, fun h => absurd h (by decide)⟩
theorem ck32 : mchk prog_3_method_15_code 1 4 1 false k_X1_takeParties = true := by decide +kernel
theorem mck32 : MCk 32 := ⟨ck32, fun h => absurd h (by decide)⟩
theorem ck33 : mchk prog_4_method_1_code 2 1 5 true k_X2_init = true := by decide +kernel
theorem mck33 : MCk 33 := ⟨ck33, fun _ => rfl⟩
theorem ck34 : mchk prog_4_method_2_code 2 1 5 false k_X2_reset = true := by decide +kernel
theorem mck34 : MCk 34 := ⟨ck34, fun h => absurd h (by decide)⟩
theorem ck35 : mchk prog_4_method_3_code 2 2 5 false k_X2_copyFrom = true := by decide +kernel
theorem mck35 : MCk 35 := ⟨ck35, fun h => absurd h (by decide)⟩
theorem ck36 : mchk prog_4_method_4_code 2 1 1 false k_X2_isDead = true := by decide +kernel
theorem mck36 : MCk 36 := ⟨ck36, fun h => absurd h (by decide)⟩
theorem ck37 : mchk prog_4_method_5_code 2 1 1 false k_X2_canWalk = true := by decide +kernel
theorem mck37 : MCk 37 := ⟨ck37, fun h => absurd h (by decide)⟩
theorem ck38 : mchk prog_4_method_6_code 2 1 5 false k_X2_perish = true := by decide +kernel
theorem mck38 : MCk 38 := ⟨ck38, fun h => absurd h (by decide)⟩
theorem ck39 : mchk prog_4_method_7_code 2 3 0 false k_X2_yardsAfter = true := by decide +kernel
theorem mck39 : MCk 39 := ⟨ck39, fun h => absurd h (by decide)⟩
theorem ck40 : mchk prog_4_method_8_code 2 3 1 false k_X2_walkOn = true := by decide +kernel
theorem mck40 : MCk 40 := ⟨ck40, fun h => absurd h (by decide)⟩
theorem ck41 : mchk prog_5_method_1_code 3 3 5 true k_X3_init = true := by decide +kernel
theorem mck41 : MCk 41 := ⟨ck41, fun _ => rfl⟩
theorem ck42 : mchk prog_5_method_2_code 3 3 0 false k_X3_run = true := by decide +kernel
theorem mck42 : MCk 42 := ⟨ck42, fun h => absurd h (by decide)⟩
theorem ck43 : mchk prog_5_method_3_code 3 5 5 false k_X3_runSteps = true := by decide +kernel
theorem mck43 : MCk 43 := ⟨ck43, fun h => absurd h (by decide)⟩
theorem ck44 : mchk prog_5_method_4_code 3 5 5 false k_X3_runStep = true := by decide +kernel
theorem mck44 : MCk 44 := ⟨ck44, fun h => absurd h (by decide)⟩
theorem ck45 : mchk prog_5_method_5_code 3 2 5 false k_X3_runAny = true := by decide +kernel
theorem mck45 : MCk 45 := ⟨ck45, fun h => absurd h (by decide)⟩
theorem ck46 : mchk prog_5_method_6_code 3 3 5 false k_X3_runTold = true := by decide +kernel
theorem mck46 : MCk 46 := ⟨ck46, fun h => absurd h (by decide)⟩
theorem ck47 : mchk prog_5_method_7_code 3 4 1 false k_X3_isTrue = true := by decide +kernel
theorem mck47 : MCk 47 := ⟨ck47, fun h => absurd h (by decide)⟩
theorem ck48 : mchk prog_5_method_8_code 3 3 1 false k_X3_compares = true := by decide +kernel
theorem mck48 : MCk 48 := ⟨ck48, fun h => absurd h (by decide)⟩
theorem ck49 : mchk prog_6_method_1_code 4 2 5 true k_X4_init = true := by decide +kernel
theorem mck49 : MCk 49 := ⟨ck49, fun _ => rfl⟩
theorem ck50 : mchk prog_6_method_2_code 4 5 5 false k_X4_load = true := by decide +kernel
theorem mck50 : MCk 50 := ⟨ck50, fun h => absurd h (by decide)⟩
theorem ck51 : mchk prog_6_method_3_code 4 4 5 false k_X4_setLaw = true := by decide +kernel
theorem mck51 : MCk 51 := ⟨ck51, fun h => absurd h (by decide)⟩
theorem ck52 : mchk prog_6_method_4_code 4 3 5 false k_X4_sendAway = true := by decide +kernel
theorem mck52 : MCk 52 := ⟨ck52, fun h => absurd h (by decide)⟩
theorem ck53 : mchk prog_6_method_5_code 4 5 5 false k_X4_weigh = true := by decide +kernel
theorem mck53 : MCk 53 := ⟨ck53, fun h => absurd h (by decide)⟩
theorem ck54 : mchk prog_6_method_6_code 4 3 0 false k_X4_ownWeight = true := by decide +kernel
theorem mck54 : MCk 54 := ⟨ck54, fun h => absurd h (by decide)⟩
theorem ck55 : mchk prog_6_method_7_code 4 4 0 false k_X4_powerOfSet = true := by decide +kernel
theorem mck55 : MCk 55 := ⟨ck55, fun h => absurd h (by decide)⟩
theorem ck56 : mchk prog_6_method_8_code 4 1 0 false k_X4_allPower = true := by decide +kernel
theorem mck56 : MCk 56 := ⟨ck56, fun h => absurd h (by decide)⟩
theorem ck57 : mchk prog_6_method_9_code 4 4 0 false k_X4_governor = true := by decide +kernel
theorem mck57 : MCk 57 := ⟨ck57, fun h => absurd h (by decide)⟩
theorem ck58 : mchk prog_6_method_10_code 4 2 0 false k_X4_marginOf = true := by decide +kernel
theorem mck58 : MCk 58 := ⟨ck58, fun h => absurd h (by decide)⟩
theorem ck59 : mchk prog_6_method_11_code 4 3 0 false k_X4_carriedSet = true := by decide +kernel
theorem mck59 : MCk 59 := ⟨ck59, fun h => absurd h (by decide)⟩
theorem ck60 : mchk prog_6_method_12_code 4 2 1 false k_X4_isWinning = true := by decide +kernel
theorem mck60 : MCk 60 := ⟨ck60, fun h => absurd h (by decide)⟩
theorem ck61 : mchk prog_6_method_13_code 4 5 0 false k_X4_swingsOf = true := by decide +kernel
theorem mck61 : MCk 61 := ⟨ck61, fun h => absurd h (by decide)⟩
theorem ck62 : mchk prog_6_method_14_code 4 3 1 false k_X4_isLean = true := by decide +kernel
theorem mck62 : MCk 62 := ⟨ck62, fun h => absurd h (by decide)⟩
theorem ck63 : mchk prog_7_method_1_code 5 1 5 true k_X5_init = true := by decide +kernel
theorem mck63 : MCk 63 := ⟨ck63, fun _ => rfl⟩
theorem ck64 : mchk prog_7_method_2_code 5 1 5 false k_X5_reset = true := by decide +kernel
theorem mck64 : MCk 64 := ⟨ck64, fun h => absurd h (by decide)⟩
theorem ck65 : mchk prog_7_method_3_code 5 2 5 false k_X5_copyFrom = true := by decide +kernel
theorem mck65 : MCk 65 := ⟨ck65, fun h => absurd h (by decide)⟩
theorem ck66 : mchk prog_8_method_1_code 6 3 5 true k_X6_init = true := by decide +kernel
theorem mck66 : MCk 66 := ⟨ck66, fun _ => rfl⟩
theorem ck67 : mchk prog_8_method_2_code 6 4 1 false k_X6_parse = true := by decide +kernel
theorem mck67 : MCk 67 := ⟨ck67, fun h => absurd h (by decide)⟩
theorem ck68 : mchk prog_8_method_3_code 6 1 1 false k_X6_takeEnd = true := by decide +kernel
theorem mck68 : MCk 68 := ⟨ck68, fun h => absurd h (by decide)⟩
theorem ck69 : mchk prog_8_method_4_code 6 1 1 false k_X6_beginsStep = true := by decide +kernel
theorem mck69 : MCk 69 := ⟨ck69, fun h => absurd h (by decide)⟩
theorem ck70 : mchk prog_8_method_5_code 6 4 1 false k_X6_takeStep = true := by decide +kernel
theorem mck70 : MCk 70 := ⟨ck70, fun h => absurd h (by decide)⟩
theorem ck71 : mchk prog_8_method_6_code 6 3 1 false k_X6_takeRest = true := by decide +kernel
theorem mck71 : MCk 71 := ⟨ck71, fun h => absurd h (by decide)⟩
theorem ck72 : mchk prog_8_method_7_code 6 3 1 false k_X6_takeTest = true := by decide +kernel
theorem mck72 : MCk 72 := ⟨ck72, fun h => absurd h (by decide)⟩
theorem ck73 : mchk prog_8_method_8_code 6 3 1 false k_X6_takeName = true := by decide +kernel
theorem mck73 : MCk 73 := ⟨ck73, fun h => absurd h (by decide)⟩
theorem ck74 : mchk prog_9_method_1_code 7 3 5 true k_X7_init = true := by decide +kernel
theorem mck74 : MCk 74 := ⟨ck74, fun _ => rfl⟩
theorem ck75 : mchk prog_9_method_2_code 7 9 0 false k_X7_bestAway = true := by decide +kernel
theorem mck75 : MCk 75 := ⟨ck75, fun h => absurd h (by decide)⟩
theorem ck76 : mchk prog_9_method_3_code 7 5 0 false k_X7_play = true := by decide +kernel
theorem mck76 : MCk 76 := ⟨ck76, fun h => absurd h (by decide)⟩
theorem ck77 : mchk prog_9_method_4_code 7 9 0 false k_X7_valueFrom = true := by decide +kernel
theorem mck77 : MCk 77 := ⟨ck77, fun h => absurd h (by decide)⟩
theorem ck78 : mchk prog_9_method_5_code 7 6 0 false k_X7_valueOf = true := by decide +kernel
theorem mck78 : MCk 78 := ⟨ck78, fun h => absurd h (by decide)⟩
theorem ck79 : mchk prog_10_method_1_code 8 2 5 true k_X8_init = true := by decide +kernel
theorem mck79 : MCk 79 := ⟨ck79, fun _ => rfl⟩
theorem ck80 : mchk prog_10_method_2_code 8 5 5 false k_X8_reckon = true := by decide +kernel
theorem mck80 : MCk 80 := ⟨ck80, fun h => absurd h (by decide)⟩
theorem ck81 : mchk prog_10_method_3_code 8 6 1 false k_X8_isTallied = true := by decide +kernel
theorem mck81 : MCk 81 := ⟨ck81, fun h => absurd h (by decide)⟩
theorem ck82 : mchk prog_10_method_4_code 8 4 5 false k_X8_addWay = true := by decide +kernel
theorem mck82 : MCk 82 := ⟨ck82, fun h => absurd h (by decide)⟩
theorem ck83 : mchk prog_10_method_5_code 8 7 0 false k_X8_bestToAsk = true := by decide +kernel
theorem mck83 : MCk 83 := ⟨ck83, fun h => absurd h (by decide)⟩
theorem ck84 : mchk prog_11_method_1_code 9 6 5 true k_X9_init = true := by decide +kernel
theorem mck84 : MCk 84 := ⟨ck84, fun _ => rfl⟩
theorem ck85 : mchk prog_11_method_2_code 9 1 1 false k_X9_hasSpace = true := by decide +kernel
theorem mck85 : MCk 85 := ⟨ck85, fun h => absurd h (by decide)⟩
theorem ck86 : mchk prog_11_method_3_code 9 3 5 false k_X9_append = true := by decide +kernel
theorem mck86 : MCk 86 := ⟨ck86, fun h => absurd h (by decide)⟩
theorem ck87 : mchk prog_11_method_4_code 9 2 5 false k_X9_begin = true := by decide +kernel
theorem mck87 : MCk 87 := ⟨ck87, fun h => absurd h (by decide)⟩
theorem ck88 : mchk prog_11_method_5_code 9 1 5 false k_X9_advance = true := by decide +kernel
theorem mck88 : MCk 88 := ⟨ck88, fun h => absurd h (by decide)⟩
theorem ck89 : mchk prog_11_method_6_code 9 2 5 false k_X9_readWord = true := by decide +kernel
theorem mck89 : MCk 89 := ⟨ck89, fun h => absurd h (by decide)⟩
theorem ck90 : mchk prog_11_method_7_code 9 1 5 false k_X9_readDigits = true := by decide +kernel
theorem mck90 : MCk 90 := ⟨ck90, fun h => absurd h (by decide)⟩
theorem ck91 : mchk prog_11_method_8_code 9 1 5 false k_X9_readSign = true := by decide +kernel
theorem mck91 : MCk 91 := ⟨ck91, fun h => absurd h (by decide)⟩
theorem ck92 : mchk prog_11_method_9_code 9 1 1 false k_X9_isAtEnd = true := by decide +kernel
theorem mck92 : MCk 92 := ⟨ck92, fun h => absurd h (by decide)⟩
theorem ck93 : mchk prog_11_method_10_code 9 1 1 false k_X9_isName = true := by decide +kernel
theorem mck93 : MCk 93 := ⟨ck93, fun h => absurd h (by decide)⟩
theorem ck94 : mchk prog_11_method_11_code 9 2 1 false k_X9_refuse = true := by decide +kernel
theorem mck94 : MCk 94 := ⟨ck94, fun h => absurd h (by decide)⟩
theorem ck95 : mchk prog_11_method_12_code 9 2 1 false k_X9_takeKey = true := by decide +kernel
theorem mck95 : MCk 95 := ⟨ck95, fun h => absurd h (by decide)⟩
theorem ck96 : mchk prog_11_method_13_code 9 3 1 false k_X9_skipKey = true := by decide +kernel
theorem mck96 : MCk 96 := ⟨ck96, fun h => absurd h (by decide)⟩
theorem ck97 : mchk prog_11_method_14_code 9 3 1 false k_X9_takeNumber = true := by decide +kernel
theorem mck97 : MCk 97 := ⟨ck97, fun h => absurd h (by decide)⟩
theorem ck98 : mchk prog_11_method_15_code 9 1 1 false k_X9_takeClose = true := by decide +kernel
theorem mck98 : MCk 98 := ⟨ck98, fun h => absurd h (by decide)⟩
theorem ck99 : mchk prog_11_method_16_code 9 1 1 false k_X9_takeCompares = true := by decide +kernel
theorem mck99 : MCk 99 := ⟨ck99, fun h => absurd h (by decide)⟩
theorem ck100 : mchk prog_12_method_1_code 10 1 5 true k_X10_init = true := by decide +kernel
theorem mck100 : MCk 100 := ⟨ck100, fun _ => rfl⟩
theorem ck101 : mchk prog_12_method_2_code 10 1 1 false k_X10_isMissing = true := by decide +kernel
theorem mck101 : MCk 101 := ⟨ck101, fun h => absurd h (by decide)⟩
theorem ck102 : mchk prog_12_method_3_code 10 3 5 false k_X10_lay = true := by decide +kernel
theorem mck102 : MCk 102 := ⟨ck102, fun h => absurd h (by decide)⟩
theorem ck103 : mchk prog_12_method_4_code 10 3 1 false k_X10_holds = true := by decide +kernel
theorem mck103 : MCk 103 := ⟨ck103, fun h => absurd h (by decide)⟩
theorem ck104 : mchk prog_12_method_5_code 10 4 5 false k_X10_put = true := by decide +kernel
theorem mck104 : MCk 104 := ⟨ck104, fun h => absurd h (by decide)⟩
theorem ck105 : mchk prog_12_method_6_code 10 3 4 false k_X10_cut = true := by decide +kernel
theorem mck105 : MCk 105 := ⟨ck105, fun h => absurd h (by decide)⟩
theorem ck106 : mchk prog_1_method_1_code 11 2 5 true k_X11_init = true := by decide +kernel
theorem mck106 : MCk 106 := ⟨ck106, fun _ => rfl⟩
theorem ck107 : mchk prog_1_method_2_code 11 1 0 false k_X11_status = true := by decide +kernel
theorem mck107 : MCk 107 := ⟨ck107, fun h => absurd h (by decide)⟩
theorem ck108 : mchk prog_1_method_3_code 11 1 4 false k_X11_top = true := by decide +kernel
theorem mck108 : MCk 108 := ⟨ck108, fun h => absurd h (by decide)⟩
theorem ck109 : mchk prog_1_method_4_code 11 1 4 false k_X11_bottom = true := by decide +kernel
theorem mck109 : MCk 109 := ⟨ck109, fun h => absurd h (by decide)⟩
theorem ck110 : mchk prog_1_method_5_code 11 2 0 false k_X11_answer = true := by decide +kernel
theorem mck110 : MCk 110 := ⟨ck110, fun h => absurd h (by decide)⟩
theorem ck111 : mchk prog_1_method_6_code 11 2 0 false k_X11_refuse = true := by decide +kernel
theorem mck111 : MCk 111 := ⟨ck111, fun h => absurd h (by decide)⟩
theorem ck112 : mchk prog_1_method_7_code 11 2 0 false k_X11_answerOrNone = true := by decide +kernel
theorem mck112 : MCk 112 := ⟨ck112, fun h => absurd h (by decide)⟩
theorem ck113 : mchk prog_1_method_8_code 11 1 1 false k_X11_done = true := by decide +kernel
theorem mck113 : MCk 113 := ⟨ck113, fun h => absurd h (by decide)⟩
theorem ck114 : mchk prog_1_method_9_code 11 2 1 false k_X11_deny = true := by decide +kernel
theorem mck114 : MCk 114 := ⟨ck114, fun h => absurd h (by decide)⟩
theorem ck115 : mchk prog_1_method_10_code 11 7 1 false k_X11_tellFraction = true := by decide +kernel
theorem mck115 : MCk 115 := ⟨ck115, fun h => absurd h (by decide)⟩
theorem ck116 : mchk prog_1_method_11_code 11 11 4 false k_X11_greatestDivisor = true := by decide +kernel
theorem mck116 : MCk 116 := ⟨ck116, fun h => absurd h (by decide)⟩
theorem ck117 : mchk prog_1_method_12_code 11 3 1 false k_X11_isBetween = true := by decide +kernel
theorem mck117 : MCk 117 := ⟨ck117, fun h => absurd h (by decide)⟩
theorem ck118 : mchk prog_1_method_13_code 11 1 1 false k_X11_isTray = true := by decide +kernel
theorem mck118 : MCk 118 := ⟨ck118, fun h => absurd h (by decide)⟩
theorem ck119 : mchk prog_1_method_14_code 11 2 1 false k_X11_isParty = true := by decide +kernel
theorem mck119 : MCk 119 := ⟨ck119, fun h => absurd h (by decide)⟩
theorem ck120 : mchk prog_1_method_15_code 11 2 1 false k_X11_isMember = true := by decide +kernel
theorem mck120 : MCk 120 := ⟨ck120, fun h => absurd h (by decide)⟩
theorem ck121 : mchk prog_1_method_16_code 11 2 1 false k_X11_isMotion = true := by decide +kernel
theorem mck121 : MCk 121 := ⟨ck121, fun h => absurd h (by decide)⟩
theorem ck122 : mchk prog_1_method_17_code 11 2 1 false k_X11_isSetOf = true := by decide +kernel
theorem mck122 : MCk 122 := ⟨ck122, fun h => absurd h (by decide)⟩
theorem ck123 : mchk prog_1_method_18_code 11 1 5 false k_X11_weighNow = true := by decide +kernel
theorem mck123 : MCk 123 := ⟨ck123, fun h => absurd h (by decide)⟩
theorem ck124 : mchk prog_1_method_19_code 11 2 5 false k_X11_weighIn = true := by decide +kernel
theorem mck124 : MCk 124 := ⟨ck124, fun h => absurd h (by decide)⟩
theorem ck125 : mchk prog_1_method_20_code 11 3 0 false k_X11_trayTrouble = true := by decide +kernel
theorem mck125 : MCk 125 := ⟨ck125, fun h => absurd h (by decide)⟩
theorem ck126 : mchk prog_1_method_21_code 11 4 0 false k_X11_placeTrouble = true := by decide +kernel
theorem mck126 : MCk 126 := ⟨ck126, fun h => absurd h (by decide)⟩
theorem ck127 : mchk prog_1_method_22_code 11 4 1 false k_X11_tray = true := by decide +kernel
theorem mck127 : MCk 127 := ⟨ck127, fun h => absurd h (by decide)⟩
theorem ck128 : mchk prog_1_method_23_code 11 6 1 false k_X11_write = true := by decide +kernel
theorem mck128 : MCk 128 := ⟨ck128, fun h => absurd h (by decide)⟩
theorem ck129 : mchk prog_1_method_24_code 11 4 4 false k_X11_read = true := by decide +kernel
theorem mck129 : MCk 129 := ⟨ck129, fun h => absurd h (by decide)⟩
theorem ck130 : mchk prog_1_method_25_code 11 8 1 false k_X11_pour = true := by decide +kernel
theorem mck130 : MCk 130 := ⟨ck130, fun h => absurd h (by decide)⟩
theorem ck131 : mchk prog_1_method_26_code 11 6 0 false k_X11_feed = true := by decide +kernel
theorem mck131 : MCk 131 := ⟨ck131, fun h => absurd h (by decide)⟩
theorem ck132 : mchk prog_1_method_27_code 11 3 0 false k_X11_assembly = true := by decide +kernel
theorem mck132 : MCk 132 := ⟨ck132, fun h => absurd h (by decide)⟩
theorem ck133 : mchk prog_1_method_28_code 11 3 0 false k_X11_sessions = true := by decide +kernel
theorem mck133 : MCk 133 := ⟨ck133, fun h => absurd h (by decide)⟩
theorem ck134 : mchk prog_1_method_29_code 11 2 0 false k_X11_fault = true := by decide +kernel
theorem mck134 : MCk 134 := ⟨ck134, fun h => absurd h (by decide)⟩
theorem ck135 : mchk prog_1_method_30_code 11 2 0 false k_X11_many = true := by decide +kernel
theorem mck135 : MCk 135 := ⟨ck135, fun h => absurd h (by decide)⟩
theorem ck136 : mchk prog_1_method_31_code 11 2 0 false k_X11_plainMany = true := by decide +kernel
theorem mck136 : MCk 136 := ⟨ck136, fun h => absurd h (by decide)⟩
theorem ck137 : mchk prog_1_method_32_code 11 2 0 false k_X11_weighedMany = true := by decide +kernel
theorem mck137 : MCk 137 := ⟨ck137, fun h => absurd h (by decide)⟩
theorem ck138 : mchk prog_1_method_33_code 11 4 0 false k_X11_member = true := by decide +kernel
theorem mck138 : MCk 138 := ⟨ck138, fun h => absurd h (by decide)⟩
theorem ck139 : mchk prog_1_method_34_code 11 3 0 false k_X11_motion = true := by decide +kernel
theorem mck139 : MCk 139 := ⟨ck139, fun h => absurd h (by decide)⟩
theorem ck140 : mchk prog_1_method_35_code 11 3 0 false k_X11_room = true := by decide +kernel
theorem mck140 : MCk 140 := ⟨ck140, fun h => absurd h (by decide)⟩
theorem ck141 : mchk prog_1_method_36_code 11 2 0 false k_X11_counts = true := by decide +kernel
theorem mck141 : MCk 141 := ⟨ck141, fun h => absurd h (by decide)⟩
theorem ck142 : mchk prog_1_method_37_code 11 2 0 false k_X11_power = true := by decide +kernel
theorem mck142 : MCk 142 := ⟨ck142, fun h => absurd h (by decide)⟩
theorem ck143 : mchk prog_1_method_38_code 11 2 0 false k_X11_powerOf = true := by decide +kernel
theorem mck143 : MCk 143 := ⟨ck143, fun h => absurd h (by decide)⟩
theorem ck144 : mchk prog_1_method_39_code 11 1 0 false k_X11_governs = true := by decide +kernel
theorem mck144 : MCk 144 := ⟨ck144, fun h => absurd h (by decide)⟩
theorem ck145 : mchk prog_1_method_40_code 11 2 0 false k_X11_bells = true := by decide +kernel
theorem mck145 : MCk 145 := ⟨ck145, fun h => absurd h (by decide)⟩
theorem ck146 : mchk prog_1_method_41_code 11 2 0 false k_X11_margin = true := by decide +kernel
theorem mck146 : MCk 146 := ⟨ck146, fun h => absurd h (by decide)⟩
theorem ck147 : mchk prog_1_method_42_code 11 4 0 false k_X11_copyCounts = true := by decide +kernel
theorem mck147 : MCk 147 := ⟨ck147, fun h => absurd h (by decide)⟩
theorem ck148 : mchk prog_1_method_43_code 11 2 0 false k_X11_minute = true := by decide +kernel
theorem mck148 : MCk 148 := ⟨ck148, fun h => absurd h (by decide)⟩
theorem ck149 : mchk prog_1_method_44_code 11 4 1 false k_X11_walk = true := by decide +kernel
theorem mck149 : MCk 149 := ⟨ck149, fun h => absurd h (by decide)⟩
theorem ck150 : mchk prog_1_method_45_code 11 3 0 false k_X11_die = true := by decide +kernel
theorem mck150 : MCk 150 := ⟨ck150, fun h => absurd h (by decide)⟩
theorem ck151 : mchk prog_1_method_46_code 11 4 1 false k_X11_fall = true := by decide +kernel
theorem mck151 : MCk 151 := ⟨ck151, fun h => absurd h (by decide)⟩
theorem ck152 : mchk prog_1_method_47_code 11 4 1 false k_X11_hide = true := by decide +kernel
theorem mck152 : MCk 152 := ⟨ck152, fun h => absurd h (by decide)⟩
theorem ck153 : mchk prog_1_method_48_code 11 5 0 false k_X11_carry = true := by decide +kernel
theorem mck153 : MCk 153 := ⟨ck153, fun h => absurd h (by decide)⟩
theorem ck154 : mchk prog_1_method_49_code 11 4 0 false k_X11_year = true := by decide +kernel
theorem mck154 : MCk 154 := ⟨ck154, fun h => absurd h (by decide)⟩
theorem ck155 : mchk prog_1_method_50_code 11 3 1 false k_X11_rule = true := by decide +kernel
theorem mck155 : MCk 155 := ⟨ck155, fun h => absurd h (by decide)⟩
theorem ck156 : mchk prog_1_method_51_code 11 5 0 false k_X11_join = true := by decide +kernel
theorem mck156 : MCk 156 := ⟨ck156, fun h => absurd h (by decide)⟩
theorem ck157 : mchk prog_1_method_52_code 11 5 1 false k_X11_side = true := by decide +kernel
theorem mck157 : MCk 157 := ⟨ck157, fun h => absurd h (by decide)⟩
theorem ck158 : mchk prog_1_method_53_code 11 3 0 false k_X11_yardsIn = true := by decide +kernel
theorem mck158 : MCk 158 := ⟨ck158, fun h => absurd h (by decide)⟩
theorem ck159 : mchk prog_1_method_54_code 11 2 0 false k_X11_governsIn = true := by decide +kernel
theorem mck159 : MCk 159 := ⟨ck159, fun h => absurd h (by decide)⟩
theorem ck160 : mchk prog_1_method_55_code 11 3 0 false k_X11_firstIn = true := by decide +kernel
theorem mck160 : MCk 160 := ⟨ck160, fun h => absurd h (by decide)⟩
theorem ck161 : mchk prog_1_method_56_code 11 3 0 false k_X11_carriedIn = true := by decide +kernel
theorem mck161 : MCk 161 := ⟨ck161, fun h => absurd h (by decide)⟩
theorem ck162 : mchk prog_1_method_57_code 11 5 0 false k_X11_reign = true := by decide +kernel
theorem mck162 : MCk 162 := ⟨ck162, fun h => absurd h (by decide)⟩
theorem ck163 : mchk prog_1_method_58_code 11 2 0 false k_X11_emptyIn = true := by decide +kernel
theorem mck163 : MCk 163 := ⟨ck163, fun h => absurd h (by decide)⟩
theorem ck164 : mchk prog_1_method_59_code 11 3 0 false k_X11_fewest = true := by decide +kernel
theorem mck164 : MCk 164 := ⟨ck164, fun h => absurd h (by decide)⟩
theorem ck165 : mchk prog_1_method_60_code 11 2 0 false k_X11_fewestSet = true := by decide +kernel
theorem mck165 : MCk 165 := ⟨ck165, fun h => absurd h (by decide)⟩
theorem ck166 : mchk prog_1_method_61_code 11 3 0 false k_X11_cheapest = true := by decide +kernel
theorem mck166 : MCk 166 := ⟨ck166, fun h => absurd h (by decide)⟩
theorem ck167 : mchk prog_1_method_62_code 11 2 0 false k_X11_cheapestSet = true := by decide +kernel
theorem mck167 : MCk 167 := ⟨ck167, fun h => absurd h (by decide)⟩
theorem ck168 : mchk prog_1_method_63_code 11 3 0 false k_X11_powerBy = true := by decide +kernel
theorem mck168 : MCk 168 := ⟨ck168, fun h => absurd h (by decide)⟩
theorem ck169 : mchk prog_1_method_64_code 11 5 0 false k_X11_gameTrouble = true := by decide +kernel
theorem mck169 : MCk 169 := ⟨ck169, fun h => absurd h (by decide)⟩
theorem ck170 : mchk prog_1_method_65_code 11 5 0 false k_X11_game = true := by decide +kernel
theorem mck170 : MCk 170 := ⟨ck170, fun h => absurd h (by decide)⟩
theorem ck171 : mchk prog_1_method_66_code 11 5 0 false k_X11_moveOf = true := by decide +kernel
theorem mck171 : MCk 171 := ⟨ck171, fun h => absurd h (by decide)⟩
theorem ck172 : mchk prog_1_method_67_code 11 3 0 false k_X11_winning = true := by decide +kernel
theorem mck172 : MCk 172 := ⟨ck172, fun h => absurd h (by decide)⟩
theorem ck173 : mchk prog_1_method_68_code 11 2 0 false k_X11_wins = true := by decide +kernel
theorem mck173 : MCk 173 := ⟨ck173, fun h => absurd h (by decide)⟩
theorem ck174 : mchk prog_1_method_69_code 11 2 0 false k_X11_swings = true := by decide +kernel
theorem mck174 : MCk 174 := ⟨ck174, fun h => absurd h (by decide)⟩
theorem ck175 : mchk prog_1_method_70_code 11 4 1 false k_X11_share = true := by decide +kernel
theorem mck175 : MCk 175 := ⟨ck175, fun h => absurd h (by decide)⟩
theorem ck176 : mchk prog_1_method_71_code 11 3 0 false k_X11_lean = true := by decide +kernel
theorem mck176 : MCk 176 := ⟨ck176, fun h => absurd h (by decide)⟩
theorem ck177 : mchk prog_1_method_72_code 11 4 0 false k_X11_carriedBy = true := by decide +kernel
theorem mck177 : MCk 177 := ⟨ck177, fun h => absurd h (by decide)⟩
theorem ck178 : mchk prog_1_method_73_code 11 3 0 false k_X11_farFor = true := by decide +kernel
theorem mck178 : MCk 178 := ⟨ck178, fun h => absurd h (by decide)⟩
theorem ck179 : mchk prog_1_method_74_code 11 3 0 false k_X11_tally = true := by decide +kernel
theorem mck179 : MCk 179 := ⟨ck179, fun h => absurd h (by decide)⟩
theorem ck180 : mchk prog_1_method_75_code 11 3 0 false k_X11_sure = true := by decide +kernel
theorem mck180 : MCk 180 := ⟨ck180, fun h => absurd h (by decide)⟩
theorem ck181 : mchk prog_1_method_76_code 11 3 0 false k_X11_ask = true := by decide +kernel
theorem mck181 : MCk 181 := ⟨ck181, fun h => absurd h (by decide)⟩
theorem ck182 : mchk prog_1_method_77_code 11 6 1 false k_X11_seek = true := by decide +kernel
theorem mck182 : MCk 182 := ⟨ck182, fun h => absurd h (by decide)⟩
theorem ck183 : mchk prog_1_method_78_code 11 2 0 false k_X11_seekAt = true := by decide +kernel
theorem mck183 : MCk 183 := ⟨ck183, fun h => absurd h (by decide)⟩
theorem ck184 : mchk prog_1_method_79_code 11 3 0 false k_X11_live = true := by decide +kernel
theorem mck184 : MCk 184 := ⟨ck184, fun h => absurd h (by decide)⟩
theorem ck185 : mchk prog_1_method_80_code 11 2 0 false k_X11_lived = true := by decide +kernel
theorem mck185 : MCk 185 := ⟨ck185, fun h => absurd h (by decide)⟩
theorem ck186 : mchk prog_1_method_81_code 11 6 1 false k_X11_mean = true := by decide +kernel
theorem mck186 : MCk 186 := ⟨ck186, fun h => absurd h (by decide)⟩
theorem ck187 : mchk prog_1_method_82_code 11 1 0 false k_X11_mark = true := by decide +kernel
theorem mck187 : MCk 187 := ⟨ck187, fun h => absurd h (by decide)⟩
theorem ck188 : mchk prog_1_method_83_code 11 1 0 false k_X11_back = true := by decide +kernel
theorem mck188 : MCk 188 := ⟨ck188, fun h => absurd h (by decide)⟩
theorem ck189 : mchk prog_14_method_1_code 12 2 5 true k_X12_init = true := by decide +kernel
theorem mck189 : MCk 189 := ⟨ck189, fun _ => rfl⟩
theorem ck190 : mchk prog_14_method_3_code 12 1 0 false k_X12_status = true := by decide +kernel
theorem mck190 : MCk 190 := ⟨ck190, fun h => absurd h (by decide)⟩
theorem ck191 : mchk prog_14_method_4_code 12 1 4 false k_X12_top = true := by decide +kernel
theorem mck191 : MCk 191 := ⟨ck191, fun h => absurd h (by decide)⟩
theorem ck192 : mchk prog_14_method_5_code 12 1 4 false k_X12_bottom = true := by decide +kernel
theorem mck192 : MCk 192 := ⟨ck192, fun h => absurd h (by decide)⟩
theorem ck193 : mchk prog_14_method_6_code 12 2 0 false k_X12_refuse = true := by decide +kernel
theorem mck193 : MCk 193 := ⟨ck193, fun h => absurd h (by decide)⟩
theorem ck194 : mchk prog_14_method_7_code 12 2 1 false k_X12_no = true := by decide +kernel
theorem mck194 : MCk 194 := ⟨ck194, fun h => absurd h (by decide)⟩
theorem ck195 : mchk prog_14_method_8_code 12 6 1 false k_X12_isIn = true := by decide +kernel
theorem mck195 : MCk 195 := ⟨ck195, fun h => absurd h (by decide)⟩
theorem ck196 : mchk prog_14_method_9_code 12 11 1 false k_X12_fraction = true := by decide +kernel
theorem mck196 : MCk 196 := ⟨ck196, fun h => absurd h (by decide)⟩
theorem ck197 : mchk prog_14_method_10_code 12 3 4 false k_X12_cut = true := by decide +kernel
theorem mck197 : MCk 197 := ⟨ck197, fun h => absurd h (by decide)⟩
theorem ck198 : mchk prog_14_method_11_code 12 5 1 false k_X12_tray = true := by decide +kernel
theorem mck198 : MCk 198 := ⟨ck198, fun h => absurd h (by decide)⟩
theorem ck199 : mchk prog_14_method_12_code 12 2 0 false k_X12_trayed = true := by decide +kernel
theorem mck199 : MCk 199 := ⟨ck199, fun h => absurd h (by decide)⟩
theorem ck200 : mchk prog_14_method_13_code 12 4 0 false k_X12_placed = true := by decide +kernel
theorem mck200 : MCk 200 := ⟨ck200, fun h => absurd h (by decide)⟩
theorem ck201 : mchk prog_14_method_14_code 12 5 1 false k_X12_write = true := by decide +kernel
theorem mck201 : MCk 201 := ⟨ck201, fun h => absurd h (by decide)⟩
theorem ck202 : mchk prog_14_method_15_code 12 3 4 false k_X12_read = true := by decide +kernel
theorem mck202 : MCk 202 := ⟨ck202, fun h => absurd h (by decide)⟩
theorem ck203 : mchk prog_14_method_16_code 12 9 1 false k_X12_pour = true := by decide +kernel
theorem mck203 : MCk 203 := ⟨ck203, fun h => absurd h (by decide)⟩
theorem ck204 : mchk prog_14_method_17_code 12 3 4 false k_X12_numberOf = true := by decide +kernel
theorem mck204 : MCk 204 := ⟨ck204, fun h => absurd h (by decide)⟩
theorem ck205 : mchk prog_14_method_18_code 12 2 1 false k_X12_isTray = true := by decide +kernel
theorem mck205 : MCk 205 := ⟨ck205, fun h => absurd h (by decide)⟩
theorem ck206 : mchk prog_14_method_19_code 12 2 1 false k_X12_has = true := by decide +kernel
theorem mck206 : MCk 206 := ⟨ck206, fun h => absurd h (by decide)⟩
theorem ck207 : mchk prog_14_method_20_code 12 3 0 false k_X12_sizeOf = true := by decide +kernel
theorem mck207 : MCk 207 := ⟨ck207, fun h => absurd h (by decide)⟩
theorem ck208 : mchk prog_14_method_21_code 12 2 0 false k_X12_look2 = true := by decide +kernel
theorem mck208 : MCk 208 := ⟨ck208, fun h => absurd h (by decide)⟩
theorem ck209 : mchk prog_14_method_22_code 12 1 1 false k_X12_isLetter = true := by decide +kernel
theorem mck209 : MCk 209 := ⟨ck209, fun h => absurd h (by decide)⟩
theorem ck210 : mchk prog_14_method_23_code 12 1 1 false k_X12_isDigit = true := by decide +kernel
theorem mck210 : MCk 210 := ⟨ck210, fun h => absurd h (by decide)⟩
theorem ck211 : mchk prog_14_method_24_code 12 2 1 false k_X12_isSignByte = true := by decide +kernel
theorem mck211 : MCk 211 := ⟨ck211, fun h => absurd h (by decide)⟩
theorem ck212 : mchk prog_14_method_25_code 12 2 5 false k_X12_advance = true := by decide +kernel
theorem mck212 : MCk 212 := ⟨ck212, fun h => absurd h (by decide)⟩
theorem ck213 : mchk prog_14_method_26_code 12 2 1 false k_X12_isSign = true := by decide +kernel
theorem mck213 : MCk 213 := ⟨ck213, fun h => absurd h (by decide)⟩
theorem ck214 : mchk prog_14_method_27_code 12 8 4 false k_X12_spelled = true := by decide +kernel
theorem mck214 : MCk 214 := ⟨ck214, fun h => absurd h (by decide)⟩
theorem ck215 : mchk prog_14_method_28_code 12 3 1 false k_X12_isWord = true := by decide +kernel
theorem mck215 : MCk 215 := ⟨ck215, fun h => absurd h (by decide)⟩
theorem ck216 : mchk prog_14_method_29_code 12 1 1 false k_X12_isFar = true := by decide +kernel
theorem mck216 : MCk 216 := ⟨ck216, fun h => absurd h (by decide)⟩
theorem ck217 : mchk prog_14_method_30_code 12 1 1 false k_X12_isBuried = true := by decide +kernel
theorem mck217 : MCk 217 := ⟨ck217, fun h => absurd h (by decide)⟩
theorem ck218 : mchk prog_14_method_31_code 12 1 1 false k_X12_isIll = true := by decide +kernel
theorem mck218 : MCk 218 := ⟨ck218, fun h => absurd h (by decide)⟩
theorem ck219 : mchk prog_14_method_32_code 12 1 1 false k_X12_isBell = true := by decide +kernel
theorem mck219 : MCk 219 := ⟨ck219, fun h => absurd h (by decide)⟩
theorem ck220 : mchk prog_14_method_33_code 12 1 1 false k_X12_isParty = true := by decide +kernel
theorem mck220 : MCk 220 := ⟨ck220, fun h => absurd h (by decide)⟩
theorem ck221 : mchk prog_14_method_34_code 12 1 1 false k_X12_isMember = true := by decide +kernel
theorem mck221 : MCk 221 := ⟨ck221, fun h => absurd h (by decide)⟩
theorem ck222 : mchk prog_14_method_35_code 12 1 1 false k_X12_isOf = true := by decide +kernel
theorem mck222 : MCk 222 := ⟨ck222, fun h => absurd h (by decide)⟩
theorem ck223 : mchk prog_14_method_36_code 12 1 1 false k_X12_isAt = true := by decide +kernel
theorem mck223 : MCk 223 := ⟨ck223, fun h => absurd h (by decide)⟩
theorem ck224 : mchk prog_14_method_37_code 12 1 1 false k_X12_isSpeed = true := by decide +kernel
theorem mck224 : MCk 224 := ⟨ck224, fun h => absurd h (by decide)⟩
theorem ck225 : mchk prog_14_method_38_code 12 1 1 false k_X12_isPrice = true := by decide +kernel
theorem mck225 : MCk 225 := ⟨ck225, fun h => absurd h (by decide)⟩
theorem ck226 : mchk prog_14_method_39_code 12 1 1 false k_X12_isDead = true := by decide +kernel
theorem mck226 : MCk 226 := ⟨ck226, fun h => absurd h (by decide)⟩
theorem ck227 : mchk prog_14_method_40_code 12 1 1 false k_X12_isSick = true := by decide +kernel
theorem mck227 : MCk 227 := ⟨ck227, fun h => absurd h (by decide)⟩
theorem ck228 : mchk prog_14_method_41_code 12 1 1 false k_X12_isHidden = true := by decide +kernel
theorem mck228 : MCk 228 := ⟨ck228, fun h => absurd h (by decide)⟩
theorem ck229 : mchk prog_14_method_42_code 12 1 1 false k_X12_isTwins = true := by decide +kernel
theorem mck229 : MCk 229 := ⟨ck229, fun h => absurd h (by decide)⟩
theorem ck230 : mchk prog_14_method_43_code 12 1 1 false k_X12_isMotion = true := by decide +kernel
theorem mck230 : MCk 230 := ⟨ck230, fun h => absurd h (by decide)⟩
theorem ck231 : mchk prog_14_method_44_code 12 1 1 false k_X12_isFor = true := by decide +kernel
theorem mck231 : MCk 231 := ⟨ck231, fun h => absurd h (by decide)⟩
theorem ck232 : mchk prog_14_method_45_code 12 1 1 false k_X12_isAgainst = true := by decide +kernel
theorem mck232 : MCk 232 := ⟨ck232, fun h => absurd h (by decide)⟩
theorem ck233 : mchk prog_14_method_46_code 12 1 1 false k_X12_isRoom = true := by decide +kernel
theorem mck233 : MCk 233 := ⟨ck233, fun h => absurd h (by decide)⟩
theorem ck234 : mchk prog_14_method_47_code 12 1 1 false k_X12_isTakes = true := by decide +kernel
theorem mck234 : MCk 234 := ⟨ck234, fun h => absurd h (by decide)⟩
theorem ck235 : mchk prog_14_method_48_code 12 1 1 false k_X12_isOdds = true := by decide +kernel
theorem mck235 : MCk 235 := ⟨ck235, fun h => absurd h (by decide)⟩
theorem ck236 : mchk prog_14_method_49_code 12 1 0 false k_X12_stepWord = true := by decide +kernel
theorem mck236 : MCk 236 := ⟨ck236, fun h => absurd h (by decide)⟩
theorem ck237 : mchk prog_14_method_50_code 12 1 0 false k_X12_testWord = true := by decide +kernel
theorem mck237 : MCk 237 := ⟨ck237, fun h => absurd h (by decide)⟩
theorem ck238 : mchk prog_14_method_51_code 12 1 1 false k_X12_isEnd = true := by decide +kernel
theorem mck238 : MCk 238 := ⟨ck238, fun h => absurd h (by decide)⟩
theorem ck239 : mchk prog_14_method_52_code 12 1 1 false k_X12_isKept = true := by decide +kernel
theorem mck239 : MCk 239 := ⟨ck239, fun h => absurd h (by decide)⟩
theorem ck240 : mchk prog_14_method_53_code 12 1 1 false k_X12_isName = true := by decide +kernel
theorem mck240 : MCk 240 := ⟨ck240, fun h => absurd h (by decide)⟩
theorem ck241 : mchk prog_14_method_54_code 12 3 5 false k_X12_fail = true := by decide +kernel
theorem mck241 : MCk 241 := ⟨ck241, fun h => absurd h (by decide)⟩
theorem ck242 : mchk prog_14_method_55_code 12 1 5 false k_X12_amiss = true := by decide +kernel
theorem mck242 : MCk 242 := ⟨ck242, fun h => absurd h (by decide)⟩
theorem ck243 : mchk prog_14_method_56_code 12 2 5 false k_X12_must = true := by decide +kernel
theorem mck243 : MCk 243 := ⟨ck243, fun h => absurd h (by decide)⟩
theorem ck244 : mchk prog_14_method_57_code 12 4 0 false k_X12_count = true := by decide +kernel
theorem mck244 : MCk 244 := ⟨ck244, fun h => absurd h (by decide)⟩
theorem ck245 : mchk prog_14_method_58_code 12 4 0 false k_X12_behindWord = true := by decide +kernel
theorem mck245 : MCk 245 := ⟨ck245, fun h => absurd h (by decide)⟩
theorem ck246 : mchk prog_14_method_59_code 12 2 1 false k_X12_perhaps = true := by decide +kernel
theorem mck246 : MCk 246 := ⟨ck246, fun h => absurd h (by decide)⟩
theorem ck247 : mchk prog_14_method_60_code 12 6 0 false k_X12_feed = true := by decide +kernel
theorem mck247 : MCk 247 := ⟨ck247, fun h => absurd h (by decide)⟩
theorem ck248 : mchk prog_14_method_61_code 12 3 5 false k_X12_lay = true := by decide +kernel
theorem mck248 : MCk 248 := ⟨ck248, fun h => absurd h (by decide)⟩
theorem ck249 : mchk prog_14_method_62_code 12 3 1 false k_X12_starts = true := by decide +kernel
theorem mck249 : MCk 249 := ⟨ck249, fun h => absurd h (by decide)⟩
theorem ck250 : mchk prog_14_method_63_code 12 1 1 false k_X12_isWell = true := by decide +kernel
theorem mck250 : MCk 250 := ⟨ck250, fun h => absurd h (by decide)⟩
theorem ck251 : mchk prog_14_method_64_code 12 2 0 false k_X12_fault = true := by decide +kernel
theorem mck251 : MCk 251 := ⟨ck251, fun h => absurd h (by decide)⟩
theorem ck252 : mchk prog_14_method_65_code 12 4 5 false k_X12_empties = true := by decide +kernel
theorem mck252 : MCk 252 := ⟨ck252, fun h => absurd h (by decide)⟩
theorem ck253 : mchk prog_14_method_66_code 12 4 0 false k_X12_named = true := by decide +kernel
theorem mck253 : MCk 253 := ⟨ck253, fun h => absurd h (by decide)⟩
theorem ck254 : mchk prog_14_method_67_code 12 1 1 false k_X12_isTaken = true := by decide +kernel
theorem mck254 : MCk 254 := ⟨ck254, fun h => absurd h (by decide)⟩
theorem ck255 : mchk prog_14_method_68_code 12 4 0 false k_X12_readNew = true := by decide +kernel
theorem mck255 : MCk 255 := ⟨ck255, fun h => absurd h (by decide)⟩
theorem ck256 : mchk prog_14_method_69_code 12 4 0 false k_X12_told = true := by decide +kernel
theorem mck256 : MCk 256 := ⟨ck256, fun h => absurd h (by decide)⟩
theorem ck257 : mchk prog_14_method_70_code 12 4 0 false k_X12_readTold = true := by decide +kernel
theorem mck257 : MCk 257 := ⟨ck257, fun h => absurd h (by decide)⟩
theorem ck258 : mchk prog_14_method_71_code 12 4 5 false k_X12_readOnce = true := by decide +kernel
theorem mck258 : MCk 258 := ⟨ck258, fun h => absurd h (by decide)⟩
theorem ck259 : mchk prog_14_method_72_code 12 1 5 false k_X12_readParty = true := by decide +kernel
theorem mck259 : MCk 259 := ⟨ck259, fun h => absurd h (by decide)⟩
theorem ck260 : mchk prog_14_method_73_code 12 2 5 false k_X12_readMember = true := by decide +kernel
theorem mck260 : MCk 260 := ⟨ck260, fun h => absurd h (by decide)⟩
theorem ck261 : mchk prog_14_method_74_code 12 3 5 false k_X12_readTwins = true := by decide +kernel
theorem mck261 : MCk 261 := ⟨ck261, fun h => absurd h (by decide)⟩
theorem ck262 : mchk prog_14_method_75_code 12 4 0 false k_X12_readParties = true := by decide +kernel
theorem mck262 : MCk 262 := ⟨ck262, fun h => absurd h (by decide)⟩
theorem ck263 : mchk prog_14_method_76_code 12 4 5 false k_X12_readMotion = true := by decide +kernel
theorem mck263 : MCk 263 := ⟨ck263, fun h => absurd h (by decide)⟩
theorem ck264 : mchk prog_14_method_77_code 12 2 5 false k_X12_readRoom = true := by decide +kernel
theorem mck264 : MCk 264 := ⟨ck264, fun h => absurd h (by decide)⟩
theorem ck265 : mchk prog_14_method_78_code 12 1 5 false k_X12_readPart = true := by decide +kernel
theorem mck265 : MCk 265 := ⟨ck265, fun h => absurd h (by decide)⟩
theorem ck266 : mchk prog_14_method_79_code 12 2 0 false k_X12_assembly = true := by decide +kernel
theorem mck266 : MCk 266 := ⟨ck266, fun h => absurd h (by decide)⟩
theorem ck267 : mchk prog_14_method_80_code 12 3 5 false k_X12_readTest = true := by decide +kernel
theorem mck267 : MCk 267 := ⟨ck267, fun h => absurd h (by decide)⟩
theorem ck268 : mchk prog_14_method_81_code 12 3 5 false k_X12_readRest = true := by decide +kernel
theorem mck268 : MCk 268 := ⟨ck268, fun h => absurd h (by decide)⟩
theorem ck269 : mchk prog_14_method_82_code 12 5 5 false k_X12_readStep = true := by decide +kernel
theorem mck269 : MCk 269 := ⟨ck269, fun h => absurd h (by decide)⟩
theorem ck270 : mchk prog_14_method_83_code 12 3 0 false k_X12_sessions = true := by decide +kernel
theorem mck270 : MCk 270 := ⟨ck270, fun h => absurd h (by decide)⟩
theorem ck271 : mchk prog_14_method_84_code 12 2 1 false k_X12_isPartyAt = true := by decide +kernel
theorem mck271 : MCk 271 := ⟨ck271, fun h => absurd h (by decide)⟩
theorem ck272 : mchk prog_14_method_85_code 12 2 1 false k_X12_isMemberAt = true := by decide +kernel
theorem mck272 : MCk 272 := ⟨ck272, fun h => absurd h (by decide)⟩
theorem ck273 : mchk prog_14_method_86_code 12 2 1 false k_X12_isMotionAt = true := by decide +kernel
theorem mck273 : MCk 273 := ⟨ck273, fun h => absurd h (by decide)⟩
theorem ck274 : mchk prog_14_method_87_code 12 2 1 false k_X12_isRoomAt = true := by decide +kernel
theorem mck274 : MCk 274 := ⟨ck274, fun h => absurd h (by decide)⟩
theorem ck275 : mchk prog_14_method_88_code 12 2 1 false k_X12_lives = true := by decide +kernel
theorem mck275 : MCk 275 := ⟨ck275, fun h => absurd h (by decide)⟩
theorem ck276 : mchk prog_14_method_89_code 12 2 1 false k_X12_isUp = true := by decide +kernel
theorem mck276 : MCk 276 := ⟨ck276, fun h => absurd h (by decide)⟩
theorem ck277 : mchk prog_14_method_90_code 12 2 1 false k_X12_isInside = true := by decide +kernel
theorem mck277 : MCk 277 := ⟨ck277, fun h => absurd h (by decide)⟩
theorem ck278 : mchk prog_14_method_91_code 12 4 0 false k_X12_counted = true := by decide +kernel
theorem mck278 : MCk 278 := ⟨ck278, fun h => absurd h (by decide)⟩
theorem ck279 : mchk prog_14_method_92_code 12 4 0 false k_X12_powerOfAll = true := by decide +kernel
theorem mck279 : MCk 279 := ⟨ck279, fun h => absurd h (by decide)⟩
theorem ck280 : mchk prog_14_method_93_code 12 1 0 false k_X12_allParties = true := by decide +kernel
theorem mck280 : MCk 280 := ⟨ck280, fun h => absurd h (by decide)⟩
theorem ck281 : mchk prog_14_method_94_code 12 5 0 false k_X12_governing = true := by decide +kernel
theorem mck281 : MCk 281 := ⟨ck281, fun h => absurd h (by decide)⟩
theorem ck282 : mchk prog_14_method_95_code 12 2 0 false k_X12_marginOf = true := by decide +kernel
theorem mck282 : MCk 282 := ⟨ck282, fun h => absurd h (by decide)⟩
theorem ck283 : mchk prog_14_method_96_code 12 3 0 false k_X12_carried = true := by decide +kernel
theorem mck283 : MCk 283 := ⟨ck283, fun h => absurd h (by decide)⟩
theorem ck284 : mchk prog_14_method_97_code 12 4 0 false k_X12_membersThat = true := by decide +kernel
theorem mck284 : MCk 284 := ⟨ck284, fun h => absurd h (by decide)⟩
theorem ck285 : mchk prog_14_method_98_code 12 2 0 false k_X12_many = true := by decide +kernel
theorem mck285 : MCk 285 := ⟨ck285, fun h => absurd h (by decide)⟩
theorem ck286 : mchk prog_14_method_99_code 12 4 0 false k_X12_member = true := by decide +kernel
theorem mck286 : MCk 286 := ⟨ck286, fun h => absurd h (by decide)⟩
theorem ck287 : mchk prog_14_method_100_code 12 3 0 false k_X12_motion = true := by decide +kernel
theorem mck287 : MCk 287 := ⟨ck287, fun h => absurd h (by decide)⟩
theorem ck288 : mchk prog_14_method_101_code 12 3 0 false k_X12_room = true := by decide +kernel
theorem mck288 : MCk 288 := ⟨ck288, fun h => absurd h (by decide)⟩
theorem ck289 : mchk prog_14_method_102_code 12 2 0 false k_X12_counts = true := by decide +kernel
theorem mck289 : MCk 289 := ⟨ck289, fun h => absurd h (by decide)⟩
theorem ck290 : mchk prog_14_method_103_code 12 2 0 false k_X12_power = true := by decide +kernel
theorem mck290 : MCk 290 := ⟨ck290, fun h => absurd h (by decide)⟩
theorem ck291 : mchk prog_14_method_104_code 12 2 1 false k_X12_areParties = true := by decide +kernel
theorem mck291 : MCk 291 := ⟨ck291, fun h => absurd h (by decide)⟩
theorem ck292 : mchk prog_14_method_105_code 12 2 0 false k_X12_powerOf = true := by decide +kernel
theorem mck292 : MCk 292 := ⟨ck292, fun h => absurd h (by decide)⟩
theorem ck293 : mchk prog_14_method_106_code 12 2 0 false k_X12_governs = true := by decide +kernel
theorem mck293 : MCk 293 := ⟨ck293, fun h => absurd h (by decide)⟩
theorem ck294 : mchk prog_14_method_107_code 12 2 0 false k_X12_bells = true := by decide +kernel
theorem mck294 : MCk 294 := ⟨ck294, fun h => absurd h (by decide)⟩
theorem ck295 : mchk prog_14_method_108_code 12 2 0 false k_X12_margin = true := by decide +kernel
theorem mck295 : MCk 295 := ⟨ck295, fun h => absurd h (by decide)⟩
theorem ck296 : mchk prog_14_method_109_code 12 3 0 false k_X12_copyCounts = true := by decide +kernel
theorem mck296 : MCk 296 := ⟨ck296, fun h => absurd h (by decide)⟩
theorem ck297 : mchk prog_14_method_110_code 12 3 5 false k_X12_walks = true := by decide +kernel
theorem mck297 : MCk 297 := ⟨ck297, fun h => absurd h (by decide)⟩
theorem ck298 : mchk prog_14_method_111_code 12 2 1 false k_X12_goesMinute = true := by decide +kernel
theorem mck298 : MCk 298 := ⟨ck298, fun h => absurd h (by decide)⟩
theorem ck299 : mchk prog_14_method_112_code 12 3 0 false k_X12_minute = true := by decide +kernel
theorem mck299 : MCk 299 := ⟨ck299, fun h => absurd h (by decide)⟩
theorem ck300 : mchk prog_14_method_113_code 12 3 1 false k_X12_walk = true := by decide +kernel
theorem mck300 : MCk 300 := ⟨ck300, fun h => absurd h (by decide)⟩
theorem ck301 : mchk prog_14_method_114_code 12 2 5 false k_X12_dies = true := by decide +kernel
theorem mck301 : MCk 301 := ⟨ck301, fun h => absurd h (by decide)⟩
theorem ck302 : mchk prog_14_method_115_code 12 2 0 false k_X12_die = true := by decide +kernel
theorem mck302 : MCk 302 := ⟨ck302, fun h => absurd h (by decide)⟩
theorem ck303 : mchk prog_14_method_116_code 12 3 1 false k_X12_fall = true := by decide +kernel
theorem mck303 : MCk 303 := ⟨ck303, fun h => absurd h (by decide)⟩
theorem ck304 : mchk prog_14_method_117_code 12 3 1 false k_X12_hide = true := by decide +kernel
theorem mck304 : MCk 304 := ⟨ck304, fun h => absurd h (by decide)⟩
theorem ck305 : mchk prog_14_method_118_code 12 4 0 false k_X12_carry = true := by decide +kernel
theorem mck305 : MCk 305 := ⟨ck305, fun h => absurd h (by decide)⟩
theorem ck306 : mchk prog_14_method_119_code 12 4 0 false k_X12_year = true := by decide +kernel
theorem mck306 : MCk 306 := ⟨ck306, fun h => absurd h (by decide)⟩
theorem ck307 : mchk prog_14_method_120_code 12 2 1 false k_X12_isRule = true := by decide +kernel
theorem mck307 : MCk 307 := ⟨ck307, fun h => absurd h (by decide)⟩
theorem ck308 : mchk prog_14_method_121_code 12 3 1 false k_X12_rule = true := by decide +kernel
theorem mck308 : MCk 308 := ⟨ck308, fun h => absurd h (by decide)⟩
theorem ck309 : mchk prog_14_method_122_code 12 4 0 false k_X12_join = true := by decide +kernel
theorem mck309 : MCk 309 := ⟨ck309, fun h => absurd h (by decide)⟩
theorem ck310 : mchk prog_14_method_123_code 12 4 1 false k_X12_side = true := by decide +kernel
theorem mck310 : MCk 310 := ⟨ck310, fun h => absurd h (by decide)⟩
theorem ck311 : mchk prog_14_method_124_code 12 2 5 false k_X12_keeps = true := by decide +kernel
theorem mck311 : MCk 311 := ⟨ck311, fun h => absurd h (by decide)⟩
theorem ck312 : mchk prog_14_method_125_code 12 2 5 false k_X12_gives = true := by decide +kernel
theorem mck312 : MCk 312 := ⟨ck312, fun h => absurd h (by decide)⟩
theorem ck313 : mchk prog_14_method_126_code 12 1 1 false k_X12_isAhead = true := by decide +kernel
theorem mck313 : MCk 313 := ⟨ck313, fun h => absurd h (by decide)⟩
theorem ck314 : mchk prog_14_method_127_code 12 4 0 false k_X12_yardsIn = true := by decide +kernel
theorem mck314 : MCk 314 := ⟨ck314, fun h => absurd h (by decide)⟩
theorem ck315 : mchk prog_14_method_128_code 12 3 0 false k_X12_governsIn = true := by decide +kernel
theorem mck315 : MCk 315 := ⟨ck315, fun h => absurd h (by decide)⟩
theorem ck316 : mchk prog_14_method_129_code 12 3 1 false k_X12_isSoNow = true := by decide +kernel
theorem mck316 : MCk 316 := ⟨ck316, fun h => absurd h (by decide)⟩
theorem ck317 : mchk prog_14_method_130_code 12 5 0 false k_X12_firstSo = true := by decide +kernel
theorem mck317 : MCk 317 := ⟨ck317, fun h => absurd h (by decide)⟩
theorem ck318 : mchk prog_14_method_131_code 12 2 0 false k_X12_firstIn = true := by decide +kernel
theorem mck318 : MCk 318 := ⟨ck318, fun h => absurd h (by decide)⟩
theorem ck319 : mchk prog_14_method_132_code 12 2 0 false k_X12_carriedIn = true := by decide +kernel
theorem mck319 : MCk 319 := ⟨ck319, fun h => absurd h (by decide)⟩
theorem ck320 : mchk prog_14_method_133_code 12 1 0 false k_X12_emptyIn = true := by decide +kernel
theorem mck320 : MCk 320 := ⟨ck320, fun h => absurd h (by decide)⟩
theorem ck321 : mchk prog_14_method_134_code 12 5 0 false k_X12_reign = true := by decide +kernel
theorem mck321 : MCk 321 := ⟨ck321, fun h => absurd h (by decide)⟩
theorem ck322 : mchk prog_14_method_135_code 12 3 5 false k_X12_sends = true := by decide +kernel
theorem mck322 : MCk 322 := ⟨ck322, fun h => absurd h (by decide)⟩
theorem ck323 : mchk prog_14_method_136_code 12 3 0 false k_X12_free = true := by decide +kernel
theorem mck323 : MCk 323 := ⟨ck323, fun h => absurd h (by decide)⟩
theorem ck324 : mchk prog_14_method_137_code 12 4 0 false k_X12_pricesOf = true := by decide +kernel
theorem mck324 : MCk 324 := ⟨ck324, fun h => absurd h (by decide)⟩
theorem ck325 : mchk prog_14_method_138_code 12 7 0 false k_X12_bestAway = true := by decide +kernel
theorem mck325 : MCk 325 := ⟨ck325, fun h => absurd h (by decide)⟩
theorem ck326 : mchk prog_14_method_139_code 12 3 0 false k_X12_fewest = true := by decide +kernel
theorem mck326 : MCk 326 := ⟨ck326, fun h => absurd h (by decide)⟩
theorem ck327 : mchk prog_14_method_140_code 12 3 0 false k_X12_fewestSet = true := by decide +kernel
theorem mck327 : MCk 327 := ⟨ck327, fun h => absurd h (by decide)⟩
theorem ck328 : mchk prog_14_method_141_code 12 3 0 false k_X12_cheapest = true := by decide +kernel
theorem mck328 : MCk 328 := ⟨ck328, fun h => absurd h (by decide)⟩
theorem ck329 : mchk prog_14_method_142_code 12 3 0 false k_X12_cheapestSet = true := by decide +kernel
theorem mck329 : MCk 329 := ⟨ck329, fun h => absurd h (by decide)⟩
theorem ck330 : mchk prog_14_method_143_code 12 4 0 false k_X12_powerBy = true := by decide +kernel
theorem mck330 : MCk 330 := ⟨ck330, fun h => absurd h (by decide)⟩
theorem ck331 : mchk prog_14_method_144_code 12 14 0 false k_X12_plays = true := by decide +kernel
theorem mck331 : MCk 331 := ⟨ck331, fun h => absurd h (by decide)⟩
theorem ck332 : mchk prog_14_method_145_code 12 5 0 false k_X12_whyNoGame = true := by decide +kernel
theorem mck332 : MCk 332 := ⟨ck332, fun h => absurd h (by decide)⟩
theorem ck333 : mchk prog_14_method_146_code 12 4 0 false k_X12_game = true := by decide +kernel
theorem mck333 : MCk 333 := ⟨ck333, fun h => absurd h (by decide)⟩
theorem ck334 : mchk prog_14_method_147_code 12 4 0 false k_X12_moveOf = true := by decide +kernel
theorem mck334 : MCk 334 := ⟨ck334, fun h => absurd h (by decide)⟩
theorem ck335 : mchk prog_14_method_148_code 12 2 1 false k_X12_isWinning = true := by decide +kernel
theorem mck335 : MCk 335 := ⟨ck335, fun h => absurd h (by decide)⟩
theorem ck336 : mchk prog_14_method_149_code 12 3 0 false k_X12_winning = true := by decide +kernel
theorem mck336 : MCk 336 := ⟨ck336, fun h => absurd h (by decide)⟩
theorem ck337 : mchk prog_14_method_150_code 12 2 0 false k_X12_wins = true := by decide +kernel
theorem mck337 : MCk 337 := ⟨ck337, fun h => absurd h (by decide)⟩
theorem ck338 : mchk prog_14_method_151_code 12 4 0 false k_X12_swingsOf = true := by decide +kernel
theorem mck338 : MCk 338 := ⟨ck338, fun h => absurd h (by decide)⟩
theorem ck339 : mchk prog_14_method_152_code 12 2 0 false k_X12_swings = true := by decide +kernel
theorem mck339 : MCk 339 := ⟨ck339, fun h => absurd h (by decide)⟩
theorem ck340 : mchk prog_14_method_153_code 12 4 1 false k_X12_share = true := by decide +kernel
theorem mck340 : MCk 340 := ⟨ck340, fun h => absurd h (by decide)⟩
theorem ck341 : mchk prog_14_method_154_code 12 5 0 false k_X12_lean = true := by decide +kernel
theorem mck341 : MCk 341 := ⟨ck341, fun h => absurd h (by decide)⟩
theorem ck342 : mchk prog_14_method_155_code 12 5 0 false k_X12_carriedBy = true := by decide +kernel
theorem mck342 : MCk 342 := ⟨ck342, fun h => absurd h (by decide)⟩
theorem ck343 : mchk prog_14_method_156_code 12 5 0 false k_X12_farFor = true := by decide +kernel
theorem mck343 : MCk 343 := ⟨ck343, fun h => absurd h (by decide)⟩
theorem ck344 : mchk prog_14_method_157_code 12 2 0 false k_X12_whyNoTally = true := by decide +kernel
theorem mck344 : MCk 344 := ⟨ck344, fun h => absurd h (by decide)⟩
theorem ck345 : mchk prog_14_method_158_code 12 3 1 false k_X12_isTold = true := by decide +kernel
theorem mck345 : MCk 345 := ⟨ck345, fun h => absurd h (by decide)⟩
theorem ck346 : mchk prog_14_method_159_code 12 5 5 false k_X12_laysWays = true := by decide +kernel
theorem mck346 : MCk 346 := ⟨ck346, fun h => absurd h (by decide)⟩
theorem ck347 : mchk prog_14_method_160_code 12 2 0 false k_X12_tally = true := by decide +kernel
theorem mck347 : MCk 347 := ⟨ck347, fun h => absurd h (by decide)⟩
theorem ck348 : mchk prog_14_method_161_code 12 2 0 false k_X12_sure = true := by decide +kernel
theorem mck348 : MCk 348 := ⟨ck348, fun h => absurd h (by decide)⟩
theorem ck349 : mchk prog_14_method_162_code 12 6 0 false k_X12_ask = true := by decide +kernel
theorem mck349 : MCk 349 := ⟨ck349, fun h => absurd h (by decide)⟩
theorem ck350 : mchk prog_14_method_163_code 12 3 0 false k_X12_allOdds = true := by decide +kernel
theorem mck350 : MCk 350 := ⟨ck350, fun h => absurd h (by decide)⟩
theorem ck351 : mchk prog_14_method_164_code 12 3 1 false k_X12_isSooner = true := by decide +kernel
theorem mck351 : MCk 351 := ⟨ck351, fun h => absurd h (by decide)⟩
theorem ck352 : mchk prog_14_method_165_code 12 5 5 false k_X12_laysOrder = true := by decide +kernel
theorem mck352 : MCk 352 := ⟨ck352, fun h => absurd h (by decide)⟩
theorem ck353 : mchk prog_14_method_166_code 12 6 1 false k_X12_seek = true := by decide +kernel
theorem mck353 : MCk 353 := ⟨ck353, fun h => absurd h (by decide)⟩
theorem ck354 : mchk prog_14_method_167_code 12 2 0 false k_X12_seekAt = true := by decide +kernel
theorem mck354 : MCk 354 := ⟨ck354, fun h => absurd h (by decide)⟩
theorem ck355 : mchk prog_14_method_168_code 12 2 0 false k_X12_draw = true := by decide +kernel
theorem mck355 : MCk 355 := ⟨ck355, fun h => absurd h (by decide)⟩
theorem ck356 : mchk prog_14_method_169_code 12 3 1 false k_X12_anyMinutes = true := by decide +kernel
theorem mck356 : MCk 356 := ⟨ck356, fun h => absurd h (by decide)⟩
theorem ck357 : mchk prog_14_method_170_code 12 2 1 false k_X12_isAny = true := by decide +kernel
theorem mck357 : MCk 357 := ⟨ck357, fun h => absurd h (by decide)⟩
theorem ck358 : mchk prog_14_method_171_code 12 4 1 false k_X12_does = true := by decide +kernel
theorem mck358 : MCk 358 := ⟨ck358, fun h => absurd h (by decide)⟩
theorem ck359 : mchk prog_14_method_172_code 12 5 1 false k_X12_isSo = true := by decide +kernel
theorem mck359 : MCk 359 := ⟨ck359, fun h => absurd h (by decide)⟩
theorem ck360 : mchk prog_14_method_173_code 12 5 5 false k_X12_doOne = true := by decide +kernel
theorem mck360 : MCk 360 := ⟨ck360, fun h => absurd h (by decide)⟩
theorem ck361 : mchk prog_14_method_174_code 12 4 5 false k_X12_doAll = true := by decide +kernel
theorem mck361 : MCk 361 := ⟨ck361, fun h => absurd h (by decide)⟩
theorem ck362 : mchk prog_14_method_175_code 12 2 5 false k_X12_runsSessions = true := by decide +kernel
theorem mck362 : MCk 362 := ⟨ck362, fun h => absurd h (by decide)⟩
theorem ck363 : mchk prog_14_method_176_code 12 2 0 false k_X12_live = true := by decide +kernel
theorem mck363 : MCk 363 := ⟨ck363, fun h => absurd h (by decide)⟩
theorem ck364 : mchk prog_14_method_177_code 12 2 0 false k_X12_lived = true := by decide +kernel
theorem mck364 : MCk 364 := ⟨ck364, fun h => absurd h (by decide)⟩
theorem ck365 : mchk prog_14_method_178_code 12 7 1 false k_X12_mean = true := by decide +kernel
theorem mck365 : MCk 365 := ⟨ck365, fun h => absurd h (by decide)⟩
theorem ck366 : mchk prog_14_method_179_code 12 4 5 false k_X12_copy = true := by decide +kernel
theorem mck366 : MCk 366 := ⟨ck366, fun h => absurd h (by decide)⟩
theorem ck367 : mchk prog_14_method_180_code 12 1 0 false k_X12_mark = true := by decide +kernel
theorem mck367 : MCk 367 := ⟨ck367, fun h => absurd h (by decide)⟩
theorem ck368 : mchk prog_14_method_181_code 12 1 0 false k_X12_back = true := by decide +kernel
theorem mck368 : MCk 368 := ⟨ck368, fun h => absurd h (by decide)⟩
theorem ck369 : mchk prog_15_method_49_code 13 1 0 false k_J6_bitCount_0f7a4 = true := by decide +kernel
theorem mck369 : MCk 369 := ⟨ck369, fun h => absurd h (by decide)⟩
theorem ck370 : mchk prog_21_method_101_code 14 5 5 false k_J7_fill_d0a16 = true := by decide +kernel
theorem mck370 : MCk 370 := ⟨ck370, fun h => absurd h (by decide)⟩
theorem ck371 : mchk prog_21_method_103_code 14 4 5 false k_J7_fill_53178 = true := by decide +kernel
theorem mck371 : MCk 371 := ⟨ck371, fun h => absurd h (by decide)⟩
theorem mckc0 : ∀ mi, 0 ≤ mi → mi < 25 → MCk mi := fun mi h1 h2 => by
  rcases (show mi = 0 ∨ mi = 1 ∨ mi = 2 ∨ mi = 3 ∨ mi = 4 ∨ mi = 5 ∨ mi = 6 ∨ mi = 7 ∨ mi = 8 ∨ mi = 9 ∨ mi = 10 ∨ mi = 11 ∨ mi = 12 ∨ mi = 13 ∨ mi = 14 ∨ mi = 15 ∨ mi = 16 ∨ mi = 17 ∨ mi = 18 ∨ mi = 19 ∨ mi = 20 ∨ mi = 21 ∨ mi = 22 ∨ mi = 23 ∨ mi = 24 by omega) with rfl | rfl | rfl | rfl | rfl | rfl | rfl | rfl | rfl | rfl | rfl | rfl | rfl | rfl | rfl | rfl | rfl | rfl | rfl | rfl | rfl | rfl | rfl | rfl | rfl
  · exact mck0
  · exact mck1
  · exact mck2
  · exact mck3
  · exact mck4
  · exact mck5
  · exact mck6
  · exact mck7
  · exact mck8
  · exact mck9
  · exact mck10
  · exact mck11
  · exact mck12
  · exact mck13
  · exact mck14
  · exact mck15
  · exact mck16
  · exact mck17
  · exact mck18
  · exact mck19
  · exact mck20
  · exact mck21
  · exact mck22
  · exact mck23
  · exact mck24
theorem mckc1 : ∀ mi, 25 ≤ mi → mi < 50 → MCk mi := fun mi h1 h2 => by
  rcases (show mi = 25 ∨ mi = 26 ∨ mi = 27 ∨ mi = 28 ∨ mi = 29 ∨ mi = 30 ∨ mi = 31 ∨ mi = 32 ∨ mi = 33 ∨ mi = 34 ∨ mi = 35 ∨ mi = 36 ∨ mi = 37 ∨ mi = 38 ∨ mi = 39 ∨ mi = 40 ∨ mi = 41 ∨ mi = 42 ∨ mi = 43 ∨ mi = 44 ∨ mi = 45 ∨ mi = 46 ∨ mi = 47 ∨ mi = 48 ∨ mi = 49 by omega) with rfl | rfl | rfl | rfl | rfl | rfl | rfl | rfl | rfl | rfl | rfl | rfl | rfl | rfl | rfl | rfl | rfl | rfl | rfl | rfl | rfl | rfl | rfl | rfl | rfl
  · exact mck25
  · exact mck26
  · exact mck27
  · exact mck28
  · exact mck29
  · exact mck30
  · exact mck31
  · exact mck32
  · exact mck33
  · exact mck34
  · exact mck35
  · exact mck36
  · exact mck37
  · exact mck38
  · exact mck39
  · exact mck40
  · exact mck41
  · exact mck42
  · exact mck43
  · exact mck44
  · exact mck45
  · exact mck46
  · exact mck47
  · exact mck48
  · exact mck49
theorem mckc2 : ∀ mi, 50 ≤ mi → mi < 75 → MCk mi := fun mi h1 h2 => by
  rcases (show mi = 50 ∨ mi = 51 ∨ mi = 52 ∨ mi = 53 ∨ mi = 54 ∨ mi = 55 ∨ mi = 56 ∨ mi = 57 ∨ mi = 58 ∨ mi = 59 ∨ mi = 60 ∨ mi = 61 ∨ mi = 62 ∨ mi = 63 ∨ mi = 64 ∨ mi = 65 ∨ mi = 66 ∨ mi = 67 ∨ mi = 68 ∨ mi = 69 ∨ mi = 70 ∨ mi = 71 ∨ mi = 72 ∨ mi = 73 ∨ mi = 74 by omega) with rfl | rfl | rfl | rfl | rfl | rfl | rfl | rfl | rfl | rfl | rfl | rfl | rfl | rfl | rfl | rfl | rfl | rfl | rfl | rfl | rfl | rfl | rfl | rfl | rfl
  · exact mck50
  · exact mck51
  · exact mck52
  · exact mck53
  · exact mck54
  · exact mck55
  · exact mck56
  · exact mck57
  · exact mck58
  · exact mck59
  · exact mck60
  · exact mck61
  · exact mck62
  · exact mck63
  · exact mck64
  · exact mck65
  · exact mck66
  · exact mck67
  · exact mck68
  · exact mck69
  · exact mck70
  · exact mck71
  · exact mck72
  · exact mck73
  · exact mck74
theorem mckc3 : ∀ mi, 75 ≤ mi → mi < 100 → MCk mi := fun mi h1 h2 => by
  rcases (show mi = 75 ∨ mi = 76 ∨ mi = 77 ∨ mi = 78 ∨ mi = 79 ∨ mi = 80 ∨ mi = 81 ∨ mi = 82 ∨ mi = 83 ∨ mi = 84 ∨ mi = 85 ∨ mi = 86 ∨ mi = 87 ∨ mi = 88 ∨ mi = 89 ∨ mi = 90 ∨ mi = 91 ∨ mi = 92 ∨ mi = 93 ∨ mi = 94 ∨ mi = 95 ∨ mi = 96 ∨ mi = 97 ∨ mi = 98 ∨ mi = 99 by omega) with rfl | rfl | rfl | rfl | rfl | rfl | rfl | rfl | rfl | rfl | rfl | rfl | rfl | rfl | rfl | rfl | rfl | rfl | rfl | rfl | rfl | rfl | rfl | rfl | rfl
  · exact mck75
  · exact mck76
  · exact mck77
  · exact mck78
  · exact mck79
  · exact mck80
  · exact mck81
  · exact mck82
  · exact mck83
  · exact mck84
  · exact mck85
  · exact mck86
  · exact mck87
  · exact mck88
  · exact mck89
  · exact mck90
  · exact mck91
  · exact mck92
  · exact mck93
  · exact mck94
  · exact mck95
  · exact mck96
  · exact mck97
  · exact mck98
  · exact mck99
theorem mckc4 : ∀ mi, 100 ≤ mi → mi < 125 → MCk mi := fun mi h1 h2 => by
  rcases (show mi = 100 ∨ mi = 101 ∨ mi = 102 ∨ mi = 103 ∨ mi = 104 ∨ mi = 105 ∨ mi = 106 ∨ mi = 107 ∨ mi = 108 ∨ mi = 109 ∨ mi = 110 ∨ mi = 111 ∨ mi = 112 ∨ mi = 113 ∨ mi = 114 ∨ mi = 115 ∨ mi = 116 ∨ mi = 117 ∨ mi = 118 ∨ mi = 119 ∨ mi = 120 ∨ mi = 121 ∨ mi = 122 ∨ mi = 123 ∨ mi = 124 by omega) with rfl | rfl | rfl | rfl | rfl | rfl | rfl | rfl | rfl | rfl | rfl | rfl | rfl | rfl | rfl | rfl | rfl | rfl | rfl | rfl | rfl | rfl | rfl | rfl | rfl
  · exact mck100
  · exact mck101
  · exact mck102
  · exact mck103
  · exact mck104
  · exact mck105
  · exact mck106
  · exact mck107
  · exact mck108
  · exact mck109
  · exact mck110
  · exact mck111
  · exact mck112
  · exact mck113
  · exact mck114
  · exact mck115
  · exact mck116
  · exact mck117
  · exact mck118
  · exact mck119
  · exact mck120
  · exact mck121
  · exact mck122
  · exact mck123
  · exact mck124
theorem mckc5 : ∀ mi, 125 ≤ mi → mi < 150 → MCk mi := fun mi h1 h2 => by
  rcases (show mi = 125 ∨ mi = 126 ∨ mi = 127 ∨ mi = 128 ∨ mi = 129 ∨ mi = 130 ∨ mi = 131 ∨ mi = 132 ∨ mi = 133 ∨ mi = 134 ∨ mi = 135 ∨ mi = 136 ∨ mi = 137 ∨ mi = 138 ∨ mi = 139 ∨ mi = 140 ∨ mi = 141 ∨ mi = 142 ∨ mi = 143 ∨ mi = 144 ∨ mi = 145 ∨ mi = 146 ∨ mi = 147 ∨ mi = 148 ∨ mi = 149 by omega) with rfl | rfl | rfl | rfl | rfl | rfl | rfl | rfl | rfl | rfl | rfl | rfl | rfl | rfl | rfl | rfl | rfl | rfl | rfl | rfl | rfl | rfl | rfl | rfl | rfl
  · exact mck125
  · exact mck126
  · exact mck127
  · exact mck128
  · exact mck129
  · exact mck130
  · exact mck131
  · exact mck132
  · exact mck133
  · exact mck134
  · exact mck135
  · exact mck136
  · exact mck137
  · exact mck138
  · exact mck139
  · exact mck140
  · exact mck141
  · exact mck142
  · exact mck143
  · exact mck144
  · exact mck145
  · exact mck146
  · exact mck147
  · exact mck148
  · exact mck149
theorem mckc6 : ∀ mi, 150 ≤ mi → mi < 175 → MCk mi := fun mi h1 h2 => by
  rcases (show mi = 150 ∨ mi = 151 ∨ mi = 152 ∨ mi = 153 ∨ mi = 154 ∨ mi = 155 ∨ mi = 156 ∨ mi = 157 ∨ mi = 158 ∨ mi = 159 ∨ mi = 160 ∨ mi = 161 ∨ mi = 162 ∨ mi = 163 ∨ mi = 164 ∨ mi = 165 ∨ mi = 166 ∨ mi = 167 ∨ mi = 168 ∨ mi = 169 ∨ mi = 170 ∨ mi = 171 ∨ mi = 172 ∨ mi = 173 ∨ mi = 174 by omega) with rfl | rfl | rfl | rfl | rfl | rfl | rfl | rfl | rfl | rfl | rfl | rfl | rfl | rfl | rfl | rfl | rfl | rfl | rfl | rfl | rfl | rfl | rfl | rfl | rfl
  · exact mck150
  · exact mck151
  · exact mck152
  · exact mck153
  · exact mck154
  · exact mck155
  · exact mck156
  · exact mck157
  · exact mck158
  · exact mck159
  · exact mck160
  · exact mck161
  · exact mck162
  · exact mck163
  · exact mck164
  · exact mck165
  · exact mck166
  · exact mck167
  · exact mck168
  · exact mck169
  · exact mck170
  · exact mck171
  · exact mck172
  · exact mck173
  · exact mck174
theorem mckc7 : ∀ mi, 175 ≤ mi → mi < 200 → MCk mi := fun mi h1 h2 => by
  rcases (show mi = 175 ∨ mi = 176 ∨ mi = 177 ∨ mi = 178 ∨ mi = 179 ∨ mi = 180 ∨ mi = 181 ∨ mi = 182 ∨ mi = 183 ∨ mi = 184 ∨ mi = 185 ∨ mi = 186 ∨ mi = 187 ∨ mi = 188 ∨ mi = 189 ∨ mi = 190 ∨ mi = 191 ∨ mi = 192 ∨ mi = 193 ∨ mi = 194 ∨ mi = 195 ∨ mi = 196 ∨ mi = 197 ∨ mi = 198 ∨ mi = 199 by omega) with rfl | rfl | rfl | rfl | rfl | rfl | rfl | rfl | rfl | rfl | rfl | rfl | rfl | rfl | rfl | rfl | rfl | rfl | rfl | rfl | rfl | rfl | rfl | rfl | rfl
  · exact mck175
  · exact mck176
  · exact mck177
  · exact mck178
  · exact mck179
  · exact mck180
  · exact mck181
  · exact mck182
  · exact mck183
  · exact mck184
  · exact mck185
  · exact mck186
  · exact mck187
  · exact mck188
  · exact mck189
  · exact mck190
  · exact mck191
  · exact mck192
  · exact mck193
  · exact mck194
  · exact mck195
  · exact mck196
  · exact mck197
  · exact mck198
  · exact mck199
theorem mckc8 : ∀ mi, 200 ≤ mi → mi < 225 → MCk mi := fun mi h1 h2 => by
  rcases (show mi = 200 ∨ mi = 201 ∨ mi = 202 ∨ mi = 203 ∨ mi = 204 ∨ mi = 205 ∨ mi = 206 ∨ mi = 207 ∨ mi = 208 ∨ mi = 209 ∨ mi = 210 ∨ mi = 211 ∨ mi = 212 ∨ mi = 213 ∨ mi = 214 ∨ mi = 215 ∨ mi = 216 ∨ mi = 217 ∨ mi = 218 ∨ mi = 219 ∨ mi = 220 ∨ mi = 221 ∨ mi = 222 ∨ mi = 223 ∨ mi = 224 by omega) with rfl | rfl | rfl | rfl | rfl | rfl | rfl | rfl | rfl | rfl | rfl | rfl | rfl | rfl | rfl | rfl | rfl | rfl | rfl | rfl | rfl | rfl | rfl | rfl | rfl
  · exact mck200
  · exact mck201
  · exact mck202
  · exact mck203
  · exact mck204
  · exact mck205
  · exact mck206
  · exact mck207
  · exact mck208
  · exact mck209
  · exact mck210
  · exact mck211
  · exact mck212
  · exact mck213
  · exact mck214
  · exact mck215
  · exact mck216
  · exact mck217
  · exact mck218
  · exact mck219
  · exact mck220
  · exact mck221
  · exact mck222
  · exact mck223
  · exact mck224
theorem mckc9 : ∀ mi, 225 ≤ mi → mi < 250 → MCk mi := fun mi h1 h2 => by
  rcases (show mi = 225 ∨ mi = 226 ∨ mi = 227 ∨ mi = 228 ∨ mi = 229 ∨ mi = 230 ∨ mi = 231 ∨ mi = 232 ∨ mi = 233 ∨ mi = 234 ∨ mi = 235 ∨ mi = 236 ∨ mi = 237 ∨ mi = 238 ∨ mi = 239 ∨ mi = 240 ∨ mi = 241 ∨ mi = 242 ∨ mi = 243 ∨ mi = 244 ∨ mi = 245 ∨ mi = 246 ∨ mi = 247 ∨ mi = 248 ∨ mi = 249 by omega) with rfl | rfl | rfl | rfl | rfl | rfl | rfl | rfl | rfl | rfl | rfl | rfl | rfl | rfl | rfl | rfl | rfl | rfl | rfl | rfl | rfl | rfl | rfl | rfl | rfl
  · exact mck225
  · exact mck226
  · exact mck227
  · exact mck228
  · exact mck229
  · exact mck230
  · exact mck231
  · exact mck232
  · exact mck233
  · exact mck234
  · exact mck235
  · exact mck236
  · exact mck237
  · exact mck238
  · exact mck239
  · exact mck240
  · exact mck241
  · exact mck242
  · exact mck243
  · exact mck244
  · exact mck245
  · exact mck246
  · exact mck247
  · exact mck248
  · exact mck249
theorem mckc10 : ∀ mi, 250 ≤ mi → mi < 275 → MCk mi := fun mi h1 h2 => by
  rcases (show mi = 250 ∨ mi = 251 ∨ mi = 252 ∨ mi = 253 ∨ mi = 254 ∨ mi = 255 ∨ mi = 256 ∨ mi = 257 ∨ mi = 258 ∨ mi = 259 ∨ mi = 260 ∨ mi = 261 ∨ mi = 262 ∨ mi = 263 ∨ mi = 264 ∨ mi = 265 ∨ mi = 266 ∨ mi = 267 ∨ mi = 268 ∨ mi = 269 ∨ mi = 270 ∨ mi = 271 ∨ mi = 272 ∨ mi = 273 ∨ mi = 274 by omega) with rfl | rfl | rfl | rfl | rfl | rfl | rfl | rfl | rfl | rfl | rfl | rfl | rfl | rfl | rfl | rfl | rfl | rfl | rfl | rfl | rfl | rfl | rfl | rfl | rfl
  · exact mck250
  · exact mck251
  · exact mck252
  · exact mck253
  · exact mck254
  · exact mck255
  · exact mck256
  · exact mck257
  · exact mck258
  · exact mck259
  · exact mck260
  · exact mck261
  · exact mck262
  · exact mck263
  · exact mck264
  · exact mck265
  · exact mck266
  · exact mck267
  · exact mck268
  · exact mck269
  · exact mck270
  · exact mck271
  · exact mck272
  · exact mck273
  · exact mck274
theorem mckc11 : ∀ mi, 275 ≤ mi → mi < 300 → MCk mi := fun mi h1 h2 => by
  rcases (show mi = 275 ∨ mi = 276 ∨ mi = 277 ∨ mi = 278 ∨ mi = 279 ∨ mi = 280 ∨ mi = 281 ∨ mi = 282 ∨ mi = 283 ∨ mi = 284 ∨ mi = 285 ∨ mi = 286 ∨ mi = 287 ∨ mi = 288 ∨ mi = 289 ∨ mi = 290 ∨ mi = 291 ∨ mi = 292 ∨ mi = 293 ∨ mi = 294 ∨ mi = 295 ∨ mi = 296 ∨ mi = 297 ∨ mi = 298 ∨ mi = 299 by omega) with rfl | rfl | rfl | rfl | rfl | rfl | rfl | rfl | rfl | rfl | rfl | rfl | rfl | rfl | rfl | rfl | rfl | rfl | rfl | rfl | rfl | rfl | rfl | rfl | rfl
  · exact mck275
  · exact mck276
  · exact mck277
  · exact mck278
  · exact mck279
  · exact mck280
  · exact mck281
  · exact mck282
  · exact mck283
  · exact mck284
  · exact mck285
  · exact mck286
  · exact mck287
  · exact mck288
  · exact mck289
  · exact mck290
  · exact mck291
  · exact mck292
  · exact mck293
  · exact mck294
  · exact mck295
  · exact mck296
  · exact mck297
  · exact mck298
  · exact mck299
theorem mckc12 : ∀ mi, 300 ≤ mi → mi < 325 → MCk mi := fun mi h1 h2 => by
  rcases (show mi = 300 ∨ mi = 301 ∨ mi = 302 ∨ mi = 303 ∨ mi = 304 ∨ mi = 305 ∨ mi = 306 ∨ mi = 307 ∨ mi = 308 ∨ mi = 309 ∨ mi = 310 ∨ mi = 311 ∨ mi = 312 ∨ mi = 313 ∨ mi = 314 ∨ mi = 315 ∨ mi = 316 ∨ mi = 317 ∨ mi = 318 ∨ mi = 319 ∨ mi = 320 ∨ mi = 321 ∨ mi = 322 ∨ mi = 323 ∨ mi = 324 by omega) with rfl | rfl | rfl | rfl | rfl | rfl | rfl | rfl | rfl | rfl | rfl | rfl | rfl | rfl | rfl | rfl | rfl | rfl | rfl | rfl | rfl | rfl | rfl | rfl | rfl
  · exact mck300
  · exact mck301
  · exact mck302
  · exact mck303
  · exact mck304
  · exact mck305
  · exact mck306
  · exact mck307
  · exact mck308
  · exact mck309
  · exact mck310
  · exact mck311
  · exact mck312
  · exact mck313
  · exact mck314
  · exact mck315
  · exact mck316
  · exact mck317
  · exact mck318
  · exact mck319
  · exact mck320
  · exact mck321
  · exact mck322
  · exact mck323
  · exact mck324
theorem mckc13 : ∀ mi, 325 ≤ mi → mi < 350 → MCk mi := fun mi h1 h2 => by
  rcases (show mi = 325 ∨ mi = 326 ∨ mi = 327 ∨ mi = 328 ∨ mi = 329 ∨ mi = 330 ∨ mi = 331 ∨ mi = 332 ∨ mi = 333 ∨ mi = 334 ∨ mi = 335 ∨ mi = 336 ∨ mi = 337 ∨ mi = 338 ∨ mi = 339 ∨ mi = 340 ∨ mi = 341 ∨ mi = 342 ∨ mi = 343 ∨ mi = 344 ∨ mi = 345 ∨ mi = 346 ∨ mi = 347 ∨ mi = 348 ∨ mi = 349 by omega) with rfl | rfl | rfl | rfl | rfl | rfl | rfl | rfl | rfl | rfl | rfl | rfl | rfl | rfl | rfl | rfl | rfl | rfl | rfl | rfl | rfl | rfl | rfl | rfl | rfl
  · exact mck325
  · exact mck326
  · exact mck327
  · exact mck328
  · exact mck329
  · exact mck330
  · exact mck331
  · exact mck332
  · exact mck333
  · exact mck334
  · exact mck335
  · exact mck336
  · exact mck337
  · exact mck338
  · exact mck339
  · exact mck340
  · exact mck341
  · exact mck342
  · exact mck343
  · exact mck344
  · exact mck345
  · exact mck346
  · exact mck347
  · exact mck348
  · exact mck349
theorem mckc14 : ∀ mi, 350 ≤ mi → mi < 372 → MCk mi := fun mi h1 h2 => by
  rcases (show mi = 350 ∨ mi = 351 ∨ mi = 352 ∨ mi = 353 ∨ mi = 354 ∨ mi = 355 ∨ mi = 356 ∨ mi = 357 ∨ mi = 358 ∨ mi = 359 ∨ mi = 360 ∨ mi = 361 ∨ mi = 362 ∨ mi = 363 ∨ mi = 364 ∨ mi = 365 ∨ mi = 366 ∨ mi = 367 ∨ mi = 368 ∨ mi = 369 ∨ mi = 370 ∨ mi = 371 by omega) with rfl | rfl | rfl | rfl | rfl | rfl | rfl | rfl | rfl | rfl | rfl | rfl | rfl | rfl | rfl | rfl | rfl | rfl | rfl | rfl | rfl | rfl
  · exact mck350
  · exact mck351
  · exact mck352
  · exact mck353
  · exact mck354
  · exact mck355
  · exact mck356
  · exact mck357
  · exact mck358
  · exact mck359
  · exact mck360
  · exact mck361
  · exact mck362
  · exact mck363
  · exact mck364
  · exact mck365
  · exact mck366
  · exact mck367
  · exact mck368
  · exact mck369
  · exact mck370
  · exact mck371
theorem mck_all (mi : Nat) (h : mi < 372) : MCk mi := by
  by_cases h0 : mi < 25
  · exact mckc0 mi (by omega) h0
  by_cases h1 : mi < 50
  · exact mckc1 mi (by omega) h1
  by_cases h2 : mi < 75
  · exact mckc2 mi (by omega) h2
  by_cases h3 : mi < 100
  · exact mckc3 mi (by omega) h3
  by_cases h4 : mi < 125
  · exact mckc4 mi (by omega) h4
  by_cases h5 : mi < 150
  · exact mckc5 mi (by omega) h5
  by_cases h6 : mi < 175
  · exact mckc6 mi (by omega) h6
  by_cases h7 : mi < 200
  · exact mckc7 mi (by omega) h7
  by_cases h8 : mi < 225
  · exact mckc8 mi (by omega) h8
  by_cases h9 : mi < 250
  · exact mckc9 mi (by omega) h9
  by_cases h10 : mi < 275
  · exact mckc10 mi (by omega) h10
  by_cases h11 : mi < 300
  · exact mckc11 mi (by omega) h11
  by_cases h12 : mi < 325
  · exact mckc12 mi (by omega) h12
  by_cases h13 : mi < 350
  · exact mckc13 mi (by omega) h13
  by_cases h14 : mi < 372
  · exact mckc14 mi (by omega) h14
  omega

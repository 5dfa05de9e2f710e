def MLok (oc idx mi : Nat) : Prop := mi < 372 ∧ Cond.methodLink (cN oc) idx (yN mi) ∈ lw_tbl
def ml0 : List (Nat × Nat) := [(63, 371), (85, 64), (103, 4), (95, 3), (107, 6), (110, 5), (88, 35), (92, 65), (113, 36), (140, 13), (148, 40), (144, 14), (151, 50), (157, 53), (160, 57), (121, 8), (125, 9), (163, 17)]
theorem ml0_0 : (fun q : (Nat × Nat) => MLok 0 q.1 q.2) (63, 371) := ⟨by decide, (mt3 _ (List.mem_of_getElem? (i := 222) (by decide +kernel)))⟩
theorem ml0_1 : (fun q : (Nat × Nat) => MLok 0 q.1 q.2) (85, 64) := ⟨by decide, (mt3 _ (List.mem_of_getElem? (i := 225) (by decide +kernel)))⟩
theorem ml0_2 : (fun q : (Nat × Nat) => MLok 0 q.1 q.2) (103, 4) := ⟨by decide, (mt4 _ (List.mem_of_getElem? (i := 55) (by decide +kernel)))⟩
theorem ml0_3 : (fun q : (Nat × Nat) => MLok 0 q.1 q.2) (95, 3) := ⟨by decide, (mt4 _ (List.mem_of_getElem? (i := 59) (by decide +kernel)))⟩
theorem ml0_4 : (fun q : (Nat × Nat) => MLok 0 q.1 q.2) (107, 6) := ⟨by decide, (mt4 _ (List.mem_of_getElem? (i := 62) (by decide +kernel)))⟩
theorem ml0_5 : (fun q : (Nat × Nat) => MLok 0 q.1 q.2) (110, 5) := ⟨by decide, (mt4 _ (List.mem_of_getElem? (i := 66) (by decide +kernel)))⟩
theorem ml0_6 : (fun q : (Nat × Nat) => MLok 0 q.1 q.2) (88, 35) := ⟨by decide, (mt4 _ (List.mem_of_getElem? (i := 124) (by decide +kernel)))⟩
theorem ml0_7 : (fun q : (Nat × Nat) => MLok 0 q.1 q.2) (92, 65) := ⟨by decide, (mt4 _ (List.mem_of_getElem? (i := 128) (by decide +kernel)))⟩
theorem ml0_8 : (fun q : (Nat × Nat) => MLok 0 q.1 q.2) (113, 36) := ⟨by decide, (mt5 _ (List.mem_of_getElem? (i := 5) (by decide +kernel)))⟩
theorem ml0_9 : (fun q : (Nat × Nat) => MLok 0 q.1 q.2) (140, 13) := ⟨by decide, (mt5 _ (List.mem_of_getElem? (i := 104) (by decide +kernel)))⟩
theorem ml0_10 : (fun q : (Nat × Nat) => MLok 0 q.1 q.2) (148, 40) := ⟨by decide, (mt5 _ (List.mem_of_getElem? (i := 108) (by decide +kernel)))⟩
theorem ml0_11 : (fun q : (Nat × Nat) => MLok 0 q.1 q.2) (144, 14) := ⟨by decide, (mt5 _ (List.mem_of_getElem? (i := 114) (by decide +kernel)))⟩
theorem ml0_12 : (fun q : (Nat × Nat) => MLok 0 q.1 q.2) (151, 50) := ⟨by decide, (mt5 _ (List.mem_of_getElem? (i := 118) (by decide +kernel)))⟩
theorem ml0_13 : (fun q : (Nat × Nat) => MLok 0 q.1 q.2) (157, 53) := ⟨by decide, (mt5 _ (List.mem_of_getElem? (i := 119) (by decide +kernel)))⟩
theorem ml0_14 : (fun q : (Nat × Nat) => MLok 0 q.1 q.2) (160, 57) := ⟨by decide, (mt5 _ (List.mem_of_getElem? (i := 120) (by decide +kernel)))⟩
theorem ml0_15 : (fun q : (Nat × Nat) => MLok 0 q.1 q.2) (121, 8) := ⟨by decide, (mt5 _ (List.mem_of_getElem? (i := 207) (by decide +kernel)))⟩
theorem ml0_16 : (fun q : (Nat × Nat) => MLok 0 q.1 q.2) (125, 9) := ⟨by decide, (mt5 _ (List.mem_of_getElem? (i := 208) (by decide +kernel)))⟩
theorem ml0_17 : (fun q : (Nat × Nat) => MLok 0 q.1 q.2) (163, 17) := ⟨by decide, (mt6 _ (List.mem_of_getElem? (i := 119) (by decide +kernel)))⟩
theorem ml0_ok : ∀ q ∈ ml0, MLok 0 q.1 q.2 := List.forall_mem_cons.mpr ⟨ml0_0, List.forall_mem_cons.mpr ⟨ml0_1, List.forall_mem_cons.mpr ⟨ml0_2, List.forall_mem_cons.mpr ⟨ml0_3, List.forall_mem_cons.mpr ⟨ml0_4, List.forall_mem_cons.mpr ⟨ml0_5, List.forall_mem_cons.mpr ⟨ml0_6, List.forall_mem_cons.mpr ⟨ml0_7, List.forall_mem_cons.mpr ⟨ml0_8, List.forall_mem_cons.mpr ⟨ml0_9, List.forall_mem_cons.mpr ⟨ml0_10, List.forall_mem_cons.mpr ⟨ml0_11, List.forall_mem_cons.mpr ⟨ml0_12, List.forall_mem_cons.mpr ⟨ml0_13, List.forall_mem_cons.mpr ⟨ml0_14, List.forall_mem_cons.mpr ⟨ml0_15, List.forall_mem_cons.mpr ⟨ml0_16, List.forall_mem_cons.mpr ⟨ml0_17, fun _ h => absurd h List.not_mem_nil⟩⟩⟩⟩⟩⟩⟩⟩⟩⟩⟩⟩⟩⟩⟩⟩⟩⟩
def ml1 : List (Nat × Nat) := [(19, 1), (28, 87), (34, 92), (38, 20), (44, 21), (66, 94), (69, 88), (79, 97), (89, 98), (48, 22), (95, 29), (193, 93), (199, 7), (51, 23), (113, 34), (119, 95), (122, 30), (203, 4), (54, 24), (134, 25), (147, 96), (57, 26), (157, 31), (207, 6), (60, 27), (166, 32), (63, 28)]
theorem ml1_0 : (fun q : (Nat × Nat) => MLok 1 q.1 q.2) (19, 1) := ⟨by decide, (mt3 _ (List.mem_of_getElem? (i := 218) (by decide +kernel)))⟩
theorem ml1_1 : (fun q : (Nat × Nat) => MLok 1 q.1 q.2) (28, 87) := ⟨by decide, (mt3 _ (List.mem_of_getElem? (i := 229) (by decide +kernel)))⟩
theorem ml1_2 : (fun q : (Nat × Nat) => MLok 1 q.1 q.2) (34, 92) := ⟨by decide, (mt4 _ (List.mem_of_getElem? (i := 9) (by decide +kernel)))⟩
theorem ml1_3 : (fun q : (Nat × Nat) => MLok 1 q.1 q.2) (38, 20) := ⟨by decide, (mt4 _ (List.mem_of_getElem? (i := 13) (by decide +kernel)))⟩
theorem ml1_4 : (fun q : (Nat × Nat) => MLok 1 q.1 q.2) (44, 21) := ⟨by decide, (mt4 _ (List.mem_of_getElem? (i := 17) (by decide +kernel)))⟩
theorem ml1_5 : (fun q : (Nat × Nat) => MLok 1 q.1 q.2) (66, 94) := ⟨by decide, (mt4 _ (List.mem_of_getElem? (i := 21) (by decide +kernel)))⟩
theorem ml1_6 : (fun q : (Nat × Nat) => MLok 1 q.1 q.2) (69, 88) := ⟨by decide, (mt4 _ (List.mem_of_getElem? (i := 25) (by decide +kernel)))⟩
theorem ml1_7 : (fun q : (Nat × Nat) => MLok 1 q.1 q.2) (79, 97) := ⟨by decide, (mt4 _ (List.mem_of_getElem? (i := 30) (by decide +kernel)))⟩
theorem ml1_8 : (fun q : (Nat × Nat) => MLok 1 q.1 q.2) (89, 98) := ⟨by decide, (mt4 _ (List.mem_of_getElem? (i := 35) (by decide +kernel)))⟩
theorem ml1_9 : (fun q : (Nat × Nat) => MLok 1 q.1 q.2) (48, 22) := ⟨by decide, (mt4 _ (List.mem_of_getElem? (i := 39) (by decide +kernel)))⟩
theorem ml1_10 : (fun q : (Nat × Nat) => MLok 1 q.1 q.2) (95, 29) := ⟨by decide, (mt4 _ (List.mem_of_getElem? (i := 43) (by decide +kernel)))⟩
theorem ml1_11 : (fun q : (Nat × Nat) => MLok 1 q.1 q.2) (193, 93) := ⟨by decide, (mt4 _ (List.mem_of_getElem? (i := 47) (by decide +kernel)))⟩
theorem ml1_12 : (fun q : (Nat × Nat) => MLok 1 q.1 q.2) (199, 7) := ⟨by decide, (mt4 _ (List.mem_of_getElem? (i := 51) (by decide +kernel)))⟩
theorem ml1_13 : (fun q : (Nat × Nat) => MLok 1 q.1 q.2) (51, 23) := ⟨by decide, (mt4 _ (List.mem_of_getElem? (i := 70) (by decide +kernel)))⟩
theorem ml1_14 : (fun q : (Nat × Nat) => MLok 1 q.1 q.2) (113, 34) := ⟨by decide, (mt4 _ (List.mem_of_getElem? (i := 74) (by decide +kernel)))⟩
theorem ml1_15 : (fun q : (Nat × Nat) => MLok 1 q.1 q.2) (119, 95) := ⟨by decide, (mt4 _ (List.mem_of_getElem? (i := 78) (by decide +kernel)))⟩
theorem ml1_16 : (fun q : (Nat × Nat) => MLok 1 q.1 q.2) (122, 30) := ⟨by decide, (mt4 _ (List.mem_of_getElem? (i := 82) (by decide +kernel)))⟩
theorem ml1_17 : (fun q : (Nat × Nat) => MLok 1 q.1 q.2) (203, 4) := ⟨by decide, (mt4 _ (List.mem_of_getElem? (i := 86) (by decide +kernel)))⟩
theorem ml1_18 : (fun q : (Nat × Nat) => MLok 1 q.1 q.2) (54, 24) := ⟨by decide, (mt4 _ (List.mem_of_getElem? (i := 87) (by decide +kernel)))⟩
theorem ml1_19 : (fun q : (Nat × Nat) => MLok 1 q.1 q.2) (134, 25) := ⟨by decide, (mt4 _ (List.mem_of_getElem? (i := 91) (by decide +kernel)))⟩
theorem ml1_20 : (fun q : (Nat × Nat) => MLok 1 q.1 q.2) (147, 96) := ⟨by decide, (mt4 _ (List.mem_of_getElem? (i := 95) (by decide +kernel)))⟩
theorem ml1_21 : (fun q : (Nat × Nat) => MLok 1 q.1 q.2) (57, 26) := ⟨by decide, (mt4 _ (List.mem_of_getElem? (i := 99) (by decide +kernel)))⟩
theorem ml1_22 : (fun q : (Nat × Nat) => MLok 1 q.1 q.2) (157, 31) := ⟨by decide, (mt4 _ (List.mem_of_getElem? (i := 103) (by decide +kernel)))⟩
theorem ml1_23 : (fun q : (Nat × Nat) => MLok 1 q.1 q.2) (207, 6) := ⟨by decide, (mt4 _ (List.mem_of_getElem? (i := 107) (by decide +kernel)))⟩
theorem ml1_24 : (fun q : (Nat × Nat) => MLok 1 q.1 q.2) (60, 27) := ⟨by decide, (mt4 _ (List.mem_of_getElem? (i := 108) (by decide +kernel)))⟩
theorem ml1_25 : (fun q : (Nat × Nat) => MLok 1 q.1 q.2) (166, 32) := ⟨by decide, (mt4 _ (List.mem_of_getElem? (i := 112) (by decide +kernel)))⟩
theorem ml1_26 : (fun q : (Nat × Nat) => MLok 1 q.1 q.2) (63, 28) := ⟨by decide, (mt4 _ (List.mem_of_getElem? (i := 116) (by decide +kernel)))⟩
theorem ml1_ok : ∀ q ∈ ml1, MLok 1 q.1 q.2 := List.forall_mem_cons.mpr ⟨ml1_0, List.forall_mem_cons.mpr ⟨ml1_1, List.forall_mem_cons.mpr ⟨ml1_2, List.forall_mem_cons.mpr ⟨ml1_3, List.forall_mem_cons.mpr ⟨ml1_4, List.forall_mem_cons.mpr ⟨ml1_5, List.forall_mem_cons.mpr ⟨ml1_6, List.forall_mem_cons.mpr ⟨ml1_7, List.forall_mem_cons.mpr ⟨ml1_8, List.forall_mem_cons.mpr ⟨ml1_9, List.forall_mem_cons.mpr ⟨ml1_10, List.forall_mem_cons.mpr ⟨ml1_11, List.forall_mem_cons.mpr ⟨ml1_12, List.forall_mem_cons.mpr ⟨ml1_13, List.forall_mem_cons.mpr ⟨ml1_14, List.forall_mem_cons.mpr ⟨ml1_15, List.forall_mem_cons.mpr ⟨ml1_16, List.forall_mem_cons.mpr ⟨ml1_17, List.forall_mem_cons.mpr ⟨ml1_18, List.forall_mem_cons.mpr ⟨ml1_19, List.forall_mem_cons.mpr ⟨ml1_20, List.forall_mem_cons.mpr ⟨ml1_21, List.forall_mem_cons.mpr ⟨ml1_22, List.forall_mem_cons.mpr ⟨ml1_23, List.forall_mem_cons.mpr ⟨ml1_24, List.forall_mem_cons.mpr ⟨ml1_25, List.forall_mem_cons.mpr ⟨ml1_26, fun _ h => absurd h List.not_mem_nil⟩⟩⟩⟩⟩⟩⟩⟩⟩⟩⟩⟩⟩⟩⟩⟩⟩⟩⟩⟩⟩⟩⟩⟩⟩⟩⟩
def ml2 : List (Nat × Nat) := [(53, 39), (57, 37)]
theorem ml2_0 : (fun q : (Nat × Nat) => MLok 2 q.1 q.2) (53, 39) := ⟨by decide, (mt5 _ (List.mem_of_getElem? (i := 112) (by decide +kernel)))⟩
theorem ml2_1 : (fun q : (Nat × Nat) => MLok 2 q.1 q.2) (57, 37) := ⟨by decide, (mt5 _ (List.mem_of_getElem? (i := 113) (by decide +kernel)))⟩
theorem ml2_ok : ∀ q ∈ ml2, MLok 2 q.1 q.2 := List.forall_mem_cons.mpr ⟨ml2_0, List.forall_mem_cons.mpr ⟨ml2_1, fun _ h => absurd h List.not_mem_nil⟩⟩
def ml3 : List (Nat × Nat) := [(34, 371), (51, 43), (55, 44), (77, 12), (81, 45), (95, 46), (108, 36), (112, 38), (84, 47), (121, 50), (127, 53), (130, 57), (134, 58), (144, 48)]
theorem ml3_0 : (fun q : (Nat × Nat) => MLok 3 q.1 q.2) (34, 371) := ⟨by decide, (mt6 _ (List.mem_of_getElem? (i := 135) (by decide +kernel)))⟩
theorem ml3_1 : (fun q : (Nat × Nat) => MLok 3 q.1 q.2) (51, 43) := ⟨by decide, (mt6 _ (List.mem_of_getElem? (i := 136) (by decide +kernel)))⟩
theorem ml3_2 : (fun q : (Nat × Nat) => MLok 3 q.1 q.2) (55, 44) := ⟨by decide, (mt6 _ (List.mem_of_getElem? (i := 140) (by decide +kernel)))⟩
theorem ml3_3 : (fun q : (Nat × Nat) => MLok 3 q.1 q.2) (77, 12) := ⟨by decide, (mt6 _ (List.mem_of_getElem? (i := 144) (by decide +kernel)))⟩
theorem ml3_4 : (fun q : (Nat × Nat) => MLok 3 q.1 q.2) (81, 45) := ⟨by decide, (mt6 _ (List.mem_of_getElem? (i := 145) (by decide +kernel)))⟩
theorem ml3_5 : (fun q : (Nat × Nat) => MLok 3 q.1 q.2) (95, 46) := ⟨by decide, (mt6 _ (List.mem_of_getElem? (i := 150) (by decide +kernel)))⟩
theorem ml3_6 : (fun q : (Nat × Nat) => MLok 3 q.1 q.2) (108, 36) := ⟨by decide, (mt6 _ (List.mem_of_getElem? (i := 154) (by decide +kernel)))⟩
theorem ml3_7 : (fun q : (Nat × Nat) => MLok 3 q.1 q.2) (112, 38) := ⟨by decide, (mt6 _ (List.mem_of_getElem? (i := 155) (by decide +kernel)))⟩
theorem ml3_8 : (fun q : (Nat × Nat) => MLok 3 q.1 q.2) (84, 47) := ⟨by decide, (mt6 _ (List.mem_of_getElem? (i := 156) (by decide +kernel)))⟩
theorem ml3_9 : (fun q : (Nat × Nat) => MLok 3 q.1 q.2) (121, 50) := ⟨by decide, (mt6 _ (List.mem_of_getElem? (i := 160) (by decide +kernel)))⟩
theorem ml3_10 : (fun q : (Nat × Nat) => MLok 3 q.1 q.2) (127, 53) := ⟨by decide, (mt6 _ (List.mem_of_getElem? (i := 161) (by decide +kernel)))⟩
theorem ml3_11 : (fun q : (Nat × Nat) => MLok 3 q.1 q.2) (130, 57) := ⟨by decide, (mt6 _ (List.mem_of_getElem? (i := 162) (by decide +kernel)))⟩
theorem ml3_12 : (fun q : (Nat × Nat) => MLok 3 q.1 q.2) (134, 58) := ⟨by decide, (mt6 _ (List.mem_of_getElem? (i := 163) (by decide +kernel)))⟩
theorem ml3_13 : (fun q : (Nat × Nat) => MLok 3 q.1 q.2) (144, 48) := ⟨by decide, (mt6 _ (List.mem_of_getElem? (i := 164) (by decide +kernel)))⟩
theorem ml3_ok : ∀ q ∈ ml3, MLok 3 q.1 q.2 := List.forall_mem_cons.mpr ⟨ml3_0, List.forall_mem_cons.mpr ⟨ml3_1, List.forall_mem_cons.mpr ⟨ml3_2, List.forall_mem_cons.mpr ⟨ml3_3, List.forall_mem_cons.mpr ⟨ml3_4, List.forall_mem_cons.mpr ⟨ml3_5, List.forall_mem_cons.mpr ⟨ml3_6, List.forall_mem_cons.mpr ⟨ml3_7, List.forall_mem_cons.mpr ⟨ml3_8, List.forall_mem_cons.mpr ⟨ml3_9, List.forall_mem_cons.mpr ⟨ml3_10, List.forall_mem_cons.mpr ⟨ml3_11, List.forall_mem_cons.mpr ⟨ml3_12, List.forall_mem_cons.mpr ⟨ml3_13, fun _ h => absurd h List.not_mem_nil⟩⟩⟩⟩⟩⟩⟩⟩⟩⟩⟩⟩⟩⟩
def ml4 : List (Nat × Nat) := [(38, 39), (44, 37), (51, 51), (67, 371), (76, 54), (114, 58), (102, 55), (117, 56), (121, 60)]
theorem ml4_0 : (fun q : (Nat × Nat) => MLok 4 q.1 q.2) (38, 39) := ⟨by decide, (mt4 _ (List.mem_of_getElem? (i := 215) (by decide +kernel)))⟩
theorem ml4_1 : (fun q : (Nat × Nat) => MLok 4 q.1 q.2) (44, 37) := ⟨by decide, (mt4 _ (List.mem_of_getElem? (i := 223) (by decide +kernel)))⟩
theorem ml4_2 : (fun q : (Nat × Nat) => MLok 4 q.1 q.2) (51, 51) := ⟨by decide, (mt4 _ (List.mem_of_getElem? (i := 227) (by decide +kernel)))⟩
theorem ml4_3 : (fun q : (Nat × Nat) => MLok 4 q.1 q.2) (67, 371) := ⟨by decide, (mt4 _ (List.mem_of_getElem? (i := 235) (by decide +kernel)))⟩
theorem ml4_4 : (fun q : (Nat × Nat) => MLok 4 q.1 q.2) (76, 54) := ⟨by decide, (mt4 _ (List.mem_of_getElem? (i := 236) (by decide +kernel)))⟩
theorem ml4_5 : (fun q : (Nat × Nat) => MLok 4 q.1 q.2) (114, 58) := ⟨by decide, (mt5 _ (List.mem_of_getElem? (i := 17) (by decide +kernel)))⟩
theorem ml4_6 : (fun q : (Nat × Nat) => MLok 4 q.1 q.2) (102, 55) := ⟨by decide, (mt5 _ (List.mem_of_getElem? (i := 21) (by decide +kernel)))⟩
theorem ml4_7 : (fun q : (Nat × Nat) => MLok 4 q.1 q.2) (117, 56) := ⟨by decide, (mt6 _ (List.mem_of_getElem? (i := 32) (by decide +kernel)))⟩
theorem ml4_8 : (fun q : (Nat × Nat) => MLok 4 q.1 q.2) (121, 60) := ⟨by decide, (mt6 _ (List.mem_of_getElem? (i := 45) (by decide +kernel)))⟩
theorem ml4_ok : ∀ q ∈ ml4, MLok 4 q.1 q.2 := List.forall_mem_cons.mpr ⟨ml4_0, List.forall_mem_cons.mpr ⟨ml4_1, List.forall_mem_cons.mpr ⟨ml4_2, List.forall_mem_cons.mpr ⟨ml4_3, List.forall_mem_cons.mpr ⟨ml4_4, List.forall_mem_cons.mpr ⟨ml4_5, List.forall_mem_cons.mpr ⟨ml4_6, List.forall_mem_cons.mpr ⟨ml4_7, List.forall_mem_cons.mpr ⟨ml4_8, fun _ h => absurd h List.not_mem_nil⟩⟩⟩⟩⟩⟩⟩⟩⟩
def ml5 : List (Nat × Nat) := []
theorem ml5_ok : ∀ q ∈ ml5, MLok 5 q.1 q.2 := fun _ h => absurd h List.not_mem_nil
def ml6 : List (Nat × Nat) := [(30, 64), (37, 87), (43, 92), (50, 68), (70, 88), (73, 98), (53, 70), (76, 69), (57, 94), (82, 71), (92, 97), (95, 72), (114, 4), (108, 73), (128, 93), (117, 5), (102, 6), (120, 99)]
theorem ml6_0 : (fun q : (Nat × Nat) => MLok 6 q.1 q.2) (30, 64) := ⟨by decide, (mt4 _ (List.mem_of_getElem? (i := 148) (by decide +kernel)))⟩
theorem ml6_1 : (fun q : (Nat × Nat) => MLok 6 q.1 q.2) (37, 87) := ⟨by decide, (mt4 _ (List.mem_of_getElem? (i := 149) (by decide +kernel)))⟩
theorem ml6_2 : (fun q : (Nat × Nat) => MLok 6 q.1 q.2) (43, 92) := ⟨by decide, (mt4 _ (List.mem_of_getElem? (i := 150) (by decide +kernel)))⟩
theorem ml6_3 : (fun q : (Nat × Nat) => MLok 6 q.1 q.2) (50, 68) := ⟨by decide, (mt4 _ (List.mem_of_getElem? (i := 151) (by decide +kernel)))⟩
theorem ml6_4 : (fun q : (Nat × Nat) => MLok 6 q.1 q.2) (70, 88) := ⟨by decide, (mt4 _ (List.mem_of_getElem? (i := 155) (by decide +kernel)))⟩
theorem ml6_5 : (fun q : (Nat × Nat) => MLok 6 q.1 q.2) (73, 98) := ⟨by decide, (mt4 _ (List.mem_of_getElem? (i := 156) (by decide +kernel)))⟩
theorem ml6_6 : (fun q : (Nat × Nat) => MLok 6 q.1 q.2) (53, 70) := ⟨by decide, (mt4 _ (List.mem_of_getElem? (i := 157) (by decide +kernel)))⟩
theorem ml6_7 : (fun q : (Nat × Nat) => MLok 6 q.1 q.2) (76, 69) := ⟨by decide, (mt4 _ (List.mem_of_getElem? (i := 161) (by decide +kernel)))⟩
theorem ml6_8 : (fun q : (Nat × Nat) => MLok 6 q.1 q.2) (57, 94) := ⟨by decide, (mt4 _ (List.mem_of_getElem? (i := 164) (by decide +kernel)))⟩
theorem ml6_9 : (fun q : (Nat × Nat) => MLok 6 q.1 q.2) (82, 71) := ⟨by decide, (mt4 _ (List.mem_of_getElem? (i := 165) (by decide +kernel)))⟩
theorem ml6_10 : (fun q : (Nat × Nat) => MLok 6 q.1 q.2) (92, 97) := ⟨by decide, (mt4 _ (List.mem_of_getElem? (i := 169) (by decide +kernel)))⟩
theorem ml6_11 : (fun q : (Nat × Nat) => MLok 6 q.1 q.2) (95, 72) := ⟨by decide, (mt4 _ (List.mem_of_getElem? (i := 170) (by decide +kernel)))⟩
theorem ml6_12 : (fun q : (Nat × Nat) => MLok 6 q.1 q.2) (114, 4) := ⟨by decide, (mt4 _ (List.mem_of_getElem? (i := 174) (by decide +kernel)))⟩
theorem ml6_13 : (fun q : (Nat × Nat) => MLok 6 q.1 q.2) (108, 73) := ⟨by decide, (mt4 _ (List.mem_of_getElem? (i := 175) (by decide +kernel)))⟩
theorem ml6_14 : (fun q : (Nat × Nat) => MLok 6 q.1 q.2) (128, 93) := ⟨by decide, (mt4 _ (List.mem_of_getElem? (i := 179) (by decide +kernel)))⟩
theorem ml6_15 : (fun q : (Nat × Nat) => MLok 6 q.1 q.2) (117, 5) := ⟨by decide, (mt4 _ (List.mem_of_getElem? (i := 180) (by decide +kernel)))⟩
theorem ml6_16 : (fun q : (Nat × Nat) => MLok 6 q.1 q.2) (102, 6) := ⟨by decide, (mt4 _ (List.mem_of_getElem? (i := 181) (by decide +kernel)))⟩
theorem ml6_17 : (fun q : (Nat × Nat) => MLok 6 q.1 q.2) (120, 99) := ⟨by decide, (mt4 _ (List.mem_of_getElem? (i := 182) (by decide +kernel)))⟩
theorem ml6_ok : ∀ q ∈ ml6, MLok 6 q.1 q.2 := List.forall_mem_cons.mpr ⟨ml6_0, List.forall_mem_cons.mpr ⟨ml6_1, List.forall_mem_cons.mpr ⟨ml6_2, List.forall_mem_cons.mpr ⟨ml6_3, List.forall_mem_cons.mpr ⟨ml6_4, List.forall_mem_cons.mpr ⟨ml6_5, List.forall_mem_cons.mpr ⟨ml6_6, List.forall_mem_cons.mpr ⟨ml6_7, List.forall_mem_cons.mpr ⟨ml6_8, List.forall_mem_cons.mpr ⟨ml6_9, List.forall_mem_cons.mpr ⟨ml6_10, List.forall_mem_cons.mpr ⟨ml6_11, List.forall_mem_cons.mpr ⟨ml6_12, List.forall_mem_cons.mpr ⟨ml6_13, List.forall_mem_cons.mpr ⟨ml6_14, List.forall_mem_cons.mpr ⟨ml6_15, List.forall_mem_cons.mpr ⟨ml6_16, List.forall_mem_cons.mpr ⟨ml6_17, fun _ h => absurd h List.not_mem_nil⟩⟩⟩⟩⟩⟩⟩⟩⟩⟩⟩⟩⟩⟩⟩⟩⟩⟩
def ml7 : List (Nat × Nat) := [(23, 10), (29, 369), (35, 11), (38, 50), (44, 52), (48, 53), (51, 58), (63, 77), (82, 37), (86, 78)]
theorem ml7_0 : (fun q : (Nat × Nat) => MLok 7 q.1 q.2) (23, 10) := ⟨by decide, (mt5 _ (List.mem_of_getElem? (i := 203) (by decide +kernel)))⟩
theorem ml7_1 : (fun q : (Nat × Nat) => MLok 7 q.1 q.2) (29, 369) := ⟨by decide, (mt5 _ (List.mem_of_getElem? (i := 209) (by decide +kernel)))⟩
theorem ml7_2 : (fun q : (Nat × Nat) => MLok 7 q.1 q.2) (35, 11) := ⟨by decide, (mt5 _ (List.mem_of_getElem? (i := 210) (by decide +kernel)))⟩
theorem ml7_3 : (fun q : (Nat × Nat) => MLok 7 q.1 q.2) (38, 50) := ⟨by decide, (mt5 _ (List.mem_of_getElem? (i := 214) (by decide +kernel)))⟩
theorem ml7_4 : (fun q : (Nat × Nat) => MLok 7 q.1 q.2) (44, 52) := ⟨by decide, (mt5 _ (List.mem_of_getElem? (i := 215) (by decide +kernel)))⟩
theorem ml7_5 : (fun q : (Nat × Nat) => MLok 7 q.1 q.2) (48, 53) := ⟨by decide, (mt5 _ (List.mem_of_getElem? (i := 219) (by decide +kernel)))⟩
theorem ml7_6 : (fun q : (Nat × Nat) => MLok 7 q.1 q.2) (51, 58) := ⟨by decide, (mt5 _ (List.mem_of_getElem? (i := 220) (by decide +kernel)))⟩
theorem ml7_7 : (fun q : (Nat × Nat) => MLok 7 q.1 q.2) (63, 77) := ⟨by decide, (mt6 _ (List.mem_of_getElem? (i := 11) (by decide +kernel)))⟩
theorem ml7_8 : (fun q : (Nat × Nat) => MLok 7 q.1 q.2) (82, 37) := ⟨by decide, (mt6 _ (List.mem_of_getElem? (i := 15) (by decide +kernel)))⟩
theorem ml7_9 : (fun q : (Nat × Nat) => MLok 7 q.1 q.2) (86, 78) := ⟨by decide, (mt6 _ (List.mem_of_getElem? (i := 16) (by decide +kernel)))⟩
theorem ml7_ok : ∀ q ∈ ml7, MLok 7 q.1 q.2 := List.forall_mem_cons.mpr ⟨ml7_0, List.forall_mem_cons.mpr ⟨ml7_1, List.forall_mem_cons.mpr ⟨ml7_2, List.forall_mem_cons.mpr ⟨ml7_3, List.forall_mem_cons.mpr ⟨ml7_4, List.forall_mem_cons.mpr ⟨ml7_5, List.forall_mem_cons.mpr ⟨ml7_6, List.forall_mem_cons.mpr ⟨ml7_7, List.forall_mem_cons.mpr ⟨ml7_8, List.forall_mem_cons.mpr ⟨ml7_9, fun _ h => absurd h List.not_mem_nil⟩⟩⟩⟩⟩⟩⟩⟩⟩⟩
def ml8 : List (Nat × Nat) := [(19, 10), (32, 371), (38, 50), (44, 81), (57, 53), (48, 82)]
theorem ml8_0 : (fun q : (Nat × Nat) => MLok 8 q.1 q.2) (19, 10) := ⟨by decide, (mt6 _ (List.mem_of_getElem? (i := 82) (by decide +kernel)))⟩
theorem ml8_1 : (fun q : (Nat × Nat) => MLok 8 q.1 q.2) (32, 371) := ⟨by decide, (mt6 _ (List.mem_of_getElem? (i := 83) (by decide +kernel)))⟩
theorem ml8_2 : (fun q : (Nat × Nat) => MLok 8 q.1 q.2) (38, 50) := ⟨by decide, (mt6 _ (List.mem_of_getElem? (i := 84) (by decide +kernel)))⟩
theorem ml8_3 : (fun q : (Nat × Nat) => MLok 8 q.1 q.2) (44, 81) := ⟨by decide, (mt6 _ (List.mem_of_getElem? (i := 85) (by decide +kernel)))⟩
theorem ml8_4 : (fun q : (Nat × Nat) => MLok 8 q.1 q.2) (57, 53) := ⟨by decide, (mt6 _ (List.mem_of_getElem? (i := 89) (by decide +kernel)))⟩
theorem ml8_5 : (fun q : (Nat × Nat) => MLok 8 q.1 q.2) (48, 82) := ⟨by decide, (mt6 _ (List.mem_of_getElem? (i := 90) (by decide +kernel)))⟩
theorem ml8_ok : ∀ q ∈ ml8, MLok 8 q.1 q.2 := List.forall_mem_cons.mpr ⟨ml8_0, List.forall_mem_cons.mpr ⟨ml8_1, List.forall_mem_cons.mpr ⟨ml8_2, List.forall_mem_cons.mpr ⟨ml8_3, List.forall_mem_cons.mpr ⟨ml8_4, List.forall_mem_cons.mpr ⟨ml8_5, fun _ h => absurd h List.not_mem_nil⟩⟩⟩⟩⟩⟩
def ml9 : List (Nat × Nat) := [(51, 88), (60, 89), (63, 90), (66, 91), (76, 94)]
theorem ml9_0 : (fun q : (Nat × Nat) => MLok 9 q.1 q.2) (51, 88) := ⟨by decide, (mt3 _ (List.mem_of_getElem? (i := 233) (by decide +kernel)))⟩
theorem ml9_1 : (fun q : (Nat × Nat) => MLok 9 q.1 q.2) (60, 89) := ⟨by decide, (mt3 _ (List.mem_of_getElem? (i := 237) (by decide +kernel)))⟩
theorem ml9_2 : (fun q : (Nat × Nat) => MLok 9 q.1 q.2) (63, 90) := ⟨by decide, (mt4 _ (List.mem_of_getElem? (i := 1) (by decide +kernel)))⟩
theorem ml9_3 : (fun q : (Nat × Nat) => MLok 9 q.1 q.2) (66, 91) := ⟨by decide, (mt4 _ (List.mem_of_getElem? (i := 5) (by decide +kernel)))⟩
theorem ml9_4 : (fun q : (Nat × Nat) => MLok 9 q.1 q.2) (76, 94) := ⟨by decide, (mt4 _ (List.mem_of_getElem? (i := 34) (by decide +kernel)))⟩
theorem ml9_ok : ∀ q ∈ ml9, MLok 9 q.1 q.2 := List.forall_mem_cons.mpr ⟨ml9_0, List.forall_mem_cons.mpr ⟨ml9_1, List.forall_mem_cons.mpr ⟨ml9_2, List.forall_mem_cons.mpr ⟨ml9_3, List.forall_mem_cons.mpr ⟨ml9_4, fun _ h => absurd h List.not_mem_nil⟩⟩⟩⟩⟩
def ml10 : List (Nat × Nat) := [(22, 370), (28, 105)]
theorem ml10_0 : (fun q : (Nat × Nat) => MLok 10 q.1 q.2) (22, 370) := ⟨by decide, (mt3 _ (List.mem_of_getElem? (i := 150) (by decide +kernel)))⟩
theorem ml10_1 : (fun q : (Nat × Nat) => MLok 10 q.1 q.2) (28, 105) := ⟨by decide, (mt3 _ (List.mem_of_getElem? (i := 177) (by decide +kernel)))⟩
theorem ml10_ok : ∀ q ∈ ml10, MLok 10 q.1 q.2 := List.forall_mem_cons.mpr ⟨ml10_0, List.forall_mem_cons.mpr ⟨ml10_1, fun _ h => absurd h List.not_mem_nil⟩⟩
def ml11 : List (Nat × Nat) := [(29, 84), (36, 0), (50, 49), (59, 74), (68, 79), (77, 18), (86, 66), (93, 41), (148, 118), (124, 117), (116, 114), (161, 102), (120, 113), (165, 126), (157, 125), (151, 101), (168, 104), (105, 111), (179, 103), (189, 85), (192, 86), (196, 19), (199, 2), (109, 110), (207, 67), (215, 65), (229, 136), (232, 137), (244, 123), (137, 124), (141, 50), (145, 53), (250, 8), (254, 9), (257, 59), (260, 56), (266, 120), (293, 112), (306, 121), (324, 119), (330, 122), (333, 55), (336, 57), (339, 58), (342, 12), (346, 36), (349, 38), (352, 369), (363, 39), (366, 75), (370, 11), (373, 52), (376, 169), (380, 76), (387, 60), (390, 61), (393, 115), (112, 116), (397, 62), (400, 51), (404, 80), (414, 83), (418, 15), (421, 16), (428, 42)]
theorem ml11_0 : (fun q : (Nat × Nat) => MLok 11 q.1 q.2) (29, 84) := ⟨by decide, (mt1 _ (List.mem_of_getElem? (i := 54) (by decide +kernel)))⟩
theorem ml11_1 : (fun q : (Nat × Nat) => MLok 11 q.1 q.2) (36, 0) := ⟨by decide, (mt1 _ (List.mem_of_getElem? (i := 164) (by decide +kernel)))⟩
theorem ml11_2 : (fun q : (Nat × Nat) => MLok 11 q.1 q.2) (50, 49) := ⟨by decide, (mt2 _ (List.mem_of_getElem? (i := 143) (by decide +kernel)))⟩
theorem ml11_3 : (fun q : (Nat × Nat) => MLok 11 q.1 q.2) (59, 74) := ⟨by decide, (mt2 _ (List.mem_of_getElem? (i := 184) (by decide +kernel)))⟩
theorem ml11_4 : (fun q : (Nat × Nat) => MLok 11 q.1 q.2) (68, 79) := ⟨by decide, (mt2 _ (List.mem_of_getElem? (i := 210) (by decide +kernel)))⟩
theorem ml11_5 : (fun q : (Nat × Nat) => MLok 11 q.1 q.2) (77, 18) := ⟨by decide, (mt2 _ (List.mem_of_getElem? (i := 231) (by decide +kernel)))⟩
theorem ml11_6 : (fun q : (Nat × Nat) => MLok 11 q.1 q.2) (86, 66) := ⟨by decide, (mt3 _ (List.mem_of_getElem? (i := 16) (by decide +kernel)))⟩
theorem ml11_7 : (fun q : (Nat × Nat) => MLok 11 q.1 q.2) (93, 41) := ⟨by decide, (mt3 _ (List.mem_of_getElem? (i := 41) (by decide +kernel)))⟩
theorem ml11_8 : (fun q : (Nat × Nat) => MLok 11 q.1 q.2) (148, 118) := ⟨by decide, (mt3 _ (List.mem_of_getElem? (i := 136) (by decide +kernel)))⟩
theorem ml11_9 : (fun q : (Nat × Nat) => MLok 11 q.1 q.2) (124, 117) := ⟨by decide, (mt3 _ (List.mem_of_getElem? (i := 139) (by decide +kernel)))⟩
theorem ml11_10 : (fun q : (Nat × Nat) => MLok 11 q.1 q.2) (116, 114) := ⟨by decide, (mt3 _ (List.mem_of_getElem? (i := 142) (by decide +kernel)))⟩
theorem ml11_11 : (fun q : (Nat × Nat) => MLok 11 q.1 q.2) (161, 102) := ⟨by decide, (mt3 _ (List.mem_of_getElem? (i := 146) (by decide +kernel)))⟩
theorem ml11_12 : (fun q : (Nat × Nat) => MLok 11 q.1 q.2) (120, 113) := ⟨by decide, (mt3 _ (List.mem_of_getElem? (i := 153) (by decide +kernel)))⟩
theorem ml11_13 : (fun q : (Nat × Nat) => MLok 11 q.1 q.2) (165, 126) := ⟨by decide, (mt3 _ (List.mem_of_getElem? (i := 161) (by decide +kernel)))⟩
theorem ml11_14 : (fun q : (Nat × Nat) => MLok 11 q.1 q.2) (157, 125) := ⟨by decide, (mt3 _ (List.mem_of_getElem? (i := 165) (by decide +kernel)))⟩
theorem ml11_15 : (fun q : (Nat × Nat) => MLok 11 q.1 q.2) (151, 101) := ⟨by decide, (mt3 _ (List.mem_of_getElem? (i := 169) (by decide +kernel)))⟩
theorem ml11_16 : (fun q : (Nat × Nat) => MLok 11 q.1 q.2) (168, 104) := ⟨by decide, (mt3 _ (List.mem_of_getElem? (i := 173) (by decide +kernel)))⟩
theorem ml11_17 : (fun q : (Nat × Nat) => MLok 11 q.1 q.2) (105, 111) := ⟨by decide, (mt3 _ (List.mem_of_getElem? (i := 185) (by decide +kernel)))⟩
theorem ml11_18 : (fun q : (Nat × Nat) => MLok 11 q.1 q.2) (179, 103) := ⟨by decide, (mt3 _ (List.mem_of_getElem? (i := 193) (by decide +kernel)))⟩
theorem ml11_19 : (fun q : (Nat × Nat) => MLok 11 q.1 q.2) (189, 85) := ⟨by decide, (mt3 _ (List.mem_of_getElem? (i := 202) (by decide +kernel)))⟩
theorem ml11_20 : (fun q : (Nat × Nat) => MLok 11 q.1 q.2) (192, 86) := ⟨by decide, (mt3 _ (List.mem_of_getElem? (i := 206) (by decide +kernel)))⟩
theorem ml11_21 : (fun q : (Nat × Nat) => MLok 11 q.1 q.2) (196, 19) := ⟨by decide, (mt3 _ (List.mem_of_getElem? (i := 214) (by decide +kernel)))⟩
theorem ml11_22 : (fun q : (Nat × Nat) => MLok 11 q.1 q.2) (199, 2) := ⟨by decide, (mt4 _ (List.mem_of_getElem? (i := 120) (by decide +kernel)))⟩
theorem ml11_23 : (fun q : (Nat × Nat) => MLok 11 q.1 q.2) (109, 110) := ⟨by decide, (mt4 _ (List.mem_of_getElem? (i := 133) (by decide +kernel)))⟩
theorem ml11_24 : (fun q : (Nat × Nat) => MLok 11 q.1 q.2) (207, 67) := ⟨by decide, (mt4 _ (List.mem_of_getElem? (i := 144) (by decide +kernel)))⟩
theorem ml11_25 : (fun q : (Nat × Nat) => MLok 11 q.1 q.2) (215, 65) := ⟨by decide, (mt4 _ (List.mem_of_getElem? (i := 186) (by decide +kernel)))⟩
theorem ml11_26 : (fun q : (Nat × Nat) => MLok 11 q.1 q.2) (229, 136) := ⟨by decide, (mt4 _ (List.mem_of_getElem? (i := 195) (by decide +kernel)))⟩
theorem ml11_27 : (fun q : (Nat × Nat) => MLok 11 q.1 q.2) (232, 137) := ⟨by decide, (mt4 _ (List.mem_of_getElem? (i := 199) (by decide +kernel)))⟩
theorem ml11_28 : (fun q : (Nat × Nat) => MLok 11 q.1 q.2) (244, 123) := ⟨by decide, (mt4 _ (List.mem_of_getElem? (i := 203) (by decide +kernel)))⟩
theorem ml11_29 : (fun q : (Nat × Nat) => MLok 11 q.1 q.2) (137, 124) := ⟨by decide, (mt4 _ (List.mem_of_getElem? (i := 207) (by decide +kernel)))⟩
theorem ml11_30 : (fun q : (Nat × Nat) => MLok 11 q.1 q.2) (141, 50) := ⟨by decide, (mt4 _ (List.mem_of_getElem? (i := 211) (by decide +kernel)))⟩
theorem ml11_31 : (fun q : (Nat × Nat) => MLok 11 q.1 q.2) (145, 53) := ⟨by decide, (mt4 _ (List.mem_of_getElem? (i := 231) (by decide +kernel)))⟩
theorem ml11_32 : (fun q : (Nat × Nat) => MLok 11 q.1 q.2) (250, 8) := ⟨by decide, (mt5 _ (List.mem_of_getElem? (i := 1) (by decide +kernel)))⟩
theorem ml11_33 : (fun q : (Nat × Nat) => MLok 11 q.1 q.2) (254, 9) := ⟨by decide, (mt5 _ (List.mem_of_getElem? (i := 9) (by decide +kernel)))⟩
theorem ml11_34 : (fun q : (Nat × Nat) => MLok 11 q.1 q.2) (257, 59) := ⟨by decide, (mt5 _ (List.mem_of_getElem? (i := 13) (by decide +kernel)))⟩
theorem ml11_35 : (fun q : (Nat × Nat) => MLok 11 q.1 q.2) (260, 56) := ⟨by decide, (mt5 _ (List.mem_of_getElem? (i := 25) (by decide +kernel)))⟩
theorem ml11_36 : (fun q : (Nat × Nat) => MLok 11 q.1 q.2) (266, 120) := ⟨by decide, (mt5 _ (List.mem_of_getElem? (i := 33) (by decide +kernel)))⟩
theorem ml11_37 : (fun q : (Nat × Nat) => MLok 11 q.1 q.2) (293, 112) := ⟨by decide, (mt5 _ (List.mem_of_getElem? (i := 37) (by decide +kernel)))⟩
theorem ml11_38 : (fun q : (Nat × Nat) => MLok 11 q.1 q.2) (306, 121) := ⟨by decide, (mt5 _ (List.mem_of_getElem? (i := 45) (by decide +kernel)))⟩
theorem ml11_39 : (fun q : (Nat × Nat) => MLok 11 q.1 q.2) (324, 119) := ⟨by decide, (mt5 _ (List.mem_of_getElem? (i := 61) (by decide +kernel)))⟩
theorem ml11_40 : (fun q : (Nat × Nat) => MLok 11 q.1 q.2) (330, 122) := ⟨by decide, (mt5 _ (List.mem_of_getElem? (i := 69) (by decide +kernel)))⟩
theorem ml11_41 : (fun q : (Nat × Nat) => MLok 11 q.1 q.2) (333, 55) := ⟨by decide, (mt5 _ (List.mem_of_getElem? (i := 72) (by decide +kernel)))⟩
theorem ml11_42 : (fun q : (Nat × Nat) => MLok 11 q.1 q.2) (336, 57) := ⟨by decide, (mt5 _ (List.mem_of_getElem? (i := 77) (by decide +kernel)))⟩
theorem ml11_43 : (fun q : (Nat × Nat) => MLok 11 q.1 q.2) (339, 58) := ⟨by decide, (mt5 _ (List.mem_of_getElem? (i := 89) (by decide +kernel)))⟩
theorem ml11_44 : (fun q : (Nat × Nat) => MLok 11 q.1 q.2) (342, 12) := ⟨by decide, (mt5 _ (List.mem_of_getElem? (i := 98) (by decide +kernel)))⟩
theorem ml11_45 : (fun q : (Nat × Nat) => MLok 11 q.1 q.2) (346, 36) := ⟨by decide, (mt5 _ (List.mem_of_getElem? (i := 125) (by decide +kernel)))⟩
theorem ml11_46 : (fun q : (Nat × Nat) => MLok 11 q.1 q.2) (349, 38) := ⟨by decide, (mt5 _ (List.mem_of_getElem? (i := 130) (by decide +kernel)))⟩
theorem ml11_47 : (fun q : (Nat × Nat) => MLok 11 q.1 q.2) (352, 369) := ⟨by decide, (mt5 _ (List.mem_of_getElem? (i := 134) (by decide +kernel)))⟩
theorem ml11_48 : (fun q : (Nat × Nat) => MLok 11 q.1 q.2) (363, 39) := ⟨by decide, (mt5 _ (List.mem_of_getElem? (i := 174) (by decide +kernel)))⟩
theorem ml11_49 : (fun q : (Nat × Nat) => MLok 11 q.1 q.2) (366, 75) := ⟨by decide, (mt5 _ (List.mem_of_getElem? (i := 199) (by decide +kernel)))⟩
theorem ml11_50 : (fun q : (Nat × Nat) => MLok 11 q.1 q.2) (370, 11) := ⟨by decide, (mt5 _ (List.mem_of_getElem? (i := 229) (by decide +kernel)))⟩
theorem ml11_51 : (fun q : (Nat × Nat) => MLok 11 q.1 q.2) (373, 52) := ⟨by decide, (mt5 _ (List.mem_of_getElem? (i := 238) (by decide +kernel)))⟩
theorem ml11_52 : (fun q : (Nat × Nat) => MLok 11 q.1 q.2) (376, 169) := ⟨by decide, (mt6 _ (List.mem_of_getElem? (i := 3) (by decide +kernel)))⟩
theorem ml11_53 : (fun q : (Nat × Nat) => MLok 11 q.1 q.2) (380, 76) := ⟨by decide, (mt6 _ (List.mem_of_getElem? (i := 7) (by decide +kernel)))⟩
theorem ml11_54 : (fun q : (Nat × Nat) => MLok 11 q.1 q.2) (387, 60) := ⟨by decide, (mt6 _ (List.mem_of_getElem? (i := 28) (by decide +kernel)))⟩
theorem ml11_55 : (fun q : (Nat × Nat) => MLok 11 q.1 q.2) (390, 61) := ⟨by decide, (mt6 _ (List.mem_of_getElem? (i := 41) (by decide +kernel)))⟩
theorem ml11_56 : (fun q : (Nat × Nat) => MLok 11 q.1 q.2) (393, 115) := ⟨by decide, (mt6 _ (List.mem_of_getElem? (i := 50) (by decide +kernel)))⟩
theorem ml11_57 : (fun q : (Nat × Nat) => MLok 11 q.1 q.2) (112, 116) := ⟨by decide, (mt6 _ (List.mem_of_getElem? (i := 54) (by decide +kernel)))⟩
theorem ml11_58 : (fun q : (Nat × Nat) => MLok 11 q.1 q.2) (397, 62) := ⟨by decide, (mt6 _ (List.mem_of_getElem? (i := 61) (by decide +kernel)))⟩
theorem ml11_59 : (fun q : (Nat × Nat) => MLok 11 q.1 q.2) (400, 51) := ⟨by decide, (mt6 _ (List.mem_of_getElem? (i := 69) (by decide +kernel)))⟩
theorem ml11_60 : (fun q : (Nat × Nat) => MLok 11 q.1 q.2) (404, 80) := ⟨by decide, (mt6 _ (List.mem_of_getElem? (i := 78) (by decide +kernel)))⟩
theorem ml11_61 : (fun q : (Nat × Nat) => MLok 11 q.1 q.2) (414, 83) := ⟨by decide, (mt6 _ (List.mem_of_getElem? (i := 102) (by decide +kernel)))⟩
theorem ml11_62 : (fun q : (Nat × Nat) => MLok 11 q.1 q.2) (418, 15) := ⟨by decide, (mt6 _ (List.mem_of_getElem? (i := 111) (by decide +kernel)))⟩
theorem ml11_63 : (fun q : (Nat × Nat) => MLok 11 q.1 q.2) (421, 16) := ⟨by decide, (mt6 _ (List.mem_of_getElem? (i := 115) (by decide +kernel)))⟩
theorem ml11_64 : (fun q : (Nat × Nat) => MLok 11 q.1 q.2) (428, 42) := ⟨by decide, (mt6 _ (List.mem_of_getElem? (i := 131) (by decide +kernel)))⟩
theorem ml11_ok : ∀ q ∈ ml11, MLok 11 q.1 q.2 := List.forall_mem_cons.mpr ⟨ml11_0, List.forall_mem_cons.mpr ⟨ml11_1, List.forall_mem_cons.mpr ⟨ml11_2, List.forall_mem_cons.mpr ⟨ml11_3, List.forall_mem_cons.mpr ⟨ml11_4, List.forall_mem_cons.mpr ⟨ml11_5, List.forall_mem_cons.mpr ⟨ml11_6, List.forall_mem_cons.mpr ⟨ml11_7, List.forall_mem_cons.mpr ⟨ml11_8, List.forall_mem_cons.mpr ⟨ml11_9, List.forall_mem_cons.mpr ⟨ml11_10, List.forall_mem_cons.mpr ⟨ml11_11, List.forall_mem_cons.mpr ⟨ml11_12, List.forall_mem_cons.mpr ⟨ml11_13, List.forall_mem_cons.mpr ⟨ml11_14, List.forall_mem_cons.mpr ⟨ml11_15, List.forall_mem_cons.mpr ⟨ml11_16, List.forall_mem_cons.mpr ⟨ml11_17, List.forall_mem_cons.mpr ⟨ml11_18, List.forall_mem_cons.mpr ⟨ml11_19, List.forall_mem_cons.mpr ⟨ml11_20, List.forall_mem_cons.mpr ⟨ml11_21, List.forall_mem_cons.mpr ⟨ml11_22, List.forall_mem_cons.mpr ⟨ml11_23, List.forall_mem_cons.mpr ⟨ml11_24, List.forall_mem_cons.mpr ⟨ml11_25, List.forall_mem_cons.mpr ⟨ml11_26, List.forall_mem_cons.mpr ⟨ml11_27, List.forall_mem_cons.mpr ⟨ml11_28, List.forall_mem_cons.mpr ⟨ml11_29, List.forall_mem_cons.mpr ⟨ml11_30, List.forall_mem_cons.mpr ⟨ml11_31, List.forall_mem_cons.mpr ⟨ml11_32, List.forall_mem_cons.mpr ⟨ml11_33, List.forall_mem_cons.mpr ⟨ml11_34, List.forall_mem_cons.mpr ⟨ml11_35, List.forall_mem_cons.mpr ⟨ml11_36, List.forall_mem_cons.mpr ⟨ml11_37, List.forall_mem_cons.mpr ⟨ml11_38, List.forall_mem_cons.mpr ⟨ml11_39, List.forall_mem_cons.mpr ⟨ml11_40, List.forall_mem_cons.mpr ⟨ml11_41, List.forall_mem_cons.mpr ⟨ml11_42, List.forall_mem_cons.mpr ⟨ml11_43, List.forall_mem_cons.mpr ⟨ml11_44, List.forall_mem_cons.mpr ⟨ml11_45, List.forall_mem_cons.mpr ⟨ml11_46, List.forall_mem_cons.mpr ⟨ml11_47, List.forall_mem_cons.mpr ⟨ml11_48, List.forall_mem_cons.mpr ⟨ml11_49, List.forall_mem_cons.mpr ⟨ml11_50, List.forall_mem_cons.mpr ⟨ml11_51, List.forall_mem_cons.mpr ⟨ml11_52, List.forall_mem_cons.mpr ⟨ml11_53, List.forall_mem_cons.mpr ⟨ml11_54, List.forall_mem_cons.mpr ⟨ml11_55, List.forall_mem_cons.mpr ⟨ml11_56, List.forall_mem_cons.mpr ⟨ml11_57, List.forall_mem_cons.mpr ⟨ml11_58, List.forall_mem_cons.mpr ⟨ml11_59, List.forall_mem_cons.mpr ⟨ml11_60, List.forall_mem_cons.mpr ⟨ml11_61, List.forall_mem_cons.mpr ⟨ml11_62, List.forall_mem_cons.mpr ⟨ml11_63, List.forall_mem_cons.mpr ⟨ml11_64, fun _ h => absurd h List.not_mem_nil⟩⟩⟩⟩⟩⟩⟩⟩⟩⟩⟩⟩⟩⟩⟩⟩⟩⟩⟩⟩⟩⟩⟩⟩⟩⟩⟩⟩⟩⟩⟩⟩⟩⟩⟩⟩⟩⟩⟩⟩⟩⟩⟩⟩⟩⟩⟩⟩⟩⟩⟩⟩⟩⟩⟩⟩⟩⟩⟩⟩⟩⟩⟩⟩⟩
def ml12 : List (Nat × Nat) := [(56, 252), (75, 194), (83, 200), (79, 199), (87, 197), (254, 248), (311, 249), (238, 212), (112, 208), (118, 209), (131, 210), (137, 211), (314, 265), (154, 216), (140, 214), (144, 215), (292, 258), (99, 206), (234, 241), (248, 244), (241, 242), (95, 195), (158, 217), (161, 218), (164, 219), (167, 220), (296, 259), (275, 255), (260, 240), (225, 239), (170, 221), (173, 222), (176, 223), (179, 224), (182, 225), (185, 226), (188, 227), (191, 228), (194, 229), (197, 230), (200, 231), (203, 232), (206, 233), (209, 234), (212, 235), (215, 236), (219, 237), (222, 238), (263, 254), (257, 253), (299, 260), (244, 243), (278, 257), (269, 256), (281, 245), (285, 246), (302, 261), (305, 263), (289, 262), (308, 264), (317, 213), (320, 250), (323, 366), (335, 269), (332, 268), (326, 267), (361, 193), (364, 284), (344, 277), (341, 276), (338, 275), (367, 283), (356, 282), (353, 279), (350, 278), (370, 280), (373, 272), (378, 273), (381, 274), (384, 271), (387, 291), (390, 281), (393, 205), (401, 298), (396, 297), (406, 301), (409, 207), (418, 307), (421, 313), (424, 311), (427, 312), (433, 317), (430, 316), (445, 325), (436, 323), (439, 324), (442, 322), (456, 332), (449, 331), (459, 335), (462, 338), (465, 196), (482, 344), (485, 346), (479, 345), (469, 204), (491, 350), (494, 352), (488, 351), (546, 362), (538, 361), (541, 360), (532, 358), (510, 356), (513, 357), (507, 355), (535, 359)]
theorem ml12_0 : (fun q : (Nat × Nat) => MLok 12 q.1 q.2) (56, 252) := ⟨by decide, (mt6 _ (List.mem_of_getElem? (i := 190) (by decide +kernel)))⟩
theorem ml12_1 : (fun q : (Nat × Nat) => MLok 12 q.1 q.2) (75, 194) := ⟨by decide, (mt7 _ (List.mem_of_getElem? (i := 97) (by decide +kernel)))⟩
theorem ml12_2 : (fun q : (Nat × Nat) => MLok 12 q.1 q.2) (83, 200) := ⟨by decide, (mt7 _ (List.mem_of_getElem? (i := 105) (by decide +kernel)))⟩
theorem ml12_3 : (fun q : (Nat × Nat) => MLok 12 q.1 q.2) (79, 199) := ⟨by decide, (mt7 _ (List.mem_of_getElem? (i := 109) (by decide +kernel)))⟩
theorem ml12_4 : (fun q : (Nat × Nat) => MLok 12 q.1 q.2) (87, 197) := ⟨by decide, (mt7 _ (List.mem_of_getElem? (i := 113) (by decide +kernel)))⟩
theorem ml12_5 : (fun q : (Nat × Nat) => MLok 12 q.1 q.2) (254, 248) := ⟨by decide, (mt7 _ (List.mem_of_getElem? (i := 129) (by decide +kernel)))⟩
theorem ml12_6 : (fun q : (Nat × Nat) => MLok 12 q.1 q.2) (311, 249) := ⟨by decide, (mt7 _ (List.mem_of_getElem? (i := 141) (by decide +kernel)))⟩
theorem ml12_7 : (fun q : (Nat × Nat) => MLok 12 q.1 q.2) (238, 212) := ⟨by decide, (mt7 _ (List.mem_of_getElem? (i := 145) (by decide +kernel)))⟩
theorem ml12_8 : (fun q : (Nat × Nat) => MLok 12 q.1 q.2) (112, 208) := ⟨by decide, (mt7 _ (List.mem_of_getElem? (i := 149) (by decide +kernel)))⟩
theorem ml12_9 : (fun q : (Nat × Nat) => MLok 12 q.1 q.2) (118, 209) := ⟨by decide, (mt7 _ (List.mem_of_getElem? (i := 153) (by decide +kernel)))⟩
theorem ml12_10 : (fun q : (Nat × Nat) => MLok 12 q.1 q.2) (131, 210) := ⟨by decide, (mt7 _ (List.mem_of_getElem? (i := 158) (by decide +kernel)))⟩
theorem ml12_11 : (fun q : (Nat × Nat) => MLok 12 q.1 q.2) (137, 211) := ⟨by decide, (mt7 _ (List.mem_of_getElem? (i := 161) (by decide +kernel)))⟩
theorem ml12_12 : (fun q : (Nat × Nat) => MLok 12 q.1 q.2) (314, 265) := ⟨by decide, (mt7 _ (List.mem_of_getElem? (i := 165) (by decide +kernel)))⟩
theorem ml12_13 : (fun q : (Nat × Nat) => MLok 12 q.1 q.2) (154, 216) := ⟨by decide, (mt7 _ (List.mem_of_getElem? (i := 169) (by decide +kernel)))⟩
theorem ml12_14 : (fun q : (Nat × Nat) => MLok 12 q.1 q.2) (140, 214) := ⟨by decide, (mt7 _ (List.mem_of_getElem? (i := 173) (by decide +kernel)))⟩
theorem ml12_15 : (fun q : (Nat × Nat) => MLok 12 q.1 q.2) (144, 215) := ⟨by decide, (mt7 _ (List.mem_of_getElem? (i := 176) (by decide +kernel)))⟩
theorem ml12_16 : (fun q : (Nat × Nat) => MLok 12 q.1 q.2) (292, 258) := ⟨by decide, (mt7 _ (List.mem_of_getElem? (i := 180) (by decide +kernel)))⟩
theorem ml12_17 : (fun q : (Nat × Nat) => MLok 12 q.1 q.2) (99, 206) := ⟨by decide, (mt7 _ (List.mem_of_getElem? (i := 184) (by decide +kernel)))⟩
theorem ml12_18 : (fun q : (Nat × Nat) => MLok 12 q.1 q.2) (234, 241) := ⟨by decide, (mt7 _ (List.mem_of_getElem? (i := 187) (by decide +kernel)))⟩
theorem ml12_19 : (fun q : (Nat × Nat) => MLok 12 q.1 q.2) (248, 244) := ⟨by decide, (mt7 _ (List.mem_of_getElem? (i := 191) (by decide +kernel)))⟩
theorem ml12_20 : (fun q : (Nat × Nat) => MLok 12 q.1 q.2) (241, 242) := ⟨by decide, (mt7 _ (List.mem_of_getElem? (i := 195) (by decide +kernel)))⟩
theorem ml12_21 : (fun q : (Nat × Nat) => MLok 12 q.1 q.2) (95, 195) := ⟨by decide, (mt7 _ (List.mem_of_getElem? (i := 199) (by decide +kernel)))⟩
theorem ml12_22 : (fun q : (Nat × Nat) => MLok 12 q.1 q.2) (158, 217) := ⟨by decide, (mt7 _ (List.mem_of_getElem? (i := 202) (by decide +kernel)))⟩
theorem ml12_23 : (fun q : (Nat × Nat) => MLok 12 q.1 q.2) (161, 218) := ⟨by decide, (mt7 _ (List.mem_of_getElem? (i := 206) (by decide +kernel)))⟩
theorem ml12_24 : (fun q : (Nat × Nat) => MLok 12 q.1 q.2) (164, 219) := ⟨by decide, (mt7 _ (List.mem_of_getElem? (i := 210) (by decide +kernel)))⟩
theorem ml12_25 : (fun q : (Nat × Nat) => MLok 12 q.1 q.2) (167, 220) := ⟨by decide, (mt7 _ (List.mem_of_getElem? (i := 214) (by decide +kernel)))⟩
theorem ml12_26 : (fun q : (Nat × Nat) => MLok 12 q.1 q.2) (296, 259) := ⟨by decide, (mt7 _ (List.mem_of_getElem? (i := 218) (by decide +kernel)))⟩
theorem ml12_27 : (fun q : (Nat × Nat) => MLok 12 q.1 q.2) (275, 255) := ⟨by decide, (mt7 _ (List.mem_of_getElem? (i := 222) (by decide +kernel)))⟩
theorem ml12_28 : (fun q : (Nat × Nat) => MLok 12 q.1 q.2) (260, 240) := ⟨by decide, (mt7 _ (List.mem_of_getElem? (i := 226) (by decide +kernel)))⟩
theorem ml12_29 : (fun q : (Nat × Nat) => MLok 12 q.1 q.2) (225, 239) := ⟨by decide, (mt7 _ (List.mem_of_getElem? (i := 230) (by decide +kernel)))⟩
theorem ml12_30 : (fun q : (Nat × Nat) => MLok 12 q.1 q.2) (170, 221) := ⟨by decide, (mt7 _ (List.mem_of_getElem? (i := 234) (by decide +kernel)))⟩
theorem ml12_31 : (fun q : (Nat × Nat) => MLok 12 q.1 q.2) (173, 222) := ⟨by decide, (mt7 _ (List.mem_of_getElem? (i := 238) (by decide +kernel)))⟩
theorem ml12_32 : (fun q : (Nat × Nat) => MLok 12 q.1 q.2) (176, 223) := ⟨by decide, (mt8 _ (List.mem_of_getElem? (i := 2) (by decide +kernel)))⟩
theorem ml12_33 : (fun q : (Nat × Nat) => MLok 12 q.1 q.2) (179, 224) := ⟨by decide, (mt8 _ (List.mem_of_getElem? (i := 6) (by decide +kernel)))⟩
theorem ml12_34 : (fun q : (Nat × Nat) => MLok 12 q.1 q.2) (182, 225) := ⟨by decide, (mt8 _ (List.mem_of_getElem? (i := 10) (by decide +kernel)))⟩
theorem ml12_35 : (fun q : (Nat × Nat) => MLok 12 q.1 q.2) (185, 226) := ⟨by decide, (mt8 _ (List.mem_of_getElem? (i := 14) (by decide +kernel)))⟩
theorem ml12_36 : (fun q : (Nat × Nat) => MLok 12 q.1 q.2) (188, 227) := ⟨by decide, (mt8 _ (List.mem_of_getElem? (i := 18) (by decide +kernel)))⟩
theorem ml12_37 : (fun q : (Nat × Nat) => MLok 12 q.1 q.2) (191, 228) := ⟨by decide, (mt8 _ (List.mem_of_getElem? (i := 22) (by decide +kernel)))⟩
theorem ml12_38 : (fun q : (Nat × Nat) => MLok 12 q.1 q.2) (194, 229) := ⟨by decide, (mt8 _ (List.mem_of_getElem? (i := 26) (by decide +kernel)))⟩
theorem ml12_39 : (fun q : (Nat × Nat) => MLok 12 q.1 q.2) (197, 230) := ⟨by decide, (mt8 _ (List.mem_of_getElem? (i := 30) (by decide +kernel)))⟩
theorem ml12_40 : (fun q : (Nat × Nat) => MLok 12 q.1 q.2) (200, 231) := ⟨by decide, (mt8 _ (List.mem_of_getElem? (i := 34) (by decide +kernel)))⟩
theorem ml12_41 : (fun q : (Nat × Nat) => MLok 12 q.1 q.2) (203, 232) := ⟨by decide, (mt8 _ (List.mem_of_getElem? (i := 38) (by decide +kernel)))⟩
theorem ml12_42 : (fun q : (Nat × Nat) => MLok 12 q.1 q.2) (206, 233) := ⟨by decide, (mt8 _ (List.mem_of_getElem? (i := 43) (by decide +kernel)))⟩
theorem ml12_43 : (fun q : (Nat × Nat) => MLok 12 q.1 q.2) (209, 234) := ⟨by decide, (mt8 _ (List.mem_of_getElem? (i := 47) (by decide +kernel)))⟩
theorem ml12_44 : (fun q : (Nat × Nat) => MLok 12 q.1 q.2) (212, 235) := ⟨by decide, (mt8 _ (List.mem_of_getElem? (i := 51) (by decide +kernel)))⟩
theorem ml12_45 : (fun q : (Nat × Nat) => MLok 12 q.1 q.2) (215, 236) := ⟨by decide, (mt8 _ (List.mem_of_getElem? (i := 55) (by decide +kernel)))⟩
theorem ml12_46 : (fun q : (Nat × Nat) => MLok 12 q.1 q.2) (219, 237) := ⟨by decide, (mt8 _ (List.mem_of_getElem? (i := 59) (by decide +kernel)))⟩
theorem ml12_47 : (fun q : (Nat × Nat) => MLok 12 q.1 q.2) (222, 238) := ⟨by decide, (mt8 _ (List.mem_of_getElem? (i := 65) (by decide +kernel)))⟩
theorem ml12_48 : (fun q : (Nat × Nat) => MLok 12 q.1 q.2) (263, 254) := ⟨by decide, (mt8 _ (List.mem_of_getElem? (i := 69) (by decide +kernel)))⟩
theorem ml12_49 : (fun q : (Nat × Nat) => MLok 12 q.1 q.2) (257, 253) := ⟨by decide, (mt8 _ (List.mem_of_getElem? (i := 73) (by decide +kernel)))⟩
theorem ml12_50 : (fun q : (Nat × Nat) => MLok 12 q.1 q.2) (299, 260) := ⟨by decide, (mt8 _ (List.mem_of_getElem? (i := 77) (by decide +kernel)))⟩
theorem ml12_51 : (fun q : (Nat × Nat) => MLok 12 q.1 q.2) (244, 243) := ⟨by decide, (mt8 _ (List.mem_of_getElem? (i := 81) (by decide +kernel)))⟩
theorem ml12_52 : (fun q : (Nat × Nat) => MLok 12 q.1 q.2) (278, 257) := ⟨by decide, (mt8 _ (List.mem_of_getElem? (i := 85) (by decide +kernel)))⟩
theorem ml12_53 : (fun q : (Nat × Nat) => MLok 12 q.1 q.2) (269, 256) := ⟨by decide, (mt8 _ (List.mem_of_getElem? (i := 89) (by decide +kernel)))⟩
theorem ml12_54 : (fun q : (Nat × Nat) => MLok 12 q.1 q.2) (281, 245) := ⟨by decide, (mt8 _ (List.mem_of_getElem? (i := 94) (by decide +kernel)))⟩
theorem ml12_55 : (fun q : (Nat × Nat) => MLok 12 q.1 q.2) (285, 246) := ⟨by decide, (mt8 _ (List.mem_of_getElem? (i := 98) (by decide +kernel)))⟩
theorem ml12_56 : (fun q : (Nat × Nat) => MLok 12 q.1 q.2) (302, 261) := ⟨by decide, (mt8 _ (List.mem_of_getElem? (i := 102) (by decide +kernel)))⟩
theorem ml12_57 : (fun q : (Nat × Nat) => MLok 12 q.1 q.2) (305, 263) := ⟨by decide, (mt8 _ (List.mem_of_getElem? (i := 106) (by decide +kernel)))⟩
theorem ml12_58 : (fun q : (Nat × Nat) => MLok 12 q.1 q.2) (289, 262) := ⟨by decide, (mt8 _ (List.mem_of_getElem? (i := 110) (by decide +kernel)))⟩
theorem ml12_59 : (fun q : (Nat × Nat) => MLok 12 q.1 q.2) (308, 264) := ⟨by decide, (mt8 _ (List.mem_of_getElem? (i := 114) (by decide +kernel)))⟩
theorem ml12_60 : (fun q : (Nat × Nat) => MLok 12 q.1 q.2) (317, 213) := ⟨by decide, (mt8 _ (List.mem_of_getElem? (i := 118) (by decide +kernel)))⟩
theorem ml12_61 : (fun q : (Nat × Nat) => MLok 12 q.1 q.2) (320, 250) := ⟨by decide, (mt8 _ (List.mem_of_getElem? (i := 122) (by decide +kernel)))⟩
theorem ml12_62 : (fun q : (Nat × Nat) => MLok 12 q.1 q.2) (323, 366) := ⟨by decide, (mt8 _ (List.mem_of_getElem? (i := 126) (by decide +kernel)))⟩
theorem ml12_63 : (fun q : (Nat × Nat) => MLok 12 q.1 q.2) (335, 269) := ⟨by decide, (mt8 _ (List.mem_of_getElem? (i := 134) (by decide +kernel)))⟩
theorem ml12_64 : (fun q : (Nat × Nat) => MLok 12 q.1 q.2) (332, 268) := ⟨by decide, (mt8 _ (List.mem_of_getElem? (i := 138) (by decide +kernel)))⟩
theorem ml12_65 : (fun q : (Nat × Nat) => MLok 12 q.1 q.2) (326, 267) := ⟨by decide, (mt8 _ (List.mem_of_getElem? (i := 142) (by decide +kernel)))⟩
theorem ml12_66 : (fun q : (Nat × Nat) => MLok 12 q.1 q.2) (361, 193) := ⟨by decide, (mt8 _ (List.mem_of_getElem? (i := 151) (by decide +kernel)))⟩
theorem ml12_67 : (fun q : (Nat × Nat) => MLok 12 q.1 q.2) (364, 284) := ⟨by decide, (mt8 _ (List.mem_of_getElem? (i := 155) (by decide +kernel)))⟩
theorem ml12_68 : (fun q : (Nat × Nat) => MLok 12 q.1 q.2) (344, 277) := ⟨by decide, (mt8 _ (List.mem_of_getElem? (i := 159) (by decide +kernel)))⟩
theorem ml12_69 : (fun q : (Nat × Nat) => MLok 12 q.1 q.2) (341, 276) := ⟨by decide, (mt8 _ (List.mem_of_getElem? (i := 163) (by decide +kernel)))⟩
theorem ml12_70 : (fun q : (Nat × Nat) => MLok 12 q.1 q.2) (338, 275) := ⟨by decide, (mt8 _ (List.mem_of_getElem? (i := 167) (by decide +kernel)))⟩
theorem ml12_71 : (fun q : (Nat × Nat) => MLok 12 q.1 q.2) (367, 283) := ⟨by decide, (mt8 _ (List.mem_of_getElem? (i := 171) (by decide +kernel)))⟩
theorem ml12_72 : (fun q : (Nat × Nat) => MLok 12 q.1 q.2) (356, 282) := ⟨by decide, (mt8 _ (List.mem_of_getElem? (i := 175) (by decide +kernel)))⟩
theorem ml12_73 : (fun q : (Nat × Nat) => MLok 12 q.1 q.2) (353, 279) := ⟨by decide, (mt8 _ (List.mem_of_getElem? (i := 179) (by decide +kernel)))⟩
theorem ml12_74 : (fun q : (Nat × Nat) => MLok 12 q.1 q.2) (350, 278) := ⟨by decide, (mt8 _ (List.mem_of_getElem? (i := 183) (by decide +kernel)))⟩
theorem ml12_75 : (fun q : (Nat × Nat) => MLok 12 q.1 q.2) (370, 280) := ⟨by decide, (mt8 _ (List.mem_of_getElem? (i := 188) (by decide +kernel)))⟩
theorem ml12_76 : (fun q : (Nat × Nat) => MLok 12 q.1 q.2) (373, 272) := ⟨by decide, (mt8 _ (List.mem_of_getElem? (i := 196) (by decide +kernel)))⟩
theorem ml12_77 : (fun q : (Nat × Nat) => MLok 12 q.1 q.2) (378, 273) := ⟨by decide, (mt8 _ (List.mem_of_getElem? (i := 205) (by decide +kernel)))⟩
theorem ml12_78 : (fun q : (Nat × Nat) => MLok 12 q.1 q.2) (381, 274) := ⟨by decide, (mt8 _ (List.mem_of_getElem? (i := 213) (by decide +kernel)))⟩
theorem ml12_79 : (fun q : (Nat × Nat) => MLok 12 q.1 q.2) (384, 271) := ⟨by decide, (mt8 _ (List.mem_of_getElem? (i := 225) (by decide +kernel)))⟩
theorem ml12_80 : (fun q : (Nat × Nat) => MLok 12 q.1 q.2) (387, 291) := ⟨by decide, (mt8 _ (List.mem_of_getElem? (i := 233) (by decide +kernel)))⟩
theorem ml12_81 : (fun q : (Nat × Nat) => MLok 12 q.1 q.2) (390, 281) := ⟨by decide, (mt9 _ (List.mem_of_getElem? (i := 1) (by decide +kernel)))⟩
theorem ml12_82 : (fun q : (Nat × Nat) => MLok 12 q.1 q.2) (393, 205) := ⟨by decide, (mt9 _ (List.mem_of_getElem? (i := 17) (by decide +kernel)))⟩
theorem ml12_83 : (fun q : (Nat × Nat) => MLok 12 q.1 q.2) (401, 298) := ⟨by decide, (mt9 _ (List.mem_of_getElem? (i := 27) (by decide +kernel)))⟩
theorem ml12_84 : (fun q : (Nat × Nat) => MLok 12 q.1 q.2) (396, 297) := ⟨by decide, (mt9 _ (List.mem_of_getElem? (i := 31) (by decide +kernel)))⟩
theorem ml12_85 : (fun q : (Nat × Nat) => MLok 12 q.1 q.2) (406, 301) := ⟨by decide, (mt9 _ (List.mem_of_getElem? (i := 44) (by decide +kernel)))⟩
theorem ml12_86 : (fun q : (Nat × Nat) => MLok 12 q.1 q.2) (409, 207) := ⟨by decide, (mt9 _ (List.mem_of_getElem? (i := 48) (by decide +kernel)))⟩
theorem ml12_87 : (fun q : (Nat × Nat) => MLok 12 q.1 q.2) (418, 307) := ⟨by decide, (mt9 _ (List.mem_of_getElem? (i := 72) (by decide +kernel)))⟩
theorem ml12_88 : (fun q : (Nat × Nat) => MLok 12 q.1 q.2) (421, 313) := ⟨by decide, (mt9 _ (List.mem_of_getElem? (i := 89) (by decide +kernel)))⟩
theorem ml12_89 : (fun q : (Nat × Nat) => MLok 12 q.1 q.2) (424, 311) := ⟨by decide, (mt9 _ (List.mem_of_getElem? (i := 92) (by decide +kernel)))⟩
theorem ml12_90 : (fun q : (Nat × Nat) => MLok 12 q.1 q.2) (427, 312) := ⟨by decide, (mt9 _ (List.mem_of_getElem? (i := 96) (by decide +kernel)))⟩
theorem ml12_91 : (fun q : (Nat × Nat) => MLok 12 q.1 q.2) (433, 317) := ⟨by decide, (mt9 _ (List.mem_of_getElem? (i := 108) (by decide +kernel)))⟩
theorem ml12_92 : (fun q : (Nat × Nat) => MLok 12 q.1 q.2) (430, 316) := ⟨by decide, (mt9 _ (List.mem_of_getElem? (i := 112) (by decide +kernel)))⟩
theorem ml12_93 : (fun q : (Nat × Nat) => MLok 12 q.1 q.2) (445, 325) := ⟨by decide, (mt9 _ (List.mem_of_getElem? (i := 132) (by decide +kernel)))⟩
theorem ml12_94 : (fun q : (Nat × Nat) => MLok 12 q.1 q.2) (436, 323) := ⟨by decide, (mt9 _ (List.mem_of_getElem? (i := 136) (by decide +kernel)))⟩
theorem ml12_95 : (fun q : (Nat × Nat) => MLok 12 q.1 q.2) (439, 324) := ⟨by decide, (mt9 _ (List.mem_of_getElem? (i := 140) (by decide +kernel)))⟩
theorem ml12_96 : (fun q : (Nat × Nat) => MLok 12 q.1 q.2) (442, 322) := ⟨by decide, (mt9 _ (List.mem_of_getElem? (i := 144) (by decide +kernel)))⟩
theorem ml12_97 : (fun q : (Nat × Nat) => MLok 12 q.1 q.2) (456, 332) := ⟨by decide, (mt9 _ (List.mem_of_getElem? (i := 168) (by decide +kernel)))⟩
theorem ml12_98 : (fun q : (Nat × Nat) => MLok 12 q.1 q.2) (449, 331) := ⟨by decide, (mt9 _ (List.mem_of_getElem? (i := 172) (by decide +kernel)))⟩
theorem ml12_99 : (fun q : (Nat × Nat) => MLok 12 q.1 q.2) (459, 335) := ⟨by decide, (mt9 _ (List.mem_of_getElem? (i := 184) (by decide +kernel)))⟩
theorem ml12_100 : (fun q : (Nat × Nat) => MLok 12 q.1 q.2) (462, 338) := ⟨by decide, (mt9 _ (List.mem_of_getElem? (i := 196) (by decide +kernel)))⟩
theorem ml12_101 : (fun q : (Nat × Nat) => MLok 12 q.1 q.2) (465, 196) := ⟨by decide, (mt9 _ (List.mem_of_getElem? (i := 204) (by decide +kernel)))⟩
theorem ml12_102 : (fun q : (Nat × Nat) => MLok 12 q.1 q.2) (482, 344) := ⟨by decide, (mt9 _ (List.mem_of_getElem? (i := 227) (by decide +kernel)))⟩
theorem ml12_103 : (fun q : (Nat × Nat) => MLok 12 q.1 q.2) (485, 346) := ⟨by decide, (mt9 _ (List.mem_of_getElem? (i := 231) (by decide +kernel)))⟩
theorem ml12_104 : (fun q : (Nat × Nat) => MLok 12 q.1 q.2) (479, 345) := ⟨by decide, (mt9 _ (List.mem_of_getElem? (i := 235) (by decide +kernel)))⟩
theorem ml12_105 : (fun q : (Nat × Nat) => MLok 12 q.1 q.2) (469, 204) := ⟨by decide, (mt9 _ (List.mem_of_getElem? (i := 239) (by decide +kernel)))⟩
theorem ml12_106 : (fun q : (Nat × Nat) => MLok 12 q.1 q.2) (491, 350) := ⟨by decide, (mt10 _ (List.mem_of_getElem? (i := 15) (by decide +kernel)))⟩
theorem ml12_107 : (fun q : (Nat × Nat) => MLok 12 q.1 q.2) (494, 352) := ⟨by decide, (mt10 _ (List.mem_of_getElem? (i := 19) (by decide +kernel)))⟩
theorem ml12_108 : (fun q : (Nat × Nat) => MLok 12 q.1 q.2) (488, 351) := ⟨by decide, (mt10 _ (List.mem_of_getElem? (i := 23) (by decide +kernel)))⟩
theorem ml12_109 : (fun q : (Nat × Nat) => MLok 12 q.1 q.2) (546, 362) := ⟨by decide, (mt10 _ (List.mem_of_getElem? (i := 36) (by decide +kernel)))⟩
theorem ml12_110 : (fun q : (Nat × Nat) => MLok 12 q.1 q.2) (538, 361) := ⟨by decide, (mt10 _ (List.mem_of_getElem? (i := 40) (by decide +kernel)))⟩
theorem ml12_111 : (fun q : (Nat × Nat) => MLok 12 q.1 q.2) (541, 360) := ⟨by decide, (mt10 _ (List.mem_of_getElem? (i := 44) (by decide +kernel)))⟩
theorem ml12_112 : (fun q : (Nat × Nat) => MLok 12 q.1 q.2) (532, 358) := ⟨by decide, (mt10 _ (List.mem_of_getElem? (i := 48) (by decide +kernel)))⟩
theorem ml12_113 : (fun q : (Nat × Nat) => MLok 12 q.1 q.2) (510, 356) := ⟨by decide, (mt10 _ (List.mem_of_getElem? (i := 52) (by decide +kernel)))⟩
theorem ml12_114 : (fun q : (Nat × Nat) => MLok 12 q.1 q.2) (513, 357) := ⟨by decide, (mt10 _ (List.mem_of_getElem? (i := 56) (by decide +kernel)))⟩
theorem ml12_115 : (fun q : (Nat × Nat) => MLok 12 q.1 q.2) (507, 355) := ⟨by decide, (mt10 _ (List.mem_of_getElem? (i := 60) (by decide +kernel)))⟩
theorem ml12_116 : (fun q : (Nat × Nat) => MLok 12 q.1 q.2) (535, 359) := ⟨by decide, (mt10 _ (List.mem_of_getElem? (i := 65) (by decide +kernel)))⟩
theorem ml12_ok : ∀ q ∈ ml12, MLok 12 q.1 q.2 := List.forall_mem_cons.mpr ⟨ml12_0, List.forall_mem_cons.mpr ⟨ml12_1, List.forall_mem_cons.mpr ⟨ml12_2, List.forall_mem_cons.mpr ⟨ml12_3, List.forall_mem_cons.mpr ⟨ml12_4, List.forall_mem_cons.mpr ⟨ml12_5, List.forall_mem_cons.mpr ⟨ml12_6, List.forall_mem_cons.mpr ⟨ml12_7, List.forall_mem_cons.mpr ⟨ml12_8, List.forall_mem_cons.mpr ⟨ml12_9, List.forall_mem_cons.mpr ⟨ml12_10, List.forall_mem_cons.mpr ⟨ml12_11, List.forall_mem_cons.mpr ⟨ml12_12, List.forall_mem_cons.mpr ⟨ml12_13, List.forall_mem_cons.mpr ⟨ml12_14, List.forall_mem_cons.mpr ⟨ml12_15, List.forall_mem_cons.mpr ⟨ml12_16, List.forall_mem_cons.mpr ⟨ml12_17, List.forall_mem_cons.mpr ⟨ml12_18, List.forall_mem_cons.mpr ⟨ml12_19, List.forall_mem_cons.mpr ⟨ml12_20, List.forall_mem_cons.mpr ⟨ml12_21, List.forall_mem_cons.mpr ⟨ml12_22, List.forall_mem_cons.mpr ⟨ml12_23, List.forall_mem_cons.mpr ⟨ml12_24, List.forall_mem_cons.mpr ⟨ml12_25, List.forall_mem_cons.mpr ⟨ml12_26, List.forall_mem_cons.mpr ⟨ml12_27, List.forall_mem_cons.mpr ⟨ml12_28, List.forall_mem_cons.mpr ⟨ml12_29, List.forall_mem_cons.mpr ⟨ml12_30, List.forall_mem_cons.mpr ⟨ml12_31, List.forall_mem_cons.mpr ⟨ml12_32, List.forall_mem_cons.mpr ⟨ml12_33, List.forall_mem_cons.mpr ⟨ml12_34, List.forall_mem_cons.mpr ⟨ml12_35, List.forall_mem_cons.mpr ⟨ml12_36, List.forall_mem_cons.mpr ⟨ml12_37, List.forall_mem_cons.mpr ⟨ml12_38, List.forall_mem_cons.mpr ⟨ml12_39, List.forall_mem_cons.mpr ⟨ml12_40, List.forall_mem_cons.mpr ⟨ml12_41, List.forall_mem_cons.mpr ⟨ml12_42, List.forall_mem_cons.mpr ⟨ml12_43, List.forall_mem_cons.mpr ⟨ml12_44, List.forall_mem_cons.mpr ⟨ml12_45, List.forall_mem_cons.mpr ⟨ml12_46, List.forall_mem_cons.mpr ⟨ml12_47, List.forall_mem_cons.mpr ⟨ml12_48, List.forall_mem_cons.mpr ⟨ml12_49, List.forall_mem_cons.mpr ⟨ml12_50, List.forall_mem_cons.mpr ⟨ml12_51, List.forall_mem_cons.mpr ⟨ml12_52, List.forall_mem_cons.mpr ⟨ml12_53, List.forall_mem_cons.mpr ⟨ml12_54, List.forall_mem_cons.mpr ⟨ml12_55, List.forall_mem_cons.mpr ⟨ml12_56, List.forall_mem_cons.mpr ⟨ml12_57, List.forall_mem_cons.mpr ⟨ml12_58, List.forall_mem_cons.mpr ⟨ml12_59, List.forall_mem_cons.mpr ⟨ml12_60, List.forall_mem_cons.mpr ⟨ml12_61, List.forall_mem_cons.mpr ⟨ml12_62, List.forall_mem_cons.mpr ⟨ml12_63, List.forall_mem_cons.mpr ⟨ml12_64, List.forall_mem_cons.mpr ⟨ml12_65, List.forall_mem_cons.mpr ⟨ml12_66, List.forall_mem_cons.mpr ⟨ml12_67, List.forall_mem_cons.mpr ⟨ml12_68, List.forall_mem_cons.mpr ⟨ml12_69, List.forall_mem_cons.mpr ⟨ml12_70, List.forall_mem_cons.mpr ⟨ml12_71, List.forall_mem_cons.mpr ⟨ml12_72, List.forall_mem_cons.mpr ⟨ml12_73, List.forall_mem_cons.mpr ⟨ml12_74, List.forall_mem_cons.mpr ⟨ml12_75, List.forall_mem_cons.mpr ⟨ml12_76, List.forall_mem_cons.mpr ⟨ml12_77, List.forall_mem_cons.mpr ⟨ml12_78, List.forall_mem_cons.mpr ⟨ml12_79, List.forall_mem_cons.mpr ⟨ml12_80, List.forall_mem_cons.mpr ⟨ml12_81, List.forall_mem_cons.mpr ⟨ml12_82, List.forall_mem_cons.mpr ⟨ml12_83, List.forall_mem_cons.mpr ⟨ml12_84, List.forall_mem_cons.mpr ⟨ml12_85, List.forall_mem_cons.mpr ⟨ml12_86, List.forall_mem_cons.mpr ⟨ml12_87, List.forall_mem_cons.mpr ⟨ml12_88, List.forall_mem_cons.mpr ⟨ml12_89, List.forall_mem_cons.mpr ⟨ml12_90, List.forall_mem_cons.mpr ⟨ml12_91, List.forall_mem_cons.mpr ⟨ml12_92, List.forall_mem_cons.mpr ⟨ml12_93, List.forall_mem_cons.mpr ⟨ml12_94, List.forall_mem_cons.mpr ⟨ml12_95, List.forall_mem_cons.mpr ⟨ml12_96, List.forall_mem_cons.mpr ⟨ml12_97, List.forall_mem_cons.mpr ⟨ml12_98, List.forall_mem_cons.mpr ⟨ml12_99, List.forall_mem_cons.mpr ⟨ml12_100, List.forall_mem_cons.mpr ⟨ml12_101, List.forall_mem_cons.mpr ⟨ml12_102, List.forall_mem_cons.mpr ⟨ml12_103, List.forall_mem_cons.mpr ⟨ml12_104, List.forall_mem_cons.mpr ⟨ml12_105, List.forall_mem_cons.mpr ⟨ml12_106, List.forall_mem_cons.mpr ⟨ml12_107, List.forall_mem_cons.mpr ⟨ml12_108, List.forall_mem_cons.mpr ⟨ml12_109, List.forall_mem_cons.mpr ⟨ml12_110, List.forall_mem_cons.mpr ⟨ml12_111, List.forall_mem_cons.mpr ⟨ml12_112, List.forall_mem_cons.mpr ⟨ml12_113, List.forall_mem_cons.mpr ⟨ml12_114, List.forall_mem_cons.mpr ⟨ml12_115, List.forall_mem_cons.mpr ⟨ml12_116, fun _ h => absurd h List.not_mem_nil⟩⟩⟩⟩⟩⟩⟩⟩⟩⟩⟩⟩⟩⟩⟩⟩⟩⟩⟩⟩⟩⟩⟩⟩⟩⟩⟩⟩⟩⟩⟩⟩⟩⟩⟩⟩⟩⟩⟩⟩⟩⟩⟩⟩⟩⟩⟩⟩⟩⟩⟩⟩⟩⟩⟩⟩⟩⟩⟩⟩⟩⟩⟩⟩⟩⟩⟩⟩⟩⟩⟩⟩⟩⟩⟩⟩⟩⟩⟩⟩⟩⟩⟩⟩⟩⟩⟩⟩⟩⟩⟩⟩⟩⟩⟩⟩⟩⟩⟩⟩⟩⟩⟩⟩⟩⟩⟩⟩⟩⟩⟩⟩⟩⟩⟩⟩⟩
def ml13 : List (Nat × Nat) := []
theorem ml13_ok : ∀ q ∈ ml13, MLok 13 q.1 q.2 := fun _ h => absurd h List.not_mem_nil
def ml14 : List (Nat × Nat) := []
theorem ml14_ok : ∀ q ∈ ml14, MLok 14 q.1 q.2 := fun _ h => absurd h List.not_mem_nil
def ml15 : List (Nat × Nat) := [(9, 106), (13, 107), (18, 108), (23, 109), (27, 127), (34, 128), (39, 129), (44, 130), (49, 131), (54, 132), (59, 133), (63, 134), (67, 135), (71, 138), (76, 139), (80, 140), (84, 141), (88, 142), (92, 143), (96, 144), (100, 145), (104, 146), (108, 147), (112, 148), (116, 149), (121, 150), (125, 151), (130, 152), (134, 153), (138, 154), (142, 155), (146, 156), (150, 157), (154, 158), (158, 159), (162, 160), (166, 161), (170, 162), (174, 163), (178, 164), (182, 165), (186, 166), (190, 167), (194, 168), (198, 170), (203, 171), (207, 172), (211, 173), (215, 174), (219, 175), (224, 176), (228, 177), (232, 178), (236, 179), (240, 180), (244, 181), (248, 182), (253, 183), (257, 184), (261, 185), (265, 186), (269, 187), (273, 188), (12, 189), (17, 190), (22, 191), (26, 192), (31, 198), (38, 201), (43, 202), (48, 203), (53, 247), (66, 251), (58, 266), (62, 270), (70, 285), (75, 286), (79, 287), (83, 288), (87, 289), (91, 290), (95, 292), (99, 293), (103, 294), (107, 295), (111, 296), (115, 299), (120, 300), (124, 302), (129, 303), (133, 304), (137, 305), (141, 306), (145, 308), (149, 309), (153, 310), (157, 314), (161, 315), (165, 318), (169, 319), (177, 320), (173, 321), (181, 326), (185, 327), (189, 328), (193, 329), (197, 330), (202, 333), (206, 334), (210, 336), (214, 337), (218, 339), (223, 340), (227, 341), (231, 342), (235, 343), (239, 347), (243, 348), (247, 349), (252, 353), (256, 354), (260, 363), (264, 364), (268, 365), (272, 367), (276, 368)]
theorem ml15_0 : (fun q : (Nat × Nat) => MLok 15 q.1 q.2) (9, 106) := ⟨by decide, (mt1 _ (List.mem_of_getElem? (i := 24) (by decide +kernel)))⟩
theorem ml15_1 : (fun q : (Nat × Nat) => MLok 15 q.1 q.2) (13, 107) := ⟨by decide, (mt3 _ (List.mem_of_getElem? (i := 120) (by decide +kernel)))⟩
theorem ml15_2 : (fun q : (Nat × Nat) => MLok 15 q.1 q.2) (18, 108) := ⟨by decide, (mt3 _ (List.mem_of_getElem? (i := 124) (by decide +kernel)))⟩
theorem ml15_3 : (fun q : (Nat × Nat) => MLok 15 q.1 q.2) (23, 109) := ⟨by decide, (mt3 _ (List.mem_of_getElem? (i := 128) (by decide +kernel)))⟩
theorem ml15_4 : (fun q : (Nat × Nat) => MLok 15 q.1 q.2) (27, 127) := ⟨by decide, (mt3 _ (List.mem_of_getElem? (i := 132) (by decide +kernel)))⟩
theorem ml15_5 : (fun q : (Nat × Nat) => MLok 15 q.1 q.2) (34, 128) := ⟨by decide, (mt3 _ (List.mem_of_getElem? (i := 157) (by decide +kernel)))⟩
theorem ml15_6 : (fun q : (Nat × Nat) => MLok 15 q.1 q.2) (39, 129) := ⟨by decide, (mt3 _ (List.mem_of_getElem? (i := 181) (by decide +kernel)))⟩
theorem ml15_7 : (fun q : (Nat × Nat) => MLok 15 q.1 q.2) (44, 130) := ⟨by decide, (mt3 _ (List.mem_of_getElem? (i := 189) (by decide +kernel)))⟩
theorem ml15_8 : (fun q : (Nat × Nat) => MLok 15 q.1 q.2) (49, 131) := ⟨by decide, (mt3 _ (List.mem_of_getElem? (i := 198) (by decide +kernel)))⟩
theorem ml15_9 : (fun q : (Nat × Nat) => MLok 15 q.1 q.2) (54, 132) := ⟨by decide, (mt3 _ (List.mem_of_getElem? (i := 210) (by decide +kernel)))⟩
theorem ml15_10 : (fun q : (Nat × Nat) => MLok 15 q.1 q.2) (59, 133) := ⟨by decide, (mt4 _ (List.mem_of_getElem? (i := 137) (by decide +kernel)))⟩
theorem ml15_11 : (fun q : (Nat × Nat) => MLok 15 q.1 q.2) (63, 134) := ⟨by decide, (mt4 _ (List.mem_of_getElem? (i := 187) (by decide +kernel)))⟩
theorem ml15_12 : (fun q : (Nat × Nat) => MLok 15 q.1 q.2) (67, 135) := ⟨by decide, (mt4 _ (List.mem_of_getElem? (i := 191) (by decide +kernel)))⟩
theorem ml15_13 : (fun q : (Nat × Nat) => MLok 15 q.1 q.2) (71, 138) := ⟨by decide, (mt5 _ (List.mem_of_getElem? (i := 29) (by decide +kernel)))⟩
theorem ml15_14 : (fun q : (Nat × Nat) => MLok 15 q.1 q.2) (76, 139) := ⟨by decide, (mt5 _ (List.mem_of_getElem? (i := 41) (by decide +kernel)))⟩
theorem ml15_15 : (fun q : (Nat × Nat) => MLok 15 q.1 q.2) (80, 140) := ⟨by decide, (mt5 _ (List.mem_of_getElem? (i := 49) (by decide +kernel)))⟩
theorem ml15_16 : (fun q : (Nat × Nat) => MLok 15 q.1 q.2) (84, 141) := ⟨by decide, (mt5 _ (List.mem_of_getElem? (i := 53) (by decide +kernel)))⟩
theorem ml15_17 : (fun q : (Nat × Nat) => MLok 15 q.1 q.2) (88, 142) := ⟨by decide, (mt5 _ (List.mem_of_getElem? (i := 57) (by decide +kernel)))⟩
theorem ml15_18 : (fun q : (Nat × Nat) => MLok 15 q.1 q.2) (92, 143) := ⟨by decide, (mt5 _ (List.mem_of_getElem? (i := 65) (by decide +kernel)))⟩
theorem ml15_19 : (fun q : (Nat × Nat) => MLok 15 q.1 q.2) (96, 144) := ⟨by decide, (mt5 _ (List.mem_of_getElem? (i := 73) (by decide +kernel)))⟩
theorem ml15_20 : (fun q : (Nat × Nat) => MLok 15 q.1 q.2) (100, 145) := ⟨by decide, (mt5 _ (List.mem_of_getElem? (i := 81) (by decide +kernel)))⟩
theorem ml15_21 : (fun q : (Nat × Nat) => MLok 15 q.1 q.2) (104, 146) := ⟨by decide, (mt5 _ (List.mem_of_getElem? (i := 85) (by decide +kernel)))⟩
theorem ml15_22 : (fun q : (Nat × Nat) => MLok 15 q.1 q.2) (108, 147) := ⟨by decide, (mt5 _ (List.mem_of_getElem? (i := 90) (by decide +kernel)))⟩
theorem ml15_23 : (fun q : (Nat × Nat) => MLok 15 q.1 q.2) (112, 148) := ⟨by decide, (mt5 _ (List.mem_of_getElem? (i := 94) (by decide +kernel)))⟩
theorem ml15_24 : (fun q : (Nat × Nat) => MLok 15 q.1 q.2) (116, 149) := ⟨by decide, (mt5 _ (List.mem_of_getElem? (i := 121) (by decide +kernel)))⟩
theorem ml15_25 : (fun q : (Nat × Nat) => MLok 15 q.1 q.2) (121, 150) := ⟨by decide, (mt5 _ (List.mem_of_getElem? (i := 126) (by decide +kernel)))⟩
theorem ml15_26 : (fun q : (Nat × Nat) => MLok 15 q.1 q.2) (125, 151) := ⟨by decide, (mt5 _ (List.mem_of_getElem? (i := 140) (by decide +kernel)))⟩
theorem ml15_27 : (fun q : (Nat × Nat) => MLok 15 q.1 q.2) (130, 152) := ⟨by decide, (mt5 _ (List.mem_of_getElem? (i := 144) (by decide +kernel)))⟩
theorem ml15_28 : (fun q : (Nat × Nat) => MLok 15 q.1 q.2) (134, 153) := ⟨by decide, (mt5 _ (List.mem_of_getElem? (i := 148) (by decide +kernel)))⟩
theorem ml15_29 : (fun q : (Nat × Nat) => MLok 15 q.1 q.2) (138, 154) := ⟨by decide, (mt5 _ (List.mem_of_getElem? (i := 152) (by decide +kernel)))⟩
theorem ml15_30 : (fun q : (Nat × Nat) => MLok 15 q.1 q.2) (142, 155) := ⟨by decide, (mt5 _ (List.mem_of_getElem? (i := 156) (by decide +kernel)))⟩
theorem ml15_31 : (fun q : (Nat × Nat) => MLok 15 q.1 q.2) (146, 156) := ⟨by decide, (mt5 _ (List.mem_of_getElem? (i := 162) (by decide +kernel)))⟩
theorem ml15_32 : (fun q : (Nat × Nat) => MLok 15 q.1 q.2) (150, 157) := ⟨by decide, (mt5 _ (List.mem_of_getElem? (i := 166) (by decide +kernel)))⟩
theorem ml15_33 : (fun q : (Nat × Nat) => MLok 15 q.1 q.2) (154, 158) := ⟨by decide, (mt5 _ (List.mem_of_getElem? (i := 170) (by decide +kernel)))⟩
theorem ml15_34 : (fun q : (Nat × Nat) => MLok 15 q.1 q.2) (158, 159) := ⟨by decide, (mt5 _ (List.mem_of_getElem? (i := 175) (by decide +kernel)))⟩
theorem ml15_35 : (fun q : (Nat × Nat) => MLok 15 q.1 q.2) (162, 160) := ⟨by decide, (mt5 _ (List.mem_of_getElem? (i := 179) (by decide +kernel)))⟩
theorem ml15_36 : (fun q : (Nat × Nat) => MLok 15 q.1 q.2) (166, 161) := ⟨by decide, (mt5 _ (List.mem_of_getElem? (i := 183) (by decide +kernel)))⟩
theorem ml15_37 : (fun q : (Nat × Nat) => MLok 15 q.1 q.2) (170, 162) := ⟨by decide, (mt5 _ (List.mem_of_getElem? (i := 187) (by decide +kernel)))⟩
theorem ml15_38 : (fun q : (Nat × Nat) => MLok 15 q.1 q.2) (174, 163) := ⟨by decide, (mt5 _ (List.mem_of_getElem? (i := 191) (by decide +kernel)))⟩
theorem ml15_39 : (fun q : (Nat × Nat) => MLok 15 q.1 q.2) (178, 164) := ⟨by decide, (mt5 _ (List.mem_of_getElem? (i := 195) (by decide +kernel)))⟩
theorem ml15_40 : (fun q : (Nat × Nat) => MLok 15 q.1 q.2) (182, 165) := ⟨by decide, (mt5 _ (List.mem_of_getElem? (i := 221) (by decide +kernel)))⟩
theorem ml15_41 : (fun q : (Nat × Nat) => MLok 15 q.1 q.2) (186, 166) := ⟨by decide, (mt5 _ (List.mem_of_getElem? (i := 225) (by decide +kernel)))⟩
theorem ml15_42 : (fun q : (Nat × Nat) => MLok 15 q.1 q.2) (190, 167) := ⟨by decide, (mt5 _ (List.mem_of_getElem? (i := 230) (by decide +kernel)))⟩
theorem ml15_43 : (fun q : (Nat × Nat) => MLok 15 q.1 q.2) (194, 168) := ⟨by decide, (mt5 _ (List.mem_of_getElem? (i := 234) (by decide +kernel)))⟩
theorem ml15_44 : (fun q : (Nat × Nat) => MLok 15 q.1 q.2) (198, 170) := ⟨by decide, (mt5 _ (List.mem_of_getElem? (i := 239) (by decide +kernel)))⟩
theorem ml15_45 : (fun q : (Nat × Nat) => MLok 15 q.1 q.2) (203, 171) := ⟨by decide, (mt6 _ (List.mem_of_getElem? (i := 20) (by decide +kernel)))⟩
theorem ml15_46 : (fun q : (Nat × Nat) => MLok 15 q.1 q.2) (207, 172) := ⟨by decide, (mt6 _ (List.mem_of_getElem? (i := 24) (by decide +kernel)))⟩
theorem ml15_47 : (fun q : (Nat × Nat) => MLok 15 q.1 q.2) (211, 173) := ⟨by decide, (mt6 _ (List.mem_of_getElem? (i := 33) (by decide +kernel)))⟩
theorem ml15_48 : (fun q : (Nat × Nat) => MLok 15 q.1 q.2) (215, 174) := ⟨by decide, (mt6 _ (List.mem_of_getElem? (i := 37) (by decide +kernel)))⟩
theorem ml15_49 : (fun q : (Nat × Nat) => MLok 15 q.1 q.2) (219, 175) := ⟨by decide, (mt6 _ (List.mem_of_getElem? (i := 46) (by decide +kernel)))⟩
theorem ml15_50 : (fun q : (Nat × Nat) => MLok 15 q.1 q.2) (224, 176) := ⟨by decide, (mt6 _ (List.mem_of_getElem? (i := 57) (by decide +kernel)))⟩
theorem ml15_51 : (fun q : (Nat × Nat) => MLok 15 q.1 q.2) (228, 177) := ⟨by decide, (mt6 _ (List.mem_of_getElem? (i := 65) (by decide +kernel)))⟩
theorem ml15_52 : (fun q : (Nat × Nat) => MLok 15 q.1 q.2) (232, 178) := ⟨by decide, (mt6 _ (List.mem_of_getElem? (i := 70) (by decide +kernel)))⟩
theorem ml15_53 : (fun q : (Nat × Nat) => MLok 15 q.1 q.2) (236, 179) := ⟨by decide, (mt6 _ (List.mem_of_getElem? (i := 74) (by decide +kernel)))⟩
theorem ml15_54 : (fun q : (Nat × Nat) => MLok 15 q.1 q.2) (240, 180) := ⟨by decide, (mt6 _ (List.mem_of_getElem? (i := 94) (by decide +kernel)))⟩
theorem ml15_55 : (fun q : (Nat × Nat) => MLok 15 q.1 q.2) (244, 181) := ⟨by decide, (mt6 _ (List.mem_of_getElem? (i := 98) (by decide +kernel)))⟩
theorem ml15_56 : (fun q : (Nat × Nat) => MLok 15 q.1 q.2) (248, 182) := ⟨by decide, (mt6 _ (List.mem_of_getElem? (i := 107) (by decide +kernel)))⟩
theorem ml15_57 : (fun q : (Nat × Nat) => MLok 15 q.1 q.2) (253, 183) := ⟨by decide, (mt6 _ (List.mem_of_getElem? (i := 123) (by decide +kernel)))⟩
theorem ml15_58 : (fun q : (Nat × Nat) => MLok 15 q.1 q.2) (257, 184) := ⟨by decide, (mt6 _ (List.mem_of_getElem? (i := 127) (by decide +kernel)))⟩
theorem ml15_59 : (fun q : (Nat × Nat) => MLok 15 q.1 q.2) (261, 185) := ⟨by decide, (mt6 _ (List.mem_of_getElem? (i := 168) (by decide +kernel)))⟩
theorem ml15_60 : (fun q : (Nat × Nat) => MLok 15 q.1 q.2) (265, 186) := ⟨by decide, (mt6 _ (List.mem_of_getElem? (i := 172) (by decide +kernel)))⟩
theorem ml15_61 : (fun q : (Nat × Nat) => MLok 15 q.1 q.2) (269, 187) := ⟨by decide, (mt6 _ (List.mem_of_getElem? (i := 176) (by decide +kernel)))⟩
theorem ml15_62 : (fun q : (Nat × Nat) => MLok 15 q.1 q.2) (273, 188) := ⟨by decide, (mt6 _ (List.mem_of_getElem? (i := 180) (by decide +kernel)))⟩
theorem ml15_63 : (fun q : (Nat × Nat) => MLok 15 q.1 q.2) (12, 189) := ⟨by decide, (mt6 _ (List.mem_of_getElem? (i := 186) (by decide +kernel)))⟩
theorem ml15_64 : (fun q : (Nat × Nat) => MLok 15 q.1 q.2) (17, 190) := ⟨by decide, (mt7 _ (List.mem_of_getElem? (i := 81) (by decide +kernel)))⟩
theorem ml15_65 : (fun q : (Nat × Nat) => MLok 15 q.1 q.2) (22, 191) := ⟨by decide, (mt7 _ (List.mem_of_getElem? (i := 85) (by decide +kernel)))⟩
theorem ml15_66 : (fun q : (Nat × Nat) => MLok 15 q.1 q.2) (26, 192) := ⟨by decide, (mt7 _ (List.mem_of_getElem? (i := 89) (by decide +kernel)))⟩
theorem ml15_67 : (fun q : (Nat × Nat) => MLok 15 q.1 q.2) (31, 198) := ⟨by decide, (mt7 _ (List.mem_of_getElem? (i := 93) (by decide +kernel)))⟩
theorem ml15_68 : (fun q : (Nat × Nat) => MLok 15 q.1 q.2) (38, 201) := ⟨by decide, (mt7 _ (List.mem_of_getElem? (i := 101) (by decide +kernel)))⟩
theorem ml15_69 : (fun q : (Nat × Nat) => MLok 15 q.1 q.2) (43, 202) := ⟨by decide, (mt7 _ (List.mem_of_getElem? (i := 116) (by decide +kernel)))⟩
theorem ml15_70 : (fun q : (Nat × Nat) => MLok 15 q.1 q.2) (48, 203) := ⟨by decide, (mt7 _ (List.mem_of_getElem? (i := 121) (by decide +kernel)))⟩
theorem ml15_71 : (fun q : (Nat × Nat) => MLok 15 q.1 q.2) (53, 247) := ⟨by decide, (mt7 _ (List.mem_of_getElem? (i := 125) (by decide +kernel)))⟩
theorem ml15_72 : (fun q : (Nat × Nat) => MLok 15 q.1 q.2) (66, 251) := ⟨by decide, (mt7 _ (List.mem_of_getElem? (i := 133) (by decide +kernel)))⟩
theorem ml15_73 : (fun q : (Nat × Nat) => MLok 15 q.1 q.2) (58, 266) := ⟨by decide, (mt7 _ (List.mem_of_getElem? (i := 137) (by decide +kernel)))⟩
theorem ml15_74 : (fun q : (Nat × Nat) => MLok 15 q.1 q.2) (62, 270) := ⟨by decide, (mt8 _ (List.mem_of_getElem? (i := 130) (by decide +kernel)))⟩
theorem ml15_75 : (fun q : (Nat × Nat) => MLok 15 q.1 q.2) (70, 285) := ⟨by decide, (mt8 _ (List.mem_of_getElem? (i := 146) (by decide +kernel)))⟩
theorem ml15_76 : (fun q : (Nat × Nat) => MLok 15 q.1 q.2) (75, 286) := ⟨by decide, (mt8 _ (List.mem_of_getElem? (i := 192) (by decide +kernel)))⟩
theorem ml15_77 : (fun q : (Nat × Nat) => MLok 15 q.1 q.2) (79, 287) := ⟨by decide, (mt8 _ (List.mem_of_getElem? (i := 201) (by decide +kernel)))⟩
theorem ml15_78 : (fun q : (Nat × Nat) => MLok 15 q.1 q.2) (83, 288) := ⟨by decide, (mt8 _ (List.mem_of_getElem? (i := 209) (by decide +kernel)))⟩
theorem ml15_79 : (fun q : (Nat × Nat) => MLok 15 q.1 q.2) (87, 289) := ⟨by decide, (mt8 _ (List.mem_of_getElem? (i := 217) (by decide +kernel)))⟩
theorem ml15_80 : (fun q : (Nat × Nat) => MLok 15 q.1 q.2) (91, 290) := ⟨by decide, (mt8 _ (List.mem_of_getElem? (i := 221) (by decide +kernel)))⟩
theorem ml15_81 : (fun q : (Nat × Nat) => MLok 15 q.1 q.2) (95, 292) := ⟨by decide, (mt8 _ (List.mem_of_getElem? (i := 229) (by decide +kernel)))⟩
theorem ml15_82 : (fun q : (Nat × Nat) => MLok 15 q.1 q.2) (99, 293) := ⟨by decide, (mt8 _ (List.mem_of_getElem? (i := 237) (by decide +kernel)))⟩
theorem ml15_83 : (fun q : (Nat × Nat) => MLok 15 q.1 q.2) (103, 294) := ⟨by decide, (mt9 _ (List.mem_of_getElem? (i := 5) (by decide +kernel)))⟩
theorem ml15_84 : (fun q : (Nat × Nat) => MLok 15 q.1 q.2) (107, 295) := ⟨by decide, (mt9 _ (List.mem_of_getElem? (i := 9) (by decide +kernel)))⟩
theorem ml15_85 : (fun q : (Nat × Nat) => MLok 15 q.1 q.2) (111, 296) := ⟨by decide, (mt9 _ (List.mem_of_getElem? (i := 13) (by decide +kernel)))⟩
theorem ml15_86 : (fun q : (Nat × Nat) => MLok 15 q.1 q.2) (115, 299) := ⟨by decide, (mt9 _ (List.mem_of_getElem? (i := 22) (by decide +kernel)))⟩
theorem ml15_87 : (fun q : (Nat × Nat) => MLok 15 q.1 q.2) (120, 300) := ⟨by decide, (mt9 _ (List.mem_of_getElem? (i := 35) (by decide +kernel)))⟩
theorem ml15_88 : (fun q : (Nat × Nat) => MLok 15 q.1 q.2) (124, 302) := ⟨by decide, (mt9 _ (List.mem_of_getElem? (i := 40) (by decide +kernel)))⟩
theorem ml15_89 : (fun q : (Nat × Nat) => MLok 15 q.1 q.2) (129, 303) := ⟨by decide, (mt9 _ (List.mem_of_getElem? (i := 51) (by decide +kernel)))⟩
theorem ml15_90 : (fun q : (Nat × Nat) => MLok 15 q.1 q.2) (133, 304) := ⟨by decide, (mt9 _ (List.mem_of_getElem? (i := 55) (by decide +kernel)))⟩
theorem ml15_91 : (fun q : (Nat × Nat) => MLok 15 q.1 q.2) (137, 305) := ⟨by decide, (mt9 _ (List.mem_of_getElem? (i := 59) (by decide +kernel)))⟩
theorem ml15_92 : (fun q : (Nat × Nat) => MLok 15 q.1 q.2) (141, 306) := ⟨by decide, (mt9 _ (List.mem_of_getElem? (i := 64) (by decide +kernel)))⟩
theorem ml15_93 : (fun q : (Nat × Nat) => MLok 15 q.1 q.2) (145, 308) := ⟨by decide, (mt9 _ (List.mem_of_getElem? (i := 68) (by decide +kernel)))⟩
theorem ml15_94 : (fun q : (Nat × Nat) => MLok 15 q.1 q.2) (149, 309) := ⟨by decide, (mt9 _ (List.mem_of_getElem? (i := 77) (by decide +kernel)))⟩
theorem ml15_95 : (fun q : (Nat × Nat) => MLok 15 q.1 q.2) (153, 310) := ⟨by decide, (mt9 _ (List.mem_of_getElem? (i := 81) (by decide +kernel)))⟩
theorem ml15_96 : (fun q : (Nat × Nat) => MLok 15 q.1 q.2) (157, 314) := ⟨by decide, (mt9 _ (List.mem_of_getElem? (i := 85) (by decide +kernel)))⟩
theorem ml15_97 : (fun q : (Nat × Nat) => MLok 15 q.1 q.2) (161, 315) := ⟨by decide, (mt9 _ (List.mem_of_getElem? (i := 100) (by decide +kernel)))⟩
theorem ml15_98 : (fun q : (Nat × Nat) => MLok 15 q.1 q.2) (165, 318) := ⟨by decide, (mt9 _ (List.mem_of_getElem? (i := 104) (by decide +kernel)))⟩
theorem ml15_99 : (fun q : (Nat × Nat) => MLok 15 q.1 q.2) (169, 319) := ⟨by decide, (mt9 _ (List.mem_of_getElem? (i := 116) (by decide +kernel)))⟩
theorem ml15_100 : (fun q : (Nat × Nat) => MLok 15 q.1 q.2) (177, 320) := ⟨by decide, (mt9 _ (List.mem_of_getElem? (i := 120) (by decide +kernel)))⟩
theorem ml15_101 : (fun q : (Nat × Nat) => MLok 15 q.1 q.2) (173, 321) := ⟨by decide, (mt9 _ (List.mem_of_getElem? (i := 124) (by decide +kernel)))⟩
theorem ml15_102 : (fun q : (Nat × Nat) => MLok 15 q.1 q.2) (181, 326) := ⟨by decide, (mt9 _ (List.mem_of_getElem? (i := 128) (by decide +kernel)))⟩
theorem ml15_103 : (fun q : (Nat × Nat) => MLok 15 q.1 q.2) (185, 327) := ⟨by decide, (mt9 _ (List.mem_of_getElem? (i := 148) (by decide +kernel)))⟩
theorem ml15_104 : (fun q : (Nat × Nat) => MLok 15 q.1 q.2) (189, 328) := ⟨by decide, (mt9 _ (List.mem_of_getElem? (i := 152) (by decide +kernel)))⟩
theorem ml15_105 : (fun q : (Nat × Nat) => MLok 15 q.1 q.2) (193, 329) := ⟨by decide, (mt9 _ (List.mem_of_getElem? (i := 156) (by decide +kernel)))⟩
theorem ml15_106 : (fun q : (Nat × Nat) => MLok 15 q.1 q.2) (197, 330) := ⟨by decide, (mt9 _ (List.mem_of_getElem? (i := 160) (by decide +kernel)))⟩
theorem ml15_107 : (fun q : (Nat × Nat) => MLok 15 q.1 q.2) (202, 333) := ⟨by decide, (mt9 _ (List.mem_of_getElem? (i := 164) (by decide +kernel)))⟩
theorem ml15_108 : (fun q : (Nat × Nat) => MLok 15 q.1 q.2) (206, 334) := ⟨by decide, (mt9 _ (List.mem_of_getElem? (i := 176) (by decide +kernel)))⟩
theorem ml15_109 : (fun q : (Nat × Nat) => MLok 15 q.1 q.2) (210, 336) := ⟨by decide, (mt9 _ (List.mem_of_getElem? (i := 180) (by decide +kernel)))⟩
theorem ml15_110 : (fun q : (Nat × Nat) => MLok 15 q.1 q.2) (214, 337) := ⟨by decide, (mt9 _ (List.mem_of_getElem? (i := 188) (by decide +kernel)))⟩
theorem ml15_111 : (fun q : (Nat × Nat) => MLok 15 q.1 q.2) (218, 339) := ⟨by decide, (mt9 _ (List.mem_of_getElem? (i := 192) (by decide +kernel)))⟩
theorem ml15_112 : (fun q : (Nat × Nat) => MLok 15 q.1 q.2) (223, 340) := ⟨by decide, (mt9 _ (List.mem_of_getElem? (i := 200) (by decide +kernel)))⟩
theorem ml15_113 : (fun q : (Nat × Nat) => MLok 15 q.1 q.2) (227, 341) := ⟨by decide, (mt9 _ (List.mem_of_getElem? (i := 211) (by decide +kernel)))⟩
theorem ml15_114 : (fun q : (Nat × Nat) => MLok 15 q.1 q.2) (231, 342) := ⟨by decide, (mt9 _ (List.mem_of_getElem? (i := 215) (by decide +kernel)))⟩
theorem ml15_115 : (fun q : (Nat × Nat) => MLok 15 q.1 q.2) (235, 343) := ⟨by decide, (mt9 _ (List.mem_of_getElem? (i := 219) (by decide +kernel)))⟩
theorem ml15_116 : (fun q : (Nat × Nat) => MLok 15 q.1 q.2) (239, 347) := ⟨by decide, (mt9 _ (List.mem_of_getElem? (i := 223) (by decide +kernel)))⟩
theorem ml15_117 : (fun q : (Nat × Nat) => MLok 15 q.1 q.2) (243, 348) := ⟨by decide, (mt10 _ (List.mem_of_getElem? (i := 3) (by decide +kernel)))⟩
theorem ml15_118 : (fun q : (Nat × Nat) => MLok 15 q.1 q.2) (247, 349) := ⟨by decide, (mt10 _ (List.mem_of_getElem? (i := 7) (by decide +kernel)))⟩
theorem ml15_119 : (fun q : (Nat × Nat) => MLok 15 q.1 q.2) (252, 353) := ⟨by decide, (mt10 _ (List.mem_of_getElem? (i := 11) (by decide +kernel)))⟩
theorem ml15_120 : (fun q : (Nat × Nat) => MLok 15 q.1 q.2) (256, 354) := ⟨by decide, (mt10 _ (List.mem_of_getElem? (i := 27) (by decide +kernel)))⟩
theorem ml15_121 : (fun q : (Nat × Nat) => MLok 15 q.1 q.2) (260, 363) := ⟨by decide, (mt10 _ (List.mem_of_getElem? (i := 31) (by decide +kernel)))⟩
theorem ml15_122 : (fun q : (Nat × Nat) => MLok 15 q.1 q.2) (264, 364) := ⟨by decide, (mt10 _ (List.mem_of_getElem? (i := 69) (by decide +kernel)))⟩
theorem ml15_123 : (fun q : (Nat × Nat) => MLok 15 q.1 q.2) (268, 365) := ⟨by decide, (mt10 _ (List.mem_of_getElem? (i := 73) (by decide +kernel)))⟩
theorem ml15_124 : (fun q : (Nat × Nat) => MLok 15 q.1 q.2) (272, 367) := ⟨by decide, (mt10 _ (List.mem_of_getElem? (i := 77) (by decide +kernel)))⟩
theorem ml15_125 : (fun q : (Nat × Nat) => MLok 15 q.1 q.2) (276, 368) := ⟨by decide, (mt10 _ (List.mem_of_getElem? (i := 81) (by decide +kernel)))⟩
theorem ml15_ok : ∀ q ∈ ml15, MLok 15 q.1 q.2 := List.forall_mem_cons.mpr ⟨ml15_0, List.forall_mem_cons.mpr ⟨ml15_1, List.forall_mem_cons.mpr ⟨ml15_2, List.forall_mem_cons.mpr ⟨ml15_3, List.forall_mem_cons.mpr ⟨ml15_4, List.forall_mem_cons.mpr ⟨ml15_5, List.forall_mem_cons.mpr ⟨ml15_6, List.forall_mem_cons.mpr ⟨ml15_7, List.forall_mem_cons.mpr ⟨ml15_8, List.forall_mem_cons.mpr ⟨ml15_9, List.forall_mem_cons.mpr ⟨ml15_10, List.forall_mem_cons.mpr ⟨ml15_11, List.forall_mem_cons.mpr ⟨ml15_12, List.forall_mem_cons.mpr ⟨ml15_13, List.forall_mem_cons.mpr ⟨ml15_14, List.forall_mem_cons.mpr ⟨ml15_15, List.forall_mem_cons.mpr ⟨ml15_16, List.forall_mem_cons.mpr ⟨ml15_17, List.forall_mem_cons.mpr ⟨ml15_18, List.forall_mem_cons.mpr ⟨ml15_19, List.forall_mem_cons.mpr ⟨ml15_20, List.forall_mem_cons.mpr ⟨ml15_21, List.forall_mem_cons.mpr ⟨ml15_22, List.forall_mem_cons.mpr ⟨ml15_23, List.forall_mem_cons.mpr ⟨ml15_24, List.forall_mem_cons.mpr ⟨ml15_25, List.forall_mem_cons.mpr ⟨ml15_26, List.forall_mem_cons.mpr ⟨ml15_27, List.forall_mem_cons.mpr ⟨ml15_28, List.forall_mem_cons.mpr ⟨ml15_29, List.forall_mem_cons.mpr ⟨ml15_30, List.forall_mem_cons.mpr ⟨ml15_31, List.forall_mem_cons.mpr ⟨ml15_32, List.forall_mem_cons.mpr ⟨ml15_33, List.forall_mem_cons.mpr ⟨ml15_34, List.forall_mem_cons.mpr ⟨ml15_35, List.forall_mem_cons.mpr ⟨ml15_36, List.forall_mem_cons.mpr ⟨ml15_37, List.forall_mem_cons.mpr ⟨ml15_38, List.forall_mem_cons.mpr ⟨ml15_39, List.forall_mem_cons.mpr ⟨ml15_40, List.forall_mem_cons.mpr ⟨ml15_41, List.forall_mem_cons.mpr ⟨ml15_42, List.forall_mem_cons.mpr ⟨ml15_43, List.forall_mem_cons.mpr ⟨ml15_44, List.forall_mem_cons.mpr ⟨ml15_45, List.forall_mem_cons.mpr ⟨ml15_46, List.forall_mem_cons.mpr ⟨ml15_47, List.forall_mem_cons.mpr ⟨ml15_48, List.forall_mem_cons.mpr ⟨ml15_49, List.forall_mem_cons.mpr ⟨ml15_50, List.forall_mem_cons.mpr ⟨ml15_51, List.forall_mem_cons.mpr ⟨ml15_52, List.forall_mem_cons.mpr ⟨ml15_53, List.forall_mem_cons.mpr ⟨ml15_54, List.forall_mem_cons.mpr ⟨ml15_55, List.forall_mem_cons.mpr ⟨ml15_56, List.forall_mem_cons.mpr ⟨ml15_57, List.forall_mem_cons.mpr ⟨ml15_58, List.forall_mem_cons.mpr ⟨ml15_59, List.forall_mem_cons.mpr ⟨ml15_60, List.forall_mem_cons.mpr ⟨ml15_61, List.forall_mem_cons.mpr ⟨ml15_62, List.forall_mem_cons.mpr ⟨ml15_63, List.forall_mem_cons.mpr ⟨ml15_64, List.forall_mem_cons.mpr ⟨ml15_65, List.forall_mem_cons.mpr ⟨ml15_66, List.forall_mem_cons.mpr ⟨ml15_67, List.forall_mem_cons.mpr ⟨ml15_68, List.forall_mem_cons.mpr ⟨ml15_69, List.forall_mem_cons.mpr ⟨ml15_70, List.forall_mem_cons.mpr ⟨ml15_71, List.forall_mem_cons.mpr ⟨ml15_72, List.forall_mem_cons.mpr ⟨ml15_73, List.forall_mem_cons.mpr ⟨ml15_74, List.forall_mem_cons.mpr ⟨ml15_75, List.forall_mem_cons.mpr ⟨ml15_76, List.forall_mem_cons.mpr ⟨ml15_77, List.forall_mem_cons.mpr ⟨ml15_78, List.forall_mem_cons.mpr ⟨ml15_79, List.forall_mem_cons.mpr ⟨ml15_80, List.forall_mem_cons.mpr ⟨ml15_81, List.forall_mem_cons.mpr ⟨ml15_82, List.forall_mem_cons.mpr ⟨ml15_83, List.forall_mem_cons.mpr ⟨ml15_84, List.forall_mem_cons.mpr ⟨ml15_85, List.forall_mem_cons.mpr ⟨ml15_86, List.forall_mem_cons.mpr ⟨ml15_87, List.forall_mem_cons.mpr ⟨ml15_88, List.forall_mem_cons.mpr ⟨ml15_89, List.forall_mem_cons.mpr ⟨ml15_90, List.forall_mem_cons.mpr ⟨ml15_91, List.forall_mem_cons.mpr ⟨ml15_92, List.forall_mem_cons.mpr ⟨ml15_93, List.forall_mem_cons.mpr ⟨ml15_94, List.forall_mem_cons.mpr ⟨ml15_95, List.forall_mem_cons.mpr ⟨ml15_96, List.forall_mem_cons.mpr ⟨ml15_97, List.forall_mem_cons.mpr ⟨ml15_98, List.forall_mem_cons.mpr ⟨ml15_99, List.forall_mem_cons.mpr ⟨ml15_100, List.forall_mem_cons.mpr ⟨ml15_101, List.forall_mem_cons.mpr ⟨ml15_102, List.forall_mem_cons.mpr ⟨ml15_103, List.forall_mem_cons.mpr ⟨ml15_104, List.forall_mem_cons.mpr ⟨ml15_105, List.forall_mem_cons.mpr ⟨ml15_106, List.forall_mem_cons.mpr ⟨ml15_107, List.forall_mem_cons.mpr ⟨ml15_108, List.forall_mem_cons.mpr ⟨ml15_109, List.forall_mem_cons.mpr ⟨ml15_110, List.forall_mem_cons.mpr ⟨ml15_111, List.forall_mem_cons.mpr ⟨ml15_112, List.forall_mem_cons.mpr ⟨ml15_113, List.forall_mem_cons.mpr ⟨ml15_114, List.forall_mem_cons.mpr ⟨ml15_115, List.forall_mem_cons.mpr ⟨ml15_116, List.forall_mem_cons.mpr ⟨ml15_117, List.forall_mem_cons.mpr ⟨ml15_118, List.forall_mem_cons.mpr ⟨ml15_119, List.forall_mem_cons.mpr ⟨ml15_120, List.forall_mem_cons.mpr ⟨ml15_121, List.forall_mem_cons.mpr ⟨ml15_122, List.forall_mem_cons.mpr ⟨ml15_123, List.forall_mem_cons.mpr ⟨ml15_124, List.forall_mem_cons.mpr ⟨ml15_125, fun _ h => absurd h List.not_mem_nil⟩⟩⟩⟩⟩⟩⟩⟩⟩⟩⟩⟩⟩⟩⟩⟩⟩⟩⟩⟩⟩⟩⟩⟩⟩⟩⟩⟩⟩⟩⟩⟩⟩⟩⟩⟩⟩⟩⟩⟩⟩⟩⟩⟩⟩⟩⟩⟩⟩⟩⟩⟩⟩⟩⟩⟩⟩⟩⟩⟩⟩⟩⟩⟩⟩⟩⟩⟩⟩⟩⟩⟩⟩⟩⟩⟩⟩⟩⟩⟩⟩⟩⟩⟩⟩⟩⟩⟩⟩⟩⟩⟩⟩⟩⟩⟩⟩⟩⟩⟩⟩⟩⟩⟩⟩⟩⟩⟩⟩⟩⟩⟩⟩⟩⟩⟩⟩⟩⟩⟩⟩⟩⟩⟩⟩⟩
def mlT : List (List (Nat × Nat)) := [ml0, ml1, ml2, ml3, ml4, ml5, ml6, ml7, ml8, ml9, ml10, ml11, ml12, ml13, ml14, ml15]
def nstL : List Cond := [Cond.methodLinkNest "EmptyChairs" 26 ⟨"EmptyChairs$Tray", "<init>", "()V"⟩ "EmptyChairs", Cond.methodLinkNest "EmptyChairs$Assembly" 48 ⟨"EmptyChairs$Script", "<init>", "()V"⟩ "EmptyChairs", Cond.methodLinkNest "EmptyChairs$Assembly" 53 ⟨"EmptyChairs$Member", "<init>", "()V"⟩ "EmptyChairs", Cond.fieldLinkNest "EmptyChairs$Assembly" 54 "EmptyChairs" "LAW_AT_FIRST" "[I" "EmptyChairs", Cond.methodLinkNest "EmptyChairs$ScriptParser" 11 ⟨"EmptyChairs$Script", "<init>", "()V"⟩ "EmptyChairs", Cond.fieldLinkNest "EmptyChairs$AssemblyParser" 72 "EmptyChairs" "LAW_LEAST" "[I" "EmptyChairs", Cond.fieldLinkNest "EmptyChairs$AssemblyParser" 76 "EmptyChairs" "LAW_MOST" "[I" "EmptyChairs"]
theorem nst_in : ∀ w ∈ nstL, w ∈ lw_tbl := List.forall_mem_cons.mpr ⟨(mt1 _ (List.mem_of_getElem? (i := 33) (by decide +kernel))), List.forall_mem_cons.mpr ⟨(mt1 _ (List.mem_of_getElem? (i := 172) (by decide +kernel))), List.forall_mem_cons.mpr ⟨(mt1 _ (List.mem_of_getElem? (i := 220) (by decide +kernel))), List.forall_mem_cons.mpr ⟨(mt2 _ (List.mem_of_getElem? (i := 45) (by decide +kernel))), List.forall_mem_cons.mpr ⟨(mt3 _ (List.mem_of_getElem? (i := 21) (by decide +kernel))), List.forall_mem_cons.mpr ⟨(mt4 _ (List.mem_of_getElem? (i := 26) (by decide +kernel))), List.forall_mem_cons.mpr ⟨(mt4 _ (List.mem_of_getElem? (i := 28) (by decide +kernel))), fun _ h => absurd h List.not_mem_nil⟩⟩⟩⟩⟩⟩⟩
def NLok (oc idx mi : Nat) : Prop := mi < 372 ∧ Cond.methodLinkNest (cN oc) idx (yN mi) "EmptyChairs" ∈ nstL
def nl0 : List (Nat × Nat) := [(48, 63), (53, 33)]
theorem nl0_0 : (fun q : (Nat × Nat) => NLok 0 q.1 q.2) (48, 63) := ⟨by decide, by decide +kernel⟩
theorem nl0_1 : (fun q : (Nat × Nat) => NLok 0 q.1 q.2) (53, 33) := ⟨by decide, by decide +kernel⟩
theorem nl0_ok : ∀ q ∈ nl0, NLok 0 q.1 q.2 := List.forall_mem_cons.mpr ⟨nl0_0, List.forall_mem_cons.mpr ⟨nl0_1, fun _ h => absurd h List.not_mem_nil⟩⟩
def nl1 : List (Nat × Nat) := []
theorem nl1_ok : ∀ q ∈ nl1, NLok 1 q.1 q.2 := fun _ h => absurd h List.not_mem_nil
def nl2 : List (Nat × Nat) := []
theorem nl2_ok : ∀ q ∈ nl2, NLok 2 q.1 q.2 := fun _ h => absurd h List.not_mem_nil
def nl3 : List (Nat × Nat) := []
theorem nl3_ok : ∀ q ∈ nl3, NLok 3 q.1 q.2 := fun _ h => absurd h List.not_mem_nil
def nl4 : List (Nat × Nat) := []
theorem nl4_ok : ∀ q ∈ nl4, NLok 4 q.1 q.2 := fun _ h => absurd h List.not_mem_nil
def nl5 : List (Nat × Nat) := []
theorem nl5_ok : ∀ q ∈ nl5, NLok 5 q.1 q.2 := fun _ h => absurd h List.not_mem_nil
def nl6 : List (Nat × Nat) := [(11, 63)]
theorem nl6_0 : (fun q : (Nat × Nat) => NLok 6 q.1 q.2) (11, 63) := ⟨by decide, by decide +kernel⟩
theorem nl6_ok : ∀ q ∈ nl6, NLok 6 q.1 q.2 := List.forall_mem_cons.mpr ⟨nl6_0, fun _ h => absurd h List.not_mem_nil⟩
def nl7 : List (Nat × Nat) := []
theorem nl7_ok : ∀ q ∈ nl7, NLok 7 q.1 q.2 := fun _ h => absurd h List.not_mem_nil
def nl8 : List (Nat × Nat) := []
theorem nl8_ok : ∀ q ∈ nl8, NLok 8 q.1 q.2 := fun _ h => absurd h List.not_mem_nil
def nl9 : List (Nat × Nat) := []
theorem nl9_ok : ∀ q ∈ nl9, NLok 9 q.1 q.2 := fun _ h => absurd h List.not_mem_nil
def nl10 : List (Nat × Nat) := []
theorem nl10_ok : ∀ q ∈ nl10, NLok 10 q.1 q.2 := fun _ h => absurd h List.not_mem_nil
def nl11 : List (Nat × Nat) := [(26, 100)]
theorem nl11_0 : (fun q : (Nat × Nat) => NLok 11 q.1 q.2) (26, 100) := ⟨by decide, by decide +kernel⟩
theorem nl11_ok : ∀ q ∈ nl11, NLok 11 q.1 q.2 := List.forall_mem_cons.mpr ⟨nl11_0, fun _ h => absurd h List.not_mem_nil⟩
def nl12 : List (Nat × Nat) := []
theorem nl12_ok : ∀ q ∈ nl12, NLok 12 q.1 q.2 := fun _ h => absurd h List.not_mem_nil
def nl13 : List (Nat × Nat) := []
theorem nl13_ok : ∀ q ∈ nl13, NLok 13 q.1 q.2 := fun _ h => absurd h List.not_mem_nil
def nl14 : List (Nat × Nat) := []
theorem nl14_ok : ∀ q ∈ nl14, NLok 14 q.1 q.2 := fun _ h => absurd h List.not_mem_nil
def nl15 : List (Nat × Nat) := []
theorem nl15_ok : ∀ q ∈ nl15, NLok 15 q.1 q.2 := fun _ h => absurd h List.not_mem_nil
def nlT : List (List (Nat × Nat)) := [nl0, nl1, nl2, nl3, nl4, nl5, nl6, nl7, nl8, nl9, nl10, nl11, nl12, nl13, nl14, nl15]
def CLok (oc idx ci : Nat) : Prop := ∃ r : vw_C, mcl[ci]? = some r ∧ Cond.classLink (cN oc) idx r.1 ∈ lw_tbl ∧ Cond.instantiable r.1 r.2.2 ∈ lw_tbl ∧ Cond.initialized r.1 ∈ lw_tbl
def cl0 : List (Nat × Nat) := [(22, 2), (46, 5)]
theorem cl0_0 : (fun q : (Nat × Nat) => CLok 0 q.1 q.2) (22, 2) := ⟨_, rfl, (mt1 _ (List.mem_of_getElem? (i := 168) (by decide +kernel))), (mt1 _ (List.mem_of_getElem? (i := 219) (by decide +kernel))), (mt1 _ (List.mem_of_getElem? (i := 10) (by decide +kernel)))⟩
theorem cl0_1 : (fun q : (Nat × Nat) => CLok 0 q.1 q.2) (46, 5) := ⟨_, rfl, (mt1 _ (List.mem_of_getElem? (i := 170) (by decide +kernel))), (mt1 _ (List.mem_of_getElem? (i := 171) (by decide +kernel))), (mt1 _ (List.mem_of_getElem? (i := 9) (by decide +kernel)))⟩
theorem cl0_ok : ∀ q ∈ cl0, CLok 0 q.1 q.2 := List.forall_mem_cons.mpr ⟨cl0_0, List.forall_mem_cons.mpr ⟨cl0_1, fun _ h => absurd h List.not_mem_nil⟩⟩
def cl1 : List (Nat × Nat) := []
theorem cl1_ok : ∀ q ∈ cl1, CLok 1 q.1 q.2 := fun _ h => absurd h List.not_mem_nil
def cl2 : List (Nat × Nat) := []
theorem cl2_ok : ∀ q ∈ cl2, CLok 2 q.1 q.2 := fun _ h => absurd h List.not_mem_nil
def cl3 : List (Nat × Nat) := []
theorem cl3_ok : ∀ q ∈ cl3, CLok 3 q.1 q.2 := fun _ h => absurd h List.not_mem_nil
def cl4 : List (Nat × Nat) := []
theorem cl4_ok : ∀ q ∈ cl4, CLok 4 q.1 q.2 := fun _ h => absurd h List.not_mem_nil
def cl5 : List (Nat × Nat) := []
theorem cl5_ok : ∀ q ∈ cl5, CLok 5 q.1 q.2 := fun _ h => absurd h List.not_mem_nil
def cl6 : List (Nat × Nat) := [(9, 5)]
theorem cl6_0 : (fun q : (Nat × Nat) => CLok 6 q.1 q.2) (9, 5) := ⟨_, rfl, (mt3 _ (List.mem_of_getElem? (i := 20) (by decide +kernel))), (mt1 _ (List.mem_of_getElem? (i := 171) (by decide +kernel))), (mt1 _ (List.mem_of_getElem? (i := 9) (by decide +kernel)))⟩
theorem cl6_ok : ∀ q ∈ cl6, CLok 6 q.1 q.2 := List.forall_mem_cons.mpr ⟨cl6_0, fun _ h => absurd h List.not_mem_nil⟩
def cl7 : List (Nat × Nat) := []
theorem cl7_ok : ∀ q ∈ cl7, CLok 7 q.1 q.2 := fun _ h => absurd h List.not_mem_nil
def cl8 : List (Nat × Nat) := []
theorem cl8_ok : ∀ q ∈ cl8, CLok 8 q.1 q.2 := fun _ h => absurd h List.not_mem_nil
def cl9 : List (Nat × Nat) := []
theorem cl9_ok : ∀ q ∈ cl9, CLok 9 q.1 q.2 := fun _ h => absurd h List.not_mem_nil
def cl10 : List (Nat × Nat) := []
theorem cl10_ok : ∀ q ∈ cl10, CLok 10 q.1 q.2 := fun _ h => absurd h List.not_mem_nil
def cl11 : List (Nat × Nat) := [(20, 10), (27, 9), (34, 0), (48, 4), (57, 7), (66, 8), (75, 1), (84, 6), (91, 3)]
theorem cl11_0 : (fun q : (Nat × Nat) => CLok 11 q.1 q.2) (20, 10) := ⟨_, rfl, (mt1 _ (List.mem_of_getElem? (i := 30) (by decide +kernel))), (mt1 _ (List.mem_of_getElem? (i := 32) (by decide +kernel))), (mt1 _ (List.mem_of_getElem? (i := 2) (by decide +kernel)))⟩
theorem cl11_1 : (fun q : (Nat × Nat) => CLok 11 q.1 q.2) (27, 9) := ⟨_, rfl, (mt1 _ (List.mem_of_getElem? (i := 52) (by decide +kernel))), (mt1 _ (List.mem_of_getElem? (i := 53) (by decide +kernel))), (mt1 _ (List.mem_of_getElem? (i := 3) (by decide +kernel)))⟩
theorem cl11_2 : (fun q : (Nat × Nat) => CLok 11 q.1 q.2) (34, 0) := ⟨_, rfl, (mt1 _ (List.mem_of_getElem? (i := 162) (by decide +kernel))), (mt1 _ (List.mem_of_getElem? (i := 163) (by decide +kernel))), (mt1 _ (List.mem_of_getElem? (i := 8) (by decide +kernel)))⟩
theorem cl11_3 : (fun q : (Nat × Nat) => CLok 11 q.1 q.2) (48, 4) := ⟨_, rfl, (mt2 _ (List.mem_of_getElem? (i := 141) (by decide +kernel))), (mt2 _ (List.mem_of_getElem? (i := 142) (by decide +kernel))), (mt1 _ (List.mem_of_getElem? (i := 12) (by decide +kernel)))⟩
theorem cl11_4 : (fun q : (Nat × Nat) => CLok 11 q.1 q.2) (57, 7) := ⟨_, rfl, (mt2 _ (List.mem_of_getElem? (i := 182) (by decide +kernel))), (mt2 _ (List.mem_of_getElem? (i := 183) (by decide +kernel))), (mt1 _ (List.mem_of_getElem? (i := 13) (by decide +kernel)))⟩
theorem cl11_5 : (fun q : (Nat × Nat) => CLok 11 q.1 q.2) (66, 8) := ⟨_, rfl, (mt2 _ (List.mem_of_getElem? (i := 208) (by decide +kernel))), (mt2 _ (List.mem_of_getElem? (i := 209) (by decide +kernel))), (mt1 _ (List.mem_of_getElem? (i := 14) (by decide +kernel)))⟩
theorem cl11_6 : (fun q : (Nat × Nat) => CLok 11 q.1 q.2) (75, 1) := ⟨_, rfl, (mt2 _ (List.mem_of_getElem? (i := 229) (by decide +kernel))), (mt2 _ (List.mem_of_getElem? (i := 230) (by decide +kernel))), (mt1 _ (List.mem_of_getElem? (i := 15) (by decide +kernel)))⟩
theorem cl11_7 : (fun q : (Nat × Nat) => CLok 11 q.1 q.2) (84, 6) := ⟨_, rfl, (mt3 _ (List.mem_of_getElem? (i := 14) (by decide +kernel))), (mt3 _ (List.mem_of_getElem? (i := 15) (by decide +kernel))), (mt1 _ (List.mem_of_getElem? (i := 16) (by decide +kernel)))⟩
theorem cl11_8 : (fun q : (Nat × Nat) => CLok 11 q.1 q.2) (91, 3) := ⟨_, rfl, (mt3 _ (List.mem_of_getElem? (i := 39) (by decide +kernel))), (mt3 _ (List.mem_of_getElem? (i := 40) (by decide +kernel))), (mt1 _ (List.mem_of_getElem? (i := 17) (by decide +kernel)))⟩
theorem cl11_ok : ∀ q ∈ cl11, CLok 11 q.1 q.2 := List.forall_mem_cons.mpr ⟨cl11_0, List.forall_mem_cons.mpr ⟨cl11_1, List.forall_mem_cons.mpr ⟨cl11_2, List.forall_mem_cons.mpr ⟨cl11_3, List.forall_mem_cons.mpr ⟨cl11_4, List.forall_mem_cons.mpr ⟨cl11_5, List.forall_mem_cons.mpr ⟨cl11_6, List.forall_mem_cons.mpr ⟨cl11_7, List.forall_mem_cons.mpr ⟨cl11_8, fun _ h => absurd h List.not_mem_nil⟩⟩⟩⟩⟩⟩⟩⟩⟩
def cl12 : List (Nat × Nat) := []
theorem cl12_ok : ∀ q ∈ cl12, CLok 12 q.1 q.2 := fun _ h => absurd h List.not_mem_nil
def cl13 : List (Nat × Nat) := []
theorem cl13_ok : ∀ q ∈ cl13, CLok 13 q.1 q.2 := fun _ h => absurd h List.not_mem_nil
def cl14 : List (Nat × Nat) := []
theorem cl14_ok : ∀ q ∈ cl14, CLok 14 q.1 q.2 := fun _ h => absurd h List.not_mem_nil
def cl15 : List (Nat × Nat) := [(7, 11), (10, 12)]
theorem cl15_0 : (fun q : (Nat × Nat) => CLok 15 q.1 q.2) (7, 11) := ⟨_, rfl, (mt1 _ (List.mem_of_getElem? (i := 22) (by decide +kernel))), (mt1 _ (List.mem_of_getElem? (i := 23) (by decide +kernel))), (mt1 _ (List.mem_of_getElem? (i := 1) (by decide +kernel)))⟩
theorem cl15_1 : (fun q : (Nat × Nat) => CLok 15 q.1 q.2) (10, 12) := ⟨_, rfl, (mt6 _ (List.mem_of_getElem? (i := 184) (by decide +kernel))), (mt6 _ (List.mem_of_getElem? (i := 185) (by decide +kernel))), (mt1 _ (List.mem_of_getElem? (i := 18) (by decide +kernel)))⟩
theorem cl15_ok : ∀ q ∈ cl15, CLok 15 q.1 q.2 := List.forall_mem_cons.mpr ⟨cl15_0, List.forall_mem_cons.mpr ⟨cl15_1, fun _ h => absurd h List.not_mem_nil⟩⟩
def clT : List (List (Nat × Nat)) := [cl0, cl1, cl2, cl3, cl4, cl5, cl6, cl7, cl8, cl9, cl10, cl11, cl12, cl13, cl14, cl15]
def aC (k : Nat) : String := if k = 3 then "EmptyChairs$Member" else if k = 4 then "EmptyChairs$Tray" else "EmptyChairs$Assembly"
def KLok (oc idx : Nat) (v : Int) : Prop := Cond.constant (cN oc) idx (Int32.ofInt v) ∈ lw_tbl
def kl0 : List (Nat × Int) := []
theorem kl0_ok : ∀ q ∈ kl0, KLok 0 q.1 q.2 := fun _ h => absurd h List.not_mem_nil
def kl1 : List (Nat × Int) := []
theorem kl1_ok : ∀ q ∈ kl1, KLok 1 q.1 q.2 := fun _ h => absurd h List.not_mem_nil
def kl2 : List (Nat × Int) := []
theorem kl2_ok : ∀ q ∈ kl2, KLok 2 q.1 q.2 := fun _ h => absurd h List.not_mem_nil
def kl3 : List (Nat × Int) := [(102, 65536)]
theorem kl3_0 : (fun q : (Nat × Int) => KLok 3 q.1 q.2) (102, 65536) := (mt6 _ (List.mem_of_getElem? (i := 149) (by decide +kernel)))
theorem kl3_ok : ∀ q ∈ kl3, KLok 3 q.1 q.2 := List.forall_mem_cons.mpr ⟨kl3_0, fun _ h => absurd h List.not_mem_nil⟩
def kl4 : List (Nat × Int) := []
theorem kl4_ok : ∀ q ∈ kl4, KLok 4 q.1 q.2 := fun _ h => absurd h List.not_mem_nil
def kl5 : List (Nat × Int) := []
theorem kl5_ok : ∀ q ∈ kl5, KLok 5 q.1 q.2 := fun _ h => absurd h List.not_mem_nil
def kl6 : List (Nat × Int) := []
theorem kl6_ok : ∀ q ∈ kl6, KLok 6 q.1 q.2 := fun _ h => absurd h List.not_mem_nil
def kl7 : List (Nat × Int) := []
theorem kl7_ok : ∀ q ∈ kl7, KLok 7 q.1 q.2 := fun _ h => absurd h List.not_mem_nil
def kl8 : List (Nat × Int) := []
theorem kl8_ok : ∀ q ∈ kl8, KLok 8 q.1 q.2 := fun _ h => absurd h List.not_mem_nil
def kl9 : List (Nat × Int) := []
theorem kl9_ok : ∀ q ∈ kl9, KLok 9 q.1 q.2 := fun _ h => absurd h List.not_mem_nil
def kl10 : List (Nat × Int) := []
theorem kl10_ok : ∀ q ∈ kl10, KLok 10 q.1 q.2 := fun _ h => absurd h List.not_mem_nil
def kl11 : List (Nat × Int) := []
theorem kl11_ok : ∀ q ∈ kl11, KLok 11 q.1 q.2 := fun _ h => absurd h List.not_mem_nil
def kl12 : List (Nat × Int) := [(500, 65536)]
theorem kl12_0 : (fun q : (Nat × Int) => KLok 12 q.1 q.2) (500, 65536) := (mt10 _ (List.mem_of_getElem? (i := 64) (by decide +kernel)))
theorem kl12_ok : ∀ q ∈ kl12, KLok 12 q.1 q.2 := List.forall_mem_cons.mpr ⟨kl12_0, fun _ h => absurd h List.not_mem_nil⟩
def kl13 : List (Nat × Int) := [(265, 1431655765), (266, 858993459), (267, 252645135)]
theorem kl13_0 : (fun q : (Nat × Int) => KLok 13 q.1 q.2) (265, 1431655765) := (mt5 _ (List.mem_of_getElem? (i := 137) (by decide +kernel)))
theorem kl13_1 : (fun q : (Nat × Int) => KLok 13 q.1 q.2) (266, 858993459) := (mt5 _ (List.mem_of_getElem? (i := 138) (by decide +kernel)))
theorem kl13_2 : (fun q : (Nat × Int) => KLok 13 q.1 q.2) (267, 252645135) := (mt5 _ (List.mem_of_getElem? (i := 139) (by decide +kernel)))
theorem kl13_ok : ∀ q ∈ kl13, KLok 13 q.1 q.2 := List.forall_mem_cons.mpr ⟨kl13_0, List.forall_mem_cons.mpr ⟨kl13_1, List.forall_mem_cons.mpr ⟨kl13_2, fun _ h => absurd h List.not_mem_nil⟩⟩⟩
def kl14 : List (Nat × Int) := []
theorem kl14_ok : ∀ q ∈ kl14, KLok 14 q.1 q.2 := fun _ h => absurd h List.not_mem_nil
def kl15 : List (Nat × Int) := []
theorem kl15_ok : ∀ q ∈ kl15, KLok 15 q.1 q.2 := fun _ h => absurd h List.not_mem_nil
def klT : List (List (Nat × Int)) := [kl0, kl1, kl2, kl3, kl4, kl5, kl6, kl7, kl8, kl9, kl10, kl11, kl12, kl13, kl14, kl15]
def JLok (oc idx : Nat) (v : Int) : Prop := Cond.constantLong (cN oc) idx (Int64.ofInt v) ∈ lw_tbl
def jl0 : List (Nat × Int) := []
theorem jl0_ok : ∀ q ∈ jl0, JLok 0 q.1 q.2 := fun _ h => absurd h List.not_mem_nil
def jl1 : List (Nat × Int) := []
theorem jl1_ok : ∀ q ∈ jl1, JLok 1 q.1 q.2 := fun _ h => absurd h List.not_mem_nil
def jl2 : List (Nat × Int) := []
theorem jl2_ok : ∀ q ∈ jl2, JLok 2 q.1 q.2 := fun _ h => absurd h List.not_mem_nil
def jl3 : List (Nat × Int) := []
theorem jl3_ok : ∀ q ∈ jl3, JLok 3 q.1 q.2 := fun _ h => absurd h List.not_mem_nil
def jl4 : List (Nat × Int) := []
theorem jl4_ok : ∀ q ∈ jl4, JLok 4 q.1 q.2 := fun _ h => absurd h List.not_mem_nil
def jl5 : List (Nat × Int) := []
theorem jl5_ok : ∀ q ∈ jl5, JLok 5 q.1 q.2 := fun _ h => absurd h List.not_mem_nil
def jl6 : List (Nat × Int) := []
theorem jl6_ok : ∀ q ∈ jl6, JLok 6 q.1 q.2 := fun _ h => absurd h List.not_mem_nil
def jl7 : List (Nat × Int) := []
theorem jl7_ok : ∀ q ∈ jl7, JLok 7 q.1 q.2 := fun _ h => absurd h List.not_mem_nil
def jl8 : List (Nat × Int) := []
theorem jl8_ok : ∀ q ∈ jl8, JLok 8 q.1 q.2 := fun _ h => absurd h List.not_mem_nil
def jl9 : List (Nat × Int) := [(41, 32)]
theorem jl9_0 : (fun q : (Nat × Int) => JLok 9 q.1 q.2) (41, 32) := (mt1 _ (List.mem_of_getElem? (i := 107) (by decide +kernel)))
theorem jl9_ok : ∀ q ∈ jl9, JLok 9 q.1 q.2 := List.forall_mem_cons.mpr ⟨jl9_0, fun _ h => absurd h List.not_mem_nil⟩
def jl10 : List (Nat × Int) := []
theorem jl10_ok : ∀ q ∈ jl10, JLok 10 q.1 q.2 := fun _ h => absurd h List.not_mem_nil
def jl11 : List (Nat × Int) := []
theorem jl11_ok : ∀ q ∈ jl11, JLok 11 q.1 q.2 := fun _ h => absurd h List.not_mem_nil
def jl12 : List (Nat × Int) := [(91, -1), (124, 32), (126, 96), (148, 20), (150, 19), (152, 4), (359, 15), (376, 8), (93, 3), (399, 600), (404, 2), (412, 999), (414, 99), (416, 60), (544, 9999)]
theorem jl12_0 : (fun q : (Nat × Int) => JLok 12 q.1 q.2) (91, -1) := (mt7 _ (List.mem_of_getElem? (i := 120) (by decide +kernel)))
theorem jl12_1 : (fun q : (Nat × Int) => JLok 12 q.1 q.2) (124, 32) := (mt7 _ (List.mem_of_getElem? (i := 156) (by decide +kernel)))
theorem jl12_2 : (fun q : (Nat × Int) => JLok 12 q.1 q.2) (126, 96) := (mt7 _ (List.mem_of_getElem? (i := 157) (by decide +kernel)))
theorem jl12_3 : (fun q : (Nat × Int) => JLok 12 q.1 q.2) (148, 20) := (mt8 _ (List.mem_of_getElem? (i := 42) (by decide +kernel)))
theorem jl12_4 : (fun q : (Nat × Int) => JLok 12 q.1 q.2) (150, 19) := (mt8 _ (List.mem_of_getElem? (i := 63) (by decide +kernel)))
theorem jl12_5 : (fun q : (Nat × Int) => JLok 12 q.1 q.2) (152, 4) := (mt8 _ (List.mem_of_getElem? (i := 64) (by decide +kernel)))
theorem jl12_6 : (fun q : (Nat × Int) => JLok 12 q.1 q.2) (359, 15) := (mt8 _ (List.mem_of_getElem? (i := 150) (by decide +kernel)))
theorem jl12_7 : (fun q : (Nat × Int) => JLok 12 q.1 q.2) (376, 8) := (mt8 _ (List.mem_of_getElem? (i := 200) (by decide +kernel)))
theorem jl12_8 : (fun q : (Nat × Int) => JLok 12 q.1 q.2) (93, 3) := (mt9 _ (List.mem_of_getElem? (i := 21) (by decide +kernel)))
theorem jl12_9 : (fun q : (Nat × Int) => JLok 12 q.1 q.2) (399, 600) := (mt9 _ (List.mem_of_getElem? (i := 26) (by decide +kernel)))
theorem jl12_10 : (fun q : (Nat × Int) => JLok 12 q.1 q.2) (404, 2) := (mt9 _ (List.mem_of_getElem? (i := 39) (by decide +kernel)))
theorem jl12_11 : (fun q : (Nat × Int) => JLok 12 q.1 q.2) (412, 999) := (mt9 _ (List.mem_of_getElem? (i := 63) (by decide +kernel)))
theorem jl12_12 : (fun q : (Nat × Int) => JLok 12 q.1 q.2) (414, 99) := (mt9 _ (List.mem_of_getElem? (i := 75) (by decide +kernel)))
theorem jl12_13 : (fun q : (Nat × Int) => JLok 12 q.1 q.2) (416, 60) := (mt9 _ (List.mem_of_getElem? (i := 76) (by decide +kernel)))
theorem jl12_14 : (fun q : (Nat × Int) => JLok 12 q.1 q.2) (544, 9999) := (mt10 _ (List.mem_of_getElem? (i := 35) (by decide +kernel)))
theorem jl12_ok : ∀ q ∈ jl12, JLok 12 q.1 q.2 := List.forall_mem_cons.mpr ⟨jl12_0, List.forall_mem_cons.mpr ⟨jl12_1, List.forall_mem_cons.mpr ⟨jl12_2, List.forall_mem_cons.mpr ⟨jl12_3, List.forall_mem_cons.mpr ⟨jl12_4, List.forall_mem_cons.mpr ⟨jl12_5, List.forall_mem_cons.mpr ⟨jl12_6, List.forall_mem_cons.mpr ⟨jl12_7, List.forall_mem_cons.mpr ⟨jl12_8, List.forall_mem_cons.mpr ⟨jl12_9, List.forall_mem_cons.mpr ⟨jl12_10, List.forall_mem_cons.mpr ⟨jl12_11, List.forall_mem_cons.mpr ⟨jl12_12, List.forall_mem_cons.mpr ⟨jl12_13, List.forall_mem_cons.mpr ⟨jl12_14, fun _ h => absurd h List.not_mem_nil⟩⟩⟩⟩⟩⟩⟩⟩⟩⟩⟩⟩⟩⟩⟩
def jl13 : List (Nat × Int) := []
theorem jl13_ok : ∀ q ∈ jl13, JLok 13 q.1 q.2 := fun _ h => absurd h List.not_mem_nil
def jl14 : List (Nat × Int) := []
theorem jl14_ok : ∀ q ∈ jl14, JLok 14 q.1 q.2 := fun _ h => absurd h List.not_mem_nil
def jl15 : List (Nat × Int) := [(32, 4294967295)]
theorem jl15_0 : (fun q : (Nat × Int) => JLok 15 q.1 q.2) (32, 4294967295) := (mt10 _ (List.mem_of_getElem? (i := 85) (by decide +kernel)))
theorem jl15_ok : ∀ q ∈ jl15, JLok 15 q.1 q.2 := List.forall_mem_cons.mpr ⟨jl15_0, fun _ h => absurd h List.not_mem_nil⟩
def jlT : List (List (Nat × Int)) := [jl0, jl1, jl2, jl3, jl4, jl5, jl6, jl7, jl8, jl9, jl10, jl11, jl12, jl13, jl14, jl15]
def stN (k : Nat) : String := if k = 1 then "LAW_AT_FIRST" else if k = 2 then "LAW_LEAST" else "LAW_MOST"
def SLok (oc idx k : Nat) : Prop := Cond.fieldLink (cN oc) idx "EmptyChairs" (stN k) "[I" ∈ lw_tbl ∨ Cond.fieldLinkNest (cN oc) idx "EmptyChairs" (stN k) "[I" "EmptyChairs" ∈ nstL
def stl0 : List (Nat × Nat) := [(54, 1)]
theorem stl0_0 : (fun q : (Nat × Nat) => SLok 0 q.1 q.2) (54, 1) := Or.inr (by decide +kernel)
theorem stl0_ok : ∀ q ∈ stl0, SLok 0 q.1 q.2 := List.forall_mem_cons.mpr ⟨stl0_0, fun _ h => absurd h List.not_mem_nil⟩
def stl1 : List (Nat × Nat) := [(72, 2), (76, 3)]
theorem stl1_0 : (fun q : (Nat × Nat) => SLok 1 q.1 q.2) (72, 2) := Or.inr (by decide +kernel)
theorem stl1_1 : (fun q : (Nat × Nat) => SLok 1 q.1 q.2) (76, 3) := Or.inr (by decide +kernel)
theorem stl1_ok : ∀ q ∈ stl1, SLok 1 q.1 q.2 := List.forall_mem_cons.mpr ⟨stl1_0, List.forall_mem_cons.mpr ⟨stl1_1, fun _ h => absurd h List.not_mem_nil⟩⟩
def stl2 : List (Nat × Nat) := []
theorem stl2_ok : ∀ q ∈ stl2, SLok 2 q.1 q.2 := fun _ h => absurd h List.not_mem_nil
def stl3 : List (Nat × Nat) := []
theorem stl3_ok : ∀ q ∈ stl3, SLok 3 q.1 q.2 := fun _ h => absurd h List.not_mem_nil
def stl4 : List (Nat × Nat) := []
theorem stl4_ok : ∀ q ∈ stl4, SLok 4 q.1 q.2 := fun _ h => absurd h List.not_mem_nil
def stl5 : List (Nat × Nat) := []
theorem stl5_ok : ∀ q ∈ stl5, SLok 5 q.1 q.2 := fun _ h => absurd h List.not_mem_nil
def stl6 : List (Nat × Nat) := []
theorem stl6_ok : ∀ q ∈ stl6, SLok 6 q.1 q.2 := fun _ h => absurd h List.not_mem_nil
def stl7 : List (Nat × Nat) := []
theorem stl7_ok : ∀ q ∈ stl7, SLok 7 q.1 q.2 := fun _ h => absurd h List.not_mem_nil
def stl8 : List (Nat × Nat) := []
theorem stl8_ok : ∀ q ∈ stl8, SLok 8 q.1 q.2 := fun _ h => absurd h List.not_mem_nil
def stl9 : List (Nat × Nat) := []
theorem stl9_ok : ∀ q ∈ stl9, SLok 9 q.1 q.2 := fun _ h => absurd h List.not_mem_nil
def stl10 : List (Nat × Nat) := []
theorem stl10_ok : ∀ q ∈ stl10, SLok 10 q.1 q.2 := fun _ h => absurd h List.not_mem_nil
def stl11 : List (Nat × Nat) := [(357, 2), (360, 3)]
theorem stl11_0 : (fun q : (Nat × Nat) => SLok 11 q.1 q.2) (357, 2) := Or.inl (mt5 _ (List.mem_of_getElem? (i := 160) (by decide +kernel)))
theorem stl11_1 : (fun q : (Nat × Nat) => SLok 11 q.1 q.2) (360, 3) := Or.inl (mt5 _ (List.mem_of_getElem? (i := 161) (by decide +kernel)))
theorem stl11_ok : ∀ q ∈ stl11, SLok 11 q.1 q.2 := List.forall_mem_cons.mpr ⟨stl11_0, List.forall_mem_cons.mpr ⟨stl11_1, fun _ h => absurd h List.not_mem_nil⟩⟩
def stl12 : List (Nat × Nat) := []
theorem stl12_ok : ∀ q ∈ stl12, SLok 12 q.1 q.2 := fun _ h => absurd h List.not_mem_nil
def stl13 : List (Nat × Nat) := []
theorem stl13_ok : ∀ q ∈ stl13, SLok 13 q.1 q.2 := fun _ h => absurd h List.not_mem_nil
def stl14 : List (Nat × Nat) := []
theorem stl14_ok : ∀ q ∈ stl14, SLok 14 q.1 q.2 := fun _ h => absurd h List.not_mem_nil
def stl15 : List (Nat × Nat) := []
theorem stl15_ok : ∀ q ∈ stl15, SLok 15 q.1 q.2 := fun _ h => absurd h List.not_mem_nil
def stlT : List (List (Nat × Nat)) := [stl0, stl1, stl2, stl3, stl4, stl5, stl6, stl7, stl8, stl9, stl10, stl11, stl12, stl13, stl14, stl15]
def OLok (oc idx : Nat) : Prop := Cond.methodLink (cN oc) idx objectInit ∈ lw_tbl
def ol0 : List Nat := [3]
theorem ol0_0 : (fun q : Nat => OLok 0 q) 3 := (mt1 _ (List.mem_of_getElem? (i := 167) (by decide +kernel)))
theorem ol0_ok : ∀ q ∈ ol0, OLok 0 q := List.forall_mem_cons.mpr ⟨ol0_0, fun _ h => absurd h List.not_mem_nil⟩
def ol1 : List Nat := [3]
theorem ol1_0 : (fun q : Nat => OLok 1 q) 3 := (mt2 _ (List.mem_of_getElem? (i := 234) (by decide +kernel)))
theorem ol1_ok : ∀ q ∈ ol1, OLok 1 q := List.forall_mem_cons.mpr ⟨ol1_0, fun _ h => absurd h List.not_mem_nil⟩
def ol2 : List Nat := [3]
theorem ol2_0 : (fun q : Nat => OLok 2 q) 3 := (mt1 _ (List.mem_of_getElem? (i := 223) (by decide +kernel)))
theorem ol2_ok : ∀ q ∈ ol2, OLok 2 q := List.forall_mem_cons.mpr ⟨ol2_0, fun _ h => absurd h List.not_mem_nil⟩
def ol3 : List Nat := [3]
theorem ol3_0 : (fun q : Nat => OLok 3 q) 3 := (mt3 _ (List.mem_of_getElem? (i := 44) (by decide +kernel)))
theorem ol3_ok : ∀ q ∈ ol3, OLok 3 q := List.forall_mem_cons.mpr ⟨ol3_0, fun _ h => absurd h List.not_mem_nil⟩
def ol4 : List Nat := [3]
theorem ol4_0 : (fun q : Nat => OLok 4 q) 3 := (mt2 _ (List.mem_of_getElem? (i := 146) (by decide +kernel)))
theorem ol4_ok : ∀ q ∈ ol4, OLok 4 q := List.forall_mem_cons.mpr ⟨ol4_0, fun _ h => absurd h List.not_mem_nil⟩
def ol5 : List Nat := [3]
theorem ol5_0 : (fun q : Nat => OLok 5 q) 3 := (mt1 _ (List.mem_of_getElem? (i := 175) (by decide +kernel)))
theorem ol5_ok : ∀ q ∈ ol5, OLok 5 q := List.forall_mem_cons.mpr ⟨ol5_0, fun _ h => absurd h List.not_mem_nil⟩
def ol6 : List Nat := [3]
theorem ol6_0 : (fun q : Nat => OLok 6 q) 3 := (mt3 _ (List.mem_of_getElem? (i := 19) (by decide +kernel)))
theorem ol6_ok : ∀ q ∈ ol6, OLok 6 q := List.forall_mem_cons.mpr ⟨ol6_0, fun _ h => absurd h List.not_mem_nil⟩
def ol7 : List Nat := [3]
theorem ol7_0 : (fun q : Nat => OLok 7 q) 3 := (mt2 _ (List.mem_of_getElem? (i := 187) (by decide +kernel)))
theorem ol7_ok : ∀ q ∈ ol7, OLok 7 q := List.forall_mem_cons.mpr ⟨ol7_0, fun _ h => absurd h List.not_mem_nil⟩
def ol8 : List Nat := [3]
theorem ol8_0 : (fun q : Nat => OLok 8 q) 3 := (mt2 _ (List.mem_of_getElem? (i := 213) (by decide +kernel)))
theorem ol8_ok : ∀ q ∈ ol8, OLok 8 q := List.forall_mem_cons.mpr ⟨ol8_0, fun _ h => absurd h List.not_mem_nil⟩
def ol9 : List Nat := [3]
theorem ol9_0 : (fun q : Nat => OLok 9 q) 3 := (mt1 _ (List.mem_of_getElem? (i := 57) (by decide +kernel)))
theorem ol9_ok : ∀ q ∈ ol9, OLok 9 q := List.forall_mem_cons.mpr ⟨ol9_0, fun _ h => absurd h List.not_mem_nil⟩
def ol10 : List Nat := [3]
theorem ol10_0 : (fun q : Nat => OLok 10 q) 3 := (mt1 _ (List.mem_of_getElem? (i := 36) (by decide +kernel)))
theorem ol10_ok : ∀ q ∈ ol10, OLok 10 q := List.forall_mem_cons.mpr ⟨ol10_0, fun _ h => absurd h List.not_mem_nil⟩
def ol11 : List Nat := [1]
theorem ol11_0 : (fun q : Nat => OLok 11 q) 1 := (mt1 _ (List.mem_of_getElem? (i := 27) (by decide +kernel)))
theorem ol11_ok : ∀ q ∈ ol11, OLok 11 q := List.forall_mem_cons.mpr ⟨ol11_0, fun _ h => absurd h List.not_mem_nil⟩
def ol12 : List Nat := [1]
theorem ol12_0 : (fun q : Nat => OLok 12 q) 1 := (mt6 _ (List.mem_of_getElem? (i := 189) (by decide +kernel)))
theorem ol12_ok : ∀ q ∈ ol12, OLok 12 q := List.forall_mem_cons.mpr ⟨ol12_0, fun _ h => absurd h List.not_mem_nil⟩
def ol13 : List Nat := []
theorem ol13_ok : ∀ q ∈ ol13, OLok 13 q := fun _ h => absurd h List.not_mem_nil
def ol14 : List Nat := []
theorem ol14_ok : ∀ q ∈ ol14, OLok 14 q := fun _ h => absurd h List.not_mem_nil
def ol15 : List Nat := []
theorem ol15_ok : ∀ q ∈ ol15, OLok 15 q := fun _ h => absurd h List.not_mem_nil
def olT : List (List Nat) := [ol0, ol1, ol2, ol3, ol4, ol5, ol6, ol7, ol8, ol9, ol10, ol11, ol12, ol13, ol14, ol15]
def ALok (oc idx : Nat) : Prop := Cond.methodLink (cN oc) idx arraycopyName ∈ lw_tbl
def al0 : List Nat := [57]
theorem al0_0 : (fun q : Nat => ALok 0 q) 57 := (mt2 _ (List.mem_of_getElem? (i := 47) (by decide +kernel)))
theorem al0_ok : ∀ q ∈ al0, ALok 0 q := List.forall_mem_cons.mpr ⟨al0_0, fun _ h => absurd h List.not_mem_nil⟩
def al1 : List Nat := []
theorem al1_ok : ∀ q ∈ al1, ALok 1 q := fun _ h => absurd h List.not_mem_nil
def al2 : List Nat := []
theorem al2_ok : ∀ q ∈ al2, ALok 2 q := fun _ h => absurd h List.not_mem_nil
def al3 : List Nat := []
theorem al3_ok : ∀ q ∈ al3, ALok 3 q := fun _ h => absurd h List.not_mem_nil
def al4 : List Nat := []
theorem al4_ok : ∀ q ∈ al4, ALok 4 q := fun _ h => absurd h List.not_mem_nil
def al5 : List Nat := [38]
theorem al5_0 : (fun q : Nat => ALok 5 q) 38 := (mt4 _ (List.mem_of_getElem? (i := 132) (by decide +kernel)))
theorem al5_ok : ∀ q ∈ al5, ALok 5 q := List.forall_mem_cons.mpr ⟨al5_0, fun _ h => absurd h List.not_mem_nil⟩
def al6 : List Nat := []
theorem al6_ok : ∀ q ∈ al6, ALok 6 q := fun _ h => absurd h List.not_mem_nil
def al7 : List Nat := []
theorem al7_ok : ∀ q ∈ al7, ALok 7 q := fun _ h => absurd h List.not_mem_nil
def al8 : List Nat := []
theorem al8_ok : ∀ q ∈ al8, ALok 8 q := fun _ h => absurd h List.not_mem_nil
def al9 : List Nat := []
theorem al9_ok : ∀ q ∈ al9, ALok 9 q := fun _ h => absurd h List.not_mem_nil
def al10 : List Nat := []
theorem al10_ok : ∀ q ∈ al10, ALok 10 q := fun _ h => absurd h List.not_mem_nil
def al11 : List Nat := [183]
theorem al11_0 : (fun q : Nat => ALok 11 q) 183 := (mt3 _ (List.mem_of_getElem? (i := 197) (by decide +kernel)))
theorem al11_ok : ∀ q ∈ al11, ALok 11 q := List.forall_mem_cons.mpr ⟨al11_0, fun _ h => absurd h List.not_mem_nil⟩
def al12 : List Nat := []
theorem al12_ok : ∀ q ∈ al12, ALok 12 q := fun _ h => absurd h List.not_mem_nil
def al13 : List Nat := []
theorem al13_ok : ∀ q ∈ al13, ALok 13 q := fun _ h => absurd h List.not_mem_nil
def al14 : List Nat := []
theorem al14_ok : ∀ q ∈ al14, ALok 14 q := fun _ h => absurd h List.not_mem_nil
def al15 : List Nat := []
theorem al15_ok : ∀ q ∈ al15, ALok 15 q := fun _ h => absurd h List.not_mem_nil
def alT : List (List Nat) := [al0, al1, al2, al3, al4, al5, al6, al7, al8, al9, al10, al11, al12, al13, al14, al15]
def hN (k : Nat) : MethodName := if k = 904 then Lib.Math.max.name else if k = 905 then Lib.Math.min.name else Lib.MathLoose.abs_long.x
def HLok (oc idx k : Nat) : Prop := (k = 904 ∨ k = 905 ∨ k = 906) ∧ Cond.methodLink (cN oc) idx (hN k) ∈ lw_tbl
def hl0 : List (Nat × Nat) := [(131, 904), (137, 905)]
theorem hl0_0 : (fun q : (Nat × Nat) => HLok 0 q.1 q.2) (131, 904) := ⟨by decide, (mt5 _ (List.mem_of_getElem? (i := 102) (by decide +kernel)))⟩
theorem hl0_1 : (fun q : (Nat × Nat) => HLok 0 q.1 q.2) (137, 905) := ⟨by decide, (mt5 _ (List.mem_of_getElem? (i := 103) (by decide +kernel)))⟩
theorem hl0_ok : ∀ q ∈ hl0, HLok 0 q.1 q.2 := List.forall_mem_cons.mpr ⟨hl0_0, List.forall_mem_cons.mpr ⟨hl0_1, fun _ h => absurd h List.not_mem_nil⟩⟩
def hl1 : List (Nat × Nat) := []
theorem hl1_ok : ∀ q ∈ hl1, HLok 1 q.1 q.2 := fun _ h => absurd h List.not_mem_nil
def hl2 : List (Nat × Nat) := [(44, 904), (50, 905)]
theorem hl2_0 : (fun q : (Nat × Nat) => HLok 2 q.1 q.2) (44, 904) := ⟨by decide, (mt4 _ (List.mem_of_getElem? (i := 219) (by decide +kernel)))⟩
theorem hl2_1 : (fun q : (Nat × Nat) => HLok 2 q.1 q.2) (50, 905) := ⟨by decide, (mt4 _ (List.mem_of_getElem? (i := 222) (by decide +kernel)))⟩
theorem hl2_ok : ∀ q ∈ hl2, HLok 2 q.1 q.2 := List.forall_mem_cons.mpr ⟨hl2_0, List.forall_mem_cons.mpr ⟨hl2_1, fun _ h => absurd h List.not_mem_nil⟩⟩
def hl3 : List (Nat × Nat) := [(62, 904)]
theorem hl3_0 : (fun q : (Nat × Nat) => HLok 3 q.1 q.2) (62, 904) := ⟨by decide, (mt6 _ (List.mem_of_getElem? (i := 167) (by decide +kernel)))⟩
theorem hl3_ok : ∀ q ∈ hl3, HLok 3 q.1 q.2 := List.forall_mem_cons.mpr ⟨hl3_0, fun _ h => absurd h List.not_mem_nil⟩
def hl4 : List (Nat × Nat) := [(80, 905)]
theorem hl4_0 : (fun q : (Nat × Nat) => HLok 4 q.1 q.2) (80, 905) := ⟨by decide, (mt5 _ (List.mem_of_getElem? (i := 0) (by decide +kernel)))⟩
theorem hl4_ok : ∀ q ∈ hl4, HLok 4 q.1 q.2 := List.forall_mem_cons.mpr ⟨hl4_0, fun _ h => absurd h List.not_mem_nil⟩
def hl5 : List (Nat × Nat) := []
theorem hl5_ok : ∀ q ∈ hl5, HLok 5 q.1 q.2 := fun _ h => absurd h List.not_mem_nil
def hl6 : List (Nat × Nat) := []
theorem hl6_ok : ∀ q ∈ hl6, HLok 6 q.1 q.2 := fun _ h => absurd h List.not_mem_nil
def hl7 : List (Nat × Nat) := []
theorem hl7_ok : ∀ q ∈ hl7, HLok 7 q.1 q.2 := fun _ h => absurd h List.not_mem_nil
def hl8 : List (Nat × Nat) := [(72, 904)]
theorem hl8_0 : (fun q : (Nat × Nat) => HLok 8 q.1 q.2) (72, 904) := ⟨by decide, (mt6 _ (List.mem_of_getElem? (i := 106) (by decide +kernel)))⟩
theorem hl8_ok : ∀ q ∈ hl8, HLok 8 q.1 q.2 := List.forall_mem_cons.mpr ⟨hl8_0, fun _ h => absurd h List.not_mem_nil⟩
def hl9 : List (Nat × Nat) := []
theorem hl9_ok : ∀ q ∈ hl9, HLok 9 q.1 q.2 := fun _ h => absurd h List.not_mem_nil
def hl10 : List (Nat × Nat) := []
theorem hl10_ok : ∀ q ∈ hl10, HLok 10 q.1 q.2 := fun _ h => absurd h List.not_mem_nil
def hl11 : List (Nat × Nat) := [(202, 905)]
theorem hl11_0 : (fun q : (Nat × Nat) => HLok 11 q.1 q.2) (202, 905) := ⟨by decide, (mt4 _ (List.mem_of_getElem? (i := 141) (by decide +kernel)))⟩
theorem hl11_ok : ∀ q ∈ hl11, HLok 11 q.1 q.2 := List.forall_mem_cons.mpr ⟨hl11_0, fun _ h => absurd h List.not_mem_nil⟩
def hl12 : List (Nat × Nat) := [(266, 904), (347, 905), (69, 906)]
theorem hl12_0 : (fun q : (Nat × Nat) => HLok 12 q.1 q.2) (266, 904) := ⟨by decide, (mt8 _ (List.mem_of_getElem? (i := 93) (by decide +kernel)))⟩
theorem hl12_1 : (fun q : (Nat × Nat) => HLok 12 q.1 q.2) (347, 905) := ⟨by decide, (mt8 _ (List.mem_of_getElem? (i := 187) (by decide +kernel)))⟩
theorem hl12_2 : (fun q : (Nat × Nat) => HLok 12 q.1 q.2) (69, 906) := ⟨by decide, (mt9 _ (List.mem_of_getElem? (i := 208) (by decide +kernel)))⟩
theorem hl12_ok : ∀ q ∈ hl12, HLok 12 q.1 q.2 := List.forall_mem_cons.mpr ⟨hl12_0, List.forall_mem_cons.mpr ⟨hl12_1, List.forall_mem_cons.mpr ⟨hl12_2, fun _ h => absurd h List.not_mem_nil⟩⟩⟩
def hl13 : List (Nat × Nat) := []
theorem hl13_ok : ∀ q ∈ hl13, HLok 13 q.1 q.2 := fun _ h => absurd h List.not_mem_nil
def hl14 : List (Nat × Nat) := []
theorem hl14_ok : ∀ q ∈ hl14, HLok 14 q.1 q.2 := fun _ h => absurd h List.not_mem_nil
def hl15 : List (Nat × Nat) := []
theorem hl15_ok : ∀ q ∈ hl15, HLok 15 q.1 q.2 := fun _ h => absurd h List.not_mem_nil
def hlT : List (List (Nat × Nat)) := [hl0, hl1, hl2, hl3, hl4, hl5, hl6, hl7, hl8, hl9, hl10, hl11, hl12, hl13, hl14, hl15]
theorem h_ini : Cond.initialized "java/lang/Math" ∈ lw_tbl := (mt1 _ (List.mem_of_getElem? (i := 20) (by decide +kernel)))
theorem h_stat904 : Cond.static Lib.Math.max.name ∈ lw_tbl := (mt4 _ (List.mem_of_getElem? (i := 220) (by decide +kernel)))
theorem h_code904 : Cond.code Lib.Math.max.name Lib.Math.max.code 2 (some .int) ∈ lw_tbl := (mt4 _ (List.mem_of_getElem? (i := 221) (by decide +kernel)))
theorem h_stat905 : Cond.static Lib.Math.min.name ∈ lw_tbl := (mt4 _ (List.mem_of_getElem? (i := 142) (by decide +kernel)))
theorem h_code905 : Cond.code Lib.Math.min.name Lib.Math.min.code 2 (some .int) ∈ lw_tbl := (mt4 _ (List.mem_of_getElem? (i := 143) (by decide +kernel)))
theorem h_stat906 : Cond.static Lib.MathLoose.abs_long.x ∈ lw_tbl := (mt9 _ (List.mem_of_getElem? (i := 209) (by decide +kernel)))
theorem h_code906 : Cond.code Lib.MathLoose.abs_long.x Lib.MathLoose.abs_long.code 2 (some .long) ∈ lw_tbl := (mt9 _ (List.mem_of_getElem? (i := 210) (by decide +kernel)))
theorem ob_inst : Cond.instanceMethod objectInit ∈ lw_tbl := (mt1 _ (List.mem_of_getElem? (i := 28) (by decide +kernel)))
theorem ob_code : Cond.code objectInit ⟨#[0xb1]⟩ 1 none ∈ lw_tbl := (mt1 _ (List.mem_of_getElem? (i := 29) (by decide +kernel)))
theorem ac_nat : Cond.native arraycopyName ∈ lw_tbl := (mt2 _ (List.mem_of_getElem? (i := 49) (by decide +kernel)))
theorem ac_stat : Cond.static arraycopyName ∈ lw_tbl := (mt2 _ (List.mem_of_getElem? (i := 48) (by decide +kernel)))
theorem ac_ini : Cond.initialized "java/lang/System" ∈ lw_tbl := (mt1 _ (List.mem_of_getElem? (i := 11) (by decide +kernel)))
theorem arr_int : Cond.arrayClass .int ∈ lw_tbl := (mt1 _ (List.mem_of_getElem? (i := 218) (by decide +kernel)))
theorem arr_long : Cond.arrayClass .long ∈ lw_tbl := (mt1 _ (List.mem_of_getElem? (i := 51) (by decide +kernel)))
theorem arr_byte : Cond.arrayClass .byte ∈ lw_tbl := (mt1 _ (List.mem_of_getElem? (i := 161) (by decide +kernel)))
theorem arr_over (k : Nat) (h : k = 3 ∨ k = 4 ∨ k = 5) : Cond.arrayOver (.object (aC k)) ∈ lw_tbl := by
  rcases h with rfl | rfl | rfl
  · exact (mt1 _ (List.mem_of_getElem? (i := 169) (by decide +kernel)))
  · exact (mt1 _ (List.mem_of_getElem? (i := 31) (by decide +kernel)))
  · exact (mt2 _ (List.mem_of_getElem? (i := 140) (by decide +kernel)))

theorem okw {w : Cond} (h : w ∈ lw_tbl) (g : goodWord w = true) : w ∈ lw_ok := List.mem_filter.mpr ⟨h, g⟩
theorem new_ {w : Cond} (h : w ∈ lw_tbl) (g : isNest w = true) : w ∈ lw_nest := List.mem_filter.mpr ⟨h, g⟩
theorem in0 {q : MethodName × Nat} (i : Nat) (h : lw_privs[i]? = some q) : Cond.selects q.1.cls q.1 q.1 ∈ lw_tbl := List.mem_append_left _ (List.mem_map.mpr ⟨q, List.mem_of_getElem? h, rfl⟩)
theorem in1 {w : Cond} (i : Nat) (h : tables_1_1[i]? = some w) : w ∈ lw_tbl := List.mem_append_right _ (List.mem_append_left _ (List.mem_of_getElem? h))
theorem in2 {w : Cond} (i : Nat) (h : tables_1_2[i]? = some w) : w ∈ lw_tbl := List.mem_append_right _ (List.mem_append_right _ (List.mem_append_left _ (List.mem_of_getElem? h)))
theorem in3 {w : Cond} (i : Nat) (h : tables_1_3[i]? = some w) : w ∈ lw_tbl := List.mem_append_right _ (List.mem_append_right _ (List.mem_append_right _ (List.mem_append_left _ (List.mem_of_getElem? h))))
theorem in4 {w : Cond} (i : Nat) (h : tables_1_4[i]? = some w) : w ∈ lw_tbl := List.mem_append_right _ (List.mem_append_right _ (List.mem_append_right _ (List.mem_append_right _ (List.mem_append_left _ (List.mem_of_getElem? h)))))
theorem in5 {w : Cond} (i : Nat) (h : tables_1_5[i]? = some w) : w ∈ lw_tbl := List.mem_append_right _ (List.mem_append_right _ (List.mem_append_right _ (List.mem_append_right _ (List.mem_append_right _ (List.mem_append_left _ (List.mem_of_getElem? h))))))
theorem in6 {w : Cond} (i : Nat) (h : tables_1_6[i]? = some w) : w ∈ lw_tbl := List.mem_append_right _ (List.mem_append_right _ (List.mem_append_right _ (List.mem_append_right _ (List.mem_append_right _ (List.mem_append_right _ (List.mem_append_left _ (List.mem_of_getElem? h)))))))
theorem in7 {w : Cond} (i : Nat) (h : tables_1_7[i]? = some w) : w ∈ lw_tbl := List.mem_append_right _ (List.mem_append_right _ (List.mem_append_right _ (List.mem_append_right _ (List.mem_append_right _ (List.mem_append_right _ (List.mem_append_right _ (List.mem_append_left _ (List.mem_of_getElem? h))))))))
theorem in8 {w : Cond} (i : Nat) (h : tables_1_8[i]? = some w) : w ∈ lw_tbl := List.mem_append_right _ (List.mem_append_right _ (List.mem_append_right _ (List.mem_append_right _ (List.mem_append_right _ (List.mem_append_right _ (List.mem_append_right _ (List.mem_append_right _ (List.mem_of_getElem? h))))))))
theorem iX0_init : MI mX0_init 0 := ⟨⟨okw (in1 95 (by decide +kernel)) (by decide +kernel), okw (in1 4 (by decide +kernel)) (by decide +kernel), ⟨by decide +kernel, by decide +kernel, by decide +kernel⟩, by decide⟩, rfl, okw (in1 94 (by decide +kernel)) (by decide +kernel), rfl⟩
theorem iX0_settle : MV mX0_settle 1 := ⟨⟨okw (in3 143 (by decide +kernel)) (by decide +kernel), okw (in1 4 (by decide +kernel)) (by decide +kernel), ⟨by decide +kernel, by decide +kernel, by decide +kernel⟩, by decide⟩, okw (in3 142 (by decide +kernel)) (by decide +kernel), okw (in0 (q := (⟨"SureHunters$Dismantling", "settle", "(LSureHunters$Net;)V"⟩, 5)) 37 (by decide +kernel)) rfl⟩
theorem iX0_takeLeastCorner : MV mX0_takeLeastCorner 1 := ⟨⟨okw (in3 151 (by decide +kernel)) (by decide +kernel), okw (in1 4 (by decide +kernel)) (by decide +kernel), ⟨by decide +kernel, by decide +kernel, by decide +kernel⟩, by decide⟩, okw (in3 150 (by decide +kernel)) (by decide +kernel), okw (in0 (q := (⟨"SureHunters$Dismantling", "takeLeastCorner", "(LSureHunters$Net;)V"⟩, 5)) 39 (by decide +kernel)) rfl⟩
theorem iX0_cornerBy : MS mX0_cornerBy 3 := ⟨⟨okw (in3 154 (by decide +kernel)) (by decide +kernel), okw (in1 4 (by decide +kernel)) (by decide +kernel), ⟨by decide +kernel, by decide +kernel, by decide +kernel⟩, by decide⟩, okw (in3 153 (by decide +kernel)) (by decide +kernel)⟩
theorem iX0_comesAtLast : MV mX0_comesAtLast 1 := ⟨⟨okw (in3 186 (by decide +kernel)) (by decide +kernel), okw (in1 4 (by decide +kernel)) (by decide +kernel), ⟨by decide +kernel, by decide +kernel, by decide +kernel⟩, by decide⟩, okw (in3 185 (by decide +kernel)) (by decide +kernel), okw (in0 (q := (⟨"SureHunters$Dismantling", "comesAtLast", "(I)I"⟩, 5)) 41 (by decide +kernel)) rfl⟩
theorem iX1_init : MI mX1_init 3 := ⟨⟨okw (in1 180 (by decide +kernel)) (by decide +kernel), okw (in1 8 (by decide +kernel)) (by decide +kernel), ⟨by decide +kernel, by decide +kernel, by decide +kernel⟩, by decide⟩, rfl, okw (in1 179 (by decide +kernel)) (by decide +kernel), rfl⟩
theorem iX1_clear : MV mX1_clear 0 := ⟨⟨okw (in3 202 (by decide +kernel)) (by decide +kernel), okw (in1 8 (by decide +kernel)) (by decide +kernel), ⟨by decide +kernel, by decide +kernel, by decide +kernel⟩, by decide⟩, okw (in3 201 (by decide +kernel)) (by decide +kernel), okw (in0 (q := (⟨"SureHunters$Game", "clear", "()V"⟩, 9)) 44 (by decide +kernel)) rfl⟩
theorem iX1_indexOf : MV mX1_indexOf 2 := ⟨⟨okw (in3 221 (by decide +kernel)) (by decide +kernel), okw (in1 8 (by decide +kernel)) (by decide +kernel), ⟨by decide +kernel, by decide +kernel, by decide +kernel⟩, by decide⟩, okw (in3 220 (by decide +kernel)) (by decide +kernel), okw (in0 (q := (⟨"SureHunters$Game", "indexOf", "(II)I"⟩, 9)) 48 (by decide +kernel)) rfl⟩
theorem iX1_worthAt : MV mX1_worthAt 2 := ⟨⟨okw (in4 28 (by decide +kernel)) (by decide +kernel), okw (in1 8 (by decide +kernel)) (by decide +kernel), ⟨by decide +kernel, by decide +kernel, by decide +kernel⟩, by decide⟩, okw (in4 27 (by decide +kernel)) (by decide +kernel), okw (in0 (q := (⟨"SureHunters$Game", "worthAt", "(II)I"⟩, 9)) 59 (by decide +kernel)) rfl⟩
theorem iX1_setWorth : MV mX1_setWorth 3 := ⟨⟨okw (in3 217 (by decide +kernel)) (by decide +kernel), okw (in1 8 (by decide +kernel)) (by decide +kernel), ⟨by decide +kernel, by decide +kernel, by decide +kernel⟩, by decide⟩, okw (in3 216 (by decide +kernel)) (by decide +kernel), okw (in0 (q := (⟨"SureHunters$Game", "setWorth", "(III)V"⟩, 9)) 47 (by decide +kernel)) rfl⟩
theorem iX1_sureBits : MV mX1_sureBits 2 := ⟨⟨okw (in4 68 (by decide +kernel)) (by decide +kernel), okw (in1 8 (by decide +kernel)) (by decide +kernel), ⟨by decide +kernel, by decide +kernel, by decide +kernel⟩, by decide⟩, okw (in4 67 (by decide +kernel)) (by decide +kernel), okw (in0 (q := (⟨"SureHunters$Game", "sureBits", "(II)I"⟩, 9)) 63 (by decide +kernel)) rfl⟩
theorem iX2_init : MI mX2_init 1 := ⟨⟨okw (in1 121 (by decide +kernel)) (by decide +kernel), okw (in1 5 (by decide +kernel)) (by decide +kernel), ⟨by decide +kernel, by decide +kernel, by decide +kernel⟩, by decide⟩, rfl, okw (in1 120 (by decide +kernel)) (by decide +kernel), rfl⟩
theorem iX2_renew : MV mX2_renew 0 := ⟨⟨okw (in3 70 (by decide +kernel)) (by decide +kernel), okw (in1 5 (by decide +kernel)) (by decide +kernel), ⟨by decide +kernel, by decide +kernel, by decide +kernel⟩, by decide⟩, okw (in3 69 (by decide +kernel)) (by decide +kernel), okw (in0 (q := (⟨"SureHunters$Games", "renew", "()V"⟩, 6)) 25 (by decide +kernel)) rfl⟩
theorem iX2_solved : MV mX2_solved 2 := ⟨⟨okw (in3 194 (by decide +kernel)) (by decide +kernel), okw (in1 5 (by decide +kernel)) (by decide +kernel), ⟨by decide +kernel, by decide +kernel, by decide +kernel⟩, by decide⟩, okw (in3 193 (by decide +kernel)) (by decide +kernel), okw (in0 (q := (⟨"SureHunters$Games", "solved", "(II)LSureHunters$Game;"⟩, 6)) 42 (by decide +kernel)) rfl⟩
theorem iX2_solve : MV mX2_solve 1 := ⟨⟨okw (in3 198 (by decide +kernel)) (by decide +kernel), okw (in1 5 (by decide +kernel)) (by decide +kernel), ⟨by decide +kernel, by decide +kernel, by decide +kernel⟩, by decide⟩, okw (in3 197 (by decide +kernel)) (by decide +kernel), okw (in0 (q := (⟨"SureHunters$Games", "solve", "(LSureHunters$Game;)V"⟩, 6)) 43 (by decide +kernel)) rfl⟩
theorem iX2_isOnNet : MV mX2_isOnNet 1 := ⟨⟨okw (in3 208 (by decide +kernel)) (by decide +kernel), okw (in1 5 (by decide +kernel)) (by decide +kernel), ⟨by decide +kernel, by decide +kernel, by decide +kernel⟩, by decide⟩, okw (in3 207 (by decide +kernel)) (by decide +kernel), okw (in0 (q := (⟨"SureHunters$Games", "isOnNet", "(I)Z"⟩, 6)) 45 (by decide +kernel)) rfl⟩
theorem iX2_spreadHeld : MV mX2_spreadHeld 1 := ⟨⟨okw (in3 225 (by decide +kernel)) (by decide +kernel), okw (in1 5 (by decide +kernel)) (by decide +kernel), ⟨by decide +kernel, by decide +kernel, by decide +kernel⟩, by decide⟩, okw (in3 224 (by decide +kernel)) (by decide +kernel), okw (in0 (q := (⟨"SureHunters$Games", "spreadHeld", "(LSureHunters$Game;)V"⟩, 6)) 49 (by decide +kernel)) rfl⟩
theorem iX2_holds : MV mX2_holds 2 := ⟨⟨okw (in3 229 (by decide +kernel)) (by decide +kernel), okw (in1 5 (by decide +kernel)) (by decide +kernel), ⟨by decide +kernel, by decide +kernel, by decide +kernel⟩, by decide⟩, okw (in3 228 (by decide +kernel)) (by decide +kernel), okw (in0 (q := (⟨"SureHunters$Games", "holds", "(LSureHunters$Game;I)I"⟩, 6)) 50 (by decide +kernel)) rfl⟩
theorem iX2_takeNews : MV mX2_takeNews 2 := ⟨⟨okw (in4 15 (by decide +kernel)) (by decide +kernel), okw (in1 5 (by decide +kernel)) (by decide +kernel), ⟨by decide +kernel, by decide +kernel, by decide +kernel⟩, by decide⟩, okw (in4 14 (by decide +kernel)) (by decide +kernel), okw (in0 (q := (⟨"SureHunters$Games", "takeNews", "(LSureHunters$Game;I)Z"⟩, 6)) 56 (by decide +kernel)) rfl⟩
theorem iX2_findOpening : MV mX2_findOpening 1 := ⟨⟨okw (in4 19 (by decide +kernel)) (by decide +kernel), okw (in1 5 (by decide +kernel)) (by decide +kernel), ⟨by decide +kernel, by decide +kernel, by decide +kernel⟩, by decide⟩, okw (in4 18 (by decide +kernel)) (by decide +kernel), okw (in0 (q := (⟨"SureHunters$Games", "findOpening", "(LSureHunters$Game;)V"⟩, 6)) 57 (by decide +kernel)) rfl⟩
theorem iX2_rankOf : MS mX2_rankOf 1 := ⟨⟨okw (in4 31 (by decide +kernel)) (by decide +kernel), okw (in1 5 (by decide +kernel)) (by decide +kernel), ⟨by decide +kernel, by decide +kernel, by decide +kernel⟩, by decide⟩, okw (in4 30 (by decide +kernel)) (by decide +kernel)⟩
theorem iX2_worthOf : MS mX2_worthOf 1 := ⟨⟨okw (in4 36 (by decide +kernel)) (by decide +kernel), okw (in1 5 (by decide +kernel)) (by decide +kernel), ⟨by decide +kernel, by decide +kernel, by decide +kernel⟩, by decide⟩, okw (in4 35 (by decide +kernel)) (by decide +kernel)⟩
theorem iX2_greatestRank : MV mX2_greatestRank 3 := ⟨⟨okw (in4 24 (by decide +kernel)) (by decide +kernel), okw (in1 5 (by decide +kernel)) (by decide +kernel), ⟨by decide +kernel, by decide +kernel, by decide +kernel⟩, by decide⟩, okw (in4 23 (by decide +kernel)) (by decide +kernel), okw (in0 (q := (⟨"SureHunters$Games", "greatestRank", "(LSureHunters$Game;II)I"⟩, 6)) 58 (by decide +kernel)) rfl⟩
theorem iX2_reach : MV mX2_reach 3 := ⟨⟨okw (in3 233 (by decide +kernel)) (by decide +kernel), okw (in1 5 (by decide +kernel)) (by decide +kernel), ⟨by decide +kernel, by decide +kernel, by decide +kernel⟩, by decide⟩, okw (in3 232 (by decide +kernel)) (by decide +kernel), okw (in0 (q := (⟨"SureHunters$Games", "reach", "(III)I"⟩, 6)) 51 (by decide +kernel)) rfl⟩
theorem iX2_runnersRank : MV mX2_runnersRank 3 := ⟨⟨okw (in4 109 (by decide +kernel)) (by decide +kernel), okw (in1 5 (by decide +kernel)) (by decide +kernel), ⟨by decide +kernel, by decide +kernel, by decide +kernel⟩, by decide⟩, okw (in4 108 (by decide +kernel)) (by decide +kernel), okw (in0 (q := (⟨"SureHunters$Games", "runnersRank", "(LSureHunters$Game;II)I"⟩, 6)) 68 (by decide +kernel)) rfl⟩
theorem iX2_runnersWorth : MV mX2_runnersWorth 3 := ⟨⟨okw (in5 39 (by decide +kernel)) (by decide +kernel), okw (in1 5 (by decide +kernel)) (by decide +kernel), ⟨by decide +kernel, by decide +kernel, by decide +kernel⟩, by decide⟩, okw (in5 38 (by decide +kernel)) (by decide +kernel), okw (in0 (q := (⟨"SureHunters$Games", "runnersWorth", "(LSureHunters$Game;II)I"⟩, 6)) 95 (by decide +kernel)) rfl⟩
theorem iX2_bestRow : MV mX2_bestRow 3 := ⟨⟨okw (in4 105 (by decide +kernel)) (by decide +kernel), okw (in1 5 (by decide +kernel)) (by decide +kernel), ⟨by decide +kernel, by decide +kernel, by decide +kernel⟩, by decide⟩, okw (in4 104 (by decide +kernel)) (by decide +kernel), okw (in0 (q := (⟨"SureHunters$Games", "bestRow", "(LSureHunters$Game;II)I"⟩, 6)) 67 (by decide +kernel)) rfl⟩
theorem iX2_bestPlace : MV mX2_bestPlace 3 := ⟨⟨okw (in5 52 (by decide +kernel)) (by decide +kernel), okw (in1 5 (by decide +kernel)) (by decide +kernel), ⟨by decide +kernel, by decide +kernel, by decide +kernel⟩, by decide⟩, okw (in5 51 (by decide +kernel)) (by decide +kernel), okw (in0 (q := (⟨"SureHunters$Games", "bestPlace", "(LSureHunters$Game;II)I"⟩, 6)) 97 (by decide +kernel)) rfl⟩
theorem iX2_safeBits : MV mX2_safeBits 3 := ⟨⟨okw (in5 61 (by decide +kernel)) (by decide +kernel), okw (in1 5 (by decide +kernel)) (by decide +kernel), ⟨by decide +kernel, by decide +kernel, by decide +kernel⟩, by decide⟩, okw (in5 60 (by decide +kernel)) (by decide +kernel), okw (in0 (q := (⟨"SureHunters$Games", "safeBits", "(LSureHunters$Game;II)I"⟩, 6)) 98 (by decide +kernel)) rfl⟩
theorem iX2_refusedCouple : MV mX2_refusedCouple 2 := ⟨⟨okw (in4 81 (by decide +kernel)) (by decide +kernel), okw (in1 5 (by decide +kernel)) (by decide +kernel), ⟨by decide +kernel, by decide +kernel, by decide +kernel⟩, by decide⟩, okw (in4 80 (by decide +kernel)) (by decide +kernel), okw (in0 (q := (⟨"SureHunters$Games", "refusedCouple", "(LSureHunters$Game;I)I"⟩, 6)) 64 (by decide +kernel)) rfl⟩
theorem iX2_tryOut : MV mX2_tryOut 2 := ⟨⟨okw (in4 89 (by decide +kernel)) (by decide +kernel), okw (in1 5 (by decide +kernel)) (by decide +kernel), ⟨by decide +kernel, by decide +kernel, by decide +kernel⟩, by decide⟩, okw (in4 88 (by decide +kernel)) (by decide +kernel), okw (in0 (q := (⟨"SureHunters$Games", "tryOut", "(LSureHunters$Game;I)I"⟩, 6)) 65 (by decide +kernel)) rfl⟩
theorem iX2_nextSeed : MS mX2_nextSeed 1 := ⟨⟨okw (in4 92 (by decide +kernel)) (by decide +kernel), okw (in1 5 (by decide +kernel)) (by decide +kernel), ⟨by decide +kernel, by decide +kernel, by decide +kernel⟩, by decide⟩, okw (in4 91 (by decide +kernel)) (by decide +kernel)⟩
theorem iX2_drawn : MS mX2_drawn 2 := ⟨⟨okw (in4 96 (by decide +kernel)) (by decide +kernel), okw (in1 5 (by decide +kernel)) (by decide +kernel), ⟨by decide +kernel, by decide +kernel, by decide +kernel⟩, by decide⟩, okw (in4 95 (by decide +kernel)) (by decide +kernel)⟩
theorem iX3_init : MI mX3_init 0 := ⟨⟨okw (in1 75 (by decide +kernel)) (by decide +kernel), okw (in1 3 (by decide +kernel)) (by decide +kernel), ⟨by decide +kernel, by decide +kernel, by decide +kernel⟩, by decide⟩, rfl, okw (in1 74 (by decide +kernel)) (by decide +kernel), rfl⟩
theorem iX3_clear : MV mX3_clear 0 := ⟨⟨okw (in2 169 (by decide +kernel)) (by decide +kernel), okw (in1 3 (by decide +kernel)) (by decide +kernel), ⟨by decide +kernel, by decide +kernel, by decide +kernel⟩, by decide⟩, okw (in2 168 (by decide +kernel)) (by decide +kernel), okw (in0 (q := (⟨"SureHunters$Net", "clear", "()V"⟩, 2)) 4 (by decide +kernel)) rfl⟩
theorem iX3_copyFrom : MV mX3_copyFrom 1 := ⟨⟨okw (in3 58 (by decide +kernel)) (by decide +kernel), okw (in1 3 (by decide +kernel)) (by decide +kernel), ⟨by decide +kernel, by decide +kernel, by decide +kernel⟩, by decide⟩, okw (in3 57 (by decide +kernel)) (by decide +kernel), okw (in0 (q := (⟨"SureHunters$Net", "copyFrom", "(LSureHunters$Net;)V"⟩, 2)) 22 (by decide +kernel)) rfl⟩
theorem iX3_sameAs : MV mX3_sameAs 1 := ⟨⟨okw (in5 136 (by decide +kernel)) (by decide +kernel), okw (in1 3 (by decide +kernel)) (by decide +kernel), ⟨by decide +kernel, by decide +kernel, by decide +kernel⟩, by decide⟩, okw (in5 135 (by decide +kernel)) (by decide +kernel), okw (in0 (q := (⟨"SureHunters$Net", "sameAs", "(LSureHunters$Net;)Z"⟩, 2)) 108 (by decide +kernel)) rfl⟩
theorem iX3_has : MV mX3_has 1 := ⟨⟨okw (in3 46 (by decide +kernel)) (by decide +kernel), okw (in1 3 (by decide +kernel)) (by decide +kernel), ⟨by decide +kernel, by decide +kernel, by decide +kernel⟩, by decide⟩, okw (in3 45 (by decide +kernel)) (by decide +kernel), okw (in0 (q := (⟨"SureHunters$Net", "has", "(I)Z"⟩, 2)) 19 (by decide +kernel)) rfl⟩
theorem iX3_all : MV mX3_all 0 := ⟨⟨okw (in3 147 (by decide +kernel)) (by decide +kernel), okw (in1 3 (by decide +kernel)) (by decide +kernel), ⟨by decide +kernel, by decide +kernel, by decide +kernel⟩, by decide⟩, okw (in3 146 (by decide +kernel)) (by decide +kernel), okw (in0 (q := (⟨"SureHunters$Net", "all", "()I"⟩, 2)) 38 (by decide +kernel)) rfl⟩
theorem iX3_addPlace : MV mX3_addPlace 0 := ⟨⟨okw (in3 26 (by decide +kernel)) (by decide +kernel), okw (in1 3 (by decide +kernel)) (by decide +kernel), ⟨by decide +kernel, by decide +kernel, by decide +kernel⟩, by decide⟩, okw (in3 25 (by decide +kernel)) (by decide +kernel), okw (in0 (q := (⟨"SureHunters$Net", "addPlace", "()V"⟩, 2)) 14 (by decide +kernel)) rfl⟩
theorem iX3_around : MV mX3_around 1 := ⟨⟨okw (in3 50 (by decide +kernel)) (by decide +kernel), okw (in1 3 (by decide +kernel)) (by decide +kernel), ⟨by decide +kernel, by decide +kernel, by decide +kernel⟩, by decide⟩, okw (in3 49 (by decide +kernel)) (by decide +kernel), okw (in0 (q := (⟨"SureHunters$Net", "around", "(I)I"⟩, 2)) 20 (by decide +kernel)) rfl⟩
theorem iX3_joined : MV mX3_joined 2 := ⟨⟨okw (in3 42 (by decide +kernel)) (by decide +kernel), okw (in1 3 (by decide +kernel)) (by decide +kernel), ⟨by decide +kernel, by decide +kernel, by decide +kernel⟩, by decide⟩, okw (in3 41 (by decide +kernel)) (by decide +kernel), okw (in0 (q := (⟨"SureHunters$Net", "joined", "(II)Z"⟩, 2)) 18 (by decide +kernel)) rfl⟩
theorem iX3_flip : MV mX3_flip 2 := ⟨⟨okw (in3 54 (by decide +kernel)) (by decide +kernel), okw (in1 3 (by decide +kernel)) (by decide +kernel), ⟨by decide +kernel, by decide +kernel, by decide +kernel⟩, by decide⟩, okw (in3 53 (by decide +kernel)) (by decide +kernel), okw (in0 (q := (⟨"SureHunters$Net", "flip", "(II)V"⟩, 2)) 21 (by decide +kernel)) rfl⟩
theorem iX3_linesAt : MV mX3_linesAt 1 := ⟨⟨okw (in3 96 (by decide +kernel)) (by decide +kernel), okw (in1 3 (by decide +kernel)) (by decide +kernel), ⟨by decide +kernel, by decide +kernel, by decide +kernel⟩, by decide⟩, okw (in3 95 (by decide +kernel)) (by decide +kernel), okw (in0 (q := (⟨"SureHunters$Net", "linesAt", "(I)I"⟩, 2)) 29 (by decide +kernel)) rfl⟩
theorem iX3_widen : MV mX3_widen 1 := ⟨⟨okw (in3 117 (by decide +kernel)) (by decide +kernel), okw (in1 3 (by decide +kernel)) (by decide +kernel), ⟨by decide +kernel, by decide +kernel, by decide +kernel⟩, by decide⟩, okw (in3 116 (by decide +kernel)) (by decide +kernel), okw (in0 (q := (⟨"SureHunters$Net", "widen", "(I)I"⟩, 2)) 32 (by decide +kernel)) rfl⟩
theorem iX3_lines : MV mX3_lines 0 := ⟨⟨okw (in3 92 (by decide +kernel)) (by decide +kernel), okw (in1 3 (by decide +kernel)) (by decide +kernel), ⟨by decide +kernel, by decide +kernel, by decide +kernel⟩, by decide⟩, okw (in3 91 (by decide +kernel)) (by decide +kernel), okw (in0 (q := (⟨"SureHunters$Net", "lines", "()I"⟩, 2)) 28 (by decide +kernel)) rfl⟩
theorem iX3_fewestLines : MV mX3_fewestLines 0 := ⟨⟨okw (in3 135 (by decide +kernel)) (by decide +kernel), okw (in1 3 (by decide +kernel)) (by decide +kernel), ⟨by decide +kernel, by decide +kernel, by decide +kernel⟩, by decide⟩, okw (in3 134 (by decide +kernel)) (by decide +kernel), okw (in0 (q := (⟨"SureHunters$Net", "fewestLines", "()I"⟩, 2)) 36 (by decide +kernel)) rfl⟩
theorem iX3_parts : MV mX3_parts 0 := ⟨⟨okw (in3 109 (by decide +kernel)) (by decide +kernel), okw (in1 3 (by decide +kernel)) (by decide +kernel), ⟨by decide +kernel, by decide +kernel, by decide +kernel⟩, by decide⟩, okw (in3 108 (by decide +kernel)) (by decide +kernel), okw (in0 (q := (⟨"SureHunters$Net", "parts", "()I"⟩, 2)) 30 (by decide +kernel)) rfl⟩
theorem iX3_partOf : MV mX3_partOf 1 := ⟨⟨okw (in3 113 (by decide +kernel)) (by decide +kernel), okw (in1 3 (by decide +kernel)) (by decide +kernel), ⟨by decide +kernel, by decide +kernel, by decide +kernel⟩, by decide⟩, okw (in3 112 (by decide +kernel)) (by decide +kernel), okw (in0 (q := (⟨"SureHunters$Net", "partOf", "(I)I"⟩, 2)) 31 (by decide +kernel)) rfl⟩
theorem iX3_steps : MV mX3_steps 2 := ⟨⟨okw (in3 127 (by decide +kernel)) (by decide +kernel), okw (in1 3 (by decide +kernel)) (by decide +kernel), ⟨by decide +kernel, by decide +kernel, by decide +kernel⟩, by decide⟩, okw (in3 126 (by decide +kernel)) (by decide +kernel), okw (in0 (q := (⟨"SureHunters$Net", "steps", "(II)I"⟩, 2)) 34 (by decide +kernel)) rfl⟩
theorem iX3_girth : MV mX3_girth 0 := ⟨⟨okw (in3 121 (by decide +kernel)) (by decide +kernel), okw (in1 3 (by decide +kernel)) (by decide +kernel), ⟨by decide +kernel, by decide +kernel, by decide +kernel⟩, by decide⟩, okw (in3 120 (by decide +kernel)) (by decide +kernel), okw (in0 (q := (⟨"SureHunters$Net", "girth", "()I"⟩, 2)) 33 (by decide +kernel)) rfl⟩
theorem iX3_cover : MV mX3_cover 0 := ⟨⟨okw (in3 160 (by decide +kernel)) (by decide +kernel), okw (in1 3 (by decide +kernel)) (by decide +kernel), ⟨by decide +kernel, by decide +kernel, by decide +kernel⟩, by decide⟩, okw (in3 159 (by decide +kernel)) (by decide +kernel), okw (in0 (q := (⟨"SureHunters$Net", "cover", "()I"⟩, 2)) 40 (by decide +kernel)) rfl⟩
theorem iX3_isBetterCover : MS mX3_isBetterCover 2 := ⟨⟨okw (in3 164 (by decide +kernel)) (by decide +kernel), okw (in1 3 (by decide +kernel)) (by decide +kernel), ⟨by decide +kernel, by decide +kernel, by decide +kernel⟩, by decide⟩, okw (in3 163 (by decide +kernel)) (by decide +kernel)⟩
theorem iX3_takePart : MV mX3_takePart 2 := ⟨⟨okw (in5 110 (by decide +kernel)) (by decide +kernel), okw (in1 3 (by decide +kernel)) (by decide +kernel), ⟨by decide +kernel, by decide +kernel, by decide +kernel⟩, by decide⟩, okw (in5 109 (by decide +kernel)) (by decide +kernel), okw (in0 (q := (⟨"SureHunters$Net", "takePart", "(LSureHunters$Net;I)V"⟩, 2)) 104 (by decide +kernel)) rfl⟩
theorem iX3_countBelow : MS mX3_countBelow 2 := ⟨⟨okw (in5 115 (by decide +kernel)) (by decide +kernel), okw (in1 3 (by decide +kernel)) (by decide +kernel), ⟨by decide +kernel, by decide +kernel, by decide +kernel⟩, by decide⟩, okw (in5 114 (by decide +kernel)) (by decide +kernel)⟩
theorem iX3_takeTurned : MV mX3_takeTurned 1 := ⟨⟨okw (in5 119 (by decide +kernel)) (by decide +kernel), okw (in1 3 (by decide +kernel)) (by decide +kernel), ⟨by decide +kernel, by decide +kernel, by decide +kernel⟩, by decide⟩, okw (in5 118 (by decide +kernel)) (by decide +kernel), okw (in0 (q := (⟨"SureHunters$Net", "takeTurned", "(LSureHunters$Net;)V"⟩, 2)) 105 (by decide +kernel)) rfl⟩
theorem iX3_takeTwice : MV mX3_takeTwice 1 := ⟨⟨okw (in5 124 (by decide +kernel)) (by decide +kernel), okw (in1 3 (by decide +kernel)) (by decide +kernel), ⟨by decide +kernel, by decide +kernel, by decide +kernel⟩, by decide⟩, okw (in5 123 (by decide +kernel)) (by decide +kernel), okw (in0 (q := (⟨"SureHunters$Net", "takeTwice", "(LSureHunters$Net;)V"⟩, 2)) 106 (by decide +kernel)) rfl⟩
theorem iX4_init : MI mX4_init 0 := ⟨⟨okw (in2 90 (by decide +kernel)) (by decide +kernel), okw (in1 13 (by decide +kernel)) (by decide +kernel), ⟨by decide +kernel, by decide +kernel, by decide +kernel⟩, by decide⟩, rfl, okw (in2 89 (by decide +kernel)) (by decide +kernel), rfl⟩
theorem iX4_forget : MV mX4_forget 0 := ⟨⟨okw (in3 62 (by decide +kernel)) (by decide +kernel), okw (in1 13 (by decide +kernel)) (by decide +kernel), ⟨by decide +kernel, by decide +kernel, by decide +kernel⟩, by decide⟩, okw (in3 61 (by decide +kernel)) (by decide +kernel), okw (in0 (q := (⟨"SureHunters$Past", "forget", "()V"⟩, 4)) 23 (by decide +kernel)) rfl⟩
theorem iX4_keep : MV mX4_keep 2 := ⟨⟨okw (in5 12 (by decide +kernel)) (by decide +kernel), okw (in1 13 (by decide +kernel)) (by decide +kernel), ⟨by decide +kernel, by decide +kernel, by decide +kernel⟩, by decide⟩, okw (in5 11 (by decide +kernel)) (by decide +kernel), okw (in0 (q := (⟨"SureHunters$Past", "keep", "(LSureHunters$Net;LSureHunters$Scene;)V"⟩, 4)) 90 (by decide +kernel)) rfl⟩
theorem iX4_takeBack : MV mX4_takeBack 2 := ⟨⟨okw (in5 132 (by decide +kernel)) (by decide +kernel), okw (in1 13 (by decide +kernel)) (by decide +kernel), ⟨by decide +kernel, by decide +kernel, by decide +kernel⟩, by decide⟩, okw (in5 131 (by decide +kernel)) (by decide +kernel), okw (in0 (q := (⟨"SureHunters$Past", "takeBack", "(LSureHunters$Net;LSureHunters$Scene;)Z"⟩, 4)) 107 (by decide +kernel)) rfl⟩
theorem iX5_init : MI mX5_init 0 := ⟨⟨okw (in1 127 (by decide +kernel)) (by decide +kernel), okw (in1 6 (by decide +kernel)) (by decide +kernel), ⟨by decide +kernel, by decide +kernel, by decide +kernel⟩, by decide⟩, rfl, okw (in1 126 (by decide +kernel)) (by decide +kernel), rfl⟩
theorem iX5_tell : MV mX5_tell 4 := ⟨⟨okw (in1 135 (by decide +kernel)) (by decide +kernel), okw (in1 6 (by decide +kernel)) (by decide +kernel), ⟨by decide +kernel, by decide +kernel, by decide +kernel⟩, by decide⟩, okw (in1 134 (by decide +kernel)) (by decide +kernel), okw (in0 (q := (⟨"SureHunters$Rows", "tell", "(IIII)V"⟩, 9)) 0 (by decide +kernel)) rfl⟩
theorem iX5_tellNumber : MV mX5_tellNumber 4 := ⟨⟨okw (in1 139 (by decide +kernel)) (by decide +kernel), okw (in1 6 (by decide +kernel)) (by decide +kernel), ⟨by decide +kernel, by decide +kernel, by decide +kernel⟩, by decide⟩, okw (in1 138 (by decide +kernel)) (by decide +kernel), okw (in0 (q := (⟨"SureHunters$Rows", "tellNumber", "(IIII)V"⟩, 9)) 1 (by decide +kernel)) rfl⟩
theorem iX5_isSpot : MS mX5_isSpot 1 := ⟨⟨okw (in1 142 (by decide +kernel)) (by decide +kernel), okw (in1 6 (by decide +kernel)) (by decide +kernel), ⟨by decide +kernel, by decide +kernel, by decide +kernel⟩, by decide⟩, okw (in1 141 (by decide +kernel)) (by decide +kernel)⟩
theorem iX5_numberOf : MV mX5_numberOf 3 := ⟨⟨okw (in4 60 (by decide +kernel)) (by decide +kernel), okw (in1 6 (by decide +kernel)) (by decide +kernel), ⟨by decide +kernel, by decide +kernel, by decide +kernel⟩, by decide⟩, okw (in4 59 (by decide +kernel)) (by decide +kernel), okw (in0 (q := (⟨"SureHunters$Rows", "numberOf", "(III)I"⟩, 9)) 62 (by decide +kernel)) rfl⟩
theorem iX5_huntersOf : MS mX5_huntersOf 1 := ⟨⟨okw (in4 63 (by decide +kernel)) (by decide +kernel), okw (in1 6 (by decide +kernel)) (by decide +kernel), ⟨by decide +kernel, by decide +kernel, by decide +kernel⟩, by decide⟩, okw (in4 62 (by decide +kernel)) (by decide +kernel)⟩
theorem iX5_spotAt : MV mX5_spotAt 2 := ⟨⟨okw (in4 3 (by decide +kernel)) (by decide +kernel), okw (in1 6 (by decide +kernel)) (by decide +kernel), ⟨by decide +kernel, by decide +kernel, by decide +kernel⟩, by decide⟩, okw (in4 2 (by decide +kernel)) (by decide +kernel), okw (in0 (q := (⟨"SureHunters$Rows", "spotAt", "(II)I"⟩, 9)) 53 (by decide +kernel)) rfl⟩
theorem iX5_hunterAt : MV mX5_hunterAt 2 := ⟨⟨okw (in4 48 (by decide +kernel)) (by decide +kernel), okw (in1 6 (by decide +kernel)) (by decide +kernel), ⟨by decide +kernel, by decide +kernel, by decide +kernel⟩, by decide⟩, okw (in4 47 (by decide +kernel)) (by decide +kernel), okw (in0 (q := (⟨"SureHunters$Rows", "hunterAt", "(II)I"⟩, 9)) 60 (by decide +kernel)) rfl⟩
theorem iX5_standBits : MV mX5_standBits 1 := ⟨⟨okw (in3 212 (by decide +kernel)) (by decide +kernel), okw (in1 6 (by decide +kernel)) (by decide +kernel), ⟨by decide +kernel, by decide +kernel, by decide +kernel⟩, by decide⟩, okw (in3 211 (by decide +kernel)) (by decide +kernel), okw (in0 (q := (⟨"SureHunters$Rows", "standBits", "(I)I"⟩, 9)) 46 (by decide +kernel)) rfl⟩
theorem iX5_standsAt : MV mX5_standsAt 2 := ⟨⟨okw (in4 100 (by decide +kernel)) (by decide +kernel), okw (in1 6 (by decide +kernel)) (by decide +kernel), ⟨by decide +kernel, by decide +kernel, by decide +kernel⟩, by decide⟩, okw (in4 99 (by decide +kernel)) (by decide +kernel), okw (in0 (q := (⟨"SureHunters$Rows", "standsAt", "(II)Z"⟩, 9)) 66 (by decide +kernel)) rfl⟩
theorem iX5_learn : MV mX5_learn 1 := ⟨⟨okw (in3 74 (by decide +kernel)) (by decide +kernel), okw (in1 6 (by decide +kernel)) (by decide +kernel), ⟨by decide +kernel, by decide +kernel, by decide +kernel⟩, by decide⟩, okw (in3 73 (by decide +kernel)) (by decide +kernel), okw (in0 (q := (⟨"SureHunters$Rows", "learn", "(LSureHunters$Net;)V"⟩, 9)) 26 (by decide +kernel)) rfl⟩
theorem iX5_stepFrom : MV mX5_stepFrom 2 := ⟨⟨okw (in3 239 (by decide +kernel)) (by decide +kernel), okw (in1 6 (by decide +kernel)) (by decide +kernel), ⟨by decide +kernel, by decide +kernel, by decide +kernel⟩, by decide⟩, okw (in3 238 (by decide +kernel)) (by decide +kernel), okw (in0 (q := (⟨"SureHunters$Rows", "stepFrom", "(IZ)V"⟩, 9)) 52 (by decide +kernel)) rfl⟩
theorem iX5_stepOne : MV mX5_stepOne 3 := ⟨⟨okw (in4 7 (by decide +kernel)) (by decide +kernel), okw (in1 6 (by decide +kernel)) (by decide +kernel), ⟨by decide +kernel, by decide +kernel, by decide +kernel⟩, by decide⟩, okw (in4 6 (by decide +kernel)) (by decide +kernel), okw (in0 (q := (⟨"SureHunters$Rows", "stepOne", "(III)V"⟩, 9)) 54 (by decide +kernel)) rfl⟩
theorem iX5_note : MV mX5_note 3 := ⟨⟨okw (in4 11 (by decide +kernel)) (by decide +kernel), okw (in1 6 (by decide +kernel)) (by decide +kernel), ⟨by decide +kernel, by decide +kernel, by decide +kernel⟩, by decide⟩, okw (in4 10 (by decide +kernel)) (by decide +kernel), okw (in0 (q := (⟨"SureHunters$Rows", "note", "(III)V"⟩, 9)) 55 (by decide +kernel)) rfl⟩
theorem iX5_isFound : MV mX5_isFound 1 := ⟨⟨okw (in4 231 (by decide +kernel)) (by decide +kernel), okw (in1 6 (by decide +kernel)) (by decide +kernel), ⟨by decide +kernel, by decide +kernel, by decide +kernel⟩, by decide⟩, okw (in4 230 (by decide +kernel)) (by decide +kernel), okw (in0 (q := (⟨"SureHunters$Rows", "isFound", "(I)Z"⟩, 9)) 87 (by decide +kernel)) rfl⟩
theorem iX5_leads : MV mX5_leads 3 := ⟨⟨okw (in5 70 (by decide +kernel)) (by decide +kernel), okw (in1 6 (by decide +kernel)) (by decide +kernel), ⟨by decide +kernel, by decide +kernel, by decide +kernel⟩, by decide⟩, okw (in5 69 (by decide +kernel)) (by decide +kernel), okw (in0 (q := (⟨"SureHunters$Rows", "leads", "(IIZ)Z"⟩, 9)) 99 (by decide +kernel)) rfl⟩
theorem iX6_init : MI mX6_init 0 := ⟨⟨okw (in2 59 (by decide +kernel)) (by decide +kernel), okw (in1 12 (by decide +kernel)) (by decide +kernel), ⟨by decide +kernel, by decide +kernel, by decide +kernel⟩, by decide⟩, rfl, okw (in2 58 (by decide +kernel)) (by decide +kernel), rfl⟩
theorem iX6_copyFrom : MV mX6_copyFrom 1 := ⟨⟨okw (in5 17 (by decide +kernel)) (by decide +kernel), okw (in1 12 (by decide +kernel)) (by decide +kernel), ⟨by decide +kernel, by decide +kernel, by decide +kernel⟩, by decide⟩, okw (in5 16 (by decide +kernel)) (by decide +kernel), okw (in0 (q := (⟨"SureHunters$Scene", "copyFrom", "(LSureHunters$Scene;)V"⟩, 6)) 91 (by decide +kernel)) rfl⟩
theorem iX6_open : MV mX6_open 3 := ⟨⟨okw (in5 22 (by decide +kernel)) (by decide +kernel), okw (in1 12 (by decide +kernel)) (by decide +kernel), ⟨by decide +kernel, by decide +kernel, by decide +kernel⟩, by decide⟩, okw (in5 21 (by decide +kernel)) (by decide +kernel), okw (in0 (q := (⟨"SureHunters$Scene", "open", "(III)V"⟩, 6)) 92 (by decide +kernel)) rfl⟩
theorem iX6_huntersGo : MV mX6_huntersGo 1 := ⟨⟨okw (in5 76 (by decide +kernel)) (by decide +kernel), okw (in1 12 (by decide +kernel)) (by decide +kernel), ⟨by decide +kernel, by decide +kernel, by decide +kernel⟩, by decide⟩, okw (in5 75 (by decide +kernel)) (by decide +kernel), okw (in0 (q := (⟨"SureHunters$Scene", "huntersGo", "(I)V"⟩, 6)) 100 (by decide +kernel)) rfl⟩
theorem iX6_runnerGoes : MV mX6_runnerGoes 1 := ⟨⟨okw (in5 85 (by decide +kernel)) (by decide +kernel), okw (in1 12 (by decide +kernel)) (by decide +kernel), ⟨by decide +kernel, by decide +kernel, by decide +kernel⟩, by decide⟩, okw (in5 84 (by decide +kernel)) (by decide +kernel), okw (in0 (q := (⟨"SureHunters$Scene", "runnerGoes", "(I)V"⟩, 6)) 101 (by decide +kernel)) rfl⟩
theorem iX7_init : MI mX7_init 0 := ⟨⟨okw (in1 37 (by decide +kernel)) (by decide +kernel), okw (in1 2 (by decide +kernel)) (by decide +kernel), ⟨by decide +kernel, by decide +kernel, by decide +kernel⟩, by decide⟩, rfl, okw (in1 36 (by decide +kernel)) (by decide +kernel), rfl⟩
theorem iX7_append : MV mX7_append 1 := ⟨⟨okw (in2 153 (by decide +kernel)) (by decide +kernel), okw (in1 2 (by decide +kernel)) (by decide +kernel), ⟨by decide +kernel, by decide +kernel, by decide +kernel⟩, by decide⟩, okw (in2 152 (by decide +kernel)) (by decide +kernel), okw (in0 (q := (⟨"SureHunters$Script", "append", "(I)V"⟩, 9)) 2 (by decide +kernel)) rfl⟩
theorem iX7_parse : MV mX7_parse 1 := ⟨⟨okw (in2 165 (by decide +kernel)) (by decide +kernel), okw (in1 2 (by decide +kernel)) (by decide +kernel), ⟨by decide +kernel, by decide +kernel, by decide +kernel⟩, by decide⟩, okw (in2 164 (by decide +kernel)) (by decide +kernel), okw (in0 (q := (⟨"SureHunters$Script", "parse", "(LSureHunters$Net;)V"⟩, 9)) 3 (by decide +kernel)) rfl⟩
theorem iX7_parsePlace : MV mX7_parsePlace 1 := ⟨⟨okw (in3 6 (by decide +kernel)) (by decide +kernel), okw (in1 2 (by decide +kernel)) (by decide +kernel), ⟨by decide +kernel, by decide +kernel, by decide +kernel⟩, by decide⟩, okw (in3 5 (by decide +kernel)) (by decide +kernel), okw (in0 (q := (⟨"SureHunters$Script", "parsePlace", "(LSureHunters$Net;)V"⟩, 9)) 9 (by decide +kernel)) rfl⟩
theorem iX7_parseLine : MV mX7_parseLine 1 := ⟨⟨okw (in3 34 (by decide +kernel)) (by decide +kernel), okw (in1 2 (by decide +kernel)) (by decide +kernel), ⟨by decide +kernel, by decide +kernel, by decide +kernel⟩, by decide⟩, okw (in3 33 (by decide +kernel)) (by decide +kernel), okw (in0 (q := (⟨"SureHunters$Script", "parseLine", "(LSureHunters$Net;)V"⟩, 9)) 16 (by decide +kernel)) rfl⟩
theorem iX7_parseEnd : MV mX7_parseEnd 1 := ⟨⟨okw (in3 38 (by decide +kernel)) (by decide +kernel), okw (in1 2 (by decide +kernel)) (by decide +kernel), ⟨by decide +kernel, by decide +kernel, by decide +kernel⟩, by decide⟩, okw (in3 37 (by decide +kernel)) (by decide +kernel), okw (in0 (q := (⟨"SureHunters$Script", "parseEnd", "(LSureHunters$Net;)I"⟩, 9)) 17 (by decide +kernel)) rfl⟩
theorem iX7_passSign : MV mX7_passSign 0 := ⟨⟨okw (in3 30 (by decide +kernel)) (by decide +kernel), okw (in1 2 (by decide +kernel)) (by decide +kernel), ⟨by decide +kernel, by decide +kernel, by decide +kernel⟩, by decide⟩, okw (in3 29 (by decide +kernel)) (by decide +kernel), okw (in0 (q := (⟨"SureHunters$Script", "passSign", "()V"⟩, 9)) 15 (by decide +kernel)) rfl⟩
theorem iX7_refuseToken : MV mX7_refuseToken 0 := ⟨⟨okw (in3 14 (by decide +kernel)) (by decide +kernel), okw (in1 2 (by decide +kernel)) (by decide +kernel), ⟨by decide +kernel, by decide +kernel, by decide +kernel⟩, by decide⟩, okw (in3 13 (by decide +kernel)) (by decide +kernel), okw (in0 (q := (⟨"SureHunters$Script", "refuseToken", "()V"⟩, 9)) 11 (by decide +kernel)) rfl⟩
theorem iX7_refuse : MV mX7_refuse 1 := ⟨⟨okw (in3 10 (by decide +kernel)) (by decide +kernel), okw (in1 2 (by decide +kernel)) (by decide +kernel), ⟨by decide +kernel, by decide +kernel, by decide +kernel⟩, by decide⟩, okw (in3 9 (by decide +kernel)) (by decide +kernel), okw (in0 (q := (⟨"SureHunters$Script", "refuse", "(I)V"⟩, 9)) 10 (by decide +kernel)) rfl⟩
theorem iX7_advance : MV mX7_advance 0 := ⟨⟨okw (in2 174 (by decide +kernel)) (by decide +kernel), okw (in1 2 (by decide +kernel)) (by decide +kernel), ⟨by decide +kernel, by decide +kernel, by decide +kernel⟩, by decide⟩, okw (in2 173 (by decide +kernel)) (by decide +kernel), okw (in0 (q := (⟨"SureHunters$Script", "advance", "()V"⟩, 9)) 5 (by decide +kernel)) rfl⟩
theorem iX7_wordToken : MV mX7_wordToken 0 := ⟨⟨okw (in2 188 (by decide +kernel)) (by decide +kernel), okw (in1 2 (by decide +kernel)) (by decide +kernel), ⟨by decide +kernel, by decide +kernel, by decide +kernel⟩, by decide⟩, okw (in2 187 (by decide +kernel)) (by decide +kernel), okw (in0 (q := (⟨"SureHunters$Script", "wordToken", "()I"⟩, 9)) 7 (by decide +kernel)) rfl⟩
theorem iX7_isWord : MV mX7_isWord 1 := ⟨⟨okw (in2 193 (by decide +kernel)) (by decide +kernel), okw (in1 2 (by decide +kernel)) (by decide +kernel), ⟨by decide +kernel, by decide +kernel, by decide +kernel⟩, by decide⟩, okw (in2 192 (by decide +kernel)) (by decide +kernel), okw (in0 (q := (⟨"SureHunters$Script", "isWord", "(Ljava/lang/String;)Z"⟩, 9)) 8 (by decide +kernel)) rfl⟩
theorem iX7_placeNamed : MV mX7_placeNamed 1 := ⟨⟨okw (in3 18 (by decide +kernel)) (by decide +kernel), okw (in1 2 (by decide +kernel)) (by decide +kernel), ⟨by decide +kernel, by decide +kernel, by decide +kernel⟩, by decide⟩, okw (in3 17 (by decide +kernel)) (by decide +kernel), okw (in0 (q := (⟨"SureHunters$Script", "placeNamed", "(LSureHunters$Net;)I"⟩, 9)) 12 (by decide +kernel)) rfl⟩
theorem iX7_isNameOf : MV mX7_isNameOf 1 := ⟨⟨okw (in3 22 (by decide +kernel)) (by decide +kernel), okw (in1 2 (by decide +kernel)) (by decide +kernel), ⟨by decide +kernel, by decide +kernel, by decide +kernel⟩, by decide⟩, okw (in3 21 (by decide +kernel)) (by decide +kernel), okw (in0 (q := (⟨"SureHunters$Script", "isNameOf", "(I)Z"⟩, 9)) 13 (by decide +kernel)) rfl⟩
theorem iX7_byteAt : MV mX7_byteAt 1 := ⟨⟨okw (in2 178 (by decide +kernel)) (by decide +kernel), okw (in1 2 (by decide +kernel)) (by decide +kernel), ⟨by decide +kernel, by decide +kernel, by decide +kernel⟩, by decide⟩, okw (in2 177 (by decide +kernel)) (by decide +kernel), okw (in0 (q := (⟨"SureHunters$Script", "byteAt", "(I)I"⟩, 9)) 6 (by decide +kernel)) rfl⟩
theorem iX7_isBlank : MS mX7_isBlank 1 := ⟨⟨okw (in2 181 (by decide +kernel)) (by decide +kernel), okw (in1 2 (by decide +kernel)) (by decide +kernel), ⟨by decide +kernel, by decide +kernel, by decide +kernel⟩, by decide⟩, okw (in2 180 (by decide +kernel)) (by decide +kernel)⟩
theorem iX7_isLetter : MS mX7_isLetter 1 := ⟨⟨okw (in2 184 (by decide +kernel)) (by decide +kernel), okw (in1 2 (by decide +kernel)) (by decide +kernel), ⟨by decide +kernel, by decide +kernel, by decide +kernel⟩, by decide⟩, okw (in2 183 (by decide +kernel)) (by decide +kernel)⟩
theorem iX8_init : MI mX8_init 2 := ⟨⟨okw (in2 24 (by decide +kernel)) (by decide +kernel), okw (in1 11 (by decide +kernel)) (by decide +kernel), ⟨by decide +kernel, by decide +kernel, by decide +kernel⟩, by decide⟩, rfl, okw (in2 23 (by decide +kernel)) (by decide +kernel), rfl⟩
theorem iX8_renew : MV mX8_renew 0 := ⟨⟨okw (in3 79 (by decide +kernel)) (by decide +kernel), okw (in1 11 (by decide +kernel)) (by decide +kernel), ⟨by decide +kernel, by decide +kernel, by decide +kernel⟩, by decide⟩, okw (in3 78 (by decide +kernel)) (by decide +kernel), okw (in0 (q := (⟨"SureHunters$Search", "renew", "()V"⟩, 9)) 27 (by decide +kernel)) rfl⟩
theorem iX8_roundsOf : MV mX8_roundsOf 1 := ⟨⟨okw (in4 194 (by decide +kernel)) (by decide +kernel), okw (in1 11 (by decide +kernel)) (by decide +kernel), ⟨by decide +kernel, by decide +kernel, by decide +kernel⟩, by decide⟩, okw (in4 193 (by decide +kernel)) (by decide +kernel), okw (in0 (q := (⟨"SureHunters$Search", "roundsOf", "(I)I"⟩, 9)) 80 (by decide +kernel)) rfl⟩
theorem iX8_rowIn : MV mX8_rowIn 2 := ⟨⟨okw (in5 3 (by decide +kernel)) (by decide +kernel), okw (in1 11 (by decide +kernel)) (by decide +kernel), ⟨by decide +kernel, by decide +kernel, by decide +kernel⟩, by decide⟩, okw (in5 2 (by decide +kernel)) (by decide +kernel), okw (in0 (q := (⟨"SureHunters$Search", "rowIn", "(II)I"⟩, 9)) 89 (by decide +kernel)) rfl⟩
theorem iX8_pathIndex : MS mX8_pathIndex 2 := ⟨⟨okw (in4 204 (by decide +kernel)) (by decide +kernel), okw (in1 11 (by decide +kernel)) (by decide +kernel), ⟨by decide +kernel, by decide +kernel, by decide +kernel⟩, by decide⟩, okw (in4 203 (by decide +kernel)) (by decide +kernel)⟩
theorem iX8_isOnNet : MV mX8_isOnNet 1 := ⟨⟨okw (in4 218 (by decide +kernel)) (by decide +kernel), okw (in1 11 (by decide +kernel)) (by decide +kernel), ⟨by decide +kernel, by decide +kernel, by decide +kernel⟩, by decide⟩, okw (in4 217 (by decide +kernel)) (by decide +kernel), okw (in0 (q := (⟨"SureHunters$Search", "isOnNet", "(I)Z"⟩, 9)) 84 (by decide +kernel)) rfl⟩
theorem iX8_opensLit : MV mX8_opensLit 1 := ⟨⟨okw (in4 198 (by decide +kernel)) (by decide +kernel), okw (in1 11 (by decide +kernel)) (by decide +kernel), ⟨by decide +kernel, by decide +kernel, by decide +kernel⟩, by decide⟩, okw (in4 197 (by decide +kernel)) (by decide +kernel), okw (in0 (q := (⟨"SureHunters$Search", "opensLit", "(I)Z"⟩, 9)) 81 (by decide +kernel)) rfl⟩
theorem iX8_explore : MV mX8_explore 1 := ⟨⟨okw (in4 208 (by decide +kernel)) (by decide +kernel), okw (in1 11 (by decide +kernel)) (by decide +kernel), ⟨by decide +kernel, by decide +kernel, by decide +kernel⟩, by decide⟩, okw (in4 207 (by decide +kernel)) (by decide +kernel), okw (in0 (q := (⟨"SureHunters$Search", "explore", "(I)V"⟩, 9)) 82 (by decide +kernel)) rfl⟩
theorem iX8_prepare : MV mX8_prepare 0 := ⟨⟨okw (in4 212 (by decide +kernel)) (by decide +kernel), okw (in1 11 (by decide +kernel)) (by decide +kernel), ⟨by decide +kernel, by decide +kernel, by decide +kernel⟩, by decide⟩, okw (in4 211 (by decide +kernel)) (by decide +kernel), okw (in0 (q := (⟨"SureHunters$Search", "prepare", "()V"⟩, 9)) 83 (by decide +kernel)) rfl⟩
theorem iX8_enqueue : MV mX8_enqueue 2 := ⟨⟨okw (in4 222 (by decide +kernel)) (by decide +kernel), okw (in1 11 (by decide +kernel)) (by decide +kernel), ⟨by decide +kernel, by decide +kernel, by decide +kernel⟩, by decide⟩, okw (in4 221 (by decide +kernel)) (by decide +kernel), okw (in0 (q := (⟨"SureHunters$Search", "enqueue", "(II)V"⟩, 9)) 85 (by decide +kernel)) rfl⟩
theorem iX8_stepsToLight : MV mX8_stepsToLight 3 := ⟨⟨okw (in4 226 (by decide +kernel)) (by decide +kernel), okw (in1 11 (by decide +kernel)) (by decide +kernel), ⟨by decide +kernel, by decide +kernel, by decide +kernel⟩, by decide⟩, okw (in4 225 (by decide +kernel)) (by decide +kernel), okw (in0 (q := (⟨"SureHunters$Search", "stepsToLight", "(III)Z"⟩, 9)) 86 (by decide +kernel)) rfl⟩
theorem iX8_tellPath : MV mX8_tellPath 3 := ⟨⟨okw (in4 235 (by decide +kernel)) (by decide +kernel), okw (in1 11 (by decide +kernel)) (by decide +kernel), ⟨by decide +kernel, by decide +kernel, by decide +kernel⟩, by decide⟩, okw (in4 234 (by decide +kernel)) (by decide +kernel), okw (in0 (q := (⟨"SureHunters$Search", "tellPath", "(III)V"⟩, 9)) 88 (by decide +kernel)) rfl⟩
theorem iX9_init : MI mX9_init 0 := ⟨⟨okw (in2 1 (by decide +kernel)) (by decide +kernel), okw (in1 9 (by decide +kernel)) (by decide +kernel), ⟨by decide +kernel, by decide +kernel, by decide +kernel⟩, by decide⟩, rfl, okw (in2 0 (by decide +kernel)) (by decide +kernel), rfl⟩
theorem iX9_howMany : MV mX9_howMany 1 := ⟨⟨okw (in4 126 (by decide +kernel)) (by decide +kernel), okw (in1 9 (by decide +kernel)) (by decide +kernel), ⟨by decide +kernel, by decide +kernel, by decide +kernel⟩, by decide⟩, okw (in4 125 (by decide +kernel)) (by decide +kernel), okw (in0 (q := (⟨"SureHunters$Symmetries", "howMany", "(LSureHunters$Net;)I"⟩, 2)) 70 (by decide +kernel)) rfl⟩
theorem iX9_imagesOf : MV mX9_imagesOf 2 := ⟨⟨okw (in4 130 (by decide +kernel)) (by decide +kernel), okw (in1 9 (by decide +kernel)) (by decide +kernel), ⟨by decide +kernel, by decide +kernel, by decide +kernel⟩, by decide⟩, okw (in4 129 (by decide +kernel)) (by decide +kernel), okw (in0 (q := (⟨"SureHunters$Symmetries", "imagesOf", "(LSureHunters$Net;I)I"⟩, 2)) 71 (by decide +kernel)) rfl⟩
theorem iX9_leastAlike : MV mX9_leastAlike 2 := ⟨⟨okw (in4 150 (by decide +kernel)) (by decide +kernel), okw (in1 9 (by decide +kernel)) (by decide +kernel), ⟨by decide +kernel, by decide +kernel, by decide +kernel⟩, by decide⟩, okw (in4 149 (by decide +kernel)) (by decide +kernel), okw (in0 (q := (⟨"SureHunters$Symmetries", "leastAlike", "(LSureHunters$Net;I)I"⟩, 2)) 73 (by decide +kernel)) rfl⟩
theorem iX9_canBe : MV mX9_canBe 3 := ⟨⟨okw (in4 134 (by decide +kernel)) (by decide +kernel), okw (in1 9 (by decide +kernel)) (by decide +kernel), ⟨by decide +kernel, by decide +kernel, by decide +kernel⟩, by decide⟩, okw (in4 133 (by decide +kernel)) (by decide +kernel), okw (in0 (q := (⟨"SureHunters$Symmetries", "canBe", "(LSureHunters$Net;II)Z"⟩, 2)) 72 (by decide +kernel)) rfl⟩
theorem iX9_completes : MS mX9_completes 4 := ⟨⟨okw (in4 142 (by decide +kernel)) (by decide +kernel), okw (in1 9 (by decide +kernel)) (by decide +kernel), ⟨by decide +kernel, by decide +kernel, by decide +kernel⟩, by decide⟩, okw (in4 141 (by decide +kernel)) (by decide +kernel)⟩
theorem iX9_fits : MS mX9_fits 5 := ⟨⟨okw (in4 137 (by decide +kernel)) (by decide +kernel), okw (in1 9 (by decide +kernel)) (by decide +kernel), ⟨by decide +kernel, by decide +kernel, by decide +kernel⟩, by decide⟩, okw (in4 136 (by decide +kernel)) (by decide +kernel)⟩
theorem iX10_init : MI mX10_init 0 := ⟨⟨okw (in2 14 (by decide +kernel)) (by decide +kernel), okw (in1 10 (by decide +kernel)) (by decide +kernel), ⟨by decide +kernel, by decide +kernel, by decide +kernel⟩, by decide⟩, rfl, okw (in2 13 (by decide +kernel)) (by decide +kernel), rfl⟩
theorem iX10_settle : MV mX10_settle 2 := ⟨⟨okw (in4 163 (by decide +kernel)) (by decide +kernel), okw (in1 10 (by decide +kernel)) (by decide +kernel), ⟨by decide +kernel, by decide +kernel, by decide +kernel⟩, by decide⟩, okw (in4 162 (by decide +kernel)) (by decide +kernel), okw (in0 (q := (⟨"SureHunters$Watch", "settle", "(LSureHunters$Net;I)V"⟩, 1)) 75 (by decide +kernel)) rfl⟩
theorem iX10_dropCouples : MV mX10_dropCouples 2 := ⟨⟨okw (in4 168 (by decide +kernel)) (by decide +kernel), okw (in1 10 (by decide +kernel)) (by decide +kernel), ⟨by decide +kernel, by decide +kernel, by decide +kernel⟩, by decide⟩, okw (in4 167 (by decide +kernel)) (by decide +kernel), okw (in0 (q := (⟨"SureHunters$Watch", "dropCouples", "(LSureHunters$Net;I)Z"⟩, 1)) 76 (by decide +kernel)) rfl⟩
theorem iX10_answers : MV mX10_answers 4 := ⟨⟨okw (in4 172 (by decide +kernel)) (by decide +kernel), okw (in1 10 (by decide +kernel)) (by decide +kernel), ⟨by decide +kernel, by decide +kernel, by decide +kernel⟩, by decide⟩, okw (in4 171 (by decide +kernel)) (by decide +kernel), okw (in0 (q := (⟨"SureHunters$Watch", "answers", "(LSureHunters$Net;III)Z"⟩, 1)) 77 (by decide +kernel)) rfl⟩
theorem iX10_couples : MV mX10_couples 0 := ⟨⟨okw (in4 177 (by decide +kernel)) (by decide +kernel), okw (in1 10 (by decide +kernel)) (by decide +kernel), ⟨by decide +kernel, by decide +kernel, by decide +kernel⟩, by decide⟩, okw (in4 176 (by decide +kernel)) (by decide +kernel), okw (in0 (q := (⟨"SureHunters$Watch", "couples", "()I"⟩, 1)) 78 (by decide +kernel)) rfl⟩
theorem iX10_isCouple : MV mX10_isCouple 2 := ⟨⟨okw (in4 186 (by decide +kernel)) (by decide +kernel), okw (in1 10 (by decide +kernel)) (by decide +kernel), ⟨by decide +kernel, by decide +kernel, by decide +kernel⟩, by decide⟩, okw (in4 185 (by decide +kernel)) (by decide +kernel), okw (in0 (q := (⟨"SureHunters$Watch", "isCouple", "(II)Z"⟩, 1)) 79 (by decide +kernel)) rfl⟩
theorem iX11_init : MI mX11_init 0 := ⟨⟨okw (in1 29 (by decide +kernel)) (by decide +kernel), okw (in1 1 (by decide +kernel)) (by decide +kernel), ⟨by decide +kernel, by decide +kernel, by decide +kernel⟩, by decide⟩, rfl, okw (in1 28 (by decide +kernel)) (by decide +kernel), rfl⟩
theorem iX11_feed : MV mX11_feed 5 := ⟨⟨okw (in2 149 (by decide +kernel)) (by decide +kernel), okw (in1 1 (by decide +kernel)) (by decide +kernel), ⟨by decide +kernel, by decide +kernel, by decide +kernel⟩, by decide⟩, okw (in2 147 (by decide +kernel)) (by decide +kernel), okw (in2 148 (by decide +kernel)) (by decide +kernel)⟩
theorem iX11_end : MV mX11_end 1 := ⟨⟨okw (in2 157 (by decide +kernel)) (by decide +kernel), okw (in1 1 (by decide +kernel)) (by decide +kernel), ⟨by decide +kernel, by decide +kernel, by decide +kernel⟩, by decide⟩, okw (in2 155 (by decide +kernel)) (by decide +kernel), okw (in2 156 (by decide +kernel)) (by decide +kernel)⟩
theorem iX11_net : MV mX11_net 0 := ⟨⟨okw (in2 161 (by decide +kernel)) (by decide +kernel), okw (in1 1 (by decide +kernel)) (by decide +kernel), ⟨by decide +kernel, by decide +kernel, by decide +kernel⟩, by decide⟩, okw (in2 159 (by decide +kernel)) (by decide +kernel), okw (in2 160 (by decide +kernel)) (by decide +kernel)⟩
theorem iX11_fault : MV mX11_fault 1 := ⟨⟨okw (in3 84 (by decide +kernel)) (by decide +kernel), okw (in1 1 (by decide +kernel)) (by decide +kernel), ⟨by decide +kernel, by decide +kernel, by decide +kernel⟩, by decide⟩, okw (in3 82 (by decide +kernel)) (by decide +kernel), okw (in3 83 (by decide +kernel)) (by decide +kernel)⟩
theorem iX11_about : MV mX11_about 1 := ⟨⟨okw (in3 88 (by decide +kernel)) (by decide +kernel), okw (in1 1 (by decide +kernel)) (by decide +kernel), ⟨by decide +kernel, by decide +kernel, by decide +kernel⟩, by decide⟩, okw (in3 86 (by decide +kernel)) (by decide +kernel), okw (in3 87 (by decide +kernel)) (by decide +kernel)⟩
theorem iX11_near : MV mX11_near 1 := ⟨⟨okw (in3 168 (by decide +kernel)) (by decide +kernel), okw (in1 1 (by decide +kernel)) (by decide +kernel), ⟨by decide +kernel, by decide +kernel, by decide +kernel⟩, by decide⟩, okw (in3 166 (by decide +kernel)) (by decide +kernel), okw (in3 167 (by decide +kernel)) (by decide +kernel)⟩
theorem iX11_distance : MV mX11_distance 2 := ⟨⟨okw (in5 144 (by decide +kernel)) (by decide +kernel), okw (in1 1 (by decide +kernel)) (by decide +kernel), ⟨by decide +kernel, by decide +kernel, by decide +kernel⟩, by decide⟩, okw (in5 142 (by decide +kernel)) (by decide +kernel), okw (in5 143 (by decide +kernel)) (by decide +kernel)⟩
theorem iX11_corner : MV mX11_corner 1 := ⟨⟨okw (in5 217 (by decide +kernel)) (by decide +kernel), okw (in1 1 (by decide +kernel)) (by decide +kernel), ⟨by decide +kernel, by decide +kernel, by decide +kernel⟩, by decide⟩, okw (in5 215 (by decide +kernel)) (by decide +kernel), okw (in5 216 (by decide +kernel)) (by decide +kernel)⟩
theorem iX11_goes : MV mX11_goes 1 := ⟨⟨okw (in3 174 (by decide +kernel)) (by decide +kernel), okw (in1 1 (by decide +kernel)) (by decide +kernel), ⟨by decide +kernel, by decide +kernel, by decide +kernel⟩, by decide⟩, okw (in3 172 (by decide +kernel)) (by decide +kernel), okw (in3 173 (by decide +kernel)) (by decide +kernel)⟩
theorem iX11_left : MV mX11_left 0 := ⟨⟨okw (in3 178 (by decide +kernel)) (by decide +kernel), okw (in1 1 (by decide +kernel)) (by decide +kernel), ⟨by decide +kernel, by decide +kernel, by decide +kernel⟩, by decide⟩, okw (in3 176 (by decide +kernel)) (by decide +kernel), okw (in3 177 (by decide +kernel)) (by decide +kernel)⟩
theorem iX11_image : MV mX11_image 1 := ⟨⟨okw (in3 182 (by decide +kernel)) (by decide +kernel), okw (in1 1 (by decide +kernel)) (by decide +kernel), ⟨by decide +kernel, by decide +kernel, by decide +kernel⟩, by decide⟩, okw (in3 180 (by decide +kernel)) (by decide +kernel), okw (in3 181 (by decide +kernel)) (by decide +kernel)⟩
theorem iX11_fewest : MV mX11_fewest 1 := ⟨⟨okw (in3 190 (by decide +kernel)) (by decide +kernel), okw (in1 1 (by decide +kernel)) (by decide +kernel), ⟨by decide +kernel, by decide +kernel, by decide +kernel⟩, by decide⟩, okw (in3 188 (by decide +kernel)) (by decide +kernel), okw (in3 189 (by decide +kernel)) (by decide +kernel)⟩
theorem iX11_time : MV mX11_time 2 := ⟨⟨okw (in4 40 (by decide +kernel)) (by decide +kernel), okw (in1 1 (by decide +kernel)) (by decide +kernel), ⟨by decide +kernel, by decide +kernel, by decide +kernel⟩, by decide⟩, okw (in4 38 (by decide +kernel)) (by decide +kernel), okw (in4 39 (by decide +kernel)) (by decide +kernel)⟩
theorem iX11_start : MV mX11_start 3 := ⟨⟨okw (in4 44 (by decide +kernel)) (by decide +kernel), okw (in1 1 (by decide +kernel)) (by decide +kernel), ⟨by decide +kernel, by decide +kernel, by decide +kernel⟩, by decide⟩, okw (in4 42 (by decide +kernel)) (by decide +kernel), okw (in4 43 (by decide +kernel)) (by decide +kernel)⟩
theorem iX11_sure : MV mX11_sure 4 := ⟨⟨okw (in4 52 (by decide +kernel)) (by decide +kernel), okw (in1 1 (by decide +kernel)) (by decide +kernel), ⟨by decide +kernel, by decide +kernel, by decide +kernel⟩, by decide⟩, okw (in4 50 (by decide +kernel)) (by decide +kernel), okw (in4 51 (by decide +kernel)) (by decide +kernel)⟩
theorem iX11_refusals : MV mX11_refusals 2 := ⟨⟨okw (in4 73 (by decide +kernel)) (by decide +kernel), okw (in1 1 (by decide +kernel)) (by decide +kernel), ⟨by decide +kernel, by decide +kernel, by decide +kernel⟩, by decide⟩, okw (in4 71 (by decide +kernel)) (by decide +kernel), okw (in4 72 (by decide +kernel)) (by decide +kernel)⟩
theorem iX11_refusal : MV mX11_refusal 4 := ⟨⟨okw (in4 77 (by decide +kernel)) (by decide +kernel), okw (in1 1 (by decide +kernel)) (by decide +kernel), ⟨by decide +kernel, by decide +kernel, by decide +kernel⟩, by decide⟩, okw (in4 75 (by decide +kernel)) (by decide +kernel), okw (in4 76 (by decide +kernel)) (by decide +kernel)⟩
theorem iX11_trial : MV mX11_trial 3 := ⟨⟨okw (in4 85 (by decide +kernel)) (by decide +kernel), okw (in1 1 (by decide +kernel)) (by decide +kernel), ⟨by decide +kernel, by decide +kernel, by decide +kernel⟩, by decide⟩, okw (in4 83 (by decide +kernel)) (by decide +kernel), okw (in4 84 (by decide +kernel)) (by decide +kernel)⟩
theorem iX11_helps : MV mX11_helps 2 := ⟨⟨okw (in4 113 (by decide +kernel)) (by decide +kernel), okw (in1 1 (by decide +kernel)) (by decide +kernel), ⟨by decide +kernel, by decide +kernel, by decide +kernel⟩, by decide⟩, okw (in4 111 (by decide +kernel)) (by decide +kernel), okw (in4 112 (by decide +kernel)) (by decide +kernel)⟩
theorem iX11_symmetries : MV mX11_symmetries 0 := ⟨⟨okw (in4 122 (by decide +kernel)) (by decide +kernel), okw (in1 1 (by decide +kernel)) (by decide +kernel), ⟨by decide +kernel, by decide +kernel, by decide +kernel⟩, by decide⟩, okw (in4 120 (by decide +kernel)) (by decide +kernel), okw (in4 121 (by decide +kernel)) (by decide +kernel)⟩
theorem iX11_alike : MV mX11_alike 1 := ⟨⟨okw (in4 146 (by decide +kernel)) (by decide +kernel), okw (in1 1 (by decide +kernel)) (by decide +kernel), ⟨by decide +kernel, by decide +kernel, by decide +kernel⟩, by decide⟩, okw (in4 144 (by decide +kernel)) (by decide +kernel), okw (in4 145 (by decide +kernel)) (by decide +kernel)⟩
theorem iX11_guard : MV mX11_guard 1 := ⟨⟨okw (in4 154 (by decide +kernel)) (by decide +kernel), okw (in1 1 (by decide +kernel)) (by decide +kernel), ⟨by decide +kernel, by decide +kernel, by decide +kernel⟩, by decide⟩, okw (in4 152 (by decide +kernel)) (by decide +kernel), okw (in4 153 (by decide +kernel)) (by decide +kernel)⟩
theorem iX11_guards : MV mX11_guards 3 := ⟨⟨okw (in4 182 (by decide +kernel)) (by decide +kernel), okw (in1 1 (by decide +kernel)) (by decide +kernel), ⟨by decide +kernel, by decide +kernel, by decide +kernel⟩, by decide⟩, okw (in4 180 (by decide +kernel)) (by decide +kernel), okw (in4 181 (by decide +kernel)) (by decide +kernel)⟩
theorem iX11_sweep : MV mX11_sweep 1 := ⟨⟨okw (in4 190 (by decide +kernel)) (by decide +kernel), okw (in1 1 (by decide +kernel)) (by decide +kernel), ⟨by decide +kernel, by decide +kernel, by decide +kernel⟩, by decide⟩, okw (in4 188 (by decide +kernel)) (by decide +kernel), okw (in4 189 (by decide +kernel)) (by decide +kernel)⟩
theorem iX11_swept : MV mX11_swept 3 := ⟨⟨okw (in4 239 (by decide +kernel)) (by decide +kernel), okw (in1 1 (by decide +kernel)) (by decide +kernel), ⟨by decide +kernel, by decide +kernel, by decide +kernel⟩, by decide⟩, okw (in4 237 (by decide +kernel)) (by decide +kernel), okw (in4 238 (by decide +kernel)) (by decide +kernel)⟩
theorem iX11_begin : MV mX11_begin 5 := ⟨⟨okw (in5 8 (by decide +kernel)) (by decide +kernel), okw (in1 1 (by decide +kernel)) (by decide +kernel), ⟨by decide +kernel, by decide +kernel, by decide +kernel⟩, by decide⟩, okw (in5 6 (by decide +kernel)) (by decide +kernel), okw (in5 7 (by decide +kernel)) (by decide +kernel)⟩
theorem iX11_scene : MV mX11_scene 1 := ⟨⟨okw (in5 26 (by decide +kernel)) (by decide +kernel), okw (in1 1 (by decide +kernel)) (by decide +kernel), ⟨by decide +kernel, by decide +kernel, by decide +kernel⟩, by decide⟩, okw (in5 24 (by decide +kernel)) (by decide +kernel), okw (in5 25 (by decide +kernel)) (by decide +kernel)⟩
theorem iX11_best : MV mX11_best 1 := ⟨⟨okw (in5 44 (by decide +kernel)) (by decide +kernel), okw (in1 1 (by decide +kernel)) (by decide +kernel), ⟨by decide +kernel, by decide +kernel, by decide +kernel⟩, by decide⟩, okw (in5 42 (by decide +kernel)) (by decide +kernel), okw (in5 43 (by decide +kernel)) (by decide +kernel)⟩
theorem iX11_safe : MV mX11_safe 0 := ⟨⟨okw (in5 57 (by decide +kernel)) (by decide +kernel), okw (in1 1 (by decide +kernel)) (by decide +kernel), ⟨by decide +kernel, by decide +kernel, by decide +kernel⟩, by decide⟩, okw (in5 55 (by decide +kernel)) (by decide +kernel), okw (in5 56 (by decide +kernel)) (by decide +kernel)⟩
theorem iX11_hunt : MV mX11_hunt 3 := ⟨⟨okw (in5 66 (by decide +kernel)) (by decide +kernel), okw (in1 1 (by decide +kernel)) (by decide +kernel), ⟨by decide +kernel, by decide +kernel, by decide +kernel⟩, by decide⟩, okw (in5 64 (by decide +kernel)) (by decide +kernel), okw (in5 65 (by decide +kernel)) (by decide +kernel)⟩
theorem iX11_run : MV mX11_run 1 := ⟨⟨okw (in5 80 (by decide +kernel)) (by decide +kernel), okw (in1 1 (by decide +kernel)) (by decide +kernel), ⟨by decide +kernel, by decide +kernel, by decide +kernel⟩, by decide⟩, okw (in5 78 (by decide +kernel)) (by decide +kernel), okw (in5 79 (by decide +kernel)) (by decide +kernel)⟩
theorem iX11_play : MV mX11_play 1 := ⟨⟨okw (in5 89 (by decide +kernel)) (by decide +kernel), okw (in1 1 (by decide +kernel)) (by decide +kernel), ⟨by decide +kernel, by decide +kernel, by decide +kernel⟩, by decide⟩, okw (in5 87 (by decide +kernel)) (by decide +kernel), okw (in5 88 (by decide +kernel)) (by decide +kernel)⟩
theorem iX11_toggle : MV mX11_toggle 2 := ⟨⟨okw (in5 97 (by decide +kernel)) (by decide +kernel), okw (in1 1 (by decide +kernel)) (by decide +kernel), ⟨by decide +kernel, by decide +kernel, by decide +kernel⟩, by decide⟩, okw (in5 95 (by decide +kernel)) (by decide +kernel), okw (in5 96 (by decide +kernel)) (by decide +kernel)⟩
theorem iX11_become : MV mX11_become 1 := ⟨⟨okw (in5 106 (by decide +kernel)) (by decide +kernel), okw (in1 1 (by decide +kernel)) (by decide +kernel), ⟨by decide +kernel, by decide +kernel, by decide +kernel⟩, by decide⟩, okw (in5 104 (by decide +kernel)) (by decide +kernel), okw (in5 105 (by decide +kernel)) (by decide +kernel)⟩
theorem iX11_undo : MV mX11_undo 0 := ⟨⟨okw (in5 128 (by decide +kernel)) (by decide +kernel), okw (in1 1 (by decide +kernel)) (by decide +kernel), ⟨by decide +kernel, by decide +kernel, by decide +kernel⟩, by decide⟩, okw (in5 126 (by decide +kernel)) (by decide +kernel), okw (in5 127 (by decide +kernel)) (by decide +kernel)⟩
theorem iX11_takeDraft : MV mX11_takeDraft 0 := ⟨⟨okw (in5 101 (by decide +kernel)) (by decide +kernel), okw (in1 1 (by decide +kernel)) (by decide +kernel), ⟨by decide +kernel, by decide +kernel, by decide +kernel⟩, by decide⟩, okw (in5 100 (by decide +kernel)) (by decide +kernel), okw (in0 (q := (⟨"SureHunters", "takeDraft", "()V"⟩, 11)) 103 (by decide +kernel)) rfl⟩
theorem iX11_renew : MV mX11_renew 0 := ⟨⟨okw (in3 66 (by decide +kernel)) (by decide +kernel), okw (in1 1 (by decide +kernel)) (by decide +kernel), ⟨by decide +kernel, by decide +kernel, by decide +kernel⟩, by decide⟩, okw (in3 65 (by decide +kernel)) (by decide +kernel), okw (in0 (q := (⟨"SureHunters", "renew", "()V"⟩, 11)) 24 (by decide +kernel)) rfl⟩
theorem iX11_low : MV mX11_low 0 := ⟨⟨okw (in3 131 (by decide +kernel)) (by decide +kernel), okw (in1 1 (by decide +kernel)) (by decide +kernel), ⟨by decide +kernel, by decide +kernel, by decide +kernel⟩, by decide⟩, okw (in3 130 (by decide +kernel)) (by decide +kernel), okw (in0 (q := (⟨"SureHunters", "low", "()I"⟩, 11)) 35 (by decide +kernel)) rfl⟩
theorem iX11_rowOf : MV mX11_rowOf 3 := ⟨⟨okw (in4 56 (by decide +kernel)) (by decide +kernel), okw (in1 1 (by decide +kernel)) (by decide +kernel), ⟨by decide +kernel, by decide +kernel, by decide +kernel⟩, by decide⟩, okw (in4 55 (by decide +kernel)) (by decide +kernel), okw (in0 (q := (⟨"SureHunters", "rowOf", "(III)I"⟩, 11)) 61 (by decide +kernel)) rfl⟩
theorem iX11_isSet : MV mX11_isSet 1 := ⟨⟨okw (in4 158 (by decide +kernel)) (by decide +kernel), okw (in1 1 (by decide +kernel)) (by decide +kernel), ⟨by decide +kernel, by decide +kernel, by decide +kernel⟩, by decide⟩, okw (in4 157 (by decide +kernel)) (by decide +kernel), okw (in0 (q := (⟨"SureHunters", "isSet", "(I)Z"⟩, 11)) 74 (by decide +kernel)) rfl⟩
theorem iX11_helpingLine : MV mX11_helpingLine 2 := ⟨⟨okw (in4 117 (by decide +kernel)) (by decide +kernel), okw (in1 1 (by decide +kernel)) (by decide +kernel), ⟨by decide +kernel, by decide +kernel, by decide +kernel⟩, by decide⟩, okw (in4 116 (by decide +kernel)) (by decide +kernel), okw (in0 (q := (⟨"SureHunters", "helpingLine", "(II)I"⟩, 11)) 69 (by decide +kernel)) rfl⟩
theorem iX11_isCaught : MV mX11_isCaught 0 := ⟨⟨okw (in5 30 (by decide +kernel)) (by decide +kernel), okw (in1 1 (by decide +kernel)) (by decide +kernel), ⟨by decide +kernel, by decide +kernel, by decide +kernel⟩, by decide⟩, okw (in5 29 (by decide +kernel)) (by decide +kernel), okw (in0 (q := (⟨"SureHunters", "isCaught", "()Z"⟩, 11)) 93 (by decide +kernel)) rfl⟩
theorem iX11_stageGame : MV mX11_stageGame 0 := ⟨⟨okw (in5 48 (by decide +kernel)) (by decide +kernel), okw (in1 1 (by decide +kernel)) (by decide +kernel), ⟨by decide +kernel, by decide +kernel, by decide +kernel⟩, by decide⟩, okw (in5 47 (by decide +kernel)) (by decide +kernel), okw (in0 (q := (⟨"SureHunters", "stageGame", "()LSureHunters$Game;"⟩, 11)) 96 (by decide +kernel)) rfl⟩
theorem iX11_stageWorth : MV mX11_stageWorth 0 := ⟨⟨okw (in5 35 (by decide +kernel)) (by decide +kernel), okw (in1 1 (by decide +kernel)) (by decide +kernel), ⟨by decide +kernel, by decide +kernel, by decide +kernel⟩, by decide⟩, okw (in5 34 (by decide +kernel)) (by decide +kernel), okw (in0 (q := (⟨"SureHunters", "stageWorth", "()I"⟩, 11)) 94 (by decide +kernel)) rfl⟩
theorem iX11_playTurn : MV mX11_playTurn 1 := ⟨⟨okw (in5 93 (by decide +kernel)) (by decide +kernel), okw (in1 1 (by decide +kernel)) (by decide +kernel), ⟨by decide +kernel, by decide +kernel, by decide +kernel⟩, by decide⟩, okw (in5 92 (by decide +kernel)) (by decide +kernel), okw (in0 (q := (⟨"SureHunters", "playTurn", "(LSureHunters$Game;)V"⟩, 11)) 102 (by decide +kernel)) rfl⟩
theorem iX12_init : MI mX12_init 0 := ⟨⟨okw (in5 223 (by decide +kernel)) (by decide +kernel), okw (in1 14 (by decide +kernel)) (by decide +kernel), ⟨by decide +kernel, by decide +kernel, by decide +kernel⟩, by decide⟩, rfl, okw (in5 222 (by decide +kernel)) (by decide +kernel), rfl⟩
theorem iX12_thrown : MV mX12_thrown 0 := ⟨⟨okw (in6 163 (by decide +kernel)) (by decide +kernel), okw (in1 14 (by decide +kernel)) (by decide +kernel), ⟨by decide +kernel, by decide +kernel, by decide +kernel⟩, by decide⟩, okw (in6 161 (by decide +kernel)) (by decide +kernel), okw (in6 162 (by decide +kernel)) (by decide +kernel)⟩
theorem iX12_in : MS mX12_in 3 := ⟨⟨okw (in6 178 (by decide +kernel)) (by decide +kernel), okw (in1 14 (by decide +kernel)) (by decide +kernel), ⟨by decide +kernel, by decide +kernel, by decide +kernel⟩, by decide⟩, okw (in6 177 (by decide +kernel)) (by decide +kernel)⟩
theorem iX12_isOf : MS mX12_isOf 2 := ⟨⟨okw (in6 230 (by decide +kernel)) (by decide +kernel), okw (in1 14 (by decide +kernel)) (by decide +kernel), ⟨by decide +kernel, by decide +kernel, by decide +kernel⟩, by decide⟩, okw (in6 229 (by decide +kernel)) (by decide +kernel)⟩
theorem iX12_lesser : MS mX12_lesser 2 := ⟨⟨okw (in7 56 (by decide +kernel)) (by decide +kernel), okw (in1 14 (by decide +kernel)) (by decide +kernel), ⟨by decide +kernel, by decide +kernel, by decide +kernel⟩, by decide⟩, okw (in7 55 (by decide +kernel)) (by decide +kernel)⟩
theorem iX12_greater : MS mX12_greater 2 := ⟨⟨okw (in7 59 (by decide +kernel)) (by decide +kernel), okw (in1 14 (by decide +kernel)) (by decide +kernel), ⟨by decide +kernel, by decide +kernel, by decide +kernel⟩, by decide⟩, okw (in7 58 (by decide +kernel)) (by decide +kernel)⟩
theorem iX12_many : MS mX12_many 1 := ⟨⟨okw (in7 25 (by decide +kernel)) (by decide +kernel), okw (in1 14 (by decide +kernel)) (by decide +kernel), ⟨by decide +kernel, by decide +kernel, by decide +kernel⟩, by decide⟩, okw (in7 24 (by decide +kernel)) (by decide +kernel)⟩
theorem iX12_isPlace : MV mX12_isPlace 1 := ⟨⟨okw (in7 6 (by decide +kernel)) (by decide +kernel), okw (in1 14 (by decide +kernel)) (by decide +kernel), ⟨by decide +kernel, by decide +kernel, by decide +kernel⟩, by decide⟩, okw (in7 5 (by decide +kernel)) (by decide +kernel), okw (in0 (q := (⟨"SureHuntersModel", "isPlace", "(I)Z"⟩, 58)) 122 (by decide +kernel)) rfl⟩
theorem iX12_allPlaces : MV mX12_allPlaces 0 := ⟨⟨okw (in7 33 (by decide +kernel)) (by decide +kernel), okw (in1 14 (by decide +kernel)) (by decide +kernel), ⟨by decide +kernel, by decide +kernel, by decide +kernel⟩, by decide⟩, okw (in7 32 (by decide +kernel)) (by decide +kernel), okw (in0 (q := (⟨"SureHuntersModel", "allPlaces", "()I"⟩, 58)) 126 (by decide +kernel)) rfl⟩
theorem iX12_four : MV mX12_four 1 := ⟨⟨okw (in6 171 (by decide +kernel)) (by decide +kernel), okw (in1 14 (by decide +kernel)) (by decide +kernel), ⟨by decide +kernel, by decide +kernel, by decide +kernel⟩, by decide⟩, okw (in6 170 (by decide +kernel)) (by decide +kernel), okw (in0 (q := (⟨"SureHuntersModel", "four", "(I)V"⟩, 58)) 110 (by decide +kernel)) rfl⟩
theorem iX12_feed : MV mX12_feed 5 := ⟨⟨okw (in6 167 (by decide +kernel)) (by decide +kernel), okw (in1 14 (by decide +kernel)) (by decide +kernel), ⟨by decide +kernel, by decide +kernel, by decide +kernel⟩, by decide⟩, okw (in6 165 (by decide +kernel)) (by decide +kernel), okw (in6 166 (by decide +kernel)) (by decide +kernel)⟩
theorem iX12_end : MV mX12_end 1 := ⟨⟨okw (in6 175 (by decide +kernel)) (by decide +kernel), okw (in1 14 (by decide +kernel)) (by decide +kernel), ⟨by decide +kernel, by decide +kernel, by decide +kernel⟩, by decide⟩, okw (in6 173 (by decide +kernel)) (by decide +kernel), okw (in6 174 (by decide +kernel)) (by decide +kernel)⟩
theorem iX12_byteAt : MV mX12_byteAt 1 := ⟨⟨okw (in6 190 (by decide +kernel)) (by decide +kernel), okw (in1 14 (by decide +kernel)) (by decide +kernel), ⟨by decide +kernel, by decide +kernel, by decide +kernel⟩, by decide⟩, okw (in6 189 (by decide +kernel)) (by decide +kernel), okw (in0 (q := (⟨"SureHuntersModel", "byteAt", "(I)I"⟩, 58)) 112 (by decide +kernel)) rfl⟩
theorem iX12_isSmall : MS mX12_isSmall 1 := ⟨⟨okw (in6 193 (by decide +kernel)) (by decide +kernel), okw (in1 14 (by decide +kernel)) (by decide +kernel), ⟨by decide +kernel, by decide +kernel, by decide +kernel⟩, by decide⟩, okw (in6 192 (by decide +kernel)) (by decide +kernel)⟩
theorem iX12_next : MV mX12_next 0 := ⟨⟨okw (in6 186 (by decide +kernel)) (by decide +kernel), okw (in1 14 (by decide +kernel)) (by decide +kernel), ⟨by decide +kernel, by decide +kernel, by decide +kernel⟩, by decide⟩, okw (in6 185 (by decide +kernel)) (by decide +kernel), okw (in0 (q := (⟨"SureHuntersModel", "next", "()V"⟩, 58)) 111 (by decide +kernel)) rfl⟩
theorem iX12_isGood : MV mX12_isGood 0 := ⟨⟨okw (in6 197 (by decide +kernel)) (by decide +kernel), okw (in1 14 (by decide +kernel)) (by decide +kernel), ⟨by decide +kernel, by decide +kernel, by decide +kernel⟩, by decide⟩, okw (in6 196 (by decide +kernel)) (by decide +kernel), okw (in0 (q := (⟨"SureHuntersModel", "isGood", "()Z"⟩, 58)) 113 (by decide +kernel)) rfl⟩
theorem iX12_fails : MV mX12_fails 1 := ⟨⟨okw (in6 210 (by decide +kernel)) (by decide +kernel), okw (in1 14 (by decide +kernel)) (by decide +kernel), ⟨by decide +kernel, by decide +kernel, by decide +kernel⟩, by decide⟩, okw (in6 209 (by decide +kernel)) (by decide +kernel), okw (in0 (q := (⟨"SureHuntersModel", "fails", "(I)V"⟩, 58)) 116 (by decide +kernel)) rfl⟩
theorem iX12_isWord : MV mX12_isWord 1 := ⟨⟨okw (in6 202 (by decide +kernel)) (by decide +kernel), okw (in1 14 (by decide +kernel)) (by decide +kernel), ⟨by decide +kernel, by decide +kernel, by decide +kernel⟩, by decide⟩, okw (in6 201 (by decide +kernel)) (by decide +kernel), okw (in0 (q := (⟨"SureHuntersModel", "isWord", "(I)Z"⟩, 58)) 114 (by decide +kernel)) rfl⟩
theorem iX12_goOn : MV mX12_goOn 0 := ⟨⟨okw (in6 223 (by decide +kernel)) (by decide +kernel), okw (in1 14 (by decide +kernel)) (by decide +kernel), ⟨by decide +kernel, by decide +kernel, by decide +kernel⟩, by decide⟩, okw (in6 222 (by decide +kernel)) (by decide +kernel), okw (in0 (q := (⟨"SureHuntersModel", "goOn", "()V"⟩, 58)) 119 (by decide +kernel)) rfl⟩
theorem iX12_called : MV mX12_called 0 := ⟨⟨okw (in6 219 (by decide +kernel)) (by decide +kernel), okw (in1 14 (by decide +kernel)) (by decide +kernel), ⟨by decide +kernel, by decide +kernel, by decide +kernel⟩, by decide⟩, okw (in6 218 (by decide +kernel)) (by decide +kernel), okw (in0 (q := (⟨"SureHuntersModel", "called", "()I"⟩, 58)) 118 (by decide +kernel)) rfl⟩
theorem iX12_mustBeName : MV mX12_mustBeName 0 := ⟨⟨okw (in6 214 (by decide +kernel)) (by decide +kernel), okw (in1 14 (by decide +kernel)) (by decide +kernel), ⟨by decide +kernel, by decide +kernel, by decide +kernel⟩, by decide⟩, okw (in6 213 (by decide +kernel)) (by decide +kernel), okw (in0 (q := (⟨"SureHuntersModel", "mustBeName", "()V"⟩, 58)) 117 (by decide +kernel)) rfl⟩
theorem iX12_readPlace : MV mX12_readPlace 0 := ⟨⟨okw (in6 206 (by decide +kernel)) (by decide +kernel), okw (in1 14 (by decide +kernel)) (by decide +kernel), ⟨by decide +kernel, by decide +kernel, by decide +kernel⟩, by decide⟩, okw (in6 205 (by decide +kernel)) (by decide +kernel), okw (in0 (q := (⟨"SureHuntersModel", "readPlace", "()V"⟩, 58)) 115 (by decide +kernel)) rfl⟩
theorem iX12_readLine : MV mX12_readLine 0 := ⟨⟨okw (in6 227 (by decide +kernel)) (by decide +kernel), okw (in1 14 (by decide +kernel)) (by decide +kernel), ⟨by decide +kernel, by decide +kernel, by decide +kernel⟩, by decide⟩, okw (in6 226 (by decide +kernel)) (by decide +kernel), okw (in0 (q := (⟨"SureHuntersModel", "readLine", "()V"⟩, 58)) 120 (by decide +kernel)) rfl⟩
theorem iX12_net : MV mX12_net 0 := ⟨⟨okw (in6 182 (by decide +kernel)) (by decide +kernel), okw (in1 14 (by decide +kernel)) (by decide +kernel), ⟨by decide +kernel, by decide +kernel, by decide +kernel⟩, by decide⟩, okw (in6 180 (by decide +kernel)) (by decide +kernel), okw (in6 181 (by decide +kernel)) (by decide +kernel)⟩
theorem iX12_fault : MV mX12_fault 1 := ⟨⟨okw (in6 238 (by decide +kernel)) (by decide +kernel), okw (in1 14 (by decide +kernel)) (by decide +kernel), ⟨by decide +kernel, by decide +kernel, by decide +kernel⟩, by decide⟩, okw (in6 236 (by decide +kernel)) (by decide +kernel), okw (in6 237 (by decide +kernel)) (by decide +kernel)⟩
theorem iX12_another : MV mX12_another 0 := ⟨⟨okw (in6 234 (by decide +kernel)) (by decide +kernel), okw (in1 14 (by decide +kernel)) (by decide +kernel), ⟨by decide +kernel, by decide +kernel, by decide +kernel⟩, by decide⟩, okw (in6 233 (by decide +kernel)) (by decide +kernel), okw (in0 (q := (⟨"SureHuntersModel", "another", "()V"⟩, 58)) 121 (by decide +kernel)) rfl⟩
theorem iX12_near : MV mX12_near 1 := ⟨⟨okw (in7 2 (by decide +kernel)) (by decide +kernel), okw (in1 14 (by decide +kernel)) (by decide +kernel), ⟨by decide +kernel, by decide +kernel, by decide +kernel⟩, by decide⟩, okw (in7 0 (by decide +kernel)) (by decide +kernel), okw (in7 1 (by decide +kernel)) (by decide +kernel)⟩
theorem iX12_nearAll : MV mX12_nearAll 1 := ⟨⟨okw (in7 37 (by decide +kernel)) (by decide +kernel), okw (in1 14 (by decide +kernel)) (by decide +kernel), ⟨by decide +kernel, by decide +kernel, by decide +kernel⟩, by decide⟩, okw (in7 36 (by decide +kernel)) (by decide +kernel), okw (in0 (q := (⟨"SureHuntersModel", "nearAll", "(I)I"⟩, 58)) 127 (by decide +kernel)) rfl⟩
theorem iX12_steps : MV mX12_steps 3 := ⟨⟨okw (in7 14 (by decide +kernel)) (by decide +kernel), okw (in1 14 (by decide +kernel)) (by decide +kernel), ⟨by decide +kernel, by decide +kernel, by decide +kernel⟩, by decide⟩, okw (in7 13 (by decide +kernel)) (by decide +kernel), okw (in0 (q := (⟨"SureHuntersModel", "steps", "(III)I"⟩, 58)) 123 (by decide +kernel)) rfl⟩
theorem iX12_distance : MV mX12_distance 2 := ⟨⟨okw (in7 10 (by decide +kernel)) (by decide +kernel), okw (in1 14 (by decide +kernel)) (by decide +kernel), ⟨by decide +kernel, by decide +kernel, by decide +kernel⟩, by decide⟩, okw (in7 8 (by decide +kernel)) (by decide +kernel), okw (in7 9 (by decide +kernel)) (by decide +kernel)⟩
theorem iX12_lines : MV mX12_lines 0 := ⟨⟨okw (in7 22 (by decide +kernel)) (by decide +kernel), okw (in1 14 (by decide +kernel)) (by decide +kernel), ⟨by decide +kernel, by decide +kernel, by decide +kernel⟩, by decide⟩, okw (in7 21 (by decide +kernel)) (by decide +kernel), okw (in0 (q := (⟨"SureHuntersModel", "lines", "()I"⟩, 58)) 124 (by decide +kernel)) rfl⟩
theorem iX12_parts : MV mX12_parts 0 := ⟨⟨okw (in7 29 (by decide +kernel)) (by decide +kernel), okw (in1 14 (by decide +kernel)) (by decide +kernel), ⟨by decide +kernel, by decide +kernel, by decide +kernel⟩, by decide⟩, okw (in7 28 (by decide +kernel)) (by decide +kernel), okw (in0 (q := (⟨"SureHuntersModel", "parts", "()I"⟩, 58)) 125 (by decide +kernel)) rfl⟩
theorem iX12_girth : MV mX12_girth 0 := ⟨⟨okw (in7 41 (by decide +kernel)) (by decide +kernel), okw (in1 14 (by decide +kernel)) (by decide +kernel), ⟨by decide +kernel, by decide +kernel, by decide +kernel⟩, by decide⟩, okw (in7 40 (by decide +kernel)) (by decide +kernel), okw (in0 (q := (⟨"SureHuntersModel", "girth", "()I"⟩, 58)) 128 (by decide +kernel)) rfl⟩
theorem iX12_low : MV mX12_low 0 := ⟨⟨okw (in7 45 (by decide +kernel)) (by decide +kernel), okw (in1 14 (by decide +kernel)) (by decide +kernel), ⟨by decide +kernel, by decide +kernel, by decide +kernel⟩, by decide⟩, okw (in7 44 (by decide +kernel)) (by decide +kernel), okw (in0 (q := (⟨"SureHuntersModel", "low", "()I"⟩, 58)) 129 (by decide +kernel)) rfl⟩
theorem iX12_isAhead : MS mX12_isAhead 2 := ⟨⟨okw (in7 66 (by decide +kernel)) (by decide +kernel), okw (in1 14 (by decide +kernel)) (by decide +kernel), ⟨by decide +kernel, by decide +kernel, by decide +kernel⟩, by decide⟩, okw (in7 65 (by decide +kernel)) (by decide +kernel)⟩
theorem iX12_cover : MV mX12_cover 0 := ⟨⟨okw (in7 63 (by decide +kernel)) (by decide +kernel), okw (in1 14 (by decide +kernel)) (by decide +kernel), ⟨by decide +kernel, by decide +kernel, by decide +kernel⟩, by decide⟩, okw (in7 62 (by decide +kernel)) (by decide +kernel), okw (in0 (q := (⟨"SureHuntersModel", "cover", "()I"⟩, 58)) 132 (by decide +kernel)) rfl⟩
theorem iX12_about : MV mX12_about 1 := ⟨⟨okw (in7 18 (by decide +kernel)) (by decide +kernel), okw (in1 14 (by decide +kernel)) (by decide +kernel), ⟨by decide +kernel, by decide +kernel, by decide +kernel⟩, by decide⟩, okw (in7 16 (by decide +kernel)) (by decide +kernel), okw (in7 17 (by decide +kernel)) (by decide +kernel)⟩
theorem iX12_cornerBy : MV mX12_cornerBy 2 := ⟨⟨okw (in7 53 (by decide +kernel)) (by decide +kernel), okw (in1 14 (by decide +kernel)) (by decide +kernel), ⟨by decide +kernel, by decide +kernel, by decide +kernel⟩, by decide⟩, okw (in7 52 (by decide +kernel)) (by decide +kernel), okw (in0 (q := (⟨"SureHuntersModel", "cornerBy", "(II)I"⟩, 58)) 131 (by decide +kernel)) rfl⟩
theorem iX12_dismantle : MV mX12_dismantle 0 := ⟨⟨okw (in7 49 (by decide +kernel)) (by decide +kernel), okw (in1 14 (by decide +kernel)) (by decide +kernel), ⟨by decide +kernel, by decide +kernel, by decide +kernel⟩, by decide⟩, okw (in7 48 (by decide +kernel)) (by decide +kernel), okw (in0 (q := (⟨"SureHuntersModel", "dismantle", "()V"⟩, 58)) 130 (by decide +kernel)) rfl⟩
theorem iX12_corner : MV mX12_corner 1 := ⟨⟨okw (in7 70 (by decide +kernel)) (by decide +kernel), okw (in1 14 (by decide +kernel)) (by decide +kernel), ⟨by decide +kernel, by decide +kernel, by decide +kernel⟩, by decide⟩, okw (in7 68 (by decide +kernel)) (by decide +kernel), okw (in7 69 (by decide +kernel)) (by decide +kernel)⟩
theorem iX12_goes : MV mX12_goes 1 := ⟨⟨okw (in7 74 (by decide +kernel)) (by decide +kernel), okw (in1 14 (by decide +kernel)) (by decide +kernel), ⟨by decide +kernel, by decide +kernel, by decide +kernel⟩, by decide⟩, okw (in7 72 (by decide +kernel)) (by decide +kernel), okw (in7 73 (by decide +kernel)) (by decide +kernel)⟩
theorem iX12_left : MV mX12_left 0 := ⟨⟨okw (in7 78 (by decide +kernel)) (by decide +kernel), okw (in1 14 (by decide +kernel)) (by decide +kernel), ⟨by decide +kernel, by decide +kernel, by decide +kernel⟩, by decide⟩, okw (in7 76 (by decide +kernel)) (by decide +kernel), okw (in7 77 (by decide +kernel)) (by decide +kernel)⟩
theorem iX12_image : MV mX12_image 1 := ⟨⟨okw (in7 82 (by decide +kernel)) (by decide +kernel), okw (in1 14 (by decide +kernel)) (by decide +kernel), ⟨by decide +kernel, by decide +kernel, by decide +kernel⟩, by decide⟩, okw (in7 80 (by decide +kernel)) (by decide +kernel), okw (in7 81 (by decide +kernel)) (by decide +kernel)⟩
theorem iX12_layRows : MV mX12_layRows 1 := ⟨⟨okw (in7 106 (by decide +kernel)) (by decide +kernel), okw (in1 14 (by decide +kernel)) (by decide +kernel), ⟨by decide +kernel, by decide +kernel, by decide +kernel⟩, by decide⟩, okw (in7 105 (by decide +kernel)) (by decide +kernel), okw (in0 (q := (⟨"SureHuntersModel", "layRows", "(I)V"⟩, 58)) 137 (by decide +kernel)) rfl⟩
theorem iX12_comes : MV mX12_comes 3 := ⟨⟨okw (in7 110 (by decide +kernel)) (by decide +kernel), okw (in1 14 (by decide +kernel)) (by decide +kernel), ⟨by decide +kernel, by decide +kernel, by decide +kernel⟩, by decide⟩, okw (in7 109 (by decide +kernel)) (by decide +kernel), okw (in0 (q := (⟨"SureHuntersModel", "comes", "(III)Z"⟩, 58)) 138 (by decide +kernel)) rfl⟩
theorem iX12_layGoing : MV mX12_layGoing 2 := ⟨⟨okw (in7 102 (by decide +kernel)) (by decide +kernel), okw (in1 14 (by decide +kernel)) (by decide +kernel), ⟨by decide +kernel, by decide +kernel, by decide +kernel⟩, by decide⟩, okw (in7 101 (by decide +kernel)) (by decide +kernel), okw (in0 (q := (⟨"SureHuntersModel", "layGoing", "(II)V"⟩, 58)) 136 (by decide +kernel)) rfl⟩
theorem iX12_runs : MV mX12_runs 3 := ⟨⟨okw (in7 118 (by decide +kernel)) (by decide +kernel), okw (in1 14 (by decide +kernel)) (by decide +kernel), ⟨by decide +kernel, by decide +kernel, by decide +kernel⟩, by decide⟩, okw (in7 117 (by decide +kernel)) (by decide +kernel), okw (in0 (q := (⟨"SureHuntersModel", "runs", "(III)I"⟩, 58)) 140 (by decide +kernel)) rfl⟩
theorem iX12_solve : MV mX12_solve 2 := ⟨⟨okw (in7 98 (by decide +kernel)) (by decide +kernel), okw (in1 14 (by decide +kernel)) (by decide +kernel), ⟨by decide +kernel, by decide +kernel, by decide +kernel⟩, by decide⟩, okw (in7 97 (by decide +kernel)) (by decide +kernel), okw (in0 (q := (⟨"SureHuntersModel", "solve", "(II)V"⟩, 58)) 135 (by decide +kernel)) rfl⟩
theorem iX12_layRunner : MV mX12_layRunner 1 := ⟨⟨okw (in7 114 (by decide +kernel)) (by decide +kernel), okw (in1 14 (by decide +kernel)) (by decide +kernel), ⟨by decide +kernel, by decide +kernel, by decide +kernel⟩, by decide⟩, okw (in7 113 (by decide +kernel)) (by decide +kernel), okw (in0 (q := (⟨"SureHuntersModel", "layRunner", "(I)V"⟩, 58)) 139 (by decide +kernel)) rfl⟩
theorem iX12_leastBehind : MV mX12_leastBehind 2 := ⟨⟨okw (in7 122 (by decide +kernel)) (by decide +kernel), okw (in1 14 (by decide +kernel)) (by decide +kernel), ⟨by decide +kernel, by decide +kernel, by decide +kernel⟩, by decide⟩, okw (in7 121 (by decide +kernel)) (by decide +kernel), okw (in0 (q := (⟨"SureHuntersModel", "leastBehind", "(II)I"⟩, 58)) 141 (by decide +kernel)) rfl⟩
theorem iX12_bestRow : MV mX12_bestRow 2 := ⟨⟨okw (in7 175 (by decide +kernel)) (by decide +kernel), okw (in1 14 (by decide +kernel)) (by decide +kernel), ⟨by decide +kernel, by decide +kernel, by decide +kernel⟩, by decide⟩, okw (in7 174 (by decide +kernel)) (by decide +kernel), okw (in0 (q := (⟨"SureHuntersModel", "bestRow", "(II)I"⟩, 58)) 148 (by decide +kernel)) rfl⟩
theorem iX12_greatestOf : MV mX12_greatestOf 1 := ⟨⟨okw (in7 130 (by decide +kernel)) (by decide +kernel), okw (in1 14 (by decide +kernel)) (by decide +kernel), ⟨by decide +kernel, by decide +kernel, by decide +kernel⟩, by decide⟩, okw (in7 129 (by decide +kernel)) (by decide +kernel), okw (in0 (q := (⟨"SureHuntersModel", "greatestOf", "(I)I"⟩, 58)) 143 (by decide +kernel)) rfl⟩
theorem iX12_startRow : MV mX12_startRow 0 := ⟨⟨okw (in7 126 (by decide +kernel)) (by decide +kernel), okw (in1 14 (by decide +kernel)) (by decide +kernel), ⟨by decide +kernel, by decide +kernel, by decide +kernel⟩, by decide⟩, okw (in7 125 (by decide +kernel)) (by decide +kernel), okw (in0 (q := (⟨"SureHuntersModel", "startRow", "()I"⟩, 58)) 142 (by decide +kernel)) rfl⟩
theorem iX12_isGame : MV mX12_isGame 2 := ⟨⟨okw (in7 90 (by decide +kernel)) (by decide +kernel), okw (in1 14 (by decide +kernel)) (by decide +kernel), ⟨by decide +kernel, by decide +kernel, by decide +kernel⟩, by decide⟩, okw (in7 89 (by decide +kernel)) (by decide +kernel), okw (in0 (q := (⟨"SureHuntersModel", "isGame", "(II)Z"⟩, 58)) 133 (by decide +kernel)) rfl⟩
theorem iX12_timeOf : MV mX12_timeOf 2 := ⟨⟨okw (in7 94 (by decide +kernel)) (by decide +kernel), okw (in1 14 (by decide +kernel)) (by decide +kernel), ⟨by decide +kernel, by decide +kernel, by decide +kernel⟩, by decide⟩, okw (in7 93 (by decide +kernel)) (by decide +kernel), okw (in0 (q := (⟨"SureHuntersModel", "timeOf", "(II)I"⟩, 58)) 134 (by decide +kernel)) rfl⟩
theorem iX12_time : MV mX12_time 2 := ⟨⟨okw (in7 86 (by decide +kernel)) (by decide +kernel), okw (in1 14 (by decide +kernel)) (by decide +kernel), ⟨by decide +kernel, by decide +kernel, by decide +kernel⟩, by decide⟩, okw (in7 84 (by decide +kernel)) (by decide +kernel), okw (in7 85 (by decide +kernel)) (by decide +kernel)⟩
theorem iX12_fewest : MV mX12_fewest 1 := ⟨⟨okw (in7 134 (by decide +kernel)) (by decide +kernel), okw (in1 14 (by decide +kernel)) (by decide +kernel), ⟨by decide +kernel, by decide +kernel, by decide +kernel⟩, by decide⟩, okw (in7 132 (by decide +kernel)) (by decide +kernel), okw (in7 133 (by decide +kernel)) (by decide +kernel)⟩
theorem iX12_start : MV mX12_start 3 := ⟨⟨okw (in7 138 (by decide +kernel)) (by decide +kernel), okw (in1 14 (by decide +kernel)) (by decide +kernel), ⟨by decide +kernel, by decide +kernel, by decide +kernel⟩, by decide⟩, okw (in7 136 (by decide +kernel)) (by decide +kernel), okw (in7 137 (by decide +kernel)) (by decide +kernel)⟩
theorem iX12_tell : MV mX12_tell 3 := ⟨⟨okw (in7 146 (by decide +kernel)) (by decide +kernel), okw (in1 14 (by decide +kernel)) (by decide +kernel), ⟨by decide +kernel, by decide +kernel, by decide +kernel⟩, by decide⟩, okw (in7 145 (by decide +kernel)) (by decide +kernel), okw (in0 (q := (⟨"SureHuntersModel", "tell", "(III)I"⟩, 58)) 144 (by decide +kernel)) rfl⟩
theorem iX12_rowTold : MV mX12_rowTold 0 := ⟨⟨okw (in7 150 (by decide +kernel)) (by decide +kernel), okw (in1 14 (by decide +kernel)) (by decide +kernel), ⟨by decide +kernel, by decide +kernel, by decide +kernel⟩, by decide⟩, okw (in7 149 (by decide +kernel)) (by decide +kernel), okw (in0 (q := (⟨"SureHuntersModel", "rowTold", "()I"⟩, 58)) 145 (by decide +kernel)) rfl⟩
theorem iX12_sure : MV mX12_sure 4 := ⟨⟨okw (in7 142 (by decide +kernel)) (by decide +kernel), okw (in1 14 (by decide +kernel)) (by decide +kernel), ⟨by decide +kernel, by decide +kernel, by decide +kernel⟩, by decide⟩, okw (in7 140 (by decide +kernel)) (by decide +kernel), okw (in7 141 (by decide +kernel)) (by decide +kernel)⟩
theorem iX12_refused : MV mX12_refused 1 := ⟨⟨okw (in7 158 (by decide +kernel)) (by decide +kernel), okw (in1 14 (by decide +kernel)) (by decide +kernel), ⟨by decide +kernel, by decide +kernel, by decide +kernel⟩, by decide⟩, okw (in7 157 (by decide +kernel)) (by decide +kernel), okw (in0 (q := (⟨"SureHuntersModel", "refused", "(I)I"⟩, 58)) 146 (by decide +kernel)) rfl⟩
theorem iX12_refusals : MV mX12_refusals 2 := ⟨⟨okw (in7 154 (by decide +kernel)) (by decide +kernel), okw (in1 14 (by decide +kernel)) (by decide +kernel), ⟨by decide +kernel, by decide +kernel, by decide +kernel⟩, by decide⟩, okw (in7 152 (by decide +kernel)) (by decide +kernel), okw (in7 153 (by decide +kernel)) (by decide +kernel)⟩
theorem iX12_refusal : MV mX12_refusal 4 := ⟨⟨okw (in7 162 (by decide +kernel)) (by decide +kernel), okw (in1 14 (by decide +kernel)) (by decide +kernel), ⟨by decide +kernel, by decide +kernel, by decide +kernel⟩, by decide⟩, okw (in7 160 (by decide +kernel)) (by decide +kernel), okw (in7 161 (by decide +kernel)) (by decide +kernel)⟩
theorem iX12_drawn : MV mX12_drawn 1 := ⟨⟨okw (in7 170 (by decide +kernel)) (by decide +kernel), okw (in1 14 (by decide +kernel)) (by decide +kernel), ⟨by decide +kernel, by decide +kernel, by decide +kernel⟩, by decide⟩, okw (in7 169 (by decide +kernel)) (by decide +kernel), okw (in0 (q := (⟨"SureHuntersModel", "drawn", "(I)I"⟩, 58)) 147 (by decide +kernel)) rfl⟩
theorem iX12_trial : MV mX12_trial 3 := ⟨⟨okw (in7 166 (by decide +kernel)) (by decide +kernel), okw (in1 14 (by decide +kernel)) (by decide +kernel), ⟨by decide +kernel, by decide +kernel, by decide +kernel⟩, by decide⟩, okw (in7 164 (by decide +kernel)) (by decide +kernel), okw (in7 165 (by decide +kernel)) (by decide +kernel)⟩
theorem iX12_turns : MV mX12_turns 2 := ⟨⟨okw (in7 183 (by decide +kernel)) (by decide +kernel), okw (in1 14 (by decide +kernel)) (by decide +kernel), ⟨by decide +kernel, by decide +kernel, by decide +kernel⟩, by decide⟩, okw (in7 182 (by decide +kernel)) (by decide +kernel), okw (in0 (q := (⟨"SureHuntersModel", "turns", "(II)V"⟩, 58)) 149 (by decide +kernel)) rfl⟩
theorem iX12_helps : MV mX12_helps 2 := ⟨⟨okw (in7 179 (by decide +kernel)) (by decide +kernel), okw (in1 14 (by decide +kernel)) (by decide +kernel), ⟨by decide +kernel, by decide +kernel, by decide +kernel⟩, by decide⟩, okw (in7 177 (by decide +kernel)) (by decide +kernel), okw (in7 178 (by decide +kernel)) (by decide +kernel)⟩
theorem iX12_fits : MV mX12_fits 1 := ⟨⟨okw (in7 195 (by decide +kernel)) (by decide +kernel), okw (in1 14 (by decide +kernel)) (by decide +kernel), ⟨by decide +kernel, by decide +kernel, by decide +kernel⟩, by decide⟩, okw (in7 194 (by decide +kernel)) (by decide +kernel), okw (in0 (q := (⟨"SureHuntersModel", "fits", "(I)Z"⟩, 58)) 151 (by decide +kernel)) rfl⟩
theorem iX12_laySymmetries : MV mX12_laySymmetries 0 := ⟨⟨okw (in7 191 (by decide +kernel)) (by decide +kernel), okw (in1 14 (by decide +kernel)) (by decide +kernel), ⟨by decide +kernel, by decide +kernel, by decide +kernel⟩, by decide⟩, okw (in7 190 (by decide +kernel)) (by decide +kernel), okw (in0 (q := (⟨"SureHuntersModel", "laySymmetries", "()V"⟩, 58)) 150 (by decide +kernel)) rfl⟩
theorem iX12_symmetries : MV mX12_symmetries 0 := ⟨⟨okw (in7 187 (by decide +kernel)) (by decide +kernel), okw (in1 14 (by decide +kernel)) (by decide +kernel), ⟨by decide +kernel, by decide +kernel, by decide +kernel⟩, by decide⟩, okw (in7 185 (by decide +kernel)) (by decide +kernel), okw (in7 186 (by decide +kernel)) (by decide +kernel)⟩
theorem iX12_alike : MV mX12_alike 1 := ⟨⟨okw (in7 199 (by decide +kernel)) (by decide +kernel), okw (in1 14 (by decide +kernel)) (by decide +kernel), ⟨by decide +kernel, by decide +kernel, by decide +kernel⟩, by decide⟩, okw (in7 197 (by decide +kernel)) (by decide +kernel), okw (in7 198 (by decide +kernel)) (by decide +kernel)⟩
theorem iX12_holds : MV mX12_holds 3 := ⟨⟨okw (in7 215 (by decide +kernel)) (by decide +kernel), okw (in1 14 (by decide +kernel)) (by decide +kernel), ⟨by decide +kernel, by decide +kernel, by decide +kernel⟩, by decide⟩, okw (in7 214 (by decide +kernel)) (by decide +kernel), okw (in0 (q := (⟨"SureHuntersModel", "holds", "(III)Z"⟩, 58)) 154 (by decide +kernel)) rfl⟩
theorem iX12_layGuard : MV mX12_layGuard 1 := ⟨⟨okw (in7 211 (by decide +kernel)) (by decide +kernel), okw (in1 14 (by decide +kernel)) (by decide +kernel), ⟨by decide +kernel, by decide +kernel, by decide +kernel⟩, by decide⟩, okw (in7 210 (by decide +kernel)) (by decide +kernel), okw (in0 (q := (⟨"SureHuntersModel", "layGuard", "(I)V"⟩, 58)) 153 (by decide +kernel)) rfl⟩
theorem iX12_isSet : MV mX12_isSet 1 := ⟨⟨okw (in7 207 (by decide +kernel)) (by decide +kernel), okw (in1 14 (by decide +kernel)) (by decide +kernel), ⟨by decide +kernel, by decide +kernel, by decide +kernel⟩, by decide⟩, okw (in7 206 (by decide +kernel)) (by decide +kernel), okw (in0 (q := (⟨"SureHuntersModel", "isSet", "(I)Z"⟩, 58)) 152 (by decide +kernel)) rfl⟩
theorem iX12_guard : MV mX12_guard 1 := ⟨⟨okw (in7 203 (by decide +kernel)) (by decide +kernel), okw (in1 14 (by decide +kernel)) (by decide +kernel), ⟨by decide +kernel, by decide +kernel, by decide +kernel⟩, by decide⟩, okw (in7 201 (by decide +kernel)) (by decide +kernel), okw (in7 202 (by decide +kernel)) (by decide +kernel)⟩
theorem iX12_guards : MV mX12_guards 3 := ⟨⟨okw (in7 219 (by decide +kernel)) (by decide +kernel), okw (in1 14 (by decide +kernel)) (by decide +kernel), ⟨by decide +kernel, by decide +kernel, by decide +kernel⟩, by decide⟩, okw (in7 217 (by decide +kernel)) (by decide +kernel), okw (in7 218 (by decide +kernel)) (by decide +kernel)⟩
theorem iX12_darkBehind : MV mX12_darkBehind 2 := ⟨⟨okw (in8 7 (by decide +kernel)) (by decide +kernel), okw (in1 14 (by decide +kernel)) (by decide +kernel), ⟨by decide +kernel, by decide +kernel, by decide +kernel⟩, by decide⟩, okw (in8 6 (by decide +kernel)) (by decide +kernel), okw (in0 (q := (⟨"SureHuntersModel", "darkBehind", "(II)I"⟩, 58)) 160 (by decide +kernel)) rfl⟩
theorem iX12_leftBehind : MV mX12_leftBehind 2 := ⟨⟨okw (in8 3 (by decide +kernel)) (by decide +kernel), okw (in1 14 (by decide +kernel)) (by decide +kernel), ⟨by decide +kernel, by decide +kernel, by decide +kernel⟩, by decide⟩, okw (in8 2 (by decide +kernel)) (by decide +kernel), okw (in0 (q := (⟨"SureHuntersModel", "leftBehind", "(II)I"⟩, 58)) 159 (by decide +kernel)) rfl⟩
theorem iX12_leastLeft : MV mX12_leastLeft 2 := ⟨⟨okw (in7 239 (by decide +kernel)) (by decide +kernel), okw (in1 14 (by decide +kernel)) (by decide +kernel), ⟨by decide +kernel, by decide +kernel, by decide +kernel⟩, by decide⟩, okw (in7 238 (by decide +kernel)) (by decide +kernel), okw (in0 (q := (⟨"SureHuntersModel", "leastLeft", "(II)I"⟩, 58)) 158 (by decide +kernel)) rfl⟩
theorem iX12_laySweep : MV mX12_laySweep 1 := ⟨⟨okw (in7 231 (by decide +kernel)) (by decide +kernel), okw (in1 14 (by decide +kernel)) (by decide +kernel), ⟨by decide +kernel, by decide +kernel, by decide +kernel⟩, by decide⟩, okw (in7 230 (by decide +kernel)) (by decide +kernel), okw (in0 (q := (⟨"SureHuntersModel", "laySweep", "(I)V"⟩, 58)) 156 (by decide +kernel)) rfl⟩
theorem iX12_bestBegin : MV mX12_bestBegin 0 := ⟨⟨okw (in7 235 (by decide +kernel)) (by decide +kernel), okw (in1 14 (by decide +kernel)) (by decide +kernel), ⟨by decide +kernel, by decide +kernel, by decide +kernel⟩, by decide⟩, okw (in7 234 (by decide +kernel)) (by decide +kernel), okw (in0 (q := (⟨"SureHuntersModel", "bestBegin", "()I"⟩, 58)) 157 (by decide +kernel)) rfl⟩
theorem iX12_layWay : MV mX12_layWay 1 := ⟨⟨okw (in8 11 (by decide +kernel)) (by decide +kernel), okw (in1 14 (by decide +kernel)) (by decide +kernel), ⟨by decide +kernel, by decide +kernel, by decide +kernel⟩, by decide⟩, okw (in8 10 (by decide +kernel)) (by decide +kernel), okw (in0 (q := (⟨"SureHuntersModel", "layWay", "(I)V"⟩, 58)) 161 (by decide +kernel)) rfl⟩
theorem iX12_isSweep : MV mX12_isSweep 1 := ⟨⟨okw (in7 227 (by decide +kernel)) (by decide +kernel), okw (in1 14 (by decide +kernel)) (by decide +kernel), ⟨by decide +kernel, by decide +kernel, by decide +kernel⟩, by decide⟩, okw (in7 226 (by decide +kernel)) (by decide +kernel), okw (in0 (q := (⟨"SureHuntersModel", "isSweep", "(I)Z"⟩, 58)) 155 (by decide +kernel)) rfl⟩
theorem iX12_sweep : MV mX12_sweep 1 := ⟨⟨okw (in7 223 (by decide +kernel)) (by decide +kernel), okw (in1 14 (by decide +kernel)) (by decide +kernel), ⟨by decide +kernel, by decide +kernel, by decide +kernel⟩, by decide⟩, okw (in7 221 (by decide +kernel)) (by decide +kernel), okw (in7 222 (by decide +kernel)) (by decide +kernel)⟩
theorem iX12_swept : MV mX12_swept 3 := ⟨⟨okw (in8 15 (by decide +kernel)) (by decide +kernel), okw (in1 14 (by decide +kernel)) (by decide +kernel), ⟨by decide +kernel, by decide +kernel, by decide +kernel⟩, by decide⟩, okw (in8 13 (by decide +kernel)) (by decide +kernel), okw (in8 14 (by decide +kernel)) (by decide +kernel)⟩
theorem iX12_isCaught : MV mX12_isCaught 0 := ⟨⟨okw (in8 31 (by decide +kernel)) (by decide +kernel), okw (in1 14 (by decide +kernel)) (by decide +kernel), ⟨by decide +kernel, by decide +kernel, by decide +kernel⟩, by decide⟩, okw (in8 30 (by decide +kernel)) (by decide +kernel), okw (in0 (q := (⟨"SureHuntersModel", "isCaught", "()Z"⟩, 58)) 163 (by decide +kernel)) rfl⟩
theorem iX12_sceneRow : MV mX12_sceneRow 0 := ⟨⟨okw (in8 39 (by decide +kernel)) (by decide +kernel), okw (in1 14 (by decide +kernel)) (by decide +kernel), ⟨by decide +kernel, by decide +kernel, by decide +kernel⟩, by decide⟩, okw (in8 38 (by decide +kernel)) (by decide +kernel), okw (in0 (q := (⟨"SureHuntersModel", "sceneRow", "()I"⟩, 58)) 165 (by decide +kernel)) rfl⟩
theorem iX12_stand : MV mX12_stand 1 := ⟨⟨okw (in8 59 (by decide +kernel)) (by decide +kernel), okw (in1 14 (by decide +kernel)) (by decide +kernel), ⟨by decide +kernel, by decide +kernel, by decide +kernel⟩, by decide⟩, okw (in8 58 (by decide +kernel)) (by decide +kernel), okw (in0 (q := (⟨"SureHuntersModel", "stand", "(I)V"⟩, 58)) 167 (by decide +kernel)) rfl⟩
theorem iX12_begin : MV mX12_begin 5 := ⟨⟨okw (in8 19 (by decide +kernel)) (by decide +kernel), okw (in1 14 (by decide +kernel)) (by decide +kernel), ⟨by decide +kernel, by decide +kernel, by decide +kernel⟩, by decide⟩, okw (in8 17 (by decide +kernel)) (by decide +kernel), okw (in8 18 (by decide +kernel)) (by decide +kernel)⟩
theorem iX12_worthNow : MV mX12_worthNow 0 := ⟨⟨okw (in8 35 (by decide +kernel)) (by decide +kernel), okw (in1 14 (by decide +kernel)) (by decide +kernel), ⟨by decide +kernel, by decide +kernel, by decide +kernel⟩, by decide⟩, okw (in8 34 (by decide +kernel)) (by decide +kernel), okw (in0 (q := (⟨"SureHuntersModel", "worthNow", "()I"⟩, 58)) 164 (by decide +kernel)) rfl⟩
theorem iX12_scene : MV mX12_scene 1 := ⟨⟨okw (in8 27 (by decide +kernel)) (by decide +kernel), okw (in1 14 (by decide +kernel)) (by decide +kernel), ⟨by decide +kernel, by decide +kernel, by decide +kernel⟩, by decide⟩, okw (in8 25 (by decide +kernel)) (by decide +kernel), okw (in8 26 (by decide +kernel)) (by decide +kernel)⟩
theorem iX12_bestPlace : MV mX12_bestPlace 1 := ⟨⟨okw (in8 47 (by decide +kernel)) (by decide +kernel), okw (in1 14 (by decide +kernel)) (by decide +kernel), ⟨by decide +kernel, by decide +kernel, by decide +kernel⟩, by decide⟩, okw (in8 46 (by decide +kernel)) (by decide +kernel), okw (in0 (q := (⟨"SureHuntersModel", "bestPlace", "(I)I"⟩, 58)) 166 (by decide +kernel)) rfl⟩
theorem iX12_best : MV mX12_best 1 := ⟨⟨okw (in8 43 (by decide +kernel)) (by decide +kernel), okw (in1 14 (by decide +kernel)) (by decide +kernel), ⟨by decide +kernel, by decide +kernel, by decide +kernel⟩, by decide⟩, okw (in8 41 (by decide +kernel)) (by decide +kernel), okw (in8 42 (by decide +kernel)) (by decide +kernel)⟩
theorem iX12_safe : MV mX12_safe 0 := ⟨⟨okw (in8 51 (by decide +kernel)) (by decide +kernel), okw (in1 14 (by decide +kernel)) (by decide +kernel), ⟨by decide +kernel, by decide +kernel, by decide +kernel⟩, by decide⟩, okw (in8 49 (by decide +kernel)) (by decide +kernel), okw (in8 50 (by decide +kernel)) (by decide +kernel)⟩
theorem iX12_hunt : MV mX12_hunt 3 := ⟨⟨okw (in8 55 (by decide +kernel)) (by decide +kernel), okw (in1 14 (by decide +kernel)) (by decide +kernel), ⟨by decide +kernel, by decide +kernel, by decide +kernel⟩, by decide⟩, okw (in8 53 (by decide +kernel)) (by decide +kernel), okw (in8 54 (by decide +kernel)) (by decide +kernel)⟩
theorem iX12_run : MV mX12_run 1 := ⟨⟨okw (in8 63 (by decide +kernel)) (by decide +kernel), okw (in1 14 (by decide +kernel)) (by decide +kernel), ⟨by decide +kernel, by decide +kernel, by decide +kernel⟩, by decide⟩, okw (in8 61 (by decide +kernel)) (by decide +kernel), okw (in8 62 (by decide +kernel)) (by decide +kernel)⟩
theorem iX12_play : MV mX12_play 1 := ⟨⟨okw (in8 67 (by decide +kernel)) (by decide +kernel), okw (in1 14 (by decide +kernel)) (by decide +kernel), ⟨by decide +kernel, by decide +kernel, by decide +kernel⟩, by decide⟩, okw (in8 65 (by decide +kernel)) (by decide +kernel), okw (in8 66 (by decide +kernel)) (by decide +kernel)⟩
theorem iX12_keep : MV mX12_keep 0 := ⟨⟨okw (in8 23 (by decide +kernel)) (by decide +kernel), okw (in1 14 (by decide +kernel)) (by decide +kernel), ⟨by decide +kernel, by decide +kernel, by decide +kernel⟩, by decide⟩, okw (in8 22 (by decide +kernel)) (by decide +kernel), okw (in0 (q := (⟨"SureHuntersModel", "keep", "()V"⟩, 58)) 162 (by decide +kernel)) rfl⟩
theorem iX12_undo : MV mX12_undo 0 := ⟨⟨okw (in8 71 (by decide +kernel)) (by decide +kernel), okw (in1 14 (by decide +kernel)) (by decide +kernel), ⟨by decide +kernel, by decide +kernel, by decide +kernel⟩, by decide⟩, okw (in8 69 (by decide +kernel)) (by decide +kernel), okw (in8 70 (by decide +kernel)) (by decide +kernel)⟩
theorem iX12_toggle : MV mX12_toggle 2 := ⟨⟨okw (in8 75 (by decide +kernel)) (by decide +kernel), okw (in1 14 (by decide +kernel)) (by decide +kernel), ⟨by decide +kernel, by decide +kernel, by decide +kernel⟩, by decide⟩, okw (in8 73 (by decide +kernel)) (by decide +kernel), okw (in8 74 (by decide +kernel)) (by decide +kernel)⟩
theorem iX12_become : MV mX12_become 1 := ⟨⟨okw (in8 79 (by decide +kernel)) (by decide +kernel), okw (in1 14 (by decide +kernel)) (by decide +kernel), ⟨by decide +kernel, by decide +kernel, by decide +kernel⟩, by decide⟩, okw (in8 77 (by decide +kernel)) (by decide +kernel), okw (in8 78 (by decide +kernel)) (by decide +kernel)⟩
theorem iX12_becomeLeft : MV mX12_becomeLeft 1 := ⟨⟨okw (in8 83 (by decide +kernel)) (by decide +kernel), okw (in1 14 (by decide +kernel)) (by decide +kernel), ⟨by decide +kernel, by decide +kernel, by decide +kernel⟩, by decide⟩, okw (in8 82 (by decide +kernel)) (by decide +kernel), okw (in0 (q := (⟨"SureHuntersModel", "becomeLeft", "(I)V"⟩, 58)) 168 (by decide +kernel)) rfl⟩
theorem iJ6_bitCount_0f7a4 : MS mJ6_bitCount_0f7a4 1 := ⟨⟨okw (in3 99 (by decide +kernel)) (by decide +kernel), okw (in1 19 (by decide +kernel)) (by decide +kernel), ⟨by decide +kernel, by decide +kernel, by decide +kernel⟩, by decide⟩, okw (in3 98 (by decide +kernel)) (by decide +kernel)⟩
theorem iJ7_fill_53178 : MS mJ7_fill_53178 2 := ⟨⟨okw (in1 131 (by decide +kernel)) (by decide +kernel), okw (in1 7 (by decide +kernel)) (by decide +kernel), ⟨by decide +kernel, by decide +kernel, by decide +kernel⟩, by decide⟩, okw (in1 130 (by decide +kernel)) (by decide +kernel)⟩
theorem nX0 : Cond.instantiable RX0 5 ∈ lw_ok := okw (in1 92 (by decide +kernel)) (by decide +kernel)
theorem oX0 : Cond.initialized RX0 ∈ lw_ok := okw (in1 4 (by decide +kernel)) (by decide +kernel)
theorem nX1 : Cond.instantiable RX1 9 ∈ lw_ok := okw (in1 175 (by decide +kernel)) (by decide +kernel)
theorem oX1 : Cond.initialized RX1 ∈ lw_ok := okw (in1 8 (by decide +kernel)) (by decide +kernel)
theorem nX2 : Cond.instantiable RX2 6 ∈ lw_ok := okw (in1 118 (by decide +kernel)) (by decide +kernel)
theorem oX2 : Cond.initialized RX2 ∈ lw_ok := okw (in1 5 (by decide +kernel)) (by decide +kernel)
theorem nX3 : Cond.instantiable RX3 2 ∈ lw_ok := okw (in1 72 (by decide +kernel)) (by decide +kernel)
theorem oX3 : Cond.initialized RX3 ∈ lw_ok := okw (in1 3 (by decide +kernel)) (by decide +kernel)
theorem nX4 : Cond.instantiable RX4 4 ∈ lw_ok := okw (in2 87 (by decide +kernel)) (by decide +kernel)
theorem oX4 : Cond.initialized RX4 ∈ lw_ok := okw (in1 13 (by decide +kernel)) (by decide +kernel)
theorem nX5 : Cond.instantiable RX5 9 ∈ lw_ok := okw (in1 124 (by decide +kernel)) (by decide +kernel)
theorem oX5 : Cond.initialized RX5 ∈ lw_ok := okw (in1 6 (by decide +kernel)) (by decide +kernel)
theorem nX6 : Cond.instantiable RX6 6 ∈ lw_ok := okw (in2 56 (by decide +kernel)) (by decide +kernel)
theorem oX6 : Cond.initialized RX6 ∈ lw_ok := okw (in1 12 (by decide +kernel)) (by decide +kernel)
theorem nX7 : Cond.instantiable RX7 9 ∈ lw_ok := okw (in1 34 (by decide +kernel)) (by decide +kernel)
theorem oX7 : Cond.initialized RX7 ∈ lw_ok := okw (in1 2 (by decide +kernel)) (by decide +kernel)
theorem nX8 : Cond.instantiable RX8 9 ∈ lw_ok := okw (in2 21 (by decide +kernel)) (by decide +kernel)
theorem oX8 : Cond.initialized RX8 ∈ lw_ok := okw (in1 11 (by decide +kernel)) (by decide +kernel)
theorem nX9 : Cond.instantiable RX9 2 ∈ lw_ok := okw (in1 238 (by decide +kernel)) (by decide +kernel)
theorem oX9 : Cond.initialized RX9 ∈ lw_ok := okw (in1 9 (by decide +kernel)) (by decide +kernel)
theorem nX10 : Cond.instantiable RX10 1 ∈ lw_ok := okw (in2 11 (by decide +kernel)) (by decide +kernel)
theorem oX10 : Cond.initialized RX10 ∈ lw_ok := okw (in1 10 (by decide +kernel)) (by decide +kernel)
theorem nX11 : Cond.instantiable RX11 11 ∈ lw_ok := okw (in1 26 (by decide +kernel)) (by decide +kernel)
theorem oX11 : Cond.initialized RX11 ∈ lw_ok := okw (in1 1 (by decide +kernel)) (by decide +kernel)
theorem nX12 : Cond.instantiable RX12 58 ∈ lw_ok := okw (in5 220 (by decide +kernel)) (by decide +kernel)
theorem oX12 : Cond.initialized RX12 ∈ lw_ok := okw (in1 14 (by decide +kernel)) (by decide +kernel)
theorem fX0_9 : FL RX0 9 0 3 (.array .int) true := ⟨_, _, _, _, kcX0, by decide, rfl, rfl, Or.inl (okw (in1 103 (by decide +kernel)) (by decide +kernel))⟩
theorem FfX0_9 : FF RX0 9 0 3 (.array .int) := ⟨_, _, _, _, kcX0, by decide, rfl, rfl, rfl, okw (in1 103 (by decide +kernel)) (by decide +kernel)⟩
theorem fX0_15 : FL RX0 15 0 4 (.array .int) true := ⟨_, _, _, _, kcX0, by decide, rfl, rfl, Or.inl (okw (in1 105 (by decide +kernel)) (by decide +kernel))⟩
theorem FfX0_15 : FF RX0 15 0 4 (.array .int) := ⟨_, _, _, _, kcX0, by decide, rfl, rfl, rfl, okw (in1 105 (by decide +kernel)) (by decide +kernel)⟩
theorem fX0_18 : FL RX0 18 0 0 (.boolean) false := ⟨_, _, _, _, kcX0, by decide, rfl, rfl, Or.inl (okw (in1 97 (by decide +kernel)) (by decide +kernel))⟩
theorem fX0_28 : FL RX0 28 0 1 (.int) false := ⟨_, _, _, _, kcX0, by decide, rfl, rfl, Or.inl (okw (in1 99 (by decide +kernel)) (by decide +kernel))⟩
theorem fX0_32 : FL RX0 32 0 2 (.int) false := ⟨_, _, _, _, kcX0, by decide, rfl, rfl, Or.inl (okw (in1 101 (by decide +kernel)) (by decide +kernel))⟩
theorem fX0_39 : FL RX0 39 3 0 (.int) false := ⟨_, _, _, _, kcX3, by decide, rfl, rfl, Or.inr ⟨"SureHunters", new_ (in1 79 (by decide +kernel)) rfl⟩⟩
theorem fX1_9 : FL RX1 9 1 0 (.int) true := ⟨_, _, _, _, kcX1, by decide, rfl, rfl, Or.inl (okw (in1 182 (by decide +kernel)) (by decide +kernel))⟩
theorem FfX1_9 : FF RX1 9 1 0 (.int) := ⟨_, _, _, _, kcX1, by decide, rfl, rfl, rfl, okw (in1 182 (by decide +kernel)) (by decide +kernel)⟩
theorem fX1_15 : FL RX1 15 1 1 (.int) true := ⟨_, _, _, _, kcX1, by decide, rfl, rfl, Or.inl (okw (in1 184 (by decide +kernel)) (by decide +kernel))⟩
theorem FfX1_15 : FF RX1 15 1 1 (.int) := ⟨_, _, _, _, kcX1, by decide, rfl, rfl, rfl, okw (in1 184 (by decide +kernel)) (by decide +kernel)⟩
theorem fX1_18 : FL RX1 18 1 2 (.int) true := ⟨_, _, _, _, kcX1, by decide, rfl, rfl, Or.inl (okw (in1 186 (by decide +kernel)) (by decide +kernel))⟩
theorem FfX1_18 : FF RX1 18 1 2 (.int) := ⟨_, _, _, _, kcX1, by decide, rfl, rfl, rfl, okw (in1 186 (by decide +kernel)) (by decide +kernel)⟩
theorem fX1_21 : FL RX1 21 1 4 (.array .int) false := ⟨_, _, _, _, kcX1, by decide, rfl, rfl, Or.inl (okw (in1 189 (by decide +kernel)) (by decide +kernel))⟩
theorem fX1_37 : FL RX1 37 1 8 (.int) false := ⟨_, _, _, _, kcX1, by decide, rfl, rfl, Or.inl (okw (in1 196 (by decide +kernel)) (by decide +kernel))⟩
theorem fX2_12 : FL RX2 12 2 1 (.object "SureHunters$Rows") true := ⟨_, _, _, _, kcX2, by decide, rfl, rfl, Or.inl (okw (in1 218 (by decide +kernel)) (by decide +kernel))⟩
theorem FfX2_12 : FF RX2 12 2 1 (.object "SureHunters$Rows") := ⟨_, _, _, _, kcX2, by decide, rfl, rfl, rfl, okw (in1 218 (by decide +kernel)) (by decide +kernel)⟩
theorem fX2_20 : FL RX2 20 2 2 (.array (.object "SureHunters$Game")) true := ⟨_, _, _, _, kcX2, by decide, rfl, rfl, Or.inl (okw (in1 220 (by decide +kernel)) (by decide +kernel))⟩
theorem FfX2_20 : FF RX2 20 2 2 (.array (.object "SureHunters$Game")) := ⟨_, _, _, _, kcX2, by decide, rfl, rfl, rfl, okw (in1 220 (by decide +kernel)) (by decide +kernel)⟩
theorem fX2_24 : FL RX2 24 2 3 (.array .int) true := ⟨_, _, _, _, kcX2, by decide, rfl, rfl, Or.inl (okw (in1 221 (by decide +kernel)) (by decide +kernel))⟩
theorem FfX2_24 : FF RX2 24 2 3 (.array .int) := ⟨_, _, _, _, kcX2, by decide, rfl, rfl, rfl, okw (in1 221 (by decide +kernel)) (by decide +kernel)⟩
theorem fX2_28 : FL RX2 28 2 4 (.array .int) true := ⟨_, _, _, _, kcX2, by decide, rfl, rfl, Or.inl (okw (in1 222 (by decide +kernel)) (by decide +kernel))⟩
theorem FfX2_28 : FF RX2 28 2 4 (.array .int) := ⟨_, _, _, _, kcX2, by decide, rfl, rfl, rfl, okw (in1 222 (by decide +kernel)) (by decide +kernel)⟩
theorem fX2_31 : FL RX2 31 2 5 (.array .int) true := ⟨_, _, _, _, kcX2, by decide, rfl, rfl, Or.inl (okw (in1 223 (by decide +kernel)) (by decide +kernel))⟩
theorem FfX2_31 : FF RX2 31 2 5 (.array .int) := ⟨_, _, _, _, kcX2, by decide, rfl, rfl, rfl, okw (in1 223 (by decide +kernel)) (by decide +kernel)⟩
theorem fX2_34 : FL RX2 34 2 0 (.object "SureHunters$Net") true := ⟨_, _, _, _, kcX2, by decide, rfl, rfl, Or.inl (okw (in1 217 (by decide +kernel)) (by decide +kernel))⟩
theorem FfX2_34 : FF RX2 34 2 0 (.object "SureHunters$Net") := ⟨_, _, _, _, kcX2, by decide, rfl, rfl, rfl, okw (in1 217 (by decide +kernel)) (by decide +kernel)⟩
theorem fX2_38 : fLk RX2 38 "SureHunters" "FIRST_ROW" "[I" := Or.inr ⟨"SureHunters", new_ (in1 176 (by decide +kernel)) rfl⟩
theorem fX2_48 : FL RX2 48 1 3 (.boolean) false := ⟨_, _, _, _, kcX1, by decide, rfl, rfl, Or.inr ⟨"SureHunters", new_ (in1 188 (by decide +kernel)) rfl⟩⟩
theorem fX2_52 : FL RX2 52 3 0 (.int) false := ⟨_, _, _, _, kcX3, by decide, rfl, rfl, Or.inr ⟨"SureHunters", new_ (in1 82 (by decide +kernel)) rfl⟩⟩
theorem fX2_68 : FL RX2 68 1 1 (.int) true := ⟨_, _, _, _, kcX1, by decide, rfl, rfl, Or.inr ⟨"SureHunters", new_ (in1 185 (by decide +kernel)) rfl⟩⟩
theorem fX2_71 : FL RX2 71 1 2 (.int) true := ⟨_, _, _, _, kcX1, by decide, rfl, rfl, Or.inr ⟨"SureHunters", new_ (in1 187 (by decide +kernel)) rfl⟩⟩
theorem fX2_100 : FL RX2 100 1 0 (.int) true := ⟨_, _, _, _, kcX1, by decide, rfl, rfl, Or.inr ⟨"SureHunters", new_ (in1 183 (by decide +kernel)) rfl⟩⟩
theorem fX2_107 : FL RX2 107 5 6 (.int) false := ⟨_, _, _, _, kcX5, by decide, rfl, rfl, Or.inr ⟨"SureHunters", new_ (in1 150 (by decide +kernel)) rfl⟩⟩
theorem fX2_110 : FL RX2 110 5 5 (.array .int) true := ⟨_, _, _, _, kcX5, by decide, rfl, rfl, Or.inr ⟨"SureHunters", new_ (in1 149 (by decide +kernel)) rfl⟩⟩
theorem fX2_117 : FL RX2 117 1 5 (.int) false := ⟨_, _, _, _, kcX1, by decide, rfl, rfl, Or.inr ⟨"SureHunters", new_ (in1 190 (by decide +kernel)) rfl⟩⟩
theorem fX2_120 : FL RX2 120 1 7 (.int) false := ⟨_, _, _, _, kcX1, by decide, rfl, rfl, Or.inr ⟨"SureHunters", new_ (in1 194 (by decide +kernel)) rfl⟩⟩
theorem fX2_136 : FL RX2 136 1 6 (.int) false := ⟨_, _, _, _, kcX1, by decide, rfl, rfl, Or.inr ⟨"SureHunters", new_ (in1 192 (by decide +kernel)) rfl⟩⟩
theorem fX3_9 : FL RX3 9 3 1 (.array .int) true := ⟨_, _, _, _, kcX3, by decide, rfl, rfl, Or.inl (okw (in1 85 (by decide +kernel)) (by decide +kernel))⟩
theorem FfX3_9 : FF RX3 9 3 1 (.array .int) := ⟨_, _, _, _, kcX3, by decide, rfl, rfl, rfl, okw (in1 85 (by decide +kernel)) (by decide +kernel)⟩
theorem fX3_15 : FL RX3 15 3 0 (.int) false := ⟨_, _, _, _, kcX3, by decide, rfl, rfl, Or.inl (okw (in1 77 (by decide +kernel)) (by decide +kernel))⟩
theorem fX4_11 : FL RX4 11 4 0 (.array (.object "SureHunters$Net")) true := ⟨_, _, _, _, kcX4, by decide, rfl, rfl, Or.inl (okw (in2 98 (by decide +kernel)) (by decide +kernel))⟩
theorem FfX4_11 : FF RX4 11 4 0 (.array (.object "SureHunters$Net")) := ⟨_, _, _, _, kcX4, by decide, rfl, rfl, rfl, okw (in2 98 (by decide +kernel)) (by decide +kernel)⟩
theorem fX4_17 : FL RX4 17 4 1 (.array (.object "SureHunters$Scene")) true := ⟨_, _, _, _, kcX4, by decide, rfl, rfl, Or.inl (okw (in2 99 (by decide +kernel)) (by decide +kernel))⟩
theorem FfX4_17 : FF RX4 17 4 1 (.array (.object "SureHunters$Scene")) := ⟨_, _, _, _, kcX4, by decide, rfl, rfl, rfl, okw (in2 99 (by decide +kernel)) (by decide +kernel)⟩
theorem fX4_23 : FL RX4 23 4 2 (.int) false := ⟨_, _, _, _, kcX4, by decide, rfl, rfl, Or.inl (okw (in2 100 (by decide +kernel)) (by decide +kernel))⟩
theorem fX4_27 : FL RX4 27 4 3 (.int) false := ⟨_, _, _, _, kcX4, by decide, rfl, rfl, Or.inl (okw (in2 102 (by decide +kernel)) (by decide +kernel))⟩
theorem fX5_9 : FL RX5 9 5 0 (.array .int) true := ⟨_, _, _, _, kcX5, by decide, rfl, rfl, Or.inl (okw (in1 143 (by decide +kernel)) (by decide +kernel))⟩
theorem FfX5_9 : FF RX5 9 5 0 (.array .int) := ⟨_, _, _, _, kcX5, by decide, rfl, rfl, rfl, okw (in1 143 (by decide +kernel)) (by decide +kernel)⟩
theorem fX5_15 : FL RX5 15 5 1 (.array .int) true := ⟨_, _, _, _, kcX5, by decide, rfl, rfl, Or.inl (okw (in1 144 (by decide +kernel)) (by decide +kernel))⟩
theorem FfX5_15 : FF RX5 15 5 1 (.array .int) := ⟨_, _, _, _, kcX5, by decide, rfl, rfl, rfl, okw (in1 144 (by decide +kernel)) (by decide +kernel)⟩
theorem fX5_18 : FL RX5 18 5 2 (.array .int) true := ⟨_, _, _, _, kcX5, by decide, rfl, rfl, Or.inl (okw (in1 145 (by decide +kernel)) (by decide +kernel))⟩
theorem FfX5_18 : FF RX5 18 5 2 (.array .int) := ⟨_, _, _, _, kcX5, by decide, rfl, rfl, rfl, okw (in1 145 (by decide +kernel)) (by decide +kernel)⟩
theorem fX5_21 : FL RX5 21 5 3 (.array .int) true := ⟨_, _, _, _, kcX5, by decide, rfl, rfl, Or.inl (okw (in1 146 (by decide +kernel)) (by decide +kernel))⟩
theorem FfX5_21 : FF RX5 21 5 3 (.array .int) := ⟨_, _, _, _, kcX5, by decide, rfl, rfl, rfl, okw (in1 146 (by decide +kernel)) (by decide +kernel)⟩
theorem fX5_24 : FL RX5 24 5 4 (.array .int) true := ⟨_, _, _, _, kcX5, by decide, rfl, rfl, Or.inl (okw (in1 147 (by decide +kernel)) (by decide +kernel))⟩
theorem FfX5_24 : FF RX5 24 5 4 (.array .int) := ⟨_, _, _, _, kcX5, by decide, rfl, rfl, rfl, okw (in1 147 (by decide +kernel)) (by decide +kernel)⟩
theorem fX5_27 : FL RX5 27 5 5 (.array .int) true := ⟨_, _, _, _, kcX5, by decide, rfl, rfl, Or.inl (okw (in1 148 (by decide +kernel)) (by decide +kernel))⟩
theorem FfX5_27 : FF RX5 27 5 5 (.array .int) := ⟨_, _, _, _, kcX5, by decide, rfl, rfl, rfl, okw (in1 148 (by decide +kernel)) (by decide +kernel)⟩
theorem fX5_30 : FL RX5 30 5 7 (.array .int) true := ⟨_, _, _, _, kcX5, by decide, rfl, rfl, Or.inl (okw (in1 152 (by decide +kernel)) (by decide +kernel))⟩
theorem FfX5_30 : FF RX5 30 5 7 (.array .int) := ⟨_, _, _, _, kcX5, by decide, rfl, rfl, rfl, okw (in1 152 (by decide +kernel)) (by decide +kernel)⟩
theorem fX5_50 : fLk RX5 50 "SureHunters" "FIRST_ROW" "[I" := Or.inr ⟨"SureHunters", new_ (in4 64 (by decide +kernel)) rfl⟩
theorem fX5_66 : FL RX5 66 5 8 (.int) false := ⟨_, _, _, _, kcX5, by decide, rfl, rfl, Or.inl (okw (in1 153 (by decide +kernel)) (by decide +kernel))⟩
theorem fX5_70 : FL RX5 70 5 6 (.int) false := ⟨_, _, _, _, kcX5, by decide, rfl, rfl, Or.inl (okw (in1 151 (by decide +kernel)) (by decide +kernel))⟩
theorem fX6_7 : FL RX6 7 6 0 (.boolean) false := ⟨_, _, _, _, kcX6, by decide, rfl, rfl, Or.inl (okw (in2 61 (by decide +kernel)) (by decide +kernel))⟩
theorem fX6_13 : FL RX6 13 6 1 (.int) false := ⟨_, _, _, _, kcX6, by decide, rfl, rfl, Or.inl (okw (in2 63 (by decide +kernel)) (by decide +kernel))⟩
theorem fX6_17 : FL RX6 17 6 2 (.int) false := ⟨_, _, _, _, kcX6, by decide, rfl, rfl, Or.inl (okw (in2 65 (by decide +kernel)) (by decide +kernel))⟩
theorem fX6_20 : FL RX6 20 6 3 (.int) false := ⟨_, _, _, _, kcX6, by decide, rfl, rfl, Or.inl (okw (in2 67 (by decide +kernel)) (by decide +kernel))⟩
theorem fX6_23 : FL RX6 23 6 4 (.boolean) false := ⟨_, _, _, _, kcX6, by decide, rfl, rfl, Or.inl (okw (in2 69 (by decide +kernel)) (by decide +kernel))⟩
theorem fX6_26 : FL RX6 26 6 5 (.int) false := ⟨_, _, _, _, kcX6, by decide, rfl, rfl, Or.inl (okw (in2 71 (by decide +kernel)) (by decide +kernel))⟩
theorem fX7_9 : FL RX7 9 7 0 (.array .int) true := ⟨_, _, _, _, kcX7, by decide, rfl, rfl, Or.inl (okw (in1 39 (by decide +kernel)) (by decide +kernel))⟩
theorem FfX7_9 : FF RX7 9 7 0 (.array .int) := ⟨_, _, _, _, kcX7, by decide, rfl, rfl, rfl, okw (in1 39 (by decide +kernel)) (by decide +kernel)⟩
theorem fX7_15 : FL RX7 15 7 3 (.int) false := ⟨_, _, _, _, kcX7, by decide, rfl, rfl, Or.inl (okw (in1 44 (by decide +kernel)) (by decide +kernel))⟩
theorem fX7_19 : FL RX7 19 7 7 (.array .int) true := ⟨_, _, _, _, kcX7, by decide, rfl, rfl, Or.inl (okw (in1 49 (by decide +kernel)) (by decide +kernel))⟩
theorem FfX7_19 : FF RX7 19 7 7 (.array .int) := ⟨_, _, _, _, kcX7, by decide, rfl, rfl, rfl, okw (in1 49 (by decide +kernel)) (by decide +kernel)⟩
theorem fX7_22 : FL RX7 22 7 8 (.array .int) true := ⟨_, _, _, _, kcX7, by decide, rfl, rfl, Or.inl (okw (in1 50 (by decide +kernel)) (by decide +kernel))⟩
theorem FfX7_22 : FF RX7 22 7 8 (.array .int) := ⟨_, _, _, _, kcX7, by decide, rfl, rfl, rfl, okw (in1 50 (by decide +kernel)) (by decide +kernel)⟩
theorem fX7_25 : FL RX7 25 7 1 (.int) false := ⟨_, _, _, _, kcX7, by decide, rfl, rfl, Or.inl (okw (in1 41 (by decide +kernel)) (by decide +kernel))⟩
theorem fX7_33 : FL RX7 33 7 2 (.int) false := ⟨_, _, _, _, kcX7, by decide, rfl, rfl, Or.inl (okw (in1 42 (by decide +kernel)) (by decide +kernel))⟩
theorem fX7_36 : FL RX7 36 7 6 (.int) false := ⟨_, _, _, _, kcX7, by decide, rfl, rfl, Or.inl (okw (in1 48 (by decide +kernel)) (by decide +kernel))⟩
theorem fX7_42 : FL RX7 42 7 4 (.int) false := ⟨_, _, _, _, kcX7, by decide, rfl, rfl, Or.inl (okw (in1 46 (by decide +kernel)) (by decide +kernel))⟩
theorem fX7_55 : FL RX7 55 3 0 (.int) false := ⟨_, _, _, _, kcX3, by decide, rfl, rfl, Or.inr ⟨"SureHunters", new_ (in1 83 (by decide +kernel)) rfl⟩⟩
theorem fX7_66 : FL RX7 66 7 5 (.int) false := ⟨_, _, _, _, kcX7, by decide, rfl, rfl, Or.inl (okw (in1 47 (by decide +kernel)) (by decide +kernel))⟩
theorem fX8_11 : FL RX8 11 8 2 (.array .boolean) true := ⟨_, _, _, _, kcX8, by decide, rfl, rfl, Or.inl (okw (in2 28 (by decide +kernel)) (by decide +kernel))⟩
theorem FfX8_11 : FF RX8 11 8 2 (.array .boolean) := ⟨_, _, _, _, kcX8, by decide, rfl, rfl, rfl, okw (in2 28 (by decide +kernel)) (by decide +kernel)⟩
theorem fX8_15 : FL RX8 15 8 3 (.array .int) true := ⟨_, _, _, _, kcX8, by decide, rfl, rfl, Or.inl (okw (in2 29 (by decide +kernel)) (by decide +kernel))⟩
theorem FfX8_15 : FF RX8 15 8 3 (.array .int) := ⟨_, _, _, _, kcX8, by decide, rfl, rfl, rfl, okw (in2 29 (by decide +kernel)) (by decide +kernel)⟩
theorem fX8_19 : FL RX8 19 8 4 (.array .int) true := ⟨_, _, _, _, kcX8, by decide, rfl, rfl, Or.inl (okw (in2 30 (by decide +kernel)) (by decide +kernel))⟩
theorem FfX8_19 : FF RX8 19 8 4 (.array .int) := ⟨_, _, _, _, kcX8, by decide, rfl, rfl, rfl, okw (in2 30 (by decide +kernel)) (by decide +kernel)⟩
theorem fX8_22 : FL RX8 22 8 0 (.object "SureHunters$Net") true := ⟨_, _, _, _, kcX8, by decide, rfl, rfl, Or.inl (okw (in2 26 (by decide +kernel)) (by decide +kernel))⟩
theorem FfX8_22 : FF RX8 22 8 0 (.object "SureHunters$Net") := ⟨_, _, _, _, kcX8, by decide, rfl, rfl, rfl, okw (in2 26 (by decide +kernel)) (by decide +kernel)⟩
theorem fX8_26 : FL RX8 26 8 1 (.object "SureHunters$Rows") true := ⟨_, _, _, _, kcX8, by decide, rfl, rfl, Or.inl (okw (in2 27 (by decide +kernel)) (by decide +kernel))⟩
theorem FfX8_26 : FF RX8 26 8 1 (.object "SureHunters$Rows") := ⟨_, _, _, _, kcX8, by decide, rfl, rfl, rfl, okw (in2 27 (by decide +kernel)) (by decide +kernel)⟩
theorem fX8_30 : FL RX8 30 3 0 (.int) false := ⟨_, _, _, _, kcX3, by decide, rfl, rfl, Or.inr ⟨"SureHunters", new_ (in1 80 (by decide +kernel)) rfl⟩⟩
theorem fX8_61 : fLk RX8 61 "SureHunters" "FIRST_ROW" "[I" := Or.inr ⟨"SureHunters", new_ (in4 199 (by decide +kernel)) rfl⟩
theorem fX8_74 : FL RX8 74 8 8 (.int) false := ⟨_, _, _, _, kcX8, by decide, rfl, rfl, Or.inl (okw (in2 34 (by decide +kernel)) (by decide +kernel))⟩
theorem fX8_77 : FL RX8 77 8 6 (.array .int) false := ⟨_, _, _, _, kcX8, by decide, rfl, rfl, Or.inl (okw (in2 32 (by decide +kernel)) (by decide +kernel))⟩
theorem fX8_84 : FL RX8 84 8 5 (.array .int) false := ⟨_, _, _, _, kcX8, by decide, rfl, rfl, Or.inl (okw (in2 31 (by decide +kernel)) (by decide +kernel))⟩
theorem fX8_87 : FL RX8 87 8 7 (.array .int) false := ⟨_, _, _, _, kcX8, by decide, rfl, rfl, Or.inl (okw (in2 33 (by decide +kernel)) (by decide +kernel))⟩
theorem fX9_9 : FL RX9 9 9 0 (.array .int) true := ⟨_, _, _, _, kcX9, by decide, rfl, rfl, Or.inl (okw (in2 3 (by decide +kernel)) (by decide +kernel))⟩
theorem FfX9_9 : FF RX9 9 9 0 (.array .int) := ⟨_, _, _, _, kcX9, by decide, rfl, rfl, rfl, okw (in2 3 (by decide +kernel)) (by decide +kernel)⟩
theorem fX9_15 : FL RX9 15 9 1 (.array .int) true := ⟨_, _, _, _, kcX9, by decide, rfl, rfl, Or.inl (okw (in2 4 (by decide +kernel)) (by decide +kernel))⟩
theorem FfX9_15 : FF RX9 15 9 1 (.array .int) := ⟨_, _, _, _, kcX9, by decide, rfl, rfl, rfl, okw (in2 4 (by decide +kernel)) (by decide +kernel)⟩
theorem fX9_18 : FL RX9 18 3 0 (.int) false := ⟨_, _, _, _, kcX3, by decide, rfl, rfl, Or.inr ⟨"SureHunters", new_ (in1 78 (by decide +kernel)) rfl⟩⟩
theorem fX10_9 : FL RX10 9 10 0 (.array .int) true := ⟨_, _, _, _, kcX10, by decide, rfl, rfl, Or.inl (okw (in2 16 (by decide +kernel)) (by decide +kernel))⟩
theorem FfX10_9 : FF RX10 9 10 0 (.array .int) := ⟨_, _, _, _, kcX10, by decide, rfl, rfl, rfl, okw (in2 16 (by decide +kernel)) (by decide +kernel)⟩
theorem fX10_25 : FL RX10 25 3 0 (.int) false := ⟨_, _, _, _, kcX3, by decide, rfl, rfl, Or.inr ⟨"SureHunters", new_ (in1 81 (by decide +kernel)) rfl⟩⟩
theorem fX11_10 : FL RX11 10 11 0 (.object "SureHunters$Script") true := ⟨_, _, _, _, kcX11, by decide, rfl, rfl, Or.inl (okw (in2 112 (by decide +kernel)) (by decide +kernel))⟩
theorem FfX11_10 : FF RX11 10 11 0 (.object "SureHunters$Script") := ⟨_, _, _, _, kcX11, by decide, rfl, rfl, rfl, okw (in2 112 (by decide +kernel)) (by decide +kernel)⟩
theorem fX11_19 : FL RX11 19 11 1 (.object "SureHunters$Net") true := ⟨_, _, _, _, kcX11, by decide, rfl, rfl, Or.inl (okw (in2 113 (by decide +kernel)) (by decide +kernel))⟩
theorem FfX11_19 : FF RX11 19 11 1 (.object "SureHunters$Net") := ⟨_, _, _, _, kcX11, by decide, rfl, rfl, rfl, okw (in2 113 (by decide +kernel)) (by decide +kernel)⟩
theorem fX11_23 : FL RX11 23 11 2 (.object "SureHunters$Net") true := ⟨_, _, _, _, kcX11, by decide, rfl, rfl, Or.inl (okw (in2 114 (by decide +kernel)) (by decide +kernel))⟩
theorem FfX11_23 : FF RX11 23 11 2 (.object "SureHunters$Net") := ⟨_, _, _, _, kcX11, by decide, rfl, rfl, rfl, okw (in2 114 (by decide +kernel)) (by decide +kernel)⟩
theorem fX11_29 : FL RX11 29 11 3 (.object "SureHunters$Dismantling") true := ⟨_, _, _, _, kcX11, by decide, rfl, rfl, Or.inl (okw (in2 115 (by decide +kernel)) (by decide +kernel))⟩
theorem FfX11_29 : FF RX11 29 11 3 (.object "SureHunters$Dismantling") := ⟨_, _, _, _, kcX11, by decide, rfl, rfl, rfl, okw (in2 115 (by decide +kernel)) (by decide +kernel)⟩
theorem fX11_38 : FL RX11 38 11 4 (.object "SureHunters$Games") true := ⟨_, _, _, _, kcX11, by decide, rfl, rfl, Or.inl (okw (in2 116 (by decide +kernel)) (by decide +kernel))⟩
theorem FfX11_38 : FF RX11 38 11 4 (.object "SureHunters$Games") := ⟨_, _, _, _, kcX11, by decide, rfl, rfl, rfl, okw (in2 116 (by decide +kernel)) (by decide +kernel)⟩
theorem fX11_45 : FL RX11 45 11 5 (.object "SureHunters$Symmetries") true := ⟨_, _, _, _, kcX11, by decide, rfl, rfl, Or.inl (okw (in2 117 (by decide +kernel)) (by decide +kernel))⟩
theorem FfX11_45 : FF RX11 45 11 5 (.object "SureHunters$Symmetries") := ⟨_, _, _, _, kcX11, by decide, rfl, rfl, rfl, okw (in2 117 (by decide +kernel)) (by decide +kernel)⟩
theorem fX11_52 : FL RX11 52 11 6 (.object "SureHunters$Watch") true := ⟨_, _, _, _, kcX11, by decide, rfl, rfl, Or.inl (okw (in2 118 (by decide +kernel)) (by decide +kernel))⟩
theorem FfX11_52 : FF RX11 52 11 6 (.object "SureHunters$Watch") := ⟨_, _, _, _, kcX11, by decide, rfl, rfl, rfl, okw (in2 118 (by decide +kernel)) (by decide +kernel)⟩
theorem fX11_58 : FL RX11 58 2 1 (.object "SureHunters$Rows") true := ⟨_, _, _, _, kcX2, by decide, rfl, rfl, Or.inr ⟨"SureHunters", new_ (in1 219 (by decide +kernel)) rfl⟩⟩
theorem fX11_65 : FL RX11 65 11 7 (.object "SureHunters$Search") true := ⟨_, _, _, _, kcX11, by decide, rfl, rfl, Or.inl (okw (in2 119 (by decide +kernel)) (by decide +kernel))⟩
theorem FfX11_65 : FF RX11 65 11 7 (.object "SureHunters$Search") := ⟨_, _, _, _, kcX11, by decide, rfl, rfl, rfl, okw (in2 119 (by decide +kernel)) (by decide +kernel)⟩
theorem fX11_72 : FL RX11 72 11 8 (.object "SureHunters$Scene") true := ⟨_, _, _, _, kcX11, by decide, rfl, rfl, Or.inl (okw (in2 120 (by decide +kernel)) (by decide +kernel))⟩
theorem FfX11_72 : FF RX11 72 11 8 (.object "SureHunters$Scene") := ⟨_, _, _, _, kcX11, by decide, rfl, rfl, rfl, okw (in2 120 (by decide +kernel)) (by decide +kernel)⟩
theorem fX11_79 : FL RX11 79 11 9 (.object "SureHunters$Past") true := ⟨_, _, _, _, kcX11, by decide, rfl, rfl, Or.inl (okw (in2 121 (by decide +kernel)) (by decide +kernel))⟩
theorem FfX11_79 : FF RX11 79 11 9 (.object "SureHunters$Past") := ⟨_, _, _, _, kcX11, by decide, rfl, rfl, rfl, okw (in2 121 (by decide +kernel)) (by decide +kernel)⟩
theorem fX11_83 : FL RX11 83 11 10 (.object "SureHunters$Games") false := ⟨_, _, _, _, kcX11, by decide, rfl, rfl, Or.inl (okw (in2 122 (by decide +kernel)) (by decide +kernel))⟩
theorem fX11_86 : FL RX11 86 7 1 (.int) false := ⟨_, _, _, _, kcX7, by decide, rfl, rfl, Or.inr ⟨"SureHunters", new_ (in1 40 (by decide +kernel)) rfl⟩⟩
theorem fX11_97 : FL RX11 97 7 2 (.int) false := ⟨_, _, _, _, kcX7, by decide, rfl, rfl, Or.inr ⟨"SureHunters", new_ (in1 43 (by decide +kernel)) rfl⟩⟩
theorem fX11_103 : FL RX11 103 6 0 (.boolean) false := ⟨_, _, _, _, kcX6, by decide, rfl, rfl, Or.inr ⟨"SureHunters", new_ (in2 62 (by decide +kernel)) rfl⟩⟩
theorem fX11_113 : FL RX11 113 3 0 (.int) false := ⟨_, _, _, _, kcX3, by decide, rfl, rfl, Or.inr ⟨"SureHunters", new_ (in1 84 (by decide +kernel)) rfl⟩⟩
theorem fX11_116 : FL RX11 116 7 3 (.int) false := ⟨_, _, _, _, kcX7, by decide, rfl, rfl, Or.inr ⟨"SureHunters", new_ (in1 45 (by decide +kernel)) rfl⟩⟩
theorem fX11_141 : FL RX11 141 4 2 (.int) false := ⟨_, _, _, _, kcX4, by decide, rfl, rfl, Or.inr ⟨"SureHunters", new_ (in2 101 (by decide +kernel)) rfl⟩⟩
theorem fX11_172 : FL RX11 172 0 2 (.int) false := ⟨_, _, _, _, kcX0, by decide, rfl, rfl, Or.inr ⟨"SureHunters", new_ (in1 102 (by decide +kernel)) rfl⟩⟩
theorem fX11_175 : FL RX11 175 0 3 (.array .int) true := ⟨_, _, _, _, kcX0, by decide, rfl, rfl, Or.inr ⟨"SureHunters", new_ (in1 104 (by decide +kernel)) rfl⟩⟩
theorem fX11_179 : FL RX11 179 0 1 (.int) false := ⟨_, _, _, _, kcX0, by decide, rfl, rfl, Or.inr ⟨"SureHunters", new_ (in1 100 (by decide +kernel)) rfl⟩⟩
theorem fX11_189 : FL RX11 189 1 6 (.int) false := ⟨_, _, _, _, kcX1, by decide, rfl, rfl, Or.inr ⟨"SureHunters", new_ (in1 193 (by decide +kernel)) rfl⟩⟩
theorem fX11_194 : FL RX11 194 1 5 (.int) false := ⟨_, _, _, _, kcX1, by decide, rfl, rfl, Or.inr ⟨"SureHunters", new_ (in1 191 (by decide +kernel)) rfl⟩⟩
theorem fX11_212 : FL RX11 212 1 7 (.int) false := ⟨_, _, _, _, kcX1, by decide, rfl, rfl, Or.inr ⟨"SureHunters", new_ (in1 195 (by decide +kernel)) rfl⟩⟩
theorem fX11_222 : FL RX11 222 1 8 (.int) false := ⟨_, _, _, _, kcX1, by decide, rfl, rfl, Or.inr ⟨"SureHunters", new_ (in1 197 (by decide +kernel)) rfl⟩⟩
theorem fX11_263 : FL RX11 263 6 1 (.int) false := ⟨_, _, _, _, kcX6, by decide, rfl, rfl, Or.inr ⟨"SureHunters", new_ (in2 64 (by decide +kernel)) rfl⟩⟩
theorem fX11_266 : FL RX11 266 6 2 (.int) false := ⟨_, _, _, _, kcX6, by decide, rfl, rfl, Or.inr ⟨"SureHunters", new_ (in2 66 (by decide +kernel)) rfl⟩⟩
theorem fX11_269 : FL RX11 269 6 3 (.int) false := ⟨_, _, _, _, kcX6, by decide, rfl, rfl, Or.inr ⟨"SureHunters", new_ (in2 68 (by decide +kernel)) rfl⟩⟩
theorem fX11_272 : FL RX11 272 6 4 (.boolean) false := ⟨_, _, _, _, kcX6, by decide, rfl, rfl, Or.inr ⟨"SureHunters", new_ (in2 70 (by decide +kernel)) rfl⟩⟩
theorem fX11_275 : FL RX11 275 6 5 (.int) false := ⟨_, _, _, _, kcX6, by decide, rfl, rfl, Or.inr ⟨"SureHunters", new_ (in2 72 (by decide +kernel)) rfl⟩⟩
theorem fX11_343 : FL RX11 343 0 0 (.boolean) false := ⟨_, _, _, _, kcX0, by decide, rfl, rfl, Or.inr ⟨"SureHunters", new_ (in1 98 (by decide +kernel)) rfl⟩⟩
theorem fX12_7 : FL RX12 7 12 1 (.array .int) true := ⟨_, _, _, _, kcX12, by decide, rfl, rfl, Or.inl (okw (in5 226 (by decide +kernel)) (by decide +kernel))⟩
theorem FfX12_7 : FF RX12 7 12 1 (.array .int) := ⟨_, _, _, _, kcX12, by decide, rfl, rfl, rfl, okw (in5 226 (by decide +kernel)) (by decide +kernel)⟩
theorem fX12_13 : FL RX12 13 12 3 (.array .int) true := ⟨_, _, _, _, kcX12, by decide, rfl, rfl, Or.inl (okw (in5 228 (by decide +kernel)) (by decide +kernel))⟩
theorem FfX12_13 : FF RX12 13 12 3 (.array .int) := ⟨_, _, _, _, kcX12, by decide, rfl, rfl, rfl, okw (in5 228 (by decide +kernel)) (by decide +kernel)⟩
theorem fX12_16 : FL RX12 16 12 4 (.array .int) true := ⟨_, _, _, _, kcX12, by decide, rfl, rfl, Or.inl (okw (in5 229 (by decide +kernel)) (by decide +kernel))⟩
theorem FfX12_16 : FF RX12 16 12 4 (.array .int) := ⟨_, _, _, _, kcX12, by decide, rfl, rfl, rfl, okw (in5 229 (by decide +kernel)) (by decide +kernel)⟩
theorem fX12_19 : FL RX12 19 12 5 (.array .int) true := ⟨_, _, _, _, kcX12, by decide, rfl, rfl, Or.inl (okw (in5 230 (by decide +kernel)) (by decide +kernel))⟩
theorem FfX12_19 : FF RX12 19 12 5 (.array .int) := ⟨_, _, _, _, kcX12, by decide, rfl, rfl, rfl, okw (in5 230 (by decide +kernel)) (by decide +kernel)⟩
theorem fX12_22 : FL RX12 22 12 13 (.int) false := ⟨_, _, _, _, kcX12, by decide, rfl, rfl, Or.inl (okw (in5 238 (by decide +kernel)) (by decide +kernel))⟩
theorem fX12_26 : FL RX12 26 12 19 (.int) false := ⟨_, _, _, _, kcX12, by decide, rfl, rfl, Or.inl (okw (in6 4 (by decide +kernel)) (by decide +kernel))⟩
theorem fX12_29 : FL RX12 29 12 22 (.array .int) true := ⟨_, _, _, _, kcX12, by decide, rfl, rfl, Or.inl (okw (in6 7 (by decide +kernel)) (by decide +kernel))⟩
theorem FfX12_29 : FF RX12 29 12 22 (.array .int) := ⟨_, _, _, _, kcX12, by decide, rfl, rfl, rfl, okw (in6 7 (by decide +kernel)) (by decide +kernel)⟩
theorem fX12_32 : FL RX12 32 12 23 (.array .int) true := ⟨_, _, _, _, kcX12, by decide, rfl, rfl, Or.inl (okw (in6 8 (by decide +kernel)) (by decide +kernel))⟩
theorem FfX12_32 : FF RX12 32 12 23 (.array .int) := ⟨_, _, _, _, kcX12, by decide, rfl, rfl, rfl, okw (in6 8 (by decide +kernel)) (by decide +kernel)⟩
theorem fX12_35 : FL RX12 35 12 26 (.array .int) true := ⟨_, _, _, _, kcX12, by decide, rfl, rfl, Or.inl (okw (in6 11 (by decide +kernel)) (by decide +kernel))⟩
theorem FfX12_35 : FF RX12 35 12 26 (.array .int) := ⟨_, _, _, _, kcX12, by decide, rfl, rfl, rfl, okw (in6 11 (by decide +kernel)) (by decide +kernel)⟩
theorem fX12_38 : FL RX12 38 12 27 (.array .int) true := ⟨_, _, _, _, kcX12, by decide, rfl, rfl, Or.inl (okw (in6 12 (by decide +kernel)) (by decide +kernel))⟩
theorem FfX12_38 : FF RX12 38 12 27 (.array .int) := ⟨_, _, _, _, kcX12, by decide, rfl, rfl, rfl, okw (in6 12 (by decide +kernel)) (by decide +kernel)⟩
theorem fX12_41 : FL RX12 41 12 28 (.array .boolean) true := ⟨_, _, _, _, kcX12, by decide, rfl, rfl, Or.inl (okw (in6 13 (by decide +kernel)) (by decide +kernel))⟩
theorem FfX12_41 : FF RX12 41 12 28 (.array .boolean) := ⟨_, _, _, _, kcX12, by decide, rfl, rfl, rfl, okw (in6 13 (by decide +kernel)) (by decide +kernel)⟩
theorem fX12_45 : FL RX12 45 12 29 (.array .int) true := ⟨_, _, _, _, kcX12, by decide, rfl, rfl, Or.inl (okw (in6 14 (by decide +kernel)) (by decide +kernel))⟩
theorem FfX12_45 : FF RX12 45 12 29 (.array .int) := ⟨_, _, _, _, kcX12, by decide, rfl, rfl, rfl, okw (in6 14 (by decide +kernel)) (by decide +kernel)⟩
theorem fX12_48 : FL RX12 48 12 30 (.array .int) true := ⟨_, _, _, _, kcX12, by decide, rfl, rfl, Or.inl (okw (in6 15 (by decide +kernel)) (by decide +kernel))⟩
theorem FfX12_48 : FF RX12 48 12 30 (.array .int) := ⟨_, _, _, _, kcX12, by decide, rfl, rfl, rfl, okw (in6 15 (by decide +kernel)) (by decide +kernel)⟩
theorem fX12_51 : FL RX12 51 12 31 (.array .int) true := ⟨_, _, _, _, kcX12, by decide, rfl, rfl, Or.inl (okw (in6 16 (by decide +kernel)) (by decide +kernel))⟩
theorem FfX12_51 : FF RX12 51 12 31 (.array .int) := ⟨_, _, _, _, kcX12, by decide, rfl, rfl, rfl, okw (in6 16 (by decide +kernel)) (by decide +kernel)⟩
theorem fX12_54 : FL RX12 54 12 39 (.array .int) true := ⟨_, _, _, _, kcX12, by decide, rfl, rfl, Or.inl (okw (in6 24 (by decide +kernel)) (by decide +kernel))⟩
theorem FfX12_54 : FF RX12 54 12 39 (.array .int) := ⟨_, _, _, _, kcX12, by decide, rfl, rfl, rfl, okw (in6 24 (by decide +kernel)) (by decide +kernel)⟩
theorem fX12_57 : FL RX12 57 12 40 (.array .int) true := ⟨_, _, _, _, kcX12, by decide, rfl, rfl, Or.inl (okw (in6 25 (by decide +kernel)) (by decide +kernel))⟩
theorem FfX12_57 : FF RX12 57 12 40 (.array .int) := ⟨_, _, _, _, kcX12, by decide, rfl, rfl, rfl, okw (in6 25 (by decide +kernel)) (by decide +kernel)⟩
theorem fX12_60 : FL RX12 60 12 42 (.array .boolean) true := ⟨_, _, _, _, kcX12, by decide, rfl, rfl, Or.inl (okw (in6 27 (by decide +kernel)) (by decide +kernel))⟩
theorem FfX12_60 : FF RX12 60 12 42 (.array .boolean) := ⟨_, _, _, _, kcX12, by decide, rfl, rfl, rfl, okw (in6 27 (by decide +kernel)) (by decide +kernel)⟩
theorem fX12_63 : FL RX12 63 12 43 (.array .int) true := ⟨_, _, _, _, kcX12, by decide, rfl, rfl, Or.inl (okw (in6 28 (by decide +kernel)) (by decide +kernel))⟩
theorem FfX12_63 : FF RX12 63 12 43 (.array .int) := ⟨_, _, _, _, kcX12, by decide, rfl, rfl, rfl, okw (in6 28 (by decide +kernel)) (by decide +kernel)⟩
theorem fX12_66 : FL RX12 66 12 44 (.array .int) true := ⟨_, _, _, _, kcX12, by decide, rfl, rfl, Or.inl (okw (in6 29 (by decide +kernel)) (by decide +kernel))⟩
theorem FfX12_66 : FF RX12 66 12 44 (.array .int) := ⟨_, _, _, _, kcX12, by decide, rfl, rfl, rfl, okw (in6 29 (by decide +kernel)) (by decide +kernel)⟩
theorem fX12_69 : FL RX12 69 12 55 (.array .int) true := ⟨_, _, _, _, kcX12, by decide, rfl, rfl, Or.inl (okw (in6 40 (by decide +kernel)) (by decide +kernel))⟩
theorem FfX12_69 : FF RX12 69 12 55 (.array .int) := ⟨_, _, _, _, kcX12, by decide, rfl, rfl, rfl, okw (in6 40 (by decide +kernel)) (by decide +kernel)⟩
theorem fX12_72 : FL RX12 72 12 56 (.array .int) true := ⟨_, _, _, _, kcX12, by decide, rfl, rfl, Or.inl (okw (in6 41 (by decide +kernel)) (by decide +kernel))⟩
theorem FfX12_72 : FF RX12 72 12 56 (.array .int) := ⟨_, _, _, _, kcX12, by decide, rfl, rfl, rfl, okw (in6 41 (by decide +kernel)) (by decide +kernel)⟩
theorem fX12_75 : FL RX12 75 12 0 (.int) false := ⟨_, _, _, _, kcX12, by decide, rfl, rfl, Or.inl (okw (in5 225 (by decide +kernel)) (by decide +kernel))⟩
theorem fX12_78 : FL RX12 78 12 2 (.int) false := ⟨_, _, _, _, kcX12, by decide, rfl, rfl, Or.inl (okw (in5 227 (by decide +kernel)) (by decide +kernel))⟩
theorem fX12_85 : FL RX12 85 12 6 (.int) false := ⟨_, _, _, _, kcX12, by decide, rfl, rfl, Or.inl (okw (in5 231 (by decide +kernel)) (by decide +kernel))⟩
theorem fX12_92 : FL RX12 92 12 7 (.int) false := ⟨_, _, _, _, kcX12, by decide, rfl, rfl, Or.inl (okw (in5 232 (by decide +kernel)) (by decide +kernel))⟩
theorem fX12_95 : FL RX12 95 12 9 (.int) false := ⟨_, _, _, _, kcX12, by decide, rfl, rfl, Or.inl (okw (in5 234 (by decide +kernel)) (by decide +kernel))⟩
theorem fX12_102 : FL RX12 102 12 8 (.int) false := ⟨_, _, _, _, kcX12, by decide, rfl, rfl, Or.inl (okw (in5 233 (by decide +kernel)) (by decide +kernel))⟩
theorem fX12_105 : FL RX12 105 12 11 (.int) false := ⟨_, _, _, _, kcX12, by decide, rfl, rfl, Or.inl (okw (in5 236 (by decide +kernel)) (by decide +kernel))⟩
theorem fX12_108 : FL RX12 108 12 10 (.int) false := ⟨_, _, _, _, kcX12, by decide, rfl, rfl, Or.inl (okw (in5 235 (by decide +kernel)) (by decide +kernel))⟩
theorem fX12_115 : FL RX12 115 12 14 (.int) false := ⟨_, _, _, _, kcX12, by decide, rfl, rfl, Or.inl (okw (in5 239 (by decide +kernel)) (by decide +kernel))⟩
theorem fX12_118 : FL RX12 118 12 15 (.int) false := ⟨_, _, _, _, kcX12, by decide, rfl, rfl, Or.inl (okw (in6 0 (by decide +kernel)) (by decide +kernel))⟩
theorem fX12_128 : FL RX12 128 12 16 (.int) false := ⟨_, _, _, _, kcX12, by decide, rfl, rfl, Or.inl (okw (in6 1 (by decide +kernel)) (by decide +kernel))⟩
theorem fX12_159 : FL RX12 159 12 12 (.int) false := ⟨_, _, _, _, kcX12, by decide, rfl, rfl, Or.inl (okw (in5 237 (by decide +kernel)) (by decide +kernel))⟩
theorem fX12_162 : FL RX12 162 12 57 (.int) false := ⟨_, _, _, _, kcX12, by decide, rfl, rfl, Or.inl (okw (in6 42 (by decide +kernel)) (by decide +kernel))⟩
theorem fX12_165 : FL RX12 165 12 46 (.boolean) false := ⟨_, _, _, _, kcX12, by decide, rfl, rfl, Or.inl (okw (in6 31 (by decide +kernel)) (by decide +kernel))⟩
theorem fX12_172 : FL RX12 172 12 17 (.boolean) false := ⟨_, _, _, _, kcX12, by decide, rfl, rfl, Or.inl (okw (in6 2 (by decide +kernel)) (by decide +kernel))⟩
theorem fX12_175 : FL RX12 175 12 18 (.boolean) false := ⟨_, _, _, _, kcX12, by decide, rfl, rfl, Or.inl (okw (in6 3 (by decide +kernel)) (by decide +kernel))⟩
theorem fX12_178 : FL RX12 178 12 21 (.int) false := ⟨_, _, _, _, kcX12, by decide, rfl, rfl, Or.inl (okw (in6 6 (by decide +kernel)) (by decide +kernel))⟩
theorem fX12_206 : FL RX12 206 12 25 (.int) false := ⟨_, _, _, _, kcX12, by decide, rfl, rfl, Or.inl (okw (in6 10 (by decide +kernel)) (by decide +kernel))⟩
theorem fX12_228 : FL RX12 228 12 24 (.int) false := ⟨_, _, _, _, kcX12, by decide, rfl, rfl, Or.inl (okw (in6 9 (by decide +kernel)) (by decide +kernel))⟩
theorem fX12_234 : FL RX12 234 12 32 (.int) false := ⟨_, _, _, _, kcX12, by decide, rfl, rfl, Or.inl (okw (in6 17 (by decide +kernel)) (by decide +kernel))⟩
theorem fX12_237 : FL RX12 237 12 33 (.int) false := ⟨_, _, _, _, kcX12, by decide, rfl, rfl, Or.inl (okw (in6 18 (by decide +kernel)) (by decide +kernel))⟩
theorem fX12_246 : FL RX12 246 12 20 (.int) false := ⟨_, _, _, _, kcX12, by decide, rfl, rfl, Or.inl (okw (in6 5 (by decide +kernel)) (by decide +kernel))⟩
theorem fX12_277 : FL RX12 277 12 37 (.int) false := ⟨_, _, _, _, kcX12, by decide, rfl, rfl, Or.inl (okw (in6 22 (by decide +kernel)) (by decide +kernel))⟩
theorem fX12_280 : FL RX12 280 12 34 (.int) false := ⟨_, _, _, _, kcX12, by decide, rfl, rfl, Or.inl (okw (in6 19 (by decide +kernel)) (by decide +kernel))⟩
theorem fX12_283 : FL RX12 283 12 35 (.int) false := ⟨_, _, _, _, kcX12, by decide, rfl, rfl, Or.inl (okw (in6 20 (by decide +kernel)) (by decide +kernel))⟩
theorem fX12_286 : FL RX12 286 12 36 (.int) false := ⟨_, _, _, _, kcX12, by decide, rfl, rfl, Or.inl (okw (in6 21 (by decide +kernel)) (by decide +kernel))⟩
theorem fX12_298 : FL RX12 298 12 38 (.int) false := ⟨_, _, _, _, kcX12, by decide, rfl, rfl, Or.inl (okw (in6 23 (by decide +kernel)) (by decide +kernel))⟩
theorem fX12_311 : FL RX12 311 12 41 (.int) false := ⟨_, _, _, _, kcX12, by decide, rfl, rfl, Or.inl (okw (in6 26 (by decide +kernel)) (by decide +kernel))⟩
theorem fX12_341 : FL RX12 341 12 45 (.int) false := ⟨_, _, _, _, kcX12, by decide, rfl, rfl, Or.inl (okw (in6 30 (by decide +kernel)) (by decide +kernel))⟩
theorem fX12_353 : FL RX12 353 12 52 (.int) false := ⟨_, _, _, _, kcX12, by decide, rfl, rfl, Or.inl (okw (in6 37 (by decide +kernel)) (by decide +kernel))⟩
theorem fX12_356 : FL RX12 356 12 49 (.int) false := ⟨_, _, _, _, kcX12, by decide, rfl, rfl, Or.inl (okw (in6 34 (by decide +kernel)) (by decide +kernel))⟩
theorem fX12_359 : FL RX12 359 12 48 (.int) false := ⟨_, _, _, _, kcX12, by decide, rfl, rfl, Or.inl (okw (in6 33 (by decide +kernel)) (by decide +kernel))⟩
theorem fX12_362 : FL RX12 362 12 50 (.int) false := ⟨_, _, _, _, kcX12, by decide, rfl, rfl, Or.inl (okw (in6 35 (by decide +kernel)) (by decide +kernel))⟩
theorem fX12_365 : FL RX12 365 12 51 (.int) false := ⟨_, _, _, _, kcX12, by decide, rfl, rfl, Or.inl (okw (in6 36 (by decide +kernel)) (by decide +kernel))⟩
theorem fX12_368 : FL RX12 368 12 47 (.int) false := ⟨_, _, _, _, kcX12, by decide, rfl, rfl, Or.inl (okw (in6 32 (by decide +kernel)) (by decide +kernel))⟩
theorem fX12_374 : FL RX12 374 12 53 (.int) false := ⟨_, _, _, _, kcX12, by decide, rfl, rfl, Or.inl (okw (in6 38 (by decide +kernel)) (by decide +kernel))⟩
theorem fX12_377 : FL RX12 377 12 54 (.int) false := ⟨_, _, _, _, kcX12, by decide, rfl, rfl, Or.inl (okw (in6 39 (by decide +kernel)) (by decide +kernel))⟩
theorem lX0_3 : Cond.methodLink RX0 3 Lib.objectInit ∈ lw_ok := okw (in1 96 (by decide +kernel)) (by decide +kernel)
theorem lX0_22 : mLk RX0 22 yX3_all := Or.inr ⟨"SureHunters", new_ (in3 144 (by decide +kernel)) rfl⟩
theorem lX0_35 : mLk RX0 35 yX0_takeLeastCorner := Or.inl (okw (in3 148 (by decide +kernel)) (by decide +kernel))
theorem lX0_42 : mLk RX0 42 yX0_cornerBy := Or.inl (okw (in3 152 (by decide +kernel)) (by decide +kernel))
theorem lX0_46 : mLk RX0 46 yX3_around := Or.inr ⟨"SureHunters", new_ (in3 155 (by decide +kernel)) rfl⟩
theorem lX1_3 : Cond.methodLink RX1 3 Lib.objectInit ∈ lw_ok := okw (in1 181 (by decide +kernel)) (by decide +kernel)
theorem lX1_25 : Cond.methodLink RX1 25 Lib.Math.max.name ∈ lw_ok := okw (in3 203 (by decide +kernel)) (by decide +kernel)
theorem lX1_31 : mLk RX1 31 yJ7_fill_53178 := Or.inl (okw (in3 204 (by decide +kernel)) (by decide +kernel))
theorem lX1_40 : mLk RX1 40 yX1_indexOf := Or.inl (okw (in3 218 (by decide +kernel)) (by decide +kernel))
theorem lX1_43 : mLk RX1 43 yX1_worthAt := Or.inl (okw (in4 69 (by decide +kernel)) (by decide +kernel))
theorem lX2_3 : Cond.methodLink RX2 3 Lib.objectInit ∈ lw_ok := okw (in1 122 (by decide +kernel)) (by decide +kernel)
theorem kX2_9 : Cond.classLink RX2 9 RX5 ∈ lw_ok := okw (in1 123 (by decide +kernel)) (by decide +kernel)
theorem lX2_11 : mLk RX2 11 yX5_init := Or.inr ⟨"SureHunters", new_ (in1 125 (by decide +kernel)) rfl⟩
theorem kX2_18 : Cond.classLink RX2 18 RX1 ∈ lw_ok := okw (in1 173 (by decide +kernel)) (by decide +kernel)
theorem lX2_41 : mLk RX2 41 yX1_init := Or.inr ⟨"SureHunters", new_ (in1 178 (by decide +kernel)) rfl⟩
theorem lX2_44 : mLk RX2 44 yX5_learn := Or.inr ⟨"SureHunters", new_ (in3 71 (by decide +kernel)) rfl⟩
theorem lX2_58 : mLk RX2 58 yX2_solve := Or.inl (okw (in3 195 (by decide +kernel)) (by decide +kernel))
theorem lX2_62 : mLk RX2 62 yX2_findOpening := Or.inl (okw (in4 16 (by decide +kernel)) (by decide +kernel))
theorem lX2_65 : mLk RX2 65 yX1_clear := Or.inr ⟨"SureHunters", new_ (in3 199 (by decide +kernel)) rfl⟩
theorem lX2_74 : mLk RX2 74 yX2_isOnNet := Or.inl (okw (in3 205 (by decide +kernel)) (by decide +kernel))
theorem lX2_78 : mLk RX2 78 yX5_standBits := Or.inr ⟨"SureHunters", new_ (in3 209 (by decide +kernel)) rfl⟩
theorem lX2_82 : mLk RX2 82 yX1_setWorth := Or.inr ⟨"SureHunters", new_ (in3 214 (by decide +kernel)) rfl⟩
theorem lX2_85 : mLk RX2 85 yX2_spreadHeld := Or.inl (okw (in3 222 (by decide +kernel)) (by decide +kernel))
theorem lX2_88 : mLk RX2 88 yX2_takeNews := Or.inl (okw (in4 12 (by decide +kernel)) (by decide +kernel))
theorem lX2_92 : mLk RX2 92 yX3_all := Or.inr ⟨"SureHunters", new_ (in3 213 (by decide +kernel)) rfl⟩
theorem lX2_96 : mLk RX2 96 yX2_holds := Or.inl (okw (in3 226 (by decide +kernel)) (by decide +kernel))
theorem lX2_103 : mLk RX2 103 yX5_stepFrom := Or.inr ⟨"SureHunters", new_ (in3 236 (by decide +kernel)) rfl⟩
theorem lX2_113 : mLk RX2 113 yX2_reach := Or.inl (okw (in3 230 (by decide +kernel)) (by decide +kernel))
theorem qX2_123 : Cond.constant RX2 123 1000000 ∈ lw_ok := okw (in4 20 (by decide +kernel)) (by decide +kernel)
theorem lX2_124 : mLk RX2 124 yX2_greatestRank := Or.inl (okw (in4 21 (by decide +kernel)) (by decide +kernel))
theorem lX2_128 : mLk RX2 128 yJ6_bitCount_0f7a4 := Or.inl (okw (in4 33 (by decide +kernel)) (by decide +kernel))
theorem lX2_133 : mLk RX2 133 yX2_worthOf := Or.inl (okw (in4 34 (by decide +kernel)) (by decide +kernel))
theorem lX2_139 : mLk RX2 139 yX1_worthAt := Or.inr ⟨"SureHunters", new_ (in4 25 (by decide +kernel)) rfl⟩
theorem lX2_143 : mLk RX2 143 yX2_rankOf := Or.inl (okw (in4 29 (by decide +kernel)) (by decide +kernel))
theorem lX2_146 : Cond.methodLink RX2 146 Lib.Math.max.name ∈ lw_ok := okw (in4 32 (by decide +kernel)) (by decide +kernel)
theorem lX2_151 : mLk RX2 151 yX3_around := Or.inr ⟨"SureHunters", new_ (in3 234 (by decide +kernel)) rfl⟩
theorem lX2_154 : mLk RX2 154 yX3_widen := Or.inr ⟨"SureHunters", new_ (in3 235 (by decide +kernel)) rfl⟩
theorem lX2_157 : mLk RX2 157 yX5_standsAt := Or.inr ⟨"SureHunters", new_ (in4 97 (by decide +kernel)) rfl⟩
theorem lX2_161 : mLk RX2 161 yX2_runnersRank := Or.inl (okw (in4 106 (by decide +kernel)) (by decide +kernel))
theorem lX2_164 : mLk RX2 164 yX1_sureBits := Or.inr ⟨"SureHunters", new_ (in5 62 (by decide +kernel)) rfl⟩
theorem lX2_167 : mLk RX2 167 yX2_nextSeed := Or.inl (okw (in4 90 (by decide +kernel)) (by decide +kernel))
theorem lX2_170 : mLk RX2 170 yX2_drawn := Or.inl (okw (in4 94 (by decide +kernel)) (by decide +kernel))
theorem lX2_173 : mLk RX2 173 yX2_bestRow := Or.inl (okw (in4 102 (by decide +kernel)) (by decide +kernel))
theorem qX2_176 : Cond.constant RX2 176 1103515245 ∈ lw_ok := okw (in4 93 (by decide +kernel)) (by decide +kernel)
theorem lX3_3 : Cond.methodLink RX3 3 Lib.objectInit ∈ lw_ok := okw (in1 76 (by decide +kernel)) (by decide +kernel)
theorem lX3_19 : mLk RX3 19 yJ7_fill_53178 := Or.inl (okw (in2 170 (by decide +kernel)) (by decide +kernel))
theorem lX3_25 : mLk RX3 25 yX3_has := Or.inl (okw (in3 43 (by decide +kernel)) (by decide +kernel))
theorem lX3_29 : mLk RX3 29 yX3_around := Or.inl (okw (in3 47 (by decide +kernel)) (by decide +kernel))
theorem lX3_33 : mLk RX3 33 yJ6_bitCount_0f7a4 := Or.inl (okw (in3 97 (by decide +kernel)) (by decide +kernel))
theorem lX3_38 : Cond.methodLink RX3 38 Lib.Math.max.name ∈ lw_ok := okw (in3 103 (by decide +kernel)) (by decide +kernel)
theorem lX3_44 : mLk RX3 44 yX3_linesAt := Or.inl (okw (in3 93 (by decide +kernel)) (by decide +kernel))
theorem lX3_47 : Cond.methodLink RX3 47 Lib.Math.min.name ∈ lw_ok := okw (in3 136 (by decide +kernel)) (by decide +kernel)
theorem lX3_50 : mLk RX3 50 yX3_partOf := Or.inl (okw (in3 110 (by decide +kernel)) (by decide +kernel))
theorem lX3_53 : mLk RX3 53 yX3_widen := Or.inl (okw (in3 114 (by decide +kernel)) (by decide +kernel))
theorem lX3_56 : mLk RX3 56 yX3_joined := Or.inl (okw (in3 122 (by decide +kernel)) (by decide +kernel))
theorem lX3_60 : mLk RX3 60 yX3_flip := Or.inl (okw (in3 123 (by decide +kernel)) (by decide +kernel))
theorem lX3_64 : mLk RX3 64 yX3_steps := Or.inl (okw (in3 124 (by decide +kernel)) (by decide +kernel))
theorem lX3_67 : mLk RX3 67 yX3_all := Or.inl (okw (in3 161 (by decide +kernel)) (by decide +kernel))
theorem lX3_71 : mLk RX3 71 yX3_isBetterCover := Or.inl (okw (in3 162 (by decide +kernel)) (by decide +kernel))
theorem lX3_74 : mLk RX3 74 yX3_clear := Or.inl (okw (in5 111 (by decide +kernel)) (by decide +kernel))
theorem lX3_77 : mLk RX3 77 yX3_addPlace := Or.inl (okw (in5 112 (by decide +kernel)) (by decide +kernel))
theorem lX3_80 : mLk RX3 80 yX3_countBelow := Or.inl (okw (in5 113 (by decide +kernel)) (by decide +kernel))
theorem lX3_83 : mLk RX3 83 yX3_copyFrom := Or.inl (okw (in5 120 (by decide +kernel)) (by decide +kernel))
theorem lX4_1 : Cond.methodLink RX4 1 Lib.objectInit ∈ lw_ok := okw (in2 91 (by decide +kernel)) (by decide +kernel)
theorem kX4_9 : Cond.classLink RX4 9 RX3 ∈ lw_ok := okw (in2 92 (by decide +kernel)) (by decide +kernel)
theorem kX4_15 : Cond.classLink RX4 15 RX6 ∈ lw_ok := okw (in2 94 (by decide +kernel)) (by decide +kernel)
theorem lX4_21 : mLk RX4 21 yX3_init := Or.inr ⟨"SureHunters", new_ (in2 96 (by decide +kernel)) rfl⟩
theorem lX4_22 : mLk RX4 22 yX6_init := Or.inr ⟨"SureHunters", new_ (in2 97 (by decide +kernel)) rfl⟩
theorem lX4_30 : mLk RX4 30 yX3_copyFrom := Or.inr ⟨"SureHunters", new_ (in5 13 (by decide +kernel)) rfl⟩
theorem lX4_34 : mLk RX4 34 yX6_copyFrom := Or.inr ⟨"SureHunters", new_ (in5 14 (by decide +kernel)) rfl⟩
theorem lX4_37 : Cond.methodLink RX4 37 Lib.Math.min.name ∈ lw_ok := okw (in5 18 (by decide +kernel)) (by decide +kernel)
theorem lX5_3 : Cond.methodLink RX5 3 Lib.objectInit ∈ lw_ok := okw (in1 128 (by decide +kernel)) (by decide +kernel)
theorem lX5_33 : mLk RX5 33 yJ7_fill_53178 := Or.inl (okw (in1 129 (by decide +kernel)) (by decide +kernel))
theorem lX5_39 : mLk RX5 39 yX5_tell := Or.inl (okw (in1 132 (by decide +kernel)) (by decide +kernel))
theorem lX5_43 : mLk RX5 43 yX5_tellNumber := Or.inl (okw (in1 136 (by decide +kernel)) (by decide +kernel))
theorem lX5_46 : mLk RX5 46 yX5_isSpot := Or.inl (okw (in1 140 (by decide +kernel)) (by decide +kernel))
theorem lX5_53 : mLk RX5 53 yX5_spotAt := Or.inl (okw (in4 0 (by decide +kernel)) (by decide +kernel))
theorem lX5_57 : mLk RX5 57 yX5_standBits := Or.inl (okw (in4 101 (by decide +kernel)) (by decide +kernel))
theorem lX5_61 : mLk RX5 61 yX3_around := Or.inr ⟨"SureHunters", new_ (in3 75 (by decide +kernel)) rfl⟩
theorem lX5_73 : mLk RX5 73 yX5_stepOne := Or.inl (okw (in4 4 (by decide +kernel)) (by decide +kernel))
theorem lX5_77 : mLk RX5 77 yX5_note := Or.inl (okw (in4 8 (by decide +kernel)) (by decide +kernel))
theorem lX5_80 : mLk RX5 80 yX5_stepFrom := Or.inl (okw (in5 71 (by decide +kernel)) (by decide +kernel))
theorem lX5_84 : mLk RX5 84 yX5_isFound := Or.inl (okw (in5 72 (by decide +kernel)) (by decide +kernel))
theorem lX6_1 : Cond.methodLink RX6 1 Lib.objectInit ∈ lw_ok := okw (in2 60 (by decide +kernel)) (by decide +kernel)
theorem lX7_3 : Cond.methodLink RX7 3 Lib.objectInit ∈ lw_ok := okw (in1 38 (by decide +kernel)) (by decide +kernel)
theorem lX7_28 : mLk RX7 28 yX3_clear := Or.inr ⟨"SureHunters", new_ (in2 166 (by decide +kernel)) rfl⟩
theorem lX7_39 : mLk RX7 39 yX7_advance := Or.inl (okw (in2 171 (by decide +kernel)) (by decide +kernel))
theorem lX7_45 : mLk RX7 45 yX7_parsePlace := Or.inl (okw (in3 3 (by decide +kernel)) (by decide +kernel))
theorem lX7_49 : mLk RX7 49 yX7_parseLine := Or.inl (okw (in3 31 (by decide +kernel)) (by decide +kernel))
theorem lX7_52 : mLk RX7 52 yX7_refuseToken := Or.inl (okw (in3 11 (by decide +kernel)) (by decide +kernel))
theorem lX7_58 : mLk RX7 58 yX7_refuse := Or.inl (okw (in3 7 (by decide +kernel)) (by decide +kernel))
theorem lX7_62 : mLk RX7 62 yX7_placeNamed := Or.inl (okw (in3 15 (by decide +kernel)) (by decide +kernel))
theorem lX7_69 : mLk RX7 69 yX3_addPlace := Or.inr ⟨"SureHunters", new_ (in3 23 (by decide +kernel)) rfl⟩
theorem lX7_72 : mLk RX7 72 yX7_passSign := Or.inl (okw (in3 27 (by decide +kernel)) (by decide +kernel))
theorem lX7_75 : mLk RX7 75 yX7_parseEnd := Or.inl (okw (in3 35 (by decide +kernel)) (by decide +kernel))
theorem lX7_78 : mLk RX7 78 yX3_joined := Or.inr ⟨"SureHunters", new_ (in3 39 (by decide +kernel)) rfl⟩
theorem lX7_82 : mLk RX7 82 yX3_flip := Or.inr ⟨"SureHunters", new_ (in3 51 (by decide +kernel)) rfl⟩
theorem lX7_86 : mLk RX7 86 yX7_byteAt := Or.inl (okw (in2 175 (by decide +kernel)) (by decide +kernel))
theorem lX7_90 : mLk RX7 90 yX7_isBlank := Or.inl (okw (in2 179 (by decide +kernel)) (by decide +kernel))
theorem lX7_94 : mLk RX7 94 yX7_isLetter := Or.inl (okw (in2 182 (by decide +kernel)) (by decide +kernel))
theorem lX7_97 : mLk RX7 97 yX7_wordToken := Or.inl (okw (in2 185 (by decide +kernel)) (by decide +kernel))
theorem lX7_103 : mLk RX7 103 yX7_isWord := Or.inl (okw (in2 190 (by decide +kernel)) (by decide +kernel))
theorem lX7_117 : mLk RX7 117 yX7_isNameOf := Or.inl (okw (in3 19 (by decide +kernel)) (by decide +kernel))
theorem lX8_5 : Cond.methodLink RX8 5 Lib.objectInit ∈ lw_ok := okw (in2 25 (by decide +kernel)) (by decide +kernel)
theorem lX8_36 : mLk RX8 36 yX8_opensLit := Or.inl (okw (in4 195 (by decide +kernel)) (by decide +kernel))
theorem lX8_40 : mLk RX8 40 yX8_explore := Or.inl (okw (in4 205 (by decide +kernel)) (by decide +kernel))
theorem lX8_44 : mLk RX8 44 yX8_roundsOf := Or.inl (okw (in5 4 (by decide +kernel)) (by decide +kernel))
theorem lX8_48 : mLk RX8 48 yX8_pathIndex := Or.inl (okw (in4 202 (by decide +kernel)) (by decide +kernel))
theorem lX8_52 : mLk RX8 52 yX5_standBits := Or.inr ⟨"SureHunters", new_ (in4 200 (by decide +kernel)) rfl⟩
theorem lX8_57 : mLk RX8 57 yX3_all := Or.inr ⟨"SureHunters", new_ (in4 201 (by decide +kernel)) rfl⟩
theorem lX8_64 : mLk RX8 64 yX8_prepare := Or.inl (okw (in4 209 (by decide +kernel)) (by decide +kernel))
theorem lX8_67 : mLk RX8 67 yX8_isOnNet := Or.inl (okw (in4 215 (by decide +kernel)) (by decide +kernel))
theorem lX8_70 : mLk RX8 70 yX8_enqueue := Or.inl (okw (in4 219 (by decide +kernel)) (by decide +kernel))
theorem lX8_80 : mLk RX8 80 yX8_stepsToLight := Or.inl (okw (in4 223 (by decide +kernel)) (by decide +kernel))
theorem lX8_90 : mLk RX8 90 yJ7_fill_53178 := Or.inl (okw (in4 213 (by decide +kernel)) (by decide +kernel))
theorem lX8_96 : mLk RX8 96 yX3_widen := Or.inr ⟨"SureHunters", new_ (in4 214 (by decide +kernel)) rfl⟩
theorem lX8_99 : mLk RX8 99 yX5_stepFrom := Or.inr ⟨"SureHunters", new_ (in4 227 (by decide +kernel)) rfl⟩
theorem lX8_103 : mLk RX8 103 yX5_isFound := Or.inr ⟨"SureHunters", new_ (in4 228 (by decide +kernel)) rfl⟩
theorem lX8_106 : mLk RX8 106 yX8_tellPath := Or.inl (okw (in4 232 (by decide +kernel)) (by decide +kernel))
theorem lX9_3 : Cond.methodLink RX9 3 Lib.objectInit ∈ lw_ok := okw (in2 2 (by decide +kernel)) (by decide +kernel)
theorem lX9_24 : mLk RX9 24 yX9_imagesOf := Or.inl (okw (in4 127 (by decide +kernel)) (by decide +kernel))
theorem lX9_28 : mLk RX9 28 yX9_canBe := Or.inl (okw (in4 131 (by decide +kernel)) (by decide +kernel))
theorem lX9_32 : mLk RX9 32 yX9_fits := Or.inl (okw (in4 135 (by decide +kernel)) (by decide +kernel))
theorem lX9_36 : mLk RX9 36 yX9_completes := Or.inl (okw (in4 140 (by decide +kernel)) (by decide +kernel))
theorem lX9_40 : mLk RX9 40 yX3_linesAt := Or.inr ⟨"SureHunters", new_ (in4 138 (by decide +kernel)) rfl⟩
theorem lX9_44 : mLk RX9 44 yX3_joined := Or.inr ⟨"SureHunters", new_ (in4 139 (by decide +kernel)) rfl⟩
theorem lX10_3 : Cond.methodLink RX10 3 Lib.objectInit ∈ lw_ok := okw (in2 15 (by decide +kernel)) (by decide +kernel)
theorem lX10_15 : mLk RX10 15 yX3_all := Or.inr ⟨"SureHunters", new_ (in4 164 (by decide +kernel)) rfl⟩
theorem lX10_21 : mLk RX10 21 yX10_dropCouples := Or.inl (okw (in4 165 (by decide +kernel)) (by decide +kernel))
theorem lX10_29 : mLk RX10 29 yX10_answers := Or.inl (okw (in4 169 (by decide +kernel)) (by decide +kernel))
theorem lX10_33 : mLk RX10 33 yX3_around := Or.inr ⟨"SureHunters", new_ (in4 173 (by decide +kernel)) rfl⟩
theorem lX10_37 : mLk RX10 37 yJ6_bitCount_0f7a4 := Or.inl (okw (in4 178 (by decide +kernel)) (by decide +kernel))
theorem lX11_1 : Cond.methodLink RX11 1 Lib.objectInit ∈ lw_ok := okw (in1 30 (by decide +kernel)) (by decide +kernel)
theorem kX11_7 : Cond.classLink RX11 7 RX7 ∈ lw_ok := okw (in1 33 (by decide +kernel)) (by decide +kernel)
theorem lX11_9 : mLk RX11 9 yX7_init := Or.inr ⟨"SureHunters", new_ (in1 35 (by decide +kernel)) rfl⟩
theorem kX11_16 : Cond.classLink RX11 16 RX3 ∈ lw_ok := okw (in1 71 (by decide +kernel)) (by decide +kernel)
theorem lX11_18 : mLk RX11 18 yX3_init := Or.inr ⟨"SureHunters", new_ (in1 73 (by decide +kernel)) rfl⟩
theorem kX11_26 : Cond.classLink RX11 26 RX0 ∈ lw_ok := okw (in1 91 (by decide +kernel)) (by decide +kernel)
theorem lX11_28 : mLk RX11 28 yX0_init := Or.inr ⟨"SureHunters", new_ (in1 93 (by decide +kernel)) rfl⟩
theorem kX11_33 : Cond.classLink RX11 33 RX2 ∈ lw_ok := okw (in1 117 (by decide +kernel)) (by decide +kernel)
theorem lX11_35 : mLk RX11 35 yX2_init := Or.inr ⟨"SureHunters", new_ (in1 119 (by decide +kernel)) rfl⟩
theorem kX11_42 : Cond.classLink RX11 42 RX9 ∈ lw_ok := okw (in1 237 (by decide +kernel)) (by decide +kernel)
theorem lX11_44 : mLk RX11 44 yX9_init := Or.inr ⟨"SureHunters", new_ (in1 239 (by decide +kernel)) rfl⟩
theorem kX11_49 : Cond.classLink RX11 49 RX10 ∈ lw_ok := okw (in2 10 (by decide +kernel)) (by decide +kernel)
theorem lX11_51 : mLk RX11 51 yX10_init := Or.inr ⟨"SureHunters", new_ (in2 12 (by decide +kernel)) rfl⟩
theorem kX11_56 : Cond.classLink RX11 56 RX8 ∈ lw_ok := okw (in2 20 (by decide +kernel)) (by decide +kernel)
theorem lX11_62 : mLk RX11 62 yX8_init := Or.inr ⟨"SureHunters", new_ (in2 22 (by decide +kernel)) rfl⟩
theorem kX11_69 : Cond.classLink RX11 69 RX6 ∈ lw_ok := okw (in2 55 (by decide +kernel)) (by decide +kernel)
theorem lX11_71 : mLk RX11 71 yX6_init := Or.inr ⟨"SureHunters", new_ (in2 57 (by decide +kernel)) rfl⟩
theorem kX11_76 : Cond.classLink RX11 76 RX4 ∈ lw_ok := okw (in2 86 (by decide +kernel)) (by decide +kernel)
theorem lX11_78 : mLk RX11 78 yX4_init := Or.inr ⟨"SureHunters", new_ (in2 88 (by decide +kernel)) rfl⟩
theorem lX11_90 : mLk RX11 90 yX7_append := Or.inr ⟨"SureHunters", new_ (in2 150 (by decide +kernel)) rfl⟩
theorem lX11_94 : mLk RX11 94 yX7_parse := Or.inr ⟨"SureHunters", new_ (in2 162 (by decide +kernel)) rfl⟩
theorem lX11_100 : mLk RX11 100 yX3_copyFrom := Or.inr ⟨"SureHunters", new_ (in3 55 (by decide +kernel)) rfl⟩
theorem lX11_107 : mLk RX11 107 yX4_forget := Or.inr ⟨"SureHunters", new_ (in3 59 (by decide +kernel)) rfl⟩
theorem lX11_110 : mLk RX11 110 yX11_renew := Or.inl (okw (in3 63 (by decide +kernel)) (by decide +kernel))
theorem lX11_119 : mLk RX11 119 yX3_lines := Or.inr ⟨"SureHunters", new_ (in3 89 (by decide +kernel)) rfl⟩
theorem lX11_123 : mLk RX11 123 yX3_parts := Or.inr ⟨"SureHunters", new_ (in3 106 (by decide +kernel)) rfl⟩
theorem lX11_126 : mLk RX11 126 yX3_girth := Or.inr ⟨"SureHunters", new_ (in3 118 (by decide +kernel)) rfl⟩
theorem lX11_129 : mLk RX11 129 yX11_low := Or.inl (okw (in3 128 (by decide +kernel)) (by decide +kernel))
theorem lX11_132 : mLk RX11 132 yX3_cover := Or.inr ⟨"SureHunters", new_ (in3 157 (by decide +kernel)) rfl⟩
theorem lX11_135 : mLk RX11 135 yJ6_bitCount_0f7a4 := Or.inl (okw (in3 156 (by decide +kernel)) (by decide +kernel))
theorem lX11_144 : mLk RX11 144 yX3_has := Or.inr ⟨"SureHunters", new_ (in3 169 (by decide +kernel)) rfl⟩
theorem lX11_148 : mLk RX11 148 yX3_around := Or.inr ⟨"SureHunters", new_ (in3 170 (by decide +kernel)) rfl⟩
theorem lX11_158 : mLk RX11 158 yX3_steps := Or.inr ⟨"SureHunters", new_ (in5 210 (by decide +kernel)) rfl⟩
theorem lX11_162 : mLk RX11 162 yX3_all := Or.inr ⟨"SureHunters", new_ (in4 159 (by decide +kernel)) rfl⟩
theorem lX11_165 : mLk RX11 165 yX0_cornerBy := Or.inr ⟨"SureHunters", new_ (in5 218 (by decide +kernel)) rfl⟩
theorem lX11_169 : mLk RX11 169 yX0_settle := Or.inr ⟨"SureHunters", new_ (in3 140 (by decide +kernel)) rfl⟩
theorem lX11_182 : mLk RX11 182 yX0_comesAtLast := Or.inr ⟨"SureHunters", new_ (in3 183 (by decide +kernel)) rfl⟩
theorem lX11_185 : mLk RX11 185 yX2_solved := Or.inr ⟨"SureHunters", new_ (in3 191 (by decide +kernel)) rfl⟩
theorem lX11_197 : mLk RX11 197 yX5_hunterAt := Or.inr ⟨"SureHunters", new_ (in4 45 (by decide +kernel)) rfl⟩
theorem lX11_202 : mLk RX11 202 yX11_rowOf := Or.inl (okw (in4 53 (by decide +kernel)) (by decide +kernel))
theorem lX11_206 : mLk RX11 206 yX5_huntersOf := Or.inr ⟨"SureHunters", new_ (in4 61 (by decide +kernel)) rfl⟩
theorem lX11_209 : mLk RX11 209 yX1_sureBits := Or.inr ⟨"SureHunters", new_ (in4 65 (by decide +kernel)) rfl⟩
theorem lX11_215 : mLk RX11 215 yX2_refusedCouple := Or.inr ⟨"SureHunters", new_ (in4 78 (by decide +kernel)) rfl⟩
theorem lX11_219 : mLk RX11 219 yX2_tryOut := Or.inr ⟨"SureHunters", new_ (in4 86 (by decide +kernel)) rfl⟩
theorem lX11_225 : mLk RX11 225 yX11_helpingLine := Or.inl (okw (in4 114 (by decide +kernel)) (by decide +kernel))
theorem lX11_228 : mLk RX11 228 yX9_howMany := Or.inr ⟨"SureHunters", new_ (in4 123 (by decide +kernel)) rfl⟩
theorem lX11_232 : mLk RX11 232 yX9_leastAlike := Or.inr ⟨"SureHunters", new_ (in4 147 (by decide +kernel)) rfl⟩
theorem lX11_236 : mLk RX11 236 yX11_isSet := Or.inl (okw (in4 155 (by decide +kernel)) (by decide +kernel))
theorem lX11_239 : mLk RX11 239 yX10_settle := Or.inr ⟨"SureHunters", new_ (in4 160 (by decide +kernel)) rfl⟩
theorem lX11_242 : mLk RX11 242 yX10_couples := Or.inr ⟨"SureHunters", new_ (in4 174 (by decide +kernel)) rfl⟩
theorem lX11_245 : mLk RX11 245 yX10_isCouple := Or.inr ⟨"SureHunters", new_ (in4 183 (by decide +kernel)) rfl⟩
theorem lX11_249 : mLk RX11 249 yX8_roundsOf := Or.inr ⟨"SureHunters", new_ (in4 191 (by decide +kernel)) rfl⟩
theorem lX11_252 : mLk RX11 252 yX8_rowIn := Or.inr ⟨"SureHunters", new_ (in5 0 (by decide +kernel)) rfl⟩
theorem lX11_255 : mLk RX11 255 yX4_keep := Or.inr ⟨"SureHunters", new_ (in5 9 (by decide +kernel)) rfl⟩
theorem lX11_259 : mLk RX11 259 yX6_open := Or.inr ⟨"SureHunters", new_ (in5 19 (by decide +kernel)) rfl⟩
theorem lX11_278 : mLk RX11 278 yX11_isCaught := Or.inl (okw (in5 27 (by decide +kernel)) (by decide +kernel))
theorem lX11_282 : mLk RX11 282 yX11_stageWorth := Or.inl (okw (in5 32 (by decide +kernel)) (by decide +kernel))
theorem lX11_285 : mLk RX11 285 yX11_stageGame := Or.inl (okw (in5 45 (by decide +kernel)) (by decide +kernel))
theorem lX11_289 : mLk RX11 289 yX2_bestPlace := Or.inr ⟨"SureHunters", new_ (in5 49 (by decide +kernel)) rfl⟩
theorem lX11_293 : mLk RX11 293 yX2_bestRow := Or.inr ⟨"SureHunters", new_ (in5 53 (by decide +kernel)) rfl⟩
theorem lX11_296 : mLk RX11 296 yX2_safeBits := Or.inr ⟨"SureHunters", new_ (in5 58 (by decide +kernel)) rfl⟩
theorem lX11_299 : mLk RX11 299 yX5_leads := Or.inr ⟨"SureHunters", new_ (in5 67 (by decide +kernel)) rfl⟩
theorem lX11_303 : mLk RX11 303 yX6_huntersGo := Or.inr ⟨"SureHunters", new_ (in5 73 (by decide +kernel)) rfl⟩
theorem lX11_306 : mLk RX11 306 yX2_reach := Or.inr ⟨"SureHunters", new_ (in5 81 (by decide +kernel)) rfl⟩
theorem lX11_309 : mLk RX11 309 yX6_runnerGoes := Or.inr ⟨"SureHunters", new_ (in5 82 (by decide +kernel)) rfl⟩
theorem lX11_312 : mLk RX11 312 yX11_playTurn := Or.inl (okw (in5 90 (by decide +kernel)) (by decide +kernel))
theorem lX11_316 : mLk RX11 316 yX3_flip := Or.inr ⟨"SureHunters", new_ (in4 118 (by decide +kernel)) rfl⟩
theorem lX11_320 : mLk RX11 320 yX11_takeDraft := Or.inl (okw (in5 98 (by decide +kernel)) (by decide +kernel))
theorem lX11_323 : mLk RX11 323 yX3_joined := Or.inr ⟨"SureHunters", new_ (in5 102 (by decide +kernel)) rfl⟩
theorem lX11_326 : mLk RX11 326 yX3_takePart := Or.inr ⟨"SureHunters", new_ (in5 107 (by decide +kernel)) rfl⟩
theorem lX11_329 : mLk RX11 329 yX3_takeTurned := Or.inr ⟨"SureHunters", new_ (in5 116 (by decide +kernel)) rfl⟩
theorem lX11_332 : mLk RX11 332 yX3_takeTwice := Or.inr ⟨"SureHunters", new_ (in5 121 (by decide +kernel)) rfl⟩
theorem lX11_335 : mLk RX11 335 yX4_takeBack := Or.inr ⟨"SureHunters", new_ (in5 129 (by decide +kernel)) rfl⟩
theorem lX11_339 : mLk RX11 339 yX3_sameAs := Or.inr ⟨"SureHunters", new_ (in5 133 (by decide +kernel)) rfl⟩
theorem lX11_346 : mLk RX11 346 yX2_renew := Or.inr ⟨"SureHunters", new_ (in3 67 (by decide +kernel)) rfl⟩
theorem lX11_347 : mLk RX11 347 yX8_renew := Or.inr ⟨"SureHunters", new_ (in3 76 (by decide +kernel)) rfl⟩
theorem lX11_348 : mLk RX11 348 yX3_fewestLines := Or.inr ⟨"SureHunters", new_ (in3 132 (by decide +kernel)) rfl⟩
theorem lX11_351 : Cond.methodLink RX11 351 Lib.Math.max.name ∈ lw_ok := okw (in3 139 (by decide +kernel)) (by decide +kernel)
theorem lX11_356 : mLk RX11 356 yX5_numberOf := Or.inr ⟨"SureHunters", new_ (in4 57 (by decide +kernel)) rfl⟩
theorem lX11_359 : mLk RX11 359 yX5_standsAt := Or.inr ⟨"SureHunters", new_ (in5 31 (by decide +kernel)) rfl⟩
theorem lX11_362 : mLk RX11 362 yX2_runnersWorth := Or.inr ⟨"SureHunters", new_ (in5 36 (by decide +kernel)) rfl⟩
theorem lX11_365 : mLk RX11 365 yX1_worthAt := Or.inr ⟨"SureHunters", new_ (in5 40 (by decide +kernel)) rfl⟩
theorem lX12_1 : Cond.methodLink RX12 1 Lib.objectInit ∈ lw_ok := okw (in5 224 (by decide +kernel)) (by decide +kernel)
theorem lX12_81 : mLk RX12 81 yX12_in := Or.inl (okw (in6 176 (by decide +kernel)) (by decide +kernel))
theorem lX12_88 : mLk RX12 88 yX12_four := Or.inl (okw (in6 168 (by decide +kernel)) (by decide +kernel))
theorem lX12_98 : mLk RX12 98 yX12_byteAt := Or.inl (okw (in6 187 (by decide +kernel)) (by decide +kernel))
theorem lX12_111 : mLk RX12 111 yX12_isSmall := Or.inl (okw (in6 191 (by decide +kernel)) (by decide +kernel))
theorem lX12_121 : mLk RX12 121 yX12_isGood := Or.inl (okw (in6 194 (by decide +kernel)) (by decide +kernel))
theorem lX12_125 : mLk RX12 125 yX12_next := Or.inl (okw (in6 183 (by decide +kernel)) (by decide +kernel))
theorem qX12_131 : Cond.constant RX12 131 17171557 ∈ lw_ok := okw (in6 198 (by decide +kernel)) (by decide +kernel)
theorem lX12_132 : mLk RX12 132 yX12_isWord := Or.inl (okw (in6 199 (by decide +kernel)) (by decide +kernel))
theorem qX12_135 : Cond.constant RX12 135 402885 ∈ lw_ok := okw (in6 215 (by decide +kernel)) (by decide +kernel)
theorem lX12_136 : mLk RX12 136 yX12_fails := Or.inl (okw (in6 207 (by decide +kernel)) (by decide +kernel))
theorem lX12_139 : mLk RX12 139 yX12_mustBeName := Or.inl (okw (in6 211 (by decide +kernel)) (by decide +kernel))
theorem lX12_142 : mLk RX12 142 yX12_called := Or.inl (okw (in6 216 (by decide +kernel)) (by decide +kernel))
theorem lX12_146 : mLk RX12 146 yX12_goOn := Or.inl (okw (in6 220 (by decide +kernel)) (by decide +kernel))
theorem lX12_149 : mLk RX12 149 yX12_isOf := Or.inl (okw (in6 228 (by decide +kernel)) (by decide +kernel))
theorem lX12_153 : mLk RX12 153 yX12_readPlace := Or.inl (okw (in6 203 (by decide +kernel)) (by decide +kernel))
theorem lX12_156 : mLk RX12 156 yX12_readLine := Or.inl (okw (in6 224 (by decide +kernel)) (by decide +kernel))
theorem lX12_169 : mLk RX12 169 yX12_another := Or.inl (okw (in6 231 (by decide +kernel)) (by decide +kernel))
theorem lX12_181 : mLk RX12 181 yX12_isPlace := Or.inl (okw (in7 3 (by decide +kernel)) (by decide +kernel))
theorem lX12_184 : mLk RX12 184 yX12_steps := Or.inl (okw (in7 11 (by decide +kernel)) (by decide +kernel))
theorem lX12_188 : mLk RX12 188 yX12_many := Or.inl (okw (in7 23 (by decide +kernel)) (by decide +kernel))
theorem lX12_191 : mLk RX12 191 yX12_allPlaces := Or.inl (okw (in7 30 (by decide +kernel)) (by decide +kernel))
theorem lX12_194 : mLk RX12 194 yX12_nearAll := Or.inl (okw (in7 34 (by decide +kernel)) (by decide +kernel))
theorem lX12_197 : mLk RX12 197 yX12_parts := Or.inl (okw (in7 26 (by decide +kernel)) (by decide +kernel))
theorem lX12_200 : mLk RX12 200 yX12_girth := Or.inl (okw (in7 38 (by decide +kernel)) (by decide +kernel))
theorem lX12_203 : mLk RX12 203 yX12_dismantle := Or.inl (okw (in7 46 (by decide +kernel)) (by decide +kernel))
theorem lX12_209 : mLk RX12 209 yX12_lesser := Or.inl (okw (in7 54 (by decide +kernel)) (by decide +kernel))
theorem lX12_213 : mLk RX12 213 yX12_greater := Or.inl (okw (in7 57 (by decide +kernel)) (by decide +kernel))
theorem lX12_216 : mLk RX12 216 yX12_isAhead := Or.inl (okw (in7 64 (by decide +kernel)) (by decide +kernel))
theorem lX12_219 : mLk RX12 219 yX12_lines := Or.inl (okw (in7 19 (by decide +kernel)) (by decide +kernel))
theorem lX12_222 : mLk RX12 222 yX12_low := Or.inl (okw (in7 42 (by decide +kernel)) (by decide +kernel))
theorem lX12_225 : mLk RX12 225 yX12_cover := Or.inl (okw (in7 60 (by decide +kernel)) (by decide +kernel))
theorem lX12_231 : mLk RX12 231 yX12_cornerBy := Or.inl (okw (in7 50 (by decide +kernel)) (by decide +kernel))
theorem lX12_240 : mLk RX12 240 yX12_layRows := Or.inl (okw (in7 103 (by decide +kernel)) (by decide +kernel))
theorem lX12_243 : mLk RX12 243 yX12_comes := Or.inl (okw (in7 107 (by decide +kernel)) (by decide +kernel))
theorem lX12_249 : mLk RX12 249 yX12_layGoing := Or.inl (okw (in7 99 (by decide +kernel)) (by decide +kernel))
theorem lX12_253 : mLk RX12 253 yX12_layRunner := Or.inl (okw (in7 111 (by decide +kernel)) (by decide +kernel))
theorem lX12_256 : mLk RX12 256 yX12_leastBehind := Or.inl (okw (in7 119 (by decide +kernel)) (by decide +kernel))
theorem lX12_259 : mLk RX12 259 yX12_runs := Or.inl (okw (in7 115 (by decide +kernel)) (by decide +kernel))
theorem lX12_262 : mLk RX12 262 yX12_greatestOf := Or.inl (okw (in7 127 (by decide +kernel)) (by decide +kernel))
theorem lX12_265 : mLk RX12 265 yX12_solve := Or.inl (okw (in7 95 (by decide +kernel)) (by decide +kernel))
theorem lX12_268 : mLk RX12 268 yX12_startRow := Or.inl (okw (in7 123 (by decide +kernel)) (by decide +kernel))
theorem lX12_271 : mLk RX12 271 yX12_isGame := Or.inl (okw (in7 87 (by decide +kernel)) (by decide +kernel))
theorem lX12_274 : mLk RX12 274 yX12_timeOf := Or.inl (okw (in7 91 (by decide +kernel)) (by decide +kernel))
theorem lX12_289 : mLk RX12 289 yX12_tell := Or.inl (okw (in7 143 (by decide +kernel)) (by decide +kernel))
theorem lX12_292 : mLk RX12 292 yX12_rowTold := Or.inl (okw (in7 147 (by decide +kernel)) (by decide +kernel))
theorem lX12_295 : mLk RX12 295 yX12_refused := Or.inl (okw (in7 155 (by decide +kernel)) (by decide +kernel))
theorem qX12_301 : Cond.constant RX12 301 1103515245 ∈ lw_ok := okw (in7 171 (by decide +kernel)) (by decide +kernel)
theorem lX12_302 : mLk RX12 302 yX12_drawn := Or.inl (okw (in7 167 (by decide +kernel)) (by decide +kernel))
theorem lX12_305 : mLk RX12 305 yX12_bestRow := Or.inl (okw (in7 172 (by decide +kernel)) (by decide +kernel))
theorem lX12_308 : mLk RX12 308 yX12_turns := Or.inl (okw (in7 180 (by decide +kernel)) (by decide +kernel))
theorem lX12_314 : mLk RX12 314 yX12_fits := Or.inl (okw (in7 192 (by decide +kernel)) (by decide +kernel))
theorem lX12_317 : mLk RX12 317 yX12_laySymmetries := Or.inl (okw (in7 188 (by decide +kernel)) (by decide +kernel))
theorem lX12_320 : mLk RX12 320 yX12_holds := Or.inl (okw (in7 212 (by decide +kernel)) (by decide +kernel))
theorem lX12_323 : mLk RX12 323 yX12_isSet := Or.inl (okw (in7 204 (by decide +kernel)) (by decide +kernel))
theorem lX12_326 : mLk RX12 326 yX12_layGuard := Or.inl (okw (in7 208 (by decide +kernel)) (by decide +kernel))
theorem lX12_329 : mLk RX12 329 yX12_darkBehind := Or.inl (okw (in8 4 (by decide +kernel)) (by decide +kernel))
theorem lX12_332 : mLk RX12 332 yX12_leftBehind := Or.inl (okw (in8 0 (by decide +kernel)) (by decide +kernel))
theorem lX12_335 : mLk RX12 335 yX12_bestBegin := Or.inl (okw (in7 232 (by decide +kernel)) (by decide +kernel))
theorem lX12_338 : mLk RX12 338 yX12_leastLeft := Or.inl (okw (in7 236 (by decide +kernel)) (by decide +kernel))
theorem lX12_344 : mLk RX12 344 yX12_layWay := Or.inl (okw (in8 8 (by decide +kernel)) (by decide +kernel))
theorem lX12_347 : mLk RX12 347 yX12_laySweep := Or.inl (okw (in7 228 (by decide +kernel)) (by decide +kernel))
theorem lX12_350 : mLk RX12 350 yX12_isSweep := Or.inl (okw (in7 224 (by decide +kernel)) (by decide +kernel))
theorem lX12_371 : mLk RX12 371 yX12_keep := Or.inl (okw (in8 20 (by decide +kernel)) (by decide +kernel))
theorem lX12_380 : mLk RX12 380 yX12_sceneRow := Or.inl (okw (in8 36 (by decide +kernel)) (by decide +kernel))
theorem lX12_383 : mLk RX12 383 yX12_isCaught := Or.inl (okw (in8 28 (by decide +kernel)) (by decide +kernel))
theorem lX12_386 : mLk RX12 386 yX12_worthNow := Or.inl (okw (in8 32 (by decide +kernel)) (by decide +kernel))
theorem lX12_389 : mLk RX12 389 yX12_bestPlace := Or.inl (okw (in8 44 (by decide +kernel)) (by decide +kernel))
theorem lX12_392 : mLk RX12 392 yX12_stand := Or.inl (okw (in8 56 (by decide +kernel)) (by decide +kernel))
theorem lX12_395 : mLk RX12 395 yX12_becomeLeft := Or.inl (okw (in8 80 (by decide +kernel)) (by decide +kernel))
theorem qJ6_265 : Cond.constant RJ6 265 1431655765 ∈ lw_ok := okw (in3 100 (by decide +kernel)) (by decide +kernel)
theorem qJ6_266 : Cond.constant RJ6 266 858993459 ∈ lw_ok := okw (in3 101 (by decide +kernel)) (by decide +kernel)
theorem qJ6_267 : Cond.constant RJ6 267 252645135 ∈ lw_ok := okw (in3 102 (by decide +kernel)) (by decide +kernel)
theorem lL_7 : mLk RL 7 yX11_distance := Or.inl (okw (in5 141 (by decide +kernel)) (by decide +kernel))
theorem lL_15 : mLk RL 15 yX11_corner := Or.inl (okw (in5 214 (by decide +kernel)) (by decide +kernel))
theorem kL_8 : Cond.classLink RL 8 RX11 ∈ lw_ok := okw (in1 25 (by decide +kernel)) (by decide +kernel)
theorem lL_19 : mLk RL 19 yX11_init := Or.inl (okw (in1 27 (by decide +kernel)) (by decide +kernel))
theorem kL_20 : Cond.classLink RL 20 RX12 ∈ lw_ok := okw (in5 219 (by decide +kernel)) (by decide +kernel)
theorem lL_22 : mLk RL 22 yX12_init := Or.inl (okw (in5 221 (by decide +kernel)) (by decide +kernel))
theorem lL_23 : mLk RL 23 yX11_feed := Or.inl (okw (in2 146 (by decide +kernel)) (by decide +kernel))
theorem lL_27 : mLk RL 27 yX12_feed := Or.inl (okw (in6 164 (by decide +kernel)) (by decide +kernel))
theorem lL_28 : mLk RL 28 yX11_end := Or.inl (okw (in2 154 (by decide +kernel)) (by decide +kernel))
theorem lL_31 : mLk RL 31 yX12_end := Or.inl (okw (in6 172 (by decide +kernel)) (by decide +kernel))
theorem lL_32 : mLk RL 32 yX11_net := Or.inl (okw (in2 158 (by decide +kernel)) (by decide +kernel))
theorem lL_36 : mLk RL 36 yX12_net := Or.inl (okw (in6 179 (by decide +kernel)) (by decide +kernel))
theorem lL_37 : mLk RL 37 yX11_fault := Or.inl (okw (in3 81 (by decide +kernel)) (by decide +kernel))
theorem lL_40 : mLk RL 40 yX12_fault := Or.inl (okw (in6 235 (by decide +kernel)) (by decide +kernel))
theorem lL_41 : mLk RL 41 yX11_about := Or.inl (okw (in3 85 (by decide +kernel)) (by decide +kernel))
theorem lL_44 : mLk RL 44 yX12_about := Or.inl (okw (in7 15 (by decide +kernel)) (by decide +kernel))
theorem lL_45 : mLk RL 45 yX11_near := Or.inl (okw (in3 165 (by decide +kernel)) (by decide +kernel))
theorem lL_48 : mLk RL 48 yX12_near := Or.inl (okw (in6 239 (by decide +kernel)) (by decide +kernel))
theorem lL_49 : mLk RL 49 yL_distance := Or.inl (okw (in5 137 (by decide +kernel)) (by decide +kernel))
theorem lL_54 : mLk RL 54 yX12_distance := Or.inl (okw (in7 7 (by decide +kernel)) (by decide +kernel))
theorem lL_55 : mLk RL 55 yX12_thrown := Or.inl (okw (in6 160 (by decide +kernel)) (by decide +kernel))
theorem lL_58 : mLk RL 58 yL_corner := Or.inl (okw (in5 211 (by decide +kernel)) (by decide +kernel))
theorem lL_61 : mLk RL 61 yX12_corner := Or.inl (okw (in7 67 (by decide +kernel)) (by decide +kernel))
theorem lL_62 : mLk RL 62 yX11_goes := Or.inl (okw (in3 171 (by decide +kernel)) (by decide +kernel))
theorem lL_65 : mLk RL 65 yX12_goes := Or.inl (okw (in7 71 (by decide +kernel)) (by decide +kernel))
theorem lL_66 : mLk RL 66 yX11_left := Or.inl (okw (in3 175 (by decide +kernel)) (by decide +kernel))
theorem lL_69 : mLk RL 69 yX12_left := Or.inl (okw (in7 75 (by decide +kernel)) (by decide +kernel))
theorem lL_70 : mLk RL 70 yX11_image := Or.inl (okw (in3 179 (by decide +kernel)) (by decide +kernel))
theorem lL_73 : mLk RL 73 yX12_image := Or.inl (okw (in7 79 (by decide +kernel)) (by decide +kernel))
theorem lL_74 : mLk RL 74 yX11_fewest := Or.inl (okw (in3 187 (by decide +kernel)) (by decide +kernel))
theorem lL_77 : mLk RL 77 yX12_fewest := Or.inl (okw (in7 131 (by decide +kernel)) (by decide +kernel))
theorem lL_78 : mLk RL 78 yX11_time := Or.inl (okw (in4 37 (by decide +kernel)) (by decide +kernel))
theorem lL_81 : mLk RL 81 yX12_time := Or.inl (okw (in7 83 (by decide +kernel)) (by decide +kernel))
theorem lL_82 : mLk RL 82 yX11_start := Or.inl (okw (in4 41 (by decide +kernel)) (by decide +kernel))
theorem lL_86 : mLk RL 86 yX12_start := Or.inl (okw (in7 135 (by decide +kernel)) (by decide +kernel))
theorem lL_87 : mLk RL 87 yX11_sure := Or.inl (okw (in4 49 (by decide +kernel)) (by decide +kernel))
theorem lL_91 : mLk RL 91 yX12_sure := Or.inl (okw (in7 139 (by decide +kernel)) (by decide +kernel))
theorem lL_92 : mLk RL 92 yX11_refusals := Or.inl (okw (in4 70 (by decide +kernel)) (by decide +kernel))
theorem lL_95 : mLk RL 95 yX12_refusals := Or.inl (okw (in7 151 (by decide +kernel)) (by decide +kernel))
theorem lL_96 : mLk RL 96 yX11_refusal := Or.inl (okw (in4 74 (by decide +kernel)) (by decide +kernel))
theorem lL_99 : mLk RL 99 yX12_refusal := Or.inl (okw (in7 159 (by decide +kernel)) (by decide +kernel))
theorem lL_100 : mLk RL 100 yX11_trial := Or.inl (okw (in4 82 (by decide +kernel)) (by decide +kernel))
theorem lL_103 : mLk RL 103 yX12_trial := Or.inl (okw (in7 163 (by decide +kernel)) (by decide +kernel))
theorem lL_104 : mLk RL 104 yX11_helps := Or.inl (okw (in4 110 (by decide +kernel)) (by decide +kernel))
theorem lL_107 : mLk RL 107 yX12_helps := Or.inl (okw (in7 176 (by decide +kernel)) (by decide +kernel))
theorem lL_108 : mLk RL 108 yX11_symmetries := Or.inl (okw (in4 119 (by decide +kernel)) (by decide +kernel))
theorem lL_111 : mLk RL 111 yX12_symmetries := Or.inl (okw (in7 184 (by decide +kernel)) (by decide +kernel))
theorem lL_112 : mLk RL 112 yX11_alike := Or.inl (okw (in4 143 (by decide +kernel)) (by decide +kernel))
theorem lL_115 : mLk RL 115 yX12_alike := Or.inl (okw (in7 196 (by decide +kernel)) (by decide +kernel))
theorem lL_116 : mLk RL 116 yX11_guard := Or.inl (okw (in4 151 (by decide +kernel)) (by decide +kernel))
theorem lL_119 : mLk RL 119 yX12_guard := Or.inl (okw (in7 200 (by decide +kernel)) (by decide +kernel))
theorem lL_120 : mLk RL 120 yX11_guards := Or.inl (okw (in4 179 (by decide +kernel)) (by decide +kernel))
theorem lL_123 : mLk RL 123 yX12_guards := Or.inl (okw (in7 216 (by decide +kernel)) (by decide +kernel))
theorem lL_124 : mLk RL 124 yX11_sweep := Or.inl (okw (in4 187 (by decide +kernel)) (by decide +kernel))
theorem lL_127 : mLk RL 127 yX12_sweep := Or.inl (okw (in7 220 (by decide +kernel)) (by decide +kernel))
theorem lL_128 : mLk RL 128 yX11_swept := Or.inl (okw (in4 236 (by decide +kernel)) (by decide +kernel))
theorem lL_131 : mLk RL 131 yX12_swept := Or.inl (okw (in8 12 (by decide +kernel)) (by decide +kernel))
theorem lL_132 : mLk RL 132 yX11_begin := Or.inl (okw (in5 5 (by decide +kernel)) (by decide +kernel))
theorem lL_135 : mLk RL 135 yX12_begin := Or.inl (okw (in8 16 (by decide +kernel)) (by decide +kernel))
theorem lL_136 : mLk RL 136 yX11_scene := Or.inl (okw (in5 23 (by decide +kernel)) (by decide +kernel))
theorem lL_139 : mLk RL 139 yX12_scene := Or.inl (okw (in8 24 (by decide +kernel)) (by decide +kernel))
theorem lL_140 : mLk RL 140 yX11_best := Or.inl (okw (in5 41 (by decide +kernel)) (by decide +kernel))
theorem lL_143 : mLk RL 143 yX12_best := Or.inl (okw (in8 40 (by decide +kernel)) (by decide +kernel))
theorem lL_144 : mLk RL 144 yX11_safe := Or.inl (okw (in5 54 (by decide +kernel)) (by decide +kernel))
theorem lL_147 : mLk RL 147 yX12_safe := Or.inl (okw (in8 48 (by decide +kernel)) (by decide +kernel))
theorem lL_148 : mLk RL 148 yX11_hunt := Or.inl (okw (in5 63 (by decide +kernel)) (by decide +kernel))
theorem lL_152 : mLk RL 152 yX12_hunt := Or.inl (okw (in8 52 (by decide +kernel)) (by decide +kernel))
theorem lL_153 : mLk RL 153 yX11_run := Or.inl (okw (in5 77 (by decide +kernel)) (by decide +kernel))
theorem lL_157 : mLk RL 157 yX12_run := Or.inl (okw (in8 60 (by decide +kernel)) (by decide +kernel))
theorem lL_158 : mLk RL 158 yX11_play := Or.inl (okw (in5 86 (by decide +kernel)) (by decide +kernel))
theorem lL_161 : mLk RL 161 yX12_play := Or.inl (okw (in8 64 (by decide +kernel)) (by decide +kernel))
theorem lL_162 : mLk RL 162 yX11_toggle := Or.inl (okw (in5 94 (by decide +kernel)) (by decide +kernel))
theorem lL_165 : mLk RL 165 yX12_toggle := Or.inl (okw (in8 72 (by decide +kernel)) (by decide +kernel))
theorem lL_166 : mLk RL 166 yX11_become := Or.inl (okw (in5 103 (by decide +kernel)) (by decide +kernel))
theorem lL_169 : mLk RL 169 yX12_become := Or.inl (okw (in8 76 (by decide +kernel)) (by decide +kernel))
theorem lL_170 : mLk RL 170 yX11_undo := Or.inl (okw (in5 125 (by decide +kernel)) (by decide +kernel))
theorem lL_174 : mLk RL 174 yX12_undo := Or.inl (okw (in8 68 (by decide +kernel)) (by decide +kernel))

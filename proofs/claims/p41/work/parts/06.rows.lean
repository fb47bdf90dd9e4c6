def isK (w : Wp) (k K : Nat) : Prop := k < wN w ∧ wk w k = K
def oN (w : Wp) (k : Nat) : Prop := isK w k 0 ∧ isK w (k + 1) 10 ∧ isK w (k + 2) 10 ∧ isK w (k + 3) 10 ∧ isK w (k + 4) 11 ∧ isK w (k + 5) 2 ∧ isK w (k + 6) 12 ∧ isK w (k + 7) 13 ∧ isK w (k + 8) 14
def oS (w : Wp) (k : Nat) : Prop := isK w k 4 ∧ isK w (k + 1) 18
def oT (w : Wp) (k : Nat) : Prop := isK w k 5 ∧ isK w (k + 1) 17 ∧ oN w (k + 2)
def oR (w : Wp) (k : Nat) : Prop := isK w k 6 ∧ oN w (k + 1) ∧ isK w (k + 10) 15
def oE (w : Wp) (k : Nat) : Prop := isK w k 3 ∧ isK w (k + 1) 21 ∧ isK w (k + 2) 16 ∧ isK w (k + 3) 16 ∧ ∀ i, i < 5 → isK w (k + 1 + (3 + i)) 2
def oO (w : Wp) (k : Nat) : Prop := isK w k 1 ∧ oN w (k + 1) ∧ isK w (k + 10) 22 ∧ ∀ i, i < 9 → isK w (k + 10 + (1 + i)) 2
def oW (w : Wp) (k : Nat) : Prop := isK w k 7 ∧ oT w (k + 1) ∧ oN w (k + 12) ∧ oR w (k + 21) ∧ oE w (k + 32) ∧ oO w (k + 41) ∧ isK w (k + 61) 2 ∧ isK w (k + 62) 20 ∧ isK w (k + 63) 19 ∧ isK w (k + 64) 23 ∧ (∀ i, i < 2 → oN w (k + 62 + (3 + 9 * i))) ∧ (∀ i, i < 4 → oS w (k + 64 + (19 + 2 * i)))
def oM (w : Wp) (k : Nat) : Prop := isK w k 8 ∧ isK w (k + 1) 30 ∧ isK w (k + 2) 31 ∧ isK w (k + 3) 32 ∧ isK w (k + 4) 33 ∧ isK w (k + 5) 34 ∧ isK w (k + 6) 35 ∧ isK w (k + 7) 36 ∧ isK w (k + 8) 37 ∧ isK w (k + 9) 38
theorem hin0 : ∀ x ∈ u_ws RX0 TX0 18, x ∈ lw_g := by
  show ∀ x ∈ ([Cond.laysFinal "StarWalk$Night" "StarWalk$Night" "from" "[I", Cond.laysFinal "StarWalk$Night" "StarWalk$Night" "to" "[I", Cond.laysFinal "StarWalk$Night" "StarWalk$Night" "off" "[I", Cond.lays "StarWalk$Night" "StarWalk$Night" "stars" "I", Cond.lays "StarWalk$Night" "StarWalk$Night" "known" "I", Cond.laysFinal "StarWalk$Night" "StarWalk$Night" "kinds" "[I", Cond.lays "StarWalk$Night" "StarWalk$Night" "walkers" "I", Cond.lays "StarWalk$Night" "StarWalk$Night" "inFront" "I", Cond.lays "StarWalk$Night" "StarWalk$Night" "wellMiles" "I", Cond.lays "StarWalk$Night" "StarWalk$Night" "broad" "I", Cond.lays "StarWalk$Night" "StarWalk$Night" "till" "I", Cond.lays "StarWalk$Night" "StarWalk$Night" "clouds" "I", Cond.laysFinal "StarWalk$Night" "StarWalk$Night" "place" "LStarWalk$Place;", Cond.laysFinal "StarWalk$Night" "StarWalk$Night" "plannedAims" "[I", Cond.lays "StarWalk$Night" "StarWalk$Night" "planned" "I", Cond.laysFinal "StarWalk$Night" "StarWalk$Night" "seenBehind" "[I", Cond.laysFinal "StarWalk$Night" "StarWalk$Night" "seenSide" "[I", Cond.lays "StarWalk$Night" "StarWalk$Night" "seen" "I"] : List Cond), x ∈ lw_g
  exact List.forall_mem_cons.mpr ⟨lg_in mw_1_132 rfl, List.forall_mem_cons.mpr ⟨lg_in mw_1_134 rfl, List.forall_mem_cons.mpr ⟨lg_in mw_1_136 rfl, List.forall_mem_cons.mpr ⟨lg_in mw_1_138 rfl, List.forall_mem_cons.mpr ⟨lg_in mw_1_140 rfl, List.forall_mem_cons.mpr ⟨lg_in mw_1_142 rfl, List.forall_mem_cons.mpr ⟨lg_in mw_1_144 rfl, List.forall_mem_cons.mpr ⟨lg_in mw_1_146 rfl, List.forall_mem_cons.mpr ⟨lg_in mw_1_148 rfl, List.forall_mem_cons.mpr ⟨lg_in mw_1_150 rfl, List.forall_mem_cons.mpr ⟨lg_in mw_1_152 rfl, List.forall_mem_cons.mpr ⟨lg_in mw_1_154 rfl, List.forall_mem_cons.mpr ⟨lg_in mw_1_156 rfl, List.forall_mem_cons.mpr ⟨lg_in mw_1_158 rfl, List.forall_mem_cons.mpr ⟨lg_in mw_1_160 rfl, List.forall_mem_cons.mpr ⟨lg_in mw_1_162 rfl, List.forall_mem_cons.mpr ⟨lg_in mw_1_164 rfl, List.forall_mem_cons.mpr ⟨lg_in mw_1_166 rfl, fun _ h => absurd h List.not_mem_nil⟩⟩⟩⟩⟩⟩⟩⟩⟩⟩⟩⟩⟩⟩⟩⟩⟩⟩
theorem hin1 : ∀ x ∈ u_ws RX1 TX1 4, x ∈ lw_g := by
  show ∀ x ∈ ([Cond.laysFinal "StarWalk$Odds" "StarWalk$Odds" "night" "LStarWalk$Night;", Cond.laysFinal "StarWalk$Odds" "StarWalk$Odds" "places" "[LStarWalk$Place;", Cond.lays "StarWalk$Odds" "StarWalk$Odds" "tenths" "I", Cond.lays "StarWalk$Odds" "StarWalk$Odds" "ofMiles" "Z"] : List Cond), x ∈ lw_g
  exact List.forall_mem_cons.mpr ⟨lg_in mw_2_35 rfl, List.forall_mem_cons.mpr ⟨lg_in mw_2_37 rfl, List.forall_mem_cons.mpr ⟨lg_in mw_2_39 rfl, List.forall_mem_cons.mpr ⟨lg_in mw_2_41 rfl, fun _ h => absurd h List.not_mem_nil⟩⟩⟩⟩
theorem hin2 : ∀ x ∈ u_ws RX2 TX2 4, x ∈ lw_g := by
  show ∀ x ∈ ([Cond.lays "StarWalk$Place" "StarWalk$Place" "hour" "I", Cond.lays "StarWalk$Place" "StarWalk$Place" "miles" "I", Cond.lays "StarWalk$Place" "StarWalk$Place" "side" "I", Cond.lays "StarWalk$Place" "StarWalk$Place" "water" "I"] : List Cond), x ∈ lw_g
  exact List.forall_mem_cons.mpr ⟨lg_in mw_1_62 rfl, List.forall_mem_cons.mpr ⟨lg_in mw_1_64 rfl, List.forall_mem_cons.mpr ⟨lg_in mw_1_66 rfl, List.forall_mem_cons.mpr ⟨lg_in mw_1_68 rfl, fun _ h => absurd h List.not_mem_nil⟩⟩⟩⟩
theorem hin3 : ∀ x ∈ u_ws RX3 TX3 6, x ∈ lw_g := by
  show ∀ x ∈ ([Cond.laysFinal "StarWalk$Search" "StarWalk$Search" "places" "[LStarWalk$Place;", Cond.laysFinal "StarWalk$Search" "StarWalk$Search" "row" "[I", Cond.laysFinal "StarWalk$Search" "StarWalk$Search" "bestRow" "[I", Cond.lays "StarWalk$Search" "StarWalk$Search" "bestSide" "I", Cond.lays "StarWalk$Search" "StarWalk$Search" "bestMiles" "I", Cond.lays "StarWalk$Search" "StarWalk$Search" "found" "Z"] : List Cond), x ∈ lw_g
  exact List.forall_mem_cons.mpr ⟨lg_in mw_2_8 rfl, List.forall_mem_cons.mpr ⟨lg_in mw_2_10 rfl, List.forall_mem_cons.mpr ⟨lg_in mw_2_12 rfl, List.forall_mem_cons.mpr ⟨lg_in mw_2_14 rfl, List.forall_mem_cons.mpr ⟨lg_in mw_2_16 rfl, List.forall_mem_cons.mpr ⟨lg_in mw_2_18 rfl, fun _ h => absurd h List.not_mem_nil⟩⟩⟩⟩⟩⟩
theorem hin4 : ∀ x ∈ u_ws RX4 TX4 3, x ∈ lw_g := by
  show ∀ x ∈ ([Cond.lays "StarWalk$Sheet" "StarWalk$Sheet" "lane" "I", Cond.lays "StarWalk$Sheet" "StarWalk$Sheet" "size" "I", Cond.laysFinal "StarWalk$Sheet" "StarWalk$Sheet" "cells" "[I"] : List Cond), x ∈ lw_g
  exact List.forall_mem_cons.mpr ⟨lg_in mw_2_60 rfl, List.forall_mem_cons.mpr ⟨lg_in mw_2_62 rfl, List.forall_mem_cons.mpr ⟨lg_in mw_2_64 rfl, fun _ h => absurd h List.not_mem_nil⟩⟩⟩
theorem hin5 : ∀ x ∈ u_ws RX5 TX5 10, x ∈ lw_g := by
  show ∀ x ∈ ([Cond.laysFinal "StarWalk$Tape" "StarWalk$Tape" "bytes" "[B", Cond.lays "StarWalk$Tape" "StarWalk$Tape" "length" "I", Cond.laysFinal "StarWalk$Tape" "StarWalk$Tape" "draft" "LStarWalk$Night;", Cond.lays "StarWalk$Tape" "StarWalk$Tape" "kind" "I", Cond.lays "StarWalk$Tape" "StarWalk$Tape" "first" "I", Cond.lays "StarWalk$Tape" "StarWalk$Tape" "behind" "I", Cond.lays "StarWalk$Tape" "StarWalk$Tape" "value" "I", Cond.lays "StarWalk$Tape" "StarWalk$Tape" "linesTold" "I", Cond.lays "StarWalk$Tape" "StarWalk$Tape" "found" "I", Cond.lays "StarWalk$Tape" "StarWalk$Tape" "foundAt" "I"] : List Cond), x ∈ lw_g
  exact List.forall_mem_cons.mpr ⟨lg_in mw_1_183 rfl, List.forall_mem_cons.mpr ⟨lg_in mw_1_185 rfl, List.forall_mem_cons.mpr ⟨lg_in mw_1_187 rfl, List.forall_mem_cons.mpr ⟨lg_in mw_1_189 rfl, List.forall_mem_cons.mpr ⟨lg_in mw_1_191 rfl, List.forall_mem_cons.mpr ⟨lg_in mw_1_193 rfl, List.forall_mem_cons.mpr ⟨lg_in mw_1_195 rfl, List.forall_mem_cons.mpr ⟨lg_in mw_1_197 rfl, List.forall_mem_cons.mpr ⟨lg_in mw_1_199 rfl, List.forall_mem_cons.mpr ⟨lg_in mw_1_201 rfl, fun _ h => absurd h List.not_mem_nil⟩⟩⟩⟩⟩⟩⟩⟩⟩⟩
theorem hin6 : ∀ x ∈ u_ws RX6 TX6 4, x ∈ lw_g := by
  show ∀ x ∈ ([Cond.laysFinal "StarWalk$Trial" "StarWalk$Trial" "night" "LStarWalk$Night;", Cond.laysFinal "StarWalk$Trial" "StarWalk$Trial" "sides" "[I", Cond.lays "StarWalk$Trial" "StarWalk$Trial" "blindSteps" "I", Cond.lays "StarWalk$Trial" "StarWalk$Trial" "firstRefused" "I"] : List Cond), x ∈ lw_g
  exact List.forall_mem_cons.mpr ⟨lg_in mw_1_221 rfl, List.forall_mem_cons.mpr ⟨lg_in mw_1_223 rfl, List.forall_mem_cons.mpr ⟨lg_in mw_1_225 rfl, List.forall_mem_cons.mpr ⟨lg_in mw_1_227 rfl, fun _ h => absurd h List.not_mem_nil⟩⟩⟩⟩
theorem hin7 : ∀ x ∈ u_ws RX7 TX7 11, x ∈ lw_g := by
  show ∀ x ∈ ([Cond.laysFinal "StarWalk" "StarWalk" "tape" "LStarWalk$Tape;", Cond.laysFinal "StarWalk" "StarWalk" "now" "LStarWalk$Night;", Cond.laysFinal "StarWalk" "StarWalk" "trial" "LStarWalk$Trial;", Cond.laysFinal "StarWalk" "StarWalk" "search" "LStarWalk$Search;", Cond.laysFinal "StarWalk" "StarWalk" "odds" "LStarWalk$Odds;", Cond.laysFinal "StarWalk" "StarWalk" "scratch" "LStarWalk$Place;", Cond.laysFinal "StarWalk" "StarWalk" "images" "[LStarWalk$Night;", Cond.laysFinal "StarWalk" "StarWalk" "kept" "[Z", Cond.laysFinal "StarWalk" "StarWalk" "sheets" "[LStarWalk$Sheet;", Cond.lays "StarWalk" "StarWalk" "latestFault" "I", Cond.lays "StarWalk" "StarWalk" "latestTear" "I"] : List Cond), x ∈ lw_g
  exact List.forall_mem_cons.mpr ⟨lg_in mw_2_79 rfl, List.forall_mem_cons.mpr ⟨lg_in mw_2_81 rfl, List.forall_mem_cons.mpr ⟨lg_in mw_2_83 rfl, List.forall_mem_cons.mpr ⟨lg_in mw_2_85 rfl, List.forall_mem_cons.mpr ⟨lg_in mw_2_87 rfl, List.forall_mem_cons.mpr ⟨lg_in mw_2_89 rfl, List.forall_mem_cons.mpr ⟨lg_in mw_2_91 rfl, List.forall_mem_cons.mpr ⟨lg_in mw_2_93 rfl, List.forall_mem_cons.mpr ⟨lg_in mw_2_95 rfl, List.forall_mem_cons.mpr ⟨lg_in mw_2_97 rfl, List.forall_mem_cons.mpr ⟨lg_in mw_2_99 rfl, fun _ h => absurd h List.not_mem_nil⟩⟩⟩⟩⟩⟩⟩⟩⟩⟩⟩
theorem hin8 : ∀ x ∈ u_ws RX8 TX8 31, x ∈ lw_g := by
  show ∀ x ∈ ([Cond.laysFinal "StarWalkModel" "StarWalkModel" "st" "[I", Cond.laysFinal "StarWalkModel" "StarWalkModel" "at" "[I", Cond.laysFinal "StarWalkModel" "StarWalkModel" "isKept" "[Z", Cond.lays "StarWalkModel" "StarWalkModel" "stars" "I", Cond.lays "StarWalkModel" "StarWalkModel" "walkers" "I", Cond.laysFinal "StarWalkModel" "StarWalkModel" "draft" "[I", Cond.lays "StarWalkModel" "StarWalkModel" "dStars" "I", Cond.lays "StarWalkModel" "StarWalkModel" "dWalkers" "I", Cond.lays "StarWalkModel" "StarWalkModel" "knownOnes" "I", Cond.lays "StarWalkModel" "StarWalkModel" "toldLines" "I", Cond.lays "StarWalkModel" "StarWalkModel" "highest" "I", Cond.laysFinal "StarWalkModel" "StarWalkModel" "tape" "[I", Cond.lays "StarWalkModel" "StarWalkModel" "taped" "I", Cond.lays "StarWalkModel" "StarWalkModel" "pos" "I", Cond.lays "StarWalkModel" "StarWalkModel" "from" "I", Cond.lays "StarWalkModel" "StarWalkModel" "sort" "I", Cond.lays "StarWalkModel" "StarWalkModel" "value" "I", Cond.lays "StarWalkModel" "StarWalkModel" "fault" "I", Cond.lays "StarWalkModel" "StarWalkModel" "wrongAt" "I", Cond.lays "StarWalkModel" "StarWalkModel" "blindSteps" "I", Cond.lays "StarWalkModel" "StarWalkModel" "passedOver" "I", Cond.lays "StarWalkModel" "StarWalkModel" "bestSide" "I", Cond.lays "StarWalkModel" "StarWalkModel" "bestMiles" "I", Cond.lays "StarWalkModel" "StarWalkModel" "wellSum" "J", Cond.lays "StarWalkModel" "StarWalkModel" "milesSum" "J", Cond.lays "StarWalkModel" "StarWalkModel" "allWays" "J", Cond.laysFinal "StarWalkModel" "StarWalkModel" "lanes" "[I", Cond.laysFinal "StarWalkModel" "StarWalkModel" "sizes" "[I", Cond.laysFinal "StarWalkModel" "StarWalkModel" "cells" "[I", Cond.lays "StarWalkModel" "StarWalkModel" "torn" "I", Cond.laysFinal "StarWalkModel" "StarWalkModel" "had" "[I"] : List Cond), x ∈ lw_g
  exact List.forall_mem_cons.mpr ⟨lg_in mw_4_201 rfl, List.forall_mem_cons.mpr ⟨lg_in mw_4_203 rfl, List.forall_mem_cons.mpr ⟨lg_in mw_4_205 rfl, List.forall_mem_cons.mpr ⟨lg_in mw_4_207 rfl, List.forall_mem_cons.mpr ⟨lg_in mw_4_209 rfl, List.forall_mem_cons.mpr ⟨lg_in mw_4_211 rfl, List.forall_mem_cons.mpr ⟨lg_in mw_4_213 rfl, List.forall_mem_cons.mpr ⟨lg_in mw_4_215 rfl, List.forall_mem_cons.mpr ⟨lg_in mw_4_217 rfl, List.forall_mem_cons.mpr ⟨lg_in mw_4_219 rfl, List.forall_mem_cons.mpr ⟨lg_in mw_4_221 rfl, List.forall_mem_cons.mpr ⟨lg_in mw_4_223 rfl, List.forall_mem_cons.mpr ⟨lg_in mw_4_225 rfl, List.forall_mem_cons.mpr ⟨lg_in mw_4_227 rfl, List.forall_mem_cons.mpr ⟨lg_in mw_4_229 rfl, List.forall_mem_cons.mpr ⟨lg_in mw_4_231 rfl, List.forall_mem_cons.mpr ⟨lg_in mw_4_233 rfl, List.forall_mem_cons.mpr ⟨lg_in mw_4_235 rfl, List.forall_mem_cons.mpr ⟨lg_in mw_4_237 rfl, List.forall_mem_cons.mpr ⟨lg_in mw_4_239 rfl, List.forall_mem_cons.mpr ⟨lg_in mw_5_1 rfl, List.forall_mem_cons.mpr ⟨lg_in mw_5_3 rfl, List.forall_mem_cons.mpr ⟨lg_in mw_5_5 rfl, List.forall_mem_cons.mpr ⟨lg_in mw_5_7 rfl, List.forall_mem_cons.mpr ⟨lg_in mw_5_9 rfl, List.forall_mem_cons.mpr ⟨lg_in mw_5_11 rfl, List.forall_mem_cons.mpr ⟨lg_in mw_5_13 rfl, List.forall_mem_cons.mpr ⟨lg_in mw_5_15 rfl, List.forall_mem_cons.mpr ⟨lg_in mw_5_17 rfl, List.forall_mem_cons.mpr ⟨lg_in mw_5_19 rfl, List.forall_mem_cons.mpr ⟨lg_in mw_5_21 rfl, fun _ h => absurd h List.not_mem_nil⟩⟩⟩⟩⟩⟩⟩⟩⟩⟩⟩⟩⟩⟩⟩⟩⟩⟩⟩⟩⟩⟩⟩⟩⟩⟩⟩⟩⟩⟩⟩
section RW
variable {p : Program} {l : Launch} {e : Env} {R : Room} {s : State} {m : MethodId} {args : Array Value} {below : List Frame} {meth : Method} {c : Code} {H : Heap} {locs : List Loc} {cells slots : Nat} {Q : State → Prop}
variable {cc : ByteArray} {pc : Nat} {ls : Array Slot} {rest : List Value} {w : Wp} {g : Nat → Nat → Int32} {v : St} {H0 : Heap} {nL : Nat} {own : String} {k index : Nat}
theorem g_Night_from (E : En w p m c cc nL s args own) (I : Wo w g H0 v H locs) (hr : isK w k 0) (hl : Cond.fieldLink own index "StarWalk$Night" "from" "[I" ∈ lw_tbl) (hdg : decode cc pc = .ok (.getfield index, 3)) (kk : W p l e R s m args below meth c H locs cells slots Q (F0 m (pc + 3) ls (.ref (wq w (k + 1)) :: rest))) : W p l e R s m args below meth c H locs cells slots Q (F0 m pc ls (.ref (wq w k) :: rest)) := gF E I hin0 hr.1 ((ce_o hr.2).trans rfl) rfl 0 (by decide) (Ew E hl rfl) rfl rfl hdg kk
theorem g_Night_to (E : En w p m c cc nL s args own) (I : Wo w g H0 v H locs) (hr : isK w k 0) (hl : Cond.fieldLink own index "StarWalk$Night" "to" "[I" ∈ lw_tbl) (hdg : decode cc pc = .ok (.getfield index, 3)) (kk : W p l e R s m args below meth c H locs cells slots Q (F0 m (pc + 3) ls (.ref (wq w (k + 2)) :: rest))) : W p l e R s m args below meth c H locs cells slots Q (F0 m pc ls (.ref (wq w k) :: rest)) := gF E I hin0 hr.1 ((ce_o hr.2).trans rfl) rfl 1 (by decide) (Ew E hl rfl) rfl rfl hdg kk
theorem g_Night_off (E : En w p m c cc nL s args own) (I : Wo w g H0 v H locs) (hr : isK w k 0) (hl : Cond.fieldLink own index "StarWalk$Night" "off" "[I" ∈ lw_tbl) (hdg : decode cc pc = .ok (.getfield index, 3)) (kk : W p l e R s m args below meth c H locs cells slots Q (F0 m (pc + 3) ls (.ref (wq w (k + 3)) :: rest))) : W p l e R s m args below meth c H locs cells slots Q (F0 m pc ls (.ref (wq w k) :: rest)) := gF E I hin0 hr.1 ((ce_o hr.2).trans rfl) rfl 2 (by decide) (Ew E hl rfl) rfl rfl hdg kk
theorem g_Night_stars (E : En w p m c cc nL s args own) (I : Wo w g H0 v H locs) (hr : isK w k 0) (hl : Cond.fieldLink own index "StarWalk$Night" "stars" "I" ∈ lw_tbl) (hdg : decode cc pc = .ok (.getfield index, 3)) (kk : W p l e R s m args below meth c H locs cells slots Q (F0 m (pc + 3) ls (.int (v.1 k 3) :: rest))) : W p l e R s m args below meth c H locs cells slots Q (F0 m pc ls (.ref (wq w k) :: rest)) := gF E I hin0 hr.1 ((ce_o hr.2).trans rfl) rfl 3 (by decide) (Ew E hl rfl) rfl rfl hdg kk
theorem p_Night_stars (E : En w p m c cc nL s args own) (I : Wo w g H0 v H locs) (hr : isK w k 0) (hl : Cond.fieldLink own index "StarWalk$Night" "stars" "I" ∈ lw_tbl) {x : Int32} (hx : 0 ≤ x.toInt ∧ x.toInt ≤ 5) (hdg : decode cc pc = .ok (.putfield index, 3)) (kk : ∀ (H1 : Heap) (locs1 : List Loc), Wo w g H0 (up1 v k 3 x) H1 locs1 → W p l e R s m args below meth c H1 locs1 cells slots Q (F0 m (pc + 3) ls rest)) : W p l e R s m args below meth c H locs cells slots Q (F0 m pc ls (.int x :: .ref (wq w k) :: rest)) := pF E I hin0 tyX0 tyX0_ok nmX0 hr.1 ((ce_o hr.2).trans rfl) rfl 3 (by decide) (Ew E hl rfl) rfl rfl (ty := .int) (by decide +kernel) rfl rfl (by show 3 < 18; decide) (v' := up1 v k 3 x) (by rw [ce_o hr.2, up1_k]; rfl) (up1_o v k 3 x) (fun _ _ => rfl) (I.2.2.put hr.2 (by simp only [okk]; omega) rfl) hdg kk
theorem r_Night_stars (I : Wo w g H0 v H locs) (hr : isK w k 0) : 0 ≤ (v.1 k 3).toInt ∧ (v.1 k 3).toInt ≤ 5 := by
  have h := (I.2.2 k 3).1
  rw [hr.2] at h
  simpa [okk] using h
theorem g_Night_known (E : En w p m c cc nL s args own) (I : Wo w g H0 v H locs) (hr : isK w k 0) (hl : Cond.fieldLink own index "StarWalk$Night" "known" "I" ∈ lw_tbl) (hdg : decode cc pc = .ok (.getfield index, 3)) (kk : W p l e R s m args below meth c H locs cells slots Q (F0 m (pc + 3) ls (.int (v.1 k 4) :: rest))) : W p l e R s m args below meth c H locs cells slots Q (F0 m pc ls (.ref (wq w k) :: rest)) := gF E I hin0 hr.1 ((ce_o hr.2).trans rfl) rfl 4 (by decide) (Ew E hl rfl) rfl rfl hdg kk
theorem p_Night_known (E : En w p m c cc nL s args own) (I : Wo w g H0 v H locs) (hr : isK w k 0) (hl : Cond.fieldLink own index "StarWalk$Night" "known" "I" ∈ lw_tbl) {x : Int32} (hdg : decode cc pc = .ok (.putfield index, 3)) (kk : ∀ (H1 : Heap) (locs1 : List Loc), Wo w g H0 (up1 v k 4 x) H1 locs1 → W p l e R s m args below meth c H1 locs1 cells slots Q (F0 m (pc + 3) ls rest)) : W p l e R s m args below meth c H locs cells slots Q (F0 m pc ls (.int x :: .ref (wq w k) :: rest)) := pF E I hin0 tyX0 tyX0_ok nmX0 hr.1 ((ce_o hr.2).trans rfl) rfl 4 (by decide) (Ew E hl rfl) rfl rfl (ty := .int) (by decide +kernel) rfl rfl (by show 4 < 18; decide) (v' := up1 v k 4 x) (by rw [ce_o hr.2, up1_k]; rfl) (up1_o v k 4 x) (fun _ _ => rfl) (I.2.2.put hr.2 (by simp [okk]) rfl) hdg kk
theorem g_Night_kinds (E : En w p m c cc nL s args own) (I : Wo w g H0 v H locs) (hr : isK w k 0) (hl : Cond.fieldLink own index "StarWalk$Night" "kinds" "[I" ∈ lw_tbl) (hdg : decode cc pc = .ok (.getfield index, 3)) (kk : W p l e R s m args below meth c H locs cells slots Q (F0 m (pc + 3) ls (.ref (wq w (k + 4)) :: rest))) : W p l e R s m args below meth c H locs cells slots Q (F0 m pc ls (.ref (wq w k) :: rest)) := gF E I hin0 hr.1 ((ce_o hr.2).trans rfl) rfl 5 (by decide) (Ew E hl rfl) rfl rfl hdg kk
theorem g_Night_walkers (E : En w p m c cc nL s args own) (I : Wo w g H0 v H locs) (hr : isK w k 0) (hl : Cond.fieldLink own index "StarWalk$Night" "walkers" "I" ∈ lw_tbl) (hdg : decode cc pc = .ok (.getfield index, 3)) (kk : W p l e R s m args below meth c H locs cells slots Q (F0 m (pc + 3) ls (.int (v.1 k 6) :: rest))) : W p l e R s m args below meth c H locs cells slots Q (F0 m pc ls (.ref (wq w k) :: rest)) := gF E I hin0 hr.1 ((ce_o hr.2).trans rfl) rfl 6 (by decide) (Ew E hl rfl) rfl rfl hdg kk
theorem p_Night_walkers (E : En w p m c cc nL s args own) (I : Wo w g H0 v H locs) (hr : isK w k 0) (hl : Cond.fieldLink own index "StarWalk$Night" "walkers" "I" ∈ lw_tbl) {x : Int32} (hx : 0 ≤ x.toInt ∧ x.toInt ≤ 3) (hdg : decode cc pc = .ok (.putfield index, 3)) (kk : ∀ (H1 : Heap) (locs1 : List Loc), Wo w g H0 (up1 v k 6 x) H1 locs1 → W p l e R s m args below meth c H1 locs1 cells slots Q (F0 m (pc + 3) ls rest)) : W p l e R s m args below meth c H locs cells slots Q (F0 m pc ls (.int x :: .ref (wq w k) :: rest)) := pF E I hin0 tyX0 tyX0_ok nmX0 hr.1 ((ce_o hr.2).trans rfl) rfl 6 (by decide) (Ew E hl rfl) rfl rfl (ty := .int) (by decide +kernel) rfl rfl (by show 6 < 18; decide) (v' := up1 v k 6 x) (by rw [ce_o hr.2, up1_k]; rfl) (up1_o v k 6 x) (fun _ _ => rfl) (I.2.2.put hr.2 (by simp only [okk]; omega) rfl) hdg kk
theorem r_Night_walkers (I : Wo w g H0 v H locs) (hr : isK w k 0) : 0 ≤ (v.1 k 6).toInt ∧ (v.1 k 6).toInt ≤ 3 := by
  have h := (I.2.2 k 6).1
  rw [hr.2] at h
  simpa [okk] using h
theorem g_Night_inFront (E : En w p m c cc nL s args own) (I : Wo w g H0 v H locs) (hr : isK w k 0) (hl : Cond.fieldLink own index "StarWalk$Night" "inFront" "I" ∈ lw_tbl) (hdg : decode cc pc = .ok (.getfield index, 3)) (kk : W p l e R s m args below meth c H locs cells slots Q (F0 m (pc + 3) ls (.int (v.1 k 7) :: rest))) : W p l e R s m args below meth c H locs cells slots Q (F0 m pc ls (.ref (wq w k) :: rest)) := gF E I hin0 hr.1 ((ce_o hr.2).trans rfl) rfl 7 (by decide) (Ew E hl rfl) rfl rfl hdg kk
theorem p_Night_inFront (E : En w p m c cc nL s args own) (I : Wo w g H0 v H locs) (hr : isK w k 0) (hl : Cond.fieldLink own index "StarWalk$Night" "inFront" "I" ∈ lw_tbl) {x : Int32} (hdg : decode cc pc = .ok (.putfield index, 3)) (kk : ∀ (H1 : Heap) (locs1 : List Loc), Wo w g H0 (up1 v k 7 x) H1 locs1 → W p l e R s m args below meth c H1 locs1 cells slots Q (F0 m (pc + 3) ls rest)) : W p l e R s m args below meth c H locs cells slots Q (F0 m pc ls (.int x :: .ref (wq w k) :: rest)) := pF E I hin0 tyX0 tyX0_ok nmX0 hr.1 ((ce_o hr.2).trans rfl) rfl 7 (by decide) (Ew E hl rfl) rfl rfl (ty := .int) (by decide +kernel) rfl rfl (by show 7 < 18; decide) (v' := up1 v k 7 x) (by rw [ce_o hr.2, up1_k]; rfl) (up1_o v k 7 x) (fun _ _ => rfl) (I.2.2.put hr.2 (by simp [okk]) rfl) hdg kk
theorem g_Night_wellMiles (E : En w p m c cc nL s args own) (I : Wo w g H0 v H locs) (hr : isK w k 0) (hl : Cond.fieldLink own index "StarWalk$Night" "wellMiles" "I" ∈ lw_tbl) (hdg : decode cc pc = .ok (.getfield index, 3)) (kk : W p l e R s m args below meth c H locs cells slots Q (F0 m (pc + 3) ls (.int (v.1 k 8) :: rest))) : W p l e R s m args below meth c H locs cells slots Q (F0 m pc ls (.ref (wq w k) :: rest)) := gF E I hin0 hr.1 ((ce_o hr.2).trans rfl) rfl 8 (by decide) (Ew E hl rfl) rfl rfl hdg kk
theorem p_Night_wellMiles (E : En w p m c cc nL s args own) (I : Wo w g H0 v H locs) (hr : isK w k 0) (hl : Cond.fieldLink own index "StarWalk$Night" "wellMiles" "I" ∈ lw_tbl) {x : Int32} (hdg : decode cc pc = .ok (.putfield index, 3)) (kk : ∀ (H1 : Heap) (locs1 : List Loc), Wo w g H0 (up1 v k 8 x) H1 locs1 → W p l e R s m args below meth c H1 locs1 cells slots Q (F0 m (pc + 3) ls rest)) : W p l e R s m args below meth c H locs cells slots Q (F0 m pc ls (.int x :: .ref (wq w k) :: rest)) := pF E I hin0 tyX0 tyX0_ok nmX0 hr.1 ((ce_o hr.2).trans rfl) rfl 8 (by decide) (Ew E hl rfl) rfl rfl (ty := .int) (by decide +kernel) rfl rfl (by show 8 < 18; decide) (v' := up1 v k 8 x) (by rw [ce_o hr.2, up1_k]; rfl) (up1_o v k 8 x) (fun _ _ => rfl) (I.2.2.put hr.2 (by simp [okk]) rfl) hdg kk
theorem g_Night_broad (E : En w p m c cc nL s args own) (I : Wo w g H0 v H locs) (hr : isK w k 0) (hl : Cond.fieldLink own index "StarWalk$Night" "broad" "I" ∈ lw_tbl) (hdg : decode cc pc = .ok (.getfield index, 3)) (kk : W p l e R s m args below meth c H locs cells slots Q (F0 m (pc + 3) ls (.int (v.1 k 9) :: rest))) : W p l e R s m args below meth c H locs cells slots Q (F0 m pc ls (.ref (wq w k) :: rest)) := gF E I hin0 hr.1 ((ce_o hr.2).trans rfl) rfl 9 (by decide) (Ew E hl rfl) rfl rfl hdg kk
theorem p_Night_broad (E : En w p m c cc nL s args own) (I : Wo w g H0 v H locs) (hr : isK w k 0) (hl : Cond.fieldLink own index "StarWalk$Night" "broad" "I" ∈ lw_tbl) {x : Int32} (hdg : decode cc pc = .ok (.putfield index, 3)) (kk : ∀ (H1 : Heap) (locs1 : List Loc), Wo w g H0 (up1 v k 9 x) H1 locs1 → W p l e R s m args below meth c H1 locs1 cells slots Q (F0 m (pc + 3) ls rest)) : W p l e R s m args below meth c H locs cells slots Q (F0 m pc ls (.int x :: .ref (wq w k) :: rest)) := pF E I hin0 tyX0 tyX0_ok nmX0 hr.1 ((ce_o hr.2).trans rfl) rfl 9 (by decide) (Ew E hl rfl) rfl rfl (ty := .int) (by decide +kernel) rfl rfl (by show 9 < 18; decide) (v' := up1 v k 9 x) (by rw [ce_o hr.2, up1_k]; rfl) (up1_o v k 9 x) (fun _ _ => rfl) (I.2.2.put hr.2 (by simp [okk]) rfl) hdg kk
theorem g_Night_till (E : En w p m c cc nL s args own) (I : Wo w g H0 v H locs) (hr : isK w k 0) (hl : Cond.fieldLink own index "StarWalk$Night" "till" "I" ∈ lw_tbl) (hdg : decode cc pc = .ok (.getfield index, 3)) (kk : W p l e R s m args below meth c H locs cells slots Q (F0 m (pc + 3) ls (.int (v.1 k 10) :: rest))) : W p l e R s m args below meth c H locs cells slots Q (F0 m pc ls (.ref (wq w k) :: rest)) := gF E I hin0 hr.1 ((ce_o hr.2).trans rfl) rfl 10 (by decide) (Ew E hl rfl) rfl rfl hdg kk
theorem p_Night_till (E : En w p m c cc nL s args own) (I : Wo w g H0 v H locs) (hr : isK w k 0) (hl : Cond.fieldLink own index "StarWalk$Night" "till" "I" ∈ lw_tbl) {x : Int32} (hdg : decode cc pc = .ok (.putfield index, 3)) (kk : ∀ (H1 : Heap) (locs1 : List Loc), Wo w g H0 (up1 v k 10 x) H1 locs1 → W p l e R s m args below meth c H1 locs1 cells slots Q (F0 m (pc + 3) ls rest)) : W p l e R s m args below meth c H locs cells slots Q (F0 m pc ls (.int x :: .ref (wq w k) :: rest)) := pF E I hin0 tyX0 tyX0_ok nmX0 hr.1 ((ce_o hr.2).trans rfl) rfl 10 (by decide) (Ew E hl rfl) rfl rfl (ty := .int) (by decide +kernel) rfl rfl (by show 10 < 18; decide) (v' := up1 v k 10 x) (by rw [ce_o hr.2, up1_k]; rfl) (up1_o v k 10 x) (fun _ _ => rfl) (I.2.2.put hr.2 (by simp [okk]) rfl) hdg kk
theorem g_Night_clouds (E : En w p m c cc nL s args own) (I : Wo w g H0 v H locs) (hr : isK w k 0) (hl : Cond.fieldLink own index "StarWalk$Night" "clouds" "I" ∈ lw_tbl) (hdg : decode cc pc = .ok (.getfield index, 3)) (kk : W p l e R s m args below meth c H locs cells slots Q (F0 m (pc + 3) ls (.int (v.1 k 11) :: rest))) : W p l e R s m args below meth c H locs cells slots Q (F0 m pc ls (.ref (wq w k) :: rest)) := gF E I hin0 hr.1 ((ce_o hr.2).trans rfl) rfl 11 (by decide) (Ew E hl rfl) rfl rfl hdg kk
theorem p_Night_clouds (E : En w p m c cc nL s args own) (I : Wo w g H0 v H locs) (hr : isK w k 0) (hl : Cond.fieldLink own index "StarWalk$Night" "clouds" "I" ∈ lw_tbl) {x : Int32} (hdg : decode cc pc = .ok (.putfield index, 3)) (kk : ∀ (H1 : Heap) (locs1 : List Loc), Wo w g H0 (up1 v k 11 x) H1 locs1 → W p l e R s m args below meth c H1 locs1 cells slots Q (F0 m (pc + 3) ls rest)) : W p l e R s m args below meth c H locs cells slots Q (F0 m pc ls (.int x :: .ref (wq w k) :: rest)) := pF E I hin0 tyX0 tyX0_ok nmX0 hr.1 ((ce_o hr.2).trans rfl) rfl 11 (by decide) (Ew E hl rfl) rfl rfl (ty := .int) (by decide +kernel) rfl rfl (by show 11 < 18; decide) (v' := up1 v k 11 x) (by rw [ce_o hr.2, up1_k]; rfl) (up1_o v k 11 x) (fun _ _ => rfl) (I.2.2.put hr.2 (by simp [okk]) rfl) hdg kk
theorem g_Night_place (E : En w p m c cc nL s args own) (I : Wo w g H0 v H locs) (hr : isK w k 0) (hl : Cond.fieldLink own index "StarWalk$Night" "place" "LStarWalk$Place;" ∈ lw_tbl) (hdg : decode cc pc = .ok (.getfield index, 3)) (kk : W p l e R s m args below meth c H locs cells slots Q (F0 m (pc + 3) ls (.ref (wq w (k + 5)) :: rest))) : W p l e R s m args below meth c H locs cells slots Q (F0 m pc ls (.ref (wq w k) :: rest)) := gF E I hin0 hr.1 ((ce_o hr.2).trans rfl) rfl 12 (by decide) (Ew E hl rfl) rfl rfl hdg kk
theorem g_Night_plannedAims (E : En w p m c cc nL s args own) (I : Wo w g H0 v H locs) (hr : isK w k 0) (hl : Cond.fieldLink own index "StarWalk$Night" "plannedAims" "[I" ∈ lw_tbl) (hdg : decode cc pc = .ok (.getfield index, 3)) (kk : W p l e R s m args below meth c H locs cells slots Q (F0 m (pc + 3) ls (.ref (wq w (k + 6)) :: rest))) : W p l e R s m args below meth c H locs cells slots Q (F0 m pc ls (.ref (wq w k) :: rest)) := gF E I hin0 hr.1 ((ce_o hr.2).trans rfl) rfl 13 (by decide) (Ew E hl rfl) rfl rfl hdg kk
theorem g_Night_planned (E : En w p m c cc nL s args own) (I : Wo w g H0 v H locs) (hr : isK w k 0) (hl : Cond.fieldLink own index "StarWalk$Night" "planned" "I" ∈ lw_tbl) (hdg : decode cc pc = .ok (.getfield index, 3)) (kk : W p l e R s m args below meth c H locs cells slots Q (F0 m (pc + 3) ls (.int (v.1 k 14) :: rest))) : W p l e R s m args below meth c H locs cells slots Q (F0 m pc ls (.ref (wq w k) :: rest)) := gF E I hin0 hr.1 ((ce_o hr.2).trans rfl) rfl 14 (by decide) (Ew E hl rfl) rfl rfl hdg kk
theorem p_Night_planned (E : En w p m c cc nL s args own) (I : Wo w g H0 v H locs) (hr : isK w k 0) (hl : Cond.fieldLink own index "StarWalk$Night" "planned" "I" ∈ lw_tbl) {x : Int32} (hx : 0 ≤ x.toInt ∧ x.toInt ≤ 8) (hdg : decode cc pc = .ok (.putfield index, 3)) (kk : ∀ (H1 : Heap) (locs1 : List Loc), Wo w g H0 (up1 v k 14 x) H1 locs1 → W p l e R s m args below meth c H1 locs1 cells slots Q (F0 m (pc + 3) ls rest)) : W p l e R s m args below meth c H locs cells slots Q (F0 m pc ls (.int x :: .ref (wq w k) :: rest)) := pF E I hin0 tyX0 tyX0_ok nmX0 hr.1 ((ce_o hr.2).trans rfl) rfl 14 (by decide) (Ew E hl rfl) rfl rfl (ty := .int) (by decide +kernel) rfl rfl (by show 14 < 18; decide) (v' := up1 v k 14 x) (by rw [ce_o hr.2, up1_k]; rfl) (up1_o v k 14 x) (fun _ _ => rfl) (I.2.2.put hr.2 (by simp only [okk]; omega) rfl) hdg kk
theorem r_Night_planned (I : Wo w g H0 v H locs) (hr : isK w k 0) : 0 ≤ (v.1 k 14).toInt ∧ (v.1 k 14).toInt ≤ 8 := by
  have h := (I.2.2 k 14).1
  rw [hr.2] at h
  simpa [okk] using h
theorem g_Night_seenBehind (E : En w p m c cc nL s args own) (I : Wo w g H0 v H locs) (hr : isK w k 0) (hl : Cond.fieldLink own index "StarWalk$Night" "seenBehind" "[I" ∈ lw_tbl) (hdg : decode cc pc = .ok (.getfield index, 3)) (kk : W p l e R s m args below meth c H locs cells slots Q (F0 m (pc + 3) ls (.ref (wq w (k + 7)) :: rest))) : W p l e R s m args below meth c H locs cells slots Q (F0 m pc ls (.ref (wq w k) :: rest)) := gF E I hin0 hr.1 ((ce_o hr.2).trans rfl) rfl 15 (by decide) (Ew E hl rfl) rfl rfl hdg kk
theorem g_Night_seenSide (E : En w p m c cc nL s args own) (I : Wo w g H0 v H locs) (hr : isK w k 0) (hl : Cond.fieldLink own index "StarWalk$Night" "seenSide" "[I" ∈ lw_tbl) (hdg : decode cc pc = .ok (.getfield index, 3)) (kk : W p l e R s m args below meth c H locs cells slots Q (F0 m (pc + 3) ls (.ref (wq w (k + 8)) :: rest))) : W p l e R s m args below meth c H locs cells slots Q (F0 m pc ls (.ref (wq w k) :: rest)) := gF E I hin0 hr.1 ((ce_o hr.2).trans rfl) rfl 16 (by decide) (Ew E hl rfl) rfl rfl hdg kk
theorem g_Night_seen (E : En w p m c cc nL s args own) (I : Wo w g H0 v H locs) (hr : isK w k 0) (hl : Cond.fieldLink own index "StarWalk$Night" "seen" "I" ∈ lw_tbl) (hdg : decode cc pc = .ok (.getfield index, 3)) (kk : W p l e R s m args below meth c H locs cells slots Q (F0 m (pc + 3) ls (.int (v.1 k 17) :: rest))) : W p l e R s m args below meth c H locs cells slots Q (F0 m pc ls (.ref (wq w k) :: rest)) := gF E I hin0 hr.1 ((ce_o hr.2).trans rfl) rfl 17 (by decide) (Ew E hl rfl) rfl rfl hdg kk
theorem p_Night_seen (E : En w p m c cc nL s args own) (I : Wo w g H0 v H locs) (hr : isK w k 0) (hl : Cond.fieldLink own index "StarWalk$Night" "seen" "I" ∈ lw_tbl) {x : Int32} (hx : 0 ≤ x.toInt ∧ x.toInt ≤ 6) (hdg : decode cc pc = .ok (.putfield index, 3)) (kk : ∀ (H1 : Heap) (locs1 : List Loc), Wo w g H0 (up1 v k 17 x) H1 locs1 → W p l e R s m args below meth c H1 locs1 cells slots Q (F0 m (pc + 3) ls rest)) : W p l e R s m args below meth c H locs cells slots Q (F0 m pc ls (.int x :: .ref (wq w k) :: rest)) := pF E I hin0 tyX0 tyX0_ok nmX0 hr.1 ((ce_o hr.2).trans rfl) rfl 17 (by decide) (Ew E hl rfl) rfl rfl (ty := .int) (by decide +kernel) rfl rfl (by show 17 < 18; decide) (v' := up1 v k 17 x) (by rw [ce_o hr.2, up1_k]; rfl) (up1_o v k 17 x) (fun _ _ => rfl) (I.2.2.put hr.2 (by simp only [okk]; omega) rfl) hdg kk
theorem r_Night_seen (I : Wo w g H0 v H locs) (hr : isK w k 0) : 0 ≤ (v.1 k 17).toInt ∧ (v.1 k 17).toInt ≤ 6 := by
  have h := (I.2.2 k 17).1
  rw [hr.2] at h
  simpa [okk] using h
theorem g_Odds_night (E : En w p m c cc nL s args own) (I : Wo w g H0 v H locs) (hr : isK w k 1) (hl : Cond.fieldLink own index "StarWalk$Odds" "night" "LStarWalk$Night;" ∈ lw_tbl) (hdg : decode cc pc = .ok (.getfield index, 3)) (kk : W p l e R s m args below meth c H locs cells slots Q (F0 m (pc + 3) ls (.ref (wq w (k + 1)) :: rest))) : W p l e R s m args below meth c H locs cells slots Q (F0 m pc ls (.ref (wq w k) :: rest)) := gF E I hin1 hr.1 ((ce_o hr.2).trans rfl) rfl 0 (by decide) (Ew E hl rfl) rfl rfl hdg kk
theorem g_Odds_places (E : En w p m c cc nL s args own) (I : Wo w g H0 v H locs) (hr : isK w k 1) (hl : Cond.fieldLink own index "StarWalk$Odds" "places" "[LStarWalk$Place;" ∈ lw_tbl) (hdg : decode cc pc = .ok (.getfield index, 3)) (kk : W p l e R s m args below meth c H locs cells slots Q (F0 m (pc + 3) ls (.ref (wq w (k + 10)) :: rest))) : W p l e R s m args below meth c H locs cells slots Q (F0 m pc ls (.ref (wq w k) :: rest)) := gF E I hin1 hr.1 ((ce_o hr.2).trans rfl) rfl 1 (by decide) (Ew E hl rfl) rfl rfl hdg kk
theorem g_Odds_tenths (E : En w p m c cc nL s args own) (I : Wo w g H0 v H locs) (hr : isK w k 1) (hl : Cond.fieldLink own index "StarWalk$Odds" "tenths" "I" ∈ lw_tbl) (hdg : decode cc pc = .ok (.getfield index, 3)) (kk : W p l e R s m args below meth c H locs cells slots Q (F0 m (pc + 3) ls (.int (v.1 k 2) :: rest))) : W p l e R s m args below meth c H locs cells slots Q (F0 m pc ls (.ref (wq w k) :: rest)) := gF E I hin1 hr.1 ((ce_o hr.2).trans rfl) rfl 2 (by decide) (Ew E hl rfl) rfl rfl hdg kk
theorem p_Odds_tenths (E : En w p m c cc nL s args own) (I : Wo w g H0 v H locs) (hr : isK w k 1) (hl : Cond.fieldLink own index "StarWalk$Odds" "tenths" "I" ∈ lw_tbl) {x : Int32} (hdg : decode cc pc = .ok (.putfield index, 3)) (kk : ∀ (H1 : Heap) (locs1 : List Loc), Wo w g H0 (up1 v k 2 x) H1 locs1 → W p l e R s m args below meth c H1 locs1 cells slots Q (F0 m (pc + 3) ls rest)) : W p l e R s m args below meth c H locs cells slots Q (F0 m pc ls (.int x :: .ref (wq w k) :: rest)) := pF E I hin1 tyX1 tyX1_ok nmX1 hr.1 ((ce_o hr.2).trans rfl) rfl 2 (by decide) (Ew E hl rfl) rfl rfl (ty := .int) (by decide +kernel) rfl rfl (by show 2 < 4; decide) (v' := up1 v k 2 x) (by rw [ce_o hr.2, up1_k]; rfl) (up1_o v k 2 x) (fun _ _ => rfl) (I.2.2.put hr.2 (by simp [okk]) rfl) hdg kk
theorem g_Odds_ofMiles (E : En w p m c cc nL s args own) (I : Wo w g H0 v H locs) (hr : isK w k 1) (hl : Cond.fieldLink own index "StarWalk$Odds" "ofMiles" "Z" ∈ lw_tbl) (hdg : decode cc pc = .ok (.getfield index, 3)) (kk : W p l e R s m args below meth c H locs cells slots Q (F0 m (pc + 3) ls (.int (v.1 k 3) :: rest))) : W p l e R s m args below meth c H locs cells slots Q (F0 m pc ls (.ref (wq w k) :: rest)) := gF E I hin1 hr.1 ((ce_o hr.2).trans rfl) rfl 3 (by decide) (Ew E hl rfl) rfl rfl hdg kk
theorem p_Odds_ofMiles (E : En w p m c cc nL s args own) (I : Wo w g H0 v H locs) (hr : isK w k 1) (hl : Cond.fieldLink own index "StarWalk$Odds" "ofMiles" "Z" ∈ lw_tbl) {x : Int32} (hz : x = 0 ∨ x = 1) (hdg : decode cc pc = .ok (.putfield index, 3)) (kk : ∀ (H1 : Heap) (locs1 : List Loc), Wo w g H0 (up1 v k 3 x) H1 locs1 → W p l e R s m args below meth c H1 locs1 cells slots Q (F0 m (pc + 3) ls rest)) : W p l e R s m args below meth c H locs cells slots Q (F0 m pc ls (.int x :: .ref (wq w k) :: rest)) := pF E I hin1 tyX1 tyX1_ok nmX1 hr.1 ((ce_o hr.2).trans rfl) rfl 3 (by decide) (Ew E hl rfl) rfl rfl (ty := .boolean) (by decide +kernel) (by rcases hz with rfl | rfl <;> rfl) (by rcases hz with rfl | rfl <;> rfl) (by show 3 < 4; decide) (v' := up1 v k 3 x) (by rw [ce_o hr.2, up1_k]; rfl) (up1_o v k 3 x) (fun _ _ => rfl) (I.2.2.put hr.2 (by simp [okk]) rfl) hdg kk
theorem g_Place_hour (E : En w p m c cc nL s args own) (I : Wo w g H0 v H locs) (hr : isK w k 2) (hl : Cond.fieldLink own index "StarWalk$Place" "hour" "I" ∈ lw_tbl) (hdg : decode cc pc = .ok (.getfield index, 3)) (kk : W p l e R s m args below meth c H locs cells slots Q (F0 m (pc + 3) ls (.int (v.1 k 0) :: rest))) : W p l e R s m args below meth c H locs cells slots Q (F0 m pc ls (.ref (wq w k) :: rest)) := gF E I hin2 hr.1 ((ce_o hr.2).trans rfl) rfl 0 (by decide) (Ew E hl rfl) rfl rfl hdg kk
theorem p_Place_hour (E : En w p m c cc nL s args own) (I : Wo w g H0 v H locs) (hr : isK w k 2) (hl : Cond.fieldLink own index "StarWalk$Place" "hour" "I" ∈ lw_tbl) {x : Int32} (hdg : decode cc pc = .ok (.putfield index, 3)) (kk : ∀ (H1 : Heap) (locs1 : List Loc), Wo w g H0 (up1 v k 0 x) H1 locs1 → W p l e R s m args below meth c H1 locs1 cells slots Q (F0 m (pc + 3) ls rest)) : W p l e R s m args below meth c H locs cells slots Q (F0 m pc ls (.int x :: .ref (wq w k) :: rest)) := pF E I hin2 tyX2 tyX2_ok nmX2 hr.1 ((ce_o hr.2).trans rfl) rfl 0 (by decide) (Ew E hl rfl) rfl rfl (ty := .int) (by decide +kernel) rfl rfl (by show 0 < 4; decide) (v' := up1 v k 0 x) (by rw [ce_o hr.2, up1_k]; rfl) (up1_o v k 0 x) (fun _ _ => rfl) (I.2.2.put hr.2 (by simp [okk]) rfl) hdg kk
theorem g_Place_miles (E : En w p m c cc nL s args own) (I : Wo w g H0 v H locs) (hr : isK w k 2) (hl : Cond.fieldLink own index "StarWalk$Place" "miles" "I" ∈ lw_tbl) (hdg : decode cc pc = .ok (.getfield index, 3)) (kk : W p l e R s m args below meth c H locs cells slots Q (F0 m (pc + 3) ls (.int (v.1 k 1) :: rest))) : W p l e R s m args below meth c H locs cells slots Q (F0 m pc ls (.ref (wq w k) :: rest)) := gF E I hin2 hr.1 ((ce_o hr.2).trans rfl) rfl 1 (by decide) (Ew E hl rfl) rfl rfl hdg kk
theorem p_Place_miles (E : En w p m c cc nL s args own) (I : Wo w g H0 v H locs) (hr : isK w k 2) (hl : Cond.fieldLink own index "StarWalk$Place" "miles" "I" ∈ lw_tbl) {x : Int32} (hdg : decode cc pc = .ok (.putfield index, 3)) (kk : ∀ (H1 : Heap) (locs1 : List Loc), Wo w g H0 (up1 v k 1 x) H1 locs1 → W p l e R s m args below meth c H1 locs1 cells slots Q (F0 m (pc + 3) ls rest)) : W p l e R s m args below meth c H locs cells slots Q (F0 m pc ls (.int x :: .ref (wq w k) :: rest)) := pF E I hin2 tyX2 tyX2_ok nmX2 hr.1 ((ce_o hr.2).trans rfl) rfl 1 (by decide) (Ew E hl rfl) rfl rfl (ty := .int) (by decide +kernel) rfl rfl (by show 1 < 4; decide) (v' := up1 v k 1 x) (by rw [ce_o hr.2, up1_k]; rfl) (up1_o v k 1 x) (fun _ _ => rfl) (I.2.2.put hr.2 (by simp [okk]) rfl) hdg kk
theorem g_Place_side (E : En w p m c cc nL s args own) (I : Wo w g H0 v H locs) (hr : isK w k 2) (hl : Cond.fieldLink own index "StarWalk$Place" "side" "I" ∈ lw_tbl) (hdg : decode cc pc = .ok (.getfield index, 3)) (kk : W p l e R s m args below meth c H locs cells slots Q (F0 m (pc + 3) ls (.int (v.1 k 2) :: rest))) : W p l e R s m args below meth c H locs cells slots Q (F0 m pc ls (.ref (wq w k) :: rest)) := gF E I hin2 hr.1 ((ce_o hr.2).trans rfl) rfl 2 (by decide) (Ew E hl rfl) rfl rfl hdg kk
theorem p_Place_side (E : En w p m c cc nL s args own) (I : Wo w g H0 v H locs) (hr : isK w k 2) (hl : Cond.fieldLink own index "StarWalk$Place" "side" "I" ∈ lw_tbl) {x : Int32} (hdg : decode cc pc = .ok (.putfield index, 3)) (kk : ∀ (H1 : Heap) (locs1 : List Loc), Wo w g H0 (up1 v k 2 x) H1 locs1 → W p l e R s m args below meth c H1 locs1 cells slots Q (F0 m (pc + 3) ls rest)) : W p l e R s m args below meth c H locs cells slots Q (F0 m pc ls (.int x :: .ref (wq w k) :: rest)) := pF E I hin2 tyX2 tyX2_ok nmX2 hr.1 ((ce_o hr.2).trans rfl) rfl 2 (by decide) (Ew E hl rfl) rfl rfl (ty := .int) (by decide +kernel) rfl rfl (by show 2 < 4; decide) (v' := up1 v k 2 x) (by rw [ce_o hr.2, up1_k]; rfl) (up1_o v k 2 x) (fun _ _ => rfl) (I.2.2.put hr.2 (by simp [okk]) rfl) hdg kk
theorem g_Place_water (E : En w p m c cc nL s args own) (I : Wo w g H0 v H locs) (hr : isK w k 2) (hl : Cond.fieldLink own index "StarWalk$Place" "water" "I" ∈ lw_tbl) (hdg : decode cc pc = .ok (.getfield index, 3)) (kk : W p l e R s m args below meth c H locs cells slots Q (F0 m (pc + 3) ls (.int (v.1 k 3) :: rest))) : W p l e R s m args below meth c H locs cells slots Q (F0 m pc ls (.ref (wq w k) :: rest)) := gF E I hin2 hr.1 ((ce_o hr.2).trans rfl) rfl 3 (by decide) (Ew E hl rfl) rfl rfl hdg kk
theorem p_Place_water (E : En w p m c cc nL s args own) (I : Wo w g H0 v H locs) (hr : isK w k 2) (hl : Cond.fieldLink own index "StarWalk$Place" "water" "I" ∈ lw_tbl) {x : Int32} (hdg : decode cc pc = .ok (.putfield index, 3)) (kk : ∀ (H1 : Heap) (locs1 : List Loc), Wo w g H0 (up1 v k 3 x) H1 locs1 → W p l e R s m args below meth c H1 locs1 cells slots Q (F0 m (pc + 3) ls rest)) : W p l e R s m args below meth c H locs cells slots Q (F0 m pc ls (.int x :: .ref (wq w k) :: rest)) := pF E I hin2 tyX2 tyX2_ok nmX2 hr.1 ((ce_o hr.2).trans rfl) rfl 3 (by decide) (Ew E hl rfl) rfl rfl (ty := .int) (by decide +kernel) rfl rfl (by show 3 < 4; decide) (v' := up1 v k 3 x) (by rw [ce_o hr.2, up1_k]; rfl) (up1_o v k 3 x) (fun _ _ => rfl) (I.2.2.put hr.2 (by simp [okk]) rfl) hdg kk
theorem g_Search_places (E : En w p m c cc nL s args own) (I : Wo w g H0 v H locs) (hr : isK w k 3) (hl : Cond.fieldLink own index "StarWalk$Search" "places" "[LStarWalk$Place;" ∈ lw_tbl) (hdg : decode cc pc = .ok (.getfield index, 3)) (kk : W p l e R s m args below meth c H locs cells slots Q (F0 m (pc + 3) ls (.ref (wq w (k + 1)) :: rest))) : W p l e R s m args below meth c H locs cells slots Q (F0 m pc ls (.ref (wq w k) :: rest)) := gF E I hin3 hr.1 ((ce_o hr.2).trans rfl) rfl 0 (by decide) (Ew E hl rfl) rfl rfl hdg kk
theorem g_Search_row (E : En w p m c cc nL s args own) (I : Wo w g H0 v H locs) (hr : isK w k 3) (hl : Cond.fieldLink own index "StarWalk$Search" "row" "[I" ∈ lw_tbl) (hdg : decode cc pc = .ok (.getfield index, 3)) (kk : W p l e R s m args below meth c H locs cells slots Q (F0 m (pc + 3) ls (.ref (wq w (k + 2)) :: rest))) : W p l e R s m args below meth c H locs cells slots Q (F0 m pc ls (.ref (wq w k) :: rest)) := gF E I hin3 hr.1 ((ce_o hr.2).trans rfl) rfl 1 (by decide) (Ew E hl rfl) rfl rfl hdg kk
theorem g_Search_bestRow (E : En w p m c cc nL s args own) (I : Wo w g H0 v H locs) (hr : isK w k 3) (hl : Cond.fieldLink own index "StarWalk$Search" "bestRow" "[I" ∈ lw_tbl) (hdg : decode cc pc = .ok (.getfield index, 3)) (kk : W p l e R s m args below meth c H locs cells slots Q (F0 m (pc + 3) ls (.ref (wq w (k + 3)) :: rest))) : W p l e R s m args below meth c H locs cells slots Q (F0 m pc ls (.ref (wq w k) :: rest)) := gF E I hin3 hr.1 ((ce_o hr.2).trans rfl) rfl 2 (by decide) (Ew E hl rfl) rfl rfl hdg kk
theorem g_Search_bestSide (E : En w p m c cc nL s args own) (I : Wo w g H0 v H locs) (hr : isK w k 3) (hl : Cond.fieldLink own index "StarWalk$Search" "bestSide" "I" ∈ lw_tbl) (hdg : decode cc pc = .ok (.getfield index, 3)) (kk : W p l e R s m args below meth c H locs cells slots Q (F0 m (pc + 3) ls (.int (v.1 k 3) :: rest))) : W p l e R s m args below meth c H locs cells slots Q (F0 m pc ls (.ref (wq w k) :: rest)) := gF E I hin3 hr.1 ((ce_o hr.2).trans rfl) rfl 3 (by decide) (Ew E hl rfl) rfl rfl hdg kk
theorem p_Search_bestSide (E : En w p m c cc nL s args own) (I : Wo w g H0 v H locs) (hr : isK w k 3) (hl : Cond.fieldLink own index "StarWalk$Search" "bestSide" "I" ∈ lw_tbl) {x : Int32} (hdg : decode cc pc = .ok (.putfield index, 3)) (kk : ∀ (H1 : Heap) (locs1 : List Loc), Wo w g H0 (up1 v k 3 x) H1 locs1 → W p l e R s m args below meth c H1 locs1 cells slots Q (F0 m (pc + 3) ls rest)) : W p l e R s m args below meth c H locs cells slots Q (F0 m pc ls (.int x :: .ref (wq w k) :: rest)) := pF E I hin3 tyX3 tyX3_ok nmX3 hr.1 ((ce_o hr.2).trans rfl) rfl 3 (by decide) (Ew E hl rfl) rfl rfl (ty := .int) (by decide +kernel) rfl rfl (by show 3 < 6; decide) (v' := up1 v k 3 x) (by rw [ce_o hr.2, up1_k]; rfl) (up1_o v k 3 x) (fun _ _ => rfl) (I.2.2.put hr.2 (by simp [okk]) rfl) hdg kk
theorem g_Search_bestMiles (E : En w p m c cc nL s args own) (I : Wo w g H0 v H locs) (hr : isK w k 3) (hl : Cond.fieldLink own index "StarWalk$Search" "bestMiles" "I" ∈ lw_tbl) (hdg : decode cc pc = .ok (.getfield index, 3)) (kk : W p l e R s m args below meth c H locs cells slots Q (F0 m (pc + 3) ls (.int (v.1 k 4) :: rest))) : W p l e R s m args below meth c H locs cells slots Q (F0 m pc ls (.ref (wq w k) :: rest)) := gF E I hin3 hr.1 ((ce_o hr.2).trans rfl) rfl 4 (by decide) (Ew E hl rfl) rfl rfl hdg kk
theorem p_Search_bestMiles (E : En w p m c cc nL s args own) (I : Wo w g H0 v H locs) (hr : isK w k 3) (hl : Cond.fieldLink own index "StarWalk$Search" "bestMiles" "I" ∈ lw_tbl) {x : Int32} (hdg : decode cc pc = .ok (.putfield index, 3)) (kk : ∀ (H1 : Heap) (locs1 : List Loc), Wo w g H0 (up1 v k 4 x) H1 locs1 → W p l e R s m args below meth c H1 locs1 cells slots Q (F0 m (pc + 3) ls rest)) : W p l e R s m args below meth c H locs cells slots Q (F0 m pc ls (.int x :: .ref (wq w k) :: rest)) := pF E I hin3 tyX3 tyX3_ok nmX3 hr.1 ((ce_o hr.2).trans rfl) rfl 4 (by decide) (Ew E hl rfl) rfl rfl (ty := .int) (by decide +kernel) rfl rfl (by show 4 < 6; decide) (v' := up1 v k 4 x) (by rw [ce_o hr.2, up1_k]; rfl) (up1_o v k 4 x) (fun _ _ => rfl) (I.2.2.put hr.2 (by simp [okk]) rfl) hdg kk
theorem g_Search_found (E : En w p m c cc nL s args own) (I : Wo w g H0 v H locs) (hr : isK w k 3) (hl : Cond.fieldLink own index "StarWalk$Search" "found" "Z" ∈ lw_tbl) (hdg : decode cc pc = .ok (.getfield index, 3)) (kk : W p l e R s m args below meth c H locs cells slots Q (F0 m (pc + 3) ls (.int (v.1 k 5) :: rest))) : W p l e R s m args below meth c H locs cells slots Q (F0 m pc ls (.ref (wq w k) :: rest)) := gF E I hin3 hr.1 ((ce_o hr.2).trans rfl) rfl 5 (by decide) (Ew E hl rfl) rfl rfl hdg kk
theorem p_Search_found (E : En w p m c cc nL s args own) (I : Wo w g H0 v H locs) (hr : isK w k 3) (hl : Cond.fieldLink own index "StarWalk$Search" "found" "Z" ∈ lw_tbl) {x : Int32} (hz : x = 0 ∨ x = 1) (hdg : decode cc pc = .ok (.putfield index, 3)) (kk : ∀ (H1 : Heap) (locs1 : List Loc), Wo w g H0 (up1 v k 5 x) H1 locs1 → W p l e R s m args below meth c H1 locs1 cells slots Q (F0 m (pc + 3) ls rest)) : W p l e R s m args below meth c H locs cells slots Q (F0 m pc ls (.int x :: .ref (wq w k) :: rest)) := pF E I hin3 tyX3 tyX3_ok nmX3 hr.1 ((ce_o hr.2).trans rfl) rfl 5 (by decide) (Ew E hl rfl) rfl rfl (ty := .boolean) (by decide +kernel) (by rcases hz with rfl | rfl <;> rfl) (by rcases hz with rfl | rfl <;> rfl) (by show 5 < 6; decide) (v' := up1 v k 5 x) (by rw [ce_o hr.2, up1_k]; rfl) (up1_o v k 5 x) (fun _ _ => rfl) (I.2.2.put hr.2 (by simp [okk]) rfl) hdg kk
theorem g_Sheet_lane (E : En w p m c cc nL s args own) (I : Wo w g H0 v H locs) (hr : isK w k 4) (hl : Cond.fieldLink own index "StarWalk$Sheet" "lane" "I" ∈ lw_tbl) (hdg : decode cc pc = .ok (.getfield index, 3)) (kk : W p l e R s m args below meth c H locs cells slots Q (F0 m (pc + 3) ls (.int (v.1 k 0) :: rest))) : W p l e R s m args below meth c H locs cells slots Q (F0 m pc ls (.ref (wq w k) :: rest)) := gF E I hin4 hr.1 ((ce_o hr.2).trans rfl) rfl 0 (by decide) (Ew E hl rfl) rfl rfl hdg kk
theorem p_Sheet_lane (E : En w p m c cc nL s args own) (I : Wo w g H0 v H locs) (hr : isK w k 4) (hl : Cond.fieldLink own index "StarWalk$Sheet" "lane" "I" ∈ lw_tbl) {x : Int32} (hdg : decode cc pc = .ok (.putfield index, 3)) (kk : ∀ (H1 : Heap) (locs1 : List Loc), Wo w g H0 (up1 v k 0 x) H1 locs1 → W p l e R s m args below meth c H1 locs1 cells slots Q (F0 m (pc + 3) ls rest)) : W p l e R s m args below meth c H locs cells slots Q (F0 m pc ls (.int x :: .ref (wq w k) :: rest)) := pF E I hin4 tyX4 tyX4_ok nmX4 hr.1 ((ce_o hr.2).trans rfl) rfl 0 (by decide) (Ew E hl rfl) rfl rfl (ty := .int) (by decide +kernel) rfl rfl (by show 0 < 3; decide) (v' := up1 v k 0 x) (by rw [ce_o hr.2, up1_k]; rfl) (up1_o v k 0 x) (fun _ _ => rfl) (I.2.2.put hr.2 (by simp [okk]) rfl) hdg kk
theorem g_Sheet_size (E : En w p m c cc nL s args own) (I : Wo w g H0 v H locs) (hr : isK w k 4) (hl : Cond.fieldLink own index "StarWalk$Sheet" "size" "I" ∈ lw_tbl) (hdg : decode cc pc = .ok (.getfield index, 3)) (kk : W p l e R s m args below meth c H locs cells slots Q (F0 m (pc + 3) ls (.int (v.1 k 1) :: rest))) : W p l e R s m args below meth c H locs cells slots Q (F0 m pc ls (.ref (wq w k) :: rest)) := gF E I hin4 hr.1 ((ce_o hr.2).trans rfl) rfl 1 (by decide) (Ew E hl rfl) rfl rfl hdg kk
theorem p_Sheet_size (E : En w p m c cc nL s args own) (I : Wo w g H0 v H locs) (hr : isK w k 4) (hl : Cond.fieldLink own index "StarWalk$Sheet" "size" "I" ∈ lw_tbl) {x : Int32} (hx : 0 ≤ x.toInt ∧ x.toInt ≤ 40) (hdg : decode cc pc = .ok (.putfield index, 3)) (kk : ∀ (H1 : Heap) (locs1 : List Loc), Wo w g H0 (up1 v k 1 x) H1 locs1 → W p l e R s m args below meth c H1 locs1 cells slots Q (F0 m (pc + 3) ls rest)) : W p l e R s m args below meth c H locs cells slots Q (F0 m pc ls (.int x :: .ref (wq w k) :: rest)) := pF E I hin4 tyX4 tyX4_ok nmX4 hr.1 ((ce_o hr.2).trans rfl) rfl 1 (by decide) (Ew E hl rfl) rfl rfl (ty := .int) (by decide +kernel) rfl rfl (by show 1 < 3; decide) (v' := up1 v k 1 x) (by rw [ce_o hr.2, up1_k]; rfl) (up1_o v k 1 x) (fun _ _ => rfl) (I.2.2.put hr.2 (by simp only [okk]; omega) rfl) hdg kk
theorem r_Sheet_size (I : Wo w g H0 v H locs) (hr : isK w k 4) : 0 ≤ (v.1 k 1).toInt ∧ (v.1 k 1).toInt ≤ 40 := by
  have h := (I.2.2 k 1).1
  rw [hr.2] at h
  simpa [okk] using h
theorem g_Sheet_cells (E : En w p m c cc nL s args own) (I : Wo w g H0 v H locs) (hr : isK w k 4) (hl : Cond.fieldLink own index "StarWalk$Sheet" "cells" "[I" ∈ lw_tbl) (hdg : decode cc pc = .ok (.getfield index, 3)) (kk : W p l e R s m args below meth c H locs cells slots Q (F0 m (pc + 3) ls (.ref (wq w (k + 1)) :: rest))) : W p l e R s m args below meth c H locs cells slots Q (F0 m pc ls (.ref (wq w k) :: rest)) := gF E I hin4 hr.1 ((ce_o hr.2).trans rfl) rfl 2 (by decide) (Ew E hl rfl) rfl rfl hdg kk
theorem g_Tape_bytes (E : En w p m c cc nL s args own) (I : Wo w g H0 v H locs) (hr : isK w k 5) (hl : Cond.fieldLink own index "StarWalk$Tape" "bytes" "[B" ∈ lw_tbl) (hdg : decode cc pc = .ok (.getfield index, 3)) (kk : W p l e R s m args below meth c H locs cells slots Q (F0 m (pc + 3) ls (.ref (wq w (k + 1)) :: rest))) : W p l e R s m args below meth c H locs cells slots Q (F0 m pc ls (.ref (wq w k) :: rest)) := gF E I hin5 hr.1 ((ce_o hr.2).trans rfl) rfl 0 (by decide) (Ew E hl rfl) rfl rfl hdg kk
theorem g_Tape_length (E : En w p m c cc nL s args own) (I : Wo w g H0 v H locs) (hr : isK w k 5) (hl : Cond.fieldLink own index "StarWalk$Tape" "length" "I" ∈ lw_tbl) (hdg : decode cc pc = .ok (.getfield index, 3)) (kk : W p l e R s m args below meth c H locs cells slots Q (F0 m (pc + 3) ls (.int (v.1 k 1) :: rest))) : W p l e R s m args below meth c H locs cells slots Q (F0 m pc ls (.ref (wq w k) :: rest)) := gF E I hin5 hr.1 ((ce_o hr.2).trans rfl) rfl 1 (by decide) (Ew E hl rfl) rfl rfl hdg kk
theorem p_Tape_length (E : En w p m c cc nL s args own) (I : Wo w g H0 v H locs) (hr : isK w k 5) (hl : Cond.fieldLink own index "StarWalk$Tape" "length" "I" ∈ lw_tbl) {x : Int32} (hx : 0 ≤ x.toInt ∧ x.toInt ≤ 160) (hdg : decode cc pc = .ok (.putfield index, 3)) (kk : ∀ (H1 : Heap) (locs1 : List Loc), Wo w g H0 (up1 v k 1 x) H1 locs1 → W p l e R s m args below meth c H1 locs1 cells slots Q (F0 m (pc + 3) ls rest)) : W p l e R s m args below meth c H locs cells slots Q (F0 m pc ls (.int x :: .ref (wq w k) :: rest)) := pF E I hin5 tyX5 tyX5_ok nmX5 hr.1 ((ce_o hr.2).trans rfl) rfl 1 (by decide) (Ew E hl rfl) rfl rfl (ty := .int) (by decide +kernel) rfl rfl (by show 1 < 10; decide) (v' := up1 v k 1 x) (by rw [ce_o hr.2, up1_k]; rfl) (up1_o v k 1 x) (fun _ _ => rfl) (I.2.2.put hr.2 (by simp only [okk]; omega) rfl) hdg kk
theorem r_Tape_length (I : Wo w g H0 v H locs) (hr : isK w k 5) : 0 ≤ (v.1 k 1).toInt ∧ (v.1 k 1).toInt ≤ 160 := by
  have h := (I.2.2 k 1).1
  rw [hr.2] at h
  simpa [okk] using h
theorem g_Tape_draft (E : En w p m c cc nL s args own) (I : Wo w g H0 v H locs) (hr : isK w k 5) (hl : Cond.fieldLink own index "StarWalk$Tape" "draft" "LStarWalk$Night;" ∈ lw_tbl) (hdg : decode cc pc = .ok (.getfield index, 3)) (kk : W p l e R s m args below meth c H locs cells slots Q (F0 m (pc + 3) ls (.ref (wq w (k + 2)) :: rest))) : W p l e R s m args below meth c H locs cells slots Q (F0 m pc ls (.ref (wq w k) :: rest)) := gF E I hin5 hr.1 ((ce_o hr.2).trans rfl) rfl 2 (by decide) (Ew E hl rfl) rfl rfl hdg kk
theorem g_Tape_kind (E : En w p m c cc nL s args own) (I : Wo w g H0 v H locs) (hr : isK w k 5) (hl : Cond.fieldLink own index "StarWalk$Tape" "kind" "I" ∈ lw_tbl) (hdg : decode cc pc = .ok (.getfield index, 3)) (kk : W p l e R s m args below meth c H locs cells slots Q (F0 m (pc + 3) ls (.int (v.1 k 3) :: rest))) : W p l e R s m args below meth c H locs cells slots Q (F0 m pc ls (.ref (wq w k) :: rest)) := gF E I hin5 hr.1 ((ce_o hr.2).trans rfl) rfl 3 (by decide) (Ew E hl rfl) rfl rfl hdg kk
theorem p_Tape_kind (E : En w p m c cc nL s args own) (I : Wo w g H0 v H locs) (hr : isK w k 5) (hl : Cond.fieldLink own index "StarWalk$Tape" "kind" "I" ∈ lw_tbl) {x : Int32} (hdg : decode cc pc = .ok (.putfield index, 3)) (kk : ∀ (H1 : Heap) (locs1 : List Loc), Wo w g H0 (up1 v k 3 x) H1 locs1 → W p l e R s m args below meth c H1 locs1 cells slots Q (F0 m (pc + 3) ls rest)) : W p l e R s m args below meth c H locs cells slots Q (F0 m pc ls (.int x :: .ref (wq w k) :: rest)) := pF E I hin5 tyX5 tyX5_ok nmX5 hr.1 ((ce_o hr.2).trans rfl) rfl 3 (by decide) (Ew E hl rfl) rfl rfl (ty := .int) (by decide +kernel) rfl rfl (by show 3 < 10; decide) (v' := up1 v k 3 x) (by rw [ce_o hr.2, up1_k]; rfl) (up1_o v k 3 x) (fun _ _ => rfl) (I.2.2.put hr.2 (by simp [okk]) rfl) hdg kk
theorem g_Tape_first (E : En w p m c cc nL s args own) (I : Wo w g H0 v H locs) (hr : isK w k 5) (hl : Cond.fieldLink own index "StarWalk$Tape" "first" "I" ∈ lw_tbl) (hdg : decode cc pc = .ok (.getfield index, 3)) (kk : W p l e R s m args below meth c H locs cells slots Q (F0 m (pc + 3) ls (.int (v.1 k 4) :: rest))) : W p l e R s m args below meth c H locs cells slots Q (F0 m pc ls (.ref (wq w k) :: rest)) := gF E I hin5 hr.1 ((ce_o hr.2).trans rfl) rfl 4 (by decide) (Ew E hl rfl) rfl rfl hdg kk
theorem p_Tape_first (E : En w p m c cc nL s args own) (I : Wo w g H0 v H locs) (hr : isK w k 5) (hl : Cond.fieldLink own index "StarWalk$Tape" "first" "I" ∈ lw_tbl) {x : Int32} (hdg : decode cc pc = .ok (.putfield index, 3)) (kk : ∀ (H1 : Heap) (locs1 : List Loc), Wo w g H0 (up1 v k 4 x) H1 locs1 → W p l e R s m args below meth c H1 locs1 cells slots Q (F0 m (pc + 3) ls rest)) : W p l e R s m args below meth c H locs cells slots Q (F0 m pc ls (.int x :: .ref (wq w k) :: rest)) := pF E I hin5 tyX5 tyX5_ok nmX5 hr.1 ((ce_o hr.2).trans rfl) rfl 4 (by decide) (Ew E hl rfl) rfl rfl (ty := .int) (by decide +kernel) rfl rfl (by show 4 < 10; decide) (v' := up1 v k 4 x) (by rw [ce_o hr.2, up1_k]; rfl) (up1_o v k 4 x) (fun _ _ => rfl) (I.2.2.put hr.2 (by simp [okk]) rfl) hdg kk
theorem g_Tape_behind (E : En w p m c cc nL s args own) (I : Wo w g H0 v H locs) (hr : isK w k 5) (hl : Cond.fieldLink own index "StarWalk$Tape" "behind" "I" ∈ lw_tbl) (hdg : decode cc pc = .ok (.getfield index, 3)) (kk : W p l e R s m args below meth c H locs cells slots Q (F0 m (pc + 3) ls (.int (v.1 k 5) :: rest))) : W p l e R s m args below meth c H locs cells slots Q (F0 m pc ls (.ref (wq w k) :: rest)) := gF E I hin5 hr.1 ((ce_o hr.2).trans rfl) rfl 5 (by decide) (Ew E hl rfl) rfl rfl hdg kk
theorem p_Tape_behind (E : En w p m c cc nL s args own) (I : Wo w g H0 v H locs) (hr : isK w k 5) (hl : Cond.fieldLink own index "StarWalk$Tape" "behind" "I" ∈ lw_tbl) {x : Int32} (hdg : decode cc pc = .ok (.putfield index, 3)) (kk : ∀ (H1 : Heap) (locs1 : List Loc), Wo w g H0 (up1 v k 5 x) H1 locs1 → W p l e R s m args below meth c H1 locs1 cells slots Q (F0 m (pc + 3) ls rest)) : W p l e R s m args below meth c H locs cells slots Q (F0 m pc ls (.int x :: .ref (wq w k) :: rest)) := pF E I hin5 tyX5 tyX5_ok nmX5 hr.1 ((ce_o hr.2).trans rfl) rfl 5 (by decide) (Ew E hl rfl) rfl rfl (ty := .int) (by decide +kernel) rfl rfl (by show 5 < 10; decide) (v' := up1 v k 5 x) (by rw [ce_o hr.2, up1_k]; rfl) (up1_o v k 5 x) (fun _ _ => rfl) (I.2.2.put hr.2 (by simp [okk]) rfl) hdg kk
theorem g_Tape_value (E : En w p m c cc nL s args own) (I : Wo w g H0 v H locs) (hr : isK w k 5) (hl : Cond.fieldLink own index "StarWalk$Tape" "value" "I" ∈ lw_tbl) (hdg : decode cc pc = .ok (.getfield index, 3)) (kk : W p l e R s m args below meth c H locs cells slots Q (F0 m (pc + 3) ls (.int (v.1 k 6) :: rest))) : W p l e R s m args below meth c H locs cells slots Q (F0 m pc ls (.ref (wq w k) :: rest)) := gF E I hin5 hr.1 ((ce_o hr.2).trans rfl) rfl 6 (by decide) (Ew E hl rfl) rfl rfl hdg kk
theorem p_Tape_value (E : En w p m c cc nL s args own) (I : Wo w g H0 v H locs) (hr : isK w k 5) (hl : Cond.fieldLink own index "StarWalk$Tape" "value" "I" ∈ lw_tbl) {x : Int32} (hdg : decode cc pc = .ok (.putfield index, 3)) (kk : ∀ (H1 : Heap) (locs1 : List Loc), Wo w g H0 (up1 v k 6 x) H1 locs1 → W p l e R s m args below meth c H1 locs1 cells slots Q (F0 m (pc + 3) ls rest)) : W p l e R s m args below meth c H locs cells slots Q (F0 m pc ls (.int x :: .ref (wq w k) :: rest)) := pF E I hin5 tyX5 tyX5_ok nmX5 hr.1 ((ce_o hr.2).trans rfl) rfl 6 (by decide) (Ew E hl rfl) rfl rfl (ty := .int) (by decide +kernel) rfl rfl (by show 6 < 10; decide) (v' := up1 v k 6 x) (by rw [ce_o hr.2, up1_k]; rfl) (up1_o v k 6 x) (fun _ _ => rfl) (I.2.2.put hr.2 (by simp [okk]) rfl) hdg kk
theorem g_Tape_linesTold (E : En w p m c cc nL s args own) (I : Wo w g H0 v H locs) (hr : isK w k 5) (hl : Cond.fieldLink own index "StarWalk$Tape" "linesTold" "I" ∈ lw_tbl) (hdg : decode cc pc = .ok (.getfield index, 3)) (kk : W p l e R s m args below meth c H locs cells slots Q (F0 m (pc + 3) ls (.int (v.1 k 7) :: rest))) : W p l e R s m args below meth c H locs cells slots Q (F0 m pc ls (.ref (wq w k) :: rest)) := gF E I hin5 hr.1 ((ce_o hr.2).trans rfl) rfl 7 (by decide) (Ew E hl rfl) rfl rfl hdg kk
theorem p_Tape_linesTold (E : En w p m c cc nL s args own) (I : Wo w g H0 v H locs) (hr : isK w k 5) (hl : Cond.fieldLink own index "StarWalk$Tape" "linesTold" "I" ∈ lw_tbl) {x : Int32} (hdg : decode cc pc = .ok (.putfield index, 3)) (kk : ∀ (H1 : Heap) (locs1 : List Loc), Wo w g H0 (up1 v k 7 x) H1 locs1 → W p l e R s m args below meth c H1 locs1 cells slots Q (F0 m (pc + 3) ls rest)) : W p l e R s m args below meth c H locs cells slots Q (F0 m pc ls (.int x :: .ref (wq w k) :: rest)) := pF E I hin5 tyX5 tyX5_ok nmX5 hr.1 ((ce_o hr.2).trans rfl) rfl 7 (by decide) (Ew E hl rfl) rfl rfl (ty := .int) (by decide +kernel) rfl rfl (by show 7 < 10; decide) (v' := up1 v k 7 x) (by rw [ce_o hr.2, up1_k]; rfl) (up1_o v k 7 x) (fun _ _ => rfl) (I.2.2.put hr.2 (by simp [okk]) rfl) hdg kk
theorem g_Tape_found (E : En w p m c cc nL s args own) (I : Wo w g H0 v H locs) (hr : isK w k 5) (hl : Cond.fieldLink own index "StarWalk$Tape" "found" "I" ∈ lw_tbl) (hdg : decode cc pc = .ok (.getfield index, 3)) (kk : W p l e R s m args below meth c H locs cells slots Q (F0 m (pc + 3) ls (.int (v.1 k 8) :: rest))) : W p l e R s m args below meth c H locs cells slots Q (F0 m pc ls (.ref (wq w k) :: rest)) := gF E I hin5 hr.1 ((ce_o hr.2).trans rfl) rfl 8 (by decide) (Ew E hl rfl) rfl rfl hdg kk
theorem p_Tape_found (E : En w p m c cc nL s args own) (I : Wo w g H0 v H locs) (hr : isK w k 5) (hl : Cond.fieldLink own index "StarWalk$Tape" "found" "I" ∈ lw_tbl) {x : Int32} (hdg : decode cc pc = .ok (.putfield index, 3)) (kk : ∀ (H1 : Heap) (locs1 : List Loc), Wo w g H0 (up1 v k 8 x) H1 locs1 → W p l e R s m args below meth c H1 locs1 cells slots Q (F0 m (pc + 3) ls rest)) : W p l e R s m args below meth c H locs cells slots Q (F0 m pc ls (.int x :: .ref (wq w k) :: rest)) := pF E I hin5 tyX5 tyX5_ok nmX5 hr.1 ((ce_o hr.2).trans rfl) rfl 8 (by decide) (Ew E hl rfl) rfl rfl (ty := .int) (by decide +kernel) rfl rfl (by show 8 < 10; decide) (v' := up1 v k 8 x) (by rw [ce_o hr.2, up1_k]; rfl) (up1_o v k 8 x) (fun _ _ => rfl) (I.2.2.put hr.2 (by simp [okk]) rfl) hdg kk
theorem g_Tape_foundAt (E : En w p m c cc nL s args own) (I : Wo w g H0 v H locs) (hr : isK w k 5) (hl : Cond.fieldLink own index "StarWalk$Tape" "foundAt" "I" ∈ lw_tbl) (hdg : decode cc pc = .ok (.getfield index, 3)) (kk : W p l e R s m args below meth c H locs cells slots Q (F0 m (pc + 3) ls (.int (v.1 k 9) :: rest))) : W p l e R s m args below meth c H locs cells slots Q (F0 m pc ls (.ref (wq w k) :: rest)) := gF E I hin5 hr.1 ((ce_o hr.2).trans rfl) rfl 9 (by decide) (Ew E hl rfl) rfl rfl hdg kk
theorem p_Tape_foundAt (E : En w p m c cc nL s args own) (I : Wo w g H0 v H locs) (hr : isK w k 5) (hl : Cond.fieldLink own index "StarWalk$Tape" "foundAt" "I" ∈ lw_tbl) {x : Int32} (hdg : decode cc pc = .ok (.putfield index, 3)) (kk : ∀ (H1 : Heap) (locs1 : List Loc), Wo w g H0 (up1 v k 9 x) H1 locs1 → W p l e R s m args below meth c H1 locs1 cells slots Q (F0 m (pc + 3) ls rest)) : W p l e R s m args below meth c H locs cells slots Q (F0 m pc ls (.int x :: .ref (wq w k) :: rest)) := pF E I hin5 tyX5 tyX5_ok nmX5 hr.1 ((ce_o hr.2).trans rfl) rfl 9 (by decide) (Ew E hl rfl) rfl rfl (ty := .int) (by decide +kernel) rfl rfl (by show 9 < 10; decide) (v' := up1 v k 9 x) (by rw [ce_o hr.2, up1_k]; rfl) (up1_o v k 9 x) (fun _ _ => rfl) (I.2.2.put hr.2 (by simp [okk]) rfl) hdg kk
theorem g_Trial_night (E : En w p m c cc nL s args own) (I : Wo w g H0 v H locs) (hr : isK w k 6) (hl : Cond.fieldLink own index "StarWalk$Trial" "night" "LStarWalk$Night;" ∈ lw_tbl) (hdg : decode cc pc = .ok (.getfield index, 3)) (kk : W p l e R s m args below meth c H locs cells slots Q (F0 m (pc + 3) ls (.ref (wq w (k + 1)) :: rest))) : W p l e R s m args below meth c H locs cells slots Q (F0 m pc ls (.ref (wq w k) :: rest)) := gF E I hin6 hr.1 ((ce_o hr.2).trans rfl) rfl 0 (by decide) (Ew E hl rfl) rfl rfl hdg kk
theorem g_Trial_sides (E : En w p m c cc nL s args own) (I : Wo w g H0 v H locs) (hr : isK w k 6) (hl : Cond.fieldLink own index "StarWalk$Trial" "sides" "[I" ∈ lw_tbl) (hdg : decode cc pc = .ok (.getfield index, 3)) (kk : W p l e R s m args below meth c H locs cells slots Q (F0 m (pc + 3) ls (.ref (wq w (k + 10)) :: rest))) : W p l e R s m args below meth c H locs cells slots Q (F0 m pc ls (.ref (wq w k) :: rest)) := gF E I hin6 hr.1 ((ce_o hr.2).trans rfl) rfl 1 (by decide) (Ew E hl rfl) rfl rfl hdg kk
theorem g_Trial_blindSteps (E : En w p m c cc nL s args own) (I : Wo w g H0 v H locs) (hr : isK w k 6) (hl : Cond.fieldLink own index "StarWalk$Trial" "blindSteps" "I" ∈ lw_tbl) (hdg : decode cc pc = .ok (.getfield index, 3)) (kk : W p l e R s m args below meth c H locs cells slots Q (F0 m (pc + 3) ls (.int (v.1 k 2) :: rest))) : W p l e R s m args below meth c H locs cells slots Q (F0 m pc ls (.ref (wq w k) :: rest)) := gF E I hin6 hr.1 ((ce_o hr.2).trans rfl) rfl 2 (by decide) (Ew E hl rfl) rfl rfl hdg kk
theorem p_Trial_blindSteps (E : En w p m c cc nL s args own) (I : Wo w g H0 v H locs) (hr : isK w k 6) (hl : Cond.fieldLink own index "StarWalk$Trial" "blindSteps" "I" ∈ lw_tbl) {x : Int32} (hdg : decode cc pc = .ok (.putfield index, 3)) (kk : ∀ (H1 : Heap) (locs1 : List Loc), Wo w g H0 (up1 v k 2 x) H1 locs1 → W p l e R s m args below meth c H1 locs1 cells slots Q (F0 m (pc + 3) ls rest)) : W p l e R s m args below meth c H locs cells slots Q (F0 m pc ls (.int x :: .ref (wq w k) :: rest)) := pF E I hin6 tyX6 tyX6_ok nmX6 hr.1 ((ce_o hr.2).trans rfl) rfl 2 (by decide) (Ew E hl rfl) rfl rfl (ty := .int) (by decide +kernel) rfl rfl (by show 2 < 4; decide) (v' := up1 v k 2 x) (by rw [ce_o hr.2, up1_k]; rfl) (up1_o v k 2 x) (fun _ _ => rfl) (I.2.2.put hr.2 (by simp [okk]) rfl) hdg kk
theorem g_Trial_firstRefused (E : En w p m c cc nL s args own) (I : Wo w g H0 v H locs) (hr : isK w k 6) (hl : Cond.fieldLink own index "StarWalk$Trial" "firstRefused" "I" ∈ lw_tbl) (hdg : decode cc pc = .ok (.getfield index, 3)) (kk : W p l e R s m args below meth c H locs cells slots Q (F0 m (pc + 3) ls (.int (v.1 k 3) :: rest))) : W p l e R s m args below meth c H locs cells slots Q (F0 m pc ls (.ref (wq w k) :: rest)) := gF E I hin6 hr.1 ((ce_o hr.2).trans rfl) rfl 3 (by decide) (Ew E hl rfl) rfl rfl hdg kk
theorem p_Trial_firstRefused (E : En w p m c cc nL s args own) (I : Wo w g H0 v H locs) (hr : isK w k 6) (hl : Cond.fieldLink own index "StarWalk$Trial" "firstRefused" "I" ∈ lw_tbl) {x : Int32} (hdg : decode cc pc = .ok (.putfield index, 3)) (kk : ∀ (H1 : Heap) (locs1 : List Loc), Wo w g H0 (up1 v k 3 x) H1 locs1 → W p l e R s m args below meth c H1 locs1 cells slots Q (F0 m (pc + 3) ls rest)) : W p l e R s m args below meth c H locs cells slots Q (F0 m pc ls (.int x :: .ref (wq w k) :: rest)) := pF E I hin6 tyX6 tyX6_ok nmX6 hr.1 ((ce_o hr.2).trans rfl) rfl 3 (by decide) (Ew E hl rfl) rfl rfl (ty := .int) (by decide +kernel) rfl rfl (by show 3 < 4; decide) (v' := up1 v k 3 x) (by rw [ce_o hr.2, up1_k]; rfl) (up1_o v k 3 x) (fun _ _ => rfl) (I.2.2.put hr.2 (by simp [okk]) rfl) hdg kk
theorem g_StarWalk_tape (E : En w p m c cc nL s args own) (I : Wo w g H0 v H locs) (hr : isK w k 7) (hl : Cond.fieldLink own index "StarWalk" "tape" "LStarWalk$Tape;" ∈ lw_tbl) (hdg : decode cc pc = .ok (.getfield index, 3)) (kk : W p l e R s m args below meth c H locs cells slots Q (F0 m (pc + 3) ls (.ref (wq w (k + 1)) :: rest))) : W p l e R s m args below meth c H locs cells slots Q (F0 m pc ls (.ref (wq w k) :: rest)) := gF E I hin7 hr.1 ((ce_o hr.2).trans rfl) rfl 0 (by decide) (Ew E hl rfl) rfl rfl hdg kk
theorem g_StarWalk_now (E : En w p m c cc nL s args own) (I : Wo w g H0 v H locs) (hr : isK w k 7) (hl : Cond.fieldLink own index "StarWalk" "now" "LStarWalk$Night;" ∈ lw_tbl) (hdg : decode cc pc = .ok (.getfield index, 3)) (kk : W p l e R s m args below meth c H locs cells slots Q (F0 m (pc + 3) ls (.ref (wq w (k + 12)) :: rest))) : W p l e R s m args below meth c H locs cells slots Q (F0 m pc ls (.ref (wq w k) :: rest)) := gF E I hin7 hr.1 ((ce_o hr.2).trans rfl) rfl 1 (by decide) (Ew E hl rfl) rfl rfl hdg kk
theorem g_StarWalk_trial (E : En w p m c cc nL s args own) (I : Wo w g H0 v H locs) (hr : isK w k 7) (hl : Cond.fieldLink own index "StarWalk" "trial" "LStarWalk$Trial;" ∈ lw_tbl) (hdg : decode cc pc = .ok (.getfield index, 3)) (kk : W p l e R s m args below meth c H locs cells slots Q (F0 m (pc + 3) ls (.ref (wq w (k + 21)) :: rest))) : W p l e R s m args below meth c H locs cells slots Q (F0 m pc ls (.ref (wq w k) :: rest)) := gF E I hin7 hr.1 ((ce_o hr.2).trans rfl) rfl 2 (by decide) (Ew E hl rfl) rfl rfl hdg kk
theorem g_StarWalk_search (E : En w p m c cc nL s args own) (I : Wo w g H0 v H locs) (hr : isK w k 7) (hl : Cond.fieldLink own index "StarWalk" "search" "LStarWalk$Search;" ∈ lw_tbl) (hdg : decode cc pc = .ok (.getfield index, 3)) (kk : W p l e R s m args below meth c H locs cells slots Q (F0 m (pc + 3) ls (.ref (wq w (k + 32)) :: rest))) : W p l e R s m args below meth c H locs cells slots Q (F0 m pc ls (.ref (wq w k) :: rest)) := gF E I hin7 hr.1 ((ce_o hr.2).trans rfl) rfl 3 (by decide) (Ew E hl rfl) rfl rfl hdg kk
theorem g_StarWalk_odds (E : En w p m c cc nL s args own) (I : Wo w g H0 v H locs) (hr : isK w k 7) (hl : Cond.fieldLink own index "StarWalk" "odds" "LStarWalk$Odds;" ∈ lw_tbl) (hdg : decode cc pc = .ok (.getfield index, 3)) (kk : W p l e R s m args below meth c H locs cells slots Q (F0 m (pc + 3) ls (.ref (wq w (k + 41)) :: rest))) : W p l e R s m args below meth c H locs cells slots Q (F0 m pc ls (.ref (wq w k) :: rest)) := gF E I hin7 hr.1 ((ce_o hr.2).trans rfl) rfl 4 (by decide) (Ew E hl rfl) rfl rfl hdg kk
theorem g_StarWalk_scratch (E : En w p m c cc nL s args own) (I : Wo w g H0 v H locs) (hr : isK w k 7) (hl : Cond.fieldLink own index "StarWalk" "scratch" "LStarWalk$Place;" ∈ lw_tbl) (hdg : decode cc pc = .ok (.getfield index, 3)) (kk : W p l e R s m args below meth c H locs cells slots Q (F0 m (pc + 3) ls (.ref (wq w (k + 61)) :: rest))) : W p l e R s m args below meth c H locs cells slots Q (F0 m pc ls (.ref (wq w k) :: rest)) := gF E I hin7 hr.1 ((ce_o hr.2).trans rfl) rfl 5 (by decide) (Ew E hl rfl) rfl rfl hdg kk
theorem g_StarWalk_images (E : En w p m c cc nL s args own) (I : Wo w g H0 v H locs) (hr : isK w k 7) (hl : Cond.fieldLink own index "StarWalk" "images" "[LStarWalk$Night;" ∈ lw_tbl) (hdg : decode cc pc = .ok (.getfield index, 3)) (kk : W p l e R s m args below meth c H locs cells slots Q (F0 m (pc + 3) ls (.ref (wq w (k + 62)) :: rest))) : W p l e R s m args below meth c H locs cells slots Q (F0 m pc ls (.ref (wq w k) :: rest)) := gF E I hin7 hr.1 ((ce_o hr.2).trans rfl) rfl 6 (by decide) (Ew E hl rfl) rfl rfl hdg kk
theorem g_StarWalk_kept (E : En w p m c cc nL s args own) (I : Wo w g H0 v H locs) (hr : isK w k 7) (hl : Cond.fieldLink own index "StarWalk" "kept" "[Z" ∈ lw_tbl) (hdg : decode cc pc = .ok (.getfield index, 3)) (kk : W p l e R s m args below meth c H locs cells slots Q (F0 m (pc + 3) ls (.ref (wq w (k + 63)) :: rest))) : W p l e R s m args below meth c H locs cells slots Q (F0 m pc ls (.ref (wq w k) :: rest)) := gF E I hin7 hr.1 ((ce_o hr.2).trans rfl) rfl 7 (by decide) (Ew E hl rfl) rfl rfl hdg kk
theorem g_StarWalk_sheets (E : En w p m c cc nL s args own) (I : Wo w g H0 v H locs) (hr : isK w k 7) (hl : Cond.fieldLink own index "StarWalk" "sheets" "[LStarWalk$Sheet;" ∈ lw_tbl) (hdg : decode cc pc = .ok (.getfield index, 3)) (kk : W p l e R s m args below meth c H locs cells slots Q (F0 m (pc + 3) ls (.ref (wq w (k + 64)) :: rest))) : W p l e R s m args below meth c H locs cells slots Q (F0 m pc ls (.ref (wq w k) :: rest)) := gF E I hin7 hr.1 ((ce_o hr.2).trans rfl) rfl 8 (by decide) (Ew E hl rfl) rfl rfl hdg kk
theorem g_StarWalk_latestFault (E : En w p m c cc nL s args own) (I : Wo w g H0 v H locs) (hr : isK w k 7) (hl : Cond.fieldLink own index "StarWalk" "latestFault" "I" ∈ lw_tbl) (hdg : decode cc pc = .ok (.getfield index, 3)) (kk : W p l e R s m args below meth c H locs cells slots Q (F0 m (pc + 3) ls (.int (v.1 k 9) :: rest))) : W p l e R s m args below meth c H locs cells slots Q (F0 m pc ls (.ref (wq w k) :: rest)) := gF E I hin7 hr.1 ((ce_o hr.2).trans rfl) rfl 9 (by decide) (Ew E hl rfl) rfl rfl hdg kk
theorem p_StarWalk_latestFault (E : En w p m c cc nL s args own) (I : Wo w g H0 v H locs) (hr : isK w k 7) (hl : Cond.fieldLink own index "StarWalk" "latestFault" "I" ∈ lw_tbl) {x : Int32} (hdg : decode cc pc = .ok (.putfield index, 3)) (kk : ∀ (H1 : Heap) (locs1 : List Loc), Wo w g H0 (up1 v k 9 x) H1 locs1 → W p l e R s m args below meth c H1 locs1 cells slots Q (F0 m (pc + 3) ls rest)) : W p l e R s m args below meth c H locs cells slots Q (F0 m pc ls (.int x :: .ref (wq w k) :: rest)) := pF E I hin7 tyX7 tyX7_ok nmX7 hr.1 ((ce_o hr.2).trans rfl) rfl 9 (by decide) (Ew E hl rfl) rfl rfl (ty := .int) (by decide +kernel) rfl rfl (by show 9 < 11; decide) (v' := up1 v k 9 x) (by rw [ce_o hr.2, up1_k]; rfl) (up1_o v k 9 x) (fun _ _ => rfl) (I.2.2.put hr.2 (by simp [okk]) rfl) hdg kk
theorem g_StarWalk_latestTear (E : En w p m c cc nL s args own) (I : Wo w g H0 v H locs) (hr : isK w k 7) (hl : Cond.fieldLink own index "StarWalk" "latestTear" "I" ∈ lw_tbl) (hdg : decode cc pc = .ok (.getfield index, 3)) (kk : W p l e R s m args below meth c H locs cells slots Q (F0 m (pc + 3) ls (.int (v.1 k 10) :: rest))) : W p l e R s m args below meth c H locs cells slots Q (F0 m pc ls (.ref (wq w k) :: rest)) := gF E I hin7 hr.1 ((ce_o hr.2).trans rfl) rfl 10 (by decide) (Ew E hl rfl) rfl rfl hdg kk
theorem p_StarWalk_latestTear (E : En w p m c cc nL s args own) (I : Wo w g H0 v H locs) (hr : isK w k 7) (hl : Cond.fieldLink own index "StarWalk" "latestTear" "I" ∈ lw_tbl) {x : Int32} (hdg : decode cc pc = .ok (.putfield index, 3)) (kk : ∀ (H1 : Heap) (locs1 : List Loc), Wo w g H0 (up1 v k 10 x) H1 locs1 → W p l e R s m args below meth c H1 locs1 cells slots Q (F0 m (pc + 3) ls rest)) : W p l e R s m args below meth c H locs cells slots Q (F0 m pc ls (.int x :: .ref (wq w k) :: rest)) := pF E I hin7 tyX7 tyX7_ok nmX7 hr.1 ((ce_o hr.2).trans rfl) rfl 10 (by decide) (Ew E hl rfl) rfl rfl (ty := .int) (by decide +kernel) rfl rfl (by show 10 < 11; decide) (v' := up1 v k 10 x) (by rw [ce_o hr.2, up1_k]; rfl) (up1_o v k 10 x) (fun _ _ => rfl) (I.2.2.put hr.2 (by simp [okk]) rfl) hdg kk
theorem g_StarWalkModel_st (E : En w p m c cc nL s args own) (I : Wo w g H0 v H locs) (hr : isK w k 8) (hl : Cond.fieldLink own index "StarWalkModel" "st" "[I" ∈ lw_tbl) (hdg : decode cc pc = .ok (.getfield index, 3)) (kk : W p l e R s m args below meth c H locs cells slots Q (F0 m (pc + 3) ls (.ref (wq w (k + 1)) :: rest))) : W p l e R s m args below meth c H locs cells slots Q (F0 m pc ls (.ref (wq w k) :: rest)) := gF E I hin8 hr.1 ((ce_o hr.2).trans rfl) rfl 0 (by decide) (Ew E hl rfl) rfl rfl hdg kk
theorem g_StarWalkModel_at (E : En w p m c cc nL s args own) (I : Wo w g H0 v H locs) (hr : isK w k 8) (hl : Cond.fieldLink own index "StarWalkModel" "at" "[I" ∈ lw_tbl) (hdg : decode cc pc = .ok (.getfield index, 3)) (kk : W p l e R s m args below meth c H locs cells slots Q (F0 m (pc + 3) ls (.ref (wq w (k + 2)) :: rest))) : W p l e R s m args below meth c H locs cells slots Q (F0 m pc ls (.ref (wq w k) :: rest)) := gF E I hin8 hr.1 ((ce_o hr.2).trans rfl) rfl 1 (by decide) (Ew E hl rfl) rfl rfl hdg kk
theorem g_StarWalkModel_isKept (E : En w p m c cc nL s args own) (I : Wo w g H0 v H locs) (hr : isK w k 8) (hl : Cond.fieldLink own index "StarWalkModel" "isKept" "[Z" ∈ lw_tbl) (hdg : decode cc pc = .ok (.getfield index, 3)) (kk : W p l e R s m args below meth c H locs cells slots Q (F0 m (pc + 3) ls (.ref (wq w (k + 3)) :: rest))) : W p l e R s m args below meth c H locs cells slots Q (F0 m pc ls (.ref (wq w k) :: rest)) := gF E I hin8 hr.1 ((ce_o hr.2).trans rfl) rfl 2 (by decide) (Ew E hl rfl) rfl rfl hdg kk
theorem g_StarWalkModel_stars (E : En w p m c cc nL s args own) (I : Wo w g H0 v H locs) (hr : isK w k 8) (hl : Cond.fieldLink own index "StarWalkModel" "stars" "I" ∈ lw_tbl) (hdg : decode cc pc = .ok (.getfield index, 3)) (kk : W p l e R s m args below meth c H locs cells slots Q (F0 m (pc + 3) ls (.int (v.1 k 3) :: rest))) : W p l e R s m args below meth c H locs cells slots Q (F0 m pc ls (.ref (wq w k) :: rest)) := gF E I hin8 hr.1 ((ce_o hr.2).trans rfl) rfl 3 (by decide) (Ew E hl rfl) rfl rfl hdg kk
theorem p_StarWalkModel_stars (E : En w p m c cc nL s args own) (I : Wo w g H0 v H locs) (hr : isK w k 8) (hl : Cond.fieldLink own index "StarWalkModel" "stars" "I" ∈ lw_tbl) {x : Int32} (hx : 0 ≤ x.toInt ∧ x.toInt ≤ 5) (hdg : decode cc pc = .ok (.putfield index, 3)) (kk : ∀ (H1 : Heap) (locs1 : List Loc), Wo w g H0 (up1 v k 3 x) H1 locs1 → W p l e R s m args below meth c H1 locs1 cells slots Q (F0 m (pc + 3) ls rest)) : W p l e R s m args below meth c H locs cells slots Q (F0 m pc ls (.int x :: .ref (wq w k) :: rest)) := pF E I hin8 tyX8 tyX8_ok nmX8 hr.1 ((ce_o hr.2).trans rfl) rfl 3 (by decide) (Ew E hl rfl) rfl rfl (ty := .int) (by decide +kernel) rfl rfl (by show 3 < 31; decide) (v' := up1 v k 3 x) (by rw [ce_o hr.2, up1_k]; rfl) (up1_o v k 3 x) (fun _ _ => rfl) (I.2.2.put hr.2 (by simp only [okk]; omega) rfl) hdg kk
theorem r_StarWalkModel_stars (I : Wo w g H0 v H locs) (hr : isK w k 8) : 0 ≤ (v.1 k 3).toInt ∧ (v.1 k 3).toInt ≤ 5 := by
  have h := (I.2.2 k 3).1
  rw [hr.2] at h
  simpa [okk] using h
theorem g_StarWalkModel_walkers (E : En w p m c cc nL s args own) (I : Wo w g H0 v H locs) (hr : isK w k 8) (hl : Cond.fieldLink own index "StarWalkModel" "walkers" "I" ∈ lw_tbl) (hdg : decode cc pc = .ok (.getfield index, 3)) (kk : W p l e R s m args below meth c H locs cells slots Q (F0 m (pc + 3) ls (.int (v.1 k 4) :: rest))) : W p l e R s m args below meth c H locs cells slots Q (F0 m pc ls (.ref (wq w k) :: rest)) := gF E I hin8 hr.1 ((ce_o hr.2).trans rfl) rfl 4 (by decide) (Ew E hl rfl) rfl rfl hdg kk
theorem p_StarWalkModel_walkers (E : En w p m c cc nL s args own) (I : Wo w g H0 v H locs) (hr : isK w k 8) (hl : Cond.fieldLink own index "StarWalkModel" "walkers" "I" ∈ lw_tbl) {x : Int32} (hx : 0 ≤ x.toInt ∧ x.toInt ≤ 3) (hdg : decode cc pc = .ok (.putfield index, 3)) (kk : ∀ (H1 : Heap) (locs1 : List Loc), Wo w g H0 (up1 v k 4 x) H1 locs1 → W p l e R s m args below meth c H1 locs1 cells slots Q (F0 m (pc + 3) ls rest)) : W p l e R s m args below meth c H locs cells slots Q (F0 m pc ls (.int x :: .ref (wq w k) :: rest)) := pF E I hin8 tyX8 tyX8_ok nmX8 hr.1 ((ce_o hr.2).trans rfl) rfl 4 (by decide) (Ew E hl rfl) rfl rfl (ty := .int) (by decide +kernel) rfl rfl (by show 4 < 31; decide) (v' := up1 v k 4 x) (by rw [ce_o hr.2, up1_k]; rfl) (up1_o v k 4 x) (fun _ _ => rfl) (I.2.2.put hr.2 (by simp only [okk]; omega) rfl) hdg kk
theorem r_StarWalkModel_walkers (I : Wo w g H0 v H locs) (hr : isK w k 8) : 0 ≤ (v.1 k 4).toInt ∧ (v.1 k 4).toInt ≤ 3 := by
  have h := (I.2.2 k 4).1
  rw [hr.2] at h
  simpa [okk] using h
theorem g_StarWalkModel_draft (E : En w p m c cc nL s args own) (I : Wo w g H0 v H locs) (hr : isK w k 8) (hl : Cond.fieldLink own index "StarWalkModel" "draft" "[I" ∈ lw_tbl) (hdg : decode cc pc = .ok (.getfield index, 3)) (kk : W p l e R s m args below meth c H locs cells slots Q (F0 m (pc + 3) ls (.ref (wq w (k + 4)) :: rest))) : W p l e R s m args below meth c H locs cells slots Q (F0 m pc ls (.ref (wq w k) :: rest)) := gF E I hin8 hr.1 ((ce_o hr.2).trans rfl) rfl 5 (by decide) (Ew E hl rfl) rfl rfl hdg kk
theorem g_StarWalkModel_dStars (E : En w p m c cc nL s args own) (I : Wo w g H0 v H locs) (hr : isK w k 8) (hl : Cond.fieldLink own index "StarWalkModel" "dStars" "I" ∈ lw_tbl) (hdg : decode cc pc = .ok (.getfield index, 3)) (kk : W p l e R s m args below meth c H locs cells slots Q (F0 m (pc + 3) ls (.int (v.1 k 6) :: rest))) : W p l e R s m args below meth c H locs cells slots Q (F0 m pc ls (.ref (wq w k) :: rest)) := gF E I hin8 hr.1 ((ce_o hr.2).trans rfl) rfl 6 (by decide) (Ew E hl rfl) rfl rfl hdg kk
theorem p_StarWalkModel_dStars (E : En w p m c cc nL s args own) (I : Wo w g H0 v H locs) (hr : isK w k 8) (hl : Cond.fieldLink own index "StarWalkModel" "dStars" "I" ∈ lw_tbl) {x : Int32} (hx : 0 ≤ x.toInt ∧ x.toInt ≤ 5) (hdg : decode cc pc = .ok (.putfield index, 3)) (kk : ∀ (H1 : Heap) (locs1 : List Loc), Wo w g H0 (up1 v k 6 x) H1 locs1 → W p l e R s m args below meth c H1 locs1 cells slots Q (F0 m (pc + 3) ls rest)) : W p l e R s m args below meth c H locs cells slots Q (F0 m pc ls (.int x :: .ref (wq w k) :: rest)) := pF E I hin8 tyX8 tyX8_ok nmX8 hr.1 ((ce_o hr.2).trans rfl) rfl 6 (by decide) (Ew E hl rfl) rfl rfl (ty := .int) (by decide +kernel) rfl rfl (by show 6 < 31; decide) (v' := up1 v k 6 x) (by rw [ce_o hr.2, up1_k]; rfl) (up1_o v k 6 x) (fun _ _ => rfl) (I.2.2.put hr.2 (by simp only [okk]; omega) rfl) hdg kk
theorem r_StarWalkModel_dStars (I : Wo w g H0 v H locs) (hr : isK w k 8) : 0 ≤ (v.1 k 6).toInt ∧ (v.1 k 6).toInt ≤ 5 := by
  have h := (I.2.2 k 6).1
  rw [hr.2] at h
  simpa [okk] using h
theorem g_StarWalkModel_dWalkers (E : En w p m c cc nL s args own) (I : Wo w g H0 v H locs) (hr : isK w k 8) (hl : Cond.fieldLink own index "StarWalkModel" "dWalkers" "I" ∈ lw_tbl) (hdg : decode cc pc = .ok (.getfield index, 3)) (kk : W p l e R s m args below meth c H locs cells slots Q (F0 m (pc + 3) ls (.int (v.1 k 7) :: rest))) : W p l e R s m args below meth c H locs cells slots Q (F0 m pc ls (.ref (wq w k) :: rest)) := gF E I hin8 hr.1 ((ce_o hr.2).trans rfl) rfl 7 (by decide) (Ew E hl rfl) rfl rfl hdg kk
theorem p_StarWalkModel_dWalkers (E : En w p m c cc nL s args own) (I : Wo w g H0 v H locs) (hr : isK w k 8) (hl : Cond.fieldLink own index "StarWalkModel" "dWalkers" "I" ∈ lw_tbl) {x : Int32} (hx : 0 ≤ x.toInt ∧ x.toInt ≤ 3) (hdg : decode cc pc = .ok (.putfield index, 3)) (kk : ∀ (H1 : Heap) (locs1 : List Loc), Wo w g H0 (up1 v k 7 x) H1 locs1 → W p l e R s m args below meth c H1 locs1 cells slots Q (F0 m (pc + 3) ls rest)) : W p l e R s m args below meth c H locs cells slots Q (F0 m pc ls (.int x :: .ref (wq w k) :: rest)) := pF E I hin8 tyX8 tyX8_ok nmX8 hr.1 ((ce_o hr.2).trans rfl) rfl 7 (by decide) (Ew E hl rfl) rfl rfl (ty := .int) (by decide +kernel) rfl rfl (by show 7 < 31; decide) (v' := up1 v k 7 x) (by rw [ce_o hr.2, up1_k]; rfl) (up1_o v k 7 x) (fun _ _ => rfl) (I.2.2.put hr.2 (by simp only [okk]; omega) rfl) hdg kk
theorem r_StarWalkModel_dWalkers (I : Wo w g H0 v H locs) (hr : isK w k 8) : 0 ≤ (v.1 k 7).toInt ∧ (v.1 k 7).toInt ≤ 3 := by
  have h := (I.2.2 k 7).1
  rw [hr.2] at h
  simpa [okk] using h
theorem g_StarWalkModel_knownOnes (E : En w p m c cc nL s args own) (I : Wo w g H0 v H locs) (hr : isK w k 8) (hl : Cond.fieldLink own index "StarWalkModel" "knownOnes" "I" ∈ lw_tbl) (hdg : decode cc pc = .ok (.getfield index, 3)) (kk : W p l e R s m args below meth c H locs cells slots Q (F0 m (pc + 3) ls (.int (v.1 k 8) :: rest))) : W p l e R s m args below meth c H locs cells slots Q (F0 m pc ls (.ref (wq w k) :: rest)) := gF E I hin8 hr.1 ((ce_o hr.2).trans rfl) rfl 8 (by decide) (Ew E hl rfl) rfl rfl hdg kk
theorem p_StarWalkModel_knownOnes (E : En w p m c cc nL s args own) (I : Wo w g H0 v H locs) (hr : isK w k 8) (hl : Cond.fieldLink own index "StarWalkModel" "knownOnes" "I" ∈ lw_tbl) {x : Int32} (hdg : decode cc pc = .ok (.putfield index, 3)) (kk : ∀ (H1 : Heap) (locs1 : List Loc), Wo w g H0 (up1 v k 8 x) H1 locs1 → W p l e R s m args below meth c H1 locs1 cells slots Q (F0 m (pc + 3) ls rest)) : W p l e R s m args below meth c H locs cells slots Q (F0 m pc ls (.int x :: .ref (wq w k) :: rest)) := pF E I hin8 tyX8 tyX8_ok nmX8 hr.1 ((ce_o hr.2).trans rfl) rfl 8 (by decide) (Ew E hl rfl) rfl rfl (ty := .int) (by decide +kernel) rfl rfl (by show 8 < 31; decide) (v' := up1 v k 8 x) (by rw [ce_o hr.2, up1_k]; rfl) (up1_o v k 8 x) (fun _ _ => rfl) (I.2.2.put hr.2 (by simp [okk]) rfl) hdg kk
theorem g_StarWalkModel_toldLines (E : En w p m c cc nL s args own) (I : Wo w g H0 v H locs) (hr : isK w k 8) (hl : Cond.fieldLink own index "StarWalkModel" "toldLines" "I" ∈ lw_tbl) (hdg : decode cc pc = .ok (.getfield index, 3)) (kk : W p l e R s m args below meth c H locs cells slots Q (F0 m (pc + 3) ls (.int (v.1 k 9) :: rest))) : W p l e R s m args below meth c H locs cells slots Q (F0 m pc ls (.ref (wq w k) :: rest)) := gF E I hin8 hr.1 ((ce_o hr.2).trans rfl) rfl 9 (by decide) (Ew E hl rfl) rfl rfl hdg kk
theorem p_StarWalkModel_toldLines (E : En w p m c cc nL s args own) (I : Wo w g H0 v H locs) (hr : isK w k 8) (hl : Cond.fieldLink own index "StarWalkModel" "toldLines" "I" ∈ lw_tbl) {x : Int32} (hdg : decode cc pc = .ok (.putfield index, 3)) (kk : ∀ (H1 : Heap) (locs1 : List Loc), Wo w g H0 (up1 v k 9 x) H1 locs1 → W p l e R s m args below meth c H1 locs1 cells slots Q (F0 m (pc + 3) ls rest)) : W p l e R s m args below meth c H locs cells slots Q (F0 m pc ls (.int x :: .ref (wq w k) :: rest)) := pF E I hin8 tyX8 tyX8_ok nmX8 hr.1 ((ce_o hr.2).trans rfl) rfl 9 (by decide) (Ew E hl rfl) rfl rfl (ty := .int) (by decide +kernel) rfl rfl (by show 9 < 31; decide) (v' := up1 v k 9 x) (by rw [ce_o hr.2, up1_k]; rfl) (up1_o v k 9 x) (fun _ _ => rfl) (I.2.2.put hr.2 (by simp [okk]) rfl) hdg kk
theorem g_StarWalkModel_highest (E : En w p m c cc nL s args own) (I : Wo w g H0 v H locs) (hr : isK w k 8) (hl : Cond.fieldLink own index "StarWalkModel" "highest" "I" ∈ lw_tbl) (hdg : decode cc pc = .ok (.getfield index, 3)) (kk : W p l e R s m args below meth c H locs cells slots Q (F0 m (pc + 3) ls (.int (v.1 k 10) :: rest))) : W p l e R s m args below meth c H locs cells slots Q (F0 m pc ls (.ref (wq w k) :: rest)) := gF E I hin8 hr.1 ((ce_o hr.2).trans rfl) rfl 10 (by decide) (Ew E hl rfl) rfl rfl hdg kk
theorem p_StarWalkModel_highest (E : En w p m c cc nL s args own) (I : Wo w g H0 v H locs) (hr : isK w k 8) (hl : Cond.fieldLink own index "StarWalkModel" "highest" "I" ∈ lw_tbl) {x : Int32} (hdg : decode cc pc = .ok (.putfield index, 3)) (kk : ∀ (H1 : Heap) (locs1 : List Loc), Wo w g H0 (up1 v k 10 x) H1 locs1 → W p l e R s m args below meth c H1 locs1 cells slots Q (F0 m (pc + 3) ls rest)) : W p l e R s m args below meth c H locs cells slots Q (F0 m pc ls (.int x :: .ref (wq w k) :: rest)) := pF E I hin8 tyX8 tyX8_ok nmX8 hr.1 ((ce_o hr.2).trans rfl) rfl 10 (by decide) (Ew E hl rfl) rfl rfl (ty := .int) (by decide +kernel) rfl rfl (by show 10 < 31; decide) (v' := up1 v k 10 x) (by rw [ce_o hr.2, up1_k]; rfl) (up1_o v k 10 x) (fun _ _ => rfl) (I.2.2.put hr.2 (by simp [okk]) rfl) hdg kk
theorem g_StarWalkModel_tape (E : En w p m c cc nL s args own) (I : Wo w g H0 v H locs) (hr : isK w k 8) (hl : Cond.fieldLink own index "StarWalkModel" "tape" "[I" ∈ lw_tbl) (hdg : decode cc pc = .ok (.getfield index, 3)) (kk : W p l e R s m args below meth c H locs cells slots Q (F0 m (pc + 3) ls (.ref (wq w (k + 5)) :: rest))) : W p l e R s m args below meth c H locs cells slots Q (F0 m pc ls (.ref (wq w k) :: rest)) := gF E I hin8 hr.1 ((ce_o hr.2).trans rfl) rfl 11 (by decide) (Ew E hl rfl) rfl rfl hdg kk
theorem g_StarWalkModel_taped (E : En w p m c cc nL s args own) (I : Wo w g H0 v H locs) (hr : isK w k 8) (hl : Cond.fieldLink own index "StarWalkModel" "taped" "I" ∈ lw_tbl) (hdg : decode cc pc = .ok (.getfield index, 3)) (kk : W p l e R s m args below meth c H locs cells slots Q (F0 m (pc + 3) ls (.int (v.1 k 12) :: rest))) : W p l e R s m args below meth c H locs cells slots Q (F0 m pc ls (.ref (wq w k) :: rest)) := gF E I hin8 hr.1 ((ce_o hr.2).trans rfl) rfl 12 (by decide) (Ew E hl rfl) rfl rfl hdg kk
theorem p_StarWalkModel_taped (E : En w p m c cc nL s args own) (I : Wo w g H0 v H locs) (hr : isK w k 8) (hl : Cond.fieldLink own index "StarWalkModel" "taped" "I" ∈ lw_tbl) {x : Int32} (hx : 0 ≤ x.toInt ∧ x.toInt ≤ 160) (hdg : decode cc pc = .ok (.putfield index, 3)) (kk : ∀ (H1 : Heap) (locs1 : List Loc), Wo w g H0 (up1 v k 12 x) H1 locs1 → W p l e R s m args below meth c H1 locs1 cells slots Q (F0 m (pc + 3) ls rest)) : W p l e R s m args below meth c H locs cells slots Q (F0 m pc ls (.int x :: .ref (wq w k) :: rest)) := pF E I hin8 tyX8 tyX8_ok nmX8 hr.1 ((ce_o hr.2).trans rfl) rfl 12 (by decide) (Ew E hl rfl) rfl rfl (ty := .int) (by decide +kernel) rfl rfl (by show 12 < 31; decide) (v' := up1 v k 12 x) (by rw [ce_o hr.2, up1_k]; rfl) (up1_o v k 12 x) (fun _ _ => rfl) (I.2.2.put hr.2 (by simp only [okk]; omega) rfl) hdg kk
theorem r_StarWalkModel_taped (I : Wo w g H0 v H locs) (hr : isK w k 8) : 0 ≤ (v.1 k 12).toInt ∧ (v.1 k 12).toInt ≤ 160 := by
  have h := (I.2.2 k 12).1
  rw [hr.2] at h
  simpa [okk] using h
theorem g_StarWalkModel_pos (E : En w p m c cc nL s args own) (I : Wo w g H0 v H locs) (hr : isK w k 8) (hl : Cond.fieldLink own index "StarWalkModel" "pos" "I" ∈ lw_tbl) (hdg : decode cc pc = .ok (.getfield index, 3)) (kk : W p l e R s m args below meth c H locs cells slots Q (F0 m (pc + 3) ls (.int (v.1 k 13) :: rest))) : W p l e R s m args below meth c H locs cells slots Q (F0 m pc ls (.ref (wq w k) :: rest)) := gF E I hin8 hr.1 ((ce_o hr.2).trans rfl) rfl 13 (by decide) (Ew E hl rfl) rfl rfl hdg kk
theorem p_StarWalkModel_pos (E : En w p m c cc nL s args own) (I : Wo w g H0 v H locs) (hr : isK w k 8) (hl : Cond.fieldLink own index "StarWalkModel" "pos" "I" ∈ lw_tbl) {x : Int32} (hx : 0 ≤ x.toInt ∧ x.toInt ≤ 160) (hdg : decode cc pc = .ok (.putfield index, 3)) (kk : ∀ (H1 : Heap) (locs1 : List Loc), Wo w g H0 (up1 v k 13 x) H1 locs1 → W p l e R s m args below meth c H1 locs1 cells slots Q (F0 m (pc + 3) ls rest)) : W p l e R s m args below meth c H locs cells slots Q (F0 m pc ls (.int x :: .ref (wq w k) :: rest)) := pF E I hin8 tyX8 tyX8_ok nmX8 hr.1 ((ce_o hr.2).trans rfl) rfl 13 (by decide) (Ew E hl rfl) rfl rfl (ty := .int) (by decide +kernel) rfl rfl (by show 13 < 31; decide) (v' := up1 v k 13 x) (by rw [ce_o hr.2, up1_k]; rfl) (up1_o v k 13 x) (fun _ _ => rfl) (I.2.2.put hr.2 (by simp only [okk]; omega) rfl) hdg kk
theorem r_StarWalkModel_pos (I : Wo w g H0 v H locs) (hr : isK w k 8) : 0 ≤ (v.1 k 13).toInt ∧ (v.1 k 13).toInt ≤ 160 := by
  have h := (I.2.2 k 13).1
  rw [hr.2] at h
  simpa [okk] using h
theorem g_StarWalkModel_from (E : En w p m c cc nL s args own) (I : Wo w g H0 v H locs) (hr : isK w k 8) (hl : Cond.fieldLink own index "StarWalkModel" "from" "I" ∈ lw_tbl) (hdg : decode cc pc = .ok (.getfield index, 3)) (kk : W p l e R s m args below meth c H locs cells slots Q (F0 m (pc + 3) ls (.int (v.1 k 14) :: rest))) : W p l e R s m args below meth c H locs cells slots Q (F0 m pc ls (.ref (wq w k) :: rest)) := gF E I hin8 hr.1 ((ce_o hr.2).trans rfl) rfl 14 (by decide) (Ew E hl rfl) rfl rfl hdg kk
theorem p_StarWalkModel_from (E : En w p m c cc nL s args own) (I : Wo w g H0 v H locs) (hr : isK w k 8) (hl : Cond.fieldLink own index "StarWalkModel" "from" "I" ∈ lw_tbl) {x : Int32} (hx : 0 ≤ x.toInt ∧ x.toInt ≤ 160) (hdg : decode cc pc = .ok (.putfield index, 3)) (kk : ∀ (H1 : Heap) (locs1 : List Loc), Wo w g H0 (up1 v k 14 x) H1 locs1 → W p l e R s m args below meth c H1 locs1 cells slots Q (F0 m (pc + 3) ls rest)) : W p l e R s m args below meth c H locs cells slots Q (F0 m pc ls (.int x :: .ref (wq w k) :: rest)) := pF E I hin8 tyX8 tyX8_ok nmX8 hr.1 ((ce_o hr.2).trans rfl) rfl 14 (by decide) (Ew E hl rfl) rfl rfl (ty := .int) (by decide +kernel) rfl rfl (by show 14 < 31; decide) (v' := up1 v k 14 x) (by rw [ce_o hr.2, up1_k]; rfl) (up1_o v k 14 x) (fun _ _ => rfl) (I.2.2.put hr.2 (by simp only [okk]; omega) rfl) hdg kk
theorem r_StarWalkModel_from (I : Wo w g H0 v H locs) (hr : isK w k 8) : 0 ≤ (v.1 k 14).toInt ∧ (v.1 k 14).toInt ≤ 160 := by
  have h := (I.2.2 k 14).1
  rw [hr.2] at h
  simpa [okk] using h
theorem g_StarWalkModel_sort (E : En w p m c cc nL s args own) (I : Wo w g H0 v H locs) (hr : isK w k 8) (hl : Cond.fieldLink own index "StarWalkModel" "sort" "I" ∈ lw_tbl) (hdg : decode cc pc = .ok (.getfield index, 3)) (kk : W p l e R s m args below meth c H locs cells slots Q (F0 m (pc + 3) ls (.int (v.1 k 15) :: rest))) : W p l e R s m args below meth c H locs cells slots Q (F0 m pc ls (.ref (wq w k) :: rest)) := gF E I hin8 hr.1 ((ce_o hr.2).trans rfl) rfl 15 (by decide) (Ew E hl rfl) rfl rfl hdg kk
theorem p_StarWalkModel_sort (E : En w p m c cc nL s args own) (I : Wo w g H0 v H locs) (hr : isK w k 8) (hl : Cond.fieldLink own index "StarWalkModel" "sort" "I" ∈ lw_tbl) {x : Int32} (hdg : decode cc pc = .ok (.putfield index, 3)) (kk : ∀ (H1 : Heap) (locs1 : List Loc), Wo w g H0 (up1 v k 15 x) H1 locs1 → W p l e R s m args below meth c H1 locs1 cells slots Q (F0 m (pc + 3) ls rest)) : W p l e R s m args below meth c H locs cells slots Q (F0 m pc ls (.int x :: .ref (wq w k) :: rest)) := pF E I hin8 tyX8 tyX8_ok nmX8 hr.1 ((ce_o hr.2).trans rfl) rfl 15 (by decide) (Ew E hl rfl) rfl rfl (ty := .int) (by decide +kernel) rfl rfl (by show 15 < 31; decide) (v' := up1 v k 15 x) (by rw [ce_o hr.2, up1_k]; rfl) (up1_o v k 15 x) (fun _ _ => rfl) (I.2.2.put hr.2 (by simp [okk]) rfl) hdg kk
theorem g_StarWalkModel_value (E : En w p m c cc nL s args own) (I : Wo w g H0 v H locs) (hr : isK w k 8) (hl : Cond.fieldLink own index "StarWalkModel" "value" "I" ∈ lw_tbl) (hdg : decode cc pc = .ok (.getfield index, 3)) (kk : W p l e R s m args below meth c H locs cells slots Q (F0 m (pc + 3) ls (.int (v.1 k 16) :: rest))) : W p l e R s m args below meth c H locs cells slots Q (F0 m pc ls (.ref (wq w k) :: rest)) := gF E I hin8 hr.1 ((ce_o hr.2).trans rfl) rfl 16 (by decide) (Ew E hl rfl) rfl rfl hdg kk
theorem p_StarWalkModel_value (E : En w p m c cc nL s args own) (I : Wo w g H0 v H locs) (hr : isK w k 8) (hl : Cond.fieldLink own index "StarWalkModel" "value" "I" ∈ lw_tbl) {x : Int32} (hdg : decode cc pc = .ok (.putfield index, 3)) (kk : ∀ (H1 : Heap) (locs1 : List Loc), Wo w g H0 (up1 v k 16 x) H1 locs1 → W p l e R s m args below meth c H1 locs1 cells slots Q (F0 m (pc + 3) ls rest)) : W p l e R s m args below meth c H locs cells slots Q (F0 m pc ls (.int x :: .ref (wq w k) :: rest)) := pF E I hin8 tyX8 tyX8_ok nmX8 hr.1 ((ce_o hr.2).trans rfl) rfl 16 (by decide) (Ew E hl rfl) rfl rfl (ty := .int) (by decide +kernel) rfl rfl (by show 16 < 31; decide) (v' := up1 v k 16 x) (by rw [ce_o hr.2, up1_k]; rfl) (up1_o v k 16 x) (fun _ _ => rfl) (I.2.2.put hr.2 (by simp [okk]) rfl) hdg kk
theorem g_StarWalkModel_fault (E : En w p m c cc nL s args own) (I : Wo w g H0 v H locs) (hr : isK w k 8) (hl : Cond.fieldLink own index "StarWalkModel" "fault" "I" ∈ lw_tbl) (hdg : decode cc pc = .ok (.getfield index, 3)) (kk : W p l e R s m args below meth c H locs cells slots Q (F0 m (pc + 3) ls (.int (v.1 k 17) :: rest))) : W p l e R s m args below meth c H locs cells slots Q (F0 m pc ls (.ref (wq w k) :: rest)) := gF E I hin8 hr.1 ((ce_o hr.2).trans rfl) rfl 17 (by decide) (Ew E hl rfl) rfl rfl hdg kk
theorem p_StarWalkModel_fault (E : En w p m c cc nL s args own) (I : Wo w g H0 v H locs) (hr : isK w k 8) (hl : Cond.fieldLink own index "StarWalkModel" "fault" "I" ∈ lw_tbl) {x : Int32} (hx : 0 ≤ x.toInt ∧ x.toInt ≤ 6) (hdg : decode cc pc = .ok (.putfield index, 3)) (kk : ∀ (H1 : Heap) (locs1 : List Loc), Wo w g H0 (up1 v k 17 x) H1 locs1 → W p l e R s m args below meth c H1 locs1 cells slots Q (F0 m (pc + 3) ls rest)) : W p l e R s m args below meth c H locs cells slots Q (F0 m pc ls (.int x :: .ref (wq w k) :: rest)) := pF E I hin8 tyX8 tyX8_ok nmX8 hr.1 ((ce_o hr.2).trans rfl) rfl 17 (by decide) (Ew E hl rfl) rfl rfl (ty := .int) (by decide +kernel) rfl rfl (by show 17 < 31; decide) (v' := up1 v k 17 x) (by rw [ce_o hr.2, up1_k]; rfl) (up1_o v k 17 x) (fun _ _ => rfl) (I.2.2.put hr.2 (by simp only [okk]; omega) rfl) hdg kk
theorem r_StarWalkModel_fault (I : Wo w g H0 v H locs) (hr : isK w k 8) : 0 ≤ (v.1 k 17).toInt ∧ (v.1 k 17).toInt ≤ 6 := by
  have h := (I.2.2 k 17).1
  rw [hr.2] at h
  simpa [okk] using h
theorem g_StarWalkModel_wrongAt (E : En w p m c cc nL s args own) (I : Wo w g H0 v H locs) (hr : isK w k 8) (hl : Cond.fieldLink own index "StarWalkModel" "wrongAt" "I" ∈ lw_tbl) (hdg : decode cc pc = .ok (.getfield index, 3)) (kk : W p l e R s m args below meth c H locs cells slots Q (F0 m (pc + 3) ls (.int (v.1 k 18) :: rest))) : W p l e R s m args below meth c H locs cells slots Q (F0 m pc ls (.ref (wq w k) :: rest)) := gF E I hin8 hr.1 ((ce_o hr.2).trans rfl) rfl 18 (by decide) (Ew E hl rfl) rfl rfl hdg kk
theorem p_StarWalkModel_wrongAt (E : En w p m c cc nL s args own) (I : Wo w g H0 v H locs) (hr : isK w k 8) (hl : Cond.fieldLink own index "StarWalkModel" "wrongAt" "I" ∈ lw_tbl) {x : Int32} (hdg : decode cc pc = .ok (.putfield index, 3)) (kk : ∀ (H1 : Heap) (locs1 : List Loc), Wo w g H0 (up1 v k 18 x) H1 locs1 → W p l e R s m args below meth c H1 locs1 cells slots Q (F0 m (pc + 3) ls rest)) : W p l e R s m args below meth c H locs cells slots Q (F0 m pc ls (.int x :: .ref (wq w k) :: rest)) := pF E I hin8 tyX8 tyX8_ok nmX8 hr.1 ((ce_o hr.2).trans rfl) rfl 18 (by decide) (Ew E hl rfl) rfl rfl (ty := .int) (by decide +kernel) rfl rfl (by show 18 < 31; decide) (v' := up1 v k 18 x) (by rw [ce_o hr.2, up1_k]; rfl) (up1_o v k 18 x) (fun _ _ => rfl) (I.2.2.put hr.2 (by simp [okk]) rfl) hdg kk
theorem g_StarWalkModel_blindSteps (E : En w p m c cc nL s args own) (I : Wo w g H0 v H locs) (hr : isK w k 8) (hl : Cond.fieldLink own index "StarWalkModel" "blindSteps" "I" ∈ lw_tbl) (hdg : decode cc pc = .ok (.getfield index, 3)) (kk : W p l e R s m args below meth c H locs cells slots Q (F0 m (pc + 3) ls (.int (v.1 k 19) :: rest))) : W p l e R s m args below meth c H locs cells slots Q (F0 m pc ls (.ref (wq w k) :: rest)) := gF E I hin8 hr.1 ((ce_o hr.2).trans rfl) rfl 19 (by decide) (Ew E hl rfl) rfl rfl hdg kk
theorem p_StarWalkModel_blindSteps (E : En w p m c cc nL s args own) (I : Wo w g H0 v H locs) (hr : isK w k 8) (hl : Cond.fieldLink own index "StarWalkModel" "blindSteps" "I" ∈ lw_tbl) {x : Int32} (hdg : decode cc pc = .ok (.putfield index, 3)) (kk : ∀ (H1 : Heap) (locs1 : List Loc), Wo w g H0 (up1 v k 19 x) H1 locs1 → W p l e R s m args below meth c H1 locs1 cells slots Q (F0 m (pc + 3) ls rest)) : W p l e R s m args below meth c H locs cells slots Q (F0 m pc ls (.int x :: .ref (wq w k) :: rest)) := pF E I hin8 tyX8 tyX8_ok nmX8 hr.1 ((ce_o hr.2).trans rfl) rfl 19 (by decide) (Ew E hl rfl) rfl rfl (ty := .int) (by decide +kernel) rfl rfl (by show 19 < 31; decide) (v' := up1 v k 19 x) (by rw [ce_o hr.2, up1_k]; rfl) (up1_o v k 19 x) (fun _ _ => rfl) (I.2.2.put hr.2 (by simp [okk]) rfl) hdg kk
theorem g_StarWalkModel_passedOver (E : En w p m c cc nL s args own) (I : Wo w g H0 v H locs) (hr : isK w k 8) (hl : Cond.fieldLink own index "StarWalkModel" "passedOver" "I" ∈ lw_tbl) (hdg : decode cc pc = .ok (.getfield index, 3)) (kk : W p l e R s m args below meth c H locs cells slots Q (F0 m (pc + 3) ls (.int (v.1 k 20) :: rest))) : W p l e R s m args below meth c H locs cells slots Q (F0 m pc ls (.ref (wq w k) :: rest)) := gF E I hin8 hr.1 ((ce_o hr.2).trans rfl) rfl 20 (by decide) (Ew E hl rfl) rfl rfl hdg kk
theorem p_StarWalkModel_passedOver (E : En w p m c cc nL s args own) (I : Wo w g H0 v H locs) (hr : isK w k 8) (hl : Cond.fieldLink own index "StarWalkModel" "passedOver" "I" ∈ lw_tbl) {x : Int32} (hdg : decode cc pc = .ok (.putfield index, 3)) (kk : ∀ (H1 : Heap) (locs1 : List Loc), Wo w g H0 (up1 v k 20 x) H1 locs1 → W p l e R s m args below meth c H1 locs1 cells slots Q (F0 m (pc + 3) ls rest)) : W p l e R s m args below meth c H locs cells slots Q (F0 m pc ls (.int x :: .ref (wq w k) :: rest)) := pF E I hin8 tyX8 tyX8_ok nmX8 hr.1 ((ce_o hr.2).trans rfl) rfl 20 (by decide) (Ew E hl rfl) rfl rfl (ty := .int) (by decide +kernel) rfl rfl (by show 20 < 31; decide) (v' := up1 v k 20 x) (by rw [ce_o hr.2, up1_k]; rfl) (up1_o v k 20 x) (fun _ _ => rfl) (I.2.2.put hr.2 (by simp [okk]) rfl) hdg kk
theorem g_StarWalkModel_bestSide (E : En w p m c cc nL s args own) (I : Wo w g H0 v H locs) (hr : isK w k 8) (hl : Cond.fieldLink own index "StarWalkModel" "bestSide" "I" ∈ lw_tbl) (hdg : decode cc pc = .ok (.getfield index, 3)) (kk : W p l e R s m args below meth c H locs cells slots Q (F0 m (pc + 3) ls (.int (v.1 k 21) :: rest))) : W p l e R s m args below meth c H locs cells slots Q (F0 m pc ls (.ref (wq w k) :: rest)) := gF E I hin8 hr.1 ((ce_o hr.2).trans rfl) rfl 21 (by decide) (Ew E hl rfl) rfl rfl hdg kk
theorem p_StarWalkModel_bestSide (E : En w p m c cc nL s args own) (I : Wo w g H0 v H locs) (hr : isK w k 8) (hl : Cond.fieldLink own index "StarWalkModel" "bestSide" "I" ∈ lw_tbl) {x : Int32} (hdg : decode cc pc = .ok (.putfield index, 3)) (kk : ∀ (H1 : Heap) (locs1 : List Loc), Wo w g H0 (up1 v k 21 x) H1 locs1 → W p l e R s m args below meth c H1 locs1 cells slots Q (F0 m (pc + 3) ls rest)) : W p l e R s m args below meth c H locs cells slots Q (F0 m pc ls (.int x :: .ref (wq w k) :: rest)) := pF E I hin8 tyX8 tyX8_ok nmX8 hr.1 ((ce_o hr.2).trans rfl) rfl 21 (by decide) (Ew E hl rfl) rfl rfl (ty := .int) (by decide +kernel) rfl rfl (by show 21 < 31; decide) (v' := up1 v k 21 x) (by rw [ce_o hr.2, up1_k]; rfl) (up1_o v k 21 x) (fun _ _ => rfl) (I.2.2.put hr.2 (by simp [okk]) rfl) hdg kk
theorem g_StarWalkModel_bestMiles (E : En w p m c cc nL s args own) (I : Wo w g H0 v H locs) (hr : isK w k 8) (hl : Cond.fieldLink own index "StarWalkModel" "bestMiles" "I" ∈ lw_tbl) (hdg : decode cc pc = .ok (.getfield index, 3)) (kk : W p l e R s m args below meth c H locs cells slots Q (F0 m (pc + 3) ls (.int (v.1 k 22) :: rest))) : W p l e R s m args below meth c H locs cells slots Q (F0 m pc ls (.ref (wq w k) :: rest)) := gF E I hin8 hr.1 ((ce_o hr.2).trans rfl) rfl 22 (by decide) (Ew E hl rfl) rfl rfl hdg kk
theorem p_StarWalkModel_bestMiles (E : En w p m c cc nL s args own) (I : Wo w g H0 v H locs) (hr : isK w k 8) (hl : Cond.fieldLink own index "StarWalkModel" "bestMiles" "I" ∈ lw_tbl) {x : Int32} (hdg : decode cc pc = .ok (.putfield index, 3)) (kk : ∀ (H1 : Heap) (locs1 : List Loc), Wo w g H0 (up1 v k 22 x) H1 locs1 → W p l e R s m args below meth c H1 locs1 cells slots Q (F0 m (pc + 3) ls rest)) : W p l e R s m args below meth c H locs cells slots Q (F0 m pc ls (.int x :: .ref (wq w k) :: rest)) := pF E I hin8 tyX8 tyX8_ok nmX8 hr.1 ((ce_o hr.2).trans rfl) rfl 22 (by decide) (Ew E hl rfl) rfl rfl (ty := .int) (by decide +kernel) rfl rfl (by show 22 < 31; decide) (v' := up1 v k 22 x) (by rw [ce_o hr.2, up1_k]; rfl) (up1_o v k 22 x) (fun _ _ => rfl) (I.2.2.put hr.2 (by simp [okk]) rfl) hdg kk
theorem g_StarWalkModel_wellSum (E : En w p m c cc nL s args own) (I : Wo w g H0 v H locs) (hr : isK w k 8) (hl : Cond.fieldLink own index "StarWalkModel" "wellSum" "J" ∈ lw_tbl) (hdg : decode cc pc = .ok (.getfield index, 3)) (kk : W p l e R s m args below meth c H locs cells slots Q (F0 m (pc + 3) ls (.long (v.2 k 23) :: rest))) : W p l e R s m args below meth c H locs cells slots Q (F0 m pc ls (.ref (wq w k) :: rest)) := gF E I hin8 hr.1 ((ce_o hr.2).trans rfl) rfl 23 (by decide) (Ew E hl rfl) rfl rfl hdg kk
theorem p_StarWalkModel_wellSum (E : En w p m c cc nL s args own) (I : Wo w g H0 v H locs) (hr : isK w k 8) (hl : Cond.fieldLink own index "StarWalkModel" "wellSum" "J" ∈ lw_tbl) {x : Int64} (hdg : decode cc pc = .ok (.putfield index, 3)) (kk : ∀ (H1 : Heap) (locs1 : List Loc), Wo w g H0 (upL v k 23 x) H1 locs1 → W p l e R s m args below meth c H1 locs1 cells slots Q (F0 m (pc + 3) ls rest)) : W p l e R s m args below meth c H locs cells slots Q (F0 m pc ls (.long x :: .ref (wq w k) :: rest)) := pF E I hin8 tyX8 tyX8_ok nmX8 hr.1 ((ce_o hr.2).trans rfl) rfl 23 (by decide) (Ew E hl rfl) rfl rfl (ty := .long) (by decide +kernel) rfl rfl (by show 23 < 31; decide) (v' := upL v k 23 x) (by rw [ce_o hr.2, upL_k]; rfl) (fun _ _ => rfl) (upL_o v k 23 x) (I.2.2.putL k 23 x) hdg kk
theorem g_StarWalkModel_milesSum (E : En w p m c cc nL s args own) (I : Wo w g H0 v H locs) (hr : isK w k 8) (hl : Cond.fieldLink own index "StarWalkModel" "milesSum" "J" ∈ lw_tbl) (hdg : decode cc pc = .ok (.getfield index, 3)) (kk : W p l e R s m args below meth c H locs cells slots Q (F0 m (pc + 3) ls (.long (v.2 k 24) :: rest))) : W p l e R s m args below meth c H locs cells slots Q (F0 m pc ls (.ref (wq w k) :: rest)) := gF E I hin8 hr.1 ((ce_o hr.2).trans rfl) rfl 24 (by decide) (Ew E hl rfl) rfl rfl hdg kk
theorem p_StarWalkModel_milesSum (E : En w p m c cc nL s args own) (I : Wo w g H0 v H locs) (hr : isK w k 8) (hl : Cond.fieldLink own index "StarWalkModel" "milesSum" "J" ∈ lw_tbl) {x : Int64} (hdg : decode cc pc = .ok (.putfield index, 3)) (kk : ∀ (H1 : Heap) (locs1 : List Loc), Wo w g H0 (upL v k 24 x) H1 locs1 → W p l e R s m args below meth c H1 locs1 cells slots Q (F0 m (pc + 3) ls rest)) : W p l e R s m args below meth c H locs cells slots Q (F0 m pc ls (.long x :: .ref (wq w k) :: rest)) := pF E I hin8 tyX8 tyX8_ok nmX8 hr.1 ((ce_o hr.2).trans rfl) rfl 24 (by decide) (Ew E hl rfl) rfl rfl (ty := .long) (by decide +kernel) rfl rfl (by show 24 < 31; decide) (v' := upL v k 24 x) (by rw [ce_o hr.2, upL_k]; rfl) (fun _ _ => rfl) (upL_o v k 24 x) (I.2.2.putL k 24 x) hdg kk
theorem g_StarWalkModel_allWays (E : En w p m c cc nL s args own) (I : Wo w g H0 v H locs) (hr : isK w k 8) (hl : Cond.fieldLink own index "StarWalkModel" "allWays" "J" ∈ lw_tbl) (hdg : decode cc pc = .ok (.getfield index, 3)) (kk : W p l e R s m args below meth c H locs cells slots Q (F0 m (pc + 3) ls (.long (v.2 k 25) :: rest))) : W p l e R s m args below meth c H locs cells slots Q (F0 m pc ls (.ref (wq w k) :: rest)) := gF E I hin8 hr.1 ((ce_o hr.2).trans rfl) rfl 25 (by decide) (Ew E hl rfl) rfl rfl hdg kk
theorem p_StarWalkModel_allWays (E : En w p m c cc nL s args own) (I : Wo w g H0 v H locs) (hr : isK w k 8) (hl : Cond.fieldLink own index "StarWalkModel" "allWays" "J" ∈ lw_tbl) {x : Int64} (hdg : decode cc pc = .ok (.putfield index, 3)) (kk : ∀ (H1 : Heap) (locs1 : List Loc), Wo w g H0 (upL v k 25 x) H1 locs1 → W p l e R s m args below meth c H1 locs1 cells slots Q (F0 m (pc + 3) ls rest)) : W p l e R s m args below meth c H locs cells slots Q (F0 m pc ls (.long x :: .ref (wq w k) :: rest)) := pF E I hin8 tyX8 tyX8_ok nmX8 hr.1 ((ce_o hr.2).trans rfl) rfl 25 (by decide) (Ew E hl rfl) rfl rfl (ty := .long) (by decide +kernel) rfl rfl (by show 25 < 31; decide) (v' := upL v k 25 x) (by rw [ce_o hr.2, upL_k]; rfl) (fun _ _ => rfl) (upL_o v k 25 x) (I.2.2.putL k 25 x) hdg kk
theorem g_StarWalkModel_lanes (E : En w p m c cc nL s args own) (I : Wo w g H0 v H locs) (hr : isK w k 8) (hl : Cond.fieldLink own index "StarWalkModel" "lanes" "[I" ∈ lw_tbl) (hdg : decode cc pc = .ok (.getfield index, 3)) (kk : W p l e R s m args below meth c H locs cells slots Q (F0 m (pc + 3) ls (.ref (wq w (k + 6)) :: rest))) : W p l e R s m args below meth c H locs cells slots Q (F0 m pc ls (.ref (wq w k) :: rest)) := gF E I hin8 hr.1 ((ce_o hr.2).trans rfl) rfl 26 (by decide) (Ew E hl rfl) rfl rfl hdg kk
theorem g_StarWalkModel_sizes (E : En w p m c cc nL s args own) (I : Wo w g H0 v H locs) (hr : isK w k 8) (hl : Cond.fieldLink own index "StarWalkModel" "sizes" "[I" ∈ lw_tbl) (hdg : decode cc pc = .ok (.getfield index, 3)) (kk : W p l e R s m args below meth c H locs cells slots Q (F0 m (pc + 3) ls (.ref (wq w (k + 7)) :: rest))) : W p l e R s m args below meth c H locs cells slots Q (F0 m pc ls (.ref (wq w k) :: rest)) := gF E I hin8 hr.1 ((ce_o hr.2).trans rfl) rfl 27 (by decide) (Ew E hl rfl) rfl rfl hdg kk
theorem g_StarWalkModel_cells (E : En w p m c cc nL s args own) (I : Wo w g H0 v H locs) (hr : isK w k 8) (hl : Cond.fieldLink own index "StarWalkModel" "cells" "[I" ∈ lw_tbl) (hdg : decode cc pc = .ok (.getfield index, 3)) (kk : W p l e R s m args below meth c H locs cells slots Q (F0 m (pc + 3) ls (.ref (wq w (k + 8)) :: rest))) : W p l e R s m args below meth c H locs cells slots Q (F0 m pc ls (.ref (wq w k) :: rest)) := gF E I hin8 hr.1 ((ce_o hr.2).trans rfl) rfl 28 (by decide) (Ew E hl rfl) rfl rfl hdg kk
theorem g_StarWalkModel_torn (E : En w p m c cc nL s args own) (I : Wo w g H0 v H locs) (hr : isK w k 8) (hl : Cond.fieldLink own index "StarWalkModel" "torn" "I" ∈ lw_tbl) (hdg : decode cc pc = .ok (.getfield index, 3)) (kk : W p l e R s m args below meth c H locs cells slots Q (F0 m (pc + 3) ls (.int (v.1 k 29) :: rest))) : W p l e R s m args below meth c H locs cells slots Q (F0 m pc ls (.ref (wq w k) :: rest)) := gF E I hin8 hr.1 ((ce_o hr.2).trans rfl) rfl 29 (by decide) (Ew E hl rfl) rfl rfl hdg kk
theorem p_StarWalkModel_torn (E : En w p m c cc nL s args own) (I : Wo w g H0 v H locs) (hr : isK w k 8) (hl : Cond.fieldLink own index "StarWalkModel" "torn" "I" ∈ lw_tbl) {x : Int32} (hdg : decode cc pc = .ok (.putfield index, 3)) (kk : ∀ (H1 : Heap) (locs1 : List Loc), Wo w g H0 (up1 v k 29 x) H1 locs1 → W p l e R s m args below meth c H1 locs1 cells slots Q (F0 m (pc + 3) ls rest)) : W p l e R s m args below meth c H locs cells slots Q (F0 m pc ls (.int x :: .ref (wq w k) :: rest)) := pF E I hin8 tyX8 tyX8_ok nmX8 hr.1 ((ce_o hr.2).trans rfl) rfl 29 (by decide) (Ew E hl rfl) rfl rfl (ty := .int) (by decide +kernel) rfl rfl (by show 29 < 31; decide) (v' := up1 v k 29 x) (by rw [ce_o hr.2, up1_k]; rfl) (up1_o v k 29 x) (fun _ _ => rfl) (I.2.2.put hr.2 (by simp [okk]) rfl) hdg kk
theorem g_StarWalkModel_had (E : En w p m c cc nL s args own) (I : Wo w g H0 v H locs) (hr : isK w k 8) (hl : Cond.fieldLink own index "StarWalkModel" "had" "[I" ∈ lw_tbl) (hdg : decode cc pc = .ok (.getfield index, 3)) (kk : W p l e R s m args below meth c H locs cells slots Q (F0 m (pc + 3) ls (.ref (wq w (k + 9)) :: rest))) : W p l e R s m args below meth c H locs cells slots Q (F0 m pc ls (.ref (wq w k) :: rest)) := gF E I hin8 hr.1 ((ce_o hr.2).trans rfl) rfl 30 (by decide) (Ew E hl rfl) rfl rfl hdg kk
theorem ga_10 (E : En w p m c cc nL s args own) (I : Wo w g H0 v H locs) (hr : isK w k 10) {i : Int32} (hi : 0 ≤ i.toInt ∧ i.toInt < 5) (hdg : decode cc pc = .ok (.iaload, 1)) (kk : W p l e R s m args below meth c H locs cells slots Q (F0 m (pc + 1) ls (.int (v.1 k i.toNatClampNeg) :: rest))) : W p l e R s m args below meth c H locs cells slots Q (F0 m pc ls (.int i :: .ref (wq w k) :: rest)) := gA E I hr.1 ((ce_o hr.2).trans rfl) (vp_in_iff.mpr hi) hdg kk
theorem pa_10 (E : En w p m c cc nL s args own) (I : Wo w g H0 v H locs) (hr : isK w k 10) {i x : Int32} (hi : 0 ≤ i.toInt ∧ i.toInt < 5) (hdg : decode cc pc = .ok (.iastore, 1)) (kk : ∀ (H1 : Heap) (locs1 : List Loc), Wo w g H0 (up1 v k i.toNatClampNeg x) H1 locs1 → W p l e R s m args below meth c H1 locs1 cells slots Q (F0 m (pc + 1) ls rest)) : W p l e R s m args below meth c H locs cells slots Q (F0 m pc ls (.int x :: .int i :: .ref (wq w k) :: rest)) := pA E I hr.1 (fun r => by rw [hr.2]; rfl) (vp_in_iff.mpr hi) (I.2.2.put hr.2 (by simp [okk]) rfl) hdg kk
theorem ga_11 (E : En w p m c cc nL s args own) (I : Wo w g H0 v H locs) (hr : isK w k 11) {i : Int32} (hi : 0 ≤ i.toInt ∧ i.toInt < 3) (hdg : decode cc pc = .ok (.iaload, 1)) (kk : W p l e R s m args below meth c H locs cells slots Q (F0 m (pc + 1) ls (.int (v.1 k i.toNatClampNeg) :: rest))) : W p l e R s m args below meth c H locs cells slots Q (F0 m pc ls (.int i :: .ref (wq w k) :: rest)) := gA E I hr.1 ((ce_o hr.2).trans rfl) (vp_in_iff.mpr hi) hdg kk
theorem pa_11 (E : En w p m c cc nL s args own) (I : Wo w g H0 v H locs) (hr : isK w k 11) {i x : Int32} (hi : 0 ≤ i.toInt ∧ i.toInt < 3) (hdg : decode cc pc = .ok (.iastore, 1)) (kk : ∀ (H1 : Heap) (locs1 : List Loc), Wo w g H0 (up1 v k i.toNatClampNeg x) H1 locs1 → W p l e R s m args below meth c H1 locs1 cells slots Q (F0 m (pc + 1) ls rest)) : W p l e R s m args below meth c H locs cells slots Q (F0 m pc ls (.int x :: .int i :: .ref (wq w k) :: rest)) := pA E I hr.1 (fun r => by rw [hr.2]; rfl) (vp_in_iff.mpr hi) (I.2.2.put hr.2 (by simp [okk]) rfl) hdg kk
theorem ga_12 (E : En w p m c cc nL s args own) (I : Wo w g H0 v H locs) (hr : isK w k 12) {i : Int32} (hi : 0 ≤ i.toInt ∧ i.toInt < 8) (hdg : decode cc pc = .ok (.iaload, 1)) (kk : W p l e R s m args below meth c H locs cells slots Q (F0 m (pc + 1) ls (.int (v.1 k i.toNatClampNeg) :: rest))) : W p l e R s m args below meth c H locs cells slots Q (F0 m pc ls (.int i :: .ref (wq w k) :: rest)) := gA E I hr.1 ((ce_o hr.2).trans rfl) (vp_in_iff.mpr hi) hdg kk
theorem pa_12 (E : En w p m c cc nL s args own) (I : Wo w g H0 v H locs) (hr : isK w k 12) {i x : Int32} (hi : 0 ≤ i.toInt ∧ i.toInt < 8) (hdg : decode cc pc = .ok (.iastore, 1)) (kk : ∀ (H1 : Heap) (locs1 : List Loc), Wo w g H0 (up1 v k i.toNatClampNeg x) H1 locs1 → W p l e R s m args below meth c H1 locs1 cells slots Q (F0 m (pc + 1) ls rest)) : W p l e R s m args below meth c H locs cells slots Q (F0 m pc ls (.int x :: .int i :: .ref (wq w k) :: rest)) := pA E I hr.1 (fun r => by rw [hr.2]; rfl) (vp_in_iff.mpr hi) (I.2.2.put hr.2 (by simp [okk]) rfl) hdg kk
theorem ga_13 (E : En w p m c cc nL s args own) (I : Wo w g H0 v H locs) (hr : isK w k 13) {i : Int32} (hi : 0 ≤ i.toInt ∧ i.toInt < 6) (hdg : decode cc pc = .ok (.iaload, 1)) (kk : W p l e R s m args below meth c H locs cells slots Q (F0 m (pc + 1) ls (.int (v.1 k i.toNatClampNeg) :: rest))) : W p l e R s m args below meth c H locs cells slots Q (F0 m pc ls (.int i :: .ref (wq w k) :: rest)) := gA E I hr.1 ((ce_o hr.2).trans rfl) (vp_in_iff.mpr hi) hdg kk
theorem pa_13 (E : En w p m c cc nL s args own) (I : Wo w g H0 v H locs) (hr : isK w k 13) {i x : Int32} (hi : 0 ≤ i.toInt ∧ i.toInt < 6) (hx : okk 13 i.toNatClampNeg x.toInt) (hdg : decode cc pc = .ok (.iastore, 1)) (kk : ∀ (H1 : Heap) (locs1 : List Loc), Wo w g H0 (up1 v k i.toNatClampNeg x) H1 locs1 → W p l e R s m args below meth c H1 locs1 cells slots Q (F0 m (pc + 1) ls rest)) : W p l e R s m args below meth c H locs cells slots Q (F0 m pc ls (.int x :: .int i :: .ref (wq w k) :: rest)) := pA E I hr.1 (fun r => by rw [hr.2]; rfl) (vp_in_iff.mpr hi) (I.2.2.put hr.2 (hx) rfl) hdg kk
theorem ra_13 (I : Wo w g H0 v H locs) (hr : isK w k 13) (j : Nat) : okk 13 j (v.1 k j).toInt := by
  have h := (I.2.2 k j).1
  rw [hr.2] at h
  exact h
theorem ga_14 (E : En w p m c cc nL s args own) (I : Wo w g H0 v H locs) (hr : isK w k 14) {i : Int32} (hi : 0 ≤ i.toInt ∧ i.toInt < 6) (hdg : decode cc pc = .ok (.iaload, 1)) (kk : W p l e R s m args below meth c H locs cells slots Q (F0 m (pc + 1) ls (.int (v.1 k i.toNatClampNeg) :: rest))) : W p l e R s m args below meth c H locs cells slots Q (F0 m pc ls (.int i :: .ref (wq w k) :: rest)) := gA E I hr.1 ((ce_o hr.2).trans rfl) (vp_in_iff.mpr hi) hdg kk
theorem pa_14 (E : En w p m c cc nL s args own) (I : Wo w g H0 v H locs) (hr : isK w k 14) {i x : Int32} (hi : 0 ≤ i.toInt ∧ i.toInt < 6) (hdg : decode cc pc = .ok (.iastore, 1)) (kk : ∀ (H1 : Heap) (locs1 : List Loc), Wo w g H0 (up1 v k i.toNatClampNeg x) H1 locs1 → W p l e R s m args below meth c H1 locs1 cells slots Q (F0 m (pc + 1) ls rest)) : W p l e R s m args below meth c H locs cells slots Q (F0 m pc ls (.int x :: .int i :: .ref (wq w k) :: rest)) := pA E I hr.1 (fun r => by rw [hr.2]; rfl) (vp_in_iff.mpr hi) (I.2.2.put hr.2 (by simp [okk]) rfl) hdg kk
theorem ga_15 (E : En w p m c cc nL s args own) (I : Wo w g H0 v H locs) (hr : isK w k 15) {i : Int32} (hi : 0 ≤ i.toInt ∧ i.toInt < 9) (hdg : decode cc pc = .ok (.iaload, 1)) (kk : W p l e R s m args below meth c H locs cells slots Q (F0 m (pc + 1) ls (.int (v.1 k i.toNatClampNeg) :: rest))) : W p l e R s m args below meth c H locs cells slots Q (F0 m pc ls (.int i :: .ref (wq w k) :: rest)) := gA E I hr.1 ((ce_o hr.2).trans rfl) (vp_in_iff.mpr hi) hdg kk
theorem pa_15 (E : En w p m c cc nL s args own) (I : Wo w g H0 v H locs) (hr : isK w k 15) {i x : Int32} (hi : 0 ≤ i.toInt ∧ i.toInt < 9) (hdg : decode cc pc = .ok (.iastore, 1)) (kk : ∀ (H1 : Heap) (locs1 : List Loc), Wo w g H0 (up1 v k i.toNatClampNeg x) H1 locs1 → W p l e R s m args below meth c H1 locs1 cells slots Q (F0 m (pc + 1) ls rest)) : W p l e R s m args below meth c H locs cells slots Q (F0 m pc ls (.int x :: .int i :: .ref (wq w k) :: rest)) := pA E I hr.1 (fun r => by rw [hr.2]; rfl) (vp_in_iff.mpr hi) (I.2.2.put hr.2 (by simp [okk]) rfl) hdg kk
theorem ga_16 (E : En w p m c cc nL s args own) (I : Wo w g H0 v H locs) (hr : isK w k 16) {i : Int32} (hi : 0 ≤ i.toInt ∧ i.toInt < 4) (hdg : decode cc pc = .ok (.iaload, 1)) (kk : W p l e R s m args below meth c H locs cells slots Q (F0 m (pc + 1) ls (.int (v.1 k i.toNatClampNeg) :: rest))) : W p l e R s m args below meth c H locs cells slots Q (F0 m pc ls (.int i :: .ref (wq w k) :: rest)) := gA E I hr.1 ((ce_o hr.2).trans rfl) (vp_in_iff.mpr hi) hdg kk
theorem pa_16 (E : En w p m c cc nL s args own) (I : Wo w g H0 v H locs) (hr : isK w k 16) {i x : Int32} (hi : 0 ≤ i.toInt ∧ i.toInt < 4) (hdg : decode cc pc = .ok (.iastore, 1)) (kk : ∀ (H1 : Heap) (locs1 : List Loc), Wo w g H0 (up1 v k i.toNatClampNeg x) H1 locs1 → W p l e R s m args below meth c H1 locs1 cells slots Q (F0 m (pc + 1) ls rest)) : W p l e R s m args below meth c H locs cells slots Q (F0 m pc ls (.int x :: .int i :: .ref (wq w k) :: rest)) := pA E I hr.1 (fun r => by rw [hr.2]; rfl) (vp_in_iff.mpr hi) (I.2.2.put hr.2 (by simp [okk]) rfl) hdg kk
theorem ga_17 (E : En w p m c cc nL s args own) (I : Wo w g H0 v H locs) (hr : isK w k 17) {i : Int32} (hi : 0 ≤ i.toInt ∧ i.toInt < 160) (hdg : decode cc pc = .ok (.baload, 1)) (kk : W p l e R s m args below meth c H locs cells slots Q (F0 m (pc + 1) ls (.int (v.1 k i.toNatClampNeg) :: rest))) : W p l e R s m args below meth c H locs cells slots Q (F0 m pc ls (.int i :: .ref (wq w k) :: rest)) := gAb E I hr.1 ((ce_o hr.2).trans rfl) (vp_in_iff.mpr hi) hdg kk
theorem pa_17 (E : En w p m c cc nL s args own) (I : Wo w g H0 v H locs) (hr : isK w k 17) {i x : Int32} (hi : 0 ≤ i.toInt ∧ i.toInt < 160) (hdg : decode cc pc = .ok (.bastore, 1)) (kk : ∀ (H1 : Heap) (locs1 : List Loc), Wo w g H0 (up1 v k i.toNatClampNeg (vp_nar .byte x)) H1 locs1 → W p l e R s m args below meth c H1 locs1 cells slots Q (F0 m (pc + 1) ls rest)) : W p l e R s m args below meth c H locs cells slots Q (F0 m pc ls (.int x :: .int i :: .ref (wq w k) :: rest)) := pAb E I hr.1 (fun r => by rw [hr.2]; rfl) (vp_in_iff.mpr hi) (I.2.2.put hr.2 (by simp [okk]) rfl) hdg kk
theorem ga_18 (E : En w p m c cc nL s args own) (I : Wo w g H0 v H locs) (hr : isK w k 18) {i : Int32} (hi : 0 ≤ i.toInt ∧ i.toInt < 40) (hdg : decode cc pc = .ok (.iaload, 1)) (kk : W p l e R s m args below meth c H locs cells slots Q (F0 m (pc + 1) ls (.int (v.1 k i.toNatClampNeg) :: rest))) : W p l e R s m args below meth c H locs cells slots Q (F0 m pc ls (.int i :: .ref (wq w k) :: rest)) := gA E I hr.1 ((ce_o hr.2).trans rfl) (vp_in_iff.mpr hi) hdg kk
theorem pa_18 (E : En w p m c cc nL s args own) (I : Wo w g H0 v H locs) (hr : isK w k 18) {i x : Int32} (hi : 0 ≤ i.toInt ∧ i.toInt < 40) (hdg : decode cc pc = .ok (.iastore, 1)) (kk : ∀ (H1 : Heap) (locs1 : List Loc), Wo w g H0 (up1 v k i.toNatClampNeg x) H1 locs1 → W p l e R s m args below meth c H1 locs1 cells slots Q (F0 m (pc + 1) ls rest)) : W p l e R s m args below meth c H locs cells slots Q (F0 m pc ls (.int x :: .int i :: .ref (wq w k) :: rest)) := pA E I hr.1 (fun r => by rw [hr.2]; rfl) (vp_in_iff.mpr hi) (I.2.2.put hr.2 (by simp [okk]) rfl) hdg kk
theorem ga_19 (E : En w p m c cc nL s args own) (I : Wo w g H0 v H locs) (hr : isK w k 19) {i : Int32} (hi : 0 ≤ i.toInt ∧ i.toInt < 2) (hdg : decode cc pc = .ok (.baload, 1)) (kk : W p l e R s m args below meth c H locs cells slots Q (F0 m (pc + 1) ls (.int (v.1 k i.toNatClampNeg) :: rest))) : W p l e R s m args below meth c H locs cells slots Q (F0 m pc ls (.int i :: .ref (wq w k) :: rest)) := gAz E I hr.1 ((ce_o hr.2).trans rfl) (vp_in_iff.mpr hi) hdg kk
theorem pa_19 (E : En w p m c cc nL s args own) (I : Wo w g H0 v H locs) (hr : isK w k 19) {i x : Int32} (hi : 0 ≤ i.toInt ∧ i.toInt < 2) (hdg : decode cc pc = .ok (.bastore, 1)) (kk : ∀ (H1 : Heap) (locs1 : List Loc), Wo w g H0 (up1 v k i.toNatClampNeg (vp_nar .boolean x)) H1 locs1 → W p l e R s m args below meth c H1 locs1 cells slots Q (F0 m (pc + 1) ls rest)) : W p l e R s m args below meth c H locs cells slots Q (F0 m pc ls (.int x :: .int i :: .ref (wq w k) :: rest)) := pAz E I hr.1 (fun r => by rw [hr.2]; rfl) (vp_in_iff.mpr hi) (I.2.2.put hr.2 (by simp [okk]) rfl) hdg kk
theorem ga_30 (E : En w p m c cc nL s args own) (I : Wo w g H0 v H locs) (hr : isK w k 30) {i : Int32} (hi : 0 ≤ i.toInt ∧ i.toInt < 162) (hdg : decode cc pc = .ok (.iaload, 1)) (kk : W p l e R s m args below meth c H locs cells slots Q (F0 m (pc + 1) ls (.int (v.1 k i.toNatClampNeg) :: rest))) : W p l e R s m args below meth c H locs cells slots Q (F0 m pc ls (.int i :: .ref (wq w k) :: rest)) := gA E I hr.1 ((ce_o hr.2).trans rfl) (vp_in_iff.mpr hi) hdg kk
theorem pa_30 (E : En w p m c cc nL s args own) (I : Wo w g H0 v H locs) (hr : isK w k 30) {i x : Int32} (hi : 0 ≤ i.toInt ∧ i.toInt < 162) (hx : okk 30 i.toNatClampNeg x.toInt) (hdg : decode cc pc = .ok (.iastore, 1)) (kk : ∀ (H1 : Heap) (locs1 : List Loc), Wo w g H0 (up1 v k i.toNatClampNeg x) H1 locs1 → W p l e R s m args below meth c H1 locs1 cells slots Q (F0 m (pc + 1) ls rest)) : W p l e R s m args below meth c H locs cells slots Q (F0 m pc ls (.int x :: .int i :: .ref (wq w k) :: rest)) := pA E I hr.1 (fun r => by rw [hr.2]; rfl) (vp_in_iff.mpr hi) (I.2.2.put hr.2 (hx) rfl) hdg kk
theorem ra_30 (I : Wo w g H0 v H locs) (hr : isK w k 30) (j : Nat) : okk 30 j (v.1 k j).toInt := by
  have h := (I.2.2 k j).1
  rw [hr.2] at h
  exact h
theorem ga_31 (E : En w p m c cc nL s args own) (I : Wo w g H0 v H locs) (hr : isK w k 31) {i : Int32} (hi : 0 ≤ i.toInt ∧ i.toInt < 54) (hdg : decode cc pc = .ok (.iaload, 1)) (kk : W p l e R s m args below meth c H locs cells slots Q (F0 m (pc + 1) ls (.int (v.1 k i.toNatClampNeg) :: rest))) : W p l e R s m args below meth c H locs cells slots Q (F0 m pc ls (.int i :: .ref (wq w k) :: rest)) := gA E I hr.1 ((ce_o hr.2).trans rfl) (vp_in_iff.mpr hi) hdg kk
theorem pa_31 (E : En w p m c cc nL s args own) (I : Wo w g H0 v H locs) (hr : isK w k 31) {i x : Int32} (hi : 0 ≤ i.toInt ∧ i.toInt < 54) (hx : okk 31 i.toNatClampNeg x.toInt) (hdg : decode cc pc = .ok (.iastore, 1)) (kk : ∀ (H1 : Heap) (locs1 : List Loc), Wo w g H0 (up1 v k i.toNatClampNeg x) H1 locs1 → W p l e R s m args below meth c H1 locs1 cells slots Q (F0 m (pc + 1) ls rest)) : W p l e R s m args below meth c H locs cells slots Q (F0 m pc ls (.int x :: .int i :: .ref (wq w k) :: rest)) := pA E I hr.1 (fun r => by rw [hr.2]; rfl) (vp_in_iff.mpr hi) (I.2.2.put hr.2 (hx) rfl) hdg kk
theorem ra_31 (I : Wo w g H0 v H locs) (hr : isK w k 31) (j : Nat) : okk 31 j (v.1 k j).toInt := by
  have h := (I.2.2 k j).1
  rw [hr.2] at h
  exact h
theorem ga_32 (E : En w p m c cc nL s args own) (I : Wo w g H0 v H locs) (hr : isK w k 32) {i : Int32} (hi : 0 ≤ i.toInt ∧ i.toInt < 2) (hdg : decode cc pc = .ok (.baload, 1)) (kk : W p l e R s m args below meth c H locs cells slots Q (F0 m (pc + 1) ls (.int (v.1 k i.toNatClampNeg) :: rest))) : W p l e R s m args below meth c H locs cells slots Q (F0 m pc ls (.int i :: .ref (wq w k) :: rest)) := gAz E I hr.1 ((ce_o hr.2).trans rfl) (vp_in_iff.mpr hi) hdg kk
theorem pa_32 (E : En w p m c cc nL s args own) (I : Wo w g H0 v H locs) (hr : isK w k 32) {i x : Int32} (hi : 0 ≤ i.toInt ∧ i.toInt < 2) (hdg : decode cc pc = .ok (.bastore, 1)) (kk : ∀ (H1 : Heap) (locs1 : List Loc), Wo w g H0 (up1 v k i.toNatClampNeg (vp_nar .boolean x)) H1 locs1 → W p l e R s m args below meth c H1 locs1 cells slots Q (F0 m (pc + 1) ls rest)) : W p l e R s m args below meth c H locs cells slots Q (F0 m pc ls (.int x :: .int i :: .ref (wq w k) :: rest)) := pAz E I hr.1 (fun r => by rw [hr.2]; rfl) (vp_in_iff.mpr hi) (I.2.2.put hr.2 (by simp [okk]) rfl) hdg kk
theorem ga_33 (E : En w p m c cc nL s args own) (I : Wo w g H0 v H locs) (hr : isK w k 33) {i : Int32} (hi : 0 ≤ i.toInt ∧ i.toInt < 54) (hdg : decode cc pc = .ok (.iaload, 1)) (kk : W p l e R s m args below meth c H locs cells slots Q (F0 m (pc + 1) ls (.int (v.1 k i.toNatClampNeg) :: rest))) : W p l e R s m args below meth c H locs cells slots Q (F0 m pc ls (.int i :: .ref (wq w k) :: rest)) := gA E I hr.1 ((ce_o hr.2).trans rfl) (vp_in_iff.mpr hi) hdg kk
theorem pa_33 (E : En w p m c cc nL s args own) (I : Wo w g H0 v H locs) (hr : isK w k 33) {i x : Int32} (hi : 0 ≤ i.toInt ∧ i.toInt < 54) (hx : okk 33 i.toNatClampNeg x.toInt) (hdg : decode cc pc = .ok (.iastore, 1)) (kk : ∀ (H1 : Heap) (locs1 : List Loc), Wo w g H0 (up1 v k i.toNatClampNeg x) H1 locs1 → W p l e R s m args below meth c H1 locs1 cells slots Q (F0 m (pc + 1) ls rest)) : W p l e R s m args below meth c H locs cells slots Q (F0 m pc ls (.int x :: .int i :: .ref (wq w k) :: rest)) := pA E I hr.1 (fun r => by rw [hr.2]; rfl) (vp_in_iff.mpr hi) (I.2.2.put hr.2 (hx) rfl) hdg kk
theorem ra_33 (I : Wo w g H0 v H locs) (hr : isK w k 33) (j : Nat) : okk 33 j (v.1 k j).toInt := by
  have h := (I.2.2 k j).1
  rw [hr.2] at h
  exact h
theorem ga_34 (E : En w p m c cc nL s args own) (I : Wo w g H0 v H locs) (hr : isK w k 34) {i : Int32} (hi : 0 ≤ i.toInt ∧ i.toInt < 160) (hdg : decode cc pc = .ok (.iaload, 1)) (kk : W p l e R s m args below meth c H locs cells slots Q (F0 m (pc + 1) ls (.int (v.1 k i.toNatClampNeg) :: rest))) : W p l e R s m args below meth c H locs cells slots Q (F0 m pc ls (.int i :: .ref (wq w k) :: rest)) := gA E I hr.1 ((ce_o hr.2).trans rfl) (vp_in_iff.mpr hi) hdg kk
theorem pa_34 (E : En w p m c cc nL s args own) (I : Wo w g H0 v H locs) (hr : isK w k 34) {i x : Int32} (hi : 0 ≤ i.toInt ∧ i.toInt < 160) (hdg : decode cc pc = .ok (.iastore, 1)) (kk : ∀ (H1 : Heap) (locs1 : List Loc), Wo w g H0 (up1 v k i.toNatClampNeg x) H1 locs1 → W p l e R s m args below meth c H1 locs1 cells slots Q (F0 m (pc + 1) ls rest)) : W p l e R s m args below meth c H locs cells slots Q (F0 m pc ls (.int x :: .int i :: .ref (wq w k) :: rest)) := pA E I hr.1 (fun r => by rw [hr.2]; rfl) (vp_in_iff.mpr hi) (I.2.2.put hr.2 (by simp [okk]) rfl) hdg kk
theorem ga_35 (E : En w p m c cc nL s args own) (I : Wo w g H0 v H locs) (hr : isK w k 35) {i : Int32} (hi : 0 ≤ i.toInt ∧ i.toInt < 4) (hdg : decode cc pc = .ok (.iaload, 1)) (kk : W p l e R s m args below meth c H locs cells slots Q (F0 m (pc + 1) ls (.int (v.1 k i.toNatClampNeg) :: rest))) : W p l e R s m args below meth c H locs cells slots Q (F0 m pc ls (.int i :: .ref (wq w k) :: rest)) := gA E I hr.1 ((ce_o hr.2).trans rfl) (vp_in_iff.mpr hi) hdg kk
theorem pa_35 (E : En w p m c cc nL s args own) (I : Wo w g H0 v H locs) (hr : isK w k 35) {i x : Int32} (hi : 0 ≤ i.toInt ∧ i.toInt < 4) (hdg : decode cc pc = .ok (.iastore, 1)) (kk : ∀ (H1 : Heap) (locs1 : List Loc), Wo w g H0 (up1 v k i.toNatClampNeg x) H1 locs1 → W p l e R s m args below meth c H1 locs1 cells slots Q (F0 m (pc + 1) ls rest)) : W p l e R s m args below meth c H locs cells slots Q (F0 m pc ls (.int x :: .int i :: .ref (wq w k) :: rest)) := pA E I hr.1 (fun r => by rw [hr.2]; rfl) (vp_in_iff.mpr hi) (I.2.2.put hr.2 (by simp [okk]) rfl) hdg kk
theorem ga_36 (E : En w p m c cc nL s args own) (I : Wo w g H0 v H locs) (hr : isK w k 36) {i : Int32} (hi : 0 ≤ i.toInt ∧ i.toInt < 4) (hdg : decode cc pc = .ok (.iaload, 1)) (kk : W p l e R s m args below meth c H locs cells slots Q (F0 m (pc + 1) ls (.int (v.1 k i.toNatClampNeg) :: rest))) : W p l e R s m args below meth c H locs cells slots Q (F0 m pc ls (.int i :: .ref (wq w k) :: rest)) := gA E I hr.1 ((ce_o hr.2).trans rfl) (vp_in_iff.mpr hi) hdg kk
theorem pa_36 (E : En w p m c cc nL s args own) (I : Wo w g H0 v H locs) (hr : isK w k 36) {i x : Int32} (hi : 0 ≤ i.toInt ∧ i.toInt < 4) (hx : okk 36 i.toNatClampNeg x.toInt) (hdg : decode cc pc = .ok (.iastore, 1)) (kk : ∀ (H1 : Heap) (locs1 : List Loc), Wo w g H0 (up1 v k i.toNatClampNeg x) H1 locs1 → W p l e R s m args below meth c H1 locs1 cells slots Q (F0 m (pc + 1) ls rest)) : W p l e R s m args below meth c H locs cells slots Q (F0 m pc ls (.int x :: .int i :: .ref (wq w k) :: rest)) := pA E I hr.1 (fun r => by rw [hr.2]; rfl) (vp_in_iff.mpr hi) (I.2.2.put hr.2 (hx) rfl) hdg kk
theorem ra_36 (I : Wo w g H0 v H locs) (hr : isK w k 36) (j : Nat) : okk 36 j (v.1 k j).toInt := by
  have h := (I.2.2 k j).1
  rw [hr.2] at h
  exact h
theorem ga_37 (E : En w p m c cc nL s args own) (I : Wo w g H0 v H locs) (hr : isK w k 37) {i : Int32} (hi : 0 ≤ i.toInt ∧ i.toInt < 160) (hdg : decode cc pc = .ok (.iaload, 1)) (kk : W p l e R s m args below meth c H locs cells slots Q (F0 m (pc + 1) ls (.int (v.1 k i.toNatClampNeg) :: rest))) : W p l e R s m args below meth c H locs cells slots Q (F0 m pc ls (.int i :: .ref (wq w k) :: rest)) := gA E I hr.1 ((ce_o hr.2).trans rfl) (vp_in_iff.mpr hi) hdg kk
theorem pa_37 (E : En w p m c cc nL s args own) (I : Wo w g H0 v H locs) (hr : isK w k 37) {i x : Int32} (hi : 0 ≤ i.toInt ∧ i.toInt < 160) (hdg : decode cc pc = .ok (.iastore, 1)) (kk : ∀ (H1 : Heap) (locs1 : List Loc), Wo w g H0 (up1 v k i.toNatClampNeg x) H1 locs1 → W p l e R s m args below meth c H1 locs1 cells slots Q (F0 m (pc + 1) ls rest)) : W p l e R s m args below meth c H locs cells slots Q (F0 m pc ls (.int x :: .int i :: .ref (wq w k) :: rest)) := pA E I hr.1 (fun r => by rw [hr.2]; rfl) (vp_in_iff.mpr hi) (I.2.2.put hr.2 (by simp [okk]) rfl) hdg kk
theorem ga_38 (E : En w p m c cc nL s args own) (I : Wo w g H0 v H locs) (hr : isK w k 38) {i : Int32} (hi : 0 ≤ i.toInt ∧ i.toInt < 54) (hdg : decode cc pc = .ok (.iaload, 1)) (kk : W p l e R s m args below meth c H locs cells slots Q (F0 m (pc + 1) ls (.int (v.1 k i.toNatClampNeg) :: rest))) : W p l e R s m args below meth c H locs cells slots Q (F0 m pc ls (.int i :: .ref (wq w k) :: rest)) := gA E I hr.1 ((ce_o hr.2).trans rfl) (vp_in_iff.mpr hi) hdg kk
theorem pa_38 (E : En w p m c cc nL s args own) (I : Wo w g H0 v H locs) (hr : isK w k 38) {i x : Int32} (hi : 0 ≤ i.toInt ∧ i.toInt < 54) (hx : okk 38 i.toNatClampNeg x.toInt) (hdg : decode cc pc = .ok (.iastore, 1)) (kk : ∀ (H1 : Heap) (locs1 : List Loc), Wo w g H0 (up1 v k i.toNatClampNeg x) H1 locs1 → W p l e R s m args below meth c H1 locs1 cells slots Q (F0 m (pc + 1) ls rest)) : W p l e R s m args below meth c H locs cells slots Q (F0 m pc ls (.int x :: .int i :: .ref (wq w k) :: rest)) := pA E I hr.1 (fun r => by rw [hr.2]; rfl) (vp_in_iff.mpr hi) (I.2.2.put hr.2 (hx) rfl) hdg kk
theorem ra_38 (I : Wo w g H0 v H locs) (hr : isK w k 38) (j : Nat) : okk 38 j (v.1 k j).toInt := by
  have h := (I.2.2 k j).1
  rw [hr.2] at h
  exact h
theorem ga_20 (E : En w p m c cc nL s args own) (I : Wo w g H0 v H locs) (hr : isK w k 20) {i : Int32} (hi : 0 ≤ i.toInt ∧ i.toInt < 2) (hdg : decode cc pc = .ok (.aaload, 1)) (kk : W p l e R s m args below meth c H locs cells slots Q (F0 m (pc + 1) ls (.ref (wq w (k + (3 + 9 * i.toNatClampNeg))) :: rest))) : W p l e R s m args below meth c H locs cells slots Q (F0 m pc ls (.int i :: .ref (wq w k) :: rest)) := by
  have hj : i.toNatClampNeg < 2 := by
    show i.toInt.toNat < 2
    omega
  refine gAr E I hr.1 3 rfl ((ce_o hr.2).trans rfl) (vp_in_iff.mpr hi) (z := k + (3 + 9 * i.toNatClampNeg)) ?_ hdg kk
  generalize i.toNatClampNeg = j at hj ⊢
  rcases (show j = 0 ∨ j = 1 by omega) with rfl | rfl <;> rfl
theorem ga_21 (E : En w p m c cc nL s args own) (I : Wo w g H0 v H locs) (hr : isK w k 21) {i : Int32} (hi : 0 ≤ i.toInt ∧ i.toInt < 5) (hdg : decode cc pc = .ok (.aaload, 1)) (kk : W p l e R s m args below meth c H locs cells slots Q (F0 m (pc + 1) ls (.ref (wq w (k + (3 + i.toNatClampNeg))) :: rest))) : W p l e R s m args below meth c H locs cells slots Q (F0 m pc ls (.int i :: .ref (wq w k) :: rest)) := by
  have hj : i.toNatClampNeg < 5 := by
    show i.toInt.toNat < 5
    omega
  refine gAr E I hr.1 4 rfl ((ce_o hr.2).trans rfl) (vp_in_iff.mpr hi) (z := k + (3 + i.toNatClampNeg)) ?_ hdg kk
  generalize i.toNatClampNeg = j at hj ⊢
  rcases (show j = 0 ∨ j = 1 ∨ j = 2 ∨ j = 3 ∨ j = 4 by omega) with rfl | rfl | rfl | rfl | rfl <;> rfl
theorem ga_22 (E : En w p m c cc nL s args own) (I : Wo w g H0 v H locs) (hr : isK w k 22) {i : Int32} (hi : 0 ≤ i.toInt ∧ i.toInt < 9) (hdg : decode cc pc = .ok (.aaload, 1)) (kk : W p l e R s m args below meth c H locs cells slots Q (F0 m (pc + 1) ls (.ref (wq w (k + (1 + i.toNatClampNeg))) :: rest))) : W p l e R s m args below meth c H locs cells slots Q (F0 m pc ls (.int i :: .ref (wq w k) :: rest)) := by
  have hj : i.toNatClampNeg < 9 := by
    show i.toInt.toNat < 9
    omega
  refine gAr E I hr.1 4 rfl ((ce_o hr.2).trans rfl) (vp_in_iff.mpr hi) (z := k + (1 + i.toNatClampNeg)) ?_ hdg kk
  generalize i.toNatClampNeg = j at hj ⊢
  rcases (show j = 0 ∨ j = 1 ∨ j = 2 ∨ j = 3 ∨ j = 4 ∨ j = 5 ∨ j = 6 ∨ j = 7 ∨ j = 8 by omega) with rfl | rfl | rfl | rfl | rfl | rfl | rfl | rfl | rfl <;> rfl
theorem ga_23 (E : En w p m c cc nL s args own) (I : Wo w g H0 v H locs) (hr : isK w k 23) {i : Int32} (hi : 0 ≤ i.toInt ∧ i.toInt < 4) (hdg : decode cc pc = .ok (.aaload, 1)) (kk : W p l e R s m args below meth c H locs cells slots Q (F0 m (pc + 1) ls (.ref (wq w (k + (19 + 2 * i.toNatClampNeg))) :: rest))) : W p l e R s m args below meth c H locs cells slots Q (F0 m pc ls (.int i :: .ref (wq w k) :: rest)) := by
  have hj : i.toNatClampNeg < 4 := by
    show i.toInt.toNat < 4
    omega
  refine gAr E I hr.1 5 rfl ((ce_o hr.2).trans rfl) (vp_in_iff.mpr hi) (z := k + (19 + 2 * i.toNatClampNeg)) ?_ hdg kk
  generalize i.toNatClampNeg = j at hj ⊢
  rcases (show j = 0 ∨ j = 1 ∨ j = 2 ∨ j = 3 by omega) with rfl | rfl | rfl | rfl <;> rfl
theorem tI_lt {x y : Int32} {a b : Int} (ha : x.toInt = a) (hb : y.toInt = b) : x < y ↔ a < b := by rw [Int32.lt_iff_toInt_lt, ha, hb]
theorem tI_le {x y : Int32} {a b : Int} (ha : x.toInt = a) (hb : y.toInt = b) : x ≤ y ↔ a ≤ b := by rw [Int32.le_iff_toInt_le, ha, hb]
theorem tI_eq {x y : Int32} {a b : Int} (ha : x.toInt = a) (hb : y.toInt = b) : x = y ↔ a = b := by rw [← Int32.toInt_inj, ha, hb]
theorem bi_eq (E : En w p m c cc nL s args own) {x y : Int32} {a b : Int} (ha : x.toInt = a) (hb : y.toInt = b) {off : Int} {tgt : Nat} (hdg : decode cc pc = .ok (.if_icmp .eq off, 3)) (ht : (pc : Int) + off = (tgt : Int)) (kt : a = b → W p l e R s m args below meth c H locs cells slots Q (F0 m tgt ls rest)) (kf : ¬ a = b → W p l e R s m args below meth c H locs cells slots Q (F0 m (pc + 3) ls rest)) : W p l e R s m args below meth c H locs cells slots Q (F0 m pc ls (.int y :: .int x :: rest)) := lv_icmp_eq E.1.1 E.1.2.1 hdg ht (fun h => kt ((tI_eq ha hb).mp h)) (fun h => kf (fun z => h ((tI_eq ha hb).mpr z)))
theorem bz_eq (E : En w p m c cc nL s args own) {x : Int32} {a : Int} (ha : x.toInt = a) {off : Int} {tgt : Nat} (hdg : decode cc pc = .ok (.ifCond .eq off, 3)) (ht : (pc : Int) + off = (tgt : Int)) (kt : a = 0 → W p l e R s m args below meth c H locs cells slots Q (F0 m tgt ls rest)) (kf : ¬ a = 0 → W p l e R s m args below meth c H locs cells slots Q (F0 m (pc + 3) ls rest)) : W p l e R s m args below meth c H locs cells slots Q (F0 m pc ls (.int x :: rest)) := by
  have hb : (0 : Int32).toInt = 0 := rfl
  exact lv_if_eq E.1.1 E.1.2.1 hdg ht (fun h => kt ((tI_eq ha hb).mp h)) (fun h => kf (fun z => h ((tI_eq ha hb).mpr z)))
theorem bi_ne (E : En w p m c cc nL s args own) {x y : Int32} {a b : Int} (ha : x.toInt = a) (hb : y.toInt = b) {off : Int} {tgt : Nat} (hdg : decode cc pc = .ok (.if_icmp .ne off, 3)) (ht : (pc : Int) + off = (tgt : Int)) (kt : ¬ a = b → W p l e R s m args below meth c H locs cells slots Q (F0 m tgt ls rest)) (kf : a = b → W p l e R s m args below meth c H locs cells slots Q (F0 m (pc + 3) ls rest)) : W p l e R s m args below meth c H locs cells slots Q (F0 m pc ls (.int y :: .int x :: rest)) := lv_icmp_ne E.1.1 E.1.2.1 hdg ht (fun h => kt (fun z => h ((tI_eq ha hb).mpr z))) (fun h => kf ((tI_eq ha hb).mp h))
theorem bz_ne (E : En w p m c cc nL s args own) {x : Int32} {a : Int} (ha : x.toInt = a) {off : Int} {tgt : Nat} (hdg : decode cc pc = .ok (.ifCond .ne off, 3)) (ht : (pc : Int) + off = (tgt : Int)) (kt : ¬ a = 0 → W p l e R s m args below meth c H locs cells slots Q (F0 m tgt ls rest)) (kf : a = 0 → W p l e R s m args below meth c H locs cells slots Q (F0 m (pc + 3) ls rest)) : W p l e R s m args below meth c H locs cells slots Q (F0 m pc ls (.int x :: rest)) := by
  have hb : (0 : Int32).toInt = 0 := rfl
  exact lv_if_ne E.1.1 E.1.2.1 hdg ht (fun h => kt (fun z => h ((tI_eq ha hb).mpr z))) (fun h => kf ((tI_eq ha hb).mp h))
theorem bi_lt (E : En w p m c cc nL s args own) {x y : Int32} {a b : Int} (ha : x.toInt = a) (hb : y.toInt = b) {off : Int} {tgt : Nat} (hdg : decode cc pc = .ok (.if_icmp .lt off, 3)) (ht : (pc : Int) + off = (tgt : Int)) (kt : a < b → W p l e R s m args below meth c H locs cells slots Q (F0 m tgt ls rest)) (kf : b ≤ a → W p l e R s m args below meth c H locs cells slots Q (F0 m (pc + 3) ls rest)) : W p l e R s m args below meth c H locs cells slots Q (F0 m pc ls (.int y :: .int x :: rest)) := lv_icmp_lt E.1.1 E.1.2.1 hdg ht (fun h => kt ((tI_lt ha hb).mp h)) (fun h => kf (Int.not_lt.mp (fun z => h ((tI_lt ha hb).mpr z))))
theorem bz_lt (E : En w p m c cc nL s args own) {x : Int32} {a : Int} (ha : x.toInt = a) {off : Int} {tgt : Nat} (hdg : decode cc pc = .ok (.ifCond .lt off, 3)) (ht : (pc : Int) + off = (tgt : Int)) (kt : a < 0 → W p l e R s m args below meth c H locs cells slots Q (F0 m tgt ls rest)) (kf : 0 ≤ a → W p l e R s m args below meth c H locs cells slots Q (F0 m (pc + 3) ls rest)) : W p l e R s m args below meth c H locs cells slots Q (F0 m pc ls (.int x :: rest)) := by
  have hb : (0 : Int32).toInt = 0 := rfl
  exact lv_if_lt E.1.1 E.1.2.1 hdg ht (fun h => kt ((tI_lt ha hb).mp h)) (fun h => kf (Int.not_lt.mp (fun z => h ((tI_lt ha hb).mpr z))))
theorem bi_ge (E : En w p m c cc nL s args own) {x y : Int32} {a b : Int} (ha : x.toInt = a) (hb : y.toInt = b) {off : Int} {tgt : Nat} (hdg : decode cc pc = .ok (.if_icmp .ge off, 3)) (ht : (pc : Int) + off = (tgt : Int)) (kt : b ≤ a → W p l e R s m args below meth c H locs cells slots Q (F0 m tgt ls rest)) (kf : a < b → W p l e R s m args below meth c H locs cells slots Q (F0 m (pc + 3) ls rest)) : W p l e R s m args below meth c H locs cells slots Q (F0 m pc ls (.int y :: .int x :: rest)) := lv_icmp_ge E.1.1 E.1.2.1 hdg ht (fun h => kt ((tI_le hb ha).mp h)) (fun h => kf (Int.not_le.mp (fun z => h ((tI_le hb ha).mpr z))))
theorem bz_ge (E : En w p m c cc nL s args own) {x : Int32} {a : Int} (ha : x.toInt = a) {off : Int} {tgt : Nat} (hdg : decode cc pc = .ok (.ifCond .ge off, 3)) (ht : (pc : Int) + off = (tgt : Int)) (kt : 0 ≤ a → W p l e R s m args below meth c H locs cells slots Q (F0 m tgt ls rest)) (kf : a < 0 → W p l e R s m args below meth c H locs cells slots Q (F0 m (pc + 3) ls rest)) : W p l e R s m args below meth c H locs cells slots Q (F0 m pc ls (.int x :: rest)) := by
  have hb : (0 : Int32).toInt = 0 := rfl
  exact lv_if_ge E.1.1 E.1.2.1 hdg ht (fun h => kt ((tI_le hb ha).mp h)) (fun h => kf (Int.not_le.mp (fun z => h ((tI_le hb ha).mpr z))))
theorem bi_gt (E : En w p m c cc nL s args own) {x y : Int32} {a b : Int} (ha : x.toInt = a) (hb : y.toInt = b) {off : Int} {tgt : Nat} (hdg : decode cc pc = .ok (.if_icmp .gt off, 3)) (ht : (pc : Int) + off = (tgt : Int)) (kt : b < a → W p l e R s m args below meth c H locs cells slots Q (F0 m tgt ls rest)) (kf : a ≤ b → W p l e R s m args below meth c H locs cells slots Q (F0 m (pc + 3) ls rest)) : W p l e R s m args below meth c H locs cells slots Q (F0 m pc ls (.int y :: .int x :: rest)) := lv_icmp_gt E.1.1 E.1.2.1 hdg ht (fun h => kt ((tI_lt hb ha).mp h)) (fun h => kf (Int.not_lt.mp (fun z => h ((tI_lt hb ha).mpr z))))
theorem bz_gt (E : En w p m c cc nL s args own) {x : Int32} {a : Int} (ha : x.toInt = a) {off : Int} {tgt : Nat} (hdg : decode cc pc = .ok (.ifCond .gt off, 3)) (ht : (pc : Int) + off = (tgt : Int)) (kt : 0 < a → W p l e R s m args below meth c H locs cells slots Q (F0 m tgt ls rest)) (kf : a ≤ 0 → W p l e R s m args below meth c H locs cells slots Q (F0 m (pc + 3) ls rest)) : W p l e R s m args below meth c H locs cells slots Q (F0 m pc ls (.int x :: rest)) := by
  have hb : (0 : Int32).toInt = 0 := rfl
  exact lv_if_gt E.1.1 E.1.2.1 hdg ht (fun h => kt ((tI_lt hb ha).mp h)) (fun h => kf (Int.not_lt.mp (fun z => h ((tI_lt hb ha).mpr z))))
theorem bi_le (E : En w p m c cc nL s args own) {x y : Int32} {a b : Int} (ha : x.toInt = a) (hb : y.toInt = b) {off : Int} {tgt : Nat} (hdg : decode cc pc = .ok (.if_icmp .le off, 3)) (ht : (pc : Int) + off = (tgt : Int)) (kt : a ≤ b → W p l e R s m args below meth c H locs cells slots Q (F0 m tgt ls rest)) (kf : b < a → W p l e R s m args below meth c H locs cells slots Q (F0 m (pc + 3) ls rest)) : W p l e R s m args below meth c H locs cells slots Q (F0 m pc ls (.int y :: .int x :: rest)) := lv_icmp_le E.1.1 E.1.2.1 hdg ht (fun h => kt ((tI_le ha hb).mp h)) (fun h => kf (Int.not_le.mp (fun z => h ((tI_le ha hb).mpr z))))
theorem bz_le (E : En w p m c cc nL s args own) {x : Int32} {a : Int} (ha : x.toInt = a) {off : Int} {tgt : Nat} (hdg : decode cc pc = .ok (.ifCond .le off, 3)) (ht : (pc : Int) + off = (tgt : Int)) (kt : a ≤ 0 → W p l e R s m args below meth c H locs cells slots Q (F0 m tgt ls rest)) (kf : 0 < a → W p l e R s m args below meth c H locs cells slots Q (F0 m (pc + 3) ls rest)) : W p l e R s m args below meth c H locs cells slots Q (F0 m pc ls (.int x :: rest)) := by
  have hb : (0 : Int32).toInt = 0 := rfl
  exact lv_if_le E.1.1 E.1.2.1 hdg ht (fun h => kt ((tI_le ha hb).mp h)) (fun h => kf (Int.not_le.mp (fun z => h ((tI_le ha hb).mpr z))))
end RW
theorem i32_rng (x : Int32) : -2147483648 ≤ x.toInt ∧ x.toInt ≤ 2147483647 := by
  have h1 := Int32.le_toInt x
  have h2 := Int32.toInt_lt x
  omega
theorem i_bmod {z : Int} (h1 : -2147483648 ≤ z) (h2 : z < 2147483648) : z.bmod (2 ^ 32) = z := Int.bmod_eq_of_le (by omega) (by omega)
theorem adI {x y : Int32} {a b : Int} (hx : x.toInt = a) (hy : y.toInt = b) (h1 : -2147483648 ≤ a + b) (h2 : a + b < 2147483648) : (x + y).toInt = a + b := by
  rw [Int32.toInt_add, hx, hy]; exact i_bmod h1 h2
theorem sbI {x y : Int32} {a b : Int} (hx : x.toInt = a) (hy : y.toInt = b) (h1 : -2147483648 ≤ a - b) (h2 : a - b < 2147483648) : (x - y).toInt = a - b := by
  rw [Int32.toInt_sub, hx, hy]; exact i_bmod h1 h2
theorem mlI {x y : Int32} {a b : Int} (hx : x.toInt = a) (hy : y.toInt = b) (h1 : -2147483648 ≤ a * b) (h2 : a * b < 2147483648) : (x * y).toInt = a * b := by
  rw [Int32.toInt_mul, hx, hy]; exact i_bmod h1 h2
theorem ngI {x : Int32} {a : Int} (hx : x.toInt = a) (h1 : -2147483648 < a) : (-x).toInt = -a := by
  have := i32_rng x
  rw [Int32.toInt_neg, hx]; exact i_bmod (by omega) (by omega)
theorem cnI {x : Int32} (h : 0 ≤ x.toInt) : ((x.toNatClampNeg : Nat) : Int) = x.toInt := by
  show ((x.toInt.toNat : Nat) : Int) = x.toInt
  omega
theorem dvI {x y : Int32} {a b : Int} (hx : x.toInt = a) (hy : y.toInt = b) (h1 : 0 ≤ a) (h2 : 0 < b) : 0 ≤ (x / y).toInt ∧ (x / y).toInt ≤ a := by
  have h3 : (x / y).toInt = a.tdiv b := by
    rw [Int32.toInt_div, hx, hy]
    have e1 : a.tdiv b = a / b := Int.tdiv_eq_ediv_of_nonneg h1
    have e2 : 0 ≤ a / b := Int.ediv_nonneg h1 (by omega)
    have e3 : a / b ≤ a := Int.ediv_le_self b h1
    have := i32_rng x
    rw [e1]
    exact i_bmod (by omega) (by omega)
  rw [h3, Int.tdiv_eq_ediv_of_nonneg h1]
  exact ⟨Int.ediv_nonneg h1 (by omega), Int.ediv_le_self b h1⟩
theorem rmI {x y : Int32} {a b : Int} (hx : x.toInt = a) (hy : y.toInt = b) (h1 : 0 ≤ a) (h2 : 0 < b) : 0 ≤ (x - x / y * y).toInt ∧ (x - x / y * y).toInt < b := by
  have r := i32_rng x
  have r2 := i32_rng y
  have e1 : (x / y).toInt = a / b := by
    rw [Int32.toInt_div, hx, hy, Int.tdiv_eq_ediv_of_nonneg h1]
    have e2 : 0 ≤ a / b := Int.ediv_nonneg h1 (by omega)
    have e3 : a / b ≤ a := Int.ediv_le_self b h1
    exact i_bmod (by omega) (by omega)
  have m1 := Int.emod_nonneg a (show b ≠ 0 by omega)
  have m2 := Int.emod_lt_of_pos a h2
  have m3 := Int.mul_ediv_add_emod a b
  have m4 : a / b * b = b * (a / b) := Int.mul_comm _ _
  have e4 : (x / y * y).toInt = a / b * b := mlI e1 hy (by omega) (by omega)
  have e5 : (x - x / y * y).toInt = a - a / b * b := sbI hx e4 (by omega) (by omega)
  rw [e5]
  omega
theorem anI {x y : Int32} {b : Int} (hy : y.toInt = b) (h : 0 ≤ b) : 0 ≤ (x &&& y).toInt ∧ (x &&& y).toInt ≤ b := by
  have hyN : y.toBitVec.toNat < 2 ^ 31 ∧ (y.toBitVec.toNat : Int) = b := by
    have h1 : y.toInt = y.toBitVec.toInt := rfl
    rw [BitVec.toInt_eq_toNat_cond] at h1
    have := y.toBitVec.isLt
    split at h1 <;> omega
  have hle : (x &&& y).toBitVec.toNat ≤ y.toBitVec.toNat := by
    rw [Int32.toBitVec_and, BitVec.toNat_and]
    exact Nat.and_le_right
  have h1 : (x &&& y).toInt = (x &&& y).toBitVec.toInt := rfl
  rw [BitVec.toInt_eq_toNat_cond] at h1
  split at h1 <;> omega
theorem nz_of {x : Int32} {a : Int} (h : x.toInt = a) (h2 : ¬ a = 0) : ¬ x = 0 := fun z => h2 (by rw [← h, z]; rfl)
theorem nbI {x : Int32} (h : 0 ≤ x.toInt ∧ x.toInt ≤ 1) : narrow .boolean (.int x) = .int x := by
  rcases (show x.toInt = 0 ∨ x.toInt = 1 by omega) with e | e
  · have : x = 0 := Int32.toInt_inj.mp (by rw [e]; rfl)
    subst this; rfl
  · have : x = 1 := Int32.toInt_inj.mp (by rw [e]; rfl)
    subst this; rfl
theorem b01 {x : Int32} (h : 0 ≤ x.toInt ∧ x.toInt ≤ 1) : x = 0 ∨ x = 1 := by
  rcases (show x.toInt = 0 ∨ x.toInt = 1 by omega) with e | e
  · exact Or.inl (Int32.toInt_inj.mp (by rw [e]; rfl))
  · exact Or.inr (Int32.toInt_inj.mp (by rw [e]; rfl))
def rmL (n : Nat) : Room := { frames := n, cells := 0, slots := 0, locals := 100 * n }
def Zi (w : Wp) (below : List Frame) (args : Array Value) (s : State) (post : Int32 → St → Prop) : State → Prop := MQ below (va_Qi post (Bw w) (Aw w)) args s 0 0 (Aw w)
def Zl (w : Wp) (below : List Frame) (args : Array Value) (s : State) (post : Int64 → St → Prop) : State → Prop := MQ below (va_Ql post (Bw w) (Aw w)) args s 0 0 (Aw w)
def Zv (w : Wp) (below : List Frame) (args : Array Value) (s : State) (post : St → Prop) : State → Prop := MQ below (va_Qv post (Bw w) (Aw w)) args s 0 0 (Aw w)

section CP
variable {p : Program} {l : Launch} {e : Env} {R : Room} {s : State} {m : MethodId} {args : Array Value} {below : List Frame} {meth : Method} {c : Code} {H : Heap} {locs : List Loc} {cells slots : Nat} {Q : State → Prop}
variable {cc : ByteArray} {pc : Nat} {ls : Array Slot} {rest : List Value} {w : Wp} {g : Nat → Nat → Int32} {v : St} {H0 : Heap} {nL : Nat} {own : String} {a b index : Nat}
theorem cp_10 (E : En w p m c cc nL s args own) (I : Wo w g H0 v H locs) (ha : isK w a 10) (hb2 : isK w b 10) (hl : Cond.methodLink own index arraycopyName ∈ lw_tbl) (hml : c.maxLocals = ls.size) (hf : 1 ≤ R.frames) (hlo : (rest.map fun v => v.category).sum + (nativeFrameWords "java/lang/System" "arraycopy" 5 + 11) ≤ R.locals) (hdg : decode cc pc = .ok (.invokestatic index, 3))
    (kk : ∀ (H1 : Heap) (locs1 : List Loc), Wo w g H0 (upR v b (va_cpy (v.1 a) (v.1 b) 0 0 5)) H1 locs1 → W p l e R s m args below meth c H1 locs1 cells slots Q (F0 m (pc + 3) ls rest)) : W p l e R s m args below meth c H locs cells slots Q (F0 m pc ls (.int 5 :: .int 0 :: .ref (wq w b) :: .int 0 :: .ref (wq w a) :: rest)) := by
  have EE := E
  obtain ⟨⟨hx, hb, hml2, hown, hts⟩, hK, hq, -⟩ := E
  refine va_copyi (D := wD w) hx hb hml hown (Ew EE hl rfl) (Ew EE mw_3_66 rfl) (Ew EE mw_3_65 rfl) (Ew EE mw_1_14 rfl) hK I.1 (wd_D hq) I.2.1 a b 1 1 (n0 := 5) (n1 := 5) (f := v.1 a) (g := v.1 b) (ty := .int) (by rw [wd_get ha.1]; exact congrArg some (congrArg (Prod.mk _) ((ce_o ha.2).trans rfl))) (by rw [wd_get hb2.1]; exact congrArg some (congrArg (Prod.mk _) ((ce_o hb2.2).trans rfl))) rfl rfl rfl (by decide) (by decide) (by decide) (by decide) (by decide) (fun _ _ => rfl) hf hlo hdg (fun H1 locs1 hP _ hS => ?_)
  have e0 : (0 : Int32).toNatClampNeg = 0 := rfl
  have en : (5 : Int32).toNatClampNeg = 5 := rfl
  rw [e0, en, wd_set (v' := upR v b (va_cpy (v.1 a) (v.1 b) 0 0 5)) hb2.1 (by rw [ce_o hb2.2, upR_k]; rfl) (upR_o _ _ _) (fun _ _ => rfl)] at hP
  refine kk H1 locs1 ⟨hP, hS, I.2.2.row hb2.2 (fun j => ?_) (fun _ => rfl)⟩
  have h1 := (I.2.2 a (0 + (j - 0))).1
  have h2 := (I.2.2 b j).1
  rw [ha.2] at h1
  rw [hb2.2] at h2
  unfold va_cpy
  split
  · first | exact h1 | simp [okk]
  · exact h2
theorem cp_11 (E : En w p m c cc nL s args own) (I : Wo w g H0 v H locs) (ha : isK w a 11) (hb2 : isK w b 11) (hl : Cond.methodLink own index arraycopyName ∈ lw_tbl) (hml : c.maxLocals = ls.size) (hf : 1 ≤ R.frames) (hlo : (rest.map fun v => v.category).sum + (nativeFrameWords "java/lang/System" "arraycopy" 5 + 11) ≤ R.locals) (hdg : decode cc pc = .ok (.invokestatic index, 3))
    (kk : ∀ (H1 : Heap) (locs1 : List Loc), Wo w g H0 (upR v b (va_cpy (v.1 a) (v.1 b) 0 0 3)) H1 locs1 → W p l e R s m args below meth c H1 locs1 cells slots Q (F0 m (pc + 3) ls rest)) : W p l e R s m args below meth c H locs cells slots Q (F0 m pc ls (.int 3 :: .int 0 :: .ref (wq w b) :: .int 0 :: .ref (wq w a) :: rest)) := by
  have EE := E
  obtain ⟨⟨hx, hb, hml2, hown, hts⟩, hK, hq, -⟩ := E
  refine va_copyi (D := wD w) hx hb hml hown (Ew EE hl rfl) (Ew EE mw_3_66 rfl) (Ew EE mw_3_65 rfl) (Ew EE mw_1_14 rfl) hK I.1 (wd_D hq) I.2.1 a b 1 1 (n0 := 3) (n1 := 3) (f := v.1 a) (g := v.1 b) (ty := .int) (by rw [wd_get ha.1]; exact congrArg some (congrArg (Prod.mk _) ((ce_o ha.2).trans rfl))) (by rw [wd_get hb2.1]; exact congrArg some (congrArg (Prod.mk _) ((ce_o hb2.2).trans rfl))) rfl rfl rfl (by decide) (by decide) (by decide) (by decide) (by decide) (fun _ _ => rfl) hf hlo hdg (fun H1 locs1 hP _ hS => ?_)
  have e0 : (0 : Int32).toNatClampNeg = 0 := rfl
  have en : (3 : Int32).toNatClampNeg = 3 := rfl
  rw [e0, en, wd_set (v' := upR v b (va_cpy (v.1 a) (v.1 b) 0 0 3)) hb2.1 (by rw [ce_o hb2.2, upR_k]; rfl) (upR_o _ _ _) (fun _ _ => rfl)] at hP
  refine kk H1 locs1 ⟨hP, hS, I.2.2.row hb2.2 (fun j => ?_) (fun _ => rfl)⟩
  have h1 := (I.2.2 a (0 + (j - 0))).1
  have h2 := (I.2.2 b j).1
  rw [ha.2] at h1
  rw [hb2.2] at h2
  unfold va_cpy
  split
  · first | exact h1 | simp [okk]
  · exact h2
theorem cp_12 (E : En w p m c cc nL s args own) (I : Wo w g H0 v H locs) (ha : isK w a 12) (hb2 : isK w b 12) (hl : Cond.methodLink own index arraycopyName ∈ lw_tbl) (hml : c.maxLocals = ls.size) (hf : 1 ≤ R.frames) (hlo : (rest.map fun v => v.category).sum + (nativeFrameWords "java/lang/System" "arraycopy" 5 + 11) ≤ R.locals) (hdg : decode cc pc = .ok (.invokestatic index, 3))
    (kk : ∀ (H1 : Heap) (locs1 : List Loc), Wo w g H0 (upR v b (va_cpy (v.1 a) (v.1 b) 0 0 8)) H1 locs1 → W p l e R s m args below meth c H1 locs1 cells slots Q (F0 m (pc + 3) ls rest)) : W p l e R s m args below meth c H locs cells slots Q (F0 m pc ls (.int 8 :: .int 0 :: .ref (wq w b) :: .int 0 :: .ref (wq w a) :: rest)) := by
  have EE := E
  obtain ⟨⟨hx, hb, hml2, hown, hts⟩, hK, hq, -⟩ := E
  refine va_copyi (D := wD w) hx hb hml hown (Ew EE hl rfl) (Ew EE mw_3_66 rfl) (Ew EE mw_3_65 rfl) (Ew EE mw_1_14 rfl) hK I.1 (wd_D hq) I.2.1 a b 1 1 (n0 := 8) (n1 := 8) (f := v.1 a) (g := v.1 b) (ty := .int) (by rw [wd_get ha.1]; exact congrArg some (congrArg (Prod.mk _) ((ce_o ha.2).trans rfl))) (by rw [wd_get hb2.1]; exact congrArg some (congrArg (Prod.mk _) ((ce_o hb2.2).trans rfl))) rfl rfl rfl (by decide) (by decide) (by decide) (by decide) (by decide) (fun _ _ => rfl) hf hlo hdg (fun H1 locs1 hP _ hS => ?_)
  have e0 : (0 : Int32).toNatClampNeg = 0 := rfl
  have en : (8 : Int32).toNatClampNeg = 8 := rfl
  rw [e0, en, wd_set (v' := upR v b (va_cpy (v.1 a) (v.1 b) 0 0 8)) hb2.1 (by rw [ce_o hb2.2, upR_k]; rfl) (upR_o _ _ _) (fun _ _ => rfl)] at hP
  refine kk H1 locs1 ⟨hP, hS, I.2.2.row hb2.2 (fun j => ?_) (fun _ => rfl)⟩
  have h1 := (I.2.2 a (0 + (j - 0))).1
  have h2 := (I.2.2 b j).1
  rw [ha.2] at h1
  rw [hb2.2] at h2
  unfold va_cpy
  split
  · first | exact h1 | simp [okk]
  · exact h2
theorem cp_13 (E : En w p m c cc nL s args own) (I : Wo w g H0 v H locs) (ha : isK w a 13) (hb2 : isK w b 13) (hl : Cond.methodLink own index arraycopyName ∈ lw_tbl) (hml : c.maxLocals = ls.size) (hf : 1 ≤ R.frames) (hlo : (rest.map fun v => v.category).sum + (nativeFrameWords "java/lang/System" "arraycopy" 5 + 11) ≤ R.locals) (hdg : decode cc pc = .ok (.invokestatic index, 3))
    (kk : ∀ (H1 : Heap) (locs1 : List Loc), Wo w g H0 (upR v b (va_cpy (v.1 a) (v.1 b) 0 0 6)) H1 locs1 → W p l e R s m args below meth c H1 locs1 cells slots Q (F0 m (pc + 3) ls rest)) : W p l e R s m args below meth c H locs cells slots Q (F0 m pc ls (.int 6 :: .int 0 :: .ref (wq w b) :: .int 0 :: .ref (wq w a) :: rest)) := by
  have EE := E
  obtain ⟨⟨hx, hb, hml2, hown, hts⟩, hK, hq, -⟩ := E
  refine va_copyi (D := wD w) hx hb hml hown (Ew EE hl rfl) (Ew EE mw_3_66 rfl) (Ew EE mw_3_65 rfl) (Ew EE mw_1_14 rfl) hK I.1 (wd_D hq) I.2.1 a b 1 1 (n0 := 6) (n1 := 6) (f := v.1 a) (g := v.1 b) (ty := .int) (by rw [wd_get ha.1]; exact congrArg some (congrArg (Prod.mk _) ((ce_o ha.2).trans rfl))) (by rw [wd_get hb2.1]; exact congrArg some (congrArg (Prod.mk _) ((ce_o hb2.2).trans rfl))) rfl rfl rfl (by decide) (by decide) (by decide) (by decide) (by decide) (fun _ _ => rfl) hf hlo hdg (fun H1 locs1 hP _ hS => ?_)
  have e0 : (0 : Int32).toNatClampNeg = 0 := rfl
  have en : (6 : Int32).toNatClampNeg = 6 := rfl
  rw [e0, en, wd_set (v' := upR v b (va_cpy (v.1 a) (v.1 b) 0 0 6)) hb2.1 (by rw [ce_o hb2.2, upR_k]; rfl) (upR_o _ _ _) (fun _ _ => rfl)] at hP
  refine kk H1 locs1 ⟨hP, hS, I.2.2.row hb2.2 (fun j => ?_) (fun _ => rfl)⟩
  have h1 := (I.2.2 a (0 + (j - 0))).1
  have h2 := (I.2.2 b j).1
  rw [ha.2] at h1
  rw [hb2.2] at h2
  unfold va_cpy
  split
  · first | exact h1 | simp [okk]
  · exact h2
theorem cp_14 (E : En w p m c cc nL s args own) (I : Wo w g H0 v H locs) (ha : isK w a 14) (hb2 : isK w b 14) (hl : Cond.methodLink own index arraycopyName ∈ lw_tbl) (hml : c.maxLocals = ls.size) (hf : 1 ≤ R.frames) (hlo : (rest.map fun v => v.category).sum + (nativeFrameWords "java/lang/System" "arraycopy" 5 + 11) ≤ R.locals) (hdg : decode cc pc = .ok (.invokestatic index, 3))
    (kk : ∀ (H1 : Heap) (locs1 : List Loc), Wo w g H0 (upR v b (va_cpy (v.1 a) (v.1 b) 0 0 6)) H1 locs1 → W p l e R s m args below meth c H1 locs1 cells slots Q (F0 m (pc + 3) ls rest)) : W p l e R s m args below meth c H locs cells slots Q (F0 m pc ls (.int 6 :: .int 0 :: .ref (wq w b) :: .int 0 :: .ref (wq w a) :: rest)) := by
  have EE := E
  obtain ⟨⟨hx, hb, hml2, hown, hts⟩, hK, hq, -⟩ := E
  refine va_copyi (D := wD w) hx hb hml hown (Ew EE hl rfl) (Ew EE mw_3_66 rfl) (Ew EE mw_3_65 rfl) (Ew EE mw_1_14 rfl) hK I.1 (wd_D hq) I.2.1 a b 1 1 (n0 := 6) (n1 := 6) (f := v.1 a) (g := v.1 b) (ty := .int) (by rw [wd_get ha.1]; exact congrArg some (congrArg (Prod.mk _) ((ce_o ha.2).trans rfl))) (by rw [wd_get hb2.1]; exact congrArg some (congrArg (Prod.mk _) ((ce_o hb2.2).trans rfl))) rfl rfl rfl (by decide) (by decide) (by decide) (by decide) (by decide) (fun _ _ => rfl) hf hlo hdg (fun H1 locs1 hP _ hS => ?_)
  have e0 : (0 : Int32).toNatClampNeg = 0 := rfl
  have en : (6 : Int32).toNatClampNeg = 6 := rfl
  rw [e0, en, wd_set (v' := upR v b (va_cpy (v.1 a) (v.1 b) 0 0 6)) hb2.1 (by rw [ce_o hb2.2, upR_k]; rfl) (upR_o _ _ _) (fun _ _ => rfl)] at hP
  refine kk H1 locs1 ⟨hP, hS, I.2.2.row hb2.2 (fun j => ?_) (fun _ => rfl)⟩
  have h1 := (I.2.2 a (0 + (j - 0))).1
  have h2 := (I.2.2 b j).1
  rw [ha.2] at h1
  rw [hb2.2] at h2
  unfold va_cpy
  split
  · first | exact h1 | simp [okk]
  · exact h2
theorem cp_16 (E : En w p m c cc nL s args own) (I : Wo w g H0 v H locs) (ha : isK w a 16) (hb2 : isK w b 16) (hl : Cond.methodLink own index arraycopyName ∈ lw_tbl) (hml : c.maxLocals = ls.size) (hf : 1 ≤ R.frames) (hlo : (rest.map fun v => v.category).sum + (nativeFrameWords "java/lang/System" "arraycopy" 5 + 11) ≤ R.locals) (hdg : decode cc pc = .ok (.invokestatic index, 3))
    (kk : ∀ (H1 : Heap) (locs1 : List Loc), Wo w g H0 (upR v b (va_cpy (v.1 a) (v.1 b) 0 0 4)) H1 locs1 → W p l e R s m args below meth c H1 locs1 cells slots Q (F0 m (pc + 3) ls rest)) : W p l e R s m args below meth c H locs cells slots Q (F0 m pc ls (.int 4 :: .int 0 :: .ref (wq w b) :: .int 0 :: .ref (wq w a) :: rest)) := by
  have EE := E
  obtain ⟨⟨hx, hb, hml2, hown, hts⟩, hK, hq, -⟩ := E
  refine va_copyi (D := wD w) hx hb hml hown (Ew EE hl rfl) (Ew EE mw_3_66 rfl) (Ew EE mw_3_65 rfl) (Ew EE mw_1_14 rfl) hK I.1 (wd_D hq) I.2.1 a b 1 1 (n0 := 4) (n1 := 4) (f := v.1 a) (g := v.1 b) (ty := .int) (by rw [wd_get ha.1]; exact congrArg some (congrArg (Prod.mk _) ((ce_o ha.2).trans rfl))) (by rw [wd_get hb2.1]; exact congrArg some (congrArg (Prod.mk _) ((ce_o hb2.2).trans rfl))) rfl rfl rfl (by decide) (by decide) (by decide) (by decide) (by decide) (fun _ _ => rfl) hf hlo hdg (fun H1 locs1 hP _ hS => ?_)
  have e0 : (0 : Int32).toNatClampNeg = 0 := rfl
  have en : (4 : Int32).toNatClampNeg = 4 := rfl
  rw [e0, en, wd_set (v' := upR v b (va_cpy (v.1 a) (v.1 b) 0 0 4)) hb2.1 (by rw [ce_o hb2.2, upR_k]; rfl) (upR_o _ _ _) (fun _ _ => rfl)] at hP
  refine kk H1 locs1 ⟨hP, hS, I.2.2.row hb2.2 (fun j => ?_) (fun _ => rfl)⟩
  have h1 := (I.2.2 a (0 + (j - 0))).1
  have h2 := (I.2.2 b j).1
  rw [ha.2] at h1
  rw [hb2.2] at h2
  unfold va_cpy
  split
  · first | exact h1 | simp [okk]
  · exact h2
theorem cVxi (E : En w p m c cc nL s args own) (I : Wo w g s.heap v H locs) {y : MethodName} {bytes : ByteArray} {maxL n index : Nat} {ret : Option FieldType} {ws : List Cond} {rm : Room} {As : List Value} {post : Int32 → St → Prop} {C : String} {b : Nat} (hM : CTi w l y ws rm (.ref b :: As) v post) (cw : CallW R s args own C index y bytes maxL ret ws rm 0 0 n) (hrec : ∃ cell : Cell, H[b]? = some cell ∧ cell.vm.isStatics = false ∧ s.vm.findClass C = some cell.cls) {st0 : List Value} (hn : As.length = n) (hsize : ls.size = nL) (hstack : st0 = As.reverse ++ .ref b :: rest) (hW : (rest.map fun v => v.category).sum ≤ 8) (hdg : decode cc pc = .ok (.invokevirtual index, 3)) (hf : cells ≤ R.cells ∧ slots ≤ R.slots)
    (kk : ∀ (r : Int32) (u : St) (H1 : Heap) (locs1 : List Loc), post r u → (va_P (wD w) vwCl (wd w u) H1 ∧ va_S (Aw w) s.heap H1 locs1) → W p l e R s m args below meth c H1 locs1 cells slots Q (F0 m (pc + 3) ls (.int r :: rest))) : W p l e R s m args below meth c H locs cells slots Q (F0 m pc ls st0) := by
  obtain ⟨S, hK, hq, hX⟩ := E
  subst hstack
  refine va_calli (A0 := Aw w) (va_runV (As := As) (rest := rest) S hM cw ⟨Pw.blind, hrec, fun U hU hW => ⟨rfl, by rw [hU]; exact I.1, va_K.moved hW.alike hK, by rw [hU]; exact (hX.warm hW).kept I.2.1.2.1⟩⟩ rfl hn hsize rfl (lv_room hW) hdg hf) I.2.1 (fun _ _ h => h) (fun _ h => h) (fun r u t H1 locs1 ht hvm hw hB hz1 hk1 hS => ?_)
  exact kk r u H1 locs1 hw ⟨by rw [← ht]; exact hB, hS⟩
end CP
theorem lcB (x y : Int64) : ((lg_cmp x y).toInt < 0 ↔ x.toInt < y.toInt) ∧ (0 < (lg_cmp x y).toInt ↔ y.toInt < x.toInt) := by
  have c1 : (-1 : Int32).toInt = -1 := rfl
  have c2 : (1 : Int32).toInt = 1 := rfl
  have c0 : (0 : Int32).toInt = 0 := rfl
  unfold lg_cmp
  simp only [gt_iff_lt, Int64.lt_iff_toInt_lt, ← Int64.toInt_inj]
  by_cases h : y.toInt < x.toInt
  · rw [if_pos h]; omega
  · rw [if_neg h]
    by_cases h2 : x.toInt = y.toInt
    · rw [if_pos h2]; omega
    · rw [if_neg h2]; omega
theorem bm64 {z : Int} (h1 : -9223372036854775808 ≤ z) (h2 : z < 9223372036854775808) : z.bmod (2 ^ 64) = z := Int.bmod_eq_of_le (by omega) (by omega)
theorem i64_rng (x : Int64) : -9223372036854775808 ≤ x.toInt ∧ x.toInt ≤ 9223372036854775807 := by
  have h1 := Int64.le_toInt x
  have h2 := Int64.toInt_lt x
  omega
theorem mlL {x y : Int64} {a b : Int} (hx : x.toInt = a) (hy : y.toInt = b) (h1 : -9223372036854775808 ≤ a * b) (h2 : a * b < 9223372036854775808) : (x * y).toInt = a * b := by
  rw [Int64.toInt_mul, hx, hy]; exact bm64 h1 h2
theorem adL {x y : Int64} {a b : Int} (hx : x.toInt = a) (hy : y.toInt = b) (h1 : -9223372036854775808 ≤ a + b) (h2 : a + b < 9223372036854775808) : (x + y).toInt = a + b := by
  rw [Int64.toInt_add, hx, hy]; exact bm64 h1 h2
theorem lrB (x y : Int64) (hy : ¬ y = 0) : (x - x / y * y).toInt.natAbs < y.toInt.natAbs := by
  have hy0 : ¬ y.toInt = 0 := fun z => hy (Int64.toInt_inj.mp (by rw [z]; rfl))
  have e : (x - x / y * y).toInt = (x.toInt - (x.toInt.tdiv y.toInt) * y.toInt).bmod (2 ^ 64) := by
    rw [Int64.toInt_sub, Int64.toInt_mul, Int64.toInt_div, Int.bmod_mul_bmod, Int.sub_bmod_bmod]
  have m1 : x.toInt - (x.toInt.tdiv y.toInt) * y.toInt = x.toInt.tmod y.toInt := by
    have := Int.tdiv_mul_add_tmod x.toInt y.toInt
    omega
  have m2 : (x.toInt.tmod y.toInt).natAbs < y.toInt.natAbs := by
    rw [Int.natAbs_tmod]
    exact Nat.mod_lt _ (by omega)
  have ry := i64_rng y
  rw [e, m1, bm64 (by omega) (by omega)]
  exact m2
theorem upL_n (v : St) {k j k2 j2 : Nat} (x : Int64) (h : k2 ≠ k ∨ j2 ≠ j) : (upL v k j x).2 k2 j2 = v.2 k2 j2 := by
  unfold upL va_up vp_updL
  by_cases h1 : k2 = k
  · subst h1
    have h2 : j2 ≠ j := h.resolve_left (fun z => z rfl)
    simp [h2]
  · simp [h1]
theorem lz2 {x : Int64} (h : ¬ x.toInt = 0) : ¬ x = 0 := fun z => h (by rw [z]; rfl)
/-- all stays but the slots lo to hi of the role k0 -/
def Fr (k0 lo hi : Nat) (v u : St) : Prop := ∀ k j, ¬ (k = k0 ∧ lo ≤ j ∧ j ≤ hi) → u.1 k j = v.1 k j
theorem Fr.refl (k0 lo hi : Nat) (v : St) : Fr k0 lo hi v v := fun _ _ _ => rfl
theorem Fr.put {k0 lo hi : Nat} {v c c' : St} {j : Nat} {x : Int32} (h : Fr k0 lo hi v c) (e : up1 c k0 j x = c') (hj : lo ≤ j ∧ j ≤ hi) : Fr k0 lo hi v c' := fun k i hk => by
  rw [← e, up1_n _ _ (by omega)]
  exact h k i hk
theorem Fr.tr {k0 lo hi lo2 hi2 : Nat} {v c u : St} (h : Fr k0 lo hi v c) (h2 : Fr k0 lo2 hi2 c u) (hj : lo ≤ lo2 ∧ hi2 ≤ hi) : Fr k0 lo hi v u := fun k i hk => by
  rw [h2 k i (by omega)]
  exact h k i hk
def tm (p f s : Int) : Nat := (2 * (160 - p) + (if f = 0 ∧ ¬ s = 0 then 1 else 0)).toNat
theorem tm_lt {p f s p2 f2 s2 : Int} (h0 : f = 0) (h1 : ¬ s = 0) (hp : p ≤ p2) (hb : p2 ≤ 160) (h : f2 = 0 → ¬ s2 = 0 → p < p2) : tm p2 f2 s2 < tm p f s := by
  unfold tm
  rw [if_pos (⟨h0, h1⟩ : f = 0 ∧ ¬ s = 0)]
  by_cases c : f2 = 0 ∧ ¬ s2 = 0
  · rw [if_pos c]
    have := h c.1 c.2
    omega
  · rw [if_neg c]
    omega
theorem lz_of {x : Int64} (h : ¬ x.toInt = (0 : Int64).toInt) : ¬ x = 0 := fun z => h (by rw [z])
theorem gup_s (g : Nat → Nat → Int32) (k j : Nat) (x : Int32) : gup g k j x k j = x := by simp [gup, va_up, upd]
theorem gup_n (g : Nat → Nat → Int32) {k j k2 j2 : Nat} (x : Int32) (h : k2 ≠ k ∨ j2 ≠ j) : gup g k j x k2 j2 = g k2 j2 := by
  unfold gup va_up upd
  by_cases h1 : k2 = k
  · subst h1
    have h2 : j2 ≠ j := h.resolve_left (fun z => z rfl)
    simp [h2]
  · simp [h1]
theorem i64_of (x : Int32) : x.toInt64.toInt = x.toInt := Int32.toInt_toInt64 x
/-! what a method does, told by a function: its steps one behind another -/
def xl {α β : Type} (x : α) (f : α → β) : β := f x
def xm {α β γ : Type} (x : α × β) (f : α → β → γ) : γ := f x.1 x.2
def lp {A : Type} (f : A → A) (d : A) : Nat → A
  | 0 => d
  | n + 1 => f (lp f d n)
theorem xl_i {α β : Type} {x y : α} {f : α → β} {r : β} (e : y = x) (h : xl x f = r) : f y = r := by subst e; exact h
theorem xm_i {α β γ : Type} {x : α × β} {a : α} {b : β} {f : α → β → γ} {r : γ} (e : (a, b) = x) (h : xm x f = r) : f a b = r := by subst e; exact h
theorem xl_e {α β : Type} {x : α} {f : α → β} {r : β} (h : xl x f = r) : ∃ y, y = x ∧ f y = r := ⟨x, rfl, h⟩
theorem if_t {c : Prop} {i : Decidable c} {α : Type} {x y r : α} (hc : c) (h : @ite α c i x y = r) : x = r := (if_pos hc).symm.trans h
theorem if_f {c : Prop} {i : Decidable c} {α : Type} {x y r : α} (hc : ¬ c) (h : @ite α c i x y = r) : y = r := (if_neg hc).symm.trans h
theorem if_l {a b : Int} {i : Decidable (a < b)} {α : Type} {x y r : α} (hc : b ≤ a) (h : @ite α (a < b) i x y = r) : y = r := (if_neg (Int.not_lt.mpr hc)).symm.trans h
theorem upR_n (v : St) {k k2 j2 : Nat} (r : Nat → Int32) (h : k2 ≠ k) : (upR v k r).1 k2 j2 = v.1 k2 j2 := by rw [upR_o v k r k2 h]
theorem ap0 { C : Type} {J f : C} {r : C} (e : J = f) (h : J  = r) : f  = r := by subst e; exact h
theorem lpa0 { C : Type} {P F : (C) → (C)} {d : C} {n : Nat} {r : C} (e : P = F) (h : lp P d (n + 1)  = r) : F (lp P d n)  = r := by subst e; exact h
theorem ap1 {A0 C : Type} {J f : A0 → C} {a0 : A0} {r : C} (e : J = f) (h : J a0 = r) : f a0 = r := by subst e; exact h
theorem lpa1 {A0 C : Type} {P F : (A0 → C) → (A0 → C)} {d : A0 → C} {n : Nat} {a0 : A0} {r : C} (e : P = F) (h : lp P d (n + 1) a0 = r) : F (lp P d n) a0 = r := by subst e; exact h
theorem ap2 {A0 A1 C : Type} {J f : A0 → A1 → C} {a0 : A0} {a1 : A1} {r : C} (e : J = f) (h : J a0 a1 = r) : f a0 a1 = r := by subst e; exact h
theorem lpa2 {A0 A1 C : Type} {P F : (A0 → A1 → C) → (A0 → A1 → C)} {d : A0 → A1 → C} {n : Nat} {a0 : A0} {a1 : A1} {r : C} (e : P = F) (h : lp P d (n + 1) a0 a1 = r) : F (lp P d n) a0 a1 = r := by subst e; exact h
theorem ap3 {A0 A1 A2 C : Type} {J f : A0 → A1 → A2 → C} {a0 : A0} {a1 : A1} {a2 : A2} {r : C} (e : J = f) (h : J a0 a1 a2 = r) : f a0 a1 a2 = r := by subst e; exact h
theorem lpa3 {A0 A1 A2 C : Type} {P F : (A0 → A1 → A2 → C) → (A0 → A1 → A2 → C)} {d : A0 → A1 → A2 → C} {n : Nat} {a0 : A0} {a1 : A1} {a2 : A2} {r : C} (e : P = F) (h : lp P d (n + 1) a0 a1 a2 = r) : F (lp P d n) a0 a1 a2 = r := by subst e; exact h
theorem ap4 {A0 A1 A2 A3 C : Type} {J f : A0 → A1 → A2 → A3 → C} {a0 : A0} {a1 : A1} {a2 : A2} {a3 : A3} {r : C} (e : J = f) (h : J a0 a1 a2 a3 = r) : f a0 a1 a2 a3 = r := by subst e; exact h
theorem lpa4 {A0 A1 A2 A3 C : Type} {P F : (A0 → A1 → A2 → A3 → C) → (A0 → A1 → A2 → A3 → C)} {d : A0 → A1 → A2 → A3 → C} {n : Nat} {a0 : A0} {a1 : A1} {a2 : A2} {a3 : A3} {r : C} (e : P = F) (h : lp P d (n + 1) a0 a1 a2 a3 = r) : F (lp P d n) a0 a1 a2 a3 = r := by subst e; exact h
theorem ap5 {A0 A1 A2 A3 A4 C : Type} {J f : A0 → A1 → A2 → A3 → A4 → C} {a0 : A0} {a1 : A1} {a2 : A2} {a3 : A3} {a4 : A4} {r : C} (e : J = f) (h : J a0 a1 a2 a3 a4 = r) : f a0 a1 a2 a3 a4 = r := by subst e; exact h
theorem lpa5 {A0 A1 A2 A3 A4 C : Type} {P F : (A0 → A1 → A2 → A3 → A4 → C) → (A0 → A1 → A2 → A3 → A4 → C)} {d : A0 → A1 → A2 → A3 → A4 → C} {n : Nat} {a0 : A0} {a1 : A1} {a2 : A2} {a3 : A3} {a4 : A4} {r : C} (e : P = F) (h : lp P d (n + 1) a0 a1 a2 a3 a4 = r) : F (lp P d n) a0 a1 a2 a3 a4 = r := by subst e; exact h
theorem ap6 {A0 A1 A2 A3 A4 A5 C : Type} {J f : A0 → A1 → A2 → A3 → A4 → A5 → C} {a0 : A0} {a1 : A1} {a2 : A2} {a3 : A3} {a4 : A4} {a5 : A5} {r : C} (e : J = f) (h : J a0 a1 a2 a3 a4 a5 = r) : f a0 a1 a2 a3 a4 a5 = r := by subst e; exact h
theorem lpa6 {A0 A1 A2 A3 A4 A5 C : Type} {P F : (A0 → A1 → A2 → A3 → A4 → A5 → C) → (A0 → A1 → A2 → A3 → A4 → A5 → C)} {d : A0 → A1 → A2 → A3 → A4 → A5 → C} {n : Nat} {a0 : A0} {a1 : A1} {a2 : A2} {a3 : A3} {a4 : A4} {a5 : A5} {r : C} (e : P = F) (h : lp P d (n + 1) a0 a1 a2 a3 a4 a5 = r) : F (lp P d n) a0 a1 a2 a3 a4 a5 = r := by subst e; exact h
theorem ap7 {A0 A1 A2 A3 A4 A5 A6 C : Type} {J f : A0 → A1 → A2 → A3 → A4 → A5 → A6 → C} {a0 : A0} {a1 : A1} {a2 : A2} {a3 : A3} {a4 : A4} {a5 : A5} {a6 : A6} {r : C} (e : J = f) (h : J a0 a1 a2 a3 a4 a5 a6 = r) : f a0 a1 a2 a3 a4 a5 a6 = r := by subst e; exact h
theorem lpa7 {A0 A1 A2 A3 A4 A5 A6 C : Type} {P F : (A0 → A1 → A2 → A3 → A4 → A5 → A6 → C) → (A0 → A1 → A2 → A3 → A4 → A5 → A6 → C)} {d : A0 → A1 → A2 → A3 → A4 → A5 → A6 → C} {n : Nat} {a0 : A0} {a1 : A1} {a2 : A2} {a3 : A3} {a4 : A4} {a5 : A5} {a6 : A6} {r : C} (e : P = F) (h : lp P d (n + 1) a0 a1 a2 a3 a4 a5 a6 = r) : F (lp P d n) a0 a1 a2 a3 a4 a5 a6 = r := by subst e; exact h
theorem ap8 {A0 A1 A2 A3 A4 A5 A6 A7 C : Type} {J f : A0 → A1 → A2 → A3 → A4 → A5 → A6 → A7 → C} {a0 : A0} {a1 : A1} {a2 : A2} {a3 : A3} {a4 : A4} {a5 : A5} {a6 : A6} {a7 : A7} {r : C} (e : J = f) (h : J a0 a1 a2 a3 a4 a5 a6 a7 = r) : f a0 a1 a2 a3 a4 a5 a6 a7 = r := by subst e; exact h
theorem lpa8 {A0 A1 A2 A3 A4 A5 A6 A7 C : Type} {P F : (A0 → A1 → A2 → A3 → A4 → A5 → A6 → A7 → C) → (A0 → A1 → A2 → A3 → A4 → A5 → A6 → A7 → C)} {d : A0 → A1 → A2 → A3 → A4 → A5 → A6 → A7 → C} {n : Nat} {a0 : A0} {a1 : A1} {a2 : A2} {a3 : A3} {a4 : A4} {a5 : A5} {a6 : A6} {a7 : A7} {r : C} (e : P = F) (h : lp P d (n + 1) a0 a1 a2 a3 a4 a5 a6 a7 = r) : F (lp P d n) a0 a1 a2 a3 a4 a5 a6 a7 = r := by subst e; exact h
theorem ap9 {A0 A1 A2 A3 A4 A5 A6 A7 A8 C : Type} {J f : A0 → A1 → A2 → A3 → A4 → A5 → A6 → A7 → A8 → C} {a0 : A0} {a1 : A1} {a2 : A2} {a3 : A3} {a4 : A4} {a5 : A5} {a6 : A6} {a7 : A7} {a8 : A8} {r : C} (e : J = f) (h : J a0 a1 a2 a3 a4 a5 a6 a7 a8 = r) : f a0 a1 a2 a3 a4 a5 a6 a7 a8 = r := by subst e; exact h
theorem lpa9 {A0 A1 A2 A3 A4 A5 A6 A7 A8 C : Type} {P F : (A0 → A1 → A2 → A3 → A4 → A5 → A6 → A7 → A8 → C) → (A0 → A1 → A2 → A3 → A4 → A5 → A6 → A7 → A8 → C)} {d : A0 → A1 → A2 → A3 → A4 → A5 → A6 → A7 → A8 → C} {n : Nat} {a0 : A0} {a1 : A1} {a2 : A2} {a3 : A3} {a4 : A4} {a5 : A5} {a6 : A6} {a7 : A7} {a8 : A8} {r : C} (e : P = F) (h : lp P d (n + 1) a0 a1 a2 a3 a4 a5 a6 a7 a8 = r) : F (lp P d n) a0 a1 a2 a3 a4 a5 a6 a7 a8 = r := by subst e; exact h
theorem ap10 {A0 A1 A2 A3 A4 A5 A6 A7 A8 A9 C : Type} {J f : A0 → A1 → A2 → A3 → A4 → A5 → A6 → A7 → A8 → A9 → C} {a0 : A0} {a1 : A1} {a2 : A2} {a3 : A3} {a4 : A4} {a5 : A5} {a6 : A6} {a7 : A7} {a8 : A8} {a9 : A9} {r : C} (e : J = f) (h : J a0 a1 a2 a3 a4 a5 a6 a7 a8 a9 = r) : f a0 a1 a2 a3 a4 a5 a6 a7 a8 a9 = r := by subst e; exact h
theorem lpa10 {A0 A1 A2 A3 A4 A5 A6 A7 A8 A9 C : Type} {P F : (A0 → A1 → A2 → A3 → A4 → A5 → A6 → A7 → A8 → A9 → C) → (A0 → A1 → A2 → A3 → A4 → A5 → A6 → A7 → A8 → A9 → C)} {d : A0 → A1 → A2 → A3 → A4 → A5 → A6 → A7 → A8 → A9 → C} {n : Nat} {a0 : A0} {a1 : A1} {a2 : A2} {a3 : A3} {a4 : A4} {a5 : A5} {a6 : A6} {a7 : A7} {a8 : A8} {a9 : A9} {r : C} (e : P = F) (h : lp P d (n + 1) a0 a1 a2 a3 a4 a5 a6 a7 a8 a9 = r) : F (lp P d n) a0 a1 a2 a3 a4 a5 a6 a7 a8 a9 = r := by subst e; exact h
theorem fz_u {v c c2 : St} {a b k j : Nat} {x : Int32} (e : up1 c a b x = c2) (h : k ≠ a ∨ j ≠ b) (hh : c.1 k j = v.1 k j) : c2.1 k j = v.1 k j := by rw [← e, up1_n _ _ h]; exact hh
theorem fz_l {v c c2 : St} {a b k j : Nat} {x : Int64} (e : upL c a b x = c2) (hh : c.1 k j = v.1 k j) : c2.1 k j = v.1 k j := by rw [← e]; exact hh
theorem fz_r {v c c2 : St} {a k j : Nat} {r : Nat → Int32} (e : upR c a r = c2) (h : k ≠ a) (hh : c.1 k j = v.1 k j) : c2.1 k j = v.1 k j := by rw [← e, upR_n _ _ h]; exact hh
def F_X2_become (k0 : Nat) (k1 : Nat) (v : St) : St :=
xl (v.1 k1 0) fun x1 =>
xl (up1 v k0 0 x1) fun v2 =>
xl (v2.1 k1 1) fun x3 =>
xl (up1 v2 k0 1 x3) fun v4 =>
xl (v4.1 k1 2) fun x5 =>
xl (up1 v4 k0 2 x5) fun v6 =>
xl (v6.1 k1 3) fun x7 =>
xl (up1 v6 k0 3 x7) fun v8 =>
v8
set_option maxHeartbeats 4000000 in
set_option maxRecDepth 100000 in
theorem c_X2_become (l : Launch) (w : Wp) (g : Nat → Nat → Int32) (v : St) (k0 : Nat) (k1 : Nat) (hq : Inj w) (hw : WF (wk w) g v) (h_k0 : isK w k0 2) (h_k1 : isK w k1 2) : CTv w l yX2_become (wsy yX2_become prog_4_method_2_code 2 none) (rmL 1) [.ref (wq w k0), .ref (wq w k1)] v (fun (u : St) => (WF (wk w) g u ∧ True) ∧ (u = F_X2_become k0 k1 v) ∧ (∀ k j : Nat, ¬ (k = k0) → u.1 k j = v.1 k j)) := by
  generalize hpost : (fun (u : St) => (WF (wk w) g u ∧ True) ∧ (u = F_X2_become k0 k1 v) ∧ (∀ k j : Nat, ¬ (k = k0) → u.1 k j = v.1 k j)) = post
  refine CTv.of prog_4_method_2_code 2 none "StarWalk$Place" (by decide +kernel) rfl hq hw (Nat.le_of_ble_eq_true rfl) ?_
  intro pg en s m ar bl me cd ls E I hr hlk hl
  have hx := E.1.1
  have hb := E.1.2.1
  have hl : lv_has ls 2 [(0, .ref (wq w k0)), (1, .ref (wq w k1))] := hl
  obtain ⟨res, hres⟩ : ∃ z, z = F_X2_become k0 k1 v := ⟨_, rfl⟩
  have hF := hres.symm
  unfold F_X2_become at hF
  replace hres : res = F_X2_become k0 k1 v := hres
  have rz0 : ∀ k j : Nat, ¬ (k = k0) → v.1 k j = v.1 k j := fun _ _ _ => rfl
  refine lv_aload_n hx hb dX2_become_0 rfl (lv_at hl 0 rfl) ?_
  refine lv_aload_n hx hb dX2_become_1 rfl (lv_at hl 1 rfl) ?_
  refine g_Place_hour E I h_k1 mw_1_43 dX2_become_2 ?_
  refine lv_topi (fun x1 ex1 => ?_)
  replace hF := xl_i (ex1) hF
  refine p_Place_hour E I h_k0 mw_1_43 dX2_become_5 (fun H lo I => ?_)
  generalize ev2 : up1 v k0 0 x1 = v2 at I
  replace hF := xl_i (ev2.symm) hF
  have rzv2 : ∀ k j : Nat, ¬ (k = k0) → v2.1 k j = v.1 k j := fun k j h => fz_u ev2 (by omega) (rz0 k j h)
  refine lv_aload_n hx hb dX2_become_8 rfl (lv_at hl 0 rfl) ?_
  refine lv_aload_n hx hb dX2_become_9 rfl (lv_at hl 1 rfl) ?_
  refine g_Place_miles E I h_k1 mw_1_48 dX2_become_10 ?_
  refine lv_topi (fun x3 ex3 => ?_)
  replace hF := xl_i (ex3) hF
  refine p_Place_miles E I h_k0 mw_1_48 dX2_become_13 (fun H lo I => ?_)
  generalize ev4 : up1 v2 k0 1 x3 = v4 at I
  replace hF := xl_i (ev4.symm) hF
  have rzv4 : ∀ k j : Nat, ¬ (k = k0) → v4.1 k j = v.1 k j := fun k j h => fz_u ev4 (by omega) (rzv2 k j h)
  refine lv_aload_n hx hb dX2_become_16 rfl (lv_at hl 0 rfl) ?_
  refine lv_aload_n hx hb dX2_become_17 rfl (lv_at hl 1 rfl) ?_
  refine g_Place_side E I h_k1 mw_1_53 dX2_become_18 ?_
  refine lv_topi (fun x5 ex5 => ?_)
  replace hF := xl_i (ex5) hF
  refine p_Place_side E I h_k0 mw_1_53 dX2_become_21 (fun H lo I => ?_)
  generalize ev6 : up1 v4 k0 2 x5 = v6 at I
  replace hF := xl_i (ev6.symm) hF
  have rzv6 : ∀ k j : Nat, ¬ (k = k0) → v6.1 k j = v.1 k j := fun k j h => fz_u ev6 (by omega) (rzv4 k j h)
  refine lv_aload_n hx hb dX2_become_24 rfl (lv_at hl 0 rfl) ?_
  refine lv_aload_n hx hb dX2_become_25 rfl (lv_at hl 1 rfl) ?_
  refine g_Place_water E I h_k1 mw_1_58 dX2_become_26 ?_
  refine lv_topi (fun x7 ex7 => ?_)
  replace hF := xl_i (ex7) hF
  refine p_Place_water E I h_k0 mw_1_58 dX2_become_29 (fun H lo I => ?_)
  generalize ev8 : up1 v6 k0 3 x7 = v8 at I
  replace hF := xl_i (ev8.symm) hF
  have rzv8 : ∀ k j : Nat, ¬ (k = k0) → v8.1 k j = v.1 k j := fun k j h => fz_u ev8 (by omega) (rzv6 k j h)
  exact rV E I hr hlk (by rw [← hpost]; exact ⟨⟨I.2.2, trivial⟩, hF.trans hres, rzv8⟩) dX2_become_32
def F_X2_canStep (k0 : Nat) (v : St) : Int32 :=
xl (v.1 k0 3) fun x1 =>
if 0 < x1.toInt then (
xl (v.1 k0 0) fun x3 =>
if x3.toInt < 10 then (
(1 : Int32)) else (
(0 : Int32))) else (
(0 : Int32))
set_option maxHeartbeats 4000000 in
set_option maxRecDepth 100000 in
theorem c_X2_canStep (l : Launch) (w : Wp) (g : Nat → Nat → Int32) (v : St) (k0 : Nat) (hq : Inj w) (hw : WF (wk w) g v) (h_k0 : isK w k0 2) : CTi w l yX2_canStep (wsy yX2_canStep prog_4_method_3_code 1 (some .boolean)) (rmL 1) [.ref (wq w k0)] v (fun (r : Int32) (u : St) => (u = v ∧ 0 ≤ r.toInt ∧ r.toInt ≤ 1) ∧ (r = F_X2_canStep k0 v) ∧ True) := by
  generalize hpost : (fun (r : Int32) (u : St) => (u = v ∧ 0 ≤ r.toInt ∧ r.toInt ≤ 1) ∧ (r = F_X2_canStep k0 v) ∧ True) = post
  refine CTi.of prog_4_method_3_code 1 (some .boolean) "StarWalk$Place" (by decide +kernel) rfl hq hw (Nat.le_of_ble_eq_true rfl) ?_
  intro pg en s m ar bl me cd ls E I hr hlk hl
  have hx := E.1.1
  have hb := E.1.2.1
  have hl : lv_has ls 1 [(0, .ref (wq w k0))] := hl
  obtain ⟨res, hres⟩ : ∃ z, z = F_X2_canStep k0 v := ⟨_, rfl⟩
  have hF := hres.symm
  unfold F_X2_canStep at hF
  replace hres : res = F_X2_canStep k0 v := hres
  refine lv_aload_n hx hb dX2_canStep_0 rfl (lv_at hl 0 rfl) ?_
  refine g_Place_water E I h_k0 mw_1_58 dX2_canStep_1 ?_
  refine lv_topi (fun x1 ex1 => ?_)
  replace hF := xl_i (ex1) hF
  refine bz_le E (a := x1.toInt) rfl (tgt := 20) dX2_canStep_4 (by decide) (fun c2 => ?_) (fun c2 => ?_)
  ·
    replace hF := if_l c2 hF
    refine lv_iconst (v := 0) hx hb dX2_canStep_20 (by decide) ?_
    exact rI E I hr hlk rfl (by rw [← hpost]; exact ⟨⟨rfl, by have eL : (0 : Int32).toInt = 0 := rfl; omega⟩, hF.trans hres, trivial⟩) dX2_canStep_21
  ·
    replace hF := if_t c2 hF
    refine lv_aload_n hx hb dX2_canStep_7 rfl (lv_at hl 0 rfl) ?_
    refine g_Place_hour E I h_k0 mw_1_43 dX2_canStep_8 ?_
    refine lv_topi (fun x3 ex3 => ?_)
    replace hF := xl_i (ex3) hF
    refine lv_bipush (v := 10) hx hb dX2_canStep_11 (by decide) ?_
    refine bi_ge E (a := x3.toInt) (b := 10) rfl rfl (tgt := 20) dX2_canStep_13 (by decide) (fun c4 => ?_) (fun c4 => ?_)
    ·
      replace hF := if_l c4 hF
      refine lv_iconst (v := 0) hx hb dX2_canStep_20 (by decide) ?_
      exact rI E I hr hlk rfl (by rw [← hpost]; exact ⟨⟨rfl, by have eL : (0 : Int32).toInt = 0 := rfl; omega⟩, hF.trans hres, trivial⟩) dX2_canStep_21
    ·
      replace hF := if_t c4 hF
      refine lv_iconst (v := 1) hx hb dX2_canStep_16 (by decide) ?_
      refine lv_goto (tgt := 21) hx hb dX2_canStep_17 (by decide) ?_
      exact rI E I hr hlk rfl (by rw [← hpost]; exact ⟨⟨rfl, by have eL : (1 : Int32).toInt = 1 := rfl; omega⟩, hF.trans hres, trivial⟩) dX2_canStep_21
def F_X2_pass (k0 : Nat) (a0 : Int32) (a1 : Int32) (a2 : Int32) (v : St) : St :=
xl (v.1 k0 0) fun x1 =>
xl (x1 + (1 : Int32)) fun x2 =>
xl (up1 v k0 0 x2) fun v3 =>
xl (v3.1 k0 1) fun x4 =>
xl (x4 + a0) fun x5 =>
xl (up1 v3 k0 1 x5) fun v6 =>
xl (v6.1 k0 2) fun x7 =>
xl (x7 + a1) fun x8 =>
xl (up1 v6 k0 2 x8) fun v9 =>
xl (v9.1 k0 3) fun x10 =>
xl (x10 - a2) fun x11 =>
xl (if (0 : Int32) < x11 then x11 else (0 : Int32)) fun x12 =>
xl (up1 v9 k0 3 x12) fun v13 =>
v13
set_option maxHeartbeats 4000000 in
set_option maxRecDepth 100000 in
theorem c_X2_pass (l : Launch) (w : Wp) (g : Nat → Nat → Int32) (v : St) (k0 : Nat) (a0 : Int32) (a1 : Int32) (a2 : Int32) (hq : Inj w) (hw : WF (wk w) g v) (h_k0 : isK w k0 2) : CTv w l yX2_pass (wsy yX2_pass prog_4_method_4_code 4 none) (rmL 1) [.ref (wq w k0), .int a0, .int a1, .int a2] v (fun (u : St) => (WF (wk w) g u ∧ True) ∧ (u = F_X2_pass k0 a0 a1 a2 v) ∧ (∀ k j : Nat, ¬ (k = k0) → u.1 k j = v.1 k j)) := by
  generalize hpost : (fun (u : St) => (WF (wk w) g u ∧ True) ∧ (u = F_X2_pass k0 a0 a1 a2 v) ∧ (∀ k j : Nat, ¬ (k = k0) → u.1 k j = v.1 k j)) = post
  refine CTv.of prog_4_method_4_code 4 none "StarWalk$Place" (by decide +kernel) rfl hq hw (Nat.le_of_ble_eq_true rfl) ?_
  intro pg en s m ar bl me cd ls E I hr hlk hl
  have hx := E.1.1
  have hb := E.1.2.1
  have hl : lv_has ls 4 [(0, .ref (wq w k0)), (1, .int a0), (2, .int a1), (3, .int a2)] := hl
  obtain ⟨res, hres⟩ : ∃ z, z = F_X2_pass k0 a0 a1 a2 v := ⟨_, rfl⟩
  have hF := hres.symm
  unfold F_X2_pass at hF
  replace hres : res = F_X2_pass k0 a0 a1 a2 v := hres
  have rz0 : ∀ k j : Nat, ¬ (k = k0) → v.1 k j = v.1 k j := fun _ _ _ => rfl
  refine lv_aload_n hx hb dX2_pass_0 rfl (lv_at hl 0 rfl) ?_
  refine lv_dup hx hb dX2_pass_1 rfl ?_
  refine g_Place_hour E I h_k0 mw_1_43 dX2_pass_2 ?_
  refine lv_topi (fun x1 ex1 => ?_)
  replace hF := xl_i (ex1) hF
  refine lv_iconst (v := 1) hx hb dX2_pass_5 (by decide) ?_
  refine lv_iadd hx hb dX2_pass_6 ?_
  refine lv_topi (fun x2 ex2 => ?_)
  replace hF := xl_i (ex2) hF
  refine p_Place_hour E I h_k0 mw_1_43 dX2_pass_7 (fun H lo I => ?_)
  generalize ev3 : up1 v k0 0 x2 = v3 at I
  replace hF := xl_i (ev3.symm) hF
  have rzv3 : ∀ k j : Nat, ¬ (k = k0) → v3.1 k j = v.1 k j := fun k j h => fz_u ev3 (by omega) (rz0 k j h)
  refine lv_aload_n hx hb dX2_pass_10 rfl (lv_at hl 0 rfl) ?_
  refine lv_dup hx hb dX2_pass_11 rfl ?_
  refine g_Place_miles E I h_k0 mw_1_48 dX2_pass_12 ?_
  refine lv_topi (fun x4 ex4 => ?_)
  replace hF := xl_i (ex4) hF
  refine lv_iload_n hx hb dX2_pass_15 rfl (lv_at hl 1 rfl) ?_
  refine lv_iadd hx hb dX2_pass_16 ?_
  refine lv_topi (fun x5 ex5 => ?_)
  replace hF := xl_i (ex5) hF
  refine p_Place_miles E I h_k0 mw_1_48 dX2_pass_17 (fun H lo I => ?_)
  generalize ev6 : up1 v3 k0 1 x5 = v6 at I
  replace hF := xl_i (ev6.symm) hF
  have rzv6 : ∀ k j : Nat, ¬ (k = k0) → v6.1 k j = v.1 k j := fun k j h => fz_u ev6 (by omega) (rzv3 k j h)
  refine lv_aload_n hx hb dX2_pass_20 rfl (lv_at hl 0 rfl) ?_
  refine lv_dup hx hb dX2_pass_21 rfl ?_
  refine g_Place_side E I h_k0 mw_1_53 dX2_pass_22 ?_
  refine lv_topi (fun x7 ex7 => ?_)
  replace hF := xl_i (ex7) hF
  refine lv_iload_n hx hb dX2_pass_25 rfl (lv_at hl 2 rfl) ?_
  refine lv_iadd hx hb dX2_pass_26 ?_
  refine lv_topi (fun x8 ex8 => ?_)
  replace hF := xl_i (ex8) hF
  refine p_Place_side E I h_k0 mw_1_53 dX2_pass_27 (fun H lo I => ?_)
  generalize ev9 : up1 v6 k0 2 x8 = v9 at I
  replace hF := xl_i (ev9.symm) hF
  have rzv9 : ∀ k j : Nat, ¬ (k = k0) → v9.1 k j = v.1 k j := fun k j h => fz_u ev9 (by omega) (rzv6 k j h)
  refine lv_aload_n hx hb dX2_pass_30 rfl (lv_at hl 0 rfl) ?_
  refine lv_iconst (v := 0) hx hb dX2_pass_31 (by decide) ?_
  refine lv_aload_n hx hb dX2_pass_32 rfl (lv_at hl 0 rfl) ?_
  refine g_Place_water E I h_k0 mw_1_58 dX2_pass_33 ?_
  refine lv_topi (fun x10 ex10 => ?_)
  replace hF := xl_i (ex10) hF
  refine lv_iload_n hx hb dX2_pass_36 rfl (lv_at hl 3 rfl) ?_
  refine lv_isub hx hb dX2_pass_37 ?_
  refine lv_topi (fun x11 ex11 => ?_)
  replace hF := xl_i (ex11) hF
  refine va_mmax hx hb (E.1.2.2.1.trans hl.1.symm) E.1.2.2.2.1 (Ew E mw_3_190 rfl) (Ew E mw_3_161 rfl) (Ew E mw_1_15 rfl) (Ew E mw_3_162 rfl) (by decide) (Nat.le_of_ble_eq_true rfl) (Nat.le_refl _) (Nat.le_refl _) dX2_pass_38 ?_
  refine lv_topi (fun x12 ex12 => ?_)
  replace hF := xl_i (ex12) hF
  have hx12 : 0 ≤ x12.toInt := by have cL0 : (0 : Int32).toInt = 0 := rfl; rw [ex12]; split <;> simp only [Int32.lt_iff_toInt_lt] at * <;> omega
  refine p_Place_water E I h_k0 mw_1_58 dX2_pass_41 (fun H lo I => ?_)
  generalize ev13 : up1 v9 k0 3 x12 = v13 at I
  replace hF := xl_i (ev13.symm) hF
  have rzv13 : ∀ k j : Nat, ¬ (k = k0) → v13.1 k j = v.1 k j := fun k j h => fz_u ev13 (by omega) (rzv9 k j h)
  exact rV E I hr hlk (by rw [← hpost]; exact ⟨⟨I.2.2, trivial⟩, hF.trans hres, rzv13⟩) dX2_pass_44
def F_X2_isBetterThan (k0 : Nat) (a0 : Int32) (a1 : Int32) (v : St) : Int32 :=
xl (v.1 k0 2) fun x1 =>
xl (if 0 ≤ x1 then x1 else 0 - x1) fun x2 =>
xl (if 0 ≤ a0 then a0 else 0 - a0) fun x3 =>
if x2.toInt < x3.toInt then (
(1 : Int32)) else (
if x2.toInt = x3.toInt then (
xl (v.1 k0 1) fun x6 =>
if a1.toInt < x6.toInt then (
(1 : Int32)) else (
(0 : Int32))) else (
(0 : Int32)))
set_option maxHeartbeats 4000000 in
set_option maxRecDepth 100000 in
theorem c_X2_isBetterThan (l : Launch) (w : Wp) (g : Nat → Nat → Int32) (v : St) (k0 : Nat) (a0 : Int32) (a1 : Int32) (hq : Inj w) (hw : WF (wk w) g v) (h_k0 : isK w k0 2) : CTi w l yX2_isBetterThan (wsy yX2_isBetterThan prog_4_method_5_code 5 (some .boolean)) (rmL 1) [.ref (wq w k0), .int a0, .int a1] v (fun (r : Int32) (u : St) => (u = v ∧ 0 ≤ r.toInt ∧ r.toInt ≤ 1) ∧ (r = F_X2_isBetterThan k0 a0 a1 v) ∧ True) := by
  generalize hpost : (fun (r : Int32) (u : St) => (u = v ∧ 0 ≤ r.toInt ∧ r.toInt ≤ 1) ∧ (r = F_X2_isBetterThan k0 a0 a1 v) ∧ True) = post
  refine CTi.of prog_4_method_5_code 5 (some .boolean) "StarWalk$Place" (by decide +kernel) rfl hq hw (Nat.le_of_ble_eq_true rfl) ?_
  intro pg en s m ar bl me cd ls E I hr hlk hl
  have hx := E.1.1
  have hb := E.1.2.1
  have hl : lv_has ls 5 [(0, .ref (wq w k0)), (1, .int a0), (2, .int a1)] := hl
  obtain ⟨res, hres⟩ : ∃ z, z = F_X2_isBetterThan k0 a0 a1 v := ⟨_, rfl⟩
  have hF := hres.symm
  unfold F_X2_isBetterThan at hF
  replace hres : res = F_X2_isBetterThan k0 a0 a1 v := hres
  refine lv_aload_n hx hb dX2_isBetterThan_0 rfl (lv_at hl 0 rfl) ?_
  refine g_Place_side E I h_k0 mw_1_53 dX2_isBetterThan_1 ?_
  refine lv_topi (fun x1 ex1 => ?_)
  replace hF := xl_i (ex1) hF
  refine va_mabs hx hb (E.1.2.2.1.trans hl.1.symm) E.1.2.2.2.1 (Ew E mw_3_223 rfl) (Ew E mw_3_84 rfl) (Ew E mw_1_15 rfl) (Ew E mw_3_85 rfl) (by decide) (Nat.le_of_ble_eq_true rfl) (Nat.le_refl _) (Nat.le_refl _) dX2_isBetterThan_4 ?_
  refine lv_topi (fun x2 ex2 => ?_)
  replace hF := xl_i (ex2) hF
  refine lv_istore_n (lv' := [(3, .int x2), (0, .ref (wq w k0)), (1, .int a0), (2, .int a1)]) hx hb dX2_isBetterThan_7 rfl hl (by decide) rfl (fun ls hl => ?_)
  refine lv_iload_n hx hb dX2_isBetterThan_8 rfl (lv_at hl 2 rfl) ?_
  refine va_mabs hx hb (E.1.2.2.1.trans hl.1.symm) E.1.2.2.2.1 (Ew E mw_3_223 rfl) (Ew E mw_3_84 rfl) (Ew E mw_1_15 rfl) (Ew E mw_3_85 rfl) (by decide) (Nat.le_of_ble_eq_true rfl) (Nat.le_refl _) (Nat.le_refl _) dX2_isBetterThan_9 ?_
  refine lv_topi (fun x3 ex3 => ?_)
  replace hF := xl_i (ex3) hF
  refine lv_istore (lv' := [(4, .int x3), (3, .int x2), (0, .ref (wq w k0)), (1, .int a0), (2, .int a1)]) hx hb dX2_isBetterThan_12 hl (by decide) rfl (fun ls hl => ?_)
  refine lv_iload_n hx hb dX2_isBetterThan_14 rfl (lv_at hl 1 rfl) ?_
  refine lv_iload hx hb dX2_isBetterThan_15 (lv_at hl 0 rfl) ?_
  refine bi_lt E (a := x2.toInt) (b := x3.toInt) rfl rfl (tgt := 34) dX2_isBetterThan_17 (by decide) (fun c4 => ?_) (fun c4 => ?_)
  ·
    have rgx2 := i32_rng x2
    have rgx3 := i32_rng x3
    replace hF := if_t c4 hF
    refine lv_iconst (v := 1) hx hb dX2_isBetterThan_34 (by decide) ?_
    refine lv_goto (tgt := 39) hx hb dX2_isBetterThan_35 (by decide) ?_
    exact rI E I hr hlk rfl (by rw [← hpost]; exact ⟨⟨rfl, by have eL : (1 : Int32).toInt = 1 := rfl; omega⟩, hF.trans hres, trivial⟩) dX2_isBetterThan_39
  ·
    have rgx2 := i32_rng x2
    have rgx3 := i32_rng x3
    replace hF := if_l c4 hF
    refine lv_iload_n hx hb dX2_isBetterThan_20 rfl (lv_at hl 1 rfl) ?_
    refine lv_iload hx hb dX2_isBetterThan_21 (lv_at hl 0 rfl) ?_
    refine bi_ne E (a := x2.toInt) (b := x3.toInt) rfl rfl (tgt := 38) dX2_isBetterThan_23 (by decide) (fun c5 => ?_) (fun c5 => ?_)
    ·
      replace hF := if_f c5 hF
      refine lv_iconst (v := 0) hx hb dX2_isBetterThan_38 (by decide) ?_
      exact rI E I hr hlk rfl (by rw [← hpost]; exact ⟨⟨rfl, by have eL : (0 : Int32).toInt = 0 := rfl; omega⟩, hF.trans hres, trivial⟩) dX2_isBetterThan_39
    ·
      replace hF := if_t c5 hF
      refine lv_aload_n hx hb dX2_isBetterThan_26 rfl (lv_at hl 2 rfl) ?_
      refine g_Place_miles E I h_k0 mw_1_48 dX2_isBetterThan_27 ?_
      refine lv_topi (fun x6 ex6 => ?_)
      replace hF := xl_i (ex6) hF
      refine lv_iload_n hx hb dX2_isBetterThan_30 rfl (lv_at hl 4 rfl) ?_
      refine bi_le E (a := x6.toInt) (b := a1.toInt) rfl rfl (tgt := 38) dX2_isBetterThan_31 (by decide) (fun c7 => ?_) (fun c7 => ?_)
      ·
        have rgx6 := i32_rng x6
        have rga1 := i32_rng a1
        replace hF := if_l c7 hF
        refine lv_iconst (v := 0) hx hb dX2_isBetterThan_38 (by decide) ?_
        exact rI E I hr hlk rfl (by rw [← hpost]; exact ⟨⟨rfl, by have eL : (0 : Int32).toInt = 0 := rfl; omega⟩, hF.trans hres, trivial⟩) dX2_isBetterThan_39
      ·
        have rgx6 := i32_rng x6
        have rga1 := i32_rng a1
        replace hF := if_t c7 hF
        refine lv_iconst (v := 1) hx hb dX2_isBetterThan_34 (by decide) ?_
        refine lv_goto (tgt := 39) hx hb dX2_isBetterThan_35 (by decide) ?_
        exact rI E I hr hlk rfl (by rw [← hpost]; exact ⟨⟨rfl, by have eL : (1 : Int32).toInt = 1 := rfl; omega⟩, hF.trans hres, trivial⟩) dX2_isBetterThan_39

def RL : String := "CastingFeederLaw"
abbrev cL_cell : ByteArray := method_2_code
def yL_cell : MethodName := ⟨RL, "cell", "([II)I"⟩
abbrev cL_low : ByteArray := method_3_code
def yL_low : MethodName := ⟨RL, "low", "(II)I"⟩
abbrev cL_areNeighbours : ByteArray := method_4_code
def yL_areNeighbours : MethodName := ⟨RL, "areNeighbours", "(LCastingFeeder;II)Z"⟩
abbrev cL_isSound : ByteArray := method_5_code
def yL_isSound : MethodName := ⟨RL, "isSound", "(LCastingFeeder;)Z"⟩
abbrev cL_isLeast : ByteArray := method_6_code
def yL_isLeast : MethodName := ⟨RL, "isLeast", "(LCastingFeeder;I)Z"⟩
abbrev cL_changes : ByteArray := method_7_code
def yL_changes : MethodName := ⟨RL, "changes", "(LCastingFeeder;I)I"⟩
abbrev cL_law : ByteArray := code
def wsL_cell : List Cond := .code yL_cell cL_cell 2 (some .int) :: ([])
def wsL_low : List Cond := .code yL_low cL_low 2 (some .int) :: ([.constant RL 7 (2147483647)])
def wsL_areNeighbours_r1 : List Cond := [Cond.methodLink RL 8 yX4_count, Cond.instanceMethod yX4_count, Cond.selects RX4 yX4_count yX4_count, Cond.initialized RX4, Cond.code yX4_count cX4_count 2 (some .int), Cond.fieldLink RX4 10 "CastingFeeder" "casting" "LCastingFeeder$Casting;", Cond.fieldLink RX4 91 "CastingFeeder$Casting" "sections" "I", Cond.fieldLink RX4 112 "CastingFeeder$Casting" "joints" "I", Cond.fieldLink RX4 115 "CastingFeeder$Casting" "shrinkage" "I", Cond.fieldLink RX4 118 "CastingFeeder$Casting" "piping" "I", Cond.fieldLink RX4 19 "CastingFeeder" "freezing" "LCastingFeeder$Freezing;", Cond.fieldLink RX4 129 "CastingFeeder$Freezing" "pores" "[I", Cond.methodLink RX4 121 yX0_feeders, Cond.instanceMethod yX0_feeders, Cond.selects RX0 yX0_feeders yX0_feeders, Cond.initialized RX0, Cond.code yX0_feeders cX0_feeders 3 (some .int), Cond.fieldLink RX0 9 "CastingFeeder$Casting" "sections" "I", Cond.methodLink RX0 52 yX0_isFeeder, Cond.instanceMethod yX0_isFeeder, Cond.selects RX0 yX0_isFeeder yX0_isFeeder, Cond.code yX0_isFeeder cX0_isFeeder 2 (some .boolean), Cond.fieldLink RX0 34 "CastingFeeder$Casting" "feeder" "[Z", Cond.methodLink RX0 44 yX0_has]
def wsL_areNeighbours_r2 : List Cond := [Cond.instanceMethod yX0_has, Cond.selects RX0 yX0_has yX0_has, Cond.code yX0_has cX0_has 2 (some .boolean), Cond.methodLink RX4 125 yX1_fedBy, Cond.instanceMethod yX1_fedBy, Cond.selects RX1 yX1_fedBy yX1_fedBy, Cond.initialized RX1, Cond.code yX1_fedBy cX1_fedBy 4 (some .int), Cond.fieldLink RX1 9 "CastingFeeder$Freezing" "sections" "I", Cond.fieldLink RX1 22 "CastingFeeder$Freezing" "source" "[I", Cond.methodLink RX4 132 yX4_sum, Cond.static yX4_sum, Cond.code yX4_sum cX4_sum 4 (some .int), Cond.methodLink RX4 135 yX1_excessOfAll, Cond.instanceMethod yX1_excessOfAll, Cond.selects RX1 yX1_excessOfAll yX1_excessOfAll, Cond.code yX1_excessOfAll cX1_excessOfAll 1 (some .int), Cond.fieldLink RX1 31 "CastingFeeder$Freezing" "excess" "[I", Cond.methodLink RX4 138 yX0_yieldPerMille, Cond.instanceMethod yX0_yieldPerMille, Cond.selects RX0 yX0_yieldPerMille yX0_yieldPerMille, Cond.code yX0_yieldPerMille cX0_yieldPerMille 4 (some .int), Cond.fieldLink RX0 24 "CastingFeeder$Casting" "volume" "[I", Cond.static yX4_at]
def wsL_areNeighbours_r3 : List Cond := [Cond.code yX4_at cX4_at 2 (some .int), Cond.methodLink RX4 141 yX1_isSound, Cond.instanceMethod yX1_isSound, Cond.selects RX1 yX1_isSound yX1_isSound, Cond.code yX1_isSound cX1_isSound 1 (some .boolean), Cond.methodLink RX1 90 yX1_excessOfAll, Cond.methodLink RL 14 yX4_joint, Cond.instanceMethod yX4_joint, Cond.selects RX4 yX4_joint yX4_joint, Cond.code yX4_joint cX4_joint 3 (some .int), Cond.fieldLink RX4 168 "CastingFeeder$Casting" "first" "[I", Cond.fieldLink RX4 171 "CastingFeeder$Casting" "second" "[I", Cond.methodLink RX4 106 yX0_hasJoint, Cond.instanceMethod yX0_hasJoint, Cond.selects RX0 yX0_hasJoint yX0_hasJoint, Cond.code yX0_hasJoint cX0_hasJoint 2 (some .boolean), Cond.fieldLink RX0 15 "CastingFeeder$Casting" "joints" "I", Cond.methodLink RX4 80 yX4_isWithin, Cond.static yX4_isWithin, Cond.code yX4_isWithin cX4_isWithin 3 (some .boolean), Cond.methodLink RX4 69 yX4_at]
def wsL_areNeighbours : List Cond := .code yL_areNeighbours cL_areNeighbours 4 (some .boolean) :: ((wsL_areNeighbours_r1 ++ (wsL_areNeighbours_r2 ++ wsL_areNeighbours_r3)) ++ wsX40 ++ wsX00 ++ wsX10)
def wsL_isSound_r1 : List Cond := [Cond.constantLong RL 18 (-1), Cond.methodLink RL 8 yX4_count, Cond.instanceMethod yX4_count, Cond.selects RX4 yX4_count yX4_count, Cond.initialized RX4, Cond.code yX4_count cX4_count 2 (some .int), Cond.fieldLink RX4 10 "CastingFeeder" "casting" "LCastingFeeder$Casting;", Cond.fieldLink RX4 91 "CastingFeeder$Casting" "sections" "I", Cond.fieldLink RX4 112 "CastingFeeder$Casting" "joints" "I", Cond.fieldLink RX4 115 "CastingFeeder$Casting" "shrinkage" "I", Cond.fieldLink RX4 118 "CastingFeeder$Casting" "piping" "I", Cond.fieldLink RX4 19 "CastingFeeder" "freezing" "LCastingFeeder$Freezing;", Cond.fieldLink RX4 129 "CastingFeeder$Freezing" "pores" "[I", Cond.methodLink RX4 121 yX0_feeders, Cond.instanceMethod yX0_feeders, Cond.selects RX0 yX0_feeders yX0_feeders, Cond.initialized RX0, Cond.code yX0_feeders cX0_feeders 3 (some .int), Cond.fieldLink RX0 9 "CastingFeeder$Casting" "sections" "I", Cond.methodLink RX0 52 yX0_isFeeder, Cond.instanceMethod yX0_isFeeder, Cond.selects RX0 yX0_isFeeder yX0_isFeeder, Cond.code yX0_isFeeder cX0_isFeeder 2 (some .boolean), Cond.fieldLink RX0 34 "CastingFeeder$Casting" "feeder" "[Z"]
def wsL_isSound_r2 : List Cond := [Cond.methodLink RX0 44 yX0_has, Cond.instanceMethod yX0_has, Cond.selects RX0 yX0_has yX0_has, Cond.code yX0_has cX0_has 2 (some .boolean), Cond.methodLink RX4 125 yX1_fedBy, Cond.instanceMethod yX1_fedBy, Cond.selects RX1 yX1_fedBy yX1_fedBy, Cond.initialized RX1, Cond.code yX1_fedBy cX1_fedBy 4 (some .int), Cond.fieldLink RX1 9 "CastingFeeder$Freezing" "sections" "I", Cond.fieldLink RX1 22 "CastingFeeder$Freezing" "source" "[I", Cond.methodLink RX4 132 yX4_sum, Cond.static yX4_sum, Cond.code yX4_sum cX4_sum 4 (some .int), Cond.methodLink RX4 135 yX1_excessOfAll, Cond.instanceMethod yX1_excessOfAll, Cond.selects RX1 yX1_excessOfAll yX1_excessOfAll, Cond.code yX1_excessOfAll cX1_excessOfAll 1 (some .int), Cond.fieldLink RX1 31 "CastingFeeder$Freezing" "excess" "[I", Cond.methodLink RX4 138 yX0_yieldPerMille, Cond.instanceMethod yX0_yieldPerMille, Cond.selects RX0 yX0_yieldPerMille yX0_yieldPerMille, Cond.code yX0_yieldPerMille cX0_yieldPerMille 4 (some .int), Cond.fieldLink RX0 24 "CastingFeeder$Casting" "volume" "[I"]
def wsL_isSound_r3 : List Cond := [Cond.static yX4_at, Cond.code yX4_at cX4_at 2 (some .int), Cond.methodLink RX4 141 yX1_isSound, Cond.instanceMethod yX1_isSound, Cond.selects RX1 yX1_isSound yX1_isSound, Cond.code yX1_isSound cX1_isSound 1 (some .boolean), Cond.methodLink RX1 90 yX1_excessOfAll, Cond.methodLink RL 20 yX4_atStep, Cond.instanceMethod yX4_atStep, Cond.selects RX4 yX4_atStep yX4_atStep, Cond.code yX4_atStep cX4_atStep 2 (some .int), Cond.fieldLink RX4 174 "CastingFeeder$Freezing" "order" "[I", Cond.methodLink RX4 69 yX4_at, Cond.methodLink RL 23 yX4_section, Cond.instanceMethod yX4_section, Cond.selects RX4 yX4_section yX4_section, Cond.code yX4_section cX4_section 3 (some .int), Cond.fieldLink RX4 65 "CastingFeeder$Casting" "volume" "[I", Cond.fieldLink RX4 77 "CastingFeeder$Casting" "area" "[I", Cond.fieldLink RX4 84 "CastingFeeder$Casting" "chill" "[I", Cond.fieldLink RX4 147 "CastingFeeder$Freezing" "step" "[I", Cond.fieldLink RX4 150 "CastingFeeder$Freezing" "need" "[I", Cond.fieldLink RX4 153 "CastingFeeder$Freezing" "excess" "[I", Cond.fieldLink RX4 156 "CastingFeeder$Freezing" "source" "[I"]
def wsL_isSound_r4 : List Cond := [Cond.methodLink RX4 62 yX0_has, Cond.methodLink RX4 144 yX0_isFeeder, Cond.methodLink RX4 159 yX0_neighbours, Cond.instanceMethod yX0_neighbours, Cond.selects RX0 yX0_neighbours yX0_neighbours, Cond.code yX0_neighbours cX0_neighbours 4 (some .int), Cond.fieldLink RX0 15 "CastingFeeder$Casting" "joints" "I", Cond.methodLink RX0 59 yX0_touches, Cond.instanceMethod yX0_touches, Cond.selects RX0 yX0_touches yX0_touches, Cond.code yX0_touches cX0_touches 3 (some .boolean), Cond.fieldLink RX0 38 "CastingFeeder$Casting" "first" "[I", Cond.fieldLink RX0 41 "CastingFeeder$Casting" "second" "[I", Cond.methodLink RL 26 yX4_modulus, Cond.instanceMethod yX4_modulus, Cond.selects RX4 yX4_modulus yX4_modulus, Cond.code yX4_modulus cX4_modulus 7 (some .int), Cond.methodLink RX4 162 yX0_cooledArea, Cond.instanceMethod yX0_cooledArea, Cond.selects RX0 yX0_cooledArea yX0_cooledArea, Cond.code yX0_cooledArea cX0_cooledArea 2 (some .int), Cond.fieldLink RX0 28 "CastingFeeder$Casting" "area" "[I", Cond.fieldLink RX0 31 "CastingFeeder$Casting" "chill" "[I", Cond.methodLink RX4 165 yX4_commonDivisor]
def wsL_isSound_r5 : List Cond := [Cond.static yX4_commonDivisor, Cond.code yX4_commonDivisor cX4_commonDivisor 6 (some .int), Cond.methodLink RL 30 yL_areNeighbours, Cond.static yL_areNeighbours, Cond.initialized RL, Cond.code yL_areNeighbours cL_areNeighbours 4 (some .boolean), Cond.methodLink RL 14 yX4_joint, Cond.instanceMethod yX4_joint, Cond.selects RX4 yX4_joint yX4_joint, Cond.code yX4_joint cX4_joint 3 (some .int), Cond.fieldLink RX4 168 "CastingFeeder$Casting" "first" "[I", Cond.fieldLink RX4 171 "CastingFeeder$Casting" "second" "[I", Cond.methodLink RX4 106 yX0_hasJoint, Cond.instanceMethod yX0_hasJoint, Cond.selects RX0 yX0_hasJoint yX0_hasJoint, Cond.code yX0_hasJoint cX0_hasJoint 2 (some .boolean), Cond.methodLink RX4 80 yX4_isWithin, Cond.static yX4_isWithin, Cond.code yX4_isWithin cX4_isWithin 3 (some .boolean), Cond.methodLink RL 36 yX4_way, Cond.instanceMethod yX4_way, Cond.selects RX4 yX4_way yX4_way, Cond.code yX4_way cX4_way 5 (some .int), Cond.methodLink RL 39 yX4_end]
def wsL_isSound_r6 : List Cond := [Cond.instanceMethod yX4_end, Cond.selects RX4 yX4_end yX4_end, Cond.code yX4_end cX4_end 2 (some .int), Cond.methodLink RX4 177 yX1_hotSpotOf, Cond.instanceMethod yX1_hotSpotOf, Cond.selects RX1 yX1_hotSpotOf yX1_hotSpotOf, Cond.code yX1_hotSpotOf cX1_hotSpotOf 4 (some .int), Cond.methodLink RL 42 yX4_gathers, Cond.instanceMethod yX4_gathers, Cond.selects RX4 yX4_gathers yX4_gathers, Cond.code yX4_gathers cX4_gathers 4 (some .int), Cond.methodLink RX4 180 yX0_firstNeed, Cond.instanceMethod yX0_firstNeed, Cond.selects RX0 yX0_firstNeed yX0_firstNeed, Cond.code yX0_firstNeed cX0_firstNeed 2 (some .int), Cond.fieldLink RX0 18 "CastingFeeder$Casting" "shrinkage" "I"]
def wsL_isSound : List Cond := .code yL_isSound cL_isSound 28 (some .boolean) :: ((wsL_isSound_r1 ++ (wsL_isSound_r2 ++ (wsL_isSound_r3 ++ (wsL_isSound_r4 ++ (wsL_isSound_r5 ++ wsL_isSound_r6))))) ++ wsX40 ++ wsX00 ++ wsX10)
def wsL_isLeast_r1 : List Cond := [Cond.methodLink RL 45 yX4_digest, Cond.instanceMethod yX4_digest, Cond.selects RX4 yX4_digest yX4_digest, Cond.initialized RX4, Cond.code yX4_digest cX4_digest 5 (some .long), Cond.constantLong RX4 216 (17), Cond.constantLong RX4 218 (31), Cond.fieldLink RX4 10 "CastingFeeder" "casting" "LCastingFeeder$Casting;", Cond.fieldLink RX4 91 "CastingFeeder$Casting" "sections" "I", Cond.fieldLink RX4 112 "CastingFeeder$Casting" "joints" "I", Cond.methodLink RX4 220 yX4_count, Cond.instanceMethod yX4_count, Cond.selects RX4 yX4_count yX4_count, Cond.code yX4_count cX4_count 2 (some .int), Cond.fieldLink RX4 115 "CastingFeeder$Casting" "shrinkage" "I", Cond.fieldLink RX4 118 "CastingFeeder$Casting" "piping" "I", Cond.fieldLink RX4 19 "CastingFeeder" "freezing" "LCastingFeeder$Freezing;", Cond.fieldLink RX4 129 "CastingFeeder$Freezing" "pores" "[I", Cond.methodLink RX4 121 yX0_feeders, Cond.instanceMethod yX0_feeders, Cond.selects RX0 yX0_feeders yX0_feeders, Cond.initialized RX0, Cond.code yX0_feeders cX0_feeders 3 (some .int), Cond.fieldLink RX0 9 "CastingFeeder$Casting" "sections" "I"]
def wsL_isLeast_r2 : List Cond := [Cond.methodLink RX0 52 yX0_isFeeder, Cond.instanceMethod yX0_isFeeder, Cond.selects RX0 yX0_isFeeder yX0_isFeeder, Cond.code yX0_isFeeder cX0_isFeeder 2 (some .boolean), Cond.fieldLink RX0 34 "CastingFeeder$Casting" "feeder" "[Z", Cond.methodLink RX0 44 yX0_has, Cond.instanceMethod yX0_has, Cond.selects RX0 yX0_has yX0_has, Cond.code yX0_has cX0_has 2 (some .boolean), Cond.methodLink RX4 125 yX1_fedBy, Cond.instanceMethod yX1_fedBy, Cond.selects RX1 yX1_fedBy yX1_fedBy, Cond.initialized RX1, Cond.code yX1_fedBy cX1_fedBy 4 (some .int), Cond.fieldLink RX1 9 "CastingFeeder$Freezing" "sections" "I", Cond.fieldLink RX1 22 "CastingFeeder$Freezing" "source" "[I", Cond.methodLink RX4 132 yX4_sum, Cond.static yX4_sum, Cond.code yX4_sum cX4_sum 4 (some .int), Cond.methodLink RX4 135 yX1_excessOfAll, Cond.instanceMethod yX1_excessOfAll, Cond.selects RX1 yX1_excessOfAll yX1_excessOfAll, Cond.code yX1_excessOfAll cX1_excessOfAll 1 (some .int), Cond.fieldLink RX1 31 "CastingFeeder$Freezing" "excess" "[I"]
def wsL_isLeast_r3 : List Cond := [Cond.methodLink RX4 138 yX0_yieldPerMille, Cond.instanceMethod yX0_yieldPerMille, Cond.selects RX0 yX0_yieldPerMille yX0_yieldPerMille, Cond.code yX0_yieldPerMille cX0_yieldPerMille 4 (some .int), Cond.fieldLink RX0 24 "CastingFeeder$Casting" "volume" "[I", Cond.static yX4_at, Cond.code yX4_at cX4_at 2 (some .int), Cond.methodLink RX4 141 yX1_isSound, Cond.instanceMethod yX1_isSound, Cond.selects RX1 yX1_isSound yX1_isSound, Cond.code yX1_isSound cX1_isSound 1 (some .boolean), Cond.methodLink RX1 90 yX1_excessOfAll, Cond.methodLink RX4 223 yX4_section, Cond.instanceMethod yX4_section, Cond.selects RX4 yX4_section yX4_section, Cond.code yX4_section cX4_section 3 (some .int), Cond.fieldLink RX4 65 "CastingFeeder$Casting" "volume" "[I", Cond.fieldLink RX4 77 "CastingFeeder$Casting" "area" "[I", Cond.fieldLink RX4 84 "CastingFeeder$Casting" "chill" "[I", Cond.fieldLink RX4 147 "CastingFeeder$Freezing" "step" "[I", Cond.fieldLink RX4 150 "CastingFeeder$Freezing" "need" "[I", Cond.fieldLink RX4 153 "CastingFeeder$Freezing" "excess" "[I", Cond.fieldLink RX4 156 "CastingFeeder$Freezing" "source" "[I", Cond.methodLink RX4 62 yX0_has]
def wsL_isLeast_r4 : List Cond := [Cond.methodLink RX4 69 yX4_at, Cond.methodLink RX4 144 yX0_isFeeder, Cond.methodLink RX4 159 yX0_neighbours, Cond.instanceMethod yX0_neighbours, Cond.selects RX0 yX0_neighbours yX0_neighbours, Cond.code yX0_neighbours cX0_neighbours 4 (some .int), Cond.fieldLink RX0 15 "CastingFeeder$Casting" "joints" "I", Cond.methodLink RX0 59 yX0_touches, Cond.instanceMethod yX0_touches, Cond.selects RX0 yX0_touches yX0_touches, Cond.code yX0_touches cX0_touches 3 (some .boolean), Cond.fieldLink RX0 38 "CastingFeeder$Casting" "first" "[I", Cond.fieldLink RX0 41 "CastingFeeder$Casting" "second" "[I", Cond.methodLink RX4 226 yX4_joint, Cond.instanceMethod yX4_joint, Cond.selects RX4 yX4_joint yX4_joint, Cond.code yX4_joint cX4_joint 3 (some .int), Cond.fieldLink RX4 168 "CastingFeeder$Casting" "first" "[I", Cond.fieldLink RX4 171 "CastingFeeder$Casting" "second" "[I", Cond.methodLink RX4 106 yX0_hasJoint, Cond.instanceMethod yX0_hasJoint, Cond.selects RX0 yX0_hasJoint yX0_hasJoint, Cond.code yX0_hasJoint cX0_hasJoint 2 (some .boolean), Cond.methodLink RX4 80 yX4_isWithin]
def wsL_isLeast_r5 : List Cond := [Cond.static yX4_isWithin, Cond.code yX4_isWithin cX4_isWithin 3 (some .boolean), Cond.methodLink RL 8 yX4_count, Cond.methodLink RL 49 yX4_leastFeeder, Cond.instanceMethod yX4_leastFeeder, Cond.selects RX4 yX4_leastFeeder yX4_leastFeeder, Cond.code yX4_leastFeeder cX4_leastFeeder 3 (some .int), Cond.methodLink RX4 183 yX4_hasRoomForFeeder, Cond.instanceMethod yX4_hasRoomForFeeder, Cond.selects RX4 yX4_hasRoomForFeeder yX4_hasRoomForFeeder, Cond.code yX4_hasRoomForFeeder cX4_hasRoomForFeeder 1 (some .boolean), Cond.methodLink RX4 47 yX0_hasRoomForSection, Cond.instanceMethod yX0_hasRoomForSection, Cond.selects RX0 yX0_hasRoomForSection yX0_hasRoomForSection, Cond.code yX0_hasRoomForSection cX0_hasRoomForSection 1 (some .boolean), Cond.methodLink RX4 99 yX0_hasRoomForJoint, Cond.instanceMethod yX0_hasRoomForJoint, Cond.selects RX0 yX0_hasRoomForJoint yX0_hasRoomForJoint, Cond.code yX0_hasRoomForJoint cX0_hasRoomForJoint 1 (some .boolean), Cond.methodLink RX4 186 yX4_isSoundWithFeeder, Cond.instanceMethod yX4_isSoundWithFeeder, Cond.selects RX4 yX4_isSoundWithFeeder yX4_isSoundWithFeeder, Cond.code yX4_isSoundWithFeeder cX4_isSoundWithFeeder 4 (some .boolean), Cond.fieldLink RX4 37 "CastingFeeder" "trial" "LCastingFeeder$Casting;"]
def wsL_isLeast_r6 : List Cond := [Cond.fieldLink RX4 40 "CastingFeeder" "tried" "LCastingFeeder$Freezing;", Cond.methodLink RX4 189 yX0_copyFrom, Cond.instanceMethod yX0_copyFrom, Cond.selects RX0 yX0_copyFrom yX0_copyFrom, Cond.code yX0_copyFrom cX0_copyFrom 3 none, Cond.fieldLink RX0 18 "CastingFeeder$Casting" "shrinkage" "I", Cond.fieldLink RX0 21 "CastingFeeder$Casting" "piping" "I", Cond.fieldLink RX0 28 "CastingFeeder$Casting" "area" "[I", Cond.fieldLink RX0 31 "CastingFeeder$Casting" "chill" "[I", Cond.methodLink RX4 55 yX0_append, Cond.instanceMethod yX0_append, Cond.selects RX0 yX0_append yX0_append, Cond.code yX0_append cX0_append 6 (some .int), Cond.methodLink RX4 102 yX0_link, Cond.instanceMethod yX0_link, Cond.selects RX0 yX0_link yX0_link, Cond.code yX0_link cX0_link 4 (some .int), Cond.methodLink RX4 59 yX1_follow, Cond.instanceMethod yX1_follow, Cond.selects RX1 yX1_follow yX1_follow, Cond.code yX1_follow cX1_follow 3 none, Cond.fieldLink RX1 34 "CastingFeeder$Casting" "sections" "I", Cond.methodLink RX1 37 Lib.Math.min.name, Cond.static Lib.Math.min.name]
def wsL_isLeast_r7 : List Cond := [Cond.initialized "java/lang/Math", Cond.code Lib.Math.min.name Lib.Math.min.code 2 (some .int), Cond.fieldLink RX1 15 "CastingFeeder$Freezing" "step" "[I", Cond.fieldLink RX1 19 "CastingFeeder$Freezing" "order" "[I", Cond.methodLink RX1 43 yX0_stepOf, Cond.instanceMethod yX0_stepOf, Cond.selects RX0 yX0_stepOf yX0_stepOf, Cond.code yX0_stepOf cX0_stepOf 8 (some .int), Cond.methodLink RX0 55 yX0_cooledArea, Cond.instanceMethod yX0_cooledArea, Cond.selects RX0 yX0_cooledArea yX0_cooledArea, Cond.code yX0_cooledArea cX0_cooledArea 2 (some .int), Cond.static yX4_put, Cond.code yX4_put cX4_put 3 none, Cond.methodLink RX1 51 yX1_findSources, Cond.instanceMethod yX1_findSources, Cond.selects RX1 yX1_findSources yX1_findSources, Cond.code yX1_findSources cX1_findSources 5 none, Cond.fieldLink RX1 61 "CastingFeeder$Casting" "joints" "I", Cond.fieldLink RX1 64 "CastingFeeder$Casting" "first" "[I", Cond.fieldLink RX1 71 "CastingFeeder$Casting" "second" "[I", Cond.methodLink RX1 74 yX1_offer, Cond.instanceMethod yX1_offer, Cond.selects RX1 yX1_offer yX1_offer]
def wsL_isLeast_r8 : List Cond := [Cond.code yX1_offer cX1_offer 4 none, Cond.methodLink RX1 55 yX1_drawNeeds, Cond.instanceMethod yX1_drawNeeds, Cond.selects RX1 yX1_drawNeeds yX1_drawNeeds, Cond.code yX1_drawNeeds cX1_drawNeeds 5 none, Cond.fieldLink RX1 25 "CastingFeeder$Freezing" "need" "[I", Cond.methodLink RX1 78 yX0_firstNeed, Cond.instanceMethod yX0_firstNeed, Cond.selects RX0 yX0_firstNeed yX0_firstNeed, Cond.code yX0_firstNeed cX0_firstNeed 2 (some .int), Cond.methodLink RX1 58 yX1_findPores, Cond.instanceMethod yX1_findPores, Cond.selects RX1 yX1_findPores yX1_findPores, Cond.code yX1_findPores cX1_findPores 3 none, Cond.fieldLink RX1 28 "CastingFeeder$Freezing" "pores" "[I", Cond.methodLink RX1 84 Lib.Math.max.name, Cond.static Lib.Math.max.name, Cond.code Lib.Math.max.name Lib.Math.max.code 2 (some .int), Cond.methodLink RX1 81 yX0_bearablePores, Cond.instanceMethod yX0_bearablePores, Cond.selects RX0 yX0_bearablePores yX0_bearablePores, Cond.code yX0_bearablePores cX0_bearablePores 2 (some .int), Cond.methodLink RL 52 yX4_bestFeeder, Cond.instanceMethod yX4_bestFeeder]
def wsL_isLeast_r9 : List Cond := [Cond.selects RX4 yX4_bestFeeder yX4_bestFeeder, Cond.code yX4_bestFeeder cX4_bestFeeder 3 (some .int), Cond.methodLink RL 56 yX4_addSection, Cond.instanceMethod yX4_addSection, Cond.selects RX4 yX4_addSection yX4_addSection, Cond.code yX4_addSection cX4_addSection 5 (some .int), Cond.fieldLink RX4 26 "CastingFeeder" "history" "LCastingFeeder$History;", Cond.methodLink RX4 43 yX4_isSize, Cond.static yX4_isSize, Cond.code yX4_isSize cX4_isSize 1 (some .boolean), Cond.methodLink RX4 51 yX2_keep, Cond.instanceMethod yX2_keep, Cond.selects RX2 yX2_keep yX2_keep, Cond.initialized RX2, Cond.code yX2_keep cX2_keep 3 none, Cond.fieldLink RX2 17 "CastingFeeder$History" "size" "I", Cond.fieldLink RX2 11 "CastingFeeder$History" "states" "[LCastingFeeder$Casting;", Cond.methodLink RX2 22 yX2_dropOldest, Cond.instanceMethod yX2_dropOldest, Cond.selects RX2 yX2_dropOldest yX2_dropOldest, Cond.code yX2_dropOldest cX2_dropOldest 3 none, Cond.methodLink RX2 25 yX2_stateAt, Cond.instanceMethod yX2_stateAt, Cond.selects RX2 yX2_stateAt yX2_stateAt]
def wsL_isLeast_r10 : List Cond := [Cond.code yX2_stateAt cX2_stateAt 2 (some (.object "CastingFeeder$Casting")), Cond.methodLink RX2 29 yX0_copyFrom, Cond.methodLink RL 60 yX4_join, Cond.instanceMethod yX4_join, Cond.selects RX4 yX4_join yX4_join, Cond.code yX4_join cX4_join 4 (some .int), Cond.methodLink RX4 95 yX0_canLink, Cond.instanceMethod yX0_canLink, Cond.selects RX0 yX0_canLink yX0_canLink, Cond.code yX0_canLink cX0_canLink 4 (some .boolean), Cond.methodLink RL 63 yX4_undo, Cond.instanceMethod yX4_undo, Cond.selects RX4 yX4_undo yX4_undo, Cond.code yX4_undo cX4_undo 1 (some .int), Cond.fieldLink RX4 201 "CastingFeeder$History" "size" "I", Cond.methodLink RX4 195 yX2_isEmpty, Cond.instanceMethod yX2_isEmpty, Cond.selects RX2 yX2_isEmpty yX2_isEmpty, Cond.code yX2_isEmpty cX2_isEmpty 1 (some .boolean), Cond.methodLink RX4 198 yX2_restore, Cond.instanceMethod yX2_restore, Cond.selects RX2 yX2_restore yX2_restore, Cond.code yX2_restore cX2_restore 3 none, Cond.methodLink RL 66 yX4_leastChill]
def wsL_isLeast_r11 : List Cond := [Cond.instanceMethod yX4_leastChill, Cond.selects RX4 yX4_leastChill yX4_leastChill, Cond.code yX4_leastChill cX4_leastChill 5 (some .int), Cond.methodLink RX4 73 yX4_put, Cond.methodLink RX4 192 yX0_stepOf, Cond.methodLink RL 23 yX4_section, Cond.methodLink RL 69 yX4_excessWith, Cond.instanceMethod yX4_excessWith, Cond.selects RX4 yX4_excessWith yX4_excessWith, Cond.code yX4_excessWith cX4_excessWith 3 (some .int), Cond.methodLink RL 72 yX4_setChill, Cond.instanceMethod yX4_setChill, Cond.selects RX4 yX4_setChill yX4_setChill, Cond.code yX4_setChill cX4_setChill 4 (some .int)]
def wsL_isLeast : List Cond := .code yL_isLeast cL_isLeast 10 (some .boolean) :: ((wsL_isLeast_r1 ++ (wsL_isLeast_r2 ++ (wsL_isLeast_r3 ++ (wsL_isLeast_r4 ++ (wsL_isLeast_r5 ++ (wsL_isLeast_r6 ++ (wsL_isLeast_r7 ++ (wsL_isLeast_r8 ++ (wsL_isLeast_r9 ++ (wsL_isLeast_r10 ++ wsL_isLeast_r11)))))))))) ++ wsX40 ++ wsX00 ++ wsX10 ++ wsX20)
def wsL_changes_r1 : List Cond := [Cond.methodLink RL 75 yL_low, Cond.static yL_low, Cond.initialized RL, Cond.code yL_low cL_low 2 (some .int), Cond.constant RL 7 (2147483647), Cond.methodLink RL 56 yX4_addSection, Cond.instanceMethod yX4_addSection, Cond.selects RX4 yX4_addSection yX4_addSection, Cond.initialized RX4, Cond.code yX4_addSection cX4_addSection 5 (some .int), Cond.fieldLink RX4 10 "CastingFeeder" "casting" "LCastingFeeder$Casting;", Cond.fieldLink RX4 26 "CastingFeeder" "history" "LCastingFeeder$History;", Cond.fieldLink RX4 19 "CastingFeeder" "freezing" "LCastingFeeder$Freezing;", Cond.methodLink RX4 43 yX4_isSize, Cond.static yX4_isSize, Cond.code yX4_isSize cX4_isSize 1 (some .boolean), Cond.methodLink RX4 80 yX4_isWithin, Cond.static yX4_isWithin, Cond.code yX4_isWithin cX4_isWithin 3 (some .boolean), Cond.methodLink RX4 47 yX0_hasRoomForSection, Cond.instanceMethod yX0_hasRoomForSection, Cond.selects RX0 yX0_hasRoomForSection yX0_hasRoomForSection, Cond.initialized RX0, Cond.code yX0_hasRoomForSection cX0_hasRoomForSection 1 (some .boolean)]
def wsL_changes_r2 : List Cond := [Cond.fieldLink RX0 9 "CastingFeeder$Casting" "sections" "I", Cond.methodLink RX4 51 yX2_keep, Cond.instanceMethod yX2_keep, Cond.selects RX2 yX2_keep yX2_keep, Cond.initialized RX2, Cond.code yX2_keep cX2_keep 3 none, Cond.fieldLink RX2 17 "CastingFeeder$History" "size" "I", Cond.fieldLink RX2 11 "CastingFeeder$History" "states" "[LCastingFeeder$Casting;", Cond.methodLink RX2 22 yX2_dropOldest, Cond.instanceMethod yX2_dropOldest, Cond.selects RX2 yX2_dropOldest yX2_dropOldest, Cond.code yX2_dropOldest cX2_dropOldest 3 none, Cond.methodLink RX2 25 yX2_stateAt, Cond.instanceMethod yX2_stateAt, Cond.selects RX2 yX2_stateAt yX2_stateAt, Cond.code yX2_stateAt cX2_stateAt 2 (some (.object "CastingFeeder$Casting")), Cond.methodLink RX2 29 yX0_copyFrom, Cond.instanceMethod yX0_copyFrom, Cond.selects RX0 yX0_copyFrom yX0_copyFrom, Cond.code yX0_copyFrom cX0_copyFrom 3 none, Cond.fieldLink RX0 15 "CastingFeeder$Casting" "joints" "I", Cond.fieldLink RX0 18 "CastingFeeder$Casting" "shrinkage" "I", Cond.fieldLink RX0 21 "CastingFeeder$Casting" "piping" "I", Cond.fieldLink RX0 24 "CastingFeeder$Casting" "volume" "[I"]
def wsL_changes_r3 : List Cond := [Cond.fieldLink RX0 28 "CastingFeeder$Casting" "area" "[I", Cond.fieldLink RX0 31 "CastingFeeder$Casting" "chill" "[I", Cond.fieldLink RX0 34 "CastingFeeder$Casting" "feeder" "[Z", Cond.fieldLink RX0 38 "CastingFeeder$Casting" "first" "[I", Cond.fieldLink RX0 41 "CastingFeeder$Casting" "second" "[I", Cond.methodLink RX4 55 yX0_append, Cond.instanceMethod yX0_append, Cond.selects RX0 yX0_append yX0_append, Cond.code yX0_append cX0_append 6 (some .int), Cond.methodLink RX4 59 yX1_follow, Cond.instanceMethod yX1_follow, Cond.selects RX1 yX1_follow yX1_follow, Cond.initialized RX1, Cond.code yX1_follow cX1_follow 3 none, Cond.fieldLink RX1 34 "CastingFeeder$Casting" "sections" "I", Cond.methodLink RX1 37 Lib.Math.min.name, Cond.static Lib.Math.min.name, Cond.initialized "java/lang/Math", Cond.code Lib.Math.min.name Lib.Math.min.code 2 (some .int), Cond.fieldLink RX1 9 "CastingFeeder$Freezing" "sections" "I", Cond.fieldLink RX1 15 "CastingFeeder$Freezing" "step" "[I", Cond.fieldLink RX1 19 "CastingFeeder$Freezing" "order" "[I", Cond.methodLink RX1 43 yX0_stepOf, Cond.instanceMethod yX0_stepOf]
def wsL_changes_r4 : List Cond := [Cond.selects RX0 yX0_stepOf yX0_stepOf, Cond.code yX0_stepOf cX0_stepOf 8 (some .int), Cond.static yX4_at, Cond.code yX4_at cX4_at 2 (some .int), Cond.methodLink RX0 55 yX0_cooledArea, Cond.instanceMethod yX0_cooledArea, Cond.selects RX0 yX0_cooledArea yX0_cooledArea, Cond.code yX0_cooledArea cX0_cooledArea 2 (some .int), Cond.static yX4_put, Cond.code yX4_put cX4_put 3 none, Cond.methodLink RX1 51 yX1_findSources, Cond.instanceMethod yX1_findSources, Cond.selects RX1 yX1_findSources yX1_findSources, Cond.code yX1_findSources cX1_findSources 5 none, Cond.fieldLink RX1 22 "CastingFeeder$Freezing" "source" "[I", Cond.fieldLink RX1 61 "CastingFeeder$Casting" "joints" "I", Cond.fieldLink RX1 64 "CastingFeeder$Casting" "first" "[I", Cond.fieldLink RX1 71 "CastingFeeder$Casting" "second" "[I", Cond.methodLink RX1 74 yX1_offer, Cond.instanceMethod yX1_offer, Cond.selects RX1 yX1_offer yX1_offer, Cond.code yX1_offer cX1_offer 4 none, Cond.methodLink RX1 55 yX1_drawNeeds, Cond.instanceMethod yX1_drawNeeds]
def wsL_changes_r5 : List Cond := [Cond.selects RX1 yX1_drawNeeds yX1_drawNeeds, Cond.code yX1_drawNeeds cX1_drawNeeds 5 none, Cond.fieldLink RX1 25 "CastingFeeder$Freezing" "need" "[I", Cond.methodLink RX1 78 yX0_firstNeed, Cond.instanceMethod yX0_firstNeed, Cond.selects RX0 yX0_firstNeed yX0_firstNeed, Cond.code yX0_firstNeed cX0_firstNeed 2 (some .int), Cond.methodLink RX1 58 yX1_findPores, Cond.instanceMethod yX1_findPores, Cond.selects RX1 yX1_findPores yX1_findPores, Cond.code yX1_findPores cX1_findPores 3 none, Cond.fieldLink RX1 28 "CastingFeeder$Freezing" "pores" "[I", Cond.fieldLink RX1 31 "CastingFeeder$Freezing" "excess" "[I", Cond.methodLink RX1 84 Lib.Math.max.name, Cond.static Lib.Math.max.name, Cond.code Lib.Math.max.name Lib.Math.max.code 2 (some .int), Cond.methodLink RX1 81 yX0_bearablePores, Cond.instanceMethod yX0_bearablePores, Cond.selects RX0 yX0_bearablePores yX0_bearablePores, Cond.code yX0_bearablePores cX0_bearablePores 2 (some .int), Cond.methodLink RX0 52 yX0_isFeeder, Cond.instanceMethod yX0_isFeeder, Cond.selects RX0 yX0_isFeeder yX0_isFeeder, Cond.code yX0_isFeeder cX0_isFeeder 2 (some .boolean)]
def wsL_changes_r6 : List Cond := [Cond.methodLink RX0 44 yX0_has, Cond.instanceMethod yX0_has, Cond.selects RX0 yX0_has yX0_has, Cond.code yX0_has cX0_has 2 (some .boolean), Cond.methodLink RL 78 yX4_resize, Cond.instanceMethod yX4_resize, Cond.selects RX4 yX4_resize yX4_resize, Cond.code yX4_resize cX4_resize 5 (some .int), Cond.fieldLink RX4 65 "CastingFeeder$Casting" "volume" "[I", Cond.fieldLink RX4 77 "CastingFeeder$Casting" "area" "[I", Cond.methodLink RX4 62 yX0_has, Cond.methodLink RX4 69 yX4_at, Cond.methodLink RX4 73 yX4_put, Cond.methodLink RL 72 yX4_setChill, Cond.instanceMethod yX4_setChill, Cond.selects RX4 yX4_setChill yX4_setChill, Cond.code yX4_setChill cX4_setChill 4 (some .int), Cond.fieldLink RX4 84 "CastingFeeder$Casting" "chill" "[I", Cond.methodLink RL 82 yX4_removeSection, Cond.instanceMethod yX4_removeSection, Cond.selects RX4 yX4_removeSection yX4_removeSection, Cond.code yX4_removeSection cX4_removeSection 2 (some .int), Cond.fieldLink RX4 91 "CastingFeeder$Casting" "sections" "I", Cond.methodLink RX4 87 yX0_drop]
def wsL_changes_r7 : List Cond := [Cond.instanceMethod yX0_drop, Cond.selects RX0 yX0_drop yX0_drop, Cond.code yX0_drop cX0_drop 3 none, Cond.methodLink RX0 63 Lib.Math.max.name, Cond.methodLink RX0 59 yX0_touches, Cond.instanceMethod yX0_touches, Cond.selects RX0 yX0_touches yX0_touches, Cond.code yX0_touches cX0_touches 3 (some .boolean), Cond.methodLink RX0 73 yX0_unlink, Cond.instanceMethod yX0_unlink, Cond.selects RX0 yX0_unlink yX0_unlink, Cond.code yX0_unlink cX0_unlink 3 none, Cond.methodLink RX0 77 yX0_without, Cond.static yX0_without, Cond.code yX0_without cX0_without 2 (some .int), Cond.methodLink RL 85 yX4_part, Cond.instanceMethod yX4_part, Cond.selects RX4 yX4_part yX4_part, Cond.code yX4_part cX4_part 2 (some .int), Cond.fieldLink RX4 112 "CastingFeeder$Casting" "joints" "I", Cond.methodLink RX4 106 yX0_hasJoint, Cond.instanceMethod yX0_hasJoint, Cond.selects RX0 yX0_hasJoint yX0_hasJoint, Cond.code yX0_hasJoint cX0_hasJoint 2 (some .boolean)]
def wsL_changes_r8 : List Cond := [Cond.methodLink RX4 109 yX0_unlink, Cond.methodLink RL 88 yX4_setMetal, Cond.instanceMethod yX4_setMetal, Cond.selects RX4 yX4_setMetal yX4_setMetal, Cond.code yX4_setMetal cX4_setMetal 4 (some .int), Cond.fieldLink RX4 115 "CastingFeeder$Casting" "shrinkage" "I", Cond.fieldLink RX4 118 "CastingFeeder$Casting" "piping" "I", Cond.methodLink RL 60 yX4_join, Cond.instanceMethod yX4_join, Cond.selects RX4 yX4_join yX4_join, Cond.code yX4_join cX4_join 4 (some .int), Cond.methodLink RX4 95 yX0_canLink, Cond.instanceMethod yX0_canLink, Cond.selects RX0 yX0_canLink yX0_canLink, Cond.code yX0_canLink cX0_canLink 4 (some .boolean), Cond.methodLink RX4 99 yX0_hasRoomForJoint, Cond.instanceMethod yX0_hasRoomForJoint, Cond.selects RX0 yX0_hasRoomForJoint yX0_hasRoomForJoint, Cond.code yX0_hasRoomForJoint cX0_hasRoomForJoint 1 (some .boolean), Cond.methodLink RX4 102 yX0_link, Cond.instanceMethod yX0_link, Cond.selects RX0 yX0_link yX0_link, Cond.code yX0_link cX0_link 4 (some .int)]
def wsL_changes : List Cond := .code yL_changes cL_changes 4 (some .int) :: ((wsL_changes_r1 ++ (wsL_changes_r2 ++ (wsL_changes_r3 ++ (wsL_changes_r4 ++ (wsL_changes_r5 ++ (wsL_changes_r6 ++ (wsL_changes_r7 ++ wsL_changes_r8))))))) ++ wsX40 ++ wsX00 ++ wsX20 ++ wsX10)
theorem dL_cell_0 : decode cL_cell 0 = .ok (.iload_n 1, 1) := by decide +kernel
theorem dL_cell_1 : decode cL_cell 1 = .ok (.aload_n 0, 1) := by decide +kernel
theorem dL_cell_2 : decode cL_cell 2 = .ok (.arraylength, 1) := by decide +kernel
theorem dL_cell_3 : decode cL_cell 3 = .ok (.if_icmp .ge 9, 3) := by decide +kernel
theorem dL_cell_6 : decode cL_cell 6 = .ok (.aload_n 0, 1) := by decide +kernel
theorem dL_cell_7 : decode cL_cell 7 = .ok (.iload_n 1, 1) := by decide +kernel
theorem dL_cell_8 : decode cL_cell 8 = .ok (.iaload, 1) := by decide +kernel
theorem dL_cell_9 : decode cL_cell 9 = .ok (.goto 15, 3) := by decide +kernel
theorem dL_cell_12 : decode cL_cell 12 = .ok (.sipush 7919, 3) := by decide +kernel
theorem dL_cell_15 : decode cL_cell 15 = .ok (.iload_n 1, 1) := by decide +kernel
theorem dL_cell_16 : decode cL_cell 16 = .ok (.iconst 3, 1) := by decide +kernel
theorem dL_cell_17 : decode cL_cell 17 = .ok (.iadd, 1) := by decide +kernel
theorem dL_cell_18 : decode cL_cell 18 = .ok (.imul, 1) := by decide +kernel
theorem dL_cell_19 : decode cL_cell 19 = .ok (.iload_n 1, 1) := by decide +kernel
theorem dL_cell_20 : decode cL_cell 20 = .ok (.bipush 11, 2) := by decide +kernel
theorem dL_cell_22 : decode cL_cell 22 = .ok (.iadd, 1) := by decide +kernel
theorem dL_cell_23 : decode cL_cell 23 = .ok (.imul, 1) := by decide +kernel
theorem dL_cell_24 : decode cL_cell 24 = .ok (.ireturn, 1) := by decide +kernel
theorem dL_low_0 : decode cL_low 0 = .ok (.iload_n 0, 1) := by decide +kernel
theorem dL_low_1 : decode cL_low 1 = .ok (.ldc 7, 2) := by decide +kernel
theorem dL_low_3 : decode cL_low 3 = .ok (.iand, 1) := by decide +kernel
theorem dL_low_4 : decode cL_low 4 = .ok (.iload_n 1, 1) := by decide +kernel
theorem dL_low_5 : decode cL_low 5 = .ok (.irem, 1) := by decide +kernel
theorem dL_low_6 : decode cL_low 6 = .ok (.ireturn, 1) := by decide +kernel
set_option maxRecDepth 20000 in
theorem ggL_areNeighbours_X4_count : GoodIn wsL_areNeighbours wsX4_count := goodIn_r _ [5, 6, 7, 8, 9, 10, 11, 12, 13, 14, 15, 16, 17, 18, 19, 20, 21, 22, 23, 24, 25, 26, 27, 28, 29, 30, 31, 32, 33, 34, 35, 36, 4, 37, 38, 39, 40, 41, 42, 43, 44, 45, 46, 47, 48, 49, 50, 51, 52, 53, 54, 70, 71, 72, 73, 74, 75, 76, 77, 78, 79, 80, 81, 82, 83, 84, 85, 86, 87, 88, 89, 90, 91, 92] (by decide +kernel) (by decide +kernel)
set_option maxRecDepth 20000 in
theorem gL_areNeighbours_X4_count : GoodIn wsL_areNeighbours (wsV RL 8 RX4 yX4_count wsX4_count) := goodIn_app (goodIn_of _ (by decide +kernel)) ggL_areNeighbours_X4_count
set_option maxRecDepth 20000 in
theorem ggL_areNeighbours_X4_joint : GoodIn wsL_areNeighbours wsX4_joint := goodIn_r _ [58, 6, 59, 60, 61, 62, 63, 16, 64, 65, 66, 67, 4, 68, 69, 48, 49, 70, 71, 72, 73, 74, 75, 76, 77, 78, 79, 80, 81, 82, 83, 84, 85] (by decide +kernel) (by decide +kernel)
set_option maxRecDepth 20000 in
theorem gL_areNeighbours_X4_joint : GoodIn wsL_areNeighbours (wsV RL 14 RX4 yX4_joint wsX4_joint) := goodIn_app (goodIn_of _ (by decide +kernel)) ggL_areNeighbours_X4_joint
theorem dL_areNeighbours_0 : decode cL_areNeighbours 0 = .ok (.iconst 0, 1) := by decide +kernel
theorem dL_areNeighbours_1 : decode cL_areNeighbours 1 = .ok (.istore_n 3, 1) := by decide +kernel
theorem dL_areNeighbours_2 : decode cL_areNeighbours 2 = .ok (.iload_n 3, 1) := by decide +kernel
theorem dL_areNeighbours_3 : decode cL_areNeighbours 3 = .ok (.aload_n 0, 1) := by decide +kernel
theorem dL_areNeighbours_4 : decode cL_areNeighbours 4 = .ok (.iconst 1, 1) := by decide +kernel
theorem dL_areNeighbours_5 : decode cL_areNeighbours 5 = .ok (.invokevirtual 8, 3) := by decide +kernel
theorem dL_areNeighbours_8 : decode cL_areNeighbours 8 = .ok (.if_icmp .ge 51, 3) := by decide +kernel
theorem dL_areNeighbours_11 : decode cL_areNeighbours 11 = .ok (.aload_n 0, 1) := by decide +kernel
theorem dL_areNeighbours_12 : decode cL_areNeighbours 12 = .ok (.iload_n 3, 1) := by decide +kernel
theorem dL_areNeighbours_13 : decode cL_areNeighbours 13 = .ok (.iconst 0, 1) := by decide +kernel
theorem dL_areNeighbours_14 : decode cL_areNeighbours 14 = .ok (.invokevirtual 14, 3) := by decide +kernel
theorem dL_areNeighbours_17 : decode cL_areNeighbours 17 = .ok (.iload_n 1, 1) := by decide +kernel
theorem dL_areNeighbours_18 : decode cL_areNeighbours 18 = .ok (.if_icmp .ne 13, 3) := by decide +kernel
theorem dL_areNeighbours_21 : decode cL_areNeighbours 21 = .ok (.aload_n 0, 1) := by decide +kernel
theorem dL_areNeighbours_22 : decode cL_areNeighbours 22 = .ok (.iload_n 3, 1) := by decide +kernel
theorem dL_areNeighbours_23 : decode cL_areNeighbours 23 = .ok (.iconst 1, 1) := by decide +kernel
theorem dL_areNeighbours_24 : decode cL_areNeighbours 24 = .ok (.invokevirtual 14, 3) := by decide +kernel
theorem dL_areNeighbours_27 : decode cL_areNeighbours 27 = .ok (.iload_n 2, 1) := by decide +kernel
theorem dL_areNeighbours_28 : decode cL_areNeighbours 28 = .ok (.if_icmp .eq 23, 3) := by decide +kernel
theorem dL_areNeighbours_31 : decode cL_areNeighbours 31 = .ok (.aload_n 0, 1) := by decide +kernel
theorem dL_areNeighbours_32 : decode cL_areNeighbours 32 = .ok (.iload_n 3, 1) := by decide +kernel
theorem dL_areNeighbours_33 : decode cL_areNeighbours 33 = .ok (.iconst 0, 1) := by decide +kernel
theorem dL_areNeighbours_34 : decode cL_areNeighbours 34 = .ok (.invokevirtual 14, 3) := by decide +kernel
theorem dL_areNeighbours_37 : decode cL_areNeighbours 37 = .ok (.iload_n 2, 1) := by decide +kernel
theorem dL_areNeighbours_38 : decode cL_areNeighbours 38 = .ok (.if_icmp .ne 15, 3) := by decide +kernel
theorem dL_areNeighbours_41 : decode cL_areNeighbours 41 = .ok (.aload_n 0, 1) := by decide +kernel
theorem dL_areNeighbours_42 : decode cL_areNeighbours 42 = .ok (.iload_n 3, 1) := by decide +kernel
theorem dL_areNeighbours_43 : decode cL_areNeighbours 43 = .ok (.iconst 1, 1) := by decide +kernel
theorem dL_areNeighbours_44 : decode cL_areNeighbours 44 = .ok (.invokevirtual 14, 3) := by decide +kernel
theorem dL_areNeighbours_47 : decode cL_areNeighbours 47 = .ok (.iload_n 1, 1) := by decide +kernel
theorem dL_areNeighbours_48 : decode cL_areNeighbours 48 = .ok (.if_icmp .ne 5, 3) := by decide +kernel
theorem dL_areNeighbours_51 : decode cL_areNeighbours 51 = .ok (.iconst 1, 1) := by decide +kernel
theorem dL_areNeighbours_52 : decode cL_areNeighbours 52 = .ok (.ireturn, 1) := by decide +kernel
theorem dL_areNeighbours_53 : decode cL_areNeighbours 53 = .ok (.iinc 3 1, 3) := by decide +kernel
theorem dL_areNeighbours_56 : decode cL_areNeighbours 56 = .ok (.goto (-54), 3) := by decide +kernel
theorem dL_areNeighbours_59 : decode cL_areNeighbours 59 = .ok (.iconst 0, 1) := by decide +kernel
theorem dL_areNeighbours_60 : decode cL_areNeighbours 60 = .ok (.ireturn, 1) := by decide +kernel
set_option maxRecDepth 20000 in
theorem ggL_isSound_X4_count : GoodIn wsL_isSound wsX4_count := goodIn_r _ [6, 7, 8, 9, 10, 11, 12, 13, 14, 15, 16, 17, 18, 19, 20, 21, 22, 23, 24, 25, 26, 27, 28, 29, 30, 31, 32, 33, 34, 35, 36, 37, 5, 38, 39, 40, 41, 42, 43, 44, 45, 46, 47, 48, 49, 50, 51, 52, 53, 54, 55, 137, 138, 139, 140, 141, 142, 143, 144, 145, 146, 147, 148, 149, 150, 151, 152, 153, 154, 155, 156, 157, 158, 159] (by decide +kernel) (by decide +kernel)
set_option maxRecDepth 20000 in
theorem gL_isSound_X4_count : GoodIn wsL_isSound (wsV RL 8 RX4 yX4_count wsX4_count) := goodIn_app (goodIn_of _ (by decide +kernel)) ggL_isSound_X4_count
set_option maxRecDepth 20000 in
theorem ggL_isSound_X4_atStep : GoodIn wsL_isSound wsX4_atStep := goodIn_r _ [59, 7, 8, 12, 60, 61, 49, 5, 50, 137, 138, 139, 140, 141, 142, 143, 144, 145, 146, 147, 148, 149, 150, 151, 152, 153, 154, 155, 156, 157, 158, 159] (by decide +kernel) (by decide +kernel)
set_option maxRecDepth 20000 in
theorem gL_isSound_X4_atStep : GoodIn wsL_isSound (wsV RL 20 RX4 yX4_atStep wsX4_atStep) := goodIn_app (goodIn_of _ (by decide +kernel)) ggL_isSound_X4_atStep
set_option maxRecDepth 20000 in
theorem ggL_isSound_X4_section : GoodIn wsL_isSound wsX4_section := goodIn_r _ [65, 7, 66, 67, 68, 12, 69, 70, 13, 71, 72, 73, 26, 27, 17, 28, 19, 61, 49, 5, 50, 74, 21, 22, 23, 24, 25, 29, 30, 31, 32, 33, 34, 35, 75, 76, 77, 78, 79, 80, 81, 82, 83, 84, 85, 137, 138, 139, 140, 141, 142, 143, 144, 145, 146, 147, 148, 149, 150, 151, 152, 153, 154, 155, 156, 157, 158, 159] (by decide +kernel) (by decide +kernel)
set_option maxRecDepth 20000 in
theorem gL_isSound_X4_section : GoodIn wsL_isSound (wsV RL 23 RX4 yX4_section wsX4_section) := goodIn_app (goodIn_of _ (by decide +kernel)) ggL_isSound_X4_section
set_option maxRecDepth 20000 in
theorem ggL_isSound_X4_modulus : GoodIn wsL_isSound wsX4_modulus := goodIn_r _ [89, 7, 66, 73, 26, 27, 17, 28, 19, 61, 49, 5, 50, 90, 91, 92, 93, 94, 95, 96, 97, 98, 137, 138, 139, 140, 141, 142, 143, 144, 145, 146, 147, 148, 149, 150, 151, 152] (by decide +kernel) (by decide +kernel)
set_option maxRecDepth 20000 in
theorem gL_isSound_X4_modulus : GoodIn wsL_isSound (wsV RL 26 RX4 yX4_modulus wsX4_modulus) := goodIn_app (goodIn_of _ (by decide +kernel)) ggL_isSound_X4_modulus
set_option maxRecDepth 20000 in
theorem ggL_isSound_L_areNeighbours : GoodIn wsL_isSound wsL_areNeighbours := goodIn_r _ [102, 2, 3, 4, 5, 6, 7, 8, 9, 10, 11, 12, 13, 14, 15, 16, 17, 18, 19, 20, 21, 22, 23, 24, 25, 26, 27, 28, 29, 30, 31, 32, 33, 34, 35, 36, 37, 38, 39, 40, 41, 42, 43, 44, 45, 46, 47, 48, 49, 50, 51, 52, 53, 54, 55, 103, 104, 105, 106, 107, 108, 109, 110, 111, 112, 79, 113, 114, 115, 61, 137, 138, 139, 140, 141, 142, 143, 144, 145, 146, 147, 148, 149, 150, 151, 152, 153, 154, 155, 156, 157, 158, 159] (by decide +kernel) (by decide +kernel)
set_option maxRecDepth 20000 in
theorem gL_isSound_L_areNeighbours : GoodIn wsL_isSound (va_wsS RL 30 yL_areNeighbours wsL_areNeighbours) := goodIn_app (goodIn_of _ (by decide +kernel)) ggL_isSound_L_areNeighbours
set_option maxRecDepth 20000 in
theorem ggL_isSound_X4_way : GoodIn wsL_isSound wsX4_way := goodIn_r _ [119, 7, 12, 72, 73, 26, 27, 17, 28, 19, 61, 49, 5, 50, 137, 138, 139, 140, 141, 142, 153, 154, 155, 156, 157, 158, 159, 143, 144, 145, 146, 147, 148, 149, 150, 151, 152] (by decide +kernel) (by decide +kernel)
set_option maxRecDepth 20000 in
theorem gL_isSound_X4_way : GoodIn wsL_isSound (wsV RL 36 RX4 yX4_way wsX4_way) := goodIn_app (goodIn_of _ (by decide +kernel)) ggL_isSound_X4_way
set_option maxRecDepth 20000 in
theorem ggL_isSound_X4_end : GoodIn wsL_isSound wsX4_end := goodIn_r _ [123, 7, 12, 73, 26, 27, 17, 28, 19, 124, 125, 126, 32, 127, 34, 35, 49, 5, 50, 137, 138, 139, 140, 141, 142, 143, 144, 145, 146, 147, 148, 149, 150, 151, 152, 153, 154, 155, 156, 157, 158, 159] (by decide +kernel) (by decide +kernel)
set_option maxRecDepth 20000 in
theorem gL_isSound_X4_end : GoodIn wsL_isSound (wsV RL 39 RX4 yX4_end wsX4_end) := goodIn_app (goodIn_of _ (by decide +kernel)) ggL_isSound_X4_end
set_option maxRecDepth 20000 in
theorem ggL_isSound_X4_gathers : GoodIn wsL_isSound wsX4_gathers := goodIn_r _ [131, 7, 8, 12, 73, 26, 27, 17, 28, 19, 124, 125, 126, 32, 127, 34, 35, 49, 5, 50, 132, 133, 134, 135, 48, 136, 137, 138, 139, 140, 141, 142, 143, 144, 145, 146, 147, 148, 149, 150, 151, 152, 153, 154, 155, 156, 157, 158, 159] (by decide +kernel) (by decide +kernel)
set_option maxRecDepth 20000 in
theorem gL_isSound_X4_gathers : GoodIn wsL_isSound (wsV RL 42 RX4 yX4_gathers wsX4_gathers) := goodIn_app (goodIn_of _ (by decide +kernel)) ggL_isSound_X4_gathers
theorem dL_isSound_0 : decode cL_isSound 0 = .ok (.aload_n 0, 1) := by decide +kernel
theorem dL_isSound_1 : decode cL_isSound 1 = .ok (.iconst 0, 1) := by decide +kernel
theorem dL_isSound_2 : decode cL_isSound 2 = .ok (.invokevirtual 8, 3) := by decide +kernel
theorem dL_isSound_5 : decode cL_isSound 5 = .ok (.istore_n 1, 1) := by decide +kernel
theorem dL_isSound_6 : decode cL_isSound 6 = .ok (.iconst 0, 1) := by decide +kernel
theorem dL_isSound_7 : decode cL_isSound 7 = .ok (.istore_n 2, 1) := by decide +kernel
theorem dL_isSound_8 : decode cL_isSound 8 = .ok (.iconst 0, 1) := by decide +kernel
theorem dL_isSound_9 : decode cL_isSound 9 = .ok (.istore_n 3, 1) := by decide +kernel
theorem dL_isSound_10 : decode cL_isSound 10 = .ok (.iconst 0, 1) := by decide +kernel
theorem dL_isSound_11 : decode cL_isSound 11 = .ok (.istore 4, 2) := by decide +kernel
theorem dL_isSound_13 : decode cL_isSound 13 = .ok (.iconst 0, 1) := by decide +kernel
theorem dL_isSound_14 : decode cL_isSound 14 = .ok (.istore 5, 2) := by decide +kernel
theorem dL_isSound_16 : decode cL_isSound 16 = .ok (.iconst 0, 1) := by decide +kernel
theorem dL_isSound_17 : decode cL_isSound 17 = .ok (.istore 6, 2) := by decide +kernel
theorem dL_isSound_19 : decode cL_isSound 19 = .ok (.iconst 0, 1) := by decide +kernel
theorem dL_isSound_20 : decode cL_isSound 20 = .ok (.istore 7, 2) := by decide +kernel
theorem dL_isSound_22 : decode cL_isSound 22 = .ok (.ldc2_w 18, 3) := by decide +kernel
theorem dL_isSound_25 : decode cL_isSound 25 = .ok (.lstore 8, 2) := by decide +kernel
theorem dL_isSound_27 : decode cL_isSound 27 = .ok (.lconst 1, 1) := by decide +kernel
theorem dL_isSound_28 : decode cL_isSound 28 = .ok (.lstore 10, 2) := by decide +kernel
theorem dL_isSound_30 : decode cL_isSound 30 = .ok (.iconst (-1), 1) := by decide +kernel
theorem dL_isSound_31 : decode cL_isSound 31 = .ok (.istore 12, 2) := by decide +kernel
theorem dL_isSound_33 : decode cL_isSound 33 = .ok (.iconst 0, 1) := by decide +kernel
theorem dL_isSound_34 : decode cL_isSound 34 = .ok (.istore 13, 2) := by decide +kernel
theorem dL_isSound_36 : decode cL_isSound 36 = .ok (.iload 13, 2) := by decide +kernel
theorem dL_isSound_38 : decode cL_isSound 38 = .ok (.iload_n 1, 1) := by decide +kernel
theorem dL_isSound_39 : decode cL_isSound 39 = .ok (.if_icmp .ge 614, 3) := by decide +kernel
theorem dL_isSound_42 : decode cL_isSound 42 = .ok (.aload_n 0, 1) := by decide +kernel
theorem dL_isSound_43 : decode cL_isSound 43 = .ok (.iload 13, 2) := by decide +kernel
theorem dL_isSound_45 : decode cL_isSound 45 = .ok (.invokevirtual 20, 3) := by decide +kernel
theorem dL_isSound_48 : decode cL_isSound 48 = .ok (.istore 14, 2) := by decide +kernel
theorem dL_isSound_50 : decode cL_isSound 50 = .ok (.iload 14, 2) := by decide +kernel
theorem dL_isSound_52 : decode cL_isSound 52 = .ok (.ifCond .lt 31, 3) := by decide +kernel
theorem dL_isSound_55 : decode cL_isSound 55 = .ok (.iload 14, 2) := by decide +kernel
theorem dL_isSound_57 : decode cL_isSound 57 = .ok (.iload_n 1, 1) := by decide +kernel
theorem dL_isSound_58 : decode cL_isSound 58 = .ok (.if_icmp .ge 25, 3) := by decide +kernel
theorem dL_isSound_61 : decode cL_isSound 61 = .ok (.iload_n 2, 1) := by decide +kernel
theorem dL_isSound_62 : decode cL_isSound 62 = .ok (.iload 14, 2) := by decide +kernel
theorem dL_isSound_64 : decode cL_isSound 64 = .ok (.ishr, 1) := by decide +kernel
theorem dL_isSound_65 : decode cL_isSound 65 = .ok (.iconst 1, 1) := by decide +kernel
theorem dL_isSound_66 : decode cL_isSound 66 = .ok (.iand, 1) := by decide +kernel
theorem dL_isSound_67 : decode cL_isSound 67 = .ok (.iconst 1, 1) := by decide +kernel
theorem dL_isSound_68 : decode cL_isSound 68 = .ok (.if_icmp .eq 15, 3) := by decide +kernel
theorem dL_isSound_71 : decode cL_isSound 71 = .ok (.aload_n 0, 1) := by decide +kernel
theorem dL_isSound_72 : decode cL_isSound 72 = .ok (.iload 14, 2) := by decide +kernel
theorem dL_isSound_74 : decode cL_isSound 74 = .ok (.iconst 4, 1) := by decide +kernel
theorem dL_isSound_75 : decode cL_isSound 75 = .ok (.invokevirtual 23, 3) := by decide +kernel
theorem dL_isSound_78 : decode cL_isSound 78 = .ok (.iload 13, 2) := by decide +kernel
theorem dL_isSound_80 : decode cL_isSound 80 = .ok (.if_icmp .eq 5, 3) := by decide +kernel
theorem dL_isSound_83 : decode cL_isSound 83 = .ok (.iconst 0, 1) := by decide +kernel
theorem dL_isSound_84 : decode cL_isSound 84 = .ok (.ireturn, 1) := by decide +kernel
theorem dL_isSound_85 : decode cL_isSound 85 = .ok (.iload_n 2, 1) := by decide +kernel
theorem dL_isSound_86 : decode cL_isSound 86 = .ok (.iconst 1, 1) := by decide +kernel
theorem dL_isSound_87 : decode cL_isSound 87 = .ok (.iload 14, 2) := by decide +kernel
theorem dL_isSound_89 : decode cL_isSound 89 = .ok (.ishl, 1) := by decide +kernel
theorem dL_isSound_90 : decode cL_isSound 90 = .ok (.ior, 1) := by decide +kernel
theorem dL_isSound_91 : decode cL_isSound 91 = .ok (.istore_n 2, 1) := by decide +kernel
theorem dL_isSound_92 : decode cL_isSound 92 = .ok (.aload_n 0, 1) := by decide +kernel
theorem dL_isSound_93 : decode cL_isSound 93 = .ok (.iload 14, 2) := by decide +kernel
theorem dL_isSound_95 : decode cL_isSound 95 = .ok (.iconst 0, 1) := by decide +kernel
theorem dL_isSound_96 : decode cL_isSound 96 = .ok (.invokevirtual 26, 3) := by decide +kernel
theorem dL_isSound_99 : decode cL_isSound 99 = .ok (.i2l, 1) := by decide +kernel
theorem dL_isSound_100 : decode cL_isSound 100 = .ok (.lstore 15, 2) := by decide +kernel
theorem dL_isSound_102 : decode cL_isSound 102 = .ok (.aload_n 0, 1) := by decide +kernel
theorem dL_isSound_103 : decode cL_isSound 103 = .ok (.iload 14, 2) := by decide +kernel
theorem dL_isSound_105 : decode cL_isSound 105 = .ok (.iconst 1, 1) := by decide +kernel
theorem dL_isSound_106 : decode cL_isSound 106 = .ok (.invokevirtual 26, 3) := by decide +kernel
theorem dL_isSound_109 : decode cL_isSound 109 = .ok (.i2l, 1) := by decide +kernel
theorem dL_isSound_110 : decode cL_isSound 110 = .ok (.lstore 17, 2) := by decide +kernel
theorem dL_isSound_112 : decode cL_isSound 112 = .ok (.lload 15, 2) := by decide +kernel
theorem dL_isSound_114 : decode cL_isSound 114 = .ok (.aload_n 0, 1) := by decide +kernel
theorem dL_isSound_115 : decode cL_isSound 115 = .ok (.iload 14, 2) := by decide +kernel
theorem dL_isSound_117 : decode cL_isSound 117 = .ok (.iconst 1, 1) := by decide +kernel
theorem dL_isSound_118 : decode cL_isSound 118 = .ok (.invokevirtual 23, 3) := by decide +kernel
theorem dL_isSound_121 : decode cL_isSound 121 = .ok (.aload_n 0, 1) := by decide +kernel
theorem dL_isSound_122 : decode cL_isSound 122 = .ok (.iload 14, 2) := by decide +kernel
theorem dL_isSound_124 : decode cL_isSound 124 = .ok (.iconst 2, 1) := by decide +kernel
theorem dL_isSound_125 : decode cL_isSound 125 = .ok (.invokevirtual 23, 3) := by decide +kernel
theorem dL_isSound_128 : decode cL_isSound 128 = .ok (.iadd, 1) := by decide +kernel
theorem dL_isSound_129 : decode cL_isSound 129 = .ok (.i2l, 1) := by decide +kernel
theorem dL_isSound_130 : decode cL_isSound 130 = .ok (.lmul, 1) := by decide +kernel
theorem dL_isSound_131 : decode cL_isSound 131 = .ok (.aload_n 0, 1) := by decide +kernel
theorem dL_isSound_132 : decode cL_isSound 132 = .ok (.iload 14, 2) := by decide +kernel
theorem dL_isSound_134 : decode cL_isSound 134 = .ok (.iconst 0, 1) := by decide +kernel
theorem dL_isSound_135 : decode cL_isSound 135 = .ok (.invokevirtual 23, 3) := by decide +kernel
theorem dL_isSound_138 : decode cL_isSound 138 = .ok (.i2l, 1) := by decide +kernel
theorem dL_isSound_139 : decode cL_isSound 139 = .ok (.lload 17, 2) := by decide +kernel
theorem dL_isSound_141 : decode cL_isSound 141 = .ok (.lmul, 1) := by decide +kernel
theorem dL_isSound_142 : decode cL_isSound 142 = .ok (.lcmp, 1) := by decide +kernel
theorem dL_isSound_143 : decode cL_isSound 143 = .ok (.ifCond .ne 38, 3) := by decide +kernel
theorem dL_isSound_146 : decode cL_isSound 146 = .ok (.lload 8, 2) := by decide +kernel
theorem dL_isSound_148 : decode cL_isSound 148 = .ok (.lload 17, 2) := by decide +kernel
theorem dL_isSound_150 : decode cL_isSound 150 = .ok (.lmul, 1) := by decide +kernel
theorem dL_isSound_151 : decode cL_isSound 151 = .ok (.lload 15, 2) := by decide +kernel
theorem dL_isSound_153 : decode cL_isSound 153 = .ok (.lload 10, 2) := by decide +kernel
theorem dL_isSound_155 : decode cL_isSound 155 = .ok (.lmul, 1) := by decide +kernel
theorem dL_isSound_156 : decode cL_isSound 156 = .ok (.lcmp, 1) := by decide +kernel
theorem dL_isSound_157 : decode cL_isSound 157 = .ok (.ifCond .gt 24, 3) := by decide +kernel
theorem dL_isSound_160 : decode cL_isSound 160 = .ok (.lload 8, 2) := by decide +kernel
theorem dL_isSound_162 : decode cL_isSound 162 = .ok (.lload 17, 2) := by decide +kernel
theorem dL_isSound_164 : decode cL_isSound 164 = .ok (.lmul, 1) := by decide +kernel
theorem dL_isSound_165 : decode cL_isSound 165 = .ok (.lload 15, 2) := by decide +kernel
theorem dL_isSound_167 : decode cL_isSound 167 = .ok (.lload 10, 2) := by decide +kernel
theorem dL_isSound_169 : decode cL_isSound 169 = .ok (.lmul, 1) := by decide +kernel
theorem dL_isSound_170 : decode cL_isSound 170 = .ok (.lcmp, 1) := by decide +kernel
theorem dL_isSound_171 : decode cL_isSound 171 = .ok (.ifCond .ne 12, 3) := by decide +kernel
theorem dL_isSound_174 : decode cL_isSound 174 = .ok (.iload 14, 2) := by decide +kernel
theorem dL_isSound_176 : decode cL_isSound 176 = .ok (.iload 12, 2) := by decide +kernel
theorem dL_isSound_178 : decode cL_isSound 178 = .ok (.if_icmp .ge 5, 3) := by decide +kernel
theorem dL_isSound_181 : decode cL_isSound 181 = .ok (.iconst 0, 1) := by decide +kernel
theorem dL_isSound_182 : decode cL_isSound 182 = .ok (.ireturn, 1) := by decide +kernel
theorem dL_isSound_183 : decode cL_isSound 183 = .ok (.lload 15, 2) := by decide +kernel
theorem dL_isSound_185 : decode cL_isSound 185 = .ok (.lstore 8, 2) := by decide +kernel
theorem dL_isSound_187 : decode cL_isSound 187 = .ok (.lload 17, 2) := by decide +kernel
theorem dL_isSound_189 : decode cL_isSound 189 = .ok (.lstore 10, 2) := by decide +kernel
theorem dL_isSound_191 : decode cL_isSound 191 = .ok (.iload 14, 2) := by decide +kernel
theorem dL_isSound_193 : decode cL_isSound 193 = .ok (.istore 12, 2) := by decide +kernel
theorem dL_isSound_195 : decode cL_isSound 195 = .ok (.aload_n 0, 1) := by decide +kernel
theorem dL_isSound_196 : decode cL_isSound 196 = .ok (.iload 14, 2) := by decide +kernel
theorem dL_isSound_198 : decode cL_isSound 198 = .ok (.iconst 0, 1) := by decide +kernel
theorem dL_isSound_199 : decode cL_isSound 199 = .ok (.invokevirtual 23, 3) := by decide +kernel
theorem dL_isSound_202 : decode cL_isSound 202 = .ok (.aload_n 0, 1) := by decide +kernel
theorem dL_isSound_203 : decode cL_isSound 203 = .ok (.iconst 2, 1) := by decide +kernel
theorem dL_isSound_204 : decode cL_isSound 204 = .ok (.invokevirtual 8, 3) := by decide +kernel
theorem dL_isSound_207 : decode cL_isSound 207 = .ok (.imul, 1) := by decide +kernel
theorem dL_isSound_208 : decode cL_isSound 208 = .ok (.sipush 1000, 3) := by decide +kernel
theorem dL_isSound_211 : decode cL_isSound 211 = .ok (.idiv, 1) := by decide +kernel
theorem dL_isSound_212 : decode cL_isSound 212 = .ok (.istore 19, 2) := by decide +kernel
theorem dL_isSound_214 : decode cL_isSound 214 = .ok (.aload_n 0, 1) := by decide +kernel
theorem dL_isSound_215 : decode cL_isSound 215 = .ok (.iload 14, 2) := by decide +kernel
theorem dL_isSound_217 : decode cL_isSound 217 = .ok (.bipush 8, 2) := by decide +kernel
theorem dL_isSound_219 : decode cL_isSound 219 = .ok (.invokevirtual 23, 3) := by decide +kernel
theorem dL_isSound_222 : decode cL_isSound 222 = .ok (.istore 20, 2) := by decide +kernel
theorem dL_isSound_224 : decode cL_isSound 224 = .ok (.iload 19, 2) := by decide +kernel
theorem dL_isSound_226 : decode cL_isSound 226 = .ok (.istore 21, 2) := by decide +kernel
theorem dL_isSound_228 : decode cL_isSound 228 = .ok (.iconst 0, 1) := by decide +kernel
theorem dL_isSound_229 : decode cL_isSound 229 = .ok (.istore 22, 2) := by decide +kernel
theorem dL_isSound_231 : decode cL_isSound 231 = .ok (.iconst (-1), 1) := by decide +kernel
theorem dL_isSound_232 : decode cL_isSound 232 = .ok (.istore 23, 2) := by decide +kernel
theorem dL_isSound_234 : decode cL_isSound 234 = .ok (.iconst 0, 1) := by decide +kernel
theorem dL_isSound_235 : decode cL_isSound 235 = .ok (.istore 24, 2) := by decide +kernel
theorem dL_isSound_237 : decode cL_isSound 237 = .ok (.iload 24, 2) := by decide +kernel
theorem dL_isSound_239 : decode cL_isSound 239 = .ok (.iload_n 1, 1) := by decide +kernel
theorem dL_isSound_240 : decode cL_isSound 240 = .ok (.if_icmp .ge 111, 3) := by decide +kernel
theorem dL_isSound_243 : decode cL_isSound 243 = .ok (.iload 21, 2) := by decide +kernel
theorem dL_isSound_245 : decode cL_isSound 245 = .ok (.aload_n 0, 1) := by decide +kernel
theorem dL_isSound_246 : decode cL_isSound 246 = .ok (.iload 24, 2) := by decide +kernel
theorem dL_isSound_248 : decode cL_isSound 248 = .ok (.bipush 8, 2) := by decide +kernel
theorem dL_isSound_250 : decode cL_isSound 250 = .ok (.invokevirtual 23, 3) := by decide +kernel
theorem dL_isSound_253 : decode cL_isSound 253 = .ok (.iload 14, 2) := by decide +kernel
theorem dL_isSound_255 : decode cL_isSound 255 = .ok (.if_icmp .ne 13, 3) := by decide +kernel
theorem dL_isSound_258 : decode cL_isSound 258 = .ok (.aload_n 0, 1) := by decide +kernel
theorem dL_isSound_259 : decode cL_isSound 259 = .ok (.iload 24, 2) := by decide +kernel
theorem dL_isSound_261 : decode cL_isSound 261 = .ok (.iconst 5, 1) := by decide +kernel
theorem dL_isSound_262 : decode cL_isSound 262 = .ok (.invokevirtual 23, 3) := by decide +kernel
theorem dL_isSound_265 : decode cL_isSound 265 = .ok (.goto 4, 3) := by decide +kernel
theorem dL_isSound_268 : decode cL_isSound 268 = .ok (.iconst 0, 1) := by decide +kernel
theorem dL_isSound_269 : decode cL_isSound 269 = .ok (.iadd, 1) := by decide +kernel
theorem dL_isSound_270 : decode cL_isSound 270 = .ok (.istore 21, 2) := by decide +kernel
theorem dL_isSound_272 : decode cL_isSound 272 = .ok (.aload_n 0, 1) := by decide +kernel
theorem dL_isSound_273 : decode cL_isSound 273 = .ok (.iload 14, 2) := by decide +kernel
theorem dL_isSound_275 : decode cL_isSound 275 = .ok (.iload 24, 2) := by decide +kernel
theorem dL_isSound_277 : decode cL_isSound 277 = .ok (.invokestatic 30, 3) := by decide +kernel
theorem dL_isSound_280 : decode cL_isSound 280 = .ok (.istore 25, 2) := by decide +kernel
theorem dL_isSound_282 : decode cL_isSound 282 = .ok (.iload 22, 2) := by decide +kernel
theorem dL_isSound_284 : decode cL_isSound 284 = .ok (.iload 25, 2) := by decide +kernel
theorem dL_isSound_286 : decode cL_isSound 286 = .ok (.ifCond .eq 7, 3) := by decide +kernel
theorem dL_isSound_289 : decode cL_isSound 289 = .ok (.iconst 1, 1) := by decide +kernel
theorem dL_isSound_290 : decode cL_isSound 290 = .ok (.goto 4, 3) := by decide +kernel
theorem dL_isSound_293 : decode cL_isSound 293 = .ok (.iconst 0, 1) := by decide +kernel
theorem dL_isSound_294 : decode cL_isSound 294 = .ok (.iadd, 1) := by decide +kernel
theorem dL_isSound_295 : decode cL_isSound 295 = .ok (.istore 22, 2) := by decide +kernel
theorem dL_isSound_297 : decode cL_isSound 297 = .ok (.iload 25, 2) := by decide +kernel
theorem dL_isSound_299 : decode cL_isSound 299 = .ok (.ifCond .eq 42, 3) := by decide +kernel
theorem dL_isSound_302 : decode cL_isSound 302 = .ok (.aload_n 0, 1) := by decide +kernel
theorem dL_isSound_303 : decode cL_isSound 303 = .ok (.iload 24, 2) := by decide +kernel
theorem dL_isSound_305 : decode cL_isSound 305 = .ok (.iconst 4, 1) := by decide +kernel
theorem dL_isSound_306 : decode cL_isSound 306 = .ok (.invokevirtual 23, 3) := by decide +kernel
theorem dL_isSound_309 : decode cL_isSound 309 = .ok (.iload 13, 2) := by decide +kernel
theorem dL_isSound_311 : decode cL_isSound 311 = .ok (.if_icmp .le 30, 3) := by decide +kernel
theorem dL_isSound_314 : decode cL_isSound 314 = .ok (.iload 23, 2) := by decide +kernel
theorem dL_isSound_316 : decode cL_isSound 316 = .ok (.ifCond .lt 20, 3) := by decide +kernel
theorem dL_isSound_319 : decode cL_isSound 319 = .ok (.aload_n 0, 1) := by decide +kernel
theorem dL_isSound_320 : decode cL_isSound 320 = .ok (.iload 24, 2) := by decide +kernel
theorem dL_isSound_322 : decode cL_isSound 322 = .ok (.iconst 4, 1) := by decide +kernel
theorem dL_isSound_323 : decode cL_isSound 323 = .ok (.invokevirtual 23, 3) := by decide +kernel
theorem dL_isSound_326 : decode cL_isSound 326 = .ok (.aload_n 0, 1) := by decide +kernel
theorem dL_isSound_327 : decode cL_isSound 327 = .ok (.iload 23, 2) := by decide +kernel
theorem dL_isSound_329 : decode cL_isSound 329 = .ok (.iconst 4, 1) := by decide +kernel
theorem dL_isSound_330 : decode cL_isSound 330 = .ok (.invokevirtual 23, 3) := by decide +kernel
theorem dL_isSound_333 : decode cL_isSound 333 = .ok (.if_icmp .le 8, 3) := by decide +kernel
theorem dL_isSound_336 : decode cL_isSound 336 = .ok (.iload 24, 2) := by decide +kernel
theorem dL_isSound_338 : decode cL_isSound 338 = .ok (.goto 5, 3) := by decide +kernel
theorem dL_isSound_341 : decode cL_isSound 341 = .ok (.iload 23, 2) := by decide +kernel
theorem dL_isSound_343 : decode cL_isSound 343 = .ok (.istore 23, 2) := by decide +kernel
theorem dL_isSound_345 : decode cL_isSound 345 = .ok (.iinc 24 1, 3) := by decide +kernel
theorem dL_isSound_348 : decode cL_isSound 348 = .ok (.goto (-111), 3) := by decide +kernel
theorem dL_isSound_351 : decode cL_isSound 351 = .ok (.iload 20, 2) := by decide +kernel
theorem dL_isSound_353 : decode cL_isSound 353 = .ok (.iload 23, 2) := by decide +kernel
theorem dL_isSound_355 : decode cL_isSound 355 = .ok (.if_icmp .ne 50, 3) := by decide +kernel
theorem dL_isSound_358 : decode cL_isSound 358 = .ok (.iload 21, 2) := by decide +kernel
theorem dL_isSound_360 : decode cL_isSound 360 = .ok (.aload_n 0, 1) := by decide +kernel
theorem dL_isSound_361 : decode cL_isSound 361 = .ok (.iload 14, 2) := by decide +kernel
theorem dL_isSound_363 : decode cL_isSound 363 = .ok (.iconst 5, 1) := by decide +kernel
theorem dL_isSound_364 : decode cL_isSound 364 = .ok (.invokevirtual 23, 3) := by decide +kernel
theorem dL_isSound_367 : decode cL_isSound 367 = .ok (.if_icmp .ne 38, 3) := by decide +kernel
theorem dL_isSound_370 : decode cL_isSound 370 = .ok (.iload 22, 2) := by decide +kernel
theorem dL_isSound_372 : decode cL_isSound 372 = .ok (.aload_n 0, 1) := by decide +kernel
theorem dL_isSound_373 : decode cL_isSound 373 = .ok (.iload 14, 2) := by decide +kernel
theorem dL_isSound_375 : decode cL_isSound 375 = .ok (.bipush 10, 2) := by decide +kernel
theorem dL_isSound_377 : decode cL_isSound 377 = .ok (.invokevirtual 23, 3) := by decide +kernel
theorem dL_isSound_380 : decode cL_isSound 380 = .ok (.if_icmp .ne 25, 3) := by decide +kernel
theorem dL_isSound_383 : decode cL_isSound 383 = .ok (.aload_n 0, 1) := by decide +kernel
theorem dL_isSound_384 : decode cL_isSound 384 = .ok (.iload 14, 2) := by decide +kernel
theorem dL_isSound_386 : decode cL_isSound 386 = .ok (.bipush 6, 2) := by decide +kernel
theorem dL_isSound_388 : decode cL_isSound 388 = .ok (.invokevirtual 23, 3) := by decide +kernel
theorem dL_isSound_391 : decode cL_isSound 391 = .ok (.iload 20, 2) := by decide +kernel
theorem dL_isSound_393 : decode cL_isSound 393 = .ok (.ifCond .ge 8, 3) := by decide +kernel
theorem dL_isSound_396 : decode cL_isSound 396 = .ok (.iload 21, 2) := by decide +kernel
theorem dL_isSound_398 : decode cL_isSound 398 = .ok (.goto 4, 3) := by decide +kernel
theorem dL_isSound_401 : decode cL_isSound 401 = .ok (.iconst 0, 1) := by decide +kernel
theorem dL_isSound_402 : decode cL_isSound 402 = .ok (.if_icmp .eq 5, 3) := by decide +kernel
theorem dL_isSound_405 : decode cL_isSound 405 = .ok (.iconst 0, 1) := by decide +kernel
theorem dL_isSound_406 : decode cL_isSound 406 = .ok (.ireturn, 1) := by decide +kernel
theorem dL_isSound_407 : decode cL_isSound 407 = .ok (.aload_n 0, 1) := by decide +kernel
theorem dL_isSound_408 : decode cL_isSound 408 = .ok (.iload 14, 2) := by decide +kernel
theorem dL_isSound_410 : decode cL_isSound 410 = .ok (.iconst 3, 1) := by decide +kernel
theorem dL_isSound_411 : decode cL_isSound 411 = .ok (.invokevirtual 23, 3) := by decide +kernel
theorem dL_isSound_414 : decode cL_isSound 414 = .ok (.iconst 1, 1) := by decide +kernel
theorem dL_isSound_415 : decode cL_isSound 415 = .ok (.if_icmp .ne 23, 3) := by decide +kernel
theorem dL_isSound_418 : decode cL_isSound 418 = .ok (.aload_n 0, 1) := by decide +kernel
theorem dL_isSound_419 : decode cL_isSound 419 = .ok (.iload 14, 2) := by decide +kernel
theorem dL_isSound_421 : decode cL_isSound 421 = .ok (.iconst 0, 1) := by decide +kernel
theorem dL_isSound_422 : decode cL_isSound 422 = .ok (.invokevirtual 23, 3) := by decide +kernel
theorem dL_isSound_425 : decode cL_isSound 425 = .ok (.aload_n 0, 1) := by decide +kernel
theorem dL_isSound_426 : decode cL_isSound 426 = .ok (.iconst 3, 1) := by decide +kernel
theorem dL_isSound_427 : decode cL_isSound 427 = .ok (.invokevirtual 8, 3) := by decide +kernel
theorem dL_isSound_430 : decode cL_isSound 430 = .ok (.imul, 1) := by decide +kernel
theorem dL_isSound_431 : decode cL_isSound 431 = .ok (.sipush 1000, 3) := by decide +kernel
theorem dL_isSound_434 : decode cL_isSound 434 = .ok (.idiv, 1) := by decide +kernel
theorem dL_isSound_435 : decode cL_isSound 435 = .ok (.goto 4, 3) := by decide +kernel
theorem dL_isSound_438 : decode cL_isSound 438 = .ok (.iconst 0, 1) := by decide +kernel
theorem dL_isSound_439 : decode cL_isSound 439 = .ok (.istore 24, 2) := by decide +kernel
theorem dL_isSound_441 : decode cL_isSound 441 = .ok (.aload_n 0, 1) := by decide +kernel
theorem dL_isSound_442 : decode cL_isSound 442 = .ok (.iload 14, 2) := by decide +kernel
theorem dL_isSound_444 : decode cL_isSound 444 = .ok (.bipush 6, 2) := by decide +kernel
theorem dL_isSound_446 : decode cL_isSound 446 = .ok (.invokevirtual 23, 3) := by decide +kernel
theorem dL_isSound_449 : decode cL_isSound 449 = .ok (.iload 24, 2) := by decide +kernel
theorem dL_isSound_451 : decode cL_isSound 451 = .ok (.isub, 1) := by decide +kernel
theorem dL_isSound_452 : decode cL_isSound 452 = .ok (.istore 25, 2) := by decide +kernel
theorem dL_isSound_454 : decode cL_isSound 454 = .ok (.aload_n 0, 1) := by decide +kernel
theorem dL_isSound_455 : decode cL_isSound 455 = .ok (.iload 14, 2) := by decide +kernel
theorem dL_isSound_457 : decode cL_isSound 457 = .ok (.bipush 7, 2) := by decide +kernel
theorem dL_isSound_459 : decode cL_isSound 459 = .ok (.invokevirtual 23, 3) := by decide +kernel
theorem dL_isSound_462 : decode cL_isSound 462 = .ok (.iload 25, 2) := by decide +kernel
theorem dL_isSound_464 : decode cL_isSound 464 = .ok (.ifCond .le 8, 3) := by decide +kernel
theorem dL_isSound_467 : decode cL_isSound 467 = .ok (.iload 25, 2) := by decide +kernel
theorem dL_isSound_469 : decode cL_isSound 469 = .ok (.goto 4, 3) := by decide +kernel
theorem dL_isSound_472 : decode cL_isSound 472 = .ok (.iconst 0, 1) := by decide +kernel
theorem dL_isSound_473 : decode cL_isSound 473 = .ok (.if_icmp .eq 5, 3) := by decide +kernel
theorem dL_isSound_476 : decode cL_isSound 476 = .ok (.iconst 0, 1) := by decide +kernel
theorem dL_isSound_477 : decode cL_isSound 477 = .ok (.ireturn, 1) := by decide +kernel
theorem dL_isSound_478 : decode cL_isSound 478 = .ok (.iconst 0, 1) := by decide +kernel
theorem dL_isSound_479 : decode cL_isSound 479 = .ok (.istore 26, 2) := by decide +kernel
theorem dL_isSound_481 : decode cL_isSound 481 = .ok (.iload 14, 2) := by decide +kernel
theorem dL_isSound_483 : decode cL_isSound 483 = .ok (.istore 27, 2) := by decide +kernel
theorem dL_isSound_485 : decode cL_isSound 485 = .ok (.aload_n 0, 1) := by decide +kernel
theorem dL_isSound_486 : decode cL_isSound 486 = .ok (.iload 27, 2) := by decide +kernel
theorem dL_isSound_488 : decode cL_isSound 488 = .ok (.bipush 8, 2) := by decide +kernel
theorem dL_isSound_490 : decode cL_isSound 490 = .ok (.invokevirtual 23, 3) := by decide +kernel
theorem dL_isSound_493 : decode cL_isSound 493 = .ok (.ifCond .lt 40, 3) := by decide +kernel
theorem dL_isSound_496 : decode cL_isSound 496 = .ok (.aload_n 0, 1) := by decide +kernel
theorem dL_isSound_497 : decode cL_isSound 497 = .ok (.iload 14, 2) := by decide +kernel
theorem dL_isSound_499 : decode cL_isSound 499 = .ok (.iload 26, 2) := by decide +kernel
theorem dL_isSound_501 : decode cL_isSound 501 = .ok (.invokevirtual 36, 3) := by decide +kernel
theorem dL_isSound_504 : decode cL_isSound 504 = .ok (.iload 27, 2) := by decide +kernel
theorem dL_isSound_506 : decode cL_isSound 506 = .ok (.if_icmp .ne 9, 3) := by decide +kernel
theorem dL_isSound_509 : decode cL_isSound 509 = .ok (.iload 26, 2) := by decide +kernel
theorem dL_isSound_511 : decode cL_isSound 511 = .ok (.iload_n 1, 1) := by decide +kernel
theorem dL_isSound_512 : decode cL_isSound 512 = .ok (.if_icmp .le 5, 3) := by decide +kernel
theorem dL_isSound_515 : decode cL_isSound 515 = .ok (.iconst 0, 1) := by decide +kernel
theorem dL_isSound_516 : decode cL_isSound 516 = .ok (.ireturn, 1) := by decide +kernel
theorem dL_isSound_517 : decode cL_isSound 517 = .ok (.aload_n 0, 1) := by decide +kernel
theorem dL_isSound_518 : decode cL_isSound 518 = .ok (.iload 27, 2) := by decide +kernel
theorem dL_isSound_520 : decode cL_isSound 520 = .ok (.bipush 8, 2) := by decide +kernel
theorem dL_isSound_522 : decode cL_isSound 522 = .ok (.invokevirtual 23, 3) := by decide +kernel
theorem dL_isSound_525 : decode cL_isSound 525 = .ok (.istore 27, 2) := by decide +kernel
theorem dL_isSound_527 : decode cL_isSound 527 = .ok (.iinc 26 1, 3) := by decide +kernel
theorem dL_isSound_530 : decode cL_isSound 530 = .ok (.goto (-45), 3) := by decide +kernel
theorem dL_isSound_533 : decode cL_isSound 533 = .ok (.aload_n 0, 1) := by decide +kernel
theorem dL_isSound_534 : decode cL_isSound 534 = .ok (.iload 14, 2) := by decide +kernel
theorem dL_isSound_536 : decode cL_isSound 536 = .ok (.iload 26, 2) := by decide +kernel
theorem dL_isSound_538 : decode cL_isSound 538 = .ok (.invokevirtual 36, 3) := by decide +kernel
theorem dL_isSound_541 : decode cL_isSound 541 = .ok (.iload 27, 2) := by decide +kernel
theorem dL_isSound_543 : decode cL_isSound 543 = .ok (.if_icmp .ne 45, 3) := by decide +kernel
theorem dL_isSound_546 : decode cL_isSound 546 = .ok (.aload_n 0, 1) := by decide +kernel
theorem dL_isSound_547 : decode cL_isSound 547 = .ok (.iload 14, 2) := by decide +kernel
theorem dL_isSound_549 : decode cL_isSound 549 = .ok (.iload 26, 2) := by decide +kernel
theorem dL_isSound_551 : decode cL_isSound 551 = .ok (.iconst 1, 1) := by decide +kernel
theorem dL_isSound_552 : decode cL_isSound 552 = .ok (.iadd, 1) := by decide +kernel
theorem dL_isSound_553 : decode cL_isSound 553 = .ok (.invokevirtual 36, 3) := by decide +kernel
theorem dL_isSound_556 : decode cL_isSound 556 = .ok (.iconst (-1), 1) := by decide +kernel
theorem dL_isSound_557 : decode cL_isSound 557 = .ok (.if_icmp .ne 31, 3) := by decide +kernel
theorem dL_isSound_560 : decode cL_isSound 560 = .ok (.aload_n 0, 1) := by decide +kernel
theorem dL_isSound_561 : decode cL_isSound 561 = .ok (.iload 14, 2) := by decide +kernel
theorem dL_isSound_563 : decode cL_isSound 563 = .ok (.invokevirtual 39, 3) := by decide +kernel
theorem dL_isSound_566 : decode cL_isSound 566 = .ok (.iload 27, 2) := by decide +kernel
theorem dL_isSound_568 : decode cL_isSound 568 = .ok (.if_icmp .ne 20, 3) := by decide +kernel
theorem dL_isSound_571 : decode cL_isSound 571 = .ok (.aload_n 0, 1) := by decide +kernel
theorem dL_isSound_572 : decode cL_isSound 572 = .ok (.iload 14, 2) := by decide +kernel
theorem dL_isSound_574 : decode cL_isSound 574 = .ok (.invokevirtual 42, 3) := by decide +kernel
theorem dL_isSound_577 : decode cL_isSound 577 = .ok (.aload_n 0, 1) := by decide +kernel
theorem dL_isSound_578 : decode cL_isSound 578 = .ok (.iload 14, 2) := by decide +kernel
theorem dL_isSound_580 : decode cL_isSound 580 = .ok (.bipush 6, 2) := by decide +kernel
theorem dL_isSound_582 : decode cL_isSound 582 = .ok (.invokevirtual 23, 3) := by decide +kernel
theorem dL_isSound_585 : decode cL_isSound 585 = .ok (.if_icmp .eq 5, 3) := by decide +kernel
theorem dL_isSound_588 : decode cL_isSound 588 = .ok (.iconst 0, 1) := by decide +kernel
theorem dL_isSound_589 : decode cL_isSound 589 = .ok (.ireturn, 1) := by decide +kernel
theorem dL_isSound_590 : decode cL_isSound 590 = .ok (.iload_n 3, 1) := by decide +kernel
theorem dL_isSound_591 : decode cL_isSound 591 = .ok (.aload_n 0, 1) := by decide +kernel
theorem dL_isSound_592 : decode cL_isSound 592 = .ok (.iload 14, 2) := by decide +kernel
theorem dL_isSound_594 : decode cL_isSound 594 = .ok (.bipush 6, 2) := by decide +kernel
theorem dL_isSound_596 : decode cL_isSound 596 = .ok (.invokevirtual 23, 3) := by decide +kernel
theorem dL_isSound_599 : decode cL_isSound 599 = .ok (.iadd, 1) := by decide +kernel
theorem dL_isSound_600 : decode cL_isSound 600 = .ok (.istore_n 3, 1) := by decide +kernel
theorem dL_isSound_601 : decode cL_isSound 601 = .ok (.iload 5, 2) := by decide +kernel
theorem dL_isSound_603 : decode cL_isSound 603 = .ok (.aload_n 0, 1) := by decide +kernel
theorem dL_isSound_604 : decode cL_isSound 604 = .ok (.iload 14, 2) := by decide +kernel
theorem dL_isSound_606 : decode cL_isSound 606 = .ok (.bipush 7, 2) := by decide +kernel
theorem dL_isSound_608 : decode cL_isSound 608 = .ok (.invokevirtual 23, 3) := by decide +kernel
theorem dL_isSound_611 : decode cL_isSound 611 = .ok (.iadd, 1) := by decide +kernel
theorem dL_isSound_612 : decode cL_isSound 612 = .ok (.istore 5, 2) := by decide +kernel
theorem dL_isSound_614 : decode cL_isSound 614 = .ok (.iload 4, 2) := by decide +kernel
theorem dL_isSound_616 : decode cL_isSound 616 = .ok (.iload 19, 2) := by decide +kernel
theorem dL_isSound_618 : decode cL_isSound 618 = .ok (.iadd, 1) := by decide +kernel
theorem dL_isSound_619 : decode cL_isSound 619 = .ok (.istore 4, 2) := by decide +kernel
theorem dL_isSound_621 : decode cL_isSound 621 = .ok (.iload 6, 2) := by decide +kernel
theorem dL_isSound_623 : decode cL_isSound 623 = .ok (.iload 20, 2) := by decide +kernel
theorem dL_isSound_625 : decode cL_isSound 625 = .ok (.ifCond .ge 7, 3) := by decide +kernel
theorem dL_isSound_628 : decode cL_isSound 628 = .ok (.iconst 1, 1) := by decide +kernel
theorem dL_isSound_629 : decode cL_isSound 629 = .ok (.goto 4, 3) := by decide +kernel
theorem dL_isSound_632 : decode cL_isSound 632 = .ok (.iconst 0, 1) := by decide +kernel
theorem dL_isSound_633 : decode cL_isSound 633 = .ok (.iadd, 1) := by decide +kernel
theorem dL_isSound_634 : decode cL_isSound 634 = .ok (.istore 6, 2) := by decide +kernel
theorem dL_isSound_636 : decode cL_isSound 636 = .ok (.iload 7, 2) := by decide +kernel
theorem dL_isSound_638 : decode cL_isSound 638 = .ok (.aload_n 0, 1) := by decide +kernel
theorem dL_isSound_639 : decode cL_isSound 639 = .ok (.iload 14, 2) := by decide +kernel
theorem dL_isSound_641 : decode cL_isSound 641 = .ok (.invokevirtual 42, 3) := by decide +kernel
theorem dL_isSound_644 : decode cL_isSound 644 = .ok (.iadd, 1) := by decide +kernel
theorem dL_isSound_645 : decode cL_isSound 645 = .ok (.istore 7, 2) := by decide +kernel
theorem dL_isSound_647 : decode cL_isSound 647 = .ok (.iinc 13 1, 3) := by decide +kernel
theorem dL_isSound_650 : decode cL_isSound 650 = .ok (.goto (-614), 3) := by decide +kernel
theorem dL_isSound_653 : decode cL_isSound 653 = .ok (.iload_n 3, 1) := by decide +kernel
theorem dL_isSound_654 : decode cL_isSound 654 = .ok (.iload 4, 2) := by decide +kernel
theorem dL_isSound_656 : decode cL_isSound 656 = .ok (.if_icmp .ne 73, 3) := by decide +kernel
theorem dL_isSound_659 : decode cL_isSound 659 = .ok (.iload 7, 2) := by decide +kernel
theorem dL_isSound_661 : decode cL_isSound 661 = .ok (.iload 4, 2) := by decide +kernel
theorem dL_isSound_663 : decode cL_isSound 663 = .ok (.if_icmp .ne 66, 3) := by decide +kernel
theorem dL_isSound_666 : decode cL_isSound 666 = .ok (.aload_n 0, 1) := by decide +kernel
theorem dL_isSound_667 : decode cL_isSound 667 = .ok (.iconst 5, 1) := by decide +kernel
theorem dL_isSound_668 : decode cL_isSound 668 = .ok (.invokevirtual 8, 3) := by decide +kernel
theorem dL_isSound_671 : decode cL_isSound 671 = .ok (.iload 6, 2) := by decide +kernel
theorem dL_isSound_673 : decode cL_isSound 673 = .ok (.if_icmp .ne 56, 3) := by decide +kernel
theorem dL_isSound_676 : decode cL_isSound 676 = .ok (.aload_n 0, 1) := by decide +kernel
theorem dL_isSound_677 : decode cL_isSound 677 = .ok (.bipush 6, 2) := by decide +kernel
theorem dL_isSound_679 : decode cL_isSound 679 = .ok (.invokevirtual 8, 3) := by decide +kernel
theorem dL_isSound_682 : decode cL_isSound 682 = .ok (.iload_n 3, 1) := by decide +kernel
theorem dL_isSound_683 : decode cL_isSound 683 = .ok (.if_icmp .ne 46, 3) := by decide +kernel
theorem dL_isSound_686 : decode cL_isSound 686 = .ok (.aload_n 0, 1) := by decide +kernel
theorem dL_isSound_687 : decode cL_isSound 687 = .ok (.bipush 7, 2) := by decide +kernel
theorem dL_isSound_689 : decode cL_isSound 689 = .ok (.invokevirtual 8, 3) := by decide +kernel
theorem dL_isSound_692 : decode cL_isSound 692 = .ok (.iload 5, 2) := by decide +kernel
theorem dL_isSound_694 : decode cL_isSound 694 = .ok (.if_icmp .ne 35, 3) := by decide +kernel
theorem dL_isSound_697 : decode cL_isSound 697 = .ok (.aload_n 0, 1) := by decide +kernel
theorem dL_isSound_698 : decode cL_isSound 698 = .ok (.bipush 9, 2) := by decide +kernel
theorem dL_isSound_700 : decode cL_isSound 700 = .ok (.invokevirtual 8, 3) := by decide +kernel
theorem dL_isSound_703 : decode cL_isSound 703 = .ok (.iload 5, 2) := by decide +kernel
theorem dL_isSound_705 : decode cL_isSound 705 = .ok (.ifCond .ne 7, 3) := by decide +kernel
theorem dL_isSound_708 : decode cL_isSound 708 = .ok (.iconst 1, 1) := by decide +kernel
theorem dL_isSound_709 : decode cL_isSound 709 = .ok (.goto 4, 3) := by decide +kernel
theorem dL_isSound_712 : decode cL_isSound 712 = .ok (.iconst 0, 1) := by decide +kernel
theorem dL_isSound_713 : decode cL_isSound 713 = .ok (.if_icmp .ne 16, 3) := by decide +kernel
theorem dL_isSound_716 : decode cL_isSound 716 = .ok (.aload_n 0, 1) := by decide +kernel
theorem dL_isSound_717 : decode cL_isSound 717 = .ok (.iload_n 1, 1) := by decide +kernel
theorem dL_isSound_718 : decode cL_isSound 718 = .ok (.invokevirtual 20, 3) := by decide +kernel
theorem dL_isSound_721 : decode cL_isSound 721 = .ok (.iconst (-1), 1) := by decide +kernel
theorem dL_isSound_722 : decode cL_isSound 722 = .ok (.if_icmp .ne 7, 3) := by decide +kernel
theorem dL_isSound_725 : decode cL_isSound 725 = .ok (.iconst 1, 1) := by decide +kernel
theorem dL_isSound_726 : decode cL_isSound 726 = .ok (.goto 4, 3) := by decide +kernel
theorem dL_isSound_729 : decode cL_isSound 729 = .ok (.iconst 0, 1) := by decide +kernel
theorem dL_isSound_730 : decode cL_isSound 730 = .ok (.ireturn, 1) := by decide +kernel
set_option maxRecDepth 20000 in
theorem ggL_isLeast_X4_digest : GoodIn wsL_isLeast wsX4_digest := goodIn_r _ [5, 6, 7, 8, 9, 10, 11, 12, 13, 4, 14, 15, 16, 17, 18, 19, 20, 21, 22, 23, 24, 25, 26, 27, 28, 29, 30, 31, 32, 33, 34, 35, 36, 37, 38, 39, 40, 41, 42, 43, 44, 45, 46, 47, 48, 49, 50, 51, 52, 53, 54, 55, 56, 57, 58, 59, 60, 61, 62, 63, 64, 65, 66, 67, 68, 69, 70, 71, 72, 73, 74, 75, 76, 77, 78, 79, 80, 81, 82, 83, 84, 85, 86, 87, 88, 89, 90, 91, 92, 93, 94, 95, 96, 97, 98, 255, 256, 257, 258, 259, 260, 261, 262, 263, 264, 265, 266, 267, 268, 269, 270, 271, 272, 273, 274, 275, 276, 277] (by decide +kernel) (by decide +kernel)
set_option maxRecDepth 20000 in
theorem gL_isLeast_X4_digest : GoodIn wsL_isLeast (wsV RL 45 RX4 yX4_digest wsX4_digest) := goodIn_app (goodIn_of _ (by decide +kernel)) ggL_isLeast_X4_digest
set_option maxRecDepth 20000 in
theorem ggL_isLeast_X4_count : GoodIn wsL_isLeast wsX4_count := goodIn_r _ [14, 8, 9, 10, 15, 16, 17, 18, 19, 20, 21, 22, 23, 24, 25, 26, 27, 28, 29, 30, 31, 32, 33, 34, 35, 36, 37, 38, 39, 40, 41, 42, 4, 43, 44, 45, 46, 47, 48, 49, 50, 51, 52, 53, 54, 55, 56, 57, 58, 59, 60, 255, 256, 257, 258, 259, 260, 261, 262, 263, 264, 265, 266, 267, 268, 269, 270, 271, 272, 273, 274, 275, 276, 277] (by decide +kernel) (by decide +kernel)
set_option maxRecDepth 20000 in
theorem gL_isLeast_X4_count : GoodIn wsL_isLeast (wsV RL 8 RX4 yX4_count wsX4_count) := goodIn_app (goodIn_of _ (by decide +kernel)) ggL_isLeast_X4_count
set_option maxRecDepth 20000 in
theorem ggL_isLeast_X4_leastFeeder : GoodIn wsL_isLeast wsX4_leastFeeder := goodIn_r _ [103, 8, 72, 31, 32, 22, 33, 24, 104, 105, 106, 4, 107, 108, 109, 110, 111, 112, 113, 114, 115, 79, 116, 117, 118, 119, 120, 121, 122, 123, 124, 125, 126, 127, 53, 128, 129, 29, 84, 85, 130, 131, 132, 133, 134, 135, 136, 137, 138, 139, 140, 37, 141, 142, 143, 144, 145, 146, 39, 147, 148, 149, 150, 151, 152, 54, 55, 153, 154, 155, 156, 157, 158, 159, 160, 161, 162, 40, 163, 164, 165, 166, 167, 168, 169, 170, 171, 172, 173, 174, 175, 176, 177, 178, 179, 180, 181, 182, 183, 48, 184, 185, 186, 187, 188, 189, 190, 25, 26, 27, 28, 30, 56, 57, 58, 59, 60, 45, 46, 47, 42, 43, 255, 256, 257, 258, 259, 260, 261, 262, 263, 264, 265, 266, 267, 268, 269, 270, 271, 272, 273, 274, 275, 276, 277] (by decide +kernel) (by decide +kernel)
set_option maxRecDepth 20000 in
theorem gL_isLeast_X4_leastFeeder : GoodIn wsL_isLeast (wsV RL 49 RX4 yX4_leastFeeder wsX4_leastFeeder) := goodIn_app (goodIn_of _ (by decide +kernel)) ggL_isLeast_X4_leastFeeder
set_option maxRecDepth 20000 in
theorem ggL_isLeast_X4_bestFeeder : GoodIn wsL_isLeast wsX4_bestFeeder := goodIn_r _ [194, 8, 9, 104, 105, 106, 4, 107, 108, 109, 110, 22, 111, 24, 112, 113, 114, 115, 79, 116, 117, 118, 119, 120, 121, 122, 123, 124, 125, 126, 127, 53, 128, 129, 29, 84, 85, 130, 131, 132, 133, 134, 135, 136, 137, 138, 139, 140, 37, 141, 142, 143, 144, 145, 146, 39, 147, 148, 149, 150, 151, 152, 54, 55, 153, 154, 155, 156, 157, 158, 159, 160, 161, 162, 40, 163, 164, 165, 166, 167, 168, 169, 170, 171, 172, 173, 174, 175, 176, 177, 178, 179, 180, 181, 182, 183, 48, 184, 185, 186, 187, 188, 189, 190, 25, 26, 27, 28, 30, 31, 32, 33, 56, 57, 58, 59, 60, 45, 46, 47, 42, 43, 255, 256, 257, 258, 259, 260, 261, 262, 263, 264, 265, 266, 267, 268, 269, 270, 271, 272, 273, 274, 275, 276, 277] (by decide +kernel) (by decide +kernel)
set_option maxRecDepth 20000 in
theorem gL_isLeast_X4_bestFeeder : GoodIn wsL_isLeast (wsV RL 52 RX4 yX4_bestFeeder wsX4_bestFeeder) := goodIn_app (goodIn_of _ (by decide +kernel)) ggL_isLeast_X4_bestFeeder
set_option maxRecDepth 20000 in
theorem ggL_isLeast_X4_addSection : GoodIn wsL_isLeast wsX4_addSection := goodIn_r _ [198, 8, 199, 17, 200, 201, 4, 202, 96, 97, 98, 108, 109, 110, 22, 111, 24, 203, 204, 205, 206, 207, 208, 209, 210, 211, 212, 213, 214, 215, 216, 217, 218, 123, 124, 125, 79, 126, 127, 53, 128, 129, 29, 84, 85, 130, 131, 132, 133, 138, 139, 140, 37, 141, 142, 143, 144, 145, 146, 39, 147, 148, 149, 150, 151, 152, 54, 55, 153, 154, 155, 156, 157, 158, 159, 160, 161, 162, 40, 163, 164, 165, 166, 167, 168, 169, 170, 171, 172, 173, 174, 175, 176, 177, 178, 179, 180, 181, 182, 183, 48, 184, 185, 186, 187, 188, 189, 190, 25, 26, 27, 28, 30, 31, 32, 33, 255, 256, 257, 258, 259, 260, 261, 262, 263, 264, 265, 266, 267, 268, 269, 270, 278, 279, 271, 272, 273, 274, 275, 276, 277] (by decide +kernel) (by decide +kernel)
set_option maxRecDepth 20000 in
theorem gL_isLeast_X4_addSection : GoodIn wsL_isLeast (wsV RL 56 RX4 yX4_addSection wsX4_addSection) := goodIn_app (goodIn_of _ (by decide +kernel)) ggL_isLeast_X4_addSection
set_option maxRecDepth 20000 in
theorem ggL_isLeast_X4_join : GoodIn wsL_isLeast wsX4_join := goodIn_r _ [222, 8, 199, 17, 72, 31, 32, 22, 33, 24, 223, 224, 225, 226, 79, 80, 81, 82, 83, 84, 85, 54, 4, 55, 112, 113, 114, 115, 203, 204, 205, 206, 207, 208, 209, 210, 211, 212, 213, 214, 215, 216, 217, 218, 123, 124, 125, 126, 127, 53, 128, 129, 29, 134, 135, 136, 137, 138, 139, 140, 37, 141, 142, 143, 144, 145, 146, 39, 147, 148, 149, 150, 151, 152, 153, 154, 155, 156, 157, 158, 159, 160, 161, 162, 40, 163, 164, 165, 166, 167, 168, 169, 170, 171, 172, 173, 174, 175, 176, 177, 178, 179, 180, 181, 182, 183, 48, 184, 185, 186, 187, 188, 189, 190, 25, 26, 27, 28, 30, 255, 256, 257, 258, 259, 260, 261, 262, 263, 264, 265, 266, 267, 268, 269, 270, 278, 279, 271, 272, 273, 274, 275, 276, 277] (by decide +kernel) (by decide +kernel)
set_option maxRecDepth 20000 in
theorem gL_isLeast_X4_join : GoodIn wsL_isLeast (wsV RL 60 RX4 yX4_join wsX4_join) := goodIn_app (goodIn_of _ (by decide +kernel)) ggL_isLeast_X4_join
set_option maxRecDepth 20000 in
theorem ggL_isLeast_X4_undo : GoodIn wsL_isLeast wsX4_undo := goodIn_r _ [230, 199, 8, 17, 231, 232, 233, 234, 206, 235, 208, 236, 237, 238, 239, 214, 215, 216, 217, 209, 218, 123, 124, 22, 125, 24, 79, 126, 127, 53, 128, 129, 29, 84, 85, 138, 139, 140, 37, 141, 142, 143, 144, 145, 146, 39, 147, 148, 149, 150, 151, 152, 54, 4, 55, 153, 154, 155, 156, 157, 158, 159, 160, 161, 162, 40, 163, 164, 165, 166, 167, 168, 169, 170, 171, 172, 173, 174, 175, 176, 177, 178, 179, 180, 181, 182, 183, 48, 184, 185, 186, 187, 188, 189, 190, 25, 26, 27, 28, 30, 31, 32, 33, 255, 256, 257, 258, 259, 260, 278, 279, 261, 262, 263, 264, 265, 266, 267, 268, 269, 270, 271, 272, 273, 274, 275, 276, 277] (by decide +kernel) (by decide +kernel)
set_option maxRecDepth 20000 in
theorem gL_isLeast_X4_undo : GoodIn wsL_isLeast (wsV RL 63 RX4 yX4_undo wsX4_undo) := goodIn_app (goodIn_of _ (by decide +kernel)) ggL_isLeast_X4_undo
set_option maxRecDepth 20000 in
theorem ggL_isLeast_X4_leastChill : GoodIn wsL_isLeast wsX4_leastChill := goodIn_r _ [243, 8, 120, 67, 121, 72, 31, 32, 22, 33, 24, 122, 123, 124, 125, 79, 126, 127, 53, 128, 129, 29, 84, 85, 244, 157, 4, 158, 245, 150, 151, 152, 54, 55, 153, 154, 155, 156, 138, 139, 140, 37, 141, 142, 143, 144, 145, 146, 39, 147, 148, 149, 159, 160, 161, 162, 40, 163, 164, 165, 166, 167, 168, 169, 170, 171, 172, 173, 174, 175, 176, 177, 178, 179, 180, 181, 182, 183, 48, 184, 185, 186, 187, 188, 189, 190, 25, 26, 27, 28, 30, 56, 57, 58, 59, 60, 45, 46, 47, 42, 43, 255, 256, 257, 258, 259, 260, 261, 262, 263, 264, 265, 266, 267, 268, 269, 270, 271, 272, 273, 274, 275, 276, 277] (by decide +kernel) (by decide +kernel)
set_option maxRecDepth 20000 in
theorem gL_isLeast_X4_leastChill : GoodIn wsL_isLeast (wsV RL 66 RX4 yX4_leastChill wsX4_leastChill) := goodIn_app (goodIn_of _ (by decide +kernel)) ggL_isLeast_X4_leastChill
set_option maxRecDepth 20000 in
theorem ggL_isLeast_X4_section : GoodIn wsL_isLeast wsX4_section := goodIn_r _ [64, 8, 65, 66, 67, 17, 68, 69, 18, 70, 71, 72, 31, 32, 22, 33, 24, 73, 54, 4, 55, 74, 26, 27, 28, 29, 30, 34, 35, 36, 37, 38, 39, 40, 75, 76, 77, 78, 79, 80, 81, 82, 83, 84, 85, 255, 256, 257, 258, 259, 260, 261, 262, 263, 264, 265, 266, 267, 268, 269, 270, 271, 272, 273, 274, 275, 276, 277] (by decide +kernel) (by decide +kernel)
set_option maxRecDepth 20000 in
theorem gL_isLeast_X4_section : GoodIn wsL_isLeast (wsV RL 23 RX4 yX4_section wsX4_section) := goodIn_app (goodIn_of _ (by decide +kernel)) ggL_isLeast_X4_section
set_option maxRecDepth 20000 in
theorem ggL_isLeast_X4_excessWith : GoodIn wsL_isLeast wsX4_excessWith := goodIn_r _ [250, 8, 120, 67, 121, 72, 31, 32, 22, 33, 24, 96, 97, 4, 98, 122, 123, 124, 125, 79, 126, 127, 53, 128, 129, 29, 84, 85, 244, 157, 158, 138, 139, 140, 37, 141, 142, 143, 144, 145, 146, 39, 147, 148, 149, 150, 151, 152, 54, 55, 153, 154, 155, 156, 159, 160, 161, 162, 40, 163, 164, 165, 166, 167, 168, 169, 170, 171, 172, 173, 174, 175, 176, 177, 178, 179, 180, 181, 182, 183, 48, 184, 185, 186, 187, 188, 189, 190, 25, 26, 27, 28, 30, 44, 45, 46, 47, 42, 43, 255, 256, 257, 258, 259, 260, 261, 262, 263, 264, 265, 266, 267, 268, 269, 270, 271, 272, 273, 274, 275, 276, 277] (by decide +kernel) (by decide +kernel)
set_option maxRecDepth 20000 in
theorem gL_isLeast_X4_excessWith : GoodIn wsL_isLeast (wsV RL 69 RX4 yX4_excessWith wsX4_excessWith) := goodIn_app (goodIn_of _ (by decide +kernel)) ggL_isLeast_X4_excessWith
set_option maxRecDepth 20000 in
theorem ggL_isLeast_X4_setChill : GoodIn wsL_isLeast wsX4_setChill := goodIn_r _ [254, 8, 199, 67, 17, 72, 31, 32, 22, 33, 24, 96, 97, 4, 98, 203, 204, 205, 206, 207, 208, 209, 210, 211, 212, 213, 214, 215, 216, 217, 218, 123, 124, 125, 79, 126, 127, 53, 128, 129, 29, 84, 85, 73, 54, 55, 244, 157, 158, 138, 139, 140, 37, 141, 142, 143, 144, 145, 146, 39, 147, 148, 149, 150, 151, 152, 153, 154, 155, 156, 159, 160, 161, 162, 40, 163, 164, 165, 166, 167, 168, 169, 170, 171, 172, 173, 174, 175, 176, 177, 178, 179, 180, 181, 182, 183, 48, 184, 185, 186, 187, 188, 189, 190, 25, 26, 27, 28, 30, 255, 256, 257, 258, 259, 260, 261, 262, 263, 264, 265, 266, 267, 268, 269, 270, 278, 279, 271, 272, 273, 274, 275, 276, 277] (by decide +kernel) (by decide +kernel)
set_option maxRecDepth 20000 in
theorem gL_isLeast_X4_setChill : GoodIn wsL_isLeast (wsV RL 72 RX4 yX4_setChill wsX4_setChill) := goodIn_app (goodIn_of _ (by decide +kernel)) ggL_isLeast_X4_setChill
theorem dL_isLeast_0 : decode cL_isLeast 0 = .ok (.aload_n 0, 1) := by decide +kernel
theorem dL_isLeast_1 : decode cL_isLeast 1 = .ok (.invokevirtual 45, 3) := by decide +kernel
theorem dL_isLeast_4 : decode cL_isLeast 4 = .ok (.lstore_n 2, 1) := by decide +kernel
theorem dL_isLeast_5 : decode cL_isLeast 5 = .ok (.aload_n 0, 1) := by decide +kernel
theorem dL_isLeast_6 : decode cL_isLeast 6 = .ok (.iconst 0, 1) := by decide +kernel
theorem dL_isLeast_7 : decode cL_isLeast 7 = .ok (.invokevirtual 8, 3) := by decide +kernel
theorem dL_isLeast_10 : decode cL_isLeast 10 = .ok (.istore 4, 2) := by decide +kernel
theorem dL_isLeast_12 : decode cL_isLeast 12 = .ok (.aload_n 0, 1) := by decide +kernel
theorem dL_isLeast_13 : decode cL_isLeast 13 = .ok (.iload_n 1, 1) := by decide +kernel
theorem dL_isLeast_14 : decode cL_isLeast 14 = .ok (.invokevirtual 49, 3) := by decide +kernel
theorem dL_isLeast_17 : decode cL_isLeast 17 = .ok (.istore 5, 2) := by decide +kernel
theorem dL_isLeast_19 : decode cL_isLeast 19 = .ok (.iload 4, 2) := by decide +kernel
theorem dL_isLeast_21 : decode cL_isLeast 21 = .ok (.bipush 12, 2) := by decide +kernel
theorem dL_isLeast_23 : decode cL_isLeast 23 = .ok (.if_icmp .eq 13, 3) := by decide +kernel
theorem dL_isLeast_26 : decode cL_isLeast 26 = .ok (.aload_n 0, 1) := by decide +kernel
theorem dL_isLeast_27 : decode cL_isLeast 27 = .ok (.iconst 1, 1) := by decide +kernel
theorem dL_isLeast_28 : decode cL_isLeast 28 = .ok (.invokevirtual 8, 3) := by decide +kernel
theorem dL_isLeast_31 : decode cL_isLeast 31 = .ok (.bipush 20, 2) := by decide +kernel
theorem dL_isLeast_33 : decode cL_isLeast 33 = .ok (.if_icmp .ne 21, 3) := by decide +kernel
theorem dL_isLeast_36 : decode cL_isLeast 36 = .ok (.iload 5, 2) := by decide +kernel
theorem dL_isLeast_38 : decode cL_isLeast 38 = .ok (.bipush (-5), 2) := by decide +kernel
theorem dL_isLeast_40 : decode cL_isLeast 40 = .ok (.if_icmp .ne 12, 3) := by decide +kernel
theorem dL_isLeast_43 : decode cL_isLeast 43 = .ok (.aload_n 0, 1) := by decide +kernel
theorem dL_isLeast_44 : decode cL_isLeast 44 = .ok (.invokevirtual 52, 3) := by decide +kernel
theorem dL_isLeast_47 : decode cL_isLeast 47 = .ok (.bipush (-5), 2) := by decide +kernel
theorem dL_isLeast_49 : decode cL_isLeast 49 = .ok (.if_icmp .eq 200, 3) := by decide +kernel
theorem dL_isLeast_52 : decode cL_isLeast 52 = .ok (.iconst 0, 1) := by decide +kernel
theorem dL_isLeast_53 : decode cL_isLeast 53 = .ok (.ireturn, 1) := by decide +kernel
theorem dL_isLeast_54 : decode cL_isLeast 54 = .ok (.iconst 1, 1) := by decide +kernel
theorem dL_isLeast_55 : decode cL_isLeast 55 = .ok (.istore 6, 2) := by decide +kernel
theorem dL_isLeast_57 : decode cL_isLeast 57 = .ok (.iload 6, 2) := by decide +kernel
theorem dL_isLeast_59 : decode cL_isLeast 59 = .ok (.bipush 15, 2) := by decide +kernel
theorem dL_isLeast_61 : decode cL_isLeast 61 = .ok (.if_icmp .gt 108, 3) := by decide +kernel
theorem dL_isLeast_64 : decode cL_isLeast 64 = .ok (.aload_n 0, 1) := by decide +kernel
theorem dL_isLeast_65 : decode cL_isLeast 65 = .ok (.iload 6, 2) := by decide +kernel
theorem dL_isLeast_67 : decode cL_isLeast 67 = .ok (.iload 6, 2) := by decide +kernel
theorem dL_isLeast_69 : decode cL_isLeast 69 = .ok (.imul, 1) := by decide +kernel
theorem dL_isLeast_70 : decode cL_isLeast 70 = .ok (.iload 6, 2) := by decide +kernel
theorem dL_isLeast_72 : decode cL_isLeast 72 = .ok (.imul, 1) := by decide +kernel
theorem dL_isLeast_73 : decode cL_isLeast 73 = .ok (.iconst 5, 1) := by decide +kernel
theorem dL_isLeast_74 : decode cL_isLeast 74 = .ok (.iload 6, 2) := by decide +kernel
theorem dL_isLeast_76 : decode cL_isLeast 76 = .ok (.imul, 1) := by decide +kernel
theorem dL_isLeast_77 : decode cL_isLeast 77 = .ok (.iload 6, 2) := by decide +kernel
theorem dL_isLeast_79 : decode cL_isLeast 79 = .ok (.imul, 1) := by decide +kernel
theorem dL_isLeast_80 : decode cL_isLeast 80 = .ok (.iconst 1, 1) := by decide +kernel
theorem dL_isLeast_81 : decode cL_isLeast 81 = .ok (.invokevirtual 56, 3) := by decide +kernel
theorem dL_isLeast_84 : decode cL_isLeast 84 = .ok (.iload 4, 2) := by decide +kernel
theorem dL_isLeast_86 : decode cL_isLeast 86 = .ok (.if_icmp .ne 13, 3) := by decide +kernel
theorem dL_isLeast_89 : decode cL_isLeast 89 = .ok (.aload_n 0, 1) := by decide +kernel
theorem dL_isLeast_90 : decode cL_isLeast 90 = .ok (.iload_n 1, 1) := by decide +kernel
theorem dL_isLeast_91 : decode cL_isLeast 91 = .ok (.iload 4, 2) := by decide +kernel
theorem dL_isLeast_93 : decode cL_isLeast 93 = .ok (.invokevirtual 60, 3) := by decide +kernel
theorem dL_isLeast_96 : decode cL_isLeast 96 = .ok (.ifCond .ge 5, 3) := by decide +kernel
theorem dL_isLeast_99 : decode cL_isLeast 99 = .ok (.iconst 0, 1) := by decide +kernel
theorem dL_isLeast_100 : decode cL_isLeast 100 = .ok (.ireturn, 1) := by decide +kernel
theorem dL_isLeast_101 : decode cL_isLeast 101 = .ok (.aload_n 0, 1) := by decide +kernel
theorem dL_isLeast_102 : decode cL_isLeast 102 = .ok (.bipush 9, 2) := by decide +kernel
theorem dL_isLeast_104 : decode cL_isLeast 104 = .ok (.invokevirtual 8, 3) := by decide +kernel
theorem dL_isLeast_107 : decode cL_isLeast 107 = .ok (.iconst 1, 1) := by decide +kernel
theorem dL_isLeast_108 : decode cL_isLeast 108 = .ok (.if_icmp .ne 7, 3) := by decide +kernel
theorem dL_isLeast_111 : decode cL_isLeast 111 = .ok (.iconst 1, 1) := by decide +kernel
theorem dL_isLeast_112 : decode cL_isLeast 112 = .ok (.goto 4, 3) := by decide +kernel
theorem dL_isLeast_115 : decode cL_isLeast 115 = .ok (.iconst 0, 1) := by decide +kernel
theorem dL_isLeast_116 : decode cL_isLeast 116 = .ok (.istore 7, 2) := by decide +kernel
theorem dL_isLeast_118 : decode cL_isLeast 118 = .ok (.aload_n 0, 1) := by decide +kernel
theorem dL_isLeast_119 : decode cL_isLeast 119 = .ok (.invokevirtual 63, 3) := by decide +kernel
theorem dL_isLeast_122 : decode cL_isLeast 122 = .ok (.ifCond .lt 39, 3) := by decide +kernel
theorem dL_isLeast_125 : decode cL_isLeast 125 = .ok (.aload_n 0, 1) := by decide +kernel
theorem dL_isLeast_126 : decode cL_isLeast 126 = .ok (.invokevirtual 63, 3) := by decide +kernel
theorem dL_isLeast_129 : decode cL_isLeast 129 = .ok (.ifCond .lt 32, 3) := by decide +kernel
theorem dL_isLeast_132 : decode cL_isLeast 132 = .ok (.iload 5, 2) := by decide +kernel
theorem dL_isLeast_134 : decode cL_isLeast 134 = .ok (.ifCond .lt 10, 3) := by decide +kernel
theorem dL_isLeast_137 : decode cL_isLeast 137 = .ok (.iload 6, 2) := by decide +kernel
theorem dL_isLeast_139 : decode cL_isLeast 139 = .ok (.iload 5, 2) := by decide +kernel
theorem dL_isLeast_141 : decode cL_isLeast 141 = .ok (.if_icmp .ge 8, 3) := by decide +kernel
theorem dL_isLeast_144 : decode cL_isLeast 144 = .ok (.iload 7, 2) := by decide +kernel
theorem dL_isLeast_146 : decode cL_isLeast 146 = .ok (.ifCond .ne 15, 3) := by decide +kernel
theorem dL_isLeast_149 : decode cL_isLeast 149 = .ok (.iload 6, 2) := by decide +kernel
theorem dL_isLeast_151 : decode cL_isLeast 151 = .ok (.iload 5, 2) := by decide +kernel
theorem dL_isLeast_153 : decode cL_isLeast 153 = .ok (.if_icmp .ne 10, 3) := by decide +kernel
theorem dL_isLeast_156 : decode cL_isLeast 156 = .ok (.iload 7, 2) := by decide +kernel
theorem dL_isLeast_158 : decode cL_isLeast 158 = .ok (.ifCond .ne 5, 3) := by decide +kernel
theorem dL_isLeast_161 : decode cL_isLeast 161 = .ok (.iconst 0, 1) := by decide +kernel
theorem dL_isLeast_162 : decode cL_isLeast 162 = .ok (.ireturn, 1) := by decide +kernel
theorem dL_isLeast_163 : decode cL_isLeast 163 = .ok (.iinc 6 1, 3) := by decide +kernel
theorem dL_isLeast_166 : decode cL_isLeast 166 = .ok (.goto (-109), 3) := by decide +kernel
theorem dL_isLeast_169 : decode cL_isLeast 169 = .ok (.aload_n 0, 1) := by decide +kernel
theorem dL_isLeast_170 : decode cL_isLeast 170 = .ok (.invokevirtual 52, 3) := by decide +kernel
theorem dL_isLeast_173 : decode cL_isLeast 173 = .ok (.istore 6, 2) := by decide +kernel
theorem dL_isLeast_175 : decode cL_isLeast 175 = .ok (.iconst (-1), 1) := by decide +kernel
theorem dL_isLeast_176 : decode cL_isLeast 176 = .ok (.istore 7, 2) := by decide +kernel
theorem dL_isLeast_178 : decode cL_isLeast 178 = .ok (.iconst 0, 1) := by decide +kernel
theorem dL_isLeast_179 : decode cL_isLeast 179 = .ok (.istore 8, 2) := by decide +kernel
theorem dL_isLeast_181 : decode cL_isLeast 181 = .ok (.iload 8, 2) := by decide +kernel
theorem dL_isLeast_183 : decode cL_isLeast 183 = .ok (.iload 4, 2) := by decide +kernel
theorem dL_isLeast_185 : decode cL_isLeast 185 = .ok (.if_icmp .ge 55, 3) := by decide +kernel
theorem dL_isLeast_188 : decode cL_isLeast 188 = .ok (.aload_n 0, 1) := by decide +kernel
theorem dL_isLeast_189 : decode cL_isLeast 189 = .ok (.iload 8, 2) := by decide +kernel
theorem dL_isLeast_191 : decode cL_isLeast 191 = .ok (.invokevirtual 49, 3) := by decide +kernel
theorem dL_isLeast_194 : decode cL_isLeast 194 = .ok (.istore 9, 2) := by decide +kernel
theorem dL_isLeast_196 : decode cL_isLeast 196 = .ok (.iload 9, 2) := by decide +kernel
theorem dL_isLeast_198 : decode cL_isLeast 198 = .ok (.ifCond .le 32, 3) := by decide +kernel
theorem dL_isLeast_201 : decode cL_isLeast 201 = .ok (.iload 7, 2) := by decide +kernel
theorem dL_isLeast_203 : decode cL_isLeast 203 = .ok (.ifCond .lt 16, 3) := by decide +kernel
theorem dL_isLeast_206 : decode cL_isLeast 206 = .ok (.bipush 100, 2) := by decide +kernel
theorem dL_isLeast_208 : decode cL_isLeast 208 = .ok (.iload 9, 2) := by decide +kernel
theorem dL_isLeast_210 : decode cL_isLeast 210 = .ok (.imul, 1) := by decide +kernel
theorem dL_isLeast_211 : decode cL_isLeast 211 = .ok (.iload 8, 2) := by decide +kernel
theorem dL_isLeast_213 : decode cL_isLeast 213 = .ok (.iadd, 1) := by decide +kernel
theorem dL_isLeast_214 : decode cL_isLeast 214 = .ok (.iload 7, 2) := by decide +kernel
theorem dL_isLeast_216 : decode cL_isLeast 216 = .ok (.if_icmp .ge 14, 3) := by decide +kernel
theorem dL_isLeast_219 : decode cL_isLeast 219 = .ok (.bipush 100, 2) := by decide +kernel
theorem dL_isLeast_221 : decode cL_isLeast 221 = .ok (.iload 9, 2) := by decide +kernel
theorem dL_isLeast_223 : decode cL_isLeast 223 = .ok (.imul, 1) := by decide +kernel
theorem dL_isLeast_224 : decode cL_isLeast 224 = .ok (.iload 8, 2) := by decide +kernel
theorem dL_isLeast_226 : decode cL_isLeast 226 = .ok (.iadd, 1) := by decide +kernel
theorem dL_isLeast_227 : decode cL_isLeast 227 = .ok (.goto 5, 3) := by decide +kernel
theorem dL_isLeast_230 : decode cL_isLeast 230 = .ok (.iload 7, 2) := by decide +kernel
theorem dL_isLeast_232 : decode cL_isLeast 232 = .ok (.istore 7, 2) := by decide +kernel
theorem dL_isLeast_234 : decode cL_isLeast 234 = .ok (.iinc 8 1, 3) := by decide +kernel
theorem dL_isLeast_237 : decode cL_isLeast 237 = .ok (.goto (-56), 3) := by decide +kernel
theorem dL_isLeast_240 : decode cL_isLeast 240 = .ok (.iload 6, 2) := by decide +kernel
theorem dL_isLeast_242 : decode cL_isLeast 242 = .ok (.iload 7, 2) := by decide +kernel
theorem dL_isLeast_244 : decode cL_isLeast 244 = .ok (.if_icmp .eq 5, 3) := by decide +kernel
theorem dL_isLeast_247 : decode cL_isLeast 247 = .ok (.iconst 0, 1) := by decide +kernel
theorem dL_isLeast_248 : decode cL_isLeast 248 = .ok (.ireturn, 1) := by decide +kernel
theorem dL_isLeast_249 : decode cL_isLeast 249 = .ok (.aload_n 0, 1) := by decide +kernel
theorem dL_isLeast_250 : decode cL_isLeast 250 = .ok (.iload_n 1, 1) := by decide +kernel
theorem dL_isLeast_251 : decode cL_isLeast 251 = .ok (.invokevirtual 66, 3) := by decide +kernel
theorem dL_isLeast_254 : decode cL_isLeast 254 = .ok (.istore 6, 2) := by decide +kernel
theorem dL_isLeast_256 : decode cL_isLeast 256 = .ok (.aload_n 0, 1) := by decide +kernel
theorem dL_isLeast_257 : decode cL_isLeast 257 = .ok (.iload_n 1, 1) := by decide +kernel
theorem dL_isLeast_258 : decode cL_isLeast 258 = .ok (.iconst 2, 1) := by decide +kernel
theorem dL_isLeast_259 : decode cL_isLeast 259 = .ok (.invokevirtual 23, 3) := by decide +kernel
theorem dL_isLeast_262 : decode cL_isLeast 262 = .ok (.istore 7, 2) := by decide +kernel
theorem dL_isLeast_264 : decode cL_isLeast 264 = .ok (.aload_n 0, 1) := by decide +kernel
theorem dL_isLeast_265 : decode cL_isLeast 265 = .ok (.iload_n 1, 1) := by decide +kernel
theorem dL_isLeast_266 : decode cL_isLeast 266 = .ok (.iload 7, 2) := by decide +kernel
theorem dL_isLeast_268 : decode cL_isLeast 268 = .ok (.invokevirtual 69, 3) := by decide +kernel
theorem dL_isLeast_271 : decode cL_isLeast 271 = .ok (.aload_n 0, 1) := by decide +kernel
theorem dL_isLeast_272 : decode cL_isLeast 272 = .ok (.bipush 7, 2) := by decide +kernel
theorem dL_isLeast_274 : decode cL_isLeast 274 = .ok (.invokevirtual 8, 3) := by decide +kernel
theorem dL_isLeast_277 : decode cL_isLeast 277 = .ok (.if_icmp .ne 57, 3) := by decide +kernel
theorem dL_isLeast_280 : decode cL_isLeast 280 = .ok (.iload 6, 2) := by decide +kernel
theorem dL_isLeast_282 : decode cL_isLeast 282 = .ok (.ifCond .le 15, 3) := by decide +kernel
theorem dL_isLeast_285 : decode cL_isLeast 285 = .ok (.aload_n 0, 1) := by decide +kernel
theorem dL_isLeast_286 : decode cL_isLeast 286 = .ok (.iload_n 1, 1) := by decide +kernel
theorem dL_isLeast_287 : decode cL_isLeast 287 = .ok (.iload 6, 2) := by decide +kernel
theorem dL_isLeast_289 : decode cL_isLeast 289 = .ok (.iconst 1, 1) := by decide +kernel
theorem dL_isLeast_290 : decode cL_isLeast 290 = .ok (.isub, 1) := by decide +kernel
theorem dL_isLeast_291 : decode cL_isLeast 291 = .ok (.invokevirtual 69, 3) := by decide +kernel
theorem dL_isLeast_294 : decode cL_isLeast 294 = .ok (.ifCond .eq 40, 3) := by decide +kernel
theorem dL_isLeast_297 : decode cL_isLeast 297 = .ok (.iload 6, 2) := by decide +kernel
theorem dL_isLeast_299 : decode cL_isLeast 299 = .ok (.ifCond .lt 13, 3) := by decide +kernel
theorem dL_isLeast_302 : decode cL_isLeast 302 = .ok (.aload_n 0, 1) := by decide +kernel
theorem dL_isLeast_303 : decode cL_isLeast 303 = .ok (.iload_n 1, 1) := by decide +kernel
theorem dL_isLeast_304 : decode cL_isLeast 304 = .ok (.iload 6, 2) := by decide +kernel
theorem dL_isLeast_306 : decode cL_isLeast 306 = .ok (.invokevirtual 69, 3) := by decide +kernel
theorem dL_isLeast_309 : decode cL_isLeast 309 = .ok (.ifCond .ne 25, 3) := by decide +kernel
theorem dL_isLeast_312 : decode cL_isLeast 312 = .ok (.iload 6, 2) := by decide +kernel
theorem dL_isLeast_314 : decode cL_isLeast 314 = .ok (.ifCond .ge 22, 3) := by decide +kernel
theorem dL_isLeast_317 : decode cL_isLeast 317 = .ok (.iload 6, 2) := by decide +kernel
theorem dL_isLeast_319 : decode cL_isLeast 319 = .ok (.iconst (-1), 1) := by decide +kernel
theorem dL_isLeast_320 : decode cL_isLeast 320 = .ok (.if_icmp .ne 14, 3) := by decide +kernel
theorem dL_isLeast_323 : decode cL_isLeast 323 = .ok (.aload_n 0, 1) := by decide +kernel
theorem dL_isLeast_324 : decode cL_isLeast 324 = .ok (.iload_n 1, 1) := by decide +kernel
theorem dL_isLeast_325 : decode cL_isLeast 325 = .ok (.sipush 500, 3) := by decide +kernel
theorem dL_isLeast_328 : decode cL_isLeast 328 = .ok (.invokevirtual 69, 3) := by decide +kernel
theorem dL_isLeast_331 : decode cL_isLeast 331 = .ok (.ifCond .ne 5, 3) := by decide +kernel
theorem dL_isLeast_334 : decode cL_isLeast 334 = .ok (.iconst 0, 1) := by decide +kernel
theorem dL_isLeast_335 : decode cL_isLeast 335 = .ok (.ireturn, 1) := by decide +kernel
theorem dL_isLeast_336 : decode cL_isLeast 336 = .ok (.iload 6, 2) := by decide +kernel
theorem dL_isLeast_338 : decode cL_isLeast 338 = .ok (.ifCond .lt 34, 3) := by decide +kernel
theorem dL_isLeast_341 : decode cL_isLeast 341 = .ok (.aload_n 0, 1) := by decide +kernel
theorem dL_isLeast_342 : decode cL_isLeast 342 = .ok (.iload_n 1, 1) := by decide +kernel
theorem dL_isLeast_343 : decode cL_isLeast 343 = .ok (.iload 6, 2) := by decide +kernel
theorem dL_isLeast_345 : decode cL_isLeast 345 = .ok (.invokevirtual 72, 3) := by decide +kernel
theorem dL_isLeast_348 : decode cL_isLeast 348 = .ok (.iload 7, 2) := by decide +kernel
theorem dL_isLeast_350 : decode cL_isLeast 350 = .ok (.if_icmp .ne 20, 3) := by decide +kernel
theorem dL_isLeast_353 : decode cL_isLeast 353 = .ok (.aload_n 0, 1) := by decide +kernel
theorem dL_isLeast_354 : decode cL_isLeast 354 = .ok (.bipush 9, 2) := by decide +kernel
theorem dL_isLeast_356 : decode cL_isLeast 356 = .ok (.invokevirtual 8, 3) := by decide +kernel
theorem dL_isLeast_359 : decode cL_isLeast 359 = .ok (.iconst 1, 1) := by decide +kernel
theorem dL_isLeast_360 : decode cL_isLeast 360 = .ok (.if_icmp .ne 10, 3) := by decide +kernel
theorem dL_isLeast_363 : decode cL_isLeast 363 = .ok (.aload_n 0, 1) := by decide +kernel
theorem dL_isLeast_364 : decode cL_isLeast 364 = .ok (.invokevirtual 63, 3) := by decide +kernel
theorem dL_isLeast_367 : decode cL_isLeast 367 = .ok (.ifCond .ge 5, 3) := by decide +kernel
theorem dL_isLeast_370 : decode cL_isLeast 370 = .ok (.iconst 0, 1) := by decide +kernel
theorem dL_isLeast_371 : decode cL_isLeast 371 = .ok (.ireturn, 1) := by decide +kernel
theorem dL_isLeast_372 : decode cL_isLeast 372 = .ok (.aload_n 0, 1) := by decide +kernel
theorem dL_isLeast_373 : decode cL_isLeast 373 = .ok (.invokevirtual 45, 3) := by decide +kernel
theorem dL_isLeast_376 : decode cL_isLeast 376 = .ok (.lload_n 2, 1) := by decide +kernel
theorem dL_isLeast_377 : decode cL_isLeast 377 = .ok (.lcmp, 1) := by decide +kernel
theorem dL_isLeast_378 : decode cL_isLeast 378 = .ok (.ifCond .ne 7, 3) := by decide +kernel
theorem dL_isLeast_381 : decode cL_isLeast 381 = .ok (.iconst 1, 1) := by decide +kernel
theorem dL_isLeast_382 : decode cL_isLeast 382 = .ok (.goto 4, 3) := by decide +kernel
theorem dL_isLeast_385 : decode cL_isLeast 385 = .ok (.iconst 0, 1) := by decide +kernel
theorem dL_isLeast_386 : decode cL_isLeast 386 = .ok (.ireturn, 1) := by decide +kernel
set_option maxRecDepth 20000 in
theorem ggL_changes_L_low : GoodIn wsL_changes wsL_low := goodIn_r _ [4, 5] (by decide +kernel) (by decide +kernel)
set_option maxRecDepth 20000 in
theorem gL_changes_L_low : GoodIn wsL_changes (va_wsS RL 75 yL_low wsL_low) := goodIn_app (goodIn_of _ (by decide +kernel)) ggL_changes_L_low
set_option maxRecDepth 20000 in
theorem ggL_changes_X4_addSection : GoodIn wsL_changes wsX4_addSection := goodIn_r _ [10, 11, 12, 13, 14, 15, 9, 16, 17, 18, 19, 20, 21, 22, 23, 24, 25, 26, 27, 28, 29, 30, 31, 32, 33, 34, 35, 36, 37, 38, 39, 40, 41, 42, 43, 44, 45, 46, 47, 48, 49, 50, 51, 52, 53, 54, 55, 56, 57, 58, 59, 60, 61, 62, 63, 64, 65, 66, 67, 68, 69, 70, 71, 72, 73, 74, 75, 76, 77, 78, 79, 80, 81, 82, 83, 84, 85, 86, 87, 88, 89, 90, 91, 92, 93, 94, 95, 96, 97, 98, 99, 100, 101, 102, 103, 104, 105, 106, 107, 108, 109, 110, 111, 112, 113, 114, 115, 116, 117, 118, 119, 120, 121, 122, 123, 124, 192, 193, 194, 195, 196, 197, 198, 199, 200, 201, 202, 203, 204, 205, 206, 207, 208, 209, 210, 211, 212, 213, 214, 215, 216] (by decide +kernel) (by decide +kernel)
set_option maxRecDepth 20000 in
theorem gL_changes_X4_addSection : GoodIn wsL_changes (wsV RL 56 RX4 yX4_addSection wsX4_addSection) := goodIn_app (goodIn_of _ (by decide +kernel)) ggL_changes_X4_addSection
set_option maxRecDepth 20000 in
theorem ggL_changes_X4_resize : GoodIn wsL_changes wsX4_resize := goodIn_r _ [128, 11, 12, 129, 130, 13, 131, 122, 123, 23, 124, 25, 14, 15, 9, 16, 17, 18, 19, 26, 27, 28, 29, 30, 31, 32, 33, 34, 35, 36, 37, 38, 39, 40, 41, 42, 43, 44, 45, 46, 47, 48, 49, 50, 51, 52, 53, 132, 75, 76, 133, 81, 82, 58, 59, 60, 61, 62, 63, 64, 65, 66, 67, 68, 69, 70, 71, 72, 73, 74, 77, 78, 79, 80, 83, 84, 85, 86, 87, 88, 89, 90, 91, 92, 93, 94, 95, 96, 97, 98, 99, 100, 101, 102, 103, 104, 105, 106, 107, 108, 109, 110, 111, 112, 113, 114, 115, 116, 117, 118, 119, 120, 121, 192, 193, 194, 195, 196, 197, 198, 199, 200, 201, 202, 203, 204, 205, 206, 207, 208, 209, 210, 211, 212, 213, 214, 215, 216] (by decide +kernel) (by decide +kernel)
set_option maxRecDepth 20000 in
theorem gL_changes_X4_resize : GoodIn wsL_changes (wsV RL 78 RX4 yX4_resize wsX4_resize) := goodIn_app (goodIn_of _ (by decide +kernel)) ggL_changes_X4_resize
set_option maxRecDepth 20000 in
theorem ggL_changes_X4_setChill : GoodIn wsL_changes wsX4_setChill := goodIn_r _ [137, 11, 12, 138, 13, 131, 122, 123, 23, 124, 25, 17, 18, 9, 19, 26, 27, 28, 29, 30, 31, 32, 33, 34, 35, 36, 37, 38, 39, 40, 41, 42, 43, 44, 45, 46, 47, 48, 49, 50, 51, 52, 53, 132, 75, 76, 133, 81, 82, 58, 59, 60, 61, 62, 63, 64, 65, 66, 67, 68, 69, 70, 71, 72, 73, 74, 77, 78, 79, 80, 83, 84, 85, 86, 87, 88, 89, 90, 91, 92, 93, 94, 95, 96, 97, 98, 99, 100, 101, 102, 103, 104, 105, 106, 107, 108, 109, 110, 111, 112, 113, 114, 115, 116, 117, 118, 119, 120, 121, 192, 193, 194, 195, 196, 197, 198, 199, 200, 201, 202, 203, 204, 205, 206, 207, 208, 209, 210, 211, 212, 213, 214, 215, 216] (by decide +kernel) (by decide +kernel)
set_option maxRecDepth 20000 in
theorem gL_changes_X4_setChill : GoodIn wsL_changes (wsV RL 72 RX4 yX4_setChill wsX4_setChill) := goodIn_app (goodIn_of _ (by decide +kernel)) ggL_changes_X4_setChill
set_option maxRecDepth 20000 in
theorem ggL_changes_X4_removeSection : GoodIn wsL_changes wsX4_removeSection := goodIn_r _ [142, 11, 12, 13, 143, 131, 122, 123, 23, 124, 25, 26, 27, 28, 29, 30, 31, 32, 33, 34, 35, 36, 37, 38, 39, 40, 41, 42, 43, 44, 45, 46, 47, 48, 49, 50, 51, 52, 53, 144, 145, 146, 147, 148, 111, 66, 112, 149, 150, 151, 152, 75, 9, 76, 153, 154, 155, 156, 81, 82, 157, 158, 159, 58, 59, 60, 61, 62, 63, 64, 65, 67, 68, 69, 70, 71, 72, 73, 74, 77, 78, 79, 80, 83, 84, 85, 86, 87, 88, 89, 90, 91, 92, 93, 94, 95, 96, 97, 98, 99, 100, 101, 102, 103, 104, 105, 106, 107, 108, 109, 110, 113, 114, 115, 116, 117, 118, 119, 120, 121, 192, 193, 194, 195, 196, 197, 198, 199, 200, 201, 202, 203, 204, 205, 206, 207, 208, 209, 210, 211, 212, 213, 214, 215, 216] (by decide +kernel) (by decide +kernel)
set_option maxRecDepth 20000 in
theorem gL_changes_X4_removeSection : GoodIn wsL_changes (wsV RL 82 RX4 yX4_removeSection wsX4_removeSection) := goodIn_app (goodIn_of _ (by decide +kernel)) ggL_changes_X4_removeSection
set_option maxRecDepth 20000 in
theorem ggL_changes_X4_part : GoodIn wsL_changes wsX4_part := goodIn_r _ [163, 11, 12, 13, 164, 165, 166, 167, 23, 168, 45, 26, 27, 28, 29, 30, 31, 32, 33, 34, 35, 36, 37, 38, 39, 40, 41, 42, 43, 44, 25, 46, 47, 48, 49, 50, 51, 52, 53, 169, 154, 155, 156, 148, 111, 66, 112, 75, 9, 76, 81, 82, 58, 59, 60, 61, 62, 63, 64, 65, 67, 68, 69, 70, 71, 72, 73, 74, 77, 78, 79, 80, 83, 84, 85, 86, 87, 88, 89, 90, 91, 92, 93, 94, 95, 96, 97, 98, 99, 100, 101, 102, 103, 104, 105, 106, 107, 108, 109, 110, 113, 114, 115, 116, 117, 118, 119, 120, 121, 122, 123, 124, 192, 193, 194, 195, 196, 197, 198, 199, 200, 201, 202, 203, 204, 205, 206, 207, 208, 209, 210, 211, 212, 213, 214, 215, 216] (by decide +kernel) (by decide +kernel)
set_option maxRecDepth 20000 in
theorem gL_changes_X4_part : GoodIn wsL_changes (wsV RL 85 RX4 yX4_part wsX4_part) := goodIn_app (goodIn_of _ (by decide +kernel)) ggL_changes_X4_part
set_option maxRecDepth 20000 in
theorem ggL_changes_X4_setMetal : GoodIn wsL_changes wsX4_setMetal := goodIn_r _ [173, 12, 11, 174, 175, 13, 17, 18, 9, 19, 26, 27, 28, 29, 30, 31, 32, 33, 34, 35, 36, 37, 38, 39, 40, 41, 42, 43, 23, 44, 25, 45, 46, 47, 48, 49, 50, 51, 52, 53, 58, 59, 60, 61, 62, 63, 64, 65, 66, 67, 68, 69, 70, 71, 72, 73, 74, 75, 76, 77, 78, 79, 80, 81, 82, 83, 84, 85, 86, 87, 88, 89, 90, 91, 92, 93, 94, 95, 96, 97, 98, 99, 100, 101, 102, 103, 104, 105, 106, 107, 108, 109, 110, 111, 112, 113, 114, 115, 116, 117, 118, 119, 120, 121, 122, 123, 124, 192, 193, 194, 195, 196, 197, 198, 199, 200, 201, 202, 203, 204, 205, 206, 207, 208, 209, 210, 211, 212, 213, 214, 215, 216] (by decide +kernel) (by decide +kernel)
set_option maxRecDepth 20000 in
theorem gL_changes_X4_setMetal : GoodIn wsL_changes (wsV RL 88 RX4 yX4_setMetal wsX4_setMetal) := goodIn_app (goodIn_of _ (by decide +kernel)) ggL_changes_X4_setMetal
set_option maxRecDepth 20000 in
theorem ggL_changes_X4_join : GoodIn wsL_changes wsX4_join := goodIn_r _ [179, 11, 12, 13, 131, 122, 123, 23, 124, 25, 180, 181, 182, 183, 45, 149, 150, 151, 152, 52, 53, 75, 9, 76, 184, 185, 186, 187, 26, 27, 28, 29, 30, 31, 32, 33, 34, 35, 36, 37, 38, 39, 40, 41, 42, 43, 44, 46, 47, 48, 49, 50, 51, 188, 189, 190, 191, 58, 59, 60, 61, 62, 63, 64, 65, 66, 67, 68, 69, 70, 71, 72, 73, 74, 77, 78, 79, 80, 81, 82, 83, 84, 85, 86, 87, 88, 89, 90, 91, 92, 93, 94, 95, 96, 97, 98, 99, 100, 101, 102, 103, 104, 105, 106, 107, 108, 109, 110, 111, 112, 113, 114, 115, 116, 117, 118, 119, 120, 121, 192, 193, 194, 195, 196, 197, 198, 199, 200, 201, 202, 203, 204, 205, 206, 207, 208, 209, 210, 211, 212, 213, 214, 215, 216] (by decide +kernel) (by decide +kernel)
set_option maxRecDepth 20000 in
theorem gL_changes_X4_join : GoodIn wsL_changes (wsV RL 60 RX4 yX4_join wsX4_join) := goodIn_app (goodIn_of _ (by decide +kernel)) ggL_changes_X4_join
theorem dL_changes_0 : decode cL_changes 0 = .ok (.iload_n 1, 1) := by decide +kernel
theorem dL_changes_1 : decode cL_changes 1 = .ok (.iconst 4, 1) := by decide +kernel
theorem dL_changes_2 : decode cL_changes 2 = .ok (.ishr, 1) := by decide +kernel
theorem dL_changes_3 : decode cL_changes 3 = .ok (.bipush 12, 2) := by decide +kernel
theorem dL_changes_5 : decode cL_changes 5 = .ok (.invokestatic 75, 3) := by decide +kernel
theorem dL_changes_8 : decode cL_changes 8 = .ok (.istore_n 2, 1) := by decide +kernel
theorem dL_changes_9 : decode cL_changes 9 = .ok (.iload_n 1, 1) := by decide +kernel
theorem dL_changes_10 : decode cL_changes 10 = .ok (.bipush 8, 2) := by decide +kernel
theorem dL_changes_12 : decode cL_changes 12 = .ok (.ishr, 1) := by decide +kernel
theorem dL_changes_13 : decode cL_changes 13 = .ok (.bipush 12, 2) := by decide +kernel
theorem dL_changes_15 : decode cL_changes 15 = .ok (.invokestatic 75, 3) := by decide +kernel
theorem dL_changes_18 : decode cL_changes 18 = .ok (.istore_n 3, 1) := by decide +kernel
theorem dL_changes_19 : decode cL_changes 19 = .ok (.iload_n 1, 1) := by decide +kernel
theorem dL_changes_20 : decode cL_changes 20 = .ok (.bipush 14, 2) := by decide +kernel
theorem dL_changes_22 : decode cL_changes 22 = .ok (.invokestatic 75, 3) := by decide +kernel
theorem dL_changes_25 : decode cL_changes 25 = .ok (.tableswitch 178 0 7 #[47, 47, 47, 89, 119, 135, 141, 154], 47) := by decide +kernel
theorem dL_changes_72 : decode cL_changes 72 = .ok (.aload_n 0, 1) := by decide +kernel
theorem dL_changes_73 : decode cL_changes 73 = .ok (.iconst 1, 1) := by decide +kernel
theorem dL_changes_74 : decode cL_changes 74 = .ok (.iload_n 1, 1) := by decide +kernel
theorem dL_changes_75 : decode cL_changes 75 = .ok (.iconst 4, 1) := by decide +kernel
theorem dL_changes_76 : decode cL_changes 76 = .ok (.ishr, 1) := by decide +kernel
theorem dL_changes_77 : decode cL_changes 77 = .ok (.sipush 2000, 3) := by decide +kernel
theorem dL_changes_80 : decode cL_changes 80 = .ok (.invokestatic 75, 3) := by decide +kernel
theorem dL_changes_83 : decode cL_changes 83 = .ok (.iadd, 1) := by decide +kernel
theorem dL_changes_84 : decode cL_changes 84 = .ok (.iconst 1, 1) := by decide +kernel
theorem dL_changes_85 : decode cL_changes 85 = .ok (.iload_n 1, 1) := by decide +kernel
theorem dL_changes_86 : decode cL_changes 86 = .ok (.bipush 15, 2) := by decide +kernel
theorem dL_changes_88 : decode cL_changes 88 = .ok (.ishr, 1) := by decide +kernel
theorem dL_changes_89 : decode cL_changes 89 = .ok (.sipush 1500, 3) := by decide +kernel
theorem dL_changes_92 : decode cL_changes 92 = .ok (.invokestatic 75, 3) := by decide +kernel
theorem dL_changes_95 : decode cL_changes 95 = .ok (.iadd, 1) := by decide +kernel
theorem dL_changes_96 : decode cL_changes 96 = .ok (.iload_n 1, 1) := by decide +kernel
theorem dL_changes_97 : decode cL_changes 97 = .ok (.bipush 14, 2) := by decide +kernel
theorem dL_changes_99 : decode cL_changes 99 = .ok (.ishr, 1) := by decide +kernel
theorem dL_changes_100 : decode cL_changes 100 = .ok (.iconst 3, 1) := by decide +kernel
theorem dL_changes_101 : decode cL_changes 101 = .ok (.iand, 1) := by decide +kernel
theorem dL_changes_102 : decode cL_changes 102 = .ok (.ifCond .ne 7, 3) := by decide +kernel
theorem dL_changes_105 : decode cL_changes 105 = .ok (.iconst 1, 1) := by decide +kernel
theorem dL_changes_106 : decode cL_changes 106 = .ok (.goto 4, 3) := by decide +kernel
theorem dL_changes_109 : decode cL_changes 109 = .ok (.iconst 0, 1) := by decide +kernel
theorem dL_changes_110 : decode cL_changes 110 = .ok (.invokevirtual 56, 3) := by decide +kernel
theorem dL_changes_113 : decode cL_changes 113 = .ok (.ireturn, 1) := by decide +kernel
theorem dL_changes_114 : decode cL_changes 114 = .ok (.aload_n 0, 1) := by decide +kernel
theorem dL_changes_115 : decode cL_changes 115 = .ok (.iload_n 2, 1) := by decide +kernel
theorem dL_changes_116 : decode cL_changes 116 = .ok (.iconst 1, 1) := by decide +kernel
theorem dL_changes_117 : decode cL_changes 117 = .ok (.iload_n 1, 1) := by decide +kernel
theorem dL_changes_118 : decode cL_changes 118 = .ok (.bipush 8, 2) := by decide +kernel
theorem dL_changes_120 : decode cL_changes 120 = .ok (.ishr, 1) := by decide +kernel
theorem dL_changes_121 : decode cL_changes 121 = .ok (.sipush 1000, 3) := by decide +kernel
theorem dL_changes_124 : decode cL_changes 124 = .ok (.invokestatic 75, 3) := by decide +kernel
theorem dL_changes_127 : decode cL_changes 127 = .ok (.iadd, 1) := by decide +kernel
theorem dL_changes_128 : decode cL_changes 128 = .ok (.iconst 1, 1) := by decide +kernel
theorem dL_changes_129 : decode cL_changes 129 = .ok (.iload_n 1, 1) := by decide +kernel
theorem dL_changes_130 : decode cL_changes 130 = .ok (.bipush 18, 2) := by decide +kernel
theorem dL_changes_132 : decode cL_changes 132 = .ok (.ishr, 1) := by decide +kernel
theorem dL_changes_133 : decode cL_changes 133 = .ok (.sipush 900, 3) := by decide +kernel
theorem dL_changes_136 : decode cL_changes 136 = .ok (.invokestatic 75, 3) := by decide +kernel
theorem dL_changes_139 : decode cL_changes 139 = .ok (.iadd, 1) := by decide +kernel
theorem dL_changes_140 : decode cL_changes 140 = .ok (.invokevirtual 78, 3) := by decide +kernel
theorem dL_changes_143 : decode cL_changes 143 = .ok (.ireturn, 1) := by decide +kernel
theorem dL_changes_144 : decode cL_changes 144 = .ok (.aload_n 0, 1) := by decide +kernel
theorem dL_changes_145 : decode cL_changes 145 = .ok (.iload_n 2, 1) := by decide +kernel
theorem dL_changes_146 : decode cL_changes 146 = .ok (.iload_n 1, 1) := by decide +kernel
theorem dL_changes_147 : decode cL_changes 147 = .ok (.bipush 8, 2) := by decide +kernel
theorem dL_changes_149 : decode cL_changes 149 = .ok (.ishr, 1) := by decide +kernel
theorem dL_changes_150 : decode cL_changes 150 = .ok (.sipush 501, 3) := by decide +kernel
theorem dL_changes_153 : decode cL_changes 153 = .ok (.invokestatic 75, 3) := by decide +kernel
theorem dL_changes_156 : decode cL_changes 156 = .ok (.invokevirtual 72, 3) := by decide +kernel
theorem dL_changes_159 : decode cL_changes 159 = .ok (.ireturn, 1) := by decide +kernel
theorem dL_changes_160 : decode cL_changes 160 = .ok (.aload_n 0, 1) := by decide +kernel
theorem dL_changes_161 : decode cL_changes 161 = .ok (.iload_n 2, 1) := by decide +kernel
theorem dL_changes_162 : decode cL_changes 162 = .ok (.invokevirtual 82, 3) := by decide +kernel
theorem dL_changes_165 : decode cL_changes 165 = .ok (.ireturn, 1) := by decide +kernel
theorem dL_changes_166 : decode cL_changes 166 = .ok (.aload_n 0, 1) := by decide +kernel
theorem dL_changes_167 : decode cL_changes 167 = .ok (.iload_n 1, 1) := by decide +kernel
theorem dL_changes_168 : decode cL_changes 168 = .ok (.iconst 4, 1) := by decide +kernel
theorem dL_changes_169 : decode cL_changes 169 = .ok (.ishr, 1) := by decide +kernel
theorem dL_changes_170 : decode cL_changes 170 = .ok (.bipush 20, 2) := by decide +kernel
theorem dL_changes_172 : decode cL_changes 172 = .ok (.invokestatic 75, 3) := by decide +kernel
theorem dL_changes_175 : decode cL_changes 175 = .ok (.invokevirtual 85, 3) := by decide +kernel
theorem dL_changes_178 : decode cL_changes 178 = .ok (.ireturn, 1) := by decide +kernel
theorem dL_changes_179 : decode cL_changes 179 = .ok (.aload_n 0, 1) := by decide +kernel
theorem dL_changes_180 : decode cL_changes 180 = .ok (.iload_n 1, 1) := by decide +kernel
theorem dL_changes_181 : decode cL_changes 181 = .ok (.iconst 4, 1) := by decide +kernel
theorem dL_changes_182 : decode cL_changes 182 = .ok (.ishr, 1) := by decide +kernel
theorem dL_changes_183 : decode cL_changes 183 = .ok (.sipush 201, 3) := by decide +kernel
theorem dL_changes_186 : decode cL_changes 186 = .ok (.invokestatic 75, 3) := by decide +kernel
theorem dL_changes_189 : decode cL_changes 189 = .ok (.iload_n 1, 1) := by decide +kernel
theorem dL_changes_190 : decode cL_changes 190 = .ok (.bipush 12, 2) := by decide +kernel
theorem dL_changes_192 : decode cL_changes 192 = .ok (.ishr, 1) := by decide +kernel
theorem dL_changes_193 : decode cL_changes 193 = .ok (.sipush 501, 3) := by decide +kernel
theorem dL_changes_196 : decode cL_changes 196 = .ok (.invokestatic 75, 3) := by decide +kernel
theorem dL_changes_199 : decode cL_changes 199 = .ok (.invokevirtual 88, 3) := by decide +kernel
theorem dL_changes_202 : decode cL_changes 202 = .ok (.ireturn, 1) := by decide +kernel
theorem dL_changes_203 : decode cL_changes 203 = .ok (.aload_n 0, 1) := by decide +kernel
theorem dL_changes_204 : decode cL_changes 204 = .ok (.iload_n 2, 1) := by decide +kernel
theorem dL_changes_205 : decode cL_changes 205 = .ok (.iload_n 3, 1) := by decide +kernel
theorem dL_changes_206 : decode cL_changes 206 = .ok (.invokevirtual 60, 3) := by decide +kernel
theorem dL_changes_209 : decode cL_changes 209 = .ok (.ireturn, 1) := by decide +kernel

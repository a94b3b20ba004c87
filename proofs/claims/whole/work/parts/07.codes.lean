set_option maxRecDepth 100000 in
theorem mm_q_X0_init : tables_1[91]? = some (Cond.code yX0_init cX0_init 1 none) := by rfl
set_option maxRecDepth 100000 in
theorem mm_q_X0_leftOf : tables_1[711]? = some (Cond.code yX0_leftOf cX0_leftOf 4 (some .long)) := by rfl
set_option maxRecDepth 100000 in
theorem mm_q_X0_goingOf : tables_1[727]? = some (Cond.code yX0_goingOf cX0_goingOf 4 (some .int)) := by rfl
set_option maxRecDepth 100000 in
theorem mm_q_X0_goodFor : tables_1[738]? = some (Cond.code yX0_goodFor cX0_goodFor 7 (some .long)) := by rfl
set_option maxRecDepth 100000 in
theorem mm_q_X0_bribeFor : tables_1[758]? = some (Cond.code yX0_bribeFor cX0_bribeFor 6 (some .int)) := by rfl
set_option maxRecDepth 100000 in
theorem mm_q_X0_trialKeeps : tables_1[746]? = some (Cond.code yX0_trialKeeps cX0_trialKeeps 4 (some .boolean)) := by rfl
set_option maxRecDepth 100000 in
theorem mm_q_X0_meeting : tables_1[771]? = some (Cond.code yX0_meeting cX0_meeting 4 (some .int)) := by rfl
set_option maxRecDepth 100000 in
theorem mm_q_X0_areNear : tables_1[775]? = some (Cond.code yX0_areNear cX0_areNear 3 (some .boolean)) := by rfl
set_option maxRecDepth 100000 in
theorem mm_q_X0_beginsFor : tables_1[786]? = some (Cond.code yX0_beginsFor cX0_beginsFor 6 (some .long)) := by rfl
set_option maxRecDepth 100000 in
theorem mm_q_X0_choiceFor : tables_1[800]? = some (Cond.code yX0_choiceFor cX0_choiceFor 5 (some .int)) := by rfl
set_option maxRecDepth 100000 in
theorem mm_q_X0_keepsAll : tables_1[805]? = some (Cond.code yX0_keepsAll cX0_keepsAll 6 (some .boolean)) := by rfl
set_option maxRecDepth 100000 in
theorem mm_q_X0_wholeCourse : tables_1[822]? = some (Cond.code yX0_wholeCourse cX0_wholeCourse 2 (some (.object "PostRing$Course"))) := by rfl
set_option maxRecDepth 100000 in
theorem mm_q_X1_init : tables_1[35]? = some (Cond.code yX1_init cX1_init 1 none) := by rfl
set_option maxRecDepth 100000 in
theorem mm_q_X1_startFrom : tables_1[384]? = some (Cond.code yX1_startFrom cX1_startFrom 3 none) := by rfl
set_option maxRecDepth 100000 in
theorem mm_q_X1_copyFrom : tables_1[715]? = some (Cond.code yX1_copyFrom cX1_copyFrom 2 none) := by rfl
set_option maxRecDepth 100000 in
theorem mm_q_X1_standing : tables_1[605]? = some (Cond.code yX1_standing cX1_standing 1 (some .int)) := by rfl
set_option maxRecDepth 100000 in
theorem mm_q_X1_standsAt : tables_1[698]? = some (Cond.code yX1_standsAt cX1_standsAt 2 (some .boolean)) := by rfl
set_option maxRecDepth 100000 in
theorem mm_q_X1_isTurned : tables_1[643]? = some (Cond.code yX1_isTurned cX1_isTurned 2 (some .boolean)) := by rfl
set_option maxRecDepth 100000 in
theorem mm_q_X1_comeTo : tables_1[742]? = some (Cond.code yX1_comeTo cX1_comeTo 2 none) := by rfl
set_option maxRecDepth 100000 in
theorem mm_q_X1_goOn : tables_1[601]? = some (Cond.code yX1_goOn cX1_goOn 5 (some .int)) := by rfl
set_option maxRecDepth 100000 in
theorem mm_q_X1_nextCount : tables_1[615]? = some (Cond.code yX1_nextCount cX1_nextCount 2 (some .int)) := by rfl
set_option maxRecDepth 100000 in
theorem mm_q_X1_goOnce : tables_1[639]? = some (Cond.code yX1_goOnce cX1_goOnce 6 none) := by rfl
set_option maxRecDepth 100000 in
theorem mm_q_X1_firstLook : tables_1[647]? = some (Cond.code yX1_firstLook cX1_firstLook 5 (some .int)) := by rfl
set_option maxRecDepth 100000 in
theorem mm_q_X1_hit : tables_1[675]? = some (Cond.code yX1_hit cX1_hit 3 none) := by rfl
set_option maxRecDepth 100000 in
theorem mm_q_X2_init : tables_1[129]? = some (Cond.code yX2_init cX2_init 1 none) := by rfl
set_option maxRecDepth 100000 in
theorem mm_q_X2_clear : tables_1[942]? = some (Cond.code yX2_clear cX2_clear 1 none) := by rfl
set_option maxRecDepth 100000 in
theorem mm_q_X2_add : tables_1[948]? = some (Cond.code yX2_add cX2_add 3 none) := by rfl
set_option maxRecDepth 100000 in
theorem mm_q_X2_tallyUpTo : tables_1[938]? = some (Cond.code yX2_tallyUpTo cX2_tallyUpTo 4 none) := by rfl
set_option maxRecDepth 100000 in
theorem mm_q_X2_tallyDrawn : tables_1[973]? = some (Cond.code yX2_tallyDrawn cX2_tallyDrawn 4 none) := by rfl
set_option maxRecDepth 100000 in
theorem mm_q_X2_weightAt : tables_1[957]? = some (Cond.code yX2_weightAt cX2_weightAt 2 (some .int)) := by rfl
set_option maxRecDepth 100000 in
theorem mm_q_X2_heaviest : tables_1[952]? = some (Cond.code yX2_heaviest cX2_heaviest 6 (some .int)) := by rfl
set_option maxRecDepth 100000 in
theorem mm_q_X2_chosenBy : tables_1[989]? = some (Cond.code yX2_chosenBy cX2_chosenBy 7 (some .int)) := by rfl
set_option maxRecDepth 100000 in
theorem mm_q_X2_partOf : tables_1[976]? = some (Cond.code yX2_partOf cX2_partOf 4 (some .int)) := by rfl
set_option maxRecDepth 100000 in
theorem mm_q_X3_init : tables_1[106]? = some (Cond.code yX3_init cX3_init 1 none) := by rfl
set_option maxRecDepth 100000 in
theorem mm_q_X3_firstWrong : tables_1[826]? = some (Cond.code yX3_firstWrong cX3_firstWrong 3 (some .int)) := by rfl
set_option maxRecDepth 100000 in
theorem mm_q_X3_leastNumber : tables_1[883]? = some (Cond.code yX3_leastNumber cX3_leastNumber 13 (some .long)) := by rfl
set_option maxRecDepth 100000 in
theorem mm_q_X3_withRemainder : tables_1[892]? = some (Cond.code yX3_withRemainder cX3_withRemainder 9 (some .long)) := by rfl
set_option maxRecDepth 100000 in
theorem mm_q_X3_leastCommon : tables_1[895]? = some (Cond.code yX3_leastCommon cX3_leastCommon 5 (some .long)) := by rfl
set_option maxRecDepth 100000 in
theorem mm_q_X3_tryRules : tables_1[911]? = some (Cond.code yX3_tryRules cX3_tryRules 6 none) := by rfl
set_option maxRecDepth 100000 in
theorem mm_q_X3_isBy : tables_1[916]? = some (Cond.code yX3_isBy cX3_isBy 11 (some .boolean)) := by rfl
set_option maxRecDepth 100000 in
theorem mm_q_X4_goer : tables_1[930]? = some (Cond.code yX4_goer cX4_goer 6 (some .int)) := by rfl
set_option maxRecDepth 100000 in
theorem mm_q_X4_farGoer : tables_1[837]? = some (Cond.code yX4_farGoer cX4_farGoer 8 (some .long)) := by rfl
set_option maxRecDepth 100000 in
theorem mm_q_X4_placeOf : tables_1[845]? = some (Cond.code yX4_placeOf cX4_placeOf 8 (some .long)) := by rfl
set_option maxRecDepth 100000 in
theorem mm_q_X4_sizeKeeping : tables_1[853]? = some (Cond.code yX4_sizeKeeping cX4_sizeKeeping 6 (some .int)) := by rfl
set_option maxRecDepth 100000 in
theorem mm_q_X4_leastSending : tables_1[863]? = some (Cond.code yX4_leastSending cX4_leastSending 5 (some .int)) := by rfl
set_option maxRecDepth 100000 in
theorem mm_q_X4_sends : tables_1[867]? = some (Cond.code yX4_sends cX4_sends 10 (some .boolean)) := by rfl
set_option maxRecDepth 100000 in
theorem mm_q_X4_greatestCommon : tables_1[898]? = some (Cond.code yX4_greatestCommon cX4_greatestCommon 11 (some .long)) := by rfl
set_option maxRecDepth 100000 in
theorem mm_q_X4_neverLast : tables_1[927]? = some (Cond.code yX4_neverLast cX4_neverLast 5 (some .long)) := by rfl
set_option maxRecDepth 100000 in
theorem mm_q_X4_leastForAll : tables_1[965]? = some (Cond.code yX4_leastForAll cX4_leastForAll 4 (some .int)) := by rfl
set_option maxRecDepth 100000 in
theorem mm_q_X5_init : tables_1[170]? = some (Cond.code yX5_init cX5_init 1 none) := by rfl
set_option maxRecDepth 100000 in
theorem mm_q_X5_clear : tables_1[175]? = some (Cond.code yX5_clear cX5_clear 1 none) := by rfl
set_option maxRecDepth 100000 in
theorem mm_q_X5_settle : tables_1[585]? = some (Cond.code yX5_settle cX5_settle 1 none) := by rfl
set_option maxRecDepth 100000 in
theorem mm_q_X5_set : tables_1[581]? = some (Cond.code yX5_set cX5_set 3 none) := by rfl
set_option maxRecDepth 100000 in
theorem mm_q_X5_knows : tables_1[557]? = some (Cond.code yX5_knows cX5_knows 4 (some .boolean)) := by rfl
set_option maxRecDepth 100000 in
theorem mm_q_X5_draws : tables_1[569]? = some (Cond.code yX5_draws cX5_draws 3 (some .boolean)) := by rfl
set_option maxRecDepth 100000 in
theorem mm_q_X5_addPerson : tables_1[561]? = some (Cond.code yX5_addPerson cX5_addPerson 4 none) := by rfl
set_option maxRecDepth 100000 in
theorem mm_q_X5_addDrawn : tables_1[573]? = some (Cond.code yX5_addDrawn cX5_addDrawn 3 none) := by rfl
set_option maxRecDepth 100000 in
theorem mm_q_X5_forgetCount : tables_1[495]? = some (Cond.code yX5_forgetCount cX5_forgetCount 1 none) := by rfl
set_option maxRecDepth 100000 in
theorem mm_q_X5_addCode : tables_1[516]? = some (Cond.code yX5_addCode cX5_addCode 2 none) := by rfl
set_option maxRecDepth 100000 in
theorem mm_q_X5_hitsToGo : tables_1[679]? = some (Cond.code yX5_hitsToGo cX5_hitsToGo 2 (some .int)) := by rfl
set_option maxRecDepth 100000 in
theorem mm_q_X5_countOf : tables_1[619]? = some (Cond.code yX5_countOf cX5_countOf 7 (some .int)) := by rfl
set_option maxRecDepth 100000 in
theorem mm_q_X5_isJoint : tables_1[622]? = some (Cond.code yX5_isJoint cX5_isJoint 1 (some .boolean)) := by rfl
set_option maxRecDepth 100000 in
theorem mm_q_X5_valueOf : tables_1[629]? = some (Cond.code yX5_valueOf cX5_valueOf 5 (some .int)) := by rfl
set_option maxRecDepth 100000 in
theorem mm_q_X5_joined : tables_1[625]? = some (Cond.code yX5_joined cX5_joined 3 (some .int)) := by rfl
set_option maxRecDepth 100000 in
theorem mm_q_X6_all : tables_1[387]? = some (Cond.code yX6_all cX6_all 1 (some .long)) := by rfl
set_option maxRecDepth 100000 in
theorem mm_q_X6_has : tables_1[682]? = some (Cond.code yX6_has cX6_has 3 (some .boolean)) := by rfl
set_option maxRecDepth 100000 in
theorem mm_q_X6_bit : tables_1[685]? = some (Cond.code yX6_bit cX6_bit 1 (some .long)) := by rfl
set_option maxRecDepth 100000 in
theorem mm_q_X6_below : tables_1[657]? = some (Cond.code yX6_below cX6_below 3 (some .int)) := by rfl
set_option maxRecDepth 100000 in
theorem mm_q_X6_next : tables_1[650]? = some (Cond.code yX6_next cX6_next 3 (some .int)) := by rfl
set_option maxRecDepth 100000 in
theorem mm_q_X6_ranked : tables_1[664]? = some (Cond.code yX6_ranked cX6_ranked 6 (some .int)) := by rfl
set_option maxRecDepth 100000 in
theorem mm_q_X6_counted : tables_1[653]? = some (Cond.code yX6_counted cX6_counted 8 (some .int)) := by rfl
set_option maxRecDepth 100000 in
theorem mm_q_X6_countTo : tables_1[889]? = some (Cond.code yX6_countTo cX6_countTo 5 (some .int)) := by rfl
set_option maxRecDepth 100000 in
theorem mm_q_X7_init : tables_1[261]? = some (Cond.code yX7_init cX7_init 2 none) := by rfl
set_option maxRecDepth 100000 in
theorem mm_q_X7_read : tables_1[442]? = some (Cond.code yX7_read cX7_read 3 (some .boolean)) := by rfl
set_option maxRecDepth 100000 in
theorem mm_q_X7_fail : tables_1[491]? = some (Cond.code yX7_fail cX7_fail 2 (some .boolean)) := by rfl
set_option maxRecDepth 100000 in
theorem mm_q_X7_take : tables_1[535]? = some (Cond.code yX7_take cX7_take 2 (some .boolean)) := by rfl
set_option maxRecDepth 100000 in
theorem mm_q_X7_readLine : tables_1[483]? = some (Cond.code yX7_readLine cX7_readLine 3 (some .boolean)) := by rfl
set_option maxRecDepth 100000 in
theorem mm_q_X7_isFull : tables_1[487]? = some (Cond.code yX7_isFull cX7_isFull 2 (some .boolean)) := by rfl
set_option maxRecDepth 100000 in
theorem mm_q_X7_isNumber : tables_1[543]? = some (Cond.code yX7_isNumber cX7_isNumber 3 (some .boolean)) := by rfl
set_option maxRecDepth 100000 in
theorem mm_q_X7_readSetting : tables_1[577]? = some (Cond.code yX7_readSetting cX7_readSetting 4 (some .boolean)) := by rfl
set_option maxRecDepth 100000 in
theorem mm_q_X7_readGuard : tables_1[539]? = some (Cond.code yX7_readGuard cX7_readGuard 2 (some .boolean)) := by rfl
set_option maxRecDepth 100000 in
theorem mm_q_X7_readRhyme : tables_1[549]? = some (Cond.code yX7_readRhyme cX7_readRhyme 2 (some .boolean)) := by rfl
set_option maxRecDepth 100000 in
theorem mm_q_X7_readPerson : tables_1[553]? = some (Cond.code yX7_readPerson cX7_readPerson 3 (some .boolean)) := by rfl
set_option maxRecDepth 100000 in
theorem mm_q_X7_readDrawn : tables_1[565]? = some (Cond.code yX7_readDrawn cX7_readDrawn 2 (some .boolean)) := by rfl
set_option maxRecDepth 100000 in
theorem mm_q_X7_readEither : tables_1[500]? = some (Cond.code yX7_readEither cX7_readEither 4 (some .boolean)) := by rfl
set_option maxRecDepth 100000 in
theorem mm_q_X7_readBoth : tables_1[504]? = some (Cond.code yX7_readBoth cX7_readBoth 4 (some .boolean)) := by rfl
set_option maxRecDepth 100000 in
theorem mm_q_X7_readOne : tables_1[508]? = some (Cond.code yX7_readOne cX7_readOne 4 (some .boolean)) := by rfl
set_option maxRecDepth 100000 in
theorem mm_q_X7_readNot : tables_1[512]? = some (Cond.code yX7_readNot cX7_readNot 3 (some .boolean)) := by rfl
set_option maxRecDepth 100000 in
theorem mm_q_X7_readSum : tables_1[520]? = some (Cond.code yX7_readSum cX7_readSum 5 (some .boolean)) := by rfl
set_option maxRecDepth 100000 in
theorem mm_q_X7_readTerm : tables_1[524]? = some (Cond.code yX7_readTerm cX7_readTerm 5 (some .boolean)) := by rfl
set_option maxRecDepth 100000 in
theorem mm_q_X7_readUnit : tables_1[528]? = some (Cond.code yX7_readUnit cX7_readUnit 3 (some .boolean)) := by rfl
set_option maxRecDepth 100000 in
theorem mm_q_X7_isUnit : tables_1[531]? = some (Cond.code yX7_isUnit cX7_isUnit 1 (some .boolean)) := by rfl
set_option maxRecDepth 100000 in
theorem mm_q_X8_init : tables_1[143]? = some (Cond.code yX8_init cX8_init 1 none) := by rfl
set_option maxRecDepth 100000 in
theorem mm_q_X8_tell : tables_1[1004]? = some (Cond.code yX8_tell cX8_tell 7 (some .int)) := by rfl
set_option maxRecDepth 100000 in
theorem mm_q_X8_takeBack : tables_1[1013]? = some (Cond.code yX8_takeBack cX8_takeBack 3 (some .boolean)) := by rfl
set_option maxRecDepth 100000 in
theorem mm_q_X8_sift : tables_1[1026]? = some (Cond.code yX8_sift cX8_sift 5 none) := by rfl
set_option maxRecDepth 100000 in
theorem mm_q_X8_isFit : tables_1[1035]? = some (Cond.code yX8_isFit cX8_isFit 2 (some .boolean)) := by rfl
set_option maxRecDepth 100000 in
theorem mm_q_X8_fitCount : tables_1[1031]? = some (Cond.code yX8_fitCount cX8_fitCount 3 (some .int)) := by rfl
set_option maxRecDepth 100000 in
theorem mm_q_X8_leastFit : tables_1[1039]? = some (Cond.code yX8_leastFit cX8_leastFit 2 (some .int)) := by rfl
set_option maxRecDepth 100000 in
theorem mm_q_X8_bestQuestion : tables_1[1047]? = some (Cond.code yX8_bestQuestion cX8_bestQuestion 4 (some .int)) := by rfl
set_option maxRecDepth 100000 in
theorem mm_q_X8_tallyOrder : tables_1[1052]? = some (Cond.code yX8_tallyOrder cX8_tallyOrder 8 none) := by rfl
set_option maxRecDepth 100000 in
theorem mm_q_X8_greatestAt : tables_1[1059]? = some (Cond.code yX8_greatestAt cX8_greatestAt 5 (some .int)) := by rfl
set_option maxRecDepth 100000 in
theorem mm_q_X9_init : tables_1[267]? = some (Cond.code yX9_init cX9_init 6 none) := by rfl
set_option maxRecDepth 100000 in
theorem mm_q_X9_addFour : tables_1[430]? = some (Cond.code yX9_addFour cX9_addFour 3 none) := by rfl
set_option maxRecDepth 100000 in
theorem mm_q_X9_rewind : tables_1[447]? = some (Cond.code yX9_rewind cX9_rewind 1 none) := by rfl
set_option maxRecDepth 100000 in
theorem mm_q_X9_advance : tables_1[451]? = some (Cond.code yX9_advance cX9_advance 2 none) := by rfl
set_option maxRecDepth 100000 in
theorem mm_q_X9_takeWord : tables_1[465]? = some (Cond.code yX9_takeWord cX9_takeWord 1 none) := by rfl
set_option maxRecDepth 100000 in
theorem mm_q_X9_takeNumber : tables_1[476]? = some (Cond.code yX9_takeNumber cX9_takeNumber 2 none) := by rfl
set_option maxRecDepth 100000 in
theorem mm_q_X9_kindOf : tables_1[469]? = some (Cond.code yX9_kindOf cX9_kindOf 4 (some .int)) := by rfl
set_option maxRecDepth 100000 in
theorem mm_q_X9_byteAt : tables_1[455]? = some (Cond.code yX9_byteAt cX9_byteAt 2 (some .int)) := by rfl
set_option maxRecDepth 100000 in
theorem mm_q_X9_withLetter : tables_1[320]? = some (Cond.code yX9_withLetter cX9_withLetter 3 (some .long)) := by rfl
set_option maxRecDepth 100000 in
theorem mm_q_X9_isBlank : tables_1[458]? = some (Cond.code yX9_isBlank cX9_isBlank 1 (some .boolean)) := by rfl
set_option maxRecDepth 100000 in
theorem mm_q_X9_isLetter : tables_1[461]? = some (Cond.code yX9_isLetter cX9_isLetter 1 (some .boolean)) := by rfl
set_option maxRecDepth 100000 in
theorem mm_q_X9_isDigit : tables_1[472]? = some (Cond.code yX9_isDigit cX9_isDigit 1 (some .boolean)) := by rfl
set_option maxRecDepth 100000 in
theorem mm_q_X9_isSign : tables_1[479]? = some (Cond.code yX9_isSign cX9_isSign 1 (some .boolean)) := by rfl
set_option maxRecDepth 100000 in
theorem mm_q_X10_init : tables_1[27]? = some (Cond.code yX10_init cX10_init 2 none) := by rfl
set_option maxRecDepth 100000 in
theorem mm_q_X10_feed : tables_1[426]? = some (Cond.code yX10_feed cX10_feed 7 (some .int)) := by rfl
set_option maxRecDepth 100000 in
theorem mm_q_X10_end : tables_1[434]? = some (Cond.code yX10_end cX10_end 3 (some .int)) := by rfl
set_option maxRecDepth 100000 in
theorem mm_q_X10_ring : tables_1[438]? = some (Cond.code yX10_ring cX10_ring 3 (some .int)) := by rfl
set_option maxRecDepth 100000 in
theorem mm_q_X10_fault : tables_1[593]? = some (Cond.code yX10_fault cX10_fault 2 (some .int)) := by rfl
set_option maxRecDepth 100000 in
theorem mm_q_X10_go : tables_1[597]? = some (Cond.code yX10_go cX10_go 2 (some .int)) := by rfl
set_option maxRecDepth 100000 in
theorem mm_q_X10_post : tables_1[690]? = some (Cond.code yX10_post cX10_post 3 (some .int)) := by rfl
set_option maxRecDepth 100000 in
theorem mm_q_X10_went : tables_1[703]? = some (Cond.code yX10_went cX10_went 2 (some .int)) := by rfl
set_option maxRecDepth 100000 in
theorem mm_q_X10_left : tables_1[707]? = some (Cond.code yX10_left cX10_left 1 (some .long)) := by rfl
set_option maxRecDepth 100000 in
theorem mm_q_X10_when : tables_1[723]? = some (Cond.code yX10_when cX10_when 2 (some .int)) := by rfl
set_option maxRecDepth 100000 in
theorem mm_q_X10_late : tables_1[733]? = some (Cond.code yX10_late cX10_late 2 (some .long)) := by rfl
set_option maxRecDepth 100000 in
theorem mm_q_X10_bribe : tables_1[754]? = some (Cond.code yX10_bribe cX10_bribe 2 (some .int)) := by rfl
set_option maxRecDepth 100000 in
theorem mm_q_X10_stay : tables_1[763]? = some (Cond.code yX10_stay cX10_stay 2 (some .long)) := by rfl
set_option maxRecDepth 100000 in
theorem mm_q_X10_meet : tables_1[767]? = some (Cond.code yX10_meet cX10_meet 1 (some .int)) := by rfl
set_option maxRecDepth 100000 in
theorem mm_q_X10_begins : tables_1[782]? = some (Cond.code yX10_begins cX10_begins 2 (some .long)) := by rfl
set_option maxRecDepth 100000 in
theorem mm_q_X10_chooses : tables_1[792]? = some (Cond.code yX10_chooses cX10_chooses 3 (some .int)) := by rfl
set_option maxRecDepth 100000 in
theorem mm_q_X10_order : tables_1[810]? = some (Cond.code yX10_order cX10_order 2 (some .int)) := by rfl
set_option maxRecDepth 100000 in
theorem mm_q_X10_keep : tables_1[814]? = some (Cond.code yX10_keep cX10_keep 2 (some .int)) := by rfl
set_option maxRecDepth 100000 in
theorem mm_q_X10_judge : tables_1[818]? = some (Cond.code yX10_judge cX10_judge 1 (some .int)) := by rfl
set_option maxRecDepth 100000 in
theorem mm_q_X10_far : tables_1[830]? = some (Cond.code yX10_far cX10_far 6 (some .long)) := by rfl
set_option maxRecDepth 100000 in
theorem mm_q_X10_at : tables_1[842]? = some (Cond.code yX10_at cX10_at 6 (some .long)) := by rfl
set_option maxRecDepth 100000 in
theorem mm_q_X10_size : tables_1[850]? = some (Cond.code yX10_size cX10_size 4 (some .int)) := by rfl
set_option maxRecDepth 100000 in
theorem mm_q_X10_keeps : tables_1[857]? = some (Cond.code yX10_keeps cX10_keeps 4 (some .int)) := by rfl
set_option maxRecDepth 100000 in
theorem mm_q_X10_first : tables_1[875]? = some (Cond.code yX10_first cX10_first 4 (some .int)) := by rfl
set_option maxRecDepth 100000 in
theorem mm_q_X10_number : tables_1[879]? = some (Cond.code yX10_number cX10_number 2 (some .long)) := by rfl
set_option maxRecDepth 100000 in
theorem mm_q_X10_guess : tables_1[904]? = some (Cond.code yX10_guess cX10_guess 3 (some .int)) := by rfl
set_option maxRecDepth 100000 in
theorem mm_q_X10_never : tables_1[921]? = some (Cond.code yX10_never cX10_never 3 (some .long)) := by rfl
set_option maxRecDepth 100000 in
theorem mm_q_X10_often : tables_1[934]? = some (Cond.code yX10_often cX10_often 5 (some .int)) := by rfl
set_option maxRecDepth 100000 in
theorem mm_q_X10_ever : tables_1[962]? = some (Cond.code yX10_ever cX10_ever 2 (some .int)) := by rfl
set_option maxRecDepth 100000 in
theorem mm_q_X10_chance : tables_1[969]? = some (Cond.code yX10_chance cX10_chance 4 (some .int)) := by rfl
set_option maxRecDepth 100000 in
theorem mm_q_X10_choice : tables_1[981]? = some (Cond.code yX10_choice cX10_choice 3 (some .int)) := by rfl
set_option maxRecDepth 100000 in
theorem mm_q_X10_expected : tables_1[996]? = some (Cond.code yX10_expected cX10_expected 5 (some .int)) := by rfl
set_option maxRecDepth 100000 in
theorem mm_q_X10_sight : tables_1[1000]? = some (Cond.code yX10_sight cX10_sight 4 (some .int)) := by rfl
set_option maxRecDepth 100000 in
theorem mm_q_X10_untell : tables_1[1009]? = some (Cond.code yX10_untell cX10_untell 2 (some .boolean)) := by rfl
set_option maxRecDepth 100000 in
theorem mm_q_X10_later : tables_1[1017]? = some (Cond.code yX10_later cX10_later 2 (some .int)) := by rfl
set_option maxRecDepth 100000 in
theorem mm_q_X10_fits : tables_1[1022]? = some (Cond.code yX10_fits cX10_fits 3 (some .int)) := by rfl
set_option maxRecDepth 100000 in
theorem mm_q_X10_ask : tables_1[1043]? = some (Cond.code yX10_ask cX10_ask 5 (some .int)) := by rfl
set_option maxRecDepth 100000 in
theorem mm_q_X10_image : tables_1[1065]? = some (Cond.code yX10_image cX10_image 3 (some .int)) := by rfl
set_option maxRecDepth 100000 in
theorem mm_q_X10_back : tables_1[1074]? = some (Cond.code yX10_back cX10_back 3 (some .int)) := by rfl
set_option maxRecDepth 100000 in
theorem mm_q_X10_about : tables_1[1078]? = some (Cond.code yX10_about cX10_about 2 (some .int)) := by rfl
set_option maxRecDepth 100000 in
theorem mm_q_X10_boxAt : tables_1[1069]? = some (Cond.code yX10_boxAt cX10_boxAt 2 (some (.object "PostRing$Course"))) := by rfl
set_option maxRecDepth 100000 in
theorem mm_q_X10_emptyBoxes : tables_1[589]? = some (Cond.code yX10_emptyBoxes cX10_emptyBoxes 3 none) := by rfl
set_option maxRecDepth 100000 in
theorem mm_q_X10_isPost : tables_1[694]? = some (Cond.code yX10_isPost cX10_isPost 2 (some .boolean)) := by rfl
set_option maxRecDepth 100000 in
theorem mm_q_X10_isChooser : tables_1[985]? = some (Cond.code yX10_isChooser cX10_isChooser 3 (some .boolean)) := by rfl
set_option maxRecDepth 100000 in
theorem mm_q_X10_isPlain : tables_1[860]? = some (Cond.code yX10_isPlain cX10_isPlain 1 (some .boolean)) := by rfl
set_option maxRecDepth 100000 in
theorem mm_q_X10_isLarge : tables_1[833]? = some (Cond.code yX10_isLarge cX10_isLarge 3 (some .boolean)) := by rfl
set_option maxRecDepth 100000 in
theorem mm_q_X10_isStep : tables_1[924]? = some (Cond.code yX10_isStep cX10_isStep 1 (some .boolean)) := by rfl
set_option maxRecDepth 100000 in
theorem mm_q_X10_isSet : tables_1[795]? = some (Cond.code yX10_isSet cX10_isSet 3 (some .boolean)) := by rfl
set_option maxRecDepth 100000 in
theorem mm_q_X10_isZeroOrOne : tables_1[907]? = some (Cond.code yX10_isZeroOrOne cX10_isZeroOrOne 1 (some .boolean)) := by rfl
set_option maxRecDepth 100000 in
theorem mm_q_X11_init : tables_1[1085]? = some (Cond.code yX11_init cX11_init 1 none) := by rfl
set_option maxRecDepth 100000 in
theorem mm_q_X11_feed : tables_1[1392]? = some (Cond.code yX11_feed cX11_feed 6 (some .int)) := by rfl
set_option maxRecDepth 100000 in
theorem mm_q_X11_four : tables_1[1396]? = some (Cond.code yX11_four cX11_four 3 none) := by rfl
set_option maxRecDepth 100000 in
theorem mm_q_X11_end : tables_1[1400]? = some (Cond.code yX11_end cX11_end 2 (some .int)) := by rfl
set_option maxRecDepth 100000 in
theorem mm_q_X11_here : tables_1[1416]? = some (Cond.code yX11_here cX11_here 2 (some .int)) := by rfl
set_option maxRecDepth 100000 in
theorem mm_q_X11_isLetter : tables_1[1419]? = some (Cond.code yX11_isLetter cX11_isLetter 1 (some .boolean)) := by rfl
set_option maxRecDepth 100000 in
theorem mm_q_X11_isDigit : tables_1[1422]? = some (Cond.code yX11_isDigit cX11_isDigit 1 (some .boolean)) := by rfl
set_option maxRecDepth 100000 in
theorem mm_q_X11_isSign : tables_1[1425]? = some (Cond.code yX11_isSign cX11_isSign 1 (some .boolean)) := by rfl
set_option maxRecDepth 100000 in
theorem mm_q_X11_token : tables_1[1412]? = some (Cond.code yX11_token cX11_token 3 none) := by rfl
set_option maxRecDepth 100000 in
theorem mm_q_X11_wrong : tables_1[1446]? = some (Cond.code yX11_wrong cX11_wrong 2 none) := by rfl
set_option maxRecDepth 100000 in
theorem mm_q_X11_isWord : tables_1[1434]? = some (Cond.code yX11_isWord cX11_isWord 3 (some .boolean)) := by rfl
set_option maxRecDepth 100000 in
theorem mm_q_X11_isName : tables_1[1534]? = some (Cond.code yX11_isName cX11_isName 3 (some .boolean)) := by rfl
set_option maxRecDepth 100000 in
theorem mm_q_X11_want : tables_1[1525]? = some (Cond.code yX11_want cX11_want 3 none) := by rfl
set_option maxRecDepth 100000 in
theorem mm_q_X11_toldNumber : tables_1[1442]? = some (Cond.code yX11_toldNumber cX11_toldNumber 4 (some .int)) := by rfl
set_option maxRecDepth 100000 in
theorem mm_q_X11_told : tables_1[1521]? = some (Cond.code yX11_told cX11_told 5 (some .int)) := by rfl
set_option maxRecDepth 100000 in
theorem mm_q_X11_note : tables_1[1490]? = some (Cond.code yX11_note cX11_note 3 none) := by rfl
set_option maxRecDepth 100000 in
theorem mm_q_X11_upper : tables_1[1479]? = some (Cond.code yX11_upper cX11_upper 1 (some .int)) := by rfl
set_option maxRecDepth 100000 in
theorem mm_q_X11_hold : tables_1[1494]? = some (Cond.code yX11_hold cX11_hold 2 none) := by rfl
set_option maxRecDepth 100000 in
theorem mm_q_X11_pop : tables_1[1486]? = some (Cond.code yX11_pop cX11_pop 1 none) := by rfl
set_option maxRecDepth 100000 in
theorem mm_q_X11_rank : tables_1[1482]? = some (Cond.code yX11_rank cX11_rank 1 (some .int)) := by rfl
set_option maxRecDepth 100000 in
theorem mm_q_X11_settle : tables_1[1475]? = some (Cond.code yX11_settle cX11_settle 2 none) := by rfl
set_option maxRecDepth 100000 in
theorem mm_q_X11_isOpen : tables_1[1461]? = some (Cond.code yX11_isOpen cX11_isOpen 3 (some .boolean)) := by rfl
set_option maxRecDepth 100000 in
theorem mm_q_X11_known : tables_1[1503]? = some (Cond.code yX11_known cX11_known 1 (some .int)) := by rfl
set_option maxRecDepth 100000 in
theorem mm_q_X11_operand : tables_1[1498]? = some (Cond.code yX11_operand cX11_operand 5 (some .int)) := by rfl
set_option maxRecDepth 100000 in
theorem mm_q_X11_signOf : tables_1[1469]? = some (Cond.code yX11_signOf cX11_signOf 1 (some .int)) := by rfl
set_option maxRecDepth 100000 in
theorem mm_q_X11_sign : tables_1[1465]? = some (Cond.code yX11_sign cX11_sign 2 (some .int)) := by rfl
set_option maxRecDepth 100000 in
theorem mm_q_X11_readCount : tables_1[1457]? = some (Cond.code yX11_readCount cX11_readCount 2 none) := by rfl
set_option maxRecDepth 100000 in
theorem mm_q_X11_readNumber : tables_1[1438]? = some (Cond.code yX11_readNumber cX11_readNumber 4 none) := by rfl
set_option maxRecDepth 100000 in
theorem mm_q_X11_readGuard : tables_1[1516]? = some (Cond.code yX11_readGuard cX11_readGuard 3 none) := by rfl
set_option maxRecDepth 100000 in
theorem mm_q_X11_readRhyme : tables_1[1530]? = some (Cond.code yX11_readRhyme cX11_readRhyme 1 none) := by rfl
set_option maxRecDepth 100000 in
theorem mm_q_X11_readPerson : tables_1[1542]? = some (Cond.code yX11_readPerson cX11_readPerson 5 none) := by rfl
set_option maxRecDepth 100000 in
theorem mm_q_X11_readDrawn : tables_1[1546]? = some (Cond.code yX11_readDrawn cX11_readDrawn 4 none) := by rfl
set_option maxRecDepth 100000 in
theorem mm_q_X11_readCountLine : tables_1[1453]? = some (Cond.code yX11_readCountLine cX11_readCountLine 1 none) := by rfl
set_option maxRecDepth 100000 in
theorem mm_q_X11_readLine : tables_1[1429]? = some (Cond.code yX11_readLine cX11_readLine 1 none) := by rfl
set_option maxRecDepth 100000 in
theorem mm_q_X11_readAll : tables_1[1408]? = some (Cond.code yX11_readAll cX11_readAll 2 none) := by rfl
set_option maxRecDepth 100000 in
theorem mm_q_X11_ring : tables_1[1404]? = some (Cond.code yX11_ring cX11_ring 2 (some .int)) := by rfl
set_option maxRecDepth 100000 in
theorem mm_q_X11_fault : tables_1[1550]? = some (Cond.code yX11_fault cX11_fault 2 (some .int)) := by rfl
set_option maxRecDepth 100000 in
theorem mm_q_X11_isPost : tables_1[1585]? = some (Cond.code yX11_isPost cX11_isPost 2 (some .boolean)) := by rfl
set_option maxRecDepth 100000 in
theorem mm_q_X11_fresh : tables_1[1090]? = some (Cond.code yX11_fresh cX11_fresh 3 none) := by rfl
set_option maxRecDepth 100000 in
theorem mm_q_X11_put : tables_1[1597]? = some (Cond.code yX11_put cX11_put 2 none) := by rfl
set_option maxRecDepth 100000 in
theorem mm_q_X11_bring : tables_1[1613]? = some (Cond.code yX11_bring cX11_bring 2 none) := by rfl
set_option maxRecDepth 100000 in
theorem mm_q_X11_worked : tables_1[1569]? = some (Cond.code yX11_worked cX11_worked 3 (some .int)) := by rfl
set_option maxRecDepth 100000 in
theorem mm_q_X11_counted : tables_1[1566]? = some (Cond.code yX11_counted cX11_counted 3 (some .int)) := by rfl
set_option maxRecDepth 100000 in
theorem mm_q_X11_isGuarded : tables_1[1573]? = some (Cond.code yX11_isGuarded cX11_isGuarded 4 (some .boolean)) := by rfl
set_option maxRecDepth 100000 in
theorem mm_q_X11_isEnded : tables_1[1558]? = some (Cond.code yX11_isEnded cX11_isEnded 1 (some .boolean)) := by rfl
set_option maxRecDepth 100000 in
theorem mm_q_X11_going : tables_1[1562]? = some (Cond.code yX11_going cX11_going 7 none) := by rfl
set_option maxRecDepth 100000 in
theorem mm_q_X11_leaves : tables_1[1577]? = some (Cond.code yX11_leaves cX11_leaves 3 none) := by rfl
set_option maxRecDepth 100000 in
theorem mm_q_X11_goOn : tables_1[1605]? = some (Cond.code yX11_goOn cX11_goOn 1 none) := by rfl
set_option maxRecDepth 100000 in
theorem mm_q_X11_standSet : tables_1[1609]? = some (Cond.code yX11_standSet cX11_standSet 4 (some .long)) := by rfl
set_option maxRecDepth 100000 in
theorem mm_q_X11_go : tables_1[1554]? = some (Cond.code yX11_go cX11_go 3 (some .int)) := by rfl
set_option maxRecDepth 100000 in
theorem mm_q_X11_post : tables_1[1581]? = some (Cond.code yX11_post cX11_post 3 (some .int)) := by rfl
set_option maxRecDepth 100000 in
theorem mm_q_X11_went : tables_1[1589]? = some (Cond.code yX11_went cX11_went 2 (some .int)) := by rfl
set_option maxRecDepth 100000 in
theorem mm_q_X11_seekLeft : tables_1[1601]? = some (Cond.code yX11_seekLeft cX11_seekLeft 3 (some .long)) := by rfl
set_option maxRecDepth 100000 in
theorem mm_q_X11_left : tables_1[1593]? = some (Cond.code yX11_left cX11_left 1 (some .long)) := by rfl
set_option maxRecDepth 100000 in
theorem mm_q_X11_when : tables_1[1617]? = some (Cond.code yX11_when cX11_when 3 (some .int)) := by rfl
set_option maxRecDepth 100000 in
theorem mm_q_X11_goSome : tables_1[1630]? = some (Cond.code yX11_goSome cX11_goSome 3 none) := by rfl
set_option maxRecDepth 100000 in
theorem mm_q_X11_isLateLeft : tables_1[1626]? = some (Cond.code yX11_isLateLeft cX11_isLateLeft 3 (some .boolean)) := by rfl
set_option maxRecDepth 100000 in
theorem mm_q_X11_lateGo : tables_1[1634]? = some (Cond.code yX11_lateGo cX11_lateGo 1 none) := by rfl
set_option maxRecDepth 100000 in
theorem mm_q_X11_late : tables_1[1621]? = some (Cond.code yX11_late cX11_late 5 (some .long)) := by rfl
set_option maxRecDepth 100000 in
theorem mm_q_X11_bribe : tables_1[1638]? = some (Cond.code yX11_bribe cX11_bribe 6 (some .int)) := by rfl
set_option maxRecDepth 100000 in
theorem mm_q_X11_stay : tables_1[1642]? = some (Cond.code yX11_stay cX11_stay 2 (some .long)) := by rfl
set_option maxRecDepth 100000 in
theorem mm_q_X11_areNear : tables_1[1650]? = some (Cond.code yX11_areNear cX11_areNear 2 (some .boolean)) := by rfl
set_option maxRecDepth 100000 in
theorem mm_q_X11_meet : tables_1[1646]? = some (Cond.code yX11_meet cX11_meet 2 (some .int)) := by rfl
set_option maxRecDepth 100000 in
theorem mm_q_X11_begins : tables_1[1654]? = some (Cond.code yX11_begins cX11_begins 5 (some .long)) := by rfl
set_option maxRecDepth 100000 in
theorem mm_q_X11_isSet : tables_1[1662]? = some (Cond.code yX11_isSet cX11_isSet 3 (some .boolean)) := by rfl
set_option maxRecDepth 100000 in
theorem mm_q_X11_chooses : tables_1[1659]? = some (Cond.code yX11_chooses cX11_chooses 5 (some .int)) := by rfl
set_option maxRecDepth 100000 in
theorem mm_q_X11_order : tables_1[1666]? = some (Cond.code yX11_order cX11_order 2 (some .int)) := by rfl
set_option maxRecDepth 100000 in
theorem mm_q_X11_keep : tables_1[1670]? = some (Cond.code yX11_keep cX11_keep 2 (some .int)) := by rfl
set_option maxRecDepth 100000 in
theorem mm_q_X11_judge : tables_1[1674]? = some (Cond.code yX11_judge cX11_judge 3 (some .int)) := by rfl
set_option maxRecDepth 100000 in
theorem mm_q_X11_farOf : tables_1[1685]? = some (Cond.code yX11_farOf cX11_farOf 7 (some .long)) := by rfl
set_option maxRecDepth 100000 in
theorem mm_q_X11_isPlain : tables_1[1681]? = some (Cond.code yX11_isPlain cX11_isPlain 3 (some .boolean)) := by rfl
set_option maxRecDepth 100000 in
theorem mm_q_X11_far : tables_1[1678]? = some (Cond.code yX11_far cX11_far 6 (some .long)) := by rfl
set_option maxRecDepth 100000 in
theorem mm_q_X11_at : tables_1[1689]? = some (Cond.code yX11_at cX11_at 8 (some .long)) := by rfl
set_option maxRecDepth 100000 in
theorem mm_q_X11_size : tables_1[1693]? = some (Cond.code yX11_size cX11_size 7 (some .int)) := by rfl
set_option maxRecDepth 100000 in
theorem mm_q_X11_isSmall : tables_1[1700]? = some (Cond.code yX11_isSmall cX11_isSmall 1 (some .boolean)) := by rfl
set_option maxRecDepth 100000 in
theorem mm_q_X11_ones : tables_1[1703]? = some (Cond.code yX11_ones cX11_ones 4 (some .int)) := by rfl
set_option maxRecDepth 100000 in
theorem mm_q_X11_areThose : tables_1[1706]? = some (Cond.code yX11_areThose cX11_areThose 8 (some .boolean)) := by rfl
set_option maxRecDepth 100000 in
theorem mm_q_X11_keeps : tables_1[1697]? = some (Cond.code yX11_keeps cX11_keeps 6 (some .int)) := by rfl
set_option maxRecDepth 100000 in
theorem mm_q_X11_first : tables_1[1710]? = some (Cond.code yX11_first cX11_first 6 (some .int)) := by rfl
set_option maxRecDepth 100000 in
theorem mm_q_X11_common : tables_1[1721]? = some (Cond.code yX11_common cX11_common 10 (some .long)) := by rfl
set_option maxRecDepth 100000 in
theorem mm_q_X11_looked : tables_1[1718]? = some (Cond.code yX11_looked cX11_looked 6 (some .int)) := by rfl
set_option maxRecDepth 100000 in
theorem mm_q_X11_number : tables_1[1714]? = some (Cond.code yX11_number cX11_number 12 (some .long)) := by rfl
set_option maxRecDepth 100000 in
theorem mm_q_X11_goesSo : tables_1[1729]? = some (Cond.code yX11_goesSo cX11_goesSo 11 (some .boolean)) := by rfl
set_option maxRecDepth 100000 in
theorem mm_q_X11_guess : tables_1[1725]? = some (Cond.code yX11_guess cX11_guess 9 (some .int)) := by rfl
set_option maxRecDepth 100000 in
theorem mm_q_X11_lastOf : tables_1[1743]? = some (Cond.code yX11_lastOf cX11_lastOf 4 (some .int)) := by rfl
set_option maxRecDepth 100000 in
theorem mm_q_X11_areNumbers : tables_1[1736]? = some (Cond.code yX11_areNumbers cX11_areNumbers 1 (some .boolean)) := by rfl
set_option maxRecDepth 100000 in
theorem mm_q_X11_layLasts : tables_1[1740]? = some (Cond.code yX11_layLasts cX11_layLasts 4 none) := by rfl
set_option maxRecDepth 100000 in
theorem mm_q_X11_never : tables_1[1733]? = some (Cond.code yX11_never cX11_never 6 (some .long)) := by rfl
set_option maxRecDepth 100000 in
theorem mm_q_X11_often : tables_1[1747]? = some (Cond.code yX11_often cX11_often 6 (some .int)) := by rfl
set_option maxRecDepth 100000 in
theorem mm_q_X11_ever : tables_1[1751]? = some (Cond.code yX11_ever cX11_ever 5 (some .int)) := by rfl
set_option maxRecDepth 100000 in
theorem mm_q_X11_allWeight : tables_1[1766]? = some (Cond.code yX11_allWeight cX11_allWeight 3 (some .int)) := by rfl
set_option maxRecDepth 100000 in
theorem mm_q_X11_weightOf : tables_1[1762]? = some (Cond.code yX11_weightOf cX11_weightOf 5 (some .int)) := by rfl
set_option maxRecDepth 100000 in
theorem mm_q_X11_partOf : tables_1[1769]? = some (Cond.code yX11_partOf cX11_partOf 4 (some .int)) := by rfl
set_option maxRecDepth 100000 in
theorem mm_q_X11_isPart : tables_1[1758]? = some (Cond.code yX11_isPart cX11_isPart 1 (some .boolean)) := by rfl
set_option maxRecDepth 100000 in
theorem mm_q_X11_chance : tables_1[1755]? = some (Cond.code yX11_chance cX11_chance 4 (some .int)) := by rfl
set_option maxRecDepth 100000 in
theorem mm_q_X11_chosen : tables_1[1777]? = some (Cond.code yX11_chosen cX11_chosen 8 (some .int)) := by rfl
set_option maxRecDepth 100000 in
theorem mm_q_X11_choice : tables_1[1773]? = some (Cond.code yX11_choice cX11_choice 3 (some .int)) := by rfl
set_option maxRecDepth 100000 in
theorem mm_q_X11_expected : tables_1[1781]? = some (Cond.code yX11_expected cX11_expected 5 (some .int)) := by rfl
set_option maxRecDepth 100000 in
theorem mm_q_X11_sight : tables_1[1785]? = some (Cond.code yX11_sight cX11_sight 4 (some .int)) := by rfl
set_option maxRecDepth 100000 in
theorem mm_q_X11_untell : tables_1[1789]? = some (Cond.code yX11_untell cX11_untell 2 (some .boolean)) := by rfl
set_option maxRecDepth 100000 in
theorem mm_q_X11_later : tables_1[1793]? = some (Cond.code yX11_later cX11_later 2 (some .int)) := by rfl
set_option maxRecDepth 100000 in
theorem mm_q_X11_counts : tables_1[1806]? = some (Cond.code yX11_counts cX11_counts 3 (some .boolean)) := by rfl
set_option maxRecDepth 100000 in
theorem mm_q_X11_doesFit : tables_1[1802]? = some (Cond.code yX11_doesFit cX11_doesFit 5 (some .boolean)) := by rfl
set_option maxRecDepth 100000 in
theorem mm_q_X11_fits : tables_1[1798]? = some (Cond.code yX11_fits cX11_fits 6 (some .int)) := by rfl
set_option maxRecDepth 100000 in
theorem mm_q_X11_greatestPart : tables_1[1814]? = some (Cond.code yX11_greatestPart cX11_greatestPart 6 (some .int)) := by rfl
set_option maxRecDepth 100000 in
theorem mm_q_X11_ask : tables_1[1810]? = some (Cond.code yX11_ask cX11_ask 9 (some .int)) := by rfl
set_option maxRecDepth 100000 in
theorem mm_q_X11_isBox : tables_1[1821]? = some (Cond.code yX11_isBox cX11_isBox 1 (some .boolean)) := by rfl
set_option maxRecDepth 100000 in
theorem mm_q_X11_image : tables_1[1818]? = some (Cond.code yX11_image cX11_image 4 (some .int)) := by rfl
set_option maxRecDepth 100000 in
theorem mm_q_X11_back : tables_1[1825]? = some (Cond.code yX11_back cX11_back 4 (some .int)) := by rfl
set_option maxRecDepth 100000 in
theorem mm_q_X11_about : tables_1[1829]? = some (Cond.code yX11_about cX11_about 2 (some .int)) := by rfl
set_option maxRecDepth 100000 in
theorem mm_q_J6_numberOfTrailingZeros_0f7a4 : tables_1[670]? = some (Cond.code yJ6_numberOfTrailingZeros_0f7a4 cJ6_numberOfTrailingZeros_0f7a4 2 (some .int)) := by rfl
set_option maxRecDepth 100000 in
theorem mm_q_J13_numberOfTrailingZeros_95d88 : tables_1[667]? = some (Cond.code yJ13_numberOfTrailingZeros_95d88 cJ13_numberOfTrailingZeros_95d88 3 (some .int)) := by rfl
set_option maxRecDepth 100000 in
theorem mm_q_J13_bitCount_95d88 : tables_1[608]? = some (Cond.code yJ13_bitCount_95d88 cJ13_bitCount_95d88 2 (some .int)) := by rfl
set_option maxRecDepth 100000 in
theorem mm_q_J9_floorMod_7cf53 : tables_1[661]? = some (Cond.code yJ9_floorMod_7cf53 cJ9_floorMod_7cf53 3 (some .int)) := by rfl
set_option maxRecDepth 100000 in
theorem mm_q_J9_abs_0f7a4 : tables_1[778]? = some (Cond.code yJ9_abs_0f7a4 cJ9_abs_0f7a4 1 (some .int)) := by rfl
set_option maxRecDepth 100000 in
theorem mm_q_J9_max_7cf53 : tables_1[635]? = some (Cond.code yJ9_max_7cf53 cJ9_max_7cf53 2 (some .int)) := by rfl
set_option maxRecDepth 100000 in
theorem mm_q_J9_min_7cf53 : tables_1[632]? = some (Cond.code yJ9_min_7cf53 cJ9_min_7cf53 2 (some .int)) := by rfl
set_option maxRecDepth 100000 in
theorem mm_q_J7_fill_53178 : tables_1[391]? = some (Cond.code yJ7_fill_53178 cJ7_fill_53178 4 none) := by rfl

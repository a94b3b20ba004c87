def mm_cr (ow : Nat) (ini : Bool) (pc : Nat) : mm_R → Bool
  | (.ifCond _ off, _, a, _, _, _) => decide ((pc : Int) + off = (a : Int))
  | (.if_icmp _ off, _, a, _, _, _) => decide ((pc : Int) + off = (a : Int))
  | (.goto off, _, a, _, _, _) => decide ((pc : Int) + off = (a : Int))
  | (.ifnull off, _, a, _, _, _) => decide ((pc : Int) + off = (a : Int))
  | (.ifnonnull off, _, a, _, _, _) => decide ((pc : Int) + off = (a : Int))
  | (.getfield i, _, a, b, c, _) => decide ((i, a, b) ∈ mm_ft ow) && decide (mm_fk (mm_ty a b) = c)
  | (.putfield i, _, a, b, c, _) => decide ((i, a, b) ∈ mm_ft ow) && (decide (mm_pk (mm_ty a b) = c) && (!(mm_fin a b) || (ini && decide (mm_co a = ow))))
  | (.ldc i, _, a, _, _, z) => decide ((i, a, z) ∈ mm_lt ow)
  | (.ldc_w i, _, a, _, _, z) => decide ((i, a, z) ∈ mm_lt ow)
  | (.ldc2_w i, _, _, _, _, z) => decide ((i, z) ∈ mm_jt ow)
  | (.new i, _, a, b, _, _) => decide ((i, a, b) ∈ mm_ct ow)
  | (.anewarray i, _, _, _, _, _) => decide (i ∈ mm_qt ow)
  | (.invokestatic i, _, y, n, c, z) => decide ((i, y, n, c, z) ∈ mm_mt ow)
  | (.invokevirtual i, _, y, n, c, z) => decide ((i, y, n, c, z) ∈ mm_vt ow)
  | (.invokespecial i, _, y, n, c, z) => decide ((i, y, n, c, z) ∈ mm_it ow)
  | (.tableswitch _ lo hi offs, _, _, _, _, _) => decide (offs.size = (hi - lo + 1).toNat) && decide (lo ≤ hi)
  | (.lookupswitch _ ps, _, _, _, _, _) => (ps.toList.zip (ps.toList.drop 1)).all (fun (a, next) => a.1 < next.1)
  | _ => true
def mm_cb (ow : Nat) (ini : Bool) (cc : ByteArray) (q : Nat × mm_R) : Bool := decide (decode cc q.1 = .ok (q.2.1, q.2.2.1)) && mm_cr ow ini q.1 q.2
/-- what a method's row in the table must keep -/
def mm_yok (q : mm_Mt) : Prop := plainFor q.1 = true ∧ (q.1 = yL_law ∨ Cond.code q.1 q.2.1 q.2.2.1 q.2.2.2.1 ∈ mm_TT) ∧ Cond.initialized q.1.cls ∈ mm_TT ∧ (q.1.cls ≠ "java/lang/invoke/MethodHandle" ∧ q.1.cls ≠ "java/lang/invoke/VarHandle" ∧ (parseMethodDescriptor q.1.desc).map (fun d => d.parameters.length) = some q.2.2.2.2.2.2) ∧ q.2.2.1 ≤ 41 ∧ q.1.cls = mm_on q.2.2.2.2.2.1 ∧ q.2.2.2.2.1.all (mm_cb q.2.2.2.2.2.1 (q.1.name == "<init>") q.2.1) = true
theorem mm_k_X0_init : kX0_init.all (mm_cb 0 true cX0_init) = true := by decide +kernel
theorem mm_k_X0_leftOf : kX0_leftOf.all (mm_cb 0 false cX0_leftOf) = true := by decide +kernel
theorem mm_k_X0_goingOf : kX0_goingOf.all (mm_cb 0 false cX0_goingOf) = true := by decide +kernel
theorem mm_k_X0_goodFor : kX0_goodFor.all (mm_cb 0 false cX0_goodFor) = true := by decide +kernel
theorem mm_k_X0_bribeFor : kX0_bribeFor.all (mm_cb 0 false cX0_bribeFor) = true := by decide +kernel
theorem mm_k_X0_trialKeeps : kX0_trialKeeps.all (mm_cb 0 false cX0_trialKeeps) = true := by decide +kernel
theorem mm_k_X0_meeting : kX0_meeting.all (mm_cb 0 false cX0_meeting) = true := by decide +kernel
theorem mm_k_X0_areNear : kX0_areNear.all (mm_cb 0 false cX0_areNear) = true := by decide +kernel
theorem mm_k_X0_beginsFor : kX0_beginsFor.all (mm_cb 0 false cX0_beginsFor) = true := by decide +kernel
theorem mm_k_X0_choiceFor : kX0_choiceFor.all (mm_cb 0 false cX0_choiceFor) = true := by decide +kernel
theorem mm_k_X0_keepsAll : kX0_keepsAll.all (mm_cb 0 false cX0_keepsAll) = true := by decide +kernel
theorem mm_k_X0_wholeCourse : kX0_wholeCourse.all (mm_cb 0 false cX0_wholeCourse) = true := by decide +kernel
theorem mm_k_X1_init : kX1_init.all (mm_cb 1 true cX1_init) = true := by decide +kernel
theorem mm_k_X1_startFrom : kX1_startFrom.all (mm_cb 1 false cX1_startFrom) = true := by decide +kernel
theorem mm_k_X1_copyFrom : kX1_copyFrom.all (mm_cb 1 false cX1_copyFrom) = true := by decide +kernel
theorem mm_k_X1_standing : kX1_standing.all (mm_cb 1 false cX1_standing) = true := by decide +kernel
theorem mm_k_X1_standsAt : kX1_standsAt.all (mm_cb 1 false cX1_standsAt) = true := by decide +kernel
theorem mm_k_X1_isTurned : kX1_isTurned.all (mm_cb 1 false cX1_isTurned) = true := by decide +kernel
theorem mm_k_X1_comeTo : kX1_comeTo.all (mm_cb 1 false cX1_comeTo) = true := by decide +kernel
theorem mm_k_X1_goOn : kX1_goOn.all (mm_cb 1 false cX1_goOn) = true := by decide +kernel
theorem mm_k_X1_nextCount : kX1_nextCount.all (mm_cb 1 false cX1_nextCount) = true := by decide +kernel
theorem mm_k_X1_goOnce : kX1_goOnce.all (mm_cb 1 false cX1_goOnce) = true := by decide +kernel
theorem mm_k_X1_firstLook : kX1_firstLook.all (mm_cb 1 false cX1_firstLook) = true := by decide +kernel
theorem mm_k_X1_hit : kX1_hit.all (mm_cb 1 false cX1_hit) = true := by decide +kernel
theorem mm_k_X2_init : kX2_init.all (mm_cb 2 true cX2_init) = true := by decide +kernel
theorem mm_k_X2_clear : kX2_clear.all (mm_cb 2 false cX2_clear) = true := by decide +kernel
theorem mm_k_X2_add : kX2_add.all (mm_cb 2 false cX2_add) = true := by decide +kernel
theorem mm_k_X2_tallyUpTo : kX2_tallyUpTo.all (mm_cb 2 false cX2_tallyUpTo) = true := by decide +kernel
theorem mm_k_X2_tallyDrawn : kX2_tallyDrawn.all (mm_cb 2 false cX2_tallyDrawn) = true := by decide +kernel
theorem mm_k_X2_weightAt : kX2_weightAt.all (mm_cb 2 false cX2_weightAt) = true := by decide +kernel
theorem mm_k_X2_heaviest : kX2_heaviest.all (mm_cb 2 false cX2_heaviest) = true := by decide +kernel
theorem mm_k_X2_chosenBy : kX2_chosenBy.all (mm_cb 2 false cX2_chosenBy) = true := by decide +kernel
theorem mm_k_X2_partOf : kX2_partOf.all (mm_cb 2 false cX2_partOf) = true := by decide +kernel
theorem mm_k_X3_init : kX3_init.all (mm_cb 3 true cX3_init) = true := by decide +kernel
theorem mm_k_X3_firstWrong : kX3_firstWrong.all (mm_cb 3 false cX3_firstWrong) = true := by decide +kernel
theorem mm_k_X3_leastNumber : kX3_leastNumber.all (mm_cb 3 false cX3_leastNumber) = true := by decide +kernel
theorem mm_k_X3_withRemainder : kX3_withRemainder.all (mm_cb 3 false cX3_withRemainder) = true := by decide +kernel
theorem mm_k_X3_leastCommon : kX3_leastCommon.all (mm_cb 3 false cX3_leastCommon) = true := by decide +kernel
theorem mm_k_X3_tryRules : kX3_tryRules.all (mm_cb 3 false cX3_tryRules) = true := by decide +kernel
theorem mm_k_X3_isBy : kX3_isBy.all (mm_cb 3 false cX3_isBy) = true := by decide +kernel
theorem mm_k_X4_goer : kX4_goer.all (mm_cb 4 false cX4_goer) = true := by decide +kernel
theorem mm_k_X4_farGoer : kX4_farGoer.all (mm_cb 4 false cX4_farGoer) = true := by decide +kernel
theorem mm_k_X4_placeOf : kX4_placeOf.all (mm_cb 4 false cX4_placeOf) = true := by decide +kernel
theorem mm_k_X4_sizeKeeping : kX4_sizeKeeping.all (mm_cb 4 false cX4_sizeKeeping) = true := by decide +kernel
theorem mm_k_X4_leastSending : kX4_leastSending.all (mm_cb 4 false cX4_leastSending) = true := by decide +kernel
theorem mm_k_X4_sends : kX4_sends.all (mm_cb 4 false cX4_sends) = true := by decide +kernel
theorem mm_k_X4_greatestCommon : kX4_greatestCommon.all (mm_cb 4 false cX4_greatestCommon) = true := by decide +kernel
theorem mm_k_X4_neverLast : kX4_neverLast.all (mm_cb 4 false cX4_neverLast) = true := by decide +kernel
theorem mm_k_X4_leastForAll : kX4_leastForAll.all (mm_cb 4 false cX4_leastForAll) = true := by decide +kernel
theorem mm_k_X5_init : kX5_init.all (mm_cb 5 true cX5_init) = true := by decide +kernel
theorem mm_k_X5_clear : kX5_clear.all (mm_cb 5 false cX5_clear) = true := by decide +kernel
theorem mm_k_X5_settle : kX5_settle.all (mm_cb 5 false cX5_settle) = true := by decide +kernel
theorem mm_k_X5_set : kX5_set.all (mm_cb 5 false cX5_set) = true := by decide +kernel
theorem mm_k_X5_knows : kX5_knows.all (mm_cb 5 false cX5_knows) = true := by decide +kernel
theorem mm_k_X5_draws : kX5_draws.all (mm_cb 5 false cX5_draws) = true := by decide +kernel
theorem mm_k_X5_addPerson : kX5_addPerson.all (mm_cb 5 false cX5_addPerson) = true := by decide +kernel
theorem mm_k_X5_addDrawn : kX5_addDrawn.all (mm_cb 5 false cX5_addDrawn) = true := by decide +kernel
theorem mm_k_X5_forgetCount : kX5_forgetCount.all (mm_cb 5 false cX5_forgetCount) = true := by decide +kernel
theorem mm_k_X5_addCode : kX5_addCode.all (mm_cb 5 false cX5_addCode) = true := by decide +kernel
theorem mm_k_X5_hitsToGo : kX5_hitsToGo.all (mm_cb 5 false cX5_hitsToGo) = true := by decide +kernel
theorem mm_k_X5_countOf : kX5_countOf.all (mm_cb 5 false cX5_countOf) = true := by decide +kernel
theorem mm_k_X5_isJoint : kX5_isJoint.all (mm_cb 5 false cX5_isJoint) = true := by decide +kernel
theorem mm_k_X5_valueOf : kX5_valueOf.all (mm_cb 5 false cX5_valueOf) = true := by decide +kernel
theorem mm_k_X5_joined : kX5_joined.all (mm_cb 5 false cX5_joined) = true := by decide +kernel
theorem mm_k_X6_all : kX6_all.all (mm_cb 6 false cX6_all) = true := by decide +kernel
theorem mm_k_X6_has : kX6_has.all (mm_cb 6 false cX6_has) = true := by decide +kernel
theorem mm_k_X6_bit : kX6_bit.all (mm_cb 6 false cX6_bit) = true := by decide +kernel
theorem mm_k_X6_below : kX6_below.all (mm_cb 6 false cX6_below) = true := by decide +kernel
theorem mm_k_X6_next : kX6_next.all (mm_cb 6 false cX6_next) = true := by decide +kernel
theorem mm_k_X6_ranked : kX6_ranked.all (mm_cb 6 false cX6_ranked) = true := by decide +kernel
theorem mm_k_X6_counted : kX6_counted.all (mm_cb 6 false cX6_counted) = true := by decide +kernel
theorem mm_k_X6_countTo : kX6_countTo.all (mm_cb 6 false cX6_countTo) = true := by decide +kernel
theorem mm_k_X7_init : kX7_init.all (mm_cb 7 true cX7_init) = true := by decide +kernel
theorem mm_k_X7_read : kX7_read.all (mm_cb 7 false cX7_read) = true := by decide +kernel
theorem mm_k_X7_fail : kX7_fail.all (mm_cb 7 false cX7_fail) = true := by decide +kernel
theorem mm_k_X7_take : kX7_take.all (mm_cb 7 false cX7_take) = true := by decide +kernel
theorem mm_k_X7_readLine : kX7_readLine.all (mm_cb 7 false cX7_readLine) = true := by decide +kernel
theorem mm_k_X7_isFull : kX7_isFull.all (mm_cb 7 false cX7_isFull) = true := by decide +kernel
theorem mm_k_X7_isNumber : kX7_isNumber.all (mm_cb 7 false cX7_isNumber) = true := by decide +kernel
theorem mm_k_X7_readSetting : kX7_readSetting.all (mm_cb 7 false cX7_readSetting) = true := by decide +kernel
theorem mm_k_X7_readGuard : kX7_readGuard.all (mm_cb 7 false cX7_readGuard) = true := by decide +kernel
theorem mm_k_X7_readRhyme : kX7_readRhyme.all (mm_cb 7 false cX7_readRhyme) = true := by decide +kernel
theorem mm_k_X7_readPerson : kX7_readPerson.all (mm_cb 7 false cX7_readPerson) = true := by decide +kernel
theorem mm_k_X7_readDrawn : kX7_readDrawn.all (mm_cb 7 false cX7_readDrawn) = true := by decide +kernel
theorem mm_k_X7_readEither : kX7_readEither.all (mm_cb 7 false cX7_readEither) = true := by decide +kernel
theorem mm_k_X7_readBoth : kX7_readBoth.all (mm_cb 7 false cX7_readBoth) = true := by decide +kernel
theorem mm_k_X7_readOne : kX7_readOne.all (mm_cb 7 false cX7_readOne) = true := by decide +kernel
theorem mm_k_X7_readNot : kX7_readNot.all (mm_cb 7 false cX7_readNot) = true := by decide +kernel
theorem mm_k_X7_readSum : kX7_readSum.all (mm_cb 7 false cX7_readSum) = true := by decide +kernel
theorem mm_k_X7_readTerm : kX7_readTerm.all (mm_cb 7 false cX7_readTerm) = true := by decide +kernel
theorem mm_k_X7_readUnit : kX7_readUnit.all (mm_cb 7 false cX7_readUnit) = true := by decide +kernel
theorem mm_k_X7_isUnit : kX7_isUnit.all (mm_cb 7 false cX7_isUnit) = true := by decide +kernel
theorem mm_k_X8_init : kX8_init.all (mm_cb 8 true cX8_init) = true := by decide +kernel
theorem mm_k_X8_tell : kX8_tell.all (mm_cb 8 false cX8_tell) = true := by decide +kernel
theorem mm_k_X8_takeBack : kX8_takeBack.all (mm_cb 8 false cX8_takeBack) = true := by decide +kernel
theorem mm_k_X8_sift : kX8_sift.all (mm_cb 8 false cX8_sift) = true := by decide +kernel
theorem mm_k_X8_isFit : kX8_isFit.all (mm_cb 8 false cX8_isFit) = true := by decide +kernel
theorem mm_k_X8_fitCount : kX8_fitCount.all (mm_cb 8 false cX8_fitCount) = true := by decide +kernel
theorem mm_k_X8_leastFit : kX8_leastFit.all (mm_cb 8 false cX8_leastFit) = true := by decide +kernel
theorem mm_k_X8_bestQuestion : kX8_bestQuestion.all (mm_cb 8 false cX8_bestQuestion) = true := by decide +kernel
theorem mm_k_X8_tallyOrder : kX8_tallyOrder.all (mm_cb 8 false cX8_tallyOrder) = true := by decide +kernel
theorem mm_k_X8_greatestAt : kX8_greatestAt.all (mm_cb 8 false cX8_greatestAt) = true := by decide +kernel
theorem mm_k_X9_init : kX9_init.all (mm_cb 9 true cX9_init) = true := by decide +kernel
theorem mm_k_X9_addFour : kX9_addFour.all (mm_cb 9 false cX9_addFour) = true := by decide +kernel
theorem mm_k_X9_rewind : kX9_rewind.all (mm_cb 9 false cX9_rewind) = true := by decide +kernel
theorem mm_k_X9_advance : kX9_advance.all (mm_cb 9 false cX9_advance) = true := by decide +kernel
theorem mm_k_X9_takeWord : kX9_takeWord.all (mm_cb 9 false cX9_takeWord) = true := by decide +kernel
theorem mm_k_X9_takeNumber : kX9_takeNumber.all (mm_cb 9 false cX9_takeNumber) = true := by decide +kernel
theorem mm_k_X9_kindOf : kX9_kindOf.all (mm_cb 9 false cX9_kindOf) = true := by decide +kernel
theorem mm_k_X9_byteAt : kX9_byteAt.all (mm_cb 9 false cX9_byteAt) = true := by decide +kernel
theorem mm_k_X9_withLetter : kX9_withLetter.all (mm_cb 9 false cX9_withLetter) = true := by decide +kernel
theorem mm_k_X9_isBlank : kX9_isBlank.all (mm_cb 9 false cX9_isBlank) = true := by decide +kernel
theorem mm_k_X9_isLetter : kX9_isLetter.all (mm_cb 9 false cX9_isLetter) = true := by decide +kernel
theorem mm_k_X9_isDigit : kX9_isDigit.all (mm_cb 9 false cX9_isDigit) = true := by decide +kernel
theorem mm_k_X9_isSign : kX9_isSign.all (mm_cb 9 false cX9_isSign) = true := by decide +kernel
theorem mm_k_X10_init : kX10_init.all (mm_cb 10 true cX10_init) = true := by decide +kernel
theorem mm_k_X10_feed : kX10_feed.all (mm_cb 10 false cX10_feed) = true := by decide +kernel
theorem mm_k_X10_end : kX10_end.all (mm_cb 10 false cX10_end) = true := by decide +kernel
theorem mm_k_X10_ring : kX10_ring.all (mm_cb 10 false cX10_ring) = true := by decide +kernel
theorem mm_k_X10_fault : kX10_fault.all (mm_cb 10 false cX10_fault) = true := by decide +kernel
theorem mm_k_X10_go : kX10_go.all (mm_cb 10 false cX10_go) = true := by decide +kernel
theorem mm_k_X10_post : kX10_post.all (mm_cb 10 false cX10_post) = true := by decide +kernel
theorem mm_k_X10_went : kX10_went.all (mm_cb 10 false cX10_went) = true := by decide +kernel
theorem mm_k_X10_left : kX10_left.all (mm_cb 10 false cX10_left) = true := by decide +kernel
theorem mm_k_X10_when : kX10_when.all (mm_cb 10 false cX10_when) = true := by decide +kernel
theorem mm_k_X10_late : kX10_late.all (mm_cb 10 false cX10_late) = true := by decide +kernel
theorem mm_k_X10_bribe : kX10_bribe.all (mm_cb 10 false cX10_bribe) = true := by decide +kernel
theorem mm_k_X10_stay : kX10_stay.all (mm_cb 10 false cX10_stay) = true := by decide +kernel
theorem mm_k_X10_meet : kX10_meet.all (mm_cb 10 false cX10_meet) = true := by decide +kernel
theorem mm_k_X10_begins : kX10_begins.all (mm_cb 10 false cX10_begins) = true := by decide +kernel
theorem mm_k_X10_chooses : kX10_chooses.all (mm_cb 10 false cX10_chooses) = true := by decide +kernel
theorem mm_k_X10_order : kX10_order.all (mm_cb 10 false cX10_order) = true := by decide +kernel
theorem mm_k_X10_keep : kX10_keep.all (mm_cb 10 false cX10_keep) = true := by decide +kernel
theorem mm_k_X10_judge : kX10_judge.all (mm_cb 10 false cX10_judge) = true := by decide +kernel
theorem mm_k_X10_far : kX10_far.all (mm_cb 10 false cX10_far) = true := by decide +kernel
theorem mm_k_X10_at : kX10_at.all (mm_cb 10 false cX10_at) = true := by decide +kernel
theorem mm_k_X10_size : kX10_size.all (mm_cb 10 false cX10_size) = true := by decide +kernel
theorem mm_k_X10_keeps : kX10_keeps.all (mm_cb 10 false cX10_keeps) = true := by decide +kernel
theorem mm_k_X10_first : kX10_first.all (mm_cb 10 false cX10_first) = true := by decide +kernel
theorem mm_k_X10_number : kX10_number.all (mm_cb 10 false cX10_number) = true := by decide +kernel
theorem mm_k_X10_guess : kX10_guess.all (mm_cb 10 false cX10_guess) = true := by decide +kernel
theorem mm_k_X10_never : kX10_never.all (mm_cb 10 false cX10_never) = true := by decide +kernel
theorem mm_k_X10_often : kX10_often.all (mm_cb 10 false cX10_often) = true := by decide +kernel
theorem mm_k_X10_ever : kX10_ever.all (mm_cb 10 false cX10_ever) = true := by decide +kernel
theorem mm_k_X10_chance : kX10_chance.all (mm_cb 10 false cX10_chance) = true := by decide +kernel
theorem mm_k_X10_choice : kX10_choice.all (mm_cb 10 false cX10_choice) = true := by decide +kernel
theorem mm_k_X10_expected : kX10_expected.all (mm_cb 10 false cX10_expected) = true := by decide +kernel
theorem mm_k_X10_sight : kX10_sight.all (mm_cb 10 false cX10_sight) = true := by decide +kernel
theorem mm_k_X10_untell : kX10_untell.all (mm_cb 10 false cX10_untell) = true := by decide +kernel
theorem mm_k_X10_later : kX10_later.all (mm_cb 10 false cX10_later) = true := by decide +kernel
theorem mm_k_X10_fits : kX10_fits.all (mm_cb 10 false cX10_fits) = true := by decide +kernel
theorem mm_k_X10_ask : kX10_ask.all (mm_cb 10 false cX10_ask) = true := by decide +kernel
theorem mm_k_X10_image : kX10_image.all (mm_cb 10 false cX10_image) = true := by decide +kernel
theorem mm_k_X10_back : kX10_back.all (mm_cb 10 false cX10_back) = true := by decide +kernel
theorem mm_k_X10_about : kX10_about.all (mm_cb 10 false cX10_about) = true := by decide +kernel
theorem mm_k_X10_boxAt : kX10_boxAt.all (mm_cb 10 false cX10_boxAt) = true := by decide +kernel
theorem mm_k_X10_emptyBoxes : kX10_emptyBoxes.all (mm_cb 10 false cX10_emptyBoxes) = true := by decide +kernel
theorem mm_k_X10_isPost : kX10_isPost.all (mm_cb 10 false cX10_isPost) = true := by decide +kernel
theorem mm_k_X10_isChooser : kX10_isChooser.all (mm_cb 10 false cX10_isChooser) = true := by decide +kernel
theorem mm_k_X10_isPlain : kX10_isPlain.all (mm_cb 10 false cX10_isPlain) = true := by decide +kernel
theorem mm_k_X10_isLarge : kX10_isLarge.all (mm_cb 10 false cX10_isLarge) = true := by decide +kernel
theorem mm_k_X10_isStep : kX10_isStep.all (mm_cb 10 false cX10_isStep) = true := by decide +kernel
theorem mm_k_X10_isSet : kX10_isSet.all (mm_cb 10 false cX10_isSet) = true := by decide +kernel
theorem mm_k_X10_isZeroOrOne : kX10_isZeroOrOne.all (mm_cb 10 false cX10_isZeroOrOne) = true := by decide +kernel
theorem mm_k_X11_init_p0 : kX11_init_p0.all (mm_cb 11 true cX11_init) = true := by decide +kernel
theorem mm_k_X11_init_p1 : kX11_init_p1.all (mm_cb 11 true cX11_init) = true := by decide +kernel
theorem mm_k_X11_init_p2 : kX11_init_p2.all (mm_cb 11 true cX11_init) = true := by decide +kernel
theorem mm_k_X11_init : kX11_init.all (mm_cb 11 true cX11_init) = true := by
  unfold kX11_init
  simp only [List.all_append, Bool.and_eq_true]
  exact ⟨mm_k_X11_init_p0, mm_k_X11_init_p1, mm_k_X11_init_p2⟩
theorem mm_k_X11_feed : kX11_feed.all (mm_cb 11 false cX11_feed) = true := by decide +kernel
theorem mm_k_X11_four : kX11_four.all (mm_cb 11 false cX11_four) = true := by decide +kernel
theorem mm_k_X11_end : kX11_end.all (mm_cb 11 false cX11_end) = true := by decide +kernel
theorem mm_k_X11_here : kX11_here.all (mm_cb 11 false cX11_here) = true := by decide +kernel
theorem mm_k_X11_isLetter : kX11_isLetter.all (mm_cb 11 false cX11_isLetter) = true := by decide +kernel
theorem mm_k_X11_isDigit : kX11_isDigit.all (mm_cb 11 false cX11_isDigit) = true := by decide +kernel
theorem mm_k_X11_isSign : kX11_isSign.all (mm_cb 11 false cX11_isSign) = true := by decide +kernel
theorem mm_k_X11_token_p0 : kX11_token_p0.all (mm_cb 11 false cX11_token) = true := by decide +kernel
theorem mm_k_X11_token_p1 : kX11_token_p1.all (mm_cb 11 false cX11_token) = true := by decide +kernel
theorem mm_k_X11_token : kX11_token.all (mm_cb 11 false cX11_token) = true := by
  unfold kX11_token
  simp only [List.all_append, Bool.and_eq_true]
  exact ⟨mm_k_X11_token_p0, mm_k_X11_token_p1⟩
theorem mm_k_X11_wrong : kX11_wrong.all (mm_cb 11 false cX11_wrong) = true := by decide +kernel
theorem mm_k_X11_isWord : kX11_isWord.all (mm_cb 11 false cX11_isWord) = true := by decide +kernel
theorem mm_k_X11_isName_p0 : kX11_isName_p0.all (mm_cb 11 false cX11_isName) = true := by decide +kernel
theorem mm_k_X11_isName_p1 : kX11_isName_p1.all (mm_cb 11 false cX11_isName) = true := by decide +kernel
theorem mm_k_X11_isName : kX11_isName.all (mm_cb 11 false cX11_isName) = true := by
  unfold kX11_isName
  simp only [List.all_append, Bool.and_eq_true]
  exact ⟨mm_k_X11_isName_p0, mm_k_X11_isName_p1⟩
theorem mm_k_X11_want : kX11_want.all (mm_cb 11 false cX11_want) = true := by decide +kernel
theorem mm_k_X11_toldNumber : kX11_toldNumber.all (mm_cb 11 false cX11_toldNumber) = true := by decide +kernel
theorem mm_k_X11_told : kX11_told.all (mm_cb 11 false cX11_told) = true := by decide +kernel
theorem mm_k_X11_note : kX11_note.all (mm_cb 11 false cX11_note) = true := by decide +kernel
theorem mm_k_X11_upper : kX11_upper.all (mm_cb 11 false cX11_upper) = true := by decide +kernel
theorem mm_k_X11_hold : kX11_hold.all (mm_cb 11 false cX11_hold) = true := by decide +kernel
theorem mm_k_X11_pop : kX11_pop.all (mm_cb 11 false cX11_pop) = true := by decide +kernel
theorem mm_k_X11_rank : kX11_rank.all (mm_cb 11 false cX11_rank) = true := by decide +kernel
theorem mm_k_X11_settle : kX11_settle.all (mm_cb 11 false cX11_settle) = true := by decide +kernel
theorem mm_k_X11_isOpen : kX11_isOpen.all (mm_cb 11 false cX11_isOpen) = true := by decide +kernel
theorem mm_k_X11_known : kX11_known.all (mm_cb 11 false cX11_known) = true := by decide +kernel
theorem mm_k_X11_operand : kX11_operand.all (mm_cb 11 false cX11_operand) = true := by decide +kernel
theorem mm_k_X11_signOf : kX11_signOf.all (mm_cb 11 false cX11_signOf) = true := by decide +kernel
theorem mm_k_X11_sign : kX11_sign.all (mm_cb 11 false cX11_sign) = true := by decide +kernel
theorem mm_k_X11_readCount : kX11_readCount.all (mm_cb 11 false cX11_readCount) = true := by decide +kernel
theorem mm_k_X11_readNumber : kX11_readNumber.all (mm_cb 11 false cX11_readNumber) = true := by decide +kernel
theorem mm_k_X11_readGuard : kX11_readGuard.all (mm_cb 11 false cX11_readGuard) = true := by decide +kernel
theorem mm_k_X11_readRhyme : kX11_readRhyme.all (mm_cb 11 false cX11_readRhyme) = true := by decide +kernel
theorem mm_k_X11_readPerson : kX11_readPerson.all (mm_cb 11 false cX11_readPerson) = true := by decide +kernel
theorem mm_k_X11_readDrawn : kX11_readDrawn.all (mm_cb 11 false cX11_readDrawn) = true := by decide +kernel
theorem mm_k_X11_readCountLine : kX11_readCountLine.all (mm_cb 11 false cX11_readCountLine) = true := by decide +kernel
theorem mm_k_X11_readLine_p0 : kX11_readLine_p0.all (mm_cb 11 false cX11_readLine) = true := by decide +kernel
theorem mm_k_X11_readLine_p1 : kX11_readLine_p1.all (mm_cb 11 false cX11_readLine) = true := by decide +kernel
theorem mm_k_X11_readLine : kX11_readLine.all (mm_cb 11 false cX11_readLine) = true := by
  unfold kX11_readLine
  simp only [List.all_append, Bool.and_eq_true]
  exact ⟨mm_k_X11_readLine_p0, mm_k_X11_readLine_p1⟩
theorem mm_k_X11_readAll : kX11_readAll.all (mm_cb 11 false cX11_readAll) = true := by decide +kernel
theorem mm_k_X11_ring_p0 : kX11_ring_p0.all (mm_cb 11 false cX11_ring) = true := by decide +kernel
theorem mm_k_X11_ring_p1 : kX11_ring_p1.all (mm_cb 11 false cX11_ring) = true := by decide +kernel
theorem mm_k_X11_ring_p2 : kX11_ring_p2.all (mm_cb 11 false cX11_ring) = true := by decide +kernel
theorem mm_k_X11_ring : kX11_ring.all (mm_cb 11 false cX11_ring) = true := by
  unfold kX11_ring
  simp only [List.all_append, Bool.and_eq_true]
  exact ⟨mm_k_X11_ring_p0, mm_k_X11_ring_p1, mm_k_X11_ring_p2⟩
theorem mm_k_X11_fault : kX11_fault.all (mm_cb 11 false cX11_fault) = true := by decide +kernel
theorem mm_k_X11_isPost : kX11_isPost.all (mm_cb 11 false cX11_isPost) = true := by decide +kernel
theorem mm_k_X11_fresh : kX11_fresh.all (mm_cb 11 false cX11_fresh) = true := by decide +kernel
theorem mm_k_X11_put : kX11_put.all (mm_cb 11 false cX11_put) = true := by decide +kernel
theorem mm_k_X11_bring : kX11_bring.all (mm_cb 11 false cX11_bring) = true := by decide +kernel
theorem mm_k_X11_worked : kX11_worked.all (mm_cb 11 false cX11_worked) = true := by decide +kernel
theorem mm_k_X11_counted_p0 : kX11_counted_p0.all (mm_cb 11 false cX11_counted) = true := by decide +kernel
theorem mm_k_X11_counted_p1 : kX11_counted_p1.all (mm_cb 11 false cX11_counted) = true := by decide +kernel
theorem mm_k_X11_counted : kX11_counted.all (mm_cb 11 false cX11_counted) = true := by
  unfold kX11_counted
  simp only [List.all_append, Bool.and_eq_true]
  exact ⟨mm_k_X11_counted_p0, mm_k_X11_counted_p1⟩
theorem mm_k_X11_isGuarded : kX11_isGuarded.all (mm_cb 11 false cX11_isGuarded) = true := by decide +kernel
theorem mm_k_X11_isEnded : kX11_isEnded.all (mm_cb 11 false cX11_isEnded) = true := by decide +kernel
theorem mm_k_X11_going_p0 : kX11_going_p0.all (mm_cb 11 false cX11_going) = true := by decide +kernel
theorem mm_k_X11_going_p1 : kX11_going_p1.all (mm_cb 11 false cX11_going) = true := by decide +kernel
theorem mm_k_X11_going : kX11_going.all (mm_cb 11 false cX11_going) = true := by
  unfold kX11_going
  simp only [List.all_append, Bool.and_eq_true]
  exact ⟨mm_k_X11_going_p0, mm_k_X11_going_p1⟩
theorem mm_k_X11_leaves : kX11_leaves.all (mm_cb 11 false cX11_leaves) = true := by decide +kernel
theorem mm_k_X11_goOn : kX11_goOn.all (mm_cb 11 false cX11_goOn) = true := by decide +kernel
theorem mm_k_X11_standSet : kX11_standSet.all (mm_cb 11 false cX11_standSet) = true := by decide +kernel
theorem mm_k_X11_go : kX11_go.all (mm_cb 11 false cX11_go) = true := by decide +kernel
theorem mm_k_X11_post : kX11_post.all (mm_cb 11 false cX11_post) = true := by decide +kernel
theorem mm_k_X11_went : kX11_went.all (mm_cb 11 false cX11_went) = true := by decide +kernel
theorem mm_k_X11_seekLeft : kX11_seekLeft.all (mm_cb 11 false cX11_seekLeft) = true := by decide +kernel
theorem mm_k_X11_left : kX11_left.all (mm_cb 11 false cX11_left) = true := by decide +kernel
theorem mm_k_X11_when : kX11_when.all (mm_cb 11 false cX11_when) = true := by decide +kernel
theorem mm_k_X11_goSome : kX11_goSome.all (mm_cb 11 false cX11_goSome) = true := by decide +kernel
theorem mm_k_X11_isLateLeft : kX11_isLateLeft.all (mm_cb 11 false cX11_isLateLeft) = true := by decide +kernel
theorem mm_k_X11_lateGo : kX11_lateGo.all (mm_cb 11 false cX11_lateGo) = true := by decide +kernel
theorem mm_k_X11_late : kX11_late.all (mm_cb 11 false cX11_late) = true := by decide +kernel
theorem mm_k_X11_bribe : kX11_bribe.all (mm_cb 11 false cX11_bribe) = true := by decide +kernel
theorem mm_k_X11_stay : kX11_stay.all (mm_cb 11 false cX11_stay) = true := by decide +kernel
theorem mm_k_X11_areNear : kX11_areNear.all (mm_cb 11 false cX11_areNear) = true := by decide +kernel
theorem mm_k_X11_meet : kX11_meet.all (mm_cb 11 false cX11_meet) = true := by decide +kernel
theorem mm_k_X11_begins : kX11_begins.all (mm_cb 11 false cX11_begins) = true := by decide +kernel
theorem mm_k_X11_isSet : kX11_isSet.all (mm_cb 11 false cX11_isSet) = true := by decide +kernel
theorem mm_k_X11_chooses : kX11_chooses.all (mm_cb 11 false cX11_chooses) = true := by decide +kernel
theorem mm_k_X11_order : kX11_order.all (mm_cb 11 false cX11_order) = true := by decide +kernel
theorem mm_k_X11_keep : kX11_keep.all (mm_cb 11 false cX11_keep) = true := by decide +kernel
theorem mm_k_X11_judge : kX11_judge.all (mm_cb 11 false cX11_judge) = true := by decide +kernel
theorem mm_k_X11_farOf : kX11_farOf.all (mm_cb 11 false cX11_farOf) = true := by decide +kernel
theorem mm_k_X11_isPlain : kX11_isPlain.all (mm_cb 11 false cX11_isPlain) = true := by decide +kernel
theorem mm_k_X11_far : kX11_far.all (mm_cb 11 false cX11_far) = true := by decide +kernel
theorem mm_k_X11_at : kX11_at.all (mm_cb 11 false cX11_at) = true := by decide +kernel
theorem mm_k_X11_size : kX11_size.all (mm_cb 11 false cX11_size) = true := by decide +kernel
theorem mm_k_X11_isSmall : kX11_isSmall.all (mm_cb 11 false cX11_isSmall) = true := by decide +kernel
theorem mm_k_X11_ones : kX11_ones.all (mm_cb 11 false cX11_ones) = true := by decide +kernel
theorem mm_k_X11_areThose : kX11_areThose.all (mm_cb 11 false cX11_areThose) = true := by decide +kernel
theorem mm_k_X11_keeps : kX11_keeps.all (mm_cb 11 false cX11_keeps) = true := by decide +kernel
theorem mm_k_X11_first : kX11_first.all (mm_cb 11 false cX11_first) = true := by decide +kernel
theorem mm_k_X11_common : kX11_common.all (mm_cb 11 false cX11_common) = true := by decide +kernel
theorem mm_k_X11_looked : kX11_looked.all (mm_cb 11 false cX11_looked) = true := by decide +kernel
theorem mm_k_X11_number_p0 : kX11_number_p0.all (mm_cb 11 false cX11_number) = true := by decide +kernel
theorem mm_k_X11_number_p1 : kX11_number_p1.all (mm_cb 11 false cX11_number) = true := by decide +kernel
theorem mm_k_X11_number : kX11_number.all (mm_cb 11 false cX11_number) = true := by
  unfold kX11_number
  simp only [List.all_append, Bool.and_eq_true]
  exact ⟨mm_k_X11_number_p0, mm_k_X11_number_p1⟩
theorem mm_k_X11_goesSo : kX11_goesSo.all (mm_cb 11 false cX11_goesSo) = true := by decide +kernel
theorem mm_k_X11_guess : kX11_guess.all (mm_cb 11 false cX11_guess) = true := by decide +kernel
theorem mm_k_X11_lastOf : kX11_lastOf.all (mm_cb 11 false cX11_lastOf) = true := by decide +kernel
theorem mm_k_X11_areNumbers : kX11_areNumbers.all (mm_cb 11 false cX11_areNumbers) = true := by decide +kernel
theorem mm_k_X11_layLasts : kX11_layLasts.all (mm_cb 11 false cX11_layLasts) = true := by decide +kernel
theorem mm_k_X11_never : kX11_never.all (mm_cb 11 false cX11_never) = true := by decide +kernel
theorem mm_k_X11_often : kX11_often.all (mm_cb 11 false cX11_often) = true := by decide +kernel
theorem mm_k_X11_ever : kX11_ever.all (mm_cb 11 false cX11_ever) = true := by decide +kernel
theorem mm_k_X11_allWeight : kX11_allWeight.all (mm_cb 11 false cX11_allWeight) = true := by decide +kernel
theorem mm_k_X11_weightOf : kX11_weightOf.all (mm_cb 11 false cX11_weightOf) = true := by decide +kernel
theorem mm_k_X11_partOf : kX11_partOf.all (mm_cb 11 false cX11_partOf) = true := by decide +kernel
theorem mm_k_X11_isPart : kX11_isPart.all (mm_cb 11 false cX11_isPart) = true := by decide +kernel
theorem mm_k_X11_chance : kX11_chance.all (mm_cb 11 false cX11_chance) = true := by decide +kernel
theorem mm_k_X11_chosen : kX11_chosen.all (mm_cb 11 false cX11_chosen) = true := by decide +kernel
theorem mm_k_X11_choice : kX11_choice.all (mm_cb 11 false cX11_choice) = true := by decide +kernel
theorem mm_k_X11_expected : kX11_expected.all (mm_cb 11 false cX11_expected) = true := by decide +kernel
theorem mm_k_X11_sight : kX11_sight.all (mm_cb 11 false cX11_sight) = true := by decide +kernel
theorem mm_k_X11_untell : kX11_untell.all (mm_cb 11 false cX11_untell) = true := by decide +kernel
theorem mm_k_X11_later : kX11_later.all (mm_cb 11 false cX11_later) = true := by decide +kernel
theorem mm_k_X11_counts : kX11_counts.all (mm_cb 11 false cX11_counts) = true := by decide +kernel
theorem mm_k_X11_doesFit : kX11_doesFit.all (mm_cb 11 false cX11_doesFit) = true := by decide +kernel
theorem mm_k_X11_fits : kX11_fits.all (mm_cb 11 false cX11_fits) = true := by decide +kernel
theorem mm_k_X11_greatestPart : kX11_greatestPart.all (mm_cb 11 false cX11_greatestPart) = true := by decide +kernel
theorem mm_k_X11_ask : kX11_ask.all (mm_cb 11 false cX11_ask) = true := by decide +kernel
theorem mm_k_X11_isBox : kX11_isBox.all (mm_cb 11 false cX11_isBox) = true := by decide +kernel
theorem mm_k_X11_image : kX11_image.all (mm_cb 11 false cX11_image) = true := by decide +kernel
theorem mm_k_X11_back : kX11_back.all (mm_cb 11 false cX11_back) = true := by decide +kernel
theorem mm_k_X11_about : kX11_about.all (mm_cb 11 false cX11_about) = true := by decide +kernel
theorem mm_k_J6_numberOfTrailingZeros_0f7a4 : kJ6_numberOfTrailingZeros_0f7a4.all (mm_cb 12 false cJ6_numberOfTrailingZeros_0f7a4) = true := by decide +kernel
theorem mm_k_J13_numberOfTrailingZeros_95d88 : kJ13_numberOfTrailingZeros_95d88.all (mm_cb 13 false cJ13_numberOfTrailingZeros_95d88) = true := by decide +kernel
theorem mm_k_J13_bitCount_95d88 : kJ13_bitCount_95d88.all (mm_cb 13 false cJ13_bitCount_95d88) = true := by decide +kernel
theorem mm_k_J9_floorMod_7cf53 : kJ9_floorMod_7cf53.all (mm_cb 14 false cJ9_floorMod_7cf53) = true := by decide +kernel
theorem mm_k_J9_abs_0f7a4 : kJ9_abs_0f7a4.all (mm_cb 14 false cJ9_abs_0f7a4) = true := by decide +kernel
theorem mm_k_J9_max_7cf53 : kJ9_max_7cf53.all (mm_cb 14 false cJ9_max_7cf53) = true := by decide +kernel
theorem mm_k_J9_min_7cf53 : kJ9_min_7cf53.all (mm_cb 14 false cJ9_min_7cf53) = true := by decide +kernel
theorem mm_k_J7_fill_53178 : kJ7_fill_53178.all (mm_cb 15 false cJ7_fill_53178) = true := by decide +kernel
theorem mm_k_L_law_p0 : kL_law_p0.all (mm_cb 16 false cL_law) = true := by decide +kernel
theorem mm_k_L_law_p1 : kL_law_p1.all (mm_cb 16 false cL_law) = true := by decide +kernel
theorem mm_k_L_law_p2 : kL_law_p2.all (mm_cb 16 false cL_law) = true := by decide +kernel
theorem mm_k_L_law_p3 : kL_law_p3.all (mm_cb 16 false cL_law) = true := by decide +kernel
theorem mm_k_L_law_p4 : kL_law_p4.all (mm_cb 16 false cL_law) = true := by decide +kernel
theorem mm_k_L_law_p5 : kL_law_p5.all (mm_cb 16 false cL_law) = true := by decide +kernel
theorem mm_k_L_law_p6 : kL_law_p6.all (mm_cb 16 false cL_law) = true := by decide +kernel
theorem mm_k_L_law_p7 : kL_law_p7.all (mm_cb 16 false cL_law) = true := by decide +kernel
theorem mm_k_L_law_p8 : kL_law_p8.all (mm_cb 16 false cL_law) = true := by decide +kernel
theorem mm_k_L_law_p9 : kL_law_p9.all (mm_cb 16 false cL_law) = true := by decide +kernel
theorem mm_k_L_law_p10 : kL_law_p10.all (mm_cb 16 false cL_law) = true := by decide +kernel
theorem mm_k_L_law : kL_law.all (mm_cb 16 false cL_law) = true := by
  unfold kL_law
  simp only [List.all_append, Bool.and_eq_true]
  exact ⟨mm_k_L_law_p0, mm_k_L_law_p1, mm_k_L_law_p2, mm_k_L_law_p3, mm_k_L_law_p4, mm_k_L_law_p5, mm_k_L_law_p6, mm_k_L_law_p7, mm_k_L_law_p8, mm_k_L_law_p9, mm_k_L_law_p10⟩

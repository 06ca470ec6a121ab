theorem ckI_L_law_1 : P_L_law_1.all (fun q => chkI M_L_law q.1 q.2) = true := by decide +kernel
theorem ckI_L_law_2 : P_L_law_2.all (fun q => chkI M_L_law q.1 q.2) = true := by decide +kernel
theorem ckI_L_law_3 : P_L_law_3.all (fun q => chkI M_L_law q.1 q.2) = true := by decide +kernel
theorem ckI_L_law_4 : P_L_law_4.all (fun q => chkI M_L_law q.1 q.2) = true := by decide +kernel
theorem ckI_L_law_5 : P_L_law_5.all (fun q => chkI M_L_law q.1 q.2) = true := by decide +kernel
theorem ckI_L_law_6 : P_L_law_6.all (fun q => chkI M_L_law q.1 q.2) = true := by decide +kernel
theorem ckI_L_law_7 : P_L_law_7.all (fun q => chkI M_L_law q.1 q.2) = true := by decide +kernel
theorem ckI_L_law_8 : P_L_law_8.all (fun q => chkI M_L_law q.1 q.2) = true := by decide +kernel
theorem ckI_L_law_9 : P_L_law_9.all (fun q => chkI M_L_law q.1 q.2) = true := by decide +kernel
theorem ckI_L_law_10 : P_L_law_10.all (fun q => chkI M_L_law q.1 q.2) = true := by decide +kernel
theorem ckI_L_law_11 : P_L_law_11.all (fun q => chkI M_L_law q.1 q.2) = true := by decide +kernel
theorem ckI_L_law_12 : P_L_law_12.all (fun q => chkI M_L_law q.1 q.2) = true := by decide +kernel
theorem ckI_L_law_13 : P_L_law_13.all (fun q => chkI M_L_law q.1 q.2) = true := by decide +kernel
theorem ckI_L_law_14 : P_L_law_14.all (fun q => chkI M_L_law q.1 q.2) = true := by decide +kernel
theorem ckI_L_law : P_L_law.all (fun q => chkI M_L_law q.1 q.2) = true := by
  simp only [P_L_law, List.all_append, ckI_L_law_1, ckI_L_law_2, ckI_L_law_3, ckI_L_law_4, ckI_L_law_5, ckI_L_law_6, ckI_L_law_7, ckI_L_law_8, ckI_L_law_9, ckI_L_law_10, ckI_L_law_11, ckI_L_law_12, ckI_L_law_13, ckI_L_law_14, Bool.and_self]
theorem ckI_X0_init : P_X0_init.all (fun q => chkI M_X0_init q.1 q.2) = true := by decide +kernel
theorem ckI_X0_become : P_X0_become.all (fun q => chkI M_X0_become q.1 q.2) = true := by decide +kernel
theorem ckI_X1_init : P_X1_init.all (fun q => chkI M_X1_init q.1 q.2) = true := by decide +kernel
theorem ckI_X1_wander : P_X1_wander.all (fun q => chkI M_X1_wander q.1 q.2) = true := by decide +kernel
theorem ckI_X1_ease : P_X1_ease.all (fun q => chkI M_X1_ease q.1 q.2) = true := by decide +kernel
theorem ckI_X1_tears : P_X1_tears.all (fun q => chkI M_X1_tears q.1 q.2) = true := by decide +kernel
theorem ckI_X1_sticks : P_X1_sticks.all (fun q => chkI M_X1_sticks q.1 q.2) = true := by decide +kernel
theorem ckI_X1_says : P_X1_says.all (fun q => chkI M_X1_says q.1 q.2) = true := by decide +kernel
theorem ckI_X2_init : P_X2_init.all (fun q => chkI M_X2_init q.1 q.2) = true := by decide +kernel
theorem ckI_X2_add : P_X2_add.all (fun q => chkI M_X2_add q.1 q.2) = true := by decide +kernel
theorem ckI_X2_empty : P_X2_empty.all (fun q => chkI M_X2_empty q.1 q.2) = true := by decide +kernel
theorem ckI_X2_read : P_X2_read.all (fun q => chkI M_X2_read q.1 q.2) = true := by decide +kernel
theorem ckI_X2_readEither : P_X2_readEither.all (fun q => chkI M_X2_readEither q.1 q.2) = true := by decide +kernel
theorem ckI_X2_readBoth : P_X2_readBoth.all (fun q => chkI M_X2_readBoth q.1 q.2) = true := by decide +kernel
theorem ckI_X2_readNot : P_X2_readNot.all (fun q => chkI M_X2_readNot q.1 q.2) = true := by decide +kernel
theorem ckI_X2_readCompared : P_X2_readCompared.all (fun q => chkI M_X2_readCompared q.1 q.2) = true := by decide +kernel
theorem ckI_X2_readSum : P_X2_readSum.all (fun q => chkI M_X2_readSum q.1 q.2) = true := by decide +kernel
theorem ckI_X2_readProduct : P_X2_readProduct.all (fun q => chkI M_X2_readProduct q.1 q.2) = true := by decide +kernel
theorem ckI_X2_readOne : P_X2_readOne.all (fun q => chkI M_X2_readOne q.1 q.2) = true := by decide +kernel
theorem ckI_X2_advance : P_X2_advance.all (fun q => chkI M_X2_advance q.1 q.2) = true := by decide +kernel
theorem ckI_X2_byteAt : P_X2_byteAt.all (fun q => chkI M_X2_byteAt q.1 q.2) = true := by decide +kernel
theorem ckI_X2_isLetter : P_X2_isLetter.all (fun q => chkI M_X2_isLetter q.1 q.2) = true := by decide +kernel
theorem ckI_X2_isDigit : P_X2_isDigit.all (fun q => chkI M_X2_isDigit q.1 q.2) = true := by decide +kernel
theorem ckI_X2_readNumber : P_X2_readNumber.all (fun q => chkI M_X2_readNumber q.1 q.2) = true := by decide +kernel
theorem ckI_X2_readWord : P_X2_readWord.all (fun q => chkI M_X2_readWord q.1 q.2) = true := by decide +kernel
theorem ckI_X2_isWord : P_X2_isWord.all (fun q => chkI M_X2_isWord q.1 q.2) = true := by decide +kernel
theorem ckI_X3_init : P_X3_init.all (fun q => chkI M_X3_init q.1 q.2) = true := by decide +kernel
theorem ckI_X3_begin : P_X3_begin.all (fun q => chkI M_X3_begin q.1 q.2) = true := by decide +kernel
theorem ckI_X3_become : P_X3_become.all (fun q => chkI M_X3_become q.1 q.2) = true := by decide +kernel
theorem ckI_X3_make : P_X3_make.all (fun q => chkI M_X3_make q.1 q.2) = true := by decide +kernel
theorem ckI_X3_relax : P_X3_relax.all (fun q => chkI M_X3_relax q.1 q.2) = true := by decide +kernel
theorem ckI_X3_draw : P_X3_draw.all (fun q => chkI M_X3_draw q.1 q.2) = true := by decide +kernel
theorem ckI_X3_lengthen : P_X3_lengthen.all (fun q => chkI M_X3_lengthen q.1 q.2) = true := by decide +kernel
theorem ckI_X3_bounce : P_X3_bounce.all (fun q => chkI M_X3_bounce q.1 q.2) = true := by decide +kernel
theorem ckI_X3_fold : P_X3_fold.all (fun q => chkI M_X3_fold q.1 q.2) = true := by decide +kernel
theorem ckI_X3_foldRow : P_X3_foldRow.all (fun q => chkI M_X3_foldRow q.1 q.2) = true := by decide +kernel
theorem ckI_X3_powder : P_X3_powder.all (fun q => chkI M_X3_powder q.1 q.2) = true := by decide +kernel
theorem ckI_X3_cutEnd : P_X3_cutEnd.all (fun q => chkI M_X3_cutEnd q.1 q.2) = true := by decide +kernel
theorem ckI_X3_thick : P_X3_thick.all (fun q => chkI M_X3_thick q.1 q.2) = true := by decide +kernel
theorem ckI_X3_thinnest : P_X3_thinnest.all (fun q => chkI M_X3_thinnest q.1 q.2) = true := by decide +kernel
theorem ckI_X3_thickest : P_X3_thickest.all (fun q => chkI M_X3_thickest q.1 q.2) = true := by decide +kernel
theorem ckI_X3_spread : P_X3_spread.all (fun q => chkI M_X3_spread q.1 q.2) = true := by decide +kernel
theorem ckI_X3_isMoreEvenThan : P_X3_isMoreEvenThan.all (fun q => chkI M_X3_isMoreEvenThan q.1 q.2) = true := by decide +kernel
theorem ckI_X3_allLength : P_X3_allLength.all (fun q => chkI M_X3_allLength q.1 q.2) = true := by decide +kernel
theorem ckI_X3_tenths : P_X3_tenths.all (fun q => chkI M_X3_tenths q.1 q.2) = true := by decide +kernel
theorem ckI_X3_goodParts : P_X3_goodParts.all (fun q => chkI M_X3_goodParts q.1 q.2) = true := by decide +kernel
theorem ckI_X3_cooked : P_X3_cooked.all (fun q => chkI M_X3_cooked q.1 q.2) = true := by decide +kernel
theorem ckI_X3_firstOff : P_X3_firstOff.all (fun q => chkI M_X3_firstOff q.1 q.2) = true := by decide +kernel
theorem ckI_X3_isAsTold : P_X3_isAsTold.all (fun q => chkI M_X3_isAsTold q.1 q.2) = true := by decide +kernel
theorem ckI_X4_init : P_X4_init.all (fun q => chkI M_X4_init q.1 q.2) = true := by decide +kernel
theorem ckI_X4_become : P_X4_become.all (fun q => chkI M_X4_become q.1 q.2) = true := by decide +kernel
theorem ckI_X4_has : P_X4_has.all (fun q => chkI M_X4_has q.1 q.2) = true := by decide +kernel
theorem ckI_X4_put : P_X4_put.all (fun q => chkI M_X4_put q.1 q.2) = true := by decide +kernel
theorem ckI_X5_init : P_X5_init.all (fun q => chkI M_X5_init q.1 q.2) = true := by decide +kernel
theorem ckI_X5_become : P_X5_become.all (fun q => chkI M_X5_become q.1 q.2) = true := by decide +kernel
theorem ckI_X5_takes : P_X5_takes.all (fun q => chkI M_X5_takes q.1 q.2) = true := by decide +kernel
theorem ckI_X5_isA : P_X5_isA.all (fun q => chkI M_X5_isA q.1 q.2) = true := by decide +kernel
theorem ckI_X6_init : P_X6_init.all (fun q => chkI M_X6_init q.1 q.2) = true := by decide +kernel
theorem ckI_X6_clear : P_X6_clear.all (fun q => chkI M_X6_clear q.1 q.2) = true := by decide +kernel
theorem ckI_X6_nameCode : P_X6_nameCode.all (fun q => chkI M_X6_nameCode q.1 q.2) = true := by decide +kernel
theorem ckI_X6_add : P_X6_add.all (fun q => chkI M_X6_add q.1 q.2) = true := by decide +kernel
theorem ckI_X6_endSection : P_X6_endSection.all (fun q => chkI M_X6_endSection q.1 q.2) = true := by decide +kernel
theorem ckI_X6_value : P_X6_value.all (fun q => chkI M_X6_value q.1 q.2) = true := by decide +kernel
theorem ckI_X6_named : P_X6_named.all (fun q => chkI M_X6_named q.1 q.2) = true := by decide +kernel
theorem ckI_X6_joined : P_X6_joined.all (fun q => chkI M_X6_joined q.1 q.2) = true := by decide +kernel
theorem ckI_X7_init_1 : P_X7_init_1.all (fun q => chkI M_X7_init q.1 q.2) = true := by decide +kernel
theorem ckI_X7_init_2 : P_X7_init_2.all (fun q => chkI M_X7_init q.1 q.2) = true := by decide +kernel
theorem ckI_X7_init : P_X7_init.all (fun q => chkI M_X7_init q.1 q.2) = true := by
  simp only [P_X7_init, List.all_append, ckI_X7_init_1, ckI_X7_init_2, Bool.and_self]
theorem ckI_X7_roll : P_X7_roll.all (fun q => chkI M_X7_roll q.1 q.2) = true := by decide +kernel
theorem ckI_X7_set : P_X7_set.all (fun q => chkI M_X7_set q.1 q.2) = true := by decide +kernel
theorem ckI_X7_count : P_X7_count.all (fun q => chkI M_X7_count q.1 q.2) = true := by decide +kernel
theorem ckI_X7_feed : P_X7_feed.all (fun q => chkI M_X7_feed q.1 q.2) = true := by decide +kernel
theorem ckI_X7_text : P_X7_text.all (fun q => chkI M_X7_text q.1 q.2) = true := by decide +kernel
theorem ckI_X7_force : P_X7_force.all (fun q => chkI M_X7_force q.1 q.2) = true := by decide +kernel
theorem ckI_X7_step : P_X7_step.all (fun q => chkI M_X7_step q.1 q.2) = true := by decide +kernel
theorem ckI_X7_forget : P_X7_forget.all (fun q => chkI M_X7_forget q.1 q.2) = true := by decide +kernel
theorem ckI_X7_stepTold : P_X7_stepTold.all (fun q => chkI M_X7_stepTold q.1 q.2) = true := by decide +kernel
theorem ckI_X7_rope : P_X7_rope.all (fun q => chkI M_X7_rope q.1 q.2) = true := by decide +kernel
theorem ckI_X7_state : P_X7_state.all (fun q => chkI M_X7_state q.1 q.2) = true := by decide +kernel
theorem ckI_X7_whole : P_X7_whole.all (fun q => chkI M_X7_whole q.1 q.2) = true := by decide +kernel
theorem ckI_X7_stop : P_X7_stop.all (fun q => chkI M_X7_stop q.1 q.2) = true := by decide +kernel
theorem ckI_X7_worst : P_X7_worst.all (fun q => chkI M_X7_worst q.1 q.2) = true := by decide +kernel
theorem ckI_X7_window : P_X7_window.all (fun q => chkI M_X7_window q.1 q.2) = true := by decide +kernel
theorem ckI_X7_pace : P_X7_pace.all (fun q => chkI M_X7_pace q.1 q.2) = true := by decide +kernel
theorem ckI_X7_rest : P_X7_rest.all (fun q => chkI M_X7_rest q.1 q.2) = true := by decide +kernel
theorem ckI_X7_dust : P_X7_dust.all (fun q => chkI M_X7_dust q.1 q.2) = true := by decide +kernel
theorem ckI_X7_doublings : P_X7_doublings.all (fun q => chkI M_X7_doublings q.1 q.2) = true := by decide +kernel
theorem ckI_X7_judge : P_X7_judge.all (fun q => chkI M_X7_judge q.1 q.2) = true := by decide +kernel
theorem ckI_X7_film : P_X7_film.all (fun q => chkI M_X7_film q.1 q.2) = true := by decide +kernel
theorem ckI_X7_serves : P_X7_serves.all (fun q => chkI M_X7_serves q.1 q.2) = true := by decide +kernel
theorem ckI_X7_which : P_X7_which.all (fun q => chkI M_X7_which q.1 q.2) = true := by decide +kernel
theorem ckI_X7_fault : P_X7_fault.all (fun q => chkI M_X7_fault q.1 q.2) = true := by decide +kernel
theorem ckI_X7_uneven : P_X7_uneven.all (fun q => chkI M_X7_uneven q.1 q.2) = true := by decide +kernel
theorem ckI_X7_cooks : P_X7_cooks.all (fun q => chkI M_X7_cooks q.1 q.2) = true := by decide +kernel
theorem ckI_X7_pot : P_X7_pot.all (fun q => chkI M_X7_pot q.1 q.2) = true := by decide +kernel
theorem ckI_X7_place : P_X7_place.all (fun q => chkI M_X7_place q.1 q.2) = true := by decide +kernel
theorem ckI_X7_apart : P_X7_apart.all (fun q => chkI M_X7_apart q.1 q.2) = true := by decide +kernel
theorem ckI_X7_parted : P_X7_parted.all (fun q => chkI M_X7_parted q.1 q.2) = true := by decide +kernel
theorem ckI_X7_round : P_X7_round.all (fun q => chkI M_X7_round q.1 q.2) = true := by decide +kernel
theorem ckI_X7_colours : P_X7_colours.all (fun q => chkI M_X7_colours q.1 q.2) = true := by decide +kernel
theorem ckI_X7_thin : P_X7_thin.all (fun q => chkI M_X7_thin q.1 q.2) = true := by decide +kernel
theorem ckI_X7_odds : P_X7_odds.all (fun q => chkI M_X7_odds q.1 q.2) = true := by decide +kernel
theorem ckI_X7_record : P_X7_record.all (fun q => chkI M_X7_record q.1 q.2) = true := by decide +kernel
theorem ckI_X7_drawn : P_X7_drawn.all (fun q => chkI M_X7_drawn q.1 q.2) = true := by decide +kernel
theorem ckI_X7_image : P_X7_image.all (fun q => chkI M_X7_image q.1 q.2) = true := by decide +kernel
theorem ckI_X7_back : P_X7_back.all (fun q => chkI M_X7_back q.1 q.2) = true := by decide +kernel
theorem ckI_X7_sheet : P_X7_sheet.all (fun q => chkI M_X7_sheet q.1 q.2) = true := by decide +kernel
theorem ckI_X7_cell : P_X7_cell.all (fun q => chkI M_X7_cell q.1 q.2) = true := by decide +kernel
theorem ckI_X7_copy : P_X7_copy.all (fun q => chkI M_X7_copy q.1 q.2) = true := by decide +kernel
theorem ckI_X7_stepsBy : P_X7_stepsBy.all (fun q => chkI M_X7_stepsBy q.1 q.2) = true := by decide +kernel
theorem ckI_X7_taken : P_X7_taken.all (fun q => chkI M_X7_taken q.1 q.2) = true := by decide +kernel
theorem ckI_X7_within : P_X7_within.all (fun q => chkI M_X7_within q.1 q.2) = true := by decide +kernel
theorem ckI_X7_quotient : P_X7_quotient.all (fun q => chkI M_X7_quotient q.1 q.2) = true := by decide +kernel
theorem ckI_X7_isStep : P_X7_isStep.all (fun q => chkI M_X7_isStep q.1 q.2) = true := by decide +kernel
theorem ckI_X7_areSteps : P_X7_areSteps.all (fun q => chkI M_X7_areSteps q.1 q.2) = true := by decide +kernel
theorem ckI_X7_isSheet : P_X7_isSheet.all (fun q => chkI M_X7_isSheet q.1 q.2) = true := by decide +kernel
theorem ckI_X7_isPlace : P_X7_isPlace.all (fun q => chkI M_X7_isPlace q.1 q.2) = true := by decide +kernel
theorem ckI_X7_areOdds : P_X7_areOdds.all (fun q => chkI M_X7_areOdds q.1 q.2) = true := by decide +kernel
theorem ckI_X7_refusalOfTest : P_X7_refusalOfTest.all (fun q => chkI M_X7_refusalOfTest q.1 q.2) = true := by decide +kernel
theorem ckI_X7_make : P_X7_make.all (fun q => chkI M_X7_make q.1 q.2) = true := by decide +kernel
theorem ckI_X7_tryDrawing : P_X7_tryDrawing.all (fun q => chkI M_X7_tryDrawing q.1 q.2) = true := by decide +kernel
theorem ckI_X7_allTake : P_X7_allTake.all (fun q => chkI M_X7_allTake q.1 q.2) = true := by decide +kernel
theorem ckI_X7_placeBehind : P_X7_placeBehind.all (fun q => chkI M_X7_placeBehind q.1 q.2) = true := by decide +kernel
theorem ckI_X7_colour : P_X7_colour.all (fun q => chkI M_X7_colour q.1 q.2) = true := by decide +kernel
theorem ckI_X7_multiplied : P_X7_multiplied.all (fun q => chkI M_X7_multiplied q.1 q.2) = true := by decide +kernel
theorem ckI_X7_inLowestTerms : P_X7_inLowestTerms.all (fun q => chkI M_X7_inLowestTerms q.1 q.2) = true := by decide +kernel
theorem ckI_X8_init_1 : P_X8_init_1.all (fun q => chkI M_X8_init q.1 q.2) = true := by decide +kernel
theorem ckI_X8_init_2 : P_X8_init_2.all (fun q => chkI M_X8_init q.1 q.2) = true := by decide +kernel
theorem ckI_X8_init_3 : P_X8_init_3.all (fun q => chkI M_X8_init q.1 q.2) = true := by decide +kernel
theorem ckI_X8_init_4 : P_X8_init_4.all (fun q => chkI M_X8_init q.1 q.2) = true := by decide +kernel
theorem ckI_X8_init_5 : P_X8_init_5.all (fun q => chkI M_X8_init q.1 q.2) = true := by decide +kernel
theorem ckI_X8_init_6 : P_X8_init_6.all (fun q => chkI M_X8_init q.1 q.2) = true := by decide +kernel
theorem ckI_X8_init_7 : P_X8_init_7.all (fun q => chkI M_X8_init q.1 q.2) = true := by decide +kernel
theorem ckI_X8_init_8 : P_X8_init_8.all (fun q => chkI M_X8_init q.1 q.2) = true := by decide +kernel
theorem ckI_X8_init_9 : P_X8_init_9.all (fun q => chkI M_X8_init q.1 q.2) = true := by decide +kernel
theorem ckI_X8_init_10 : P_X8_init_10.all (fun q => chkI M_X8_init q.1 q.2) = true := by decide +kernel
theorem ckI_X8_init : P_X8_init.all (fun q => chkI M_X8_init q.1 q.2) = true := by
  simp only [P_X8_init, List.all_append, ckI_X8_init_1, ckI_X8_init_2, ckI_X8_init_3, ckI_X8_init_4, ckI_X8_init_5, ckI_X8_init_6, ckI_X8_init_7, ckI_X8_init_8, ckI_X8_init_9, ckI_X8_init_10, Bool.and_self]
theorem ckI_X8_in : P_X8_in.all (fun q => chkI M_X8_in q.1 q.2) = true := by decide +kernel
theorem ckI_X8_isCell : P_X8_isCell.all (fun q => chkI M_X8_isCell q.1 q.2) = true := by decide +kernel
theorem ckI_X8_areSteps : P_X8_areSteps.all (fun q => chkI M_X8_areSteps q.1 q.2) = true := by decide +kernel
theorem ckI_X8_size : P_X8_size.all (fun q => chkI M_X8_size q.1 q.2) = true := by decide +kernel
theorem ckI_X8_within : P_X8_within.all (fun q => chkI M_X8_within q.1 q.2) = true := by decide +kernel
theorem ckI_X8_roll : P_X8_roll.all (fun q => chkI M_X8_roll q.1 q.2) = true := by decide +kernel
theorem ckI_X8_set : P_X8_set.all (fun q => chkI M_X8_set q.1 q.2) = true := by decide +kernel
theorem ckI_X8_holds0 : P_X8_holds0.all (fun q => chkI M_X8_holds0 q.1 q.2) = true := by decide +kernel
theorem ckI_X8_count : P_X8_count.all (fun q => chkI M_X8_count q.1 q.2) = true := by decide +kernel
theorem ckI_X8_feed : P_X8_feed.all (fun q => chkI M_X8_feed q.1 q.2) = true := by decide +kernel
theorem ckI_X8_wordFrom : P_X8_wordFrom.all (fun q => chkI M_X8_wordFrom q.1 q.2) = true := by decide +kernel
theorem ckI_X8_next_1 : P_X8_next_1.all (fun q => chkI M_X8_next q.1 q.2) = true := by decide +kernel
theorem ckI_X8_next_2 : P_X8_next_2.all (fun q => chkI M_X8_next q.1 q.2) = true := by decide +kernel
theorem ckI_X8_next_3 : P_X8_next_3.all (fun q => chkI M_X8_next q.1 q.2) = true := by decide +kernel
theorem ckI_X8_next : P_X8_next.all (fun q => chkI M_X8_next q.1 q.2) = true := by
  simp only [P_X8_next, List.all_append, ckI_X8_next_1, ckI_X8_next_2, ckI_X8_next_3, Bool.and_self]
theorem ckI_X8_rank : P_X8_rank.all (fun q => chkI M_X8_rank q.1 q.2) = true := by decide +kernel
theorem ckI_X8_puts : P_X8_puts.all (fun q => chkI M_X8_puts q.1 q.2) = true := by decide +kernel
theorem ckI_X8_unwinds : P_X8_unwinds.all (fun q => chkI M_X8_unwinds q.1 q.2) = true := by decide +kernel
theorem ckI_X8_holds : P_X8_holds.all (fun q => chkI M_X8_holds q.1 q.2) = true := by decide +kernel
theorem ckI_X8_opensOne : P_X8_opensOne.all (fun q => chkI M_X8_opensOne q.1 q.2) = true := by decide +kernel
theorem ckI_X8_between : P_X8_between.all (fun q => chkI M_X8_between q.1 q.2) = true := by decide +kernel
theorem ckI_X8_signOf : P_X8_signOf.all (fun q => chkI M_X8_signOf q.1 q.2) = true := by decide +kernel
theorem ckI_X8_eRead_1 : P_X8_eRead_1.all (fun q => chkI M_X8_eRead q.1 q.2) = true := by decide +kernel
theorem ckI_X8_eRead_2 : P_X8_eRead_2.all (fun q => chkI M_X8_eRead q.1 q.2) = true := by decide +kernel
theorem ckI_X8_eRead : P_X8_eRead.all (fun q => chkI M_X8_eRead q.1 q.2) = true := by
  simp only [P_X8_eRead, List.all_append, ckI_X8_eRead_1, ckI_X8_eRead_2, Bool.and_self]
theorem ckI_X8_text : P_X8_text.all (fun q => chkI M_X8_text q.1 q.2) = true := by decide +kernel
theorem ckI_X8_two : P_X8_two.all (fun q => chkI M_X8_two q.1 q.2) = true := by decide +kernel
theorem ckI_X8_worth_1 : P_X8_worth_1.all (fun q => chkI M_X8_worth q.1 q.2) = true := by decide +kernel
theorem ckI_X8_worth_2 : P_X8_worth_2.all (fun q => chkI M_X8_worth q.1 q.2) = true := by decide +kernel
theorem ckI_X8_worth : P_X8_worth.all (fun q => chkI M_X8_worth q.1 q.2) = true := by
  simp only [P_X8_worth, List.all_append, ckI_X8_worth_1, ckI_X8_worth_2, Bool.and_self]
theorem ckI_X8_force : P_X8_force.all (fun q => chkI M_X8_force q.1 q.2) = true := by decide +kernel
theorem ckI_X8_step : P_X8_step.all (fun q => chkI M_X8_step q.1 q.2) = true := by decide +kernel
theorem ckI_X8_forget : P_X8_forget.all (fun q => chkI M_X8_forget q.1 q.2) = true := by decide +kernel
theorem ckI_X8_takesOf : P_X8_takesOf.all (fun q => chkI M_X8_takesOf q.1 q.2) = true := by decide +kernel
theorem ckI_X8_stepTold : P_X8_stepTold.all (fun q => chkI M_X8_stepTold q.1 q.2) = true := by decide +kernel
theorem ckI_X8_thickOf : P_X8_thickOf.all (fun q => chkI M_X8_thickOf q.1 q.2) = true := by decide +kernel
theorem ckI_X8_asks : P_X8_asks.all (fun q => chkI M_X8_asks q.1 q.2) = true := by decide +kernel
theorem ckI_X8_allLength : P_X8_allLength.all (fun q => chkI M_X8_allLength q.1 q.2) = true := by decide +kernel
theorem ckI_X8_drawsMore : P_X8_drawsMore.all (fun q => chkI M_X8_drawsMore q.1 q.2) = true := by decide +kernel
theorem ckI_X8_draws_1 : P_X8_draws_1.all (fun q => chkI M_X8_draws q.1 q.2) = true := by decide +kernel
theorem ckI_X8_draws_2 : P_X8_draws_2.all (fun q => chkI M_X8_draws q.1 q.2) = true := by decide +kernel
theorem ckI_X8_draws : P_X8_draws.all (fun q => chkI M_X8_draws q.1 q.2) = true := by
  simp only [P_X8_draws, List.all_append, ckI_X8_draws_1, ckI_X8_draws_2, Bool.and_self]
theorem ckI_X8_keepsRow : P_X8_keepsRow.all (fun q => chkI M_X8_keepsRow q.1 q.2) = true := by decide +kernel
theorem ckI_X8_bounces : P_X8_bounces.all (fun q => chkI M_X8_bounces q.1 q.2) = true := by decide +kernel
theorem ckI_X8_doubles : P_X8_doubles.all (fun q => chkI M_X8_doubles q.1 q.2) = true := by decide +kernel
theorem ckI_X8_cuts : P_X8_cuts.all (fun q => chkI M_X8_cuts q.1 q.2) = true := by decide +kernel
theorem ckI_X8_rests : P_X8_rests.all (fun q => chkI M_X8_rests q.1 q.2) = true := by decide +kernel
theorem ckI_X8_dusts : P_X8_dusts.all (fun q => chkI M_X8_dusts q.1 q.2) = true := by decide +kernel
theorem ckI_X8_makes : P_X8_makes.all (fun q => chkI M_X8_makes q.1 q.2) = true := by decide +kernel
theorem ckI_X8_begins : P_X8_begins.all (fun q => chkI M_X8_begins q.1 q.2) = true := by decide +kernel
theorem ckI_X8_goesBut : P_X8_goesBut.all (fun q => chkI M_X8_goesBut q.1 q.2) = true := by decide +kernel
theorem ckI_X8_goes : P_X8_goes.all (fun q => chkI M_X8_goes q.1 q.2) = true := by decide +kernel
theorem ckI_X8_rope : P_X8_rope.all (fun q => chkI M_X8_rope q.1 q.2) = true := by decide +kernel
theorem ckI_X8_least : P_X8_least.all (fun q => chkI M_X8_least q.1 q.2) = true := by decide +kernel
theorem ckI_X8_greatest : P_X8_greatest.all (fun q => chkI M_X8_greatest q.1 q.2) = true := by decide +kernel
theorem ckI_X8_spread : P_X8_spread.all (fun q => chkI M_X8_spread q.1 q.2) = true := by decide +kernel
theorem ckI_X8_doubled : P_X8_doubled.all (fun q => chkI M_X8_doubled q.1 q.2) = true := by decide +kernel
theorem ckI_X8_state : P_X8_state.all (fun q => chkI M_X8_state q.1 q.2) = true := by decide +kernel
theorem ckI_X8_both : P_X8_both.all (fun q => chkI M_X8_both q.1 q.2) = true := by decide +kernel
theorem ckI_X8_whole : P_X8_whole.all (fun q => chkI M_X8_whole q.1 q.2) = true := by decide +kernel
theorem ckI_X8_stop : P_X8_stop.all (fun q => chkI M_X8_stop q.1 q.2) = true := by decide +kernel
theorem ckI_X8_worst : P_X8_worst.all (fun q => chkI M_X8_worst q.1 q.2) = true := by decide +kernel
theorem ckI_X8_some : P_X8_some.all (fun q => chkI M_X8_some q.1 q.2) = true := by decide +kernel
theorem ckI_X8_window : P_X8_window.all (fun q => chkI M_X8_window q.1 q.2) = true := by decide +kernel
theorem ckI_X8_pace : P_X8_pace.all (fun q => chkI M_X8_pace q.1 q.2) = true := by decide +kernel
theorem ckI_X8_rest : P_X8_rest.all (fun q => chkI M_X8_rest q.1 q.2) = true := by decide +kernel
theorem ckI_X8_dust : P_X8_dust.all (fun q => chkI M_X8_dust q.1 q.2) = true := by decide +kernel
theorem ckI_X8_doublings : P_X8_doublings.all (fun q => chkI M_X8_doublings q.1 q.2) = true := by decide +kernel
theorem ckI_X8_sheetWrong : P_X8_sheetWrong.all (fun q => chkI M_X8_sheetWrong q.1 q.2) = true := by decide +kernel
theorem ckI_X8_offFrom : P_X8_offFrom.all (fun q => chkI M_X8_offFrom q.1 q.2) = true := by decide +kernel
theorem ckI_X8_judge : P_X8_judge.all (fun q => chkI M_X8_judge q.1 q.2) = true := by decide +kernel
theorem ckI_X8_film : P_X8_film.all (fun q => chkI M_X8_film q.1 q.2) = true := by decide +kernel
theorem ckI_X8_serves : P_X8_serves.all (fun q => chkI M_X8_serves q.1 q.2) = true := by decide +kernel
theorem ckI_X8_which : P_X8_which.all (fun q => chkI M_X8_which q.1 q.2) = true := by decide +kernel
theorem ckI_X8_fault : P_X8_fault.all (fun q => chkI M_X8_fault q.1 q.2) = true := by decide +kernel
theorem ckI_X8_uneven : P_X8_uneven.all (fun q => chkI M_X8_uneven q.1 q.2) = true := by decide +kernel
theorem ckI_X8_cooked : P_X8_cooked.all (fun q => chkI M_X8_cooked q.1 q.2) = true := by decide +kernel
theorem ckI_X8_cooks : P_X8_cooks.all (fun q => chkI M_X8_cooks q.1 q.2) = true := by decide +kernel
theorem ckI_X8_pot : P_X8_pot.all (fun q => chkI M_X8_pot q.1 q.2) = true := by decide +kernel
theorem ckI_X8_isSpot : P_X8_isSpot.all (fun q => chkI M_X8_isSpot q.1 q.2) = true := by decide +kernel
theorem ckI_X8_doubledOnce : P_X8_doubledOnce.all (fun q => chkI M_X8_doubledOnce q.1 q.2) = true := by decide +kernel
theorem ckI_X8_behind : P_X8_behind.all (fun q => chkI M_X8_behind q.1 q.2) = true := by decide +kernel
theorem ckI_X8_place : P_X8_place.all (fun q => chkI M_X8_place q.1 q.2) = true := by decide +kernel
theorem ckI_X8_apart : P_X8_apart.all (fun q => chkI M_X8_apart q.1 q.2) = true := by decide +kernel
theorem ckI_X8_parted : P_X8_parted.all (fun q => chkI M_X8_parted q.1 q.2) = true := by decide +kernel
theorem ckI_X8_round : P_X8_round.all (fun q => chkI M_X8_round q.1 q.2) = true := by decide +kernel
theorem ckI_X8_colours_1 : P_X8_colours_1.all (fun q => chkI M_X8_colours q.1 q.2) = true := by decide +kernel
theorem ckI_X8_colours_2 : P_X8_colours_2.all (fun q => chkI M_X8_colours q.1 q.2) = true := by decide +kernel
theorem ckI_X8_colours : P_X8_colours.all (fun q => chkI M_X8_colours q.1 q.2) = true := by
  simp only [P_X8_colours, List.all_append, ckI_X8_colours_1, ckI_X8_colours_2, Bool.and_self]
theorem ckI_X8_lowest : P_X8_lowest.all (fun q => chkI M_X8_lowest q.1 q.2) = true := by decide +kernel
theorem ckI_X8_power : P_X8_power.all (fun q => chkI M_X8_power q.1 q.2) = true := by decide +kernel
theorem ckI_X8_thin : P_X8_thin.all (fun q => chkI M_X8_thin q.1 q.2) = true := by decide +kernel
theorem ckI_X8_areOdds : P_X8_areOdds.all (fun q => chkI M_X8_areOdds q.1 q.2) = true := by decide +kernel
theorem ckI_X8_odds : P_X8_odds.all (fun q => chkI M_X8_odds q.1 q.2) = true := by decide +kernel
theorem ckI_X8_record : P_X8_record.all (fun q => chkI M_X8_record q.1 q.2) = true := by decide +kernel
theorem ckI_X8_drawn : P_X8_drawn.all (fun q => chkI M_X8_drawn q.1 q.2) = true := by decide +kernel
theorem ckI_X8_image : P_X8_image.all (fun q => chkI M_X8_image q.1 q.2) = true := by decide +kernel
theorem ckI_X8_back : P_X8_back.all (fun q => chkI M_X8_back q.1 q.2) = true := by decide +kernel
theorem ckI_X8_sheet : P_X8_sheet.all (fun q => chkI M_X8_sheet q.1 q.2) = true := by decide +kernel
theorem ckI_X8_cell : P_X8_cell.all (fun q => chkI M_X8_cell q.1 q.2) = true := by decide +kernel
theorem ckI_X8_copy : P_X8_copy.all (fun q => chkI M_X8_copy q.1 q.2) = true := by decide +kernel
theorem ckI_X8_stepsBy : P_X8_stepsBy.all (fun q => chkI M_X8_stepsBy q.1 q.2) = true := by decide +kernel
theorem ckI_X8_isUnder : P_X8_isUnder.all (fun q => chkI M_X8_isUnder q.1 q.2) = true := by decide +kernel
theorem ckI_X8_taken : P_X8_taken.all (fun q => chkI M_X8_taken q.1 q.2) = true := by decide +kernel
theorem ckI_J0_length_8abf5 : P_J0_length_8abf5.all (fun q => chkI M_J0_length_8abf5 q.1 q.2) = true := by decide +kernel
theorem ckI_J0_charAt_5068e : P_J0_charAt_5068e.all (fun q => chkI M_J0_charAt_5068e q.1 q.2) = true := by decide +kernel
theorem ckI_J0_indexOf_0f7a4 : P_J0_indexOf_0f7a4.all (fun q => chkI M_J0_indexOf_0f7a4 q.1 q.2) = true := by decide +kernel
theorem ckI_J0_indexOf_7cf53 : P_J0_indexOf_7cf53.all (fun q => chkI M_J0_indexOf_7cf53 q.1 q.2) = true := by decide +kernel
theorem ckI_J0_coder_7d493 : P_J0_coder_7d493.all (fun q => chkI M_J0_coder_7d493 q.1 q.2) = true := by decide +kernel
theorem ckI_J0_isLatin1_aae02 : P_J0_isLatin1_aae02.all (fun q => chkI M_J0_isLatin1_aae02 q.1 q.2) = true := by decide +kernel
theorem ckI_J0_checkIndex_df160 : P_J0_checkIndex_df160.all (fun q => chkI M_J0_checkIndex_df160 q.1 q.2) = true := by decide +kernel
theorem ckI_J1_charAt_3b067 : P_J1_charAt_3b067.all (fun q => chkI M_J1_charAt_3b067 q.1 q.2) = true := by decide +kernel
theorem ckI_J1_canEncode_9a6ad : P_J1_canEncode_9a6ad.all (fun q => chkI M_J1_canEncode_9a6ad q.1 q.2) = true := by decide +kernel
theorem ckI_J1_indexOf_4cfef : P_J1_indexOf_4cfef.all (fun q => chkI M_J1_indexOf_4cfef q.1 q.2) = true := by decide +kernel
theorem ckI_J1_indexOfChar_4cfef : P_J1_indexOfChar_4cfef.all (fun q => chkI M_J1_indexOfChar_4cfef q.1 q.2) = true := by decide +kernel
theorem ckI_J3_checkIndex_8e157 : P_J3_checkIndex_8e157.all (fun q => chkI M_J3_checkIndex_8e157 q.1 q.2) = true := by decide +kernel
set_option maxRecDepth 100000 in
theorem ckI_all : ∀ z ∈ minf.zip progL, z.2.all (fun q => chkI z.1 q.1 q.2) = true := by
  show ∀ z ∈ [(M_L_law, P_L_law), (M_X0_init, P_X0_init), (M_X0_become, P_X0_become), (M_X1_init, P_X1_init), (M_X1_wander, P_X1_wander), (M_X1_ease, P_X1_ease), (M_X1_tears, P_X1_tears), (M_X1_sticks, P_X1_sticks), (M_X1_says, P_X1_says), (M_X2_init, P_X2_init), (M_X2_add, P_X2_add), (M_X2_empty, P_X2_empty), (M_X2_read, P_X2_read), (M_X2_readEither, P_X2_readEither), (M_X2_readBoth, P_X2_readBoth), (M_X2_readNot, P_X2_readNot), (M_X2_readCompared, P_X2_readCompared), (M_X2_readSum, P_X2_readSum), (M_X2_readProduct, P_X2_readProduct), (M_X2_readOne, P_X2_readOne), (M_X2_advance, P_X2_advance), (M_X2_byteAt, P_X2_byteAt), (M_X2_isLetter, P_X2_isLetter), (M_X2_isDigit, P_X2_isDigit), (M_X2_readNumber, P_X2_readNumber), (M_X2_readWord, P_X2_readWord), (M_X2_isWord, P_X2_isWord), (M_X3_init, P_X3_init), (M_X3_begin, P_X3_begin), (M_X3_become, P_X3_become), (M_X3_make, P_X3_make), (M_X3_relax, P_X3_relax), (M_X3_draw, P_X3_draw), (M_X3_lengthen, P_X3_lengthen), (M_X3_bounce, P_X3_bounce), (M_X3_fold, P_X3_fold), (M_X3_foldRow, P_X3_foldRow), (M_X3_powder, P_X3_powder), (M_X3_cutEnd, P_X3_cutEnd), (M_X3_thick, P_X3_thick), (M_X3_thinnest, P_X3_thinnest), (M_X3_thickest, P_X3_thickest), (M_X3_spread, P_X3_spread), (M_X3_isMoreEvenThan, P_X3_isMoreEvenThan), (M_X3_allLength, P_X3_allLength), (M_X3_tenths, P_X3_tenths), (M_X3_goodParts, P_X3_goodParts), (M_X3_cooked, P_X3_cooked), (M_X3_firstOff, P_X3_firstOff), (M_X3_isAsTold, P_X3_isAsTold), (M_X4_init, P_X4_init), (M_X4_become, P_X4_become), (M_X4_has, P_X4_has), (M_X4_put, P_X4_put), (M_X5_init, P_X5_init), (M_X5_become, P_X5_become), (M_X5_takes, P_X5_takes), (M_X5_isA, P_X5_isA), (M_X6_init, P_X6_init), (M_X6_clear, P_X6_clear), (M_X6_nameCode, P_X6_nameCode), (M_X6_add, P_X6_add), (M_X6_endSection, P_X6_endSection), (M_X6_value, P_X6_value), (M_X6_named, P_X6_named), (M_X6_joined, P_X6_joined), (M_X7_init, P_X7_init), (M_X7_roll, P_X7_roll), (M_X7_set, P_X7_set), (M_X7_count, P_X7_count), (M_X7_feed, P_X7_feed), (M_X7_text, P_X7_text), (M_X7_force, P_X7_force), (M_X7_step, P_X7_step), (M_X7_forget, P_X7_forget), (M_X7_stepTold, P_X7_stepTold), (M_X7_rope, P_X7_rope), (M_X7_state, P_X7_state), (M_X7_whole, P_X7_whole), (M_X7_stop, P_X7_stop), (M_X7_worst, P_X7_worst), (M_X7_window, P_X7_window), (M_X7_pace, P_X7_pace), (M_X7_rest, P_X7_rest), (M_X7_dust, P_X7_dust), (M_X7_doublings, P_X7_doublings), (M_X7_judge, P_X7_judge), (M_X7_film, P_X7_film), (M_X7_serves, P_X7_serves), (M_X7_which, P_X7_which), (M_X7_fault, P_X7_fault), (M_X7_uneven, P_X7_uneven), (M_X7_cooks, P_X7_cooks), (M_X7_pot, P_X7_pot), (M_X7_place, P_X7_place), (M_X7_apart, P_X7_apart), (M_X7_parted, P_X7_parted), (M_X7_round, P_X7_round), (M_X7_colours, P_X7_colours), (M_X7_thin, P_X7_thin), (M_X7_odds, P_X7_odds), (M_X7_record, P_X7_record), (M_X7_drawn, P_X7_drawn), (M_X7_image, P_X7_image), (M_X7_back, P_X7_back), (M_X7_sheet, P_X7_sheet), (M_X7_cell, P_X7_cell), (M_X7_copy, P_X7_copy), (M_X7_stepsBy, P_X7_stepsBy), (M_X7_taken, P_X7_taken), (M_X7_within, P_X7_within), (M_X7_quotient, P_X7_quotient), (M_X7_isStep, P_X7_isStep), (M_X7_areSteps, P_X7_areSteps), (M_X7_isSheet, P_X7_isSheet), (M_X7_isPlace, P_X7_isPlace), (M_X7_areOdds, P_X7_areOdds), (M_X7_refusalOfTest, P_X7_refusalOfTest), (M_X7_make, P_X7_make), (M_X7_tryDrawing, P_X7_tryDrawing), (M_X7_allTake, P_X7_allTake), (M_X7_placeBehind, P_X7_placeBehind), (M_X7_colour, P_X7_colour), (M_X7_multiplied, P_X7_multiplied), (M_X7_inLowestTerms, P_X7_inLowestTerms), (M_X8_init, P_X8_init), (M_X8_in, P_X8_in), (M_X8_isCell, P_X8_isCell), (M_X8_areSteps, P_X8_areSteps), (M_X8_size, P_X8_size), (M_X8_within, P_X8_within), (M_X8_roll, P_X8_roll), (M_X8_set, P_X8_set), (M_X8_holds0, P_X8_holds0), (M_X8_count, P_X8_count), (M_X8_feed, P_X8_feed), (M_X8_wordFrom, P_X8_wordFrom), (M_X8_next, P_X8_next), (M_X8_rank, P_X8_rank), (M_X8_puts, P_X8_puts), (M_X8_unwinds, P_X8_unwinds), (M_X8_holds, P_X8_holds), (M_X8_opensOne, P_X8_opensOne), (M_X8_between, P_X8_between), (M_X8_signOf, P_X8_signOf), (M_X8_eRead, P_X8_eRead), (M_X8_text, P_X8_text), (M_X8_two, P_X8_two), (M_X8_worth, P_X8_worth), (M_X8_force, P_X8_force), (M_X8_step, P_X8_step), (M_X8_forget, P_X8_forget), (M_X8_takesOf, P_X8_takesOf), (M_X8_stepTold, P_X8_stepTold), (M_X8_thickOf, P_X8_thickOf), (M_X8_asks, P_X8_asks), (M_X8_allLength, P_X8_allLength), (M_X8_drawsMore, P_X8_drawsMore), (M_X8_draws, P_X8_draws), (M_X8_keepsRow, P_X8_keepsRow), (M_X8_bounces, P_X8_bounces), (M_X8_doubles, P_X8_doubles), (M_X8_cuts, P_X8_cuts), (M_X8_rests, P_X8_rests), (M_X8_dusts, P_X8_dusts), (M_X8_makes, P_X8_makes), (M_X8_begins, P_X8_begins), (M_X8_goesBut, P_X8_goesBut), (M_X8_goes, P_X8_goes), (M_X8_rope, P_X8_rope), (M_X8_least, P_X8_least), (M_X8_greatest, P_X8_greatest), (M_X8_spread, P_X8_spread), (M_X8_doubled, P_X8_doubled), (M_X8_state, P_X8_state), (M_X8_both, P_X8_both), (M_X8_whole, P_X8_whole), (M_X8_stop, P_X8_stop), (M_X8_worst, P_X8_worst), (M_X8_some, P_X8_some), (M_X8_window, P_X8_window), (M_X8_pace, P_X8_pace), (M_X8_rest, P_X8_rest), (M_X8_dust, P_X8_dust), (M_X8_doublings, P_X8_doublings), (M_X8_sheetWrong, P_X8_sheetWrong), (M_X8_offFrom, P_X8_offFrom), (M_X8_judge, P_X8_judge), (M_X8_film, P_X8_film), (M_X8_serves, P_X8_serves), (M_X8_which, P_X8_which), (M_X8_fault, P_X8_fault), (M_X8_uneven, P_X8_uneven), (M_X8_cooked, P_X8_cooked), (M_X8_cooks, P_X8_cooks), (M_X8_pot, P_X8_pot), (M_X8_isSpot, P_X8_isSpot), (M_X8_doubledOnce, P_X8_doubledOnce), (M_X8_behind, P_X8_behind), (M_X8_place, P_X8_place), (M_X8_apart, P_X8_apart), (M_X8_parted, P_X8_parted), (M_X8_round, P_X8_round), (M_X8_colours, P_X8_colours), (M_X8_lowest, P_X8_lowest), (M_X8_power, P_X8_power), (M_X8_thin, P_X8_thin), (M_X8_areOdds, P_X8_areOdds), (M_X8_odds, P_X8_odds), (M_X8_record, P_X8_record), (M_X8_drawn, P_X8_drawn), (M_X8_image, P_X8_image), (M_X8_back, P_X8_back), (M_X8_sheet, P_X8_sheet), (M_X8_cell, P_X8_cell), (M_X8_copy, P_X8_copy), (M_X8_stepsBy, P_X8_stepsBy), (M_X8_isUnder, P_X8_isUnder), (M_X8_taken, P_X8_taken), (M_J0_length_8abf5, P_J0_length_8abf5), (M_J0_charAt_5068e, P_J0_charAt_5068e), (M_J0_indexOf_0f7a4, P_J0_indexOf_0f7a4), (M_J0_indexOf_7cf53, P_J0_indexOf_7cf53), (M_J0_coder_7d493, P_J0_coder_7d493), (M_J0_isLatin1_aae02, P_J0_isLatin1_aae02), (M_J0_checkIndex_df160, P_J0_checkIndex_df160), (M_J1_charAt_3b067, P_J1_charAt_3b067), (M_J1_canEncode_9a6ad, P_J1_canEncode_9a6ad), (M_J1_indexOf_4cfef, P_J1_indexOf_4cfef), (M_J1_indexOfChar_4cfef, P_J1_indexOfChar_4cfef), (M_J3_checkIndex_8e157, P_J3_checkIndex_8e157)], z.2.all (fun q => chkI z.1 q.1 q.2) = true
  exact List.forall_mem_cons.mpr ⟨ckI_L_law, (List.forall_mem_cons.mpr ⟨ckI_X0_init, (List.forall_mem_cons.mpr ⟨ckI_X0_become, (List.forall_mem_cons.mpr ⟨ckI_X1_init, (List.forall_mem_cons.mpr ⟨ckI_X1_wander, (List.forall_mem_cons.mpr ⟨ckI_X1_ease, (List.forall_mem_cons.mpr ⟨ckI_X1_tears, (List.forall_mem_cons.mpr ⟨ckI_X1_sticks, (List.forall_mem_cons.mpr ⟨ckI_X1_says, (List.forall_mem_cons.mpr ⟨ckI_X2_init, (List.forall_mem_cons.mpr ⟨ckI_X2_add, (List.forall_mem_cons.mpr ⟨ckI_X2_empty, (List.forall_mem_cons.mpr ⟨ckI_X2_read, (List.forall_mem_cons.mpr ⟨ckI_X2_readEither, (List.forall_mem_cons.mpr ⟨ckI_X2_readBoth, (List.forall_mem_cons.mpr ⟨ckI_X2_readNot, (List.forall_mem_cons.mpr ⟨ckI_X2_readCompared, (List.forall_mem_cons.mpr ⟨ckI_X2_readSum, (List.forall_mem_cons.mpr ⟨ckI_X2_readProduct, (List.forall_mem_cons.mpr ⟨ckI_X2_readOne, (List.forall_mem_cons.mpr ⟨ckI_X2_advance, (List.forall_mem_cons.mpr ⟨ckI_X2_byteAt, (List.forall_mem_cons.mpr ⟨ckI_X2_isLetter, (List.forall_mem_cons.mpr ⟨ckI_X2_isDigit, (List.forall_mem_cons.mpr ⟨ckI_X2_readNumber, (List.forall_mem_cons.mpr ⟨ckI_X2_readWord, (List.forall_mem_cons.mpr ⟨ckI_X2_isWord, (List.forall_mem_cons.mpr ⟨ckI_X3_init, (List.forall_mem_cons.mpr ⟨ckI_X3_begin, (List.forall_mem_cons.mpr ⟨ckI_X3_become, (List.forall_mem_cons.mpr ⟨ckI_X3_make, (List.forall_mem_cons.mpr ⟨ckI_X3_relax, (List.forall_mem_cons.mpr ⟨ckI_X3_draw, (List.forall_mem_cons.mpr ⟨ckI_X3_lengthen, (List.forall_mem_cons.mpr ⟨ckI_X3_bounce, (List.forall_mem_cons.mpr ⟨ckI_X3_fold, (List.forall_mem_cons.mpr ⟨ckI_X3_foldRow, (List.forall_mem_cons.mpr ⟨ckI_X3_powder, (List.forall_mem_cons.mpr ⟨ckI_X3_cutEnd, (List.forall_mem_cons.mpr ⟨ckI_X3_thick, (List.forall_mem_cons.mpr ⟨ckI_X3_thinnest, (List.forall_mem_cons.mpr ⟨ckI_X3_thickest, (List.forall_mem_cons.mpr ⟨ckI_X3_spread, (List.forall_mem_cons.mpr ⟨ckI_X3_isMoreEvenThan, (List.forall_mem_cons.mpr ⟨ckI_X3_allLength, (List.forall_mem_cons.mpr ⟨ckI_X3_tenths, (List.forall_mem_cons.mpr ⟨ckI_X3_goodParts, (List.forall_mem_cons.mpr ⟨ckI_X3_cooked, (List.forall_mem_cons.mpr ⟨ckI_X3_firstOff, (List.forall_mem_cons.mpr ⟨ckI_X3_isAsTold, (List.forall_mem_cons.mpr ⟨ckI_X4_init, (List.forall_mem_cons.mpr ⟨ckI_X4_become, (List.forall_mem_cons.mpr ⟨ckI_X4_has, (List.forall_mem_cons.mpr ⟨ckI_X4_put, (List.forall_mem_cons.mpr ⟨ckI_X5_init, (List.forall_mem_cons.mpr ⟨ckI_X5_become, (List.forall_mem_cons.mpr ⟨ckI_X5_takes, (List.forall_mem_cons.mpr ⟨ckI_X5_isA, (List.forall_mem_cons.mpr ⟨ckI_X6_init, (List.forall_mem_cons.mpr ⟨ckI_X6_clear, (List.forall_mem_cons.mpr ⟨ckI_X6_nameCode, (List.forall_mem_cons.mpr ⟨ckI_X6_add, (List.forall_mem_cons.mpr ⟨ckI_X6_endSection, (List.forall_mem_cons.mpr ⟨ckI_X6_value, (List.forall_mem_cons.mpr ⟨ckI_X6_named, (List.forall_mem_cons.mpr ⟨ckI_X6_joined, (List.forall_mem_cons.mpr ⟨ckI_X7_init, (List.forall_mem_cons.mpr ⟨ckI_X7_roll, (List.forall_mem_cons.mpr ⟨ckI_X7_set, (List.forall_mem_cons.mpr ⟨ckI_X7_count, (List.forall_mem_cons.mpr ⟨ckI_X7_feed, (List.forall_mem_cons.mpr ⟨ckI_X7_text, (List.forall_mem_cons.mpr ⟨ckI_X7_force, (List.forall_mem_cons.mpr ⟨ckI_X7_step, (List.forall_mem_cons.mpr ⟨ckI_X7_forget, (List.forall_mem_cons.mpr ⟨ckI_X7_stepTold, (List.forall_mem_cons.mpr ⟨ckI_X7_rope, (List.forall_mem_cons.mpr ⟨ckI_X7_state, (List.forall_mem_cons.mpr ⟨ckI_X7_whole, (List.forall_mem_cons.mpr ⟨ckI_X7_stop, (List.forall_mem_cons.mpr ⟨ckI_X7_worst, (List.forall_mem_cons.mpr ⟨ckI_X7_window, (List.forall_mem_cons.mpr ⟨ckI_X7_pace, (List.forall_mem_cons.mpr ⟨ckI_X7_rest, (List.forall_mem_cons.mpr ⟨ckI_X7_dust, (List.forall_mem_cons.mpr ⟨ckI_X7_doublings, (List.forall_mem_cons.mpr ⟨ckI_X7_judge, (List.forall_mem_cons.mpr ⟨ckI_X7_film, (List.forall_mem_cons.mpr ⟨ckI_X7_serves, (List.forall_mem_cons.mpr ⟨ckI_X7_which, (List.forall_mem_cons.mpr ⟨ckI_X7_fault, (List.forall_mem_cons.mpr ⟨ckI_X7_uneven, (List.forall_mem_cons.mpr ⟨ckI_X7_cooks, (List.forall_mem_cons.mpr ⟨ckI_X7_pot, (List.forall_mem_cons.mpr ⟨ckI_X7_place, (List.forall_mem_cons.mpr ⟨ckI_X7_apart, (List.forall_mem_cons.mpr ⟨ckI_X7_parted, (List.forall_mem_cons.mpr ⟨ckI_X7_round, (List.forall_mem_cons.mpr ⟨ckI_X7_colours, (List.forall_mem_cons.mpr ⟨ckI_X7_thin, (List.forall_mem_cons.mpr ⟨ckI_X7_odds, (List.forall_mem_cons.mpr ⟨ckI_X7_record, (List.forall_mem_cons.mpr ⟨ckI_X7_drawn, (List.forall_mem_cons.mpr ⟨ckI_X7_image, (List.forall_mem_cons.mpr ⟨ckI_X7_back, (List.forall_mem_cons.mpr ⟨ckI_X7_sheet, (List.forall_mem_cons.mpr ⟨ckI_X7_cell, (List.forall_mem_cons.mpr ⟨ckI_X7_copy, (List.forall_mem_cons.mpr ⟨ckI_X7_stepsBy, (List.forall_mem_cons.mpr ⟨ckI_X7_taken, (List.forall_mem_cons.mpr ⟨ckI_X7_within, (List.forall_mem_cons.mpr ⟨ckI_X7_quotient, (List.forall_mem_cons.mpr ⟨ckI_X7_isStep, (List.forall_mem_cons.mpr ⟨ckI_X7_areSteps, (List.forall_mem_cons.mpr ⟨ckI_X7_isSheet, (List.forall_mem_cons.mpr ⟨ckI_X7_isPlace, (List.forall_mem_cons.mpr ⟨ckI_X7_areOdds, (List.forall_mem_cons.mpr ⟨ckI_X7_refusalOfTest, (List.forall_mem_cons.mpr ⟨ckI_X7_make, (List.forall_mem_cons.mpr ⟨ckI_X7_tryDrawing, (List.forall_mem_cons.mpr ⟨ckI_X7_allTake, (List.forall_mem_cons.mpr ⟨ckI_X7_placeBehind, (List.forall_mem_cons.mpr ⟨ckI_X7_colour, (List.forall_mem_cons.mpr ⟨ckI_X7_multiplied, (List.forall_mem_cons.mpr ⟨ckI_X7_inLowestTerms, (List.forall_mem_cons.mpr ⟨ckI_X8_init, (List.forall_mem_cons.mpr ⟨ckI_X8_in, (List.forall_mem_cons.mpr ⟨ckI_X8_isCell, (List.forall_mem_cons.mpr ⟨ckI_X8_areSteps, (List.forall_mem_cons.mpr ⟨ckI_X8_size, (List.forall_mem_cons.mpr ⟨ckI_X8_within, (List.forall_mem_cons.mpr ⟨ckI_X8_roll, (List.forall_mem_cons.mpr ⟨ckI_X8_set, (List.forall_mem_cons.mpr ⟨ckI_X8_holds0, (List.forall_mem_cons.mpr ⟨ckI_X8_count, (List.forall_mem_cons.mpr ⟨ckI_X8_feed, (List.forall_mem_cons.mpr ⟨ckI_X8_wordFrom, (List.forall_mem_cons.mpr ⟨ckI_X8_next, (List.forall_mem_cons.mpr ⟨ckI_X8_rank, (List.forall_mem_cons.mpr ⟨ckI_X8_puts, (List.forall_mem_cons.mpr ⟨ckI_X8_unwinds, (List.forall_mem_cons.mpr ⟨ckI_X8_holds, (List.forall_mem_cons.mpr ⟨ckI_X8_opensOne, (List.forall_mem_cons.mpr ⟨ckI_X8_between, (List.forall_mem_cons.mpr ⟨ckI_X8_signOf, (List.forall_mem_cons.mpr ⟨ckI_X8_eRead, (List.forall_mem_cons.mpr ⟨ckI_X8_text, (List.forall_mem_cons.mpr ⟨ckI_X8_two, (List.forall_mem_cons.mpr ⟨ckI_X8_worth, (List.forall_mem_cons.mpr ⟨ckI_X8_force, (List.forall_mem_cons.mpr ⟨ckI_X8_step, (List.forall_mem_cons.mpr ⟨ckI_X8_forget, (List.forall_mem_cons.mpr ⟨ckI_X8_takesOf, (List.forall_mem_cons.mpr ⟨ckI_X8_stepTold, (List.forall_mem_cons.mpr ⟨ckI_X8_thickOf, (List.forall_mem_cons.mpr ⟨ckI_X8_asks, (List.forall_mem_cons.mpr ⟨ckI_X8_allLength, (List.forall_mem_cons.mpr ⟨ckI_X8_drawsMore, (List.forall_mem_cons.mpr ⟨ckI_X8_draws, (List.forall_mem_cons.mpr ⟨ckI_X8_keepsRow, (List.forall_mem_cons.mpr ⟨ckI_X8_bounces, (List.forall_mem_cons.mpr ⟨ckI_X8_doubles, (List.forall_mem_cons.mpr ⟨ckI_X8_cuts, (List.forall_mem_cons.mpr ⟨ckI_X8_rests, (List.forall_mem_cons.mpr ⟨ckI_X8_dusts, (List.forall_mem_cons.mpr ⟨ckI_X8_makes, (List.forall_mem_cons.mpr ⟨ckI_X8_begins, (List.forall_mem_cons.mpr ⟨ckI_X8_goesBut, (List.forall_mem_cons.mpr ⟨ckI_X8_goes, (List.forall_mem_cons.mpr ⟨ckI_X8_rope, (List.forall_mem_cons.mpr ⟨ckI_X8_least, (List.forall_mem_cons.mpr ⟨ckI_X8_greatest, (List.forall_mem_cons.mpr ⟨ckI_X8_spread, (List.forall_mem_cons.mpr ⟨ckI_X8_doubled, (List.forall_mem_cons.mpr ⟨ckI_X8_state, (List.forall_mem_cons.mpr ⟨ckI_X8_both, (List.forall_mem_cons.mpr ⟨ckI_X8_whole, (List.forall_mem_cons.mpr ⟨ckI_X8_stop, (List.forall_mem_cons.mpr ⟨ckI_X8_worst, (List.forall_mem_cons.mpr ⟨ckI_X8_some, (List.forall_mem_cons.mpr ⟨ckI_X8_window, (List.forall_mem_cons.mpr ⟨ckI_X8_pace, (List.forall_mem_cons.mpr ⟨ckI_X8_rest, (List.forall_mem_cons.mpr ⟨ckI_X8_dust, (List.forall_mem_cons.mpr ⟨ckI_X8_doublings, (List.forall_mem_cons.mpr ⟨ckI_X8_sheetWrong, (List.forall_mem_cons.mpr ⟨ckI_X8_offFrom, (List.forall_mem_cons.mpr ⟨ckI_X8_judge, (List.forall_mem_cons.mpr ⟨ckI_X8_film, (List.forall_mem_cons.mpr ⟨ckI_X8_serves, (List.forall_mem_cons.mpr ⟨ckI_X8_which, (List.forall_mem_cons.mpr ⟨ckI_X8_fault, (List.forall_mem_cons.mpr ⟨ckI_X8_uneven, (List.forall_mem_cons.mpr ⟨ckI_X8_cooked, (List.forall_mem_cons.mpr ⟨ckI_X8_cooks, (List.forall_mem_cons.mpr ⟨ckI_X8_pot, (List.forall_mem_cons.mpr ⟨ckI_X8_isSpot, (List.forall_mem_cons.mpr ⟨ckI_X8_doubledOnce, (List.forall_mem_cons.mpr ⟨ckI_X8_behind, (List.forall_mem_cons.mpr ⟨ckI_X8_place, (List.forall_mem_cons.mpr ⟨ckI_X8_apart, (List.forall_mem_cons.mpr ⟨ckI_X8_parted, (List.forall_mem_cons.mpr ⟨ckI_X8_round, (List.forall_mem_cons.mpr ⟨ckI_X8_colours, (List.forall_mem_cons.mpr ⟨ckI_X8_lowest, (List.forall_mem_cons.mpr ⟨ckI_X8_power, (List.forall_mem_cons.mpr ⟨ckI_X8_thin, (List.forall_mem_cons.mpr ⟨ckI_X8_areOdds, (List.forall_mem_cons.mpr ⟨ckI_X8_odds, (List.forall_mem_cons.mpr ⟨ckI_X8_record, (List.forall_mem_cons.mpr ⟨ckI_X8_drawn, (List.forall_mem_cons.mpr ⟨ckI_X8_image, (List.forall_mem_cons.mpr ⟨ckI_X8_back, (List.forall_mem_cons.mpr ⟨ckI_X8_sheet, (List.forall_mem_cons.mpr ⟨ckI_X8_cell, (List.forall_mem_cons.mpr ⟨ckI_X8_copy, (List.forall_mem_cons.mpr ⟨ckI_X8_stepsBy, (List.forall_mem_cons.mpr ⟨ckI_X8_isUnder, (List.forall_mem_cons.mpr ⟨ckI_X8_taken, (List.forall_mem_cons.mpr ⟨ckI_J0_length_8abf5, (List.forall_mem_cons.mpr ⟨ckI_J0_charAt_5068e, (List.forall_mem_cons.mpr ⟨ckI_J0_indexOf_0f7a4, (List.forall_mem_cons.mpr ⟨ckI_J0_indexOf_7cf53, (List.forall_mem_cons.mpr ⟨ckI_J0_coder_7d493, (List.forall_mem_cons.mpr ⟨ckI_J0_isLatin1_aae02, (List.forall_mem_cons.mpr ⟨ckI_J0_checkIndex_df160, (List.forall_mem_cons.mpr ⟨ckI_J1_charAt_3b067, (List.forall_mem_cons.mpr ⟨ckI_J1_canEncode_9a6ad, (List.forall_mem_cons.mpr ⟨ckI_J1_indexOf_4cfef, (List.forall_mem_cons.mpr ⟨ckI_J1_indexOfChar_4cfef, (List.forall_mem_cons.mpr ⟨ckI_J3_checkIndex_8e157, fun _ h => absurd h List.not_mem_nil⟩)⟩)⟩)⟩)⟩)⟩)⟩)⟩)⟩)⟩)⟩)⟩)⟩)⟩)⟩)⟩)⟩)⟩)⟩)⟩)⟩)⟩)⟩)⟩)⟩)⟩)⟩)⟩)⟩)⟩)⟩)⟩)⟩)⟩)⟩)⟩)⟩)⟩)⟩)⟩)⟩)⟩)⟩)⟩)⟩)⟩)⟩)⟩)⟩)⟩)⟩)⟩)⟩)⟩)⟩)⟩)⟩)⟩)⟩)⟩)⟩)⟩)⟩)⟩)⟩)⟩)⟩)⟩)⟩)⟩)⟩)⟩)⟩)⟩)⟩)⟩)⟩)⟩)⟩)⟩)⟩)⟩)⟩)⟩)⟩)⟩)⟩)⟩)⟩)⟩)⟩)⟩)⟩)⟩)⟩)⟩)⟩)⟩)⟩)⟩)⟩)⟩)⟩)⟩)⟩)⟩)⟩)⟩)⟩)⟩)⟩)⟩)⟩)⟩)⟩)⟩)⟩)⟩)⟩)⟩)⟩)⟩)⟩)⟩)⟩)⟩)⟩)⟩)⟩)⟩)⟩)⟩)⟩)⟩)⟩)⟩)⟩)⟩)⟩)⟩)⟩)⟩)⟩)⟩)⟩)⟩)⟩)⟩)⟩)⟩)⟩)⟩)⟩)⟩)⟩)⟩)⟩)⟩)⟩)⟩)⟩)⟩)⟩)⟩)⟩)⟩)⟩)⟩)⟩)⟩)⟩)⟩)⟩)⟩)⟩)⟩)⟩)⟩)⟩)⟩)⟩)⟩)⟩)⟩)⟩)⟩)⟩)⟩)⟩)⟩)⟩)⟩)⟩)⟩)⟩)⟩)⟩)⟩)⟩)⟩)⟩)⟩)⟩)⟩)⟩)⟩)⟩)⟩)⟩)⟩)⟩)⟩)⟩)⟩)⟩)⟩)⟩)⟩)⟩)⟩)⟩)⟩)⟩)⟩)⟩)⟩)⟩)⟩)⟩)⟩)⟩
/-- the program's check, whole -/
def TBLG : List Cond := lw_tbl.filter goodWord
theorem tbg {t : Nat} {w : Cond} (h : tat t w = true) : w ∈ TBLG := by
  simp only [tat, Bool.and_eq_true, decide_eq_true_eq] at h
  exact List.mem_filter.mpr ⟨List.mem_of_getElem? h.1, h.2⟩
theorem tbgl {w : Cond} (h : w ∈ lw_tbl) (hg : goodWord w = true) : w ∈ TBLG := List.mem_filter.mpr ⟨h, hg⟩
def ChkOK : Prop := (∀ mi M, minf[mi]? = some M → ∀ pc q, fetch mi pc = some q → chkI M pc q = true) ∧ ∀ mi M, 0 < mi → minf[mi]? = some M → chkM M = true ∧ Cond.code M.2.2.1 M.2.2.2.1 M.2.2.2.2.1 M.2.2.2.2.2.1 ∈ TBLG
theorem take_all {α : Type} (f : α → Bool) (l : List α) (a b n : Nat) (h1 : ∀ x ∈ (l.drop a).take n, f x = true) (h2 : ∀ x ∈ l.drop (a + n), f x = true) : ∀ x ∈ l.drop a, f x = true := by
  intro x hx
  rw [← List.take_append_drop n (l.drop a)] at hx
  rcases List.mem_append.mp hx with h | h
  · exact h1 x h
  · rw [List.drop_drop] at h
    exact h2 x h
theorem ckM_all : ∀ M ∈ minf.drop 1, chkM M = true := by
  refine take_all chkM minf 1 0 40 (List.all_eq_true.mp ckM_0) ?_
  refine take_all chkM minf 41 0 40 (List.all_eq_true.mp ckM_40) ?_
  refine take_all chkM minf 81 0 40 (List.all_eq_true.mp ckM_80) ?_
  refine take_all chkM minf 121 0 40 (List.all_eq_true.mp ckM_120) ?_
  refine take_all chkM minf 161 0 40 (List.all_eq_true.mp ckM_160) ?_
  refine take_all chkM minf 201 0 40 (List.all_eq_true.mp ckM_200) ?_
  intro x hx
  have h0 : minf.drop 241 = [] := rfl
  rw [h0] at hx
  exact absurd hx List.not_mem_nil
theorem minf_drop : minf.drop 1 = minf.tail := rfl
theorem chk_ok : ChkOK := by
  constructor
  · intro mi M hM pc q hf
    unfold fetch at hf
    split at hf
    · next l hl =>
      have hz : (minf.zip progL)[mi]? = some (M, l) := by
        rw [List.getElem?_zip_eq_some]
        exact ⟨hM, hl⟩
      have h1 := ckI_all (M, l) (List.mem_of_getElem? hz)
      have hmem : (pc, q) ∈ l := by
        obtain ⟨l1, l2, he, -⟩ := List.lookup_eq_some_iff.mp hf
        rw [he]
        simp
      exact List.all_eq_true.mp h1 (pc, q) hmem
    · cases hf
  · intro mi M h0 hM
    have hmem : M ∈ minf.drop 1 := by
      obtain ⟨k, rfl⟩ : ∃ k, mi = k + 1 := ⟨mi - 1, by omega⟩
      have h1 : (minf.drop 1)[k]? = some M := by rw [List.getElem?_drop, Nat.add_comm]; exact hM
      exact List.mem_of_getElem? h1
    exact ⟨ckM_all M hmem, tbgl (code_all M hmem) rfl⟩


theorem sx_c_0 : cd_X0_keep.all (sx_ck 0 false false cX0_keep) = true := by decide +kernel
theorem sx_c_1 : cd_X0_takeBack.all (sx_ck 0 true false cX0_takeBack) = true := by decide +kernel
theorem sx_c_2 : cd_X0_forget.all (sx_ck 0 false false cX0_forget) = true := by decide +kernel
theorem sx_c_3 : cd_X1_answer.all (sx_ck 1 false false cX1_answer) = true := by decide +kernel
theorem sx_c_4 : cd_X1_sizeOf.all (sx_ck 1 false false cX1_sizeOf) = true := by decide +kernel
theorem sx_c_5 : cd_X1_markOf.all (sx_ck 1 false false cX1_markOf) = true := by decide +kernel
theorem sx_c_6 : cd_X1_nearestBody.all (sx_ck 1 false false cX1_nearestBody) = true := by decide +kernel
theorem sx_c_7 : cd_X1_give.all (sx_ck 1 false false cX1_give) = true := by decide +kernel
theorem sx_c_8 : cd_X1_begin.all (sx_ck 1 false false cX1_begin) = true := by decide +kernel
theorem sx_c_9 : cd_X2_whoTells.all (sx_ck 2 false false cX2_whoTells) = true := by decide +kernel
theorem sx_c_10 : cd_X2_lotsTillSure.all (sx_ck 2 false false cX2_lotsTillSure) = true := by decide +kernel
theorem sx_c_11 : cd_X2_shareIfJoined.all (sx_ck 2 false false cX2_shareIfJoined) = true := by decide +kernel
theorem sx_c_12 : cd_X2_planOneHour.all (sx_ck 2 false false cX2_planOneHour) = true := by decide +kernel
theorem sx_c_13 : cd_X2_planTwoHours.all (sx_ck 2 false false cX2_planTwoHours) = true := by decide +kernel
theorem sx_c_14 : cd_X2_beginPlan.all (sx_ck 2 false false cX2_beginPlan) = true := by decide +kernel
theorem sx_c_15 : cd_X2_weigh.all (sx_ck 2 false false cX2_weigh) = true := by decide +kernel
theorem sx_c_16 : cd_X2_lastHour.all (sx_ck 2 false false cX2_lastHour) = true := by decide +kernel
theorem sx_c_17 : cd_X2_bothHours.all (sx_ck 2 false false cX2_bothHours) = true := by decide +kernel
theorem sx_c_18 : cd_X2_aboveByLot.all (sx_ck 2 false false cX2_aboveByLot) = true := by decide +kernel
theorem sx_c_19 : cd_X3_blow.all (sx_ck 3 false false cX3_blow) = true := by decide +kernel
theorem sx_c_20 : cd_X3_draw.all (sx_ck 3 false false cX3_draw) = true := by decide +kernel
theorem sx_c_21 : cd_X3_drawTheOne.all (sx_ck 3 false false cX3_drawTheOne) = true := by decide +kernel
theorem sx_c_22 : cd_X3_passHour.all (sx_ck 3 false false cX3_passHour) = true := by decide +kernel
theorem sx_c_23 : cd_X3_throwOne.all (sx_ck 3 false false cX3_throwOne) = true := by decide +kernel
theorem sx_c_24 : cd_X3_castLot.all (sx_ck 3 false false cX3_castLot) = true := by decide +kernel
theorem sx_c_25 : cd_X3_drawerAt.all (sx_ck 3 false false cX3_drawerAt) = true := by decide +kernel
theorem sx_c_26 : cd_X4_isMissing.all (sx_ck 4 true false cX4_isMissing) = true := by decide +kernel
theorem sx_c_27 : cd_X4_begin.all (sx_ck 4 false false cX4_begin) = true := by decide +kernel
theorem sx_c_28 : cd_X4_end.all (sx_ck 4 false false cX4_end) = true := by decide +kernel
theorem sx_c_29 : cd_X4_spans.all (sx_ck 4 true false cX4_spans) = true := by decide +kernel
theorem sx_c_30 : cd_X4_put.all (sx_ck 4 false false cX4_put) = true := by decide +kernel
theorem sx_c_31 : cd_X5_clear.all (sx_ck 5 false false cX5_clear) = true := by decide +kernel
theorem sx_c_32 : cd_X5_becomes.all (sx_ck 5 false false cX5_becomes) = true := by decide +kernel
theorem sx_c_33 : cd_X5_addPerson.all (sx_ck 5 false false cX5_addPerson) = true := by decide +kernel
theorem sx_c_34 : cd_X5_isShip.all (sx_ck 5 true false cX5_isShip) = true := by decide +kernel
theorem sx_c_35 : cd_X5_has.all (sx_ck 5 true false cX5_has) = true := by decide +kernel
theorem sx_c_36 : cd_X5_isAboard.all (sx_ck 5 true false cX5_isAboard) = true := by decide +kernel
theorem sx_c_37 : cd_X5_isDrawing.all (sx_ck 5 true false cX5_isDrawing) = true := by decide +kernel
theorem sx_c_38 : cd_X5_drawers.all (sx_ck 5 false false cX5_drawers) = true := by decide +kernel
theorem sx_c_39 : cd_X5_truthOf.all (sx_ck 5 false false cX5_truthOf) = true := by decide +kernel
theorem sx_c_40 : cd_X5_truthOfKind.all (sx_ck 5 false false cX5_truthOfKind) = true := by decide +kernel
theorem sx_c_41 : cd_X5_lastHour.all (sx_ck 5 false false cX5_lastHour) = true := by decide +kernel
theorem sx_c_42 : cd_X5_isInStorm.all (sx_ck 5 true false cX5_isInStorm) = true := by decide +kernel
theorem sx_c_43 : cd_X5_all.all (sx_ck 5 false false cX5_all) = true := by decide +kernel
theorem sx_c_44 : cd_X5_allLots.all (sx_ck 5 false false cX5_allLots) = true := by decide +kernel
theorem sx_c_45 : cd_X5_likeliestAboard.all (sx_ck 5 false false cX5_likeliestAboard) = true := by decide +kernel
theorem sx_c_46 : cd_X5_mostAboardBut.all (sx_ck 5 false false cX5_mostAboardBut) = true := by decide +kernel
theorem sx_c_47 : cd_X5_isBelieved.all (sx_ck 5 true false cX5_isBelieved) = true := by decide +kernel
theorem sx_c_48 : cd_X5_lotFactor.all (sx_ck 5 false false cX5_lotFactor) = true := by decide +kernel
theorem sx_c_49 : cd_X5_allIfNamed.all (sx_ck 5 false false cX5_allIfNamed) = true := by decide +kernel
theorem sx_c_50 : cd_X5_allIfThrown.all (sx_ck 5 false false cX5_allIfThrown) = true := by decide +kernel
theorem sx_c_51 : cd_X5_shareOf.all (sx_ck 5 false false cX5_shareOf) = true := by decide +kernel
theorem sx_c_52 : cd_X5_learnLot.all (sx_ck 5 false false cX5_learnLot) = true := by decide +kernel
theorem sx_c_53 : cd_X5_learnStill.all (sx_ck 5 false false cX5_learnStill) = true := by decide +kernel
theorem sx_c_54 : cd_X5_learnInnocent.all (sx_ck 5 false false cX5_learnInnocent) = true := by decide +kernel
theorem sx_c_55 : cd_X5_leave.all (sx_ck 5 false false cX5_leave) = true := by decide +kernel
theorem sx_c_56 : cd_X5_takeLot.all (sx_ck 5 false false cX5_takeLot) = true := by decide +kernel
theorem sx_c_57 : cd_X6_takes.all (sx_ck 6 true false cX6_takes) = true := by decide +kernel
theorem sx_c_58 : cd_X6_reads.all (sx_ck 6 true false cX6_reads) = true := by decide +kernel
theorem sx_c_59 : cd_X6_readsLaw.all (sx_ck 6 true false cX6_readsLaw) = true := by decide +kernel
theorem sx_c_60 : cd_X6_readsPeople.all (sx_ck 6 true false cX6_readsPeople) = true := by decide +kernel
theorem sx_c_61 : cd_X6_readsPerson.all (sx_ck 6 true false cX6_readsPerson) = true := by decide +kernel
theorem sx_c_62 : cd_X6_passes.all (sx_ck 6 true false cX6_passes) = true := by decide +kernel
theorem sx_c_63 : cd_X6_isNumber.all (sx_ck 6 true false cX6_isNumber) = true := by decide +kernel
theorem sx_c_64 : cd_X6_fails.all (sx_ck 6 true false cX6_fails) = true := by decide +kernel
theorem sx_c_65 : cd_X6_byteAt.all (sx_ck 6 false false cX6_byteAt) = true := by decide +kernel
theorem sx_c_66 : cd_X6_isFigure.all (sx_ck 6 true false cX6_isFigure) = true := by decide +kernel
theorem sx_c_67 : cd_X6_kindOf.all (sx_ck 6 false false cX6_kindOf) = true := by decide +kernel
theorem sx_c_68 : cd_X7_areTold.all (sx_ck 7 true false cX7_areTold) = true := by decide +kernel
theorem sx_c_69 : cd_X7_fewestThatLeaveThem.all (sx_ck 7 false false cX7_fewestThatLeaveThem) = true := by decide +kernel
theorem sx_c_70 : cd_X8_row.all (sx_ck 8 false false cX8_row) = true := by decide +kernel
theorem sx_c_71 : cd_X8_set.all (sx_ck 8 false false cX8_set) = true := by decide +kernel
theorem sx_c_72 : cd_X8_copy.all (sx_ck 8 false false cX8_copy) = true := by decide +kernel
theorem sx_c_73 : cd_X8_drop.all (sx_ck 8 false false cX8_drop) = true := by decide +kernel
theorem sx_c_74 : cd_X8_feed.all (sx_ck 8 false false cX8_feed) = true := by decide +kernel
theorem sx_c_75 : cd_X8_ship.all (sx_ck 8 false false cX8_ship) = true := by decide +kernel
theorem sx_c_76 : cd_X8_fault.all (sx_ck 8 false false cX8_fault) = true := by decide +kernel
theorem sx_c_77 : cd_X8_undo.all (sx_ck 8 false false cX8_undo) = true := by decide +kernel
theorem sx_c_78 : cd_X8_cast.all (sx_ck 8 false false cX8_cast) = true := by decide +kernel
theorem sx_c_79 : cd_X8_throwOver.all (sx_ck 8 false false cX8_throwOver) = true := by decide +kernel
theorem sx_c_80 : cd_X8_cargo.all (sx_ck 8 false false cX8_cargo) = true := by decide +kernel
theorem sx_c_81 : cd_X8_hour.all (sx_ck 8 false false cX8_hour) = true := by decide +kernel
theorem sx_c_82 : cd_X8_joins.all (sx_ck 8 false false cX8_joins) = true := by decide +kernel
theorem sx_c_83 : cd_X8_person.all (sx_ck 8 false false cX8_person) = true := by decide +kernel
theorem sx_c_84 : cd_X8_sea.all (sx_ck 8 false false cX8_sea) = true := by decide +kernel
theorem sx_c_85 : cd_X8_likelihood.all (sx_ck 8 false false cX8_likelihood) = true := by decide +kernel
theorem sx_c_86 : cd_X8_belief.all (sx_ck 8 false false cX8_belief) = true := by decide +kernel
theorem sx_c_87 : cd_X8_likeliest.all (sx_ck 8 false false cX8_likeliest) = true := by decide +kernel
theorem sx_c_88 : cd_X8_named.all (sx_ck 8 false false cX8_named) = true := by decide +kernel
theorem sx_c_89 : cd_X8_tells.all (sx_ck 8 false false cX8_tells) = true := by decide +kernel
theorem sx_c_90 : cd_X8_saved.all (sx_ck 8 false false cX8_saved) = true := by decide +kernel
theorem sx_c_91 : cd_X8_sure.all (sx_ck 8 false false cX8_sure) = true := by decide +kernel
theorem sx_c_92 : cd_X8_price.all (sx_ck 8 false false cX8_price) = true := by decide +kernel
theorem sx_c_93 : cd_X8_been.all (sx_ck 8 false false cX8_been) = true := by decide +kernel
theorem sx_c_94 : cd_X8_storm.all (sx_ck 8 false false cX8_storm) = true := by decide +kernel
theorem sx_c_95 : cd_X8_image.all (sx_ck 8 false false cX8_image) = true := by decide +kernel
theorem sx_c_96 : cd_X8_restore.all (sx_ck 8 false false cX8_restore) = true := by decide +kernel
theorem sx_c_97 : cd_X8_kind.all (sx_ck 8 false false cX8_kind) = true := by decide +kernel
theorem sx_c_98 : cd_X8_as.all (sx_ck 8 false false cX8_as) = true := by decide +kernel
theorem sx_c_99 : cd_X8_ask.all (sx_ck 8 false false cX8_ask) = true := by decide +kernel
theorem sx_c_100 : cd_X8_trace.all (sx_ck 8 false false cX8_trace) = true := by decide +kernel
theorem sx_c_101 : cd_X8_count.all (sx_ck 8 false false cX8_count) = true := by decide +kernel
theorem sx_c_102 : cd_X8_status.all (sx_ck 8 false false cX8_status) = true := by decide +kernel
theorem sx_c_103 : cd_X8_found.all (sx_ck 8 false false cX8_found) = true := by decide +kernel
theorem sx_c_104 : cd_X8_foundNothing.all (sx_ck 8 false false cX8_foundNothing) = true := by decide +kernel
theorem sx_c_105 : cd_X8_rowsThere.all (sx_ck 8 false false cX8_rowsThere) = true := by decide +kernel
theorem sx_c_106 : cd_X8_isNoRow.all (sx_ck 8 true false cX8_isNoRow) = true := by decide +kernel
theorem sx_c_107 : cd_X8_isOutside.all (sx_ck 8 true false cX8_isOutside) = true := by decide +kernel
theorem sx_c_108 : cd_X8_isKindOf.all (sx_ck 8 true false cX8_isKindOf) = true := by decide +kernel
theorem sx_c_109 : cd_X8_lowest.all (sx_ck 8 false false cX8_lowest) = true := by decide +kernel
theorem sx_c_110 : cd_X8_commonPart.all (sx_ck 8 false false cX8_commonPart) = true := by decide +kernel
theorem sx_c_111 : cd_X9_in.all (sx_ck 9 true false cX9_in) = true := by decide +kernel
theorem sx_c_112 : cd_X9_finding.all (sx_ck 9 false false cX9_finding) = true := by decide +kernel
theorem sx_c_113 : cd_X9_isRow.all (sx_ck 9 true false cX9_isRow) = true := by decide +kernel
theorem sx_c_114 : cd_X9_row.all (sx_ck 9 false false cX9_row) = true := by decide +kernel
theorem sx_c_115 : cd_X9_set.all (sx_ck 9 false false cX9_set) = true := by decide +kernel
theorem sx_c_116 : cd_X9_copy.all (sx_ck 9 false false cX9_copy) = true := by decide +kernel
theorem sx_c_117 : cd_X9_drop.all (sx_ck 9 false false cX9_drop) = true := by decide +kernel
theorem sx_c_118 : cd_X9_feed.all (sx_ck 9 false false cX9_feed) = true := by decide +kernel
theorem sx_c_119 : cd_X9_bad.all (sx_ck 9 false false cX9_bad) = true := by decide +kernel
theorem sx_c_120 : cd_X9_nextToken.all (sx_ck 9 false false cX9_nextToken) = true := by decide +kernel
theorem sx_c_121 : cd_X9_must.all (sx_ck 9 false false cX9_must) = true := by decide +kernel
theorem sx_c_122 : cd_X9_isLetter.all (sx_ck 9 true false cX9_isLetter) = true := by decide +kernel
theorem sx_c_123 : cd_X9_number.all (sx_ck 9 false false cX9_number) = true := by decide +kernel
theorem sx_c_124 : cd_X9_mustSign.all (sx_ck 9 false false cX9_mustSign) = true := by decide +kernel
theorem sx_c_125 : cd_X9_beginText.all (sx_ck 9 false false cX9_beginText) = true := by decide +kernel
theorem sx_c_126 : cd_X9_failed.all (sx_ck 9 true false cX9_failed) = true := by decide +kernel
theorem sx_c_127 : cd_X9_fault.all (sx_ck 9 false false cX9_fault) = true := by decide +kernel
theorem sx_c_128 : cd_X9_kindBy.all (sx_ck 9 false false cX9_kindBy) = true := by decide +kernel
theorem sx_c_129 : cd_X9_readPerson.all (sx_ck 9 false false cX9_readPerson) = true := by decide +kernel
theorem sx_c_130 : cd_X9_isSort.all (sx_ck 9 true false cX9_isSort) = true := by decide +kernel
theorem sx_c_131 : cd_X9_ship.all (sx_ck 9 false false cX9_ship) = true := by decide +kernel
theorem sx_c_132 : cd_X9_isThere.all (sx_ck 9 true false cX9_isThere) = true := by decide +kernel
theorem sx_c_133 : cd_X9_isPerson.all (sx_ck 9 true false cX9_isPerson) = true := by decide +kernel
theorem sx_c_134 : cd_X9_of.all (sx_ck 9 false false cX9_of) = true := by decide +kernel
theorem sx_c_135 : cd_X9_sinksBehind.all (sx_ck 9 false false cX9_sinksBehind) = true := by decide +kernel
theorem sx_c_136 : cd_X9_aboard.all (sx_ck 9 false false cX9_aboard) = true := by decide +kernel
theorem sx_c_137 : cd_X9_drawing.all (sx_ck 9 false false cX9_drawing) = true := by decide +kernel
theorem sx_c_138 : cd_X9_bits.all (sx_ck 9 false false cX9_bits) = true := by decide +kernel
theorem sx_c_139 : cd_X9_has.all (sx_ck 9 true false cX9_has) = true := by decide +kernel
theorem sx_c_140 : cd_X9_truthOf.all (sx_ck 9 false false cX9_truthOf) = true := by decide +kernel
theorem sx_c_141 : cd_X9_speaks.all (sx_ck 9 false false cX9_speaks) = true := by decide +kernel
theorem sx_c_142 : cd_X9_allOf.all (sx_ck 9 false false cX9_allOf) = true := by decide +kernel
theorem sx_c_143 : cd_X9_byLot.all (sx_ck 9 false false cX9_byLot) = true := by decide +kernel
theorem sx_c_144 : cd_X9_laySome.all (sx_ck 9 false false cX9_laySome) = true := by decide +kernel
theorem sx_c_145 : cd_X9_likeliestOf.all (sx_ck 9 false false cX9_likeliestOf) = true := by decide +kernel
theorem sx_c_146 : cd_X9_keep.all (sx_ck 9 false false cX9_keep) = true := by decide +kernel
theorem sx_c_147 : cd_X9_passes.all (sx_ck 9 false false cX9_passes) = true := by decide +kernel
theorem sx_c_148 : cd_X9_cast.all (sx_ck 9 false false cX9_cast) = true := by decide +kernel
theorem sx_c_149 : cd_X9_throwOver.all (sx_ck 9 false false cX9_throwOver) = true := by decide +kernel
theorem sx_c_150 : cd_X9_cargo.all (sx_ck 9 false false cX9_cargo) = true := by decide +kernel
theorem sx_c_151 : cd_X9_hour.all (sx_ck 9 false false cX9_hour) = true := by decide +kernel
theorem sx_c_152 : cd_X9_joins.all (sx_ck 9 false false cX9_joins) = true := by decide +kernel
theorem sx_c_153 : cd_X9_undo.all (sx_ck 9 false false cX9_undo) = true := by decide +kernel
theorem sx_c_154 : cd_X9_drawnTruth.all (sx_ck 9 false false cX9_drawnTruth) = true := by decide +kernel
theorem sx_c_155 : cd_X9_person.all (sx_ck 9 false false cX9_person) = true := by decide +kernel
theorem sx_c_156 : cd_X9_sea.all (sx_ck 9 false false cX9_sea) = true := by decide +kernel
theorem sx_c_157 : cd_X9_likelihood.all (sx_ck 9 false false cX9_likelihood) = true := by decide +kernel
theorem sx_c_158 : cd_X9_part.all (sx_ck 9 false false cX9_part) = true := by decide +kernel
theorem sx_c_159 : cd_X9_belief.all (sx_ck 9 false false cX9_belief) = true := by decide +kernel
theorem sx_c_160 : cd_X9_likeliest.all (sx_ck 9 false false cX9_likeliest) = true := by decide +kernel
theorem sx_c_161 : cd_X9_namedOf.all (sx_ck 9 false false cX9_namedOf) = true := by decide +kernel
theorem sx_c_162 : cd_X9_named.all (sx_ck 9 false false cX9_named) = true := by decide +kernel
theorem sx_c_163 : cd_X9_tells.all (sx_ck 9 false false cX9_tells) = true := by decide +kernel
theorem sx_c_164 : cd_X9_bestOf.all (sx_ck 9 false false cX9_bestOf) = true := by decide +kernel
theorem sx_c_165 : cd_X9_tries.all (sx_ck 9 false false cX9_tries) = true := by decide +kernel
theorem sx_c_166 : cd_X9_laySaved.all (sx_ck 9 false false cX9_laySaved) = true := by decide +kernel
theorem sx_c_167 : cd_X9_saved.all (sx_ck 9 false false cX9_saved) = true := by decide +kernel
theorem sx_c_168 : cd_X9_sure.all (sx_ck 9 false false cX9_sure) = true := by decide +kernel
theorem sx_c_169 : cd_X9_priceOf.all (sx_ck 9 false false cX9_priceOf) = true := by decide +kernel
theorem sx_c_170 : cd_X9_price.all (sx_ck 9 false false cX9_price) = true := by decide +kernel
theorem sx_c_171 : cd_X9_beenBy.all (sx_ck 9 false false cX9_beenBy) = true := by decide +kernel
theorem sx_c_172 : cd_X9_been.all (sx_ck 9 false false cX9_been) = true := by decide +kernel
theorem sx_c_173 : cd_X9_draws.all (sx_ck 9 false false cX9_draws) = true := by decide +kernel
theorem sx_c_174 : cd_X9_placeOf.all (sx_ck 9 false false cX9_placeOf) = true := by decide +kernel
theorem sx_c_175 : cd_X9_fallsTo.all (sx_ck 9 false false cX9_fallsTo) = true := by decide +kernel
theorem sx_c_176 : cd_X9_nameBy.all (sx_ck 9 false false cX9_nameBy) = true := by decide +kernel
theorem sx_c_177 : cd_X9_storm.all (sx_ck 9 false false cX9_storm) = true := by decide +kernel
theorem sx_c_178 : cd_X9_image.all (sx_ck 9 false false cX9_image) = true := by decide +kernel
theorem sx_c_179 : cd_X9_restore.all (sx_ck 9 false false cX9_restore) = true := by decide +kernel
theorem sx_c_180 : cd_X9_isOf.all (sx_ck 9 true false cX9_isOf) = true := by decide +kernel
theorem sx_c_181 : cd_X9_kind.all (sx_ck 9 false false cX9_kind) = true := by decide +kernel
theorem sx_c_182 : cd_X9_as.all (sx_ck 9 false false cX9_as) = true := by decide +kernel
theorem sx_c_183 : cd_X9_began.all (sx_ck 9 false false cX9_began) = true := by decide +kernel
theorem sx_c_184 : cd_X9_plainSize.all (sx_ck 9 false false cX9_plainSize) = true := by decide +kernel
theorem sx_c_185 : cd_X9_guestSize.all (sx_ck 9 false false cX9_guestSize) = true := by decide +kernel
theorem sx_c_186 : cd_X9_markOf.all (sx_ck 9 false false cX9_markOf) = true := by decide +kernel
theorem sx_c_187 : cd_X9_sizeOf.all (sx_ck 9 false false cX9_sizeOf) = true := by decide +kernel
theorem sx_c_188 : cd_X9_ask.all (sx_ck 9 false false cX9_ask) = true := by decide +kernel
theorem sx_c_189 : cd_X9_trace.all (sx_ck 9 false false cX9_trace) = true := by decide +kernel
theorem sx_c_190 : cd_X9_count.all (sx_ck 9 false false cX9_count) = true := by decide +kernel
theorem sx_c_191 : cd_X9_status.all (sx_ck 9 false false cX9_status) = true := by decide +kernel
theorem sx_c_192 : cd_J6_bitCount_0f7a4.all (sx_ck 11 false false cJ6_bitCount_0f7a4) = true := by decide +kernel
theorem sx_c_193 : cd_J7_fill_53178.all (sx_ck 13 false false cJ7_fill_53178) = true := by decide +kernel
theorem sx_d_0 : sx_okc 0 = true := sx_c_0
theorem sx_d_1 : sx_okc 1 = true := sx_c_1
theorem sx_d_2 : sx_okc 2 = true := sx_c_2
theorem sx_d_3 : sx_okc 3 = true := sx_c_3
theorem sx_d_4 : sx_okc 4 = true := sx_c_4
theorem sx_d_5 : sx_okc 5 = true := sx_c_5
theorem sx_d_6 : sx_okc 6 = true := sx_c_6
theorem sx_d_7 : sx_okc 7 = true := sx_c_7
theorem sx_d_8 : sx_okc 8 = true := sx_c_8
theorem sx_d_9 : sx_okc 9 = true := sx_c_9
theorem sx_d_10 : sx_okc 10 = true := sx_c_10
theorem sx_d_11 : sx_okc 11 = true := sx_c_11
theorem sx_d_12 : sx_okc 12 = true := sx_c_12
theorem sx_d_13 : sx_okc 13 = true := sx_c_13
theorem sx_d_14 : sx_okc 14 = true := sx_c_14
theorem sx_d_15 : sx_okc 15 = true := sx_c_15
theorem sx_d_16 : sx_okc 16 = true := sx_c_16
theorem sx_d_17 : sx_okc 17 = true := sx_c_17
theorem sx_d_18 : sx_okc 18 = true := sx_c_18
theorem sx_d_19 : sx_okc 19 = true := sx_c_19
theorem sx_d_20 : sx_okc 20 = true := sx_c_20
theorem sx_d_21 : sx_okc 21 = true := sx_c_21
theorem sx_d_22 : sx_okc 22 = true := sx_c_22
theorem sx_d_23 : sx_okc 23 = true := sx_c_23
theorem sx_d_24 : sx_okc 24 = true := sx_c_24
theorem sx_d_25 : sx_okc 25 = true := sx_c_25
theorem sx_d_26 : sx_okc 26 = true := sx_c_26
theorem sx_d_27 : sx_okc 27 = true := sx_c_27
theorem sx_d_28 : sx_okc 28 = true := sx_c_28
theorem sx_d_29 : sx_okc 29 = true := sx_c_29
theorem sx_d_30 : sx_okc 30 = true := sx_c_30
theorem sx_d_31 : sx_okc 31 = true := sx_c_31
theorem sx_d_32 : sx_okc 32 = true := sx_c_32
theorem sx_d_33 : sx_okc 33 = true := sx_c_33
theorem sx_d_34 : sx_okc 34 = true := sx_c_34
theorem sx_d_35 : sx_okc 35 = true := sx_c_35
theorem sx_d_36 : sx_okc 36 = true := sx_c_36
theorem sx_d_37 : sx_okc 37 = true := sx_c_37
theorem sx_d_38 : sx_okc 38 = true := sx_c_38
theorem sx_d_39 : sx_okc 39 = true := sx_c_39
theorem sx_d_40 : sx_okc 40 = true := sx_c_40
theorem sx_d_41 : sx_okc 41 = true := sx_c_41
theorem sx_d_42 : sx_okc 42 = true := sx_c_42
theorem sx_d_43 : sx_okc 43 = true := sx_c_43
theorem sx_d_44 : sx_okc 44 = true := sx_c_44
theorem sx_d_45 : sx_okc 45 = true := sx_c_45
theorem sx_d_46 : sx_okc 46 = true := sx_c_46
theorem sx_d_47 : sx_okc 47 = true := sx_c_47
theorem sx_d_48 : sx_okc 48 = true := sx_c_48
theorem sx_d_49 : sx_okc 49 = true := sx_c_49
theorem sx_d_50 : sx_okc 50 = true := sx_c_50
theorem sx_d_51 : sx_okc 51 = true := sx_c_51
theorem sx_d_52 : sx_okc 52 = true := sx_c_52
theorem sx_d_53 : sx_okc 53 = true := sx_c_53
theorem sx_d_54 : sx_okc 54 = true := sx_c_54
theorem sx_d_55 : sx_okc 55 = true := sx_c_55
theorem sx_d_56 : sx_okc 56 = true := sx_c_56
theorem sx_d_57 : sx_okc 57 = true := sx_c_57
theorem sx_d_58 : sx_okc 58 = true := sx_c_58
theorem sx_d_59 : sx_okc 59 = true := sx_c_59
theorem sx_d_60 : sx_okc 60 = true := sx_c_60
theorem sx_d_61 : sx_okc 61 = true := sx_c_61
theorem sx_d_62 : sx_okc 62 = true := sx_c_62
theorem sx_d_63 : sx_okc 63 = true := sx_c_63
theorem sx_d_64 : sx_okc 64 = true := sx_c_64
theorem sx_d_65 : sx_okc 65 = true := sx_c_65
theorem sx_d_66 : sx_okc 66 = true := sx_c_66
theorem sx_d_67 : sx_okc 67 = true := sx_c_67
theorem sx_d_68 : sx_okc 68 = true := sx_c_68
theorem sx_d_69 : sx_okc 69 = true := sx_c_69
theorem sx_d_70 : sx_okc 70 = true := sx_c_70
theorem sx_d_71 : sx_okc 71 = true := sx_c_71
theorem sx_d_72 : sx_okc 72 = true := sx_c_72
theorem sx_d_73 : sx_okc 73 = true := sx_c_73
theorem sx_d_74 : sx_okc 74 = true := sx_c_74
theorem sx_d_75 : sx_okc 75 = true := sx_c_75
theorem sx_d_76 : sx_okc 76 = true := sx_c_76
theorem sx_d_77 : sx_okc 77 = true := sx_c_77
theorem sx_d_78 : sx_okc 78 = true := sx_c_78
theorem sx_d_79 : sx_okc 79 = true := sx_c_79
theorem sx_d_80 : sx_okc 80 = true := sx_c_80
theorem sx_d_81 : sx_okc 81 = true := sx_c_81
theorem sx_d_82 : sx_okc 82 = true := sx_c_82
theorem sx_d_83 : sx_okc 83 = true := sx_c_83
theorem sx_d_84 : sx_okc 84 = true := sx_c_84
theorem sx_d_85 : sx_okc 85 = true := sx_c_85
theorem sx_d_86 : sx_okc 86 = true := sx_c_86
theorem sx_d_87 : sx_okc 87 = true := sx_c_87
theorem sx_d_88 : sx_okc 88 = true := sx_c_88
theorem sx_d_89 : sx_okc 89 = true := sx_c_89
theorem sx_d_90 : sx_okc 90 = true := sx_c_90
theorem sx_d_91 : sx_okc 91 = true := sx_c_91
theorem sx_d_92 : sx_okc 92 = true := sx_c_92
theorem sx_d_93 : sx_okc 93 = true := sx_c_93
theorem sx_d_94 : sx_okc 94 = true := sx_c_94
theorem sx_d_95 : sx_okc 95 = true := sx_c_95
theorem sx_d_96 : sx_okc 96 = true := sx_c_96
theorem sx_d_97 : sx_okc 97 = true := sx_c_97
theorem sx_d_98 : sx_okc 98 = true := sx_c_98
theorem sx_d_99 : sx_okc 99 = true := sx_c_99
theorem sx_d_100 : sx_okc 100 = true := sx_c_100
theorem sx_d_101 : sx_okc 101 = true := sx_c_101
theorem sx_d_102 : sx_okc 102 = true := sx_c_102
theorem sx_d_103 : sx_okc 103 = true := sx_c_103
theorem sx_d_104 : sx_okc 104 = true := sx_c_104
theorem sx_d_105 : sx_okc 105 = true := sx_c_105
theorem sx_d_106 : sx_okc 106 = true := sx_c_106
theorem sx_d_107 : sx_okc 107 = true := sx_c_107
theorem sx_d_108 : sx_okc 108 = true := sx_c_108
theorem sx_d_109 : sx_okc 109 = true := sx_c_109
theorem sx_d_110 : sx_okc 110 = true := sx_c_110
theorem sx_d_111 : sx_okc 111 = true := sx_c_111
theorem sx_d_112 : sx_okc 112 = true := sx_c_112
theorem sx_d_113 : sx_okc 113 = true := sx_c_113
theorem sx_d_114 : sx_okc 114 = true := sx_c_114
theorem sx_d_115 : sx_okc 115 = true := sx_c_115
theorem sx_d_116 : sx_okc 116 = true := sx_c_116
theorem sx_d_117 : sx_okc 117 = true := sx_c_117
theorem sx_d_118 : sx_okc 118 = true := sx_c_118
theorem sx_d_119 : sx_okc 119 = true := sx_c_119
theorem sx_d_120 : sx_okc 120 = true := sx_c_120
theorem sx_d_121 : sx_okc 121 = true := sx_c_121
theorem sx_d_122 : sx_okc 122 = true := sx_c_122
theorem sx_d_123 : sx_okc 123 = true := sx_c_123
theorem sx_d_124 : sx_okc 124 = true := sx_c_124
theorem sx_d_125 : sx_okc 125 = true := sx_c_125
theorem sx_d_126 : sx_okc 126 = true := sx_c_126
theorem sx_d_127 : sx_okc 127 = true := sx_c_127
theorem sx_d_128 : sx_okc 128 = true := sx_c_128
theorem sx_d_129 : sx_okc 129 = true := sx_c_129
theorem sx_d_130 : sx_okc 130 = true := sx_c_130
theorem sx_d_131 : sx_okc 131 = true := sx_c_131
theorem sx_d_132 : sx_okc 132 = true := sx_c_132
theorem sx_d_133 : sx_okc 133 = true := sx_c_133
theorem sx_d_134 : sx_okc 134 = true := sx_c_134
theorem sx_d_135 : sx_okc 135 = true := sx_c_135
theorem sx_d_136 : sx_okc 136 = true := sx_c_136
theorem sx_d_137 : sx_okc 137 = true := sx_c_137
theorem sx_d_138 : sx_okc 138 = true := sx_c_138
theorem sx_d_139 : sx_okc 139 = true := sx_c_139
theorem sx_d_140 : sx_okc 140 = true := sx_c_140
theorem sx_d_141 : sx_okc 141 = true := sx_c_141
theorem sx_d_142 : sx_okc 142 = true := sx_c_142
theorem sx_d_143 : sx_okc 143 = true := sx_c_143
theorem sx_d_144 : sx_okc 144 = true := sx_c_144
theorem sx_d_145 : sx_okc 145 = true := sx_c_145
theorem sx_d_146 : sx_okc 146 = true := sx_c_146
theorem sx_d_147 : sx_okc 147 = true := sx_c_147
theorem sx_d_148 : sx_okc 148 = true := sx_c_148
theorem sx_d_149 : sx_okc 149 = true := sx_c_149
theorem sx_d_150 : sx_okc 150 = true := sx_c_150
theorem sx_d_151 : sx_okc 151 = true := sx_c_151
theorem sx_d_152 : sx_okc 152 = true := sx_c_152
theorem sx_d_153 : sx_okc 153 = true := sx_c_153
theorem sx_d_154 : sx_okc 154 = true := sx_c_154
theorem sx_d_155 : sx_okc 155 = true := sx_c_155
theorem sx_d_156 : sx_okc 156 = true := sx_c_156
theorem sx_d_157 : sx_okc 157 = true := sx_c_157
theorem sx_d_158 : sx_okc 158 = true := sx_c_158
theorem sx_d_159 : sx_okc 159 = true := sx_c_159
theorem sx_d_160 : sx_okc 160 = true := sx_c_160
theorem sx_d_161 : sx_okc 161 = true := sx_c_161
theorem sx_d_162 : sx_okc 162 = true := sx_c_162
theorem sx_d_163 : sx_okc 163 = true := sx_c_163
theorem sx_d_164 : sx_okc 164 = true := sx_c_164
theorem sx_d_165 : sx_okc 165 = true := sx_c_165
theorem sx_d_166 : sx_okc 166 = true := sx_c_166
theorem sx_d_167 : sx_okc 167 = true := sx_c_167
theorem sx_d_168 : sx_okc 168 = true := sx_c_168
theorem sx_d_169 : sx_okc 169 = true := sx_c_169
theorem sx_d_170 : sx_okc 170 = true := sx_c_170
theorem sx_d_171 : sx_okc 171 = true := sx_c_171
theorem sx_d_172 : sx_okc 172 = true := sx_c_172
theorem sx_d_173 : sx_okc 173 = true := sx_c_173
theorem sx_d_174 : sx_okc 174 = true := sx_c_174
theorem sx_d_175 : sx_okc 175 = true := sx_c_175
theorem sx_d_176 : sx_okc 176 = true := sx_c_176
theorem sx_d_177 : sx_okc 177 = true := sx_c_177
theorem sx_d_178 : sx_okc 178 = true := sx_c_178
theorem sx_d_179 : sx_okc 179 = true := sx_c_179
theorem sx_d_180 : sx_okc 180 = true := sx_c_180
theorem sx_d_181 : sx_okc 181 = true := sx_c_181
theorem sx_d_182 : sx_okc 182 = true := sx_c_182
theorem sx_d_183 : sx_okc 183 = true := sx_c_183
theorem sx_d_184 : sx_okc 184 = true := sx_c_184
theorem sx_d_185 : sx_okc 185 = true := sx_c_185
theorem sx_d_186 : sx_okc 186 = true := sx_c_186
theorem sx_d_187 : sx_okc 187 = true := sx_c_187
theorem sx_d_188 : sx_okc 188 = true := sx_c_188
theorem sx_d_189 : sx_okc 189 = true := sx_c_189
theorem sx_d_190 : sx_okc 190 = true := sx_c_190
theorem sx_d_191 : sx_okc 191 = true := sx_c_191
theorem sx_d_192 : sx_okc 192 = true := sx_c_192
theorem sx_d_193 : sx_okc 193 = true := sx_c_193
set_option maxRecDepth 100000 in
theorem sx_d_all : (List.range 194).all sx_okc = true := by
  rw [show List.range 194 = [0, 1, 2, 3, 4, 5, 6, 7, 8, 9, 10, 11, 12, 13, 14, 15, 16, 17, 18, 19, 20, 21, 22, 23, 24, 25, 26, 27, 28, 29, 30, 31, 32, 33, 34, 35, 36, 37, 38, 39, 40, 41, 42, 43, 44, 45, 46, 47, 48, 49, 50, 51, 52, 53, 54, 55, 56, 57, 58, 59, 60, 61, 62, 63, 64, 65, 66, 67, 68, 69, 70, 71, 72, 73, 74, 75, 76, 77, 78, 79, 80, 81, 82, 83, 84, 85, 86, 87, 88, 89, 90, 91, 92, 93, 94, 95, 96, 97, 98, 99, 100, 101, 102, 103, 104, 105, 106, 107, 108, 109, 110, 111, 112, 113, 114, 115, 116, 117, 118, 119, 120, 121, 122, 123, 124, 125, 126, 127, 128, 129, 130, 131, 132, 133, 134, 135, 136, 137, 138, 139, 140, 141, 142, 143, 144, 145, 146, 147, 148, 149, 150, 151, 152, 153, 154, 155, 156, 157, 158, 159, 160, 161, 162, 163, 164, 165, 166, 167, 168, 169, 170, 171, 172, 173, 174, 175, 176, 177, 178, 179, 180, 181, 182, 183, 184, 185, 186, 187, 188, 189, 190, 191, 192, 193] from rfl]
  simp only [List.all_cons, List.all_nil, sx_d_0, sx_d_1, sx_d_2, sx_d_3, sx_d_4, sx_d_5, sx_d_6, sx_d_7, sx_d_8, sx_d_9, sx_d_10, sx_d_11, sx_d_12, sx_d_13, sx_d_14, sx_d_15, sx_d_16, sx_d_17, sx_d_18, sx_d_19, sx_d_20, sx_d_21, sx_d_22, sx_d_23, sx_d_24, sx_d_25, sx_d_26, sx_d_27, sx_d_28, sx_d_29, sx_d_30, sx_d_31, sx_d_32, sx_d_33, sx_d_34, sx_d_35, sx_d_36, sx_d_37, sx_d_38, sx_d_39, sx_d_40, sx_d_41, sx_d_42, sx_d_43, sx_d_44, sx_d_45, sx_d_46, sx_d_47, sx_d_48, sx_d_49, sx_d_50, sx_d_51, sx_d_52, sx_d_53, sx_d_54, sx_d_55, sx_d_56, sx_d_57, sx_d_58, sx_d_59, sx_d_60, sx_d_61, sx_d_62, sx_d_63, sx_d_64, sx_d_65, sx_d_66, sx_d_67, sx_d_68, sx_d_69, sx_d_70, sx_d_71, sx_d_72, sx_d_73, sx_d_74, sx_d_75, sx_d_76, sx_d_77, sx_d_78, sx_d_79, sx_d_80, sx_d_81, sx_d_82, sx_d_83, sx_d_84, sx_d_85, sx_d_86, sx_d_87, sx_d_88, sx_d_89, sx_d_90, sx_d_91, sx_d_92, sx_d_93, sx_d_94, sx_d_95, sx_d_96, sx_d_97, sx_d_98, sx_d_99, sx_d_100, sx_d_101, sx_d_102, sx_d_103, sx_d_104, sx_d_105, sx_d_106, sx_d_107, sx_d_108, sx_d_109, sx_d_110, sx_d_111, sx_d_112, sx_d_113, sx_d_114, sx_d_115, sx_d_116, sx_d_117, sx_d_118, sx_d_119, sx_d_120, sx_d_121, sx_d_122, sx_d_123, sx_d_124, sx_d_125, sx_d_126, sx_d_127, sx_d_128, sx_d_129, sx_d_130, sx_d_131, sx_d_132, sx_d_133, sx_d_134, sx_d_135, sx_d_136, sx_d_137, sx_d_138, sx_d_139, sx_d_140, sx_d_141, sx_d_142, sx_d_143, sx_d_144, sx_d_145, sx_d_146, sx_d_147, sx_d_148, sx_d_149, sx_d_150, sx_d_151, sx_d_152, sx_d_153, sx_d_154, sx_d_155, sx_d_156, sx_d_157, sx_d_158, sx_d_159, sx_d_160, sx_d_161, sx_d_162, sx_d_163, sx_d_164, sx_d_165, sx_d_166, sx_d_167, sx_d_168, sx_d_169, sx_d_170, sx_d_171, sx_d_172, sx_d_173, sx_d_174, sx_d_175, sx_d_176, sx_d_177, sx_d_178, sx_d_179, sx_d_180, sx_d_181, sx_d_182, sx_d_183, sx_d_184, sx_d_185, sx_d_186, sx_d_187, sx_d_188, sx_d_189, sx_d_190, sx_d_191, sx_d_192, sx_d_193, Bool.and_self]
theorem sx_okc_all : ∀ i : Nat, sx_okc i = true := by
  intro i
  by_cases h : i < 194
  · exact List.all_eq_true.mp sx_d_all i (List.mem_range.mpr h)
  · have h1 : sx_mt[i]? = none := List.getElem?_eq_none (by rw [sx_mt_len]; omega)
    unfold sx_okc
    rw [h1]
/-- THE BRIDGE: what our machine comes to, the real one comes to -/
theorem sx_sound (l : Launch) (sc : Nat × (Nat → Int32)) (n : Nat) : sx_RUN l sc n := sx_run sx_okc_all l sc n

/-! the tables are the claim's (checks that a program decides) -/
theorem ck_0 : kc_0.all (okE cX0_init) = true := by decide +kernel
theorem cx_0 : kc_0.all (okX 0 true) = true := by decide +kernel
theorem ck_1 : kc_1.all (okE cX0_empty) = true := by decide +kernel
theorem cx_1 : kc_1.all (okX 0 false) = true := by decide +kernel
theorem ck_2 : kc_2.all (okE cX0_addVillage) = true := by decide +kernel
theorem cx_2 : kc_2.all (okX 0 false) = true := by decide +kernel
theorem ck_3 : kc_3.all (okE cX0_addRoad) = true := by decide +kernel
theorem cx_3 : kc_3.all (okX 0 false) = true := by decide +kernel
theorem ck_4 : kc_4.all (okE cX0_hasRoad) = true := by decide +kernel
theorem cx_4 : kc_4.all (okX 0 false) = true := by decide +kernel
theorem ck_5 : kc_5.all (okE cX0_addItem) = true := by decide +kernel
theorem cx_5 : kc_5.all (okX 0 false) = true := by decide +kernel
theorem ck_6 : kc_6.all (okE cX0_isTold) = true := by decide +kernel
theorem cx_6 : kc_6.all (okX 0 false) = true := by decide +kernel
theorem ck_7 : kc_7.all (okE cX0_tell) = true := by decide +kernel
theorem cx_7 : kc_7.all (okX 0 false) = true := by decide +kernel
theorem ck_8 : kc_8.all (okE cX0_countRivers) = true := by decide +kernel
theorem cx_8 : kc_8.all (okX 0 false) = true := by decide +kernel
theorem ck_9 : kc_9.all (okE cX0_countRoadsAt) = true := by decide +kernel
theorem cx_9 : kc_9.all (okX 0 false) = true := by decide +kernel
theorem ck_10 : kc_10.all (okE cX0_copyOf) = true := by decide +kernel
theorem cx_10 : kc_10.all (okX 0 false) = true := by decide +kernel
theorem ck_11 : kc_11.all (okE cX1_init) = true := by decide +kernel
theorem cx_11 : kc_11.all (okX 1 true) = true := by decide +kernel
theorem ck_12 : kc_12.all (okE cX1_empty) = true := by decide +kernel
theorem cx_12 : kc_12.all (okX 1 false) = true := by decide +kernel
theorem ck_13 : kc_13.all (okE cX1_areFor) = true := by decide +kernel
theorem cx_13 : kc_13.all (okX 1 false) = true := by decide +kernel
theorem ck_14 : kc_14.all (okE cX1_addPart) = true := by decide +kernel
theorem cx_14 : kc_14.all (okX 1 false) = true := by decide +kernel
theorem ck_15 : kc_15.all (okE cX1_addLaw) = true := by decide +kernel
theorem cx_15 : kc_15.all (okX 1 false) = true := by decide +kernel
theorem ck_16 : kc_16.all (okE cX1_copyOf) = true := by decide +kernel
theorem cx_16 : kc_16.all (okX 1 false) = true := by decide +kernel
theorem ck_17 : kc_17.all (okE cX2_init) = true := by decide +kernel
theorem cx_17 : kc_17.all (okX 2 true) = true := by decide +kernel
theorem ck_18 : kc_18.all (okE cX2_forget) = true := by decide +kernel
theorem cx_18 : kc_18.all (okX 2 false) = true := by decide +kernel
theorem ck_19 : kc_19.all (okE cX2_place) = true := by decide +kernel
theorem cx_19 : kc_19.all (okX 2 false) = true := by decide +kernel
theorem ck_20 : kc_20.all (okE cX2_answersFor) = true := by decide +kernel
theorem cx_20 : kc_20.all (okX 2 false) = true := by decide +kernel
theorem ck_21 : kc_21.all (okE cX2_commonest) = true := by decide +kernel
theorem cx_21 : kc_21.all (okX 2 false) = true := by decide +kernel
theorem ck_22 : kc_22.all (okE cX2_copyOf) = true := by decide +kernel
theorem cx_22 : kc_22.all (okX 2 false) = true := by decide +kernel
theorem ck_23 : kc_23.all (okE cX3_init) = true := by decide +kernel
theorem cx_23 : kc_23.all (okX 3 true) = true := by decide +kernel
theorem ck_24 : kc_24.all (okE cX3_readTape) = true := by decide +kernel
theorem cx_24 : kc_24.all (okX 3 false) = true := by decide +kernel
theorem ck_25 : kc_25.all (okE cX3_readVillage) = true := by decide +kernel
theorem cx_25 : kc_25.all (okX 3 false) = true := by decide +kernel
theorem ck_26 : kc_26.all (okE cX3_readRoad) = true := by decide +kernel
theorem cx_26 : kc_26.all (okX 3 false) = true := by decide +kernel
theorem ck_27 : kc_27.all (okE cX3_readItem) = true := by decide +kernel
theorem cx_27 : kc_27.all (okX 3 false) = true := by decide +kernel
theorem ck_28 : kc_28.all (okE cX3_readSaying) = true := by decide +kernel
theorem cx_28 : kc_28.all (okX 3 false) = true := by decide +kernel
theorem ck_29 : kc_29.all (okE cX3_readLaw) = true := by decide +kernel
theorem cx_29 : kc_29.all (okX 3 false) = true := by decide +kernel
theorem ck_30 : kc_30.all (okE cX3_readSum) = true := by decide +kernel
theorem cx_30 : kc_30.all (okX 3 false) = true := by decide +kernel
theorem ck_31 : kc_31.all (okE cX3_readPart) = true := by decide +kernel
theorem cx_31 : kc_31.all (okX 3 false) = true := by decide +kernel
theorem ck_32 : kc_32.all (okE cX3_takeSign) = true := by decide +kernel
theorem cx_32 : kc_32.all (okX 3 false) = true := by decide +kernel
theorem ck_33 : kc_33.all (okE cX3_highestVariant) = true := by decide +kernel
theorem cx_33 : kc_33.all (okX 3 false) = true := by decide +kernel
theorem ck_34 : kc_34.all (okE cX3_takeNumber) = true := by decide +kernel
theorem cx_34 : kc_34.all (okX 3 false) = true := by decide +kernel
theorem ck_35 : kc_35.all (okE cX3_takeWord) = true := by decide +kernel
theorem cx_35 : kc_35.all (okX 3 false) = true := by decide +kernel
theorem ck_36 : kc_36.all (okE cX3_takeStop) = true := by decide +kernel
theorem cx_36 : kc_36.all (okX 3 false) = true := by decide +kernel
theorem ck_37 : kc_37.all (okE cX3_tryWord) = true := by decide +kernel
theorem cx_37 : kc_37.all (okX 3 false) = true := by decide +kernel
theorem ck_38 : kc_38.all (okE cX3_refuseBeyond) = true := by decide +kernel
theorem cx_38 : kc_38.all (okX 3 false) = true := by decide +kernel
theorem ck_39 : kc_39.all (okE cX3_refuse) = true := by decide +kernel
theorem cx_39 : kc_39.all (okX 3 false) = true := by decide +kernel
theorem ck_40 : kc_40.all (okE cX3_advance) = true := by decide +kernel
theorem cx_40 : kc_40.all (okX 3 false) = true := by decide +kernel
theorem ck_41 : kc_41.all (okE cX3_kindOf) = true := by decide +kernel
theorem cx_41 : kc_41.all (okX 3 false) = true := by decide +kernel
theorem ck_42 : kc_42.all (okE cX4_init) = true := by decide +kernel
theorem cx_42 : kc_42.all (okX 4 true) = true := by decide +kernel
theorem ck_43 : kc_43.all (okE cX4_copyOf) = true := by decide +kernel
theorem cx_43 : kc_43.all (okX 4 false) = true := by decide +kernel
theorem ck_44 : kc_44.all (okE cX5_init) = true := by decide +kernel
theorem cx_44 : kc_44.all (okX 5 true) = true := by decide +kernel
theorem ck_45 : kc_45.all (okE cX5_startRow) = true := by decide +kernel
theorem cx_45 : kc_45.all (okX 5 false) = true := by decide +kernel
theorem ck_46 : kc_46.all (okE cX5_cut) = true := by decide +kernel
theorem cx_46 : kc_46.all (okX 5 false) = true := by decide +kernel
theorem ck_47 : kc_47.all (okE cX5_holds) = true := by decide +kernel
theorem cx_47 : kc_47.all (okX 5 false) = true := by decide +kernel
theorem ck_48 : kc_48.all (okE cX6_init) = true := by decide +kernel
theorem cx_48 : kc_48.all (okX 6 true) = true := by decide +kernel
theorem ck_49 : kc_49.all (okE cX6_startWith) = true := by decide +kernel
theorem cx_49 : kc_49.all (okX 6 false) = true := by decide +kernel
theorem ck_50 : kc_50.all (okE cX6_variantAt) = true := by decide +kernel
theorem cx_50 : kc_50.all (okX 6 false) = true := by decide +kernel
theorem ck_51 : kc_51.all (okE cX6_placeOf) = true := by decide +kernel
theorem cx_51 : kc_51.all (okX 6 false) = true := by decide +kernel
theorem ck_52 : kc_52.all (okE cX6_reach) = true := by decide +kernel
theorem cx_52 : kc_52.all (okX 6 false) = true := by decide +kernel
theorem ck_53 : kc_53.all (okE cX6_startYears) = true := by decide +kernel
theorem cx_53 : kc_53.all (okX 6 false) = true := by decide +kernel
theorem ck_54 : kc_54.all (okE cX6_countNeighbours) = true := by decide +kernel
theorem cx_54 : kc_54.all (okX 6 false) = true := by decide +kernel
theorem ck_55 : kc_55.all (okE cX6_meet) = true := by decide +kernel
theorem cx_55 : kc_55.all (okX 6 false) = true := by decide +kernel
theorem ck_56 : kc_56.all (okE cX6_turningLaw) = true := by decide +kernel
theorem cx_56 : kc_56.all (okX 6 false) = true := by decide +kernel
theorem ck_57 : kc_57.all (okE cX6_isHolding) = true := by decide +kernel
theorem cx_57 : kc_57.all (okX 6 false) = true := by decide +kernel
theorem ck_58 : kc_58.all (okE cX6_workOut) = true := by decide +kernel
theorem cx_58 : kc_58.all (okX 6 false) = true := by decide +kernel
theorem ck_59 : kc_59.all (okE cX6_valueOf) = true := by decide +kernel
theorem cx_59 : kc_59.all (okX 6 false) = true := by decide +kernel
theorem ck_60 : kc_60.all (okE cX7_init) = true := by decide +kernel
theorem cx_60 : kc_60.all (okX 7 true) = true := by decide +kernel
theorem ck_61 : kc_61.all (okE cX7_forget) = true := by decide +kernel
theorem cx_61 : kc_61.all (okX 7 false) = true := by decide +kernel
theorem ck_62 : kc_62.all (okE cX7_asBits) = true := by decide +kernel
theorem cx_62 : kc_62.all (okX 7 false) = true := by decide +kernel
theorem ck_63 : kc_63.all (okE cX7_copyOf) = true := by decide +kernel
theorem cx_63 : kc_63.all (okX 7 false) = true := by decide +kernel
theorem ck_64 : kc_64.all (okE cX8_init) = true := by decide +kernel
theorem cx_64 : kc_64.all (okX 8 true) = true := by decide +kernel
theorem ck_65 : kc_65.all (okE cX8_feed) = true := by decide +kernel
theorem cx_65 : kc_65.all (okX 8 false) = true := by decide +kernel
theorem ck_66 : kc_66.all (okE cX8_putBytes) = true := by decide +kernel
theorem cx_66 : kc_66.all (okX 8 false) = true := by decide +kernel
theorem ck_67 : kc_67.all (okE cX8_end) = true := by decide +kernel
theorem cx_67 : kc_67.all (okX 8 false) = true := by decide +kernel
theorem ck_68 : kc_68.all (okE cX8_land) = true := by decide +kernel
theorem cx_68 : kc_68.all (okX 8 false) = true := by decide +kernel
theorem ck_69 : kc_69.all (okE cX8_fault) = true := by decide +kernel
theorem cx_69 : kc_69.all (okX 8 false) = true := by decide +kernel
theorem ck_70 : kc_70.all (okE cX8_says) = true := by decide +kernel
theorem cx_70 : kc_70.all (okX 8 false) = true := by decide +kernel
theorem ck_71 : kc_71.all (okE cX8_turned) = true := by decide +kernel
theorem cx_71 : kc_71.all (okX 8 false) = true := by decide +kernel
theorem ck_72 : kc_72.all (okE cX8_lines) = true := by decide +kernel
theorem cx_72 : kc_72.all (okX 8 false) = true := by decide +kernel
theorem ck_73 : kc_73.all (okE cX8_countLines) = true := by decide +kernel
theorem cx_73 : kc_73.all (okX 8 false) = true := by decide +kernel
theorem ck_74 : kc_74.all (okE cX8_isLine) = true := by decide +kernel
theorem cx_74 : kc_74.all (okX 8 false) = true := by decide +kernel
theorem ck_75 : kc_75.all (okE cX8_bundle) = true := by decide +kernel
theorem cx_75 : kc_75.all (okX 8 false) = true := by decide +kernel
theorem ck_76 : kc_76.all (okE cX8_bundleOf) = true := by decide +kernel
theorem cx_76 : kc_76.all (okX 8 false) = true := by decide +kernel
theorem ck_77 : kc_77.all (okE cX8_fillBundles) = true := by decide +kernel
theorem cx_77 : kc_77.all (okX 8 false) = true := by decide +kernel
theorem ck_78 : kc_78.all (okE cX8_thick) = true := by decide +kernel
theorem cx_78 : kc_78.all (okX 8 false) = true := by decide +kernel
theorem ck_79 : kc_79.all (okE cX8_crossed) = true := by decide +kernel
theorem cx_79 : kc_79.all (okX 8 false) = true := by decide +kernel
theorem ck_80 : kc_80.all (okE cX8_areas) = true := by decide +kernel
theorem cx_80 : kc_80.all (okX 8 false) = true := by decide +kernel
theorem ck_81 : kc_81.all (okE cX8_area) = true := by decide +kernel
theorem cx_81 : kc_81.all (okX 8 false) = true := by decide +kernel
theorem ck_82 : kc_82.all (okE cX8_labelAreas) = true := by decide +kernel
theorem cx_82 : kc_82.all (okX 8 false) = true := by decide +kernel
theorem ck_83 : kc_83.all (okE cX8_moved) = true := by decide +kernel
theorem cx_83 : kc_83.all (okX 8 false) = true := by decide +kernel
theorem ck_84 : kc_84.all (okE cX8_still) = true := by decide +kernel
theorem cx_84 : kc_84.all (okX 8 false) = true := by decide +kernel
theorem ck_85 : kc_85.all (okE cX8_river) = true := by decide +kernel
theorem cx_85 : kc_85.all (okX 8 false) = true := by decide +kernel
theorem ck_86 : kc_86.all (okE cX8_ways) = true := by decide +kernel
theorem cx_86 : kc_86.all (okX 8 false) = true := by decide +kernel
theorem ck_87 : kc_87.all (okE cX8_tells) = true := by decide +kernel
theorem cx_87 : kc_87.all (okX 8 false) = true := by decide +kernel
theorem ck_88 : kc_88.all (okE cX8_alone) = true := by decide +kernel
theorem cx_88 : kc_88.all (okX 8 false) = true := by decide +kernel
theorem ck_89 : kc_89.all (okE cX8_clearUntold) = true := by decide +kernel
theorem cx_89 : kc_89.all (okX 8 false) = true := by decide +kernel
theorem ck_90 : kc_90.all (okE cX8_difference) = true := by decide +kernel
theorem cx_90 : kc_90.all (okX 8 false) = true := by decide +kernel
theorem ck_91 : kc_91.all (okE cX8_fewestItems) = true := by decide +kernel
theorem cx_91 : kc_91.all (okX 8 false) = true := by decide +kernel
theorem ck_92 : kc_92.all (okE cX8_hear) = true := by decide +kernel
theorem cx_92 : kc_92.all (okX 8 false) = true := by decide +kernel
theorem ck_93 : kc_93.all (okE cX8_listen) = true := by decide +kernel
theorem cx_93 : kc_93.all (okX 8 false) = true := by decide +kernel
theorem ck_94 : kc_94.all (okE cX8_hears) = true := by decide +kernel
theorem cx_94 : kc_94.all (okX 8 false) = true := by decide +kernel
theorem ck_95 : kc_95.all (okE cX8_mute) = true := by decide +kernel
theorem cx_95 : kc_95.all (okX 8 false) = true := by decide +kernel
theorem ck_96 : kc_96.all (okE cX8_heard) = true := by decide +kernel
theorem cx_96 : kc_96.all (okX 8 false) = true := by decide +kernel
theorem ck_97 : kc_97.all (okE cX8_fillFitting) = true := by decide +kernel
theorem cx_97 : kc_97.all (okX 8 false) = true := by decide +kernel
theorem ck_98 : kc_98.all (okE cX8_fittingItems) = true := by decide +kernel
theorem cx_98 : kc_98.all (okX 8 false) = true := by decide +kernel
theorem ck_99 : kc_99.all (okE cX8_fits) = true := by decide +kernel
theorem cx_99 : kc_99.all (okX 8 false) = true := by decide +kernel
theorem ck_100 : kc_100.all (okE cX8_whole) = true := by decide +kernel
theorem cx_100 : kc_100.all (okX 8 false) = true := by decide +kernel
theorem ck_101 : kc_101.all (okE cX8_wholeVillages) = true := by decide +kernel
theorem cx_101 : kc_101.all (okX 8 false) = true := by decide +kernel
theorem ck_102 : kc_102.all (okE cX8_from) = true := by decide +kernel
theorem cx_102 : kc_102.all (okX 8 false) = true := by decide +kernel
theorem ck_103 : kc_103.all (okE cX8_next) = true := by decide +kernel
theorem cx_103 : kc_103.all (okX 8 false) = true := by decide +kernel
theorem ck_104 : kc_104.all (okE cX8_greatestCamp) = true := by decide +kernel
theorem cx_104 : kc_104.all (okX 8 false) = true := by decide +kernel
theorem ck_105 : kc_105.all (okE cX8_clearTally) = true := by decide +kernel
theorem cx_105 : kc_105.all (okX 8 false) = true := by decide +kernel
theorem ck_106 : kc_106.all (okE cX8_two) = true := by decide +kernel
theorem cx_106 : kc_106.all (okX 8 false) = true := by decide +kernel
theorem ck_107 : kc_107.all (okE cX8_nowhere) = true := by decide +kernel
theorem cx_107 : kc_107.all (okX 8 false) = true := by decide +kernel
theorem ck_108 : kc_108.all (okE cX8_anyFits) = true := by decide +kernel
theorem cx_108 : kc_108.all (okX 8 false) = true := by decide +kernel
theorem ck_109 : kc_109.all (okE cX8_note) = true := by decide +kernel
theorem cx_109 : kc_109.all (okX 8 false) = true := by decide +kernel
theorem ck_110 : kc_110.all (okE cX8_noted) = true := by decide +kernel
theorem cx_110 : kc_110.all (okX 8 false) = true := by decide +kernel
theorem ck_111 : kc_111.all (okE cX8_mostly) = true := by decide +kernel
theorem cx_111 : kc_111.all (okX 8 false) = true := by decide +kernel
theorem ck_112 : kc_112.all (okE cX8_off) = true := by decide +kernel
theorem cx_112 : kc_112.all (okX 8 false) = true := by decide +kernel
theorem ck_113 : kc_113.all (okE cX8_odds) = true := by decide +kernel
theorem cx_113 : kc_113.all (okX 8 false) = true := by decide +kernel
theorem ck_114 : kc_114.all (okE cX8_upperOdds) = true := by decide +kernel
theorem cx_114 : kc_114.all (okX 8 false) = true := by decide +kernel
theorem ck_115 : kc_115.all (okE cX8_lowerOdds) = true := by decide +kernel
theorem cx_115 : kc_115.all (okX 8 false) = true := by decide +kernel
theorem ck_116 : kc_116.all (okE cX8_commonPart) = true := by decide +kernel
theorem cx_116 : kc_116.all (okX 8 false) = true := by decide +kernel
theorem ck_117 : kc_117.all (okE cX8_likely) = true := by decide +kernel
theorem cx_117 : kc_117.all (okX 8 false) = true := by decide +kernel
theorem ck_118 : kc_118.all (okE cX8_ahead) = true := by decide +kernel
theorem cx_118 : kc_118.all (okX 8 false) = true := by decide +kernel
theorem ck_119 : kc_119.all (okE cX8_hasGreaterOdds) = true := by decide +kernel
theorem cx_119 : kc_119.all (okX 8 false) = true := by decide +kernel
theorem ck_120 : kc_120.all (okE cX8_isGreater) = true := by decide +kernel
theorem cx_120 : kc_120.all (okX 8 false) = true := by decide +kernel
theorem ck_121 : kc_121.all (okE cX8_walk) = true := by decide +kernel
theorem cx_121 : kc_121.all (okX 8 false) = true := by decide +kernel
theorem ck_122 : kc_122.all (okE cX8_leans) = true := by decide +kernel
theorem cx_122 : kc_122.all (okX 8 false) = true := by decide +kernel
theorem ck_123 : kc_123.all (okE cX8_isLeaning) = true := by decide +kernel
theorem cx_123 : kc_123.all (okX 8 false) = true := by decide +kernel
theorem ck_124 : kc_124.all (okE cX8_lean) = true := by decide +kernel
theorem cx_124 : kc_124.all (okX 8 false) = true := by decide +kernel
theorem ck_125 : kc_125.all (okE cX8_village) = true := by decide +kernel
theorem cx_125 : kc_125.all (okX 8 false) = true := by decide +kernel
theorem ck_126 : kc_126.all (okE cX8_count) = true := by decide +kernel
theorem cx_126 : kc_126.all (okX 8 false) = true := by decide +kernel
theorem ck_127 : kc_127.all (okE cX8_countRows) = true := by decide +kernel
theorem cx_127 : kc_127.all (okX 8 false) = true := by decide +kernel
theorem ck_128 : kc_128.all (okE cX8_keep) = true := by decide +kernel
theorem cx_128 : kc_128.all (okX 8 false) = true := by decide +kernel
theorem ck_129 : kc_129.all (okE cX8_back) = true := by decide +kernel
theorem cx_129 : kc_129.all (okX 8 false) = true := by decide +kernel
theorem ck_130 : kc_130.all (okE cX8_row) = true := by decide +kernel
theorem cx_130 : kc_130.all (okX 8 false) = true := by decide +kernel
theorem ck_131 : kc_131.all (okE cX8_write) = true := by decide +kernel
theorem cx_131 : kc_131.all (okX 8 false) = true := by decide +kernel
theorem ck_132 : kc_132.all (okE cX8_paste) = true := by decide +kernel
theorem cx_132 : kc_132.all (okX 8 false) = true := by decide +kernel
theorem ck_133 : kc_133.all (okE cX8_hasVillage) = true := by decide +kernel
theorem cx_133 : kc_133.all (okX 8 false) = true := by decide +kernel
theorem ck_134 : kc_134.all (okE cX8_hasItem) = true := by decide +kernel
theorem cx_134 : kc_134.all (okX 8 false) = true := by decide +kernel
theorem ck_135 : kc_135.all (okE cX8_hasVariant) = true := by decide +kernel
theorem cx_135 : kc_135.all (okX 8 false) = true := by decide +kernel
theorem ck_136 : kc_136.all (okE cX8_isYear) = true := by decide +kernel
theorem cx_136 : kc_136.all (okX 8 false) = true := by decide +kernel
theorem ck_137 : kc_137.all (okE cX8_isAsker) = true := by decide +kernel
theorem cx_137 : kc_137.all (okX 8 false) = true := by decide +kernel
theorem ck_138 : kc_138.all (okE cX8_isSlot) = true := by decide +kernel
theorem cx_138 : kc_138.all (okX 8 false) = true := by decide +kernel
theorem ck_139 : kc_139.all (okE cX8_reachesYear) = true := by decide +kernel
theorem cx_139 : kc_139.all (okX 8 false) = true := by decide +kernel
theorem ck_140 : kc_140.all (okE cX8_reachesItem) = true := by decide +kernel
theorem cx_140 : kc_140.all (okX 8 false) = true := by decide +kernel
theorem ck_141 : kc_141.all (okE cX9_in) = true := by decide +kernel
theorem cx_141 : kc_141.all (okX 9 false) = true := by decide +kernel
theorem ck_142 : kc_142.all (okE cX9_ones) = true := by decide +kernel
theorem cx_142 : kc_142.all (okX 9 false) = true := by decide +kernel
theorem ck_143 : kc_143.all (okE cX9_isYear) = true := by decide +kernel
theorem cx_143 : kc_143.all (okX 9 false) = true := by decide +kernel
theorem ck_144 : kc_144.all (okE cX9_init) = true := by decide +kernel
theorem cx_144 : kc_144.all (okX 9 true) = true := by decide +kernel
theorem ck_145 : kc_145.all (okE cX9_keep) = true := by decide +kernel
theorem cx_145 : kc_145.all (okX 9 false) = true := by decide +kernel
theorem ck_146 : kc_146.all (okE cX9_back) = true := by decide +kernel
theorem cx_146 : kc_146.all (okX 9 false) = true := by decide +kernel
theorem ck_147 : kc_147.all (okE cX9_ofVillage) = true := by decide +kernel
theorem cx_147 : kc_147.all (okX 9 false) = true := by decide +kernel
theorem ck_148 : kc_148.all (okE cX9_ofRoad) = true := by decide +kernel
theorem cx_148 : kc_148.all (okX 9 false) = true := by decide +kernel
theorem ck_149 : kc_149.all (okE cX9_ofItem) = true := by decide +kernel
theorem cx_149 : kc_149.all (okX 9 false) = true := by decide +kernel
theorem ck_150 : kc_150.all (okE cX9_ofLaw) = true := by decide +kernel
theorem cx_150 : kc_150.all (okX 9 false) = true := by decide +kernel
theorem ck_151 : kc_151.all (okE cX9_isVillage) = true := by decide +kernel
theorem cx_151 : kc_151.all (okX 9 false) = true := by decide +kernel
theorem ck_152 : kc_152.all (okE cX9_isItem) = true := by decide +kernel
theorem cx_152 : kc_152.all (okX 9 false) = true := by decide +kernel
theorem ck_153 : kc_153.all (okE cX9_isRoad) = true := by decide +kernel
theorem cx_153 : kc_153.all (okX 9 false) = true := by decide +kernel
theorem ck_154 : kc_154.all (okE cX9_isVariant) = true := by decide +kernel
theorem cx_154 : kc_154.all (okX 9 false) = true := by decide +kernel
theorem ck_155 : kc_155.all (okE cX9_feed) = true := by decide +kernel
theorem cx_155 : kc_155.all (okX 9 false) = true := by decide +kernel
theorem ck_156 : kc_156.all (okE cX9_end) = true := by decide +kernel
theorem cx_156 : kc_156.all (okX 9 false) = true := by decide +kernel
theorem ck_157 : kc_157.all (okE cX9_see) = true := by decide +kernel
theorem cx_157 : kc_157.all (okX 9 false) = true := by decide +kernel
theorem ck_158 : kc_158.all (okE cX9_advance) = true := by decide +kernel
theorem cx_158 : kc_158.all (okX 9 false) = true := by decide +kernel
theorem ck_159 : kc_159.all (okE cX9_good) = true := by decide +kernel
theorem cx_159 : kc_159.all (okX 9 false) = true := by decide +kernel
theorem ck_160 : kc_160.all (okE cX9_errs) = true := by decide +kernel
theorem cx_160 : kc_160.all (okX 9 false) = true := by decide +kernel
theorem ck_161 : kc_161.all (okE cX9_is) = true := by decide +kernel
theorem cx_161 : kc_161.all (okX 9 false) = true := by decide +kernel
theorem ck_162 : kc_162.all (okE cX9_takes) = true := by decide +kernel
theorem cx_162 : kc_162.all (okX 9 false) = true := by decide +kernel
theorem ck_163 : kc_163.all (okE cX9_needs) = true := by decide +kernel
theorem cx_163 : kc_163.all (okX 9 false) = true := by decide +kernel
theorem ck_164 : kc_164.all (okE cX9_number) = true := by decide +kernel
theorem cx_164 : kc_164.all (okX 9 false) = true := by decide +kernel
theorem ck_165 : kc_165.all (okE cX9_fault) = true := by decide +kernel
theorem cx_165 : kc_165.all (okX 9 false) = true := by decide +kernel
theorem ck_166 : kc_166.all (okE cX9_readRoad) = true := by decide +kernel
theorem cx_166 : kc_166.all (okX 9 false) = true := by decide +kernel
theorem ck_167 : kc_167.all (okE cX9_readItem) = true := by decide +kernel
theorem cx_167 : kc_167.all (okX 9 false) = true := by decide +kernel
theorem ck_168 : kc_168.all (okE cX9_readSays) = true := by decide +kernel
theorem cx_168 : kc_168.all (okX 9 false) = true := by decide +kernel
theorem ck_169 : kc_169.all (okE cX9_readPart) = true := by decide +kernel
theorem cx_169 : kc_169.all (okX 9 false) = true := by decide +kernel
theorem ck_170 : kc_170.all (okE cX9_readSum) = true := by decide +kernel
theorem cx_170 : kc_170.all (okX 9 false) = true := by decide +kernel
theorem ck_171 : kc_171.all (okE cX9_readLaw) = true := by decide +kernel
theorem cx_171 : kc_171.all (okX 9 false) = true := by decide +kernel
theorem ck_172 : kc_172.all (okE cX9_readLine) = true := by decide +kernel
theorem cx_172 : kc_172.all (okX 9 false) = true := by decide +kernel
theorem ck_173 : kc_173.all (okE cX9_land) = true := by decide +kernel
theorem cx_173 : kc_173.all (okX 9 false) = true := by decide +kernel
theorem ck_174 : kc_174.all (okE cX9_cell) = true := by decide +kernel
theorem cx_174 : kc_174.all (okX 9 false) = true := by decide +kernel
theorem ck_175 : kc_175.all (okE cX9_otherBy) = true := by decide +kernel
theorem cx_175 : kc_175.all (okX 9 false) = true := by decide +kernel
theorem ck_176 : kc_176.all (okE cX9_nearBy) = true := by decide +kernel
theorem cx_176 : kc_176.all (okX 9 false) = true := by decide +kernel
theorem ck_177 : kc_177.all (okE cX9_partOf) = true := by decide +kernel
theorem cx_177 : kc_177.all (okX 9 false) = true := by decide +kernel
theorem ck_178 : kc_178.all (okE cX9_holds) = true := by decide +kernel
theorem cx_178 : kc_178.all (okX 9 false) = true := by decide +kernel
theorem ck_179 : kc_179.all (okE cX9_lawFor) = true := by decide +kernel
theorem cx_179 : kc_179.all (okX 9 false) = true := by decide +kernel
theorem ck_180 : kc_180.all (okE cX9_lay) = true := by decide +kernel
theorem cx_180 : kc_180.all (okX 9 false) = true := by decide +kernel
theorem ck_181 : kc_181.all (okE cX9_saidIn) = true := by decide +kernel
theorem cx_181 : kc_181.all (okX 9 false) = true := by decide +kernel
theorem ck_182 : kc_182.all (okE cX9_says) = true := by decide +kernel
theorem cx_182 : kc_182.all (okX 9 false) = true := by decide +kernel
theorem ck_183 : kc_183.all (okE cX9_turned) = true := by decide +kernel
theorem cx_183 : kc_183.all (okX 9 false) = true := by decide +kernel
theorem ck_184 : kc_184.all (okE cX9_isLine) = true := by decide +kernel
theorem cx_184 : kc_184.all (okX 9 false) = true := by decide +kernel
theorem ck_185 : kc_185.all (okE cX9_linesOf) = true := by decide +kernel
theorem cx_185 : kc_185.all (okX 9 false) = true := by decide +kernel
theorem ck_186 : kc_186.all (okE cX9_lines) = true := by decide +kernel
theorem cx_186 : kc_186.all (okX 9 false) = true := by decide +kernel
theorem ck_187 : kc_187.all (okE cX9_bundleOf) = true := by decide +kernel
theorem cx_187 : kc_187.all (okX 9 false) = true := by decide +kernel
theorem ck_188 : kc_188.all (okE cX9_bundle) = true := by decide +kernel
theorem cx_188 : kc_188.all (okX 9 false) = true := by decide +kernel
theorem ck_189 : kc_189.all (okE cX9_thick) = true := by decide +kernel
theorem cx_189 : kc_189.all (okX 9 false) = true := by decide +kernel
theorem ck_190 : kc_190.all (okE cX9_crossed) = true := by decide +kernel
theorem cx_190 : kc_190.all (okX 9 false) = true := by decide +kernel
theorem ck_191 : kc_191.all (okE cX9_measures) = true := by decide +kernel
theorem cx_191 : kc_191.all (okX 9 false) = true := by decide +kernel
theorem ck_192 : kc_192.all (okE cX9_areas) = true := by decide +kernel
theorem cx_192 : kc_192.all (okX 9 false) = true := by decide +kernel
theorem ck_193 : kc_193.all (okE cX9_area) = true := by decide +kernel
theorem cx_193 : kc_193.all (okX 9 false) = true := by decide +kernel
theorem ck_194 : kc_194.all (okE cX9_moved) = true := by decide +kernel
theorem cx_194 : kc_194.all (okX 9 false) = true := by decide +kernel
theorem ck_195 : kc_195.all (okE cX9_still) = true := by decide +kernel
theorem cx_195 : kc_195.all (okX 9 false) = true := by decide +kernel
theorem ck_196 : kc_196.all (okE cX9_ways) = true := by decide +kernel
theorem cx_196 : kc_196.all (okX 9 false) = true := by decide +kernel
theorem ck_197 : kc_197.all (okE cX9_river) = true := by decide +kernel
theorem cx_197 : kc_197.all (okX 9 false) = true := by decide +kernel
theorem ck_198 : kc_198.all (okE cX9_areTold) = true := by decide +kernel
theorem cx_198 : kc_198.all (okX 9 false) = true := by decide +kernel
theorem ck_199 : kc_199.all (okE cX9_tellsAll) = true := by decide +kernel
theorem cx_199 : kc_199.all (okX 9 false) = true := by decide +kernel
theorem ck_200 : kc_200.all (okE cX9_fewest) = true := by decide +kernel
theorem cx_200 : kc_200.all (okX 9 false) = true := by decide +kernel
theorem ck_201 : kc_201.all (okE cX9_tells) = true := by decide +kernel
theorem cx_201 : kc_201.all (okX 9 false) = true := by decide +kernel
theorem ck_202 : kc_202.all (okE cX9_alone) = true := by decide +kernel
theorem cx_202 : kc_202.all (okX 9 false) = true := by decide +kernel
theorem ck_203 : kc_203.all (okE cX9_isHeard) = true := by decide +kernel
theorem cx_203 : kc_203.all (okX 9 false) = true := by decide +kernel
theorem ck_204 : kc_204.all (okE cX9_heardMany) = true := by decide +kernel
theorem cx_204 : kc_204.all (okX 9 false) = true := by decide +kernel
theorem ck_205 : kc_205.all (okE cX9_hear) = true := by decide +kernel
theorem cx_205 : kc_205.all (okX 9 false) = true := by decide +kernel
theorem ck_206 : kc_206.all (okE cX9_hears) = true := by decide +kernel
theorem cx_206 : kc_206.all (okX 9 false) = true := by decide +kernel
theorem ck_207 : kc_207.all (okE cX9_mute) = true := by decide +kernel
theorem cx_207 : kc_207.all (okX 9 false) = true := by decide +kernel
theorem ck_208 : kc_208.all (okE cX9_heard) = true := by decide +kernel
theorem cx_208 : kc_208.all (okX 9 false) = true := by decide +kernel
theorem ck_209 : kc_209.all (okE cX9_fitsOne) = true := by decide +kernel
theorem cx_209 : kc_209.all (okX 9 false) = true := by decide +kernel
theorem ck_210 : kc_210.all (okE cX9_fitsOf) = true := by decide +kernel
theorem cx_210 : kc_210.all (okX 9 false) = true := by decide +kernel
theorem ck_211 : kc_211.all (okE cX9_fits) = true := by decide +kernel
theorem cx_211 : kc_211.all (okX 9 false) = true := by decide +kernel
theorem ck_212 : kc_212.all (okE cX9_wholeOf) = true := by decide +kernel
theorem cx_212 : kc_212.all (okX 9 false) = true := by decide +kernel
theorem ck_213 : kc_213.all (okE cX9_whole) = true := by decide +kernel
theorem cx_213 : kc_213.all (okX 9 false) = true := by decide +kernel
theorem ck_214 : kc_214.all (okE cX9_from) = true := by decide +kernel
theorem cx_214 : kc_214.all (okX 9 false) = true := by decide +kernel
theorem ck_215 : kc_215.all (okE cX9_next) = true := by decide +kernel
theorem cx_215 : kc_215.all (okX 9 false) = true := by decide +kernel
theorem ck_216 : kc_216.all (okE cX9_two) = true := by decide +kernel
theorem cx_216 : kc_216.all (okX 9 false) = true := by decide +kernel
theorem ck_217 : kc_217.all (okE cX9_nowhere) = true := by decide +kernel
theorem cx_217 : kc_217.all (okX 9 false) = true := by decide +kernel
theorem ck_218 : kc_218.all (okE cX9_notesOf) = true := by decide +kernel
theorem cx_218 : kc_218.all (okX 9 false) = true := by decide +kernel
theorem ck_219 : kc_219.all (okE cX9_notesAll) = true := by decide +kernel
theorem cx_219 : kc_219.all (okX 9 false) = true := by decide +kernel
theorem ck_220 : kc_220.all (okE cX9_note) = true := by decide +kernel
theorem cx_220 : kc_220.all (okX 9 false) = true := by decide +kernel
theorem ck_221 : kc_221.all (okE cX9_noted) = true := by decide +kernel
theorem cx_221 : kc_221.all (okX 9 false) = true := by decide +kernel
theorem ck_222 : kc_222.all (okE cX9_mostlyOf) = true := by decide +kernel
theorem cx_222 : kc_222.all (okX 9 false) = true := by decide +kernel
theorem ck_223 : kc_223.all (okE cX9_mostly) = true := by decide +kernel
theorem cx_223 : kc_223.all (okX 9 false) = true := by decide +kernel
theorem ck_224 : kc_224.all (okE cX9_off) = true := by decide +kernel
theorem cx_224 : kc_224.all (okX 9 false) = true := by decide +kernel
theorem ck_225 : kc_225.all (okE cX9_oddsOf) = true := by decide +kernel
theorem cx_225 : kc_225.all (okX 9 false) = true := by decide +kernel
theorem ck_226 : kc_226.all (okE cX9_odds) = true := by decide +kernel
theorem cx_226 : kc_226.all (okX 9 false) = true := by decide +kernel
theorem ck_227 : kc_227.all (okE cX9_compare) = true := by decide +kernel
theorem cx_227 : kc_227.all (okX 9 false) = true := by decide +kernel
theorem ck_228 : kc_228.all (okE cX9_isAhead) = true := by decide +kernel
theorem cx_228 : kc_228.all (okX 9 false) = true := by decide +kernel
theorem ck_229 : kc_229.all (okE cX9_likely) = true := by decide +kernel
theorem cx_229 : kc_229.all (okX 9 false) = true := by decide +kernel
theorem ck_230 : kc_230.all (okE cX9_ahead) = true := by decide +kernel
theorem cx_230 : kc_230.all (okX 9 false) = true := by decide +kernel
theorem ck_231 : kc_231.all (okE cX9_walk) = true := by decide +kernel
theorem cx_231 : kc_231.all (okX 9 false) = true := by decide +kernel
theorem ck_232 : kc_232.all (okE cX9_leansIn) = true := by decide +kernel
theorem cx_232 : kc_232.all (okX 9 false) = true := by decide +kernel
theorem ck_233 : kc_233.all (okE cX9_isAsker) = true := by decide +kernel
theorem cx_233 : kc_233.all (okX 9 false) = true := by decide +kernel
theorem ck_234 : kc_234.all (okE cX9_leans) = true := by decide +kernel
theorem cx_234 : kc_234.all (okX 9 false) = true := by decide +kernel
theorem ck_235 : kc_235.all (okE cX9_lean) = true := by decide +kernel
theorem cx_235 : kc_235.all (okX 9 false) = true := by decide +kernel
theorem ck_236 : kc_236.all (okE cX9_village) = true := by decide +kernel
theorem cx_236 : kc_236.all (okX 9 false) = true := by decide +kernel
theorem ck_237 : kc_237.all (okE cX9_count) = true := by decide +kernel
theorem cx_237 : kc_237.all (okX 9 false) = true := by decide +kernel
theorem ck_238 : kc_238.all (okE cX9_isSlot) = true := by decide +kernel
theorem cx_238 : kc_238.all (okX 9 false) = true := by decide +kernel
theorem ck_239 : kc_239.all (okE cX9_cut) = true := by decide +kernel
theorem cx_239 : kc_239.all (okX 9 false) = true := by decide +kernel
theorem ck_240 : kc_240.all (okE cX9_row) = true := by decide +kernel
theorem cx_240 : kc_240.all (okX 9 false) = true := by decide +kernel
theorem ck_241 : kc_241.all (okE cX9_write) = true := by decide +kernel
theorem cx_241 : kc_241.all (okX 9 false) = true := by decide +kernel
theorem ck_242 : kc_242.all (okE cX9_paste) = true := by decide +kernel
theorem cx_242 : kc_242.all (okX 9 false) = true := by decide +kernel
theorem ck_243 : kc_243.all (okE cJ6_bitCount_0f7a4) = true := by decide +kernel
theorem cx_243 : kc_243.all (okX 10 false) = true := by decide +kernel
theorem ck_244_0 : kc_244_0.all (okE cL_law) = true := by decide +kernel
theorem cx_244_0 : kc_244_0.all (okX 11 false) = true := by decide +kernel
theorem ck_244_1 : kc_244_1.all (okE cL_law) = true := by decide +kernel
theorem cx_244_1 : kc_244_1.all (okX 11 false) = true := by decide +kernel
theorem ck_244_2 : kc_244_2.all (okE cL_law) = true := by decide +kernel
theorem cx_244_2 : kc_244_2.all (okX 11 false) = true := by decide +kernel
theorem ck_244_3 : kc_244_3.all (okE cL_law) = true := by decide +kernel
theorem cx_244_3 : kc_244_3.all (okX 11 false) = true := by decide +kernel
theorem ck_244_4 : kc_244_4.all (okE cL_law) = true := by decide +kernel
theorem cx_244_4 : kc_244_4.all (okX 11 false) = true := by decide +kernel
theorem ck_244_5 : kc_244_5.all (okE cL_law) = true := by decide +kernel
theorem cx_244_5 : kc_244_5.all (okX 11 false) = true := by decide +kernel
theorem ck_244_6 : kc_244_6.all (okE cL_law) = true := by decide +kernel
theorem cx_244_6 : kc_244_6.all (okX 11 false) = true := by decide +kernel
theorem ck_244_7 : kc_244_7.all (okE cL_law) = true := by decide +kernel
theorem cx_244_7 : kc_244_7.all (okX 11 false) = true := by decide +kernel
theorem ck_244_8 : kc_244_8.all (okE cL_law) = true := by decide +kernel
theorem cx_244_8 : kc_244_8.all (okX 11 false) = true := by decide +kernel
theorem ck_244 : kc_244.all (okE cL_law) = true := by
  unfold kc_244
  simp only [List.all_append, Bool.and_eq_true]
  exact ⟨ck_244_0, ck_244_1, ck_244_2, ck_244_3, ck_244_4, ck_244_5, ck_244_6, ck_244_7, ck_244_8⟩
theorem cx_244 : kc_244.all (okX 11 false) = true := by
  unfold kc_244
  simp only [List.all_append, Bool.and_eq_true]
  exact ⟨cx_244_0, cx_244_1, cx_244_2, cx_244_3, cx_244_4, cx_244_5, cx_244_6, cx_244_7, cx_244_8⟩

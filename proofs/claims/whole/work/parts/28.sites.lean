/-! methods, sites, constants: what the rows of E ask (by program) -/
theorem mb_0 : mBytes 0 = cX11_init := rfl
theorem mo_0 : mOwn 0 = 11 := rfl
theorem mb_1 : mBytes 1 = cX11_days := rfl
theorem mo_1 : mOwn 1 = 11 := rfl
theorem mb_2 : mBytes 2 = cX11_feed := rfl
theorem mo_2 : mOwn 2 = 11 := rfl
theorem mb_3 : mBytes 3 = cX11_rule := rfl
theorem mo_3 : mOwn 3 = 11 := rfl
theorem mb_4 : mBytes 4 = cX11_strike := rfl
theorem mo_4 : mOwn 4 = 11 := rfl
theorem mb_5 : mBytes 5 = cX11_fall := rfl
theorem mo_5 : mOwn 5 = 11 := rfl
theorem mb_6 : mBytes 6 = cX11_ruleOf := rfl
theorem mo_6 : mOwn 6 = 11 := rfl
theorem mb_7 : mBytes 7 = cX11_fits := rfl
theorem mo_7 : mOwn 7 = 11 := rfl
theorem mb_8 : mBytes 8 = cX11_answer := rfl
theorem mo_8 : mOwn 8 = 11 := rfl
theorem mb_9 : mBytes 9 = cX11_why := rfl
theorem mo_9 : mOwn 9 = 11 := rfl
theorem mb_10 : mBytes 10 = cX11_district := rfl
theorem mo_10 : mOwn 10 = 11 := rfl
theorem mb_11 : mBytes 11 = cX11_carried := rfl
theorem mo_11 : mOwn 11 = 11 := rfl
theorem mb_12 : mBytes 12 = cX11_law := rfl
theorem mo_12 : mOwn 12 = 11 := rfl
theorem mb_13 : mBytes 13 = cX11_deed := rfl
theorem mo_13 : mOwn 13 = 11 := rfl
theorem mb_14 : mBytes 14 = cX11_deedEnd := rfl
theorem mo_14 : mOwn 14 = 11 := rfl
theorem mb_15 : mBytes 15 = cX11_lost := rfl
theorem mo_15 : mOwn 15 = 11 := rfl
theorem mb_16 : mBytes 16 = cX11_courts := rfl
theorem mo_16 : mOwn 16 = 11 := rfl
theorem mb_17 : mBytes 17 = cX11_court := rfl
theorem mo_17 : mOwn 17 = 11 := rfl
theorem mb_18 : mBytes 18 = cX11_unlike := rfl
theorem mo_18 : mOwn 18 = 11 := rfl
theorem mb_19 : mBytes 19 = cX11_wrong := rfl
theorem mo_19 : mOwn 19 = 11 := rfl
theorem mb_20 : mBytes 20 = cX11_heard := rfl
theorem mo_20 : mOwn 20 = 11 := rfl
theorem mb_21 : mBytes 21 = cX11_read := rfl
theorem mo_21 : mOwn 21 = 11 := rfl
theorem mb_22 : mBytes 22 = cX11_left := rfl
theorem mo_22 : mOwn 22 = 11 := rfl
theorem mb_23 : mBytes 23 = cX11_form := rfl
theorem mo_23 : mOwn 23 = 11 := rfl
theorem mb_24 : mBytes 24 = cX11_parts := rfl
theorem mo_24 : mOwn 24 = 11 := rfl
theorem mb_25 : mBytes 25 = cX11_quarrel := rfl
theorem mo_25 : mOwn 25 = 11 := rfl
theorem mb_26 : mBytes 26 = cX11_moves := rfl
theorem mo_26 : mOwn 26 = 11 := rfl
theorem mb_27 : mBytes 27 = cX11_person := rfl
theorem mo_27 : mOwn 27 = 11 := rfl
theorem mb_28 : mBytes 28 = cX11_goes := rfl
theorem mo_28 : mOwn 28 = 11 := rfl
theorem mb_29 : mBytes 29 = cX11_die := rfl
theorem mo_29 : mOwn 29 = 11 := rfl
theorem mb_30 : mBytes 30 = cX11_settle := rfl
theorem mo_30 : mOwn 30 = 11 := rfl
theorem mb_31 : mBytes 31 = cX11_personOf := rfl
theorem mo_31 : mOwn 31 = 11 := rfl
theorem mb_32 : mBytes 32 = cX11_chest := rfl
theorem mo_32 : mOwn 32 = 11 := rfl
theorem mb_33 : mBytes 33 = cX11_way := rfl
theorem mo_33 : mOwn 33 = 11 := rfl
theorem mb_34 : mBytes 34 = cX11_keeps := rfl
theorem mo_34 : mOwn 34 = 11 := rfl
theorem mb_35 : mBytes 35 = cX11_near := rfl
theorem mo_35 : mOwn 35 = 11 := rfl
theorem mb_36 : mBytes 36 = cX11_line := rfl
theorem mo_36 : mOwn 36 = 11 := rfl
theorem mb_37 : mBytes 37 = cX11_section := rfl
theorem mo_37 : mOwn 37 = 11 := rfl
theorem mb_38 : mBytes 38 = cX11_like := rfl
theorem mo_38 : mOwn 38 = 11 := rfl
theorem mb_39 : mBytes 39 = cX11_yes := rfl
theorem mo_39 : mOwn 39 = 11 := rfl
theorem mb_40 : mBytes 40 = cX11_least := rfl
theorem mo_40 : mOwn 40 = 11 := rfl
theorem mb_41 : mBytes 41 = cX11_teach := rfl
theorem mo_41 : mOwn 41 = 11 := rfl
theorem mb_42 : mBytes 42 = cX11_waits := rfl
theorem mo_42 : mOwn 42 = 11 := rfl
theorem mb_43 : mBytes 43 = cX11_taught := rfl
theorem mo_43 : mOwn 43 = 11 := rfl
theorem mb_44 : mBytes 44 = cX11_act := rfl
theorem mo_44 : mOwn 44 = 11 := rfl
theorem mb_45 : mBytes 45 = cX11_trace := rfl
theorem mo_45 : mOwn 45 = 11 := rfl
theorem mb_46 : mBytes 46 = cX11_taken := rfl
theorem mo_46 : mOwn 46 = 11 := rfl
theorem mb_47 : mBytes 47 = cX11_count := rfl
theorem mo_47 : mOwn 47 = 11 := rfl
theorem mb_48 : mBytes 48 = cX11_sheet := rfl
theorem mo_48 : mOwn 48 = 11 := rfl
theorem mb_49 : mBytes 49 = cX11_cell := rfl
theorem mo_49 : mOwn 49 = 11 := rfl
theorem mb_50 : mBytes 50 = cX11_copy := rfl
theorem mo_50 : mOwn 50 = 11 := rfl
theorem mb_51 : mBytes 51 = cX11_casesMoved := rfl
theorem mo_51 : mOwn 51 = 11 := rfl
theorem mb_52 : mBytes 52 = cX11_tellOf := rfl
theorem mo_52 : mOwn 52 = 11 := rfl
theorem mb_53 : mBytes 53 = cX11_swap := rfl
theorem mo_53 : mOwn 53 = 11 := rfl
theorem mb_54 : mBytes 54 = cX11_within := rfl
theorem mo_54 : mOwn 54 = 11 := rfl
theorem mb_55 : mBytes 55 = cX11_isSort := rfl
theorem mo_55 : mOwn 55 = 11 := rfl
theorem mb_56 : mBytes 56 = cX11_isEnd := rfl
theorem mo_56 : mOwn 56 = 11 := rfl
theorem mb_57 : mBytes 57 = cX11_isUnder := rfl
theorem mo_57 : mOwn 57 = 11 := rfl
theorem mb_58 : mBytes 58 = cX11_sizeOf := rfl
theorem mo_58 : mOwn 58 = 11 := rfl
theorem mb_59 : mBytes 59 = cX11_fieldOf := rfl
theorem mo_59 : mOwn 59 = 11 := rfl
theorem mb_60 : mBytes 60 = cX11_nameOf := rfl
theorem mo_60 : mOwn 60 = 11 := rfl
theorem mb_61 : mBytes 61 = cX11_isSo := rfl
theorem mo_61 : mOwn 61 = 11 := rfl
theorem mb_62 : mBytes 62 = cX11_rankOf := rfl
theorem mo_62 : mOwn 62 = 11 := rfl
theorem mb_63 : mBytes 63 = cX11_endOf := rfl
theorem mo_63 : mOwn 63 = 11 := rfl
theorem mb_64 : mBytes 64 = cX11_joined := rfl
theorem mo_64 : mOwn 64 = 11 := rfl
theorem mb_65 : mBytes 65 = cX12_init := rfl
theorem mo_65 : mOwn 65 = 12 := rfl
theorem mb_66 : mBytes 66 = cX12_in := rfl
theorem mo_66 : mOwn 66 = 12 := rfl
theorem mb_67 : mBytes 67 = cX12_isSort := rfl
theorem mo_67 : mOwn 67 = 12 := rfl
theorem mb_68 : mBytes 68 = cX12_isRule := rfl
theorem mo_68 : mOwn 68 = 12 := rfl
theorem mb_69 : mBytes 69 = cX12_isDistrict := rfl
theorem mo_69 : mOwn 69 = 12 := rfl
theorem mb_70 : mBytes 70 = cX12_isEnd := rfl
theorem mo_70 : mOwn 70 = 12 := rfl
theorem mb_71 : mBytes 71 = cX12_unit := rfl
theorem mo_71 : mOwn 71 = 12 := rfl
theorem mb_72 : mBytes 72 = cX12_sizeOf := rfl
theorem mo_72 : mOwn 72 = 12 := rfl
theorem mb_73 : mBytes 73 = cX12_field := rfl
theorem mo_73 : mOwn 73 = 12 := rfl
theorem mb_74 : mBytes 74 = cX12_days := rfl
theorem mo_74 : mOwn 74 = 12 := rfl
theorem mb_75 : mBytes 75 = cX12_feed := rfl
theorem mo_75 : mOwn 75 = 12 := rfl
theorem mb_76 : mBytes 76 = cX12_here := rfl
theorem mo_76 : mOwn 76 = 12 := rfl
theorem mb_77 : mBytes 77 = cX12_eats := rfl
theorem mo_77 : mOwn 77 = 12 := rfl
theorem mb_78 : mBytes 78 = cX12_eats4 := rfl
theorem mo_78 : mOwn 78 = 12 := rfl
theorem mb_79 : mBytes 79 = cX12_digit := rfl
theorem mo_79 : mOwn 79 = 12 := rfl
theorem mb_80 : mBytes 80 = cX12_endRead := rfl
theorem mo_80 : mOwn 80 = 12 := rfl
theorem mb_81 : mBytes 81 = cX12_fieldRead := rfl
theorem mo_81 : mOwn 81 = 12 := rfl
theorem mb_82 : mBytes 82 = cX12_testRead := rfl
theorem mo_82 : mOwn 82 = 12 := rfl
theorem mb_83 : mBytes 83 = cX12_read := rfl
theorem mo_83 : mOwn 83 = 12 := rfl
theorem mb_84 : mBytes 84 = cX12_holds := rfl
theorem mo_84 : mOwn 84 = 12 := rfl
theorem mb_85 : mBytes 85 = cX12_fitsText := rfl
theorem mo_85 : mOwn 85 = 12 := rfl
theorem mb_86 : mBytes 86 = cX12_rule := rfl
theorem mo_86 : mOwn 86 = 12 := rfl
theorem mb_87 : mBytes 87 = cX12_strike := rfl
theorem mo_87 : mOwn 87 = 12 := rfl
theorem mb_88 : mBytes 88 = cX12_fall := rfl
theorem mo_88 : mOwn 88 = 12 := rfl
theorem mb_89 : mBytes 89 = cX12_ruleOf := rfl
theorem mo_89 : mOwn 89 = 12 := rfl
theorem mb_90 : mBytes 90 = cX12_fits := rfl
theorem mo_90 : mOwn 90 = 12 := rfl
theorem mb_91 : mBytes 91 = cX12_isInForce := rfl
theorem mo_91 : mOwn 91 = 12 := rfl
theorem mb_92 : mBytes 92 = cX12_answerBy := rfl
theorem mo_92 : mOwn 92 = 12 := rfl
theorem mb_93 : mBytes 93 = cX12_answerOf := rfl
theorem mo_93 : mOwn 93 = 12 := rfl
theorem mb_94 : mBytes 94 = cX12_isAsked := rfl
theorem mo_94 : mOwn 94 = 12 := rfl
theorem mb_95 : mBytes 95 = cX12_answer := rfl
theorem mo_95 : mOwn 95 = 12 := rfl
theorem mb_96 : mBytes 96 = cX12_why := rfl
theorem mo_96 : mOwn 96 = 12 := rfl
theorem mb_97 : mBytes 97 = cX12_district := rfl
theorem mo_97 : mOwn 97 = 12 := rfl
theorem mb_98 : mBytes 98 = cX12_carried := rfl
theorem mo_98 : mOwn 98 = 12 := rfl
theorem mb_99 : mBytes 99 = cX12_isCode := rfl
theorem mo_99 : mOwn 99 = 12 := rfl
theorem mb_100 : mBytes 100 = cX12_lawOf := rfl
theorem mo_100 : mOwn 100 = 12 := rfl
theorem mb_101 : mBytes 101 = cX12_law := rfl
theorem mo_101 : mOwn 101 = 12 := rfl
theorem mb_102 : mBytes 102 = cX12_deed := rfl
theorem mo_102 : mOwn 102 = 12 := rfl
theorem mb_103 : mBytes 103 = cX12_endOf := rfl
theorem mo_103 : mOwn 103 = 12 := rfl
theorem mb_104 : mBytes 104 = cX12_deedEnd := rfl
theorem mo_104 : mOwn 104 = 12 := rfl
theorem mb_105 : mBytes 105 = cX12_lost := rfl
theorem mo_105 : mOwn 105 = 12 := rfl
theorem mb_106 : mBytes 106 = cX12_goes := rfl
theorem mo_106 : mOwn 106 = 12 := rfl
theorem mb_107 : mBytes 107 = cX12_courts := rfl
theorem mo_107 : mOwn 107 = 12 := rfl
theorem mb_108 : mBytes 108 = cX12_court := rfl
theorem mo_108 : mOwn 108 = 12 := rfl
theorem mb_109 : mBytes 109 = cX12_shows := rfl
theorem mo_109 : mOwn 109 = 12 := rfl
theorem mb_110 : mBytes 110 = cX12_many := rfl
theorem mo_110 : mOwn 110 = 12 := rfl
theorem mb_111 : mBytes 111 = cX12_toldOf := rfl
theorem mo_111 : mOwn 111 = 12 := rfl
theorem mb_112 : mBytes 112 = cX12_unlike := rfl
theorem mo_112 : mOwn 112 = 12 := rfl
theorem mb_113 : mBytes 113 = cX12_wrong := rfl
theorem mo_113 : mOwn 113 = 12 := rfl
theorem mb_114 : mBytes 114 = cX12_hears := rfl
theorem mo_114 : mOwn 114 = 12 := rfl
theorem mb_115 : mBytes 115 = cX12_heard := rfl
theorem mo_115 : mOwn 115 = 12 := rfl
theorem mb_116 : mBytes 116 = cX12_read_ := rfl
theorem mo_116 : mOwn 116 = 12 := rfl
theorem mb_117 : mBytes 117 = cX12_formHolds := rfl
theorem mo_117 : mOwn 117 = 12 := rfl
theorem mb_118 : mBytes 118 = cX12_isLeft := rfl
theorem mo_118 : mOwn 118 = 12 := rfl
theorem mb_119 : mBytes 119 = cX12_findLeft := rfl
theorem mo_119 : mOwn 119 = 12 := rfl
theorem mb_120 : mBytes 120 = cX12_left := rfl
theorem mo_120 : mOwn 120 = 12 := rfl
theorem mb_121 : mBytes 121 = cX12_form := rfl
theorem mo_121 : mOwn 121 = 12 := rfl
theorem mb_122 : mBytes 122 = cX12_parts := rfl
theorem mo_122 : mOwn 122 = 12 := rfl
theorem mb_123 : mBytes 123 = cX12_quarrel := rfl
theorem mo_123 : mOwn 123 = 12 := rfl
theorem mb_124 : mBytes 124 = cX12_isUnder := rfl
theorem mo_124 : mOwn 124 = 12 := rfl
theorem mb_125 : mBytes 125 = cX12_moves := rfl
theorem mo_125 : mOwn 125 = 12 := rfl
theorem mb_126 : mBytes 126 = cX12_person := rfl
theorem mo_126 : mOwn 126 = 12 := rfl
theorem mb_127 : mBytes 127 = cX12_isChild := rfl
theorem mo_127 : mOwn 127 = 12 := rfl
theorem mb_128 : mBytes 128 = cX12_childrenOf := rfl
theorem mo_128 : mOwn 128 = 12 := rfl
theorem mb_129 : mBytes 129 = cX12_eldestOf := rfl
theorem mo_129 : mOwn 129 = 12 := rfl
theorem mb_130 : mBytes 130 = cX12_evenly := rfl
theorem mo_130 : mOwn 130 = 12 := rfl
theorem mb_131 : mBytes 131 = cX12_goesBy := rfl
theorem mo_131 : mOwn 131 = 12 := rfl
theorem mb_132 : mBytes 132 = cX12_partsGoods := rfl
theorem mo_132 : mOwn 132 = 12 := rfl
theorem mb_133 : mBytes 133 = cX12_die := rfl
theorem mo_133 : mOwn 133 = 12 := rfl
theorem mb_134 : mBytes 134 = cX12_settle := rfl
theorem mo_134 : mOwn 134 = 12 := rfl
theorem mb_135 : mBytes 135 = cX12_personOf := rfl
theorem mo_135 : mOwn 135 = 12 := rfl
theorem mb_136 : mBytes 136 = cX12_chest := rfl
theorem mo_136 : mOwn 136 = 12 := rfl
theorem mb_137 : mBytes 137 = cX12_way := rfl
theorem mo_137 : mOwn 137 = 12 := rfl
theorem mb_138 : mBytes 138 = cX12_findAnswers := rfl
theorem mo_138 : mOwn 138 = 12 := rfl
theorem mb_139 : mBytes 139 = cX12_keptBy := rfl
theorem mo_139 : mOwn 139 = 12 := rfl
theorem mb_140 : mBytes 140 = cX12_keeps := rfl
theorem mo_140 : mOwn 140 = 12 := rfl
theorem mb_141 : mBytes 141 = cX12_near := rfl
theorem mo_141 : mOwn 141 = 12 := rfl
theorem mb_142 : mBytes 142 = cX12_line := rfl
theorem mo_142 : mOwn 142 = 12 := rfl
theorem mb_143 : mBytes 143 = cX12_section := rfl
theorem mo_143 : mOwn 143 = 12 := rfl
theorem mb_144 : mBytes 144 = cX12_like := rfl
theorem mo_144 : mOwn 144 = 12 := rfl
theorem mb_145 : mBytes 145 = cX12_yesTo := rfl
theorem mo_145 : mOwn 145 = 12 := rfl
theorem mb_146 : mBytes 146 = cX12_yes := rfl
theorem mo_146 : mOwn 146 = 12 := rfl
theorem mb_147 : mBytes 147 = cX12_least := rfl
theorem mo_147 : mOwn 147 = 12 := rfl
theorem mb_148 : mBytes 148 = cX12_goesRound := rfl
theorem mo_148 : mOwn 148 = 12 := rfl
theorem mb_149 : mBytes 149 = cX12_teach := rfl
theorem mo_149 : mOwn 149 = 12 := rfl
theorem mb_150 : mBytes 150 = cX12_mayNext := rfl
theorem mo_150 : mOwn 150 = 12 := rfl
theorem mb_151 : mBytes 151 = cX12_timeOf := rfl
theorem mo_151 : mOwn 151 = 12 := rfl
theorem mb_152 : mBytes 152 = cX12_findRow := rfl
theorem mo_152 : mOwn 152 = 12 := rfl
theorem mb_153 : mBytes 153 = cX12_waits := rfl
theorem mo_153 : mOwn 153 = 12 := rfl
theorem mb_154 : mBytes 154 = cX12_taught := rfl
theorem mo_154 : mOwn 154 = 12 := rfl
theorem mb_155 : mBytes 155 = cX12_runs := rfl
theorem mo_155 : mOwn 155 = 12 := rfl
theorem mb_156 : mBytes 156 = cX12_holds10 := rfl
theorem mo_156 : mOwn 156 = 12 := rfl
theorem mb_157 : mBytes 157 = cX12_actHolds := rfl
theorem mo_157 : mOwn 157 = 12 := rfl
theorem mb_158 : mBytes 158 = cX12_hangs11 := rfl
theorem mo_158 : mOwn 158 = 12 := rfl
theorem mb_159 : mBytes 159 = cX12_hangs20 := rfl
theorem mo_159 : mOwn 159 = 12 := rfl
theorem mb_160 : mBytes 160 = cX12_actHangs := rfl
theorem mo_160 : mOwn 160 = 12 := rfl
theorem mb_161 : mBytes 161 = cX12_saves12 := rfl
theorem mo_161 : mOwn 161 = 12 := rfl
theorem mb_162 : mBytes 162 = cX12_actSaves := rfl
theorem mo_162 : mOwn 162 = 12 := rfl
theorem mb_163 : mBytes 163 = cX12_act := rfl
theorem mo_163 : mOwn 163 = 12 := rfl
theorem mb_164 : mBytes 164 = cX12_trace := rfl
theorem mo_164 : mOwn 164 = 12 := rfl
theorem mb_165 : mBytes 165 = cX12_above := rfl
theorem mo_165 : mOwn 165 = 12 := rfl
theorem mb_166 : mBytes 166 = cX12_taken := rfl
theorem mo_166 : mOwn 166 = 12 := rfl
theorem mb_167 : mBytes 167 = cX12_count := rfl
theorem mo_167 : mOwn 167 = 12 := rfl
theorem mb_168 : mBytes 168 = cX12_sheet := rfl
theorem mo_168 : mOwn 168 = 12 := rfl
theorem mb_169 : mBytes 169 = cX12_cell := rfl
theorem mo_169 : mOwn 169 = 12 := rfl
theorem mb_170 : mBytes 170 = cX12_copy := rfl
theorem mo_170 : mOwn 170 = 12 := rfl
theorem mb_171 : mBytes 171 = cX0_init := rfl
theorem mo_171 : mOwn 171 = 0 := rfl
theorem mb_172 : mBytes 172 = cX0_isFull := rfl
theorem mo_172 : mOwn 172 = 0 := rfl
theorem mb_173 : mBytes 173 = cX0_add := rfl
theorem mo_173 : mOwn 173 = 0 := rfl
theorem mb_174 : mBytes 174 = cX0_formsLeft := rfl
theorem mo_174 : mOwn 174 = 0 := rfl
theorem mb_175 : mBytes 175 = cX0_formLeft := rfl
theorem mo_175 : mOwn 175 = 0 := rfl
theorem mb_176 : mBytes 176 = cX0_bestParting := rfl
theorem mo_176 : mOwn 176 = 0 := rfl
theorem mb_177 : mBytes 177 = cX0_lesserPart := rfl
theorem mo_177 : mOwn 177 = 0 := rfl
theorem mb_178 : mBytes 178 = cX0_firstInQuarrel := rfl
theorem mo_178 : mOwn 178 = 0 := rfl
theorem mb_179 : mBytes 179 = cX0_rival := rfl
theorem mo_179 : mOwn 179 = 0 := rfl
theorem mb_180 : mBytes 180 = cX0_countHolding := rfl
theorem mo_180 : mOwn 180 = 0 := rfl
theorem mb_181 : mBytes 181 = cX0_countHoldingOf := rfl
theorem mo_181 : mOwn 181 = 0 := rfl
theorem mb_182 : mBytes 182 = cX0_isLeft := rfl
theorem mo_182 : mOwn 182 = 0 := rfl
theorem mb_183 : mBytes 183 = cX1_init := rfl
theorem mo_183 : mOwn 183 = 1 := rfl
theorem mb_184 : mBytes 184 = cX1_has := rfl
theorem mo_184 : mOwn 184 = 1 := rfl
theorem mb_185 : mBytes 185 = cX1_isFull := rfl
theorem mo_185 : mOwn 185 = 1 := rfl
theorem mb_186 : mBytes 186 = cX1_add := rfl
theorem mo_186 : mOwn 186 = 1 := rfl
theorem mb_187 : mBytes 187 = cX1_hasCode := rfl
theorem mo_187 : mOwn 187 = 1 := rfl
theorem mb_188 : mBytes 188 = cX1_isUnder := rfl
theorem mo_188 : mOwn 188 = 1 := rfl
theorem mb_189 : mBytes 189 = cX1_peopleUnder := rfl
theorem mo_189 : mOwn 189 = 1 := rfl
theorem mb_190 : mBytes 190 = cX1_peopleOf := rfl
theorem mo_190 : mOwn 190 = 1 := rfl
theorem mb_191 : mBytes 191 = cX1_lawOf := rfl
theorem mo_191 : mOwn 191 = 1 := rfl
theorem mb_192 : mBytes 192 = cX1_allChests := rfl
theorem mo_192 : mOwn 192 = 1 := rfl
theorem mb_193 : mBytes 193 = cX1_hasDeed := rfl
theorem mo_193 : mOwn 193 = 1 := rfl
theorem mb_194 : mBytes 194 = cX1_isFullOfDeeds := rfl
theorem mo_194 : mOwn 194 = 1 := rfl
theorem mb_195 : mBytes 195 = cX1_addDeed := rfl
theorem mo_195 : mOwn 195 = 1 := rfl
theorem mb_196 : mBytes 196 = cX1_isLost := rfl
theorem mo_196 : mOwn 196 = 1 := rfl
theorem mb_197 : mBytes 197 = cX2_init := rfl
theorem mo_197 : mOwn 197 = 2 := rfl
theorem mb_198 : mBytes 198 = cX2_goesRound := rfl
theorem mo_198 : mOwn 198 = 2 := rfl
theorem mb_199 : mBytes 199 = cX2_leastWaiting := rfl
theorem mo_199 : mOwn 199 = 2 := rfl
theorem mb_200 : mBytes 200 = cX2_taughtAt := rfl
theorem mo_200 : mOwn 200 = 2 := rfl
theorem mb_201 : mBytes 201 = cX2_nextTaught := rfl
theorem mo_201 : mOwn 201 = 2 := rfl
theorem mb_202 : mBytes 202 = cX2_mayFollow := rfl
theorem mo_202 : mOwn 202 = 2 := rfl
theorem mb_203 : mBytes 203 = cX2_waitsIfNext := rfl
theorem mo_203 : mOwn 203 = 2 := rfl
theorem mb_204 : mBytes 204 = cX3_init := rfl
theorem mo_204 : mOwn 204 = 3 := rfl
theorem mb_205 : mBytes 205 = cX3_has := rfl
theorem mo_205 : mOwn 205 = 3 := rfl
theorem mb_206 : mBytes 206 = cX3_isFull := rfl
theorem mo_206 : mOwn 206 = 3 := rfl
theorem mb_207 : mBytes 207 = cX3_add := rfl
theorem mo_207 : mOwn 207 = 3 := rfl
theorem mb_208 : mBytes 208 = cX3_lives := rfl
theorem mo_208 : mOwn 208 = 3 := rfl
theorem mb_209 : mBytes 209 = cX3_isQuarrelled := rfl
theorem mo_209 : mOwn 209 = 3 := rfl
theorem mb_210 : mBytes 210 = cX3_inState := rfl
theorem mo_210 : mOwn 210 = 3 := rfl
theorem mb_211 : mBytes 211 = cX3_allCoins := rfl
theorem mo_211 : mOwn 211 = 3 := rfl
theorem mb_212 : mBytes 212 = cX3_livingChildren := rfl
theorem mo_212 : mOwn 212 = 3 := rfl
theorem mb_213 : mBytes 213 = cX3_bury := rfl
theorem mo_213 : mOwn 213 = 3 := rfl
theorem mb_214 : mBytes 214 = cX3_endQuarrel := rfl
theorem mo_214 : mOwn 214 = 3 := rfl
theorem mb_215 : mBytes 215 = cX3_sortOf := rfl
theorem mo_215 : mOwn 215 = 3 := rfl
theorem mb_216 : mBytes 216 = cX3_partCoins := rfl
theorem mo_216 : mOwn 216 = 3 := rfl
theorem mb_217 : mBytes 217 = cX3_goByWay := rfl
theorem mo_217 : mOwn 217 = 3 := rfl
theorem mb_218 : mBytes 218 = cX3_eldestLiving := rfl
theorem mo_218 : mOwn 218 = 3 := rfl
theorem mb_219 : mBytes 219 = cX3_isHeir := rfl
theorem mo_219 : mOwn 219 = 3 := rfl
theorem mb_220 : mBytes 220 = cX3_toOne := rfl
theorem mo_220 : mOwn 220 = 3 := rfl
theorem mb_221 : mBytes 221 = cX3_toChildren := rfl
theorem mo_221 : mOwn 221 = 3 := rfl
theorem mb_222 : mBytes 222 = cX3_toChest := rfl
theorem mo_222 : mOwn 222 = 3 := rfl
theorem mb_223 : mBytes 223 = cX4_init := rfl
theorem mo_223 : mOwn 223 = 4 := rfl
theorem mb_224 : mBytes 224 = cX4_group := rfl
theorem mo_224 : mOwn 224 = 4 := rfl
theorem mb_225 : mBytes 225 = cX4_struckOnce := rfl
theorem mo_225 : mOwn 225 = 4 := rfl
theorem mb_226 : mBytes 226 = cX4_standing := rfl
theorem mo_226 : mOwn 226 = 4 := rfl
theorem mb_227 : mBytes 227 = cX4_loseWitness := rfl
theorem mo_227 : mOwn 227 = 4 := rfl
theorem mb_228 : mBytes 228 = cX4_isInForce := rfl
theorem mo_228 : mOwn 228 = 4 := rfl
theorem mb_229 : mBytes 229 = cX4_standingAsKnown := rfl
theorem mo_229 : mOwn 229 = 4 := rfl
theorem mb_230 : mBytes 230 = cX5_init := rfl
theorem mo_230 : mOwn 230 = 5 := rfl
theorem mb_231 : mBytes 231 = cX5_has := rfl
theorem mo_231 : mOwn 231 = 5 := rfl
theorem mb_232 : mBytes 232 = cX5_isFull := rfl
theorem mo_232 : mOwn 232 = 5 := rfl
theorem mb_233 : mBytes 233 = cX5_at := rfl
theorem mo_233 : mOwn 233 = 5 := rfl
theorem mb_234 : mBytes 234 = cX5_add := rfl
theorem mo_234 : mOwn 234 = 5 := rfl
theorem mb_235 : mBytes 235 = cX5_gather := rfl
theorem mo_235 : mOwn 235 = 5 := rfl
theorem mb_236 : mBytes 236 = cX5_topWithout := rfl
theorem mo_236 : mOwn 236 = 5 := rfl
theorem mb_237 : mBytes 237 = cX5_top := rfl
theorem mo_237 : mOwn 237 = 5 := rfl
theorem mb_238 : mBytes 238 = cX5_answerOf := rfl
theorem mo_238 : mOwn 238 = 5 := rfl
theorem mb_239 : mBytes 239 = cX5_giver := rfl
theorem mo_239 : mOwn 239 = 5 := rfl
theorem mb_240 : mBytes 240 = cX5_findUnlike := rfl
theorem mo_240 : mOwn 240 = 5 := rfl
theorem mb_241 : mBytes 241 = cX5_findAnswered := rfl
theorem mo_241 : mOwn 241 = 5 := rfl
theorem mb_242 : mBytes 242 = cX5_findMoved := rfl
theorem mo_242 : mOwn 242 = 5 := rfl
theorem mb_243 : mBytes 243 = cX5_clearTrace := rfl
theorem mo_243 : mOwn 243 = 5 := rfl
theorem mb_244 : mBytes 244 = cX5_bodyRun := rfl
theorem mo_244 : mOwn 244 = 5 := rfl
theorem mb_245 : mBytes 245 = cX5_begin := rfl
theorem mo_245 : mOwn 245 = 5 := rfl
theorem mb_246 : mBytes 246 = cX5_runHolds := rfl
theorem mo_246 : mOwn 246 = 5 := rfl
theorem mb_247 : mBytes 247 = cX5_runHangs := rfl
theorem mo_247 : mOwn 247 = 5 := rfl
theorem mb_248 : mBytes 248 = cX5_runSaves := rfl
theorem mo_248 : mOwn 248 = 5 := rfl
theorem mb_249 : mBytes 249 = cX6_init := rfl
theorem mo_249 : mOwn 249 = 6 := rfl
theorem mb_250 : mBytes 250 = cX6_has := rfl
theorem mo_250 : mOwn 250 = 6 := rfl
theorem mb_251 : mBytes 251 = cX6_isSort := rfl
theorem mo_251 : mOwn 251 = 6 := rfl
theorem mb_252 : mBytes 252 = cX6_isMissing := rfl
theorem mo_252 : mOwn 252 = 6 := rfl
theorem mb_253 : mBytes 253 = cX6_remove := rfl
theorem mo_253 : mOwn 253 = 6 := rfl
theorem mb_254 : mBytes 254 = cX6_lay := rfl
theorem mo_254 : mOwn 254 = 6 := rfl
theorem mb_255 : mBytes 255 = cX6_spans := rfl
theorem mo_255 : mOwn 255 = 6 := rfl
theorem mb_256 : mBytes 256 = cX6_item := rfl
theorem mo_256 : mOwn 256 = 6 := rfl
theorem mb_257 : mBytes 257 = cX6_put := rfl
theorem mo_257 : mOwn 257 = 6 := rfl
theorem mb_258 : mBytes 258 = cX6_factsFrom := rfl
theorem mo_258 : mOwn 258 = 6 := rfl
theorem mb_259 : mBytes 259 = cX7_init := rfl
theorem mo_259 : mOwn 259 = 7 := rfl
theorem mb_260 : mBytes 260 = cX7_clear := rfl
theorem mo_260 : mOwn 260 = 7 := rfl
theorem mb_261 : mBytes 261 = cX7_put := rfl
theorem mo_261 : mOwn 261 = 7 := rfl
theorem mb_262 : mBytes 262 = cX7_has := rfl
theorem mo_262 : mOwn 262 = 7 := rfl
theorem mb_263 : mBytes 263 = cX7_size := rfl
theorem mo_263 : mOwn 263 = 7 := rfl
theorem mb_264 : mBytes 264 = cX7_lowest := rfl
theorem mo_264 : mOwn 264 = 7 := rfl
theorem mb_265 : mBytes 265 = cX7_fieldsThatShow := rfl
theorem mo_265 : mOwn 265 = 7 := rfl
theorem mb_266 : mBytes 266 = cX7_unlikeFields := rfl
theorem mo_266 : mOwn 266 = 7 := rfl
theorem mb_267 : mBytes 267 = cX7_meetsAll := rfl
theorem mo_267 : mOwn 267 = 7 := rfl
theorem mb_268 : mBytes 268 = cX8_init := rfl
theorem mo_268 : mOwn 268 = 8 := rfl
theorem mb_269 : mBytes 269 = cX8_isFullOfLines := rfl
theorem mo_269 : mOwn 269 = 8 := rfl
theorem mb_270 : mBytes 270 = cX8_addLine := rfl
theorem mo_270 : mOwn 270 = 8 := rfl
theorem mb_271 : mBytes 271 = cX8_isFullOfSections := rfl
theorem mo_271 : mOwn 271 = 8 := rfl
theorem mb_272 : mBytes 272 = cX8_addSection := rfl
theorem mo_272 : mOwn 272 = 8 := rfl
theorem mb_273 : mBytes 273 = cX8_isSet := rfl
theorem mo_273 : mOwn 273 = 8 := rfl
theorem mb_274 : mBytes 274 = cX8_sectionsFor := rfl
theorem mo_274 : mOwn 274 = 8 := rfl
theorem mb_275 : mBytes 275 = cX8_leastYielding := rfl
theorem mo_275 : mOwn 275 = 8 := rfl
theorem mb_276 : mBytes 276 = cX8_costOf := rfl
theorem mo_276 : mOwn 276 = 8 := rfl
theorem mb_277 : mBytes 277 = cX8_yieldsLess := rfl
theorem mo_277 : mOwn 277 = 8 := rfl
theorem mb_278 : mBytes 278 = cX8_likingOf := rfl
theorem mo_278 : mOwn 278 = 8 := rfl
theorem mb_279 : mBytes 279 = cX9_init := rfl
theorem mo_279 : mOwn 279 = 9 := rfl
theorem mb_280 : mBytes 280 = cX9_readTape := rfl
theorem mo_280 : mOwn 280 = 9 := rfl
theorem mb_281 : mBytes 281 = cX9_addTo := rfl
theorem mo_281 : mOwn 281 = 9 := rfl
theorem mb_282 : mBytes 282 = cX9_readEnd := rfl
theorem mo_282 : mOwn 282 = 9 := rfl
theorem mb_283 : mBytes 283 = cX9_readOwed := rfl
theorem mo_283 : mOwn 283 = 9 := rfl
theorem mb_284 : mBytes 284 = cX9_readGoes := rfl
theorem mo_284 : mOwn 284 = 9 := rfl
theorem mb_285 : mBytes 285 = cX9_readCondition := rfl
theorem mo_285 : mOwn 285 = 9 := rfl
theorem mb_286 : mBytes 286 = cX9_readLink := rfl
theorem mo_286 : mOwn 286 = 9 := rfl
theorem mb_287 : mBytes 287 = cX9_readTest := rfl
theorem mo_287 : mOwn 287 = 9 := rfl
theorem mb_288 : mBytes 288 = cX9_valuesFor := rfl
theorem mo_288 : mOwn 288 = 9 := rfl
theorem mb_289 : mBytes 289 = cX9_fieldBegunBy := rfl
theorem mo_289 : mOwn 289 = 9 := rfl
theorem mb_290 : mBytes 290 = cX9_signOf := rfl
theorem mo_290 : mOwn 290 = 9 := rfl
theorem mb_291 : mBytes 291 = cX9_next := rfl
theorem mo_291 : mOwn 291 = 9 := rfl
theorem mb_292 : mBytes 292 = cX9_readWord := rfl
theorem mo_292 : mOwn 292 = 9 := rfl
theorem mb_293 : mBytes 293 = cX9_readDigit := rfl
theorem mo_293 : mOwn 293 = 9 := rfl
theorem mb_294 : mBytes 294 = cX9_findFitting := rfl
theorem mo_294 : mOwn 294 = 9 := rfl
theorem mb_295 : mBytes 295 = cX9_testsHold := rfl
theorem mo_295 : mOwn 295 = 9 := rfl
theorem mb_296 : mBytes 296 = cX10_init := rfl
theorem mo_296 : mOwn 296 = 10 := rfl
theorem mb_297 : mBytes 297 = cX10_hasSlot := rfl
theorem mo_297 : mOwn 297 = 10 := rfl
theorem mb_298 : mBytes 298 = cX10_isFull := rfl
theorem mo_298 : mOwn 298 = 10 := rfl
theorem mb_299 : mBytes 299 = cX10_add := rfl
theorem mo_299 : mOwn 299 = 10 := rfl
theorem mb_300 : mBytes 300 = cX10_allWays := rfl
theorem mo_300 : mOwn 300 = 10 := rfl
theorem mb_301 : mBytes 301 = cX10_isWriting := rfl
theorem mo_301 : mOwn 301 = 10 := rfl
theorem mb_302 : mBytes 302 = cX10_keptBy := rfl
theorem mo_302 : mOwn 302 = 10 := rfl
theorem mb_303 : mBytes 303 = cX10_placeOfBest := rfl
theorem mo_303 : mOwn 303 = 10 := rfl
theorem mb_304 : mBytes 304 = cX10_keptAt := rfl
theorem mo_304 : mOwn 304 = 10 := rfl
theorem mb_305 : mBytes 305 = cX10_writingAt := rfl
theorem mo_305 : mOwn 305 = 10 := rfl
theorem mb_306 : mBytes 306 = cX10_topOfWriting := rfl
theorem mo_306 : mOwn 306 = 10 := rfl
theorem mb_307 : mBytes 307 = cX10_keepBy := rfl
theorem mo_307 : mOwn 307 = 10 := rfl
theorem mb_308 : mBytes 308 = cX10_spreadTops := rfl
theorem mo_308 : mOwn 308 = 10 := rfl
theorem mb_309 : mBytes 309 = cX10_spreadOver := rfl
theorem mo_309 : mOwn 309 = 10 := rfl
theorem mb_310 : mBytes 310 = cX10_waysFitting := rfl
theorem mo_310 : mOwn 310 = 10 := rfl
theorem mb_311 : mBytes 311 = cX10_digitOf := rfl
theorem mo_311 : mOwn 311 = 10 := rfl
theorem mb_312 : mBytes 312 = cX10_prepare := rfl
theorem mo_312 : mOwn 312 = 10 := rfl
theorem mb_313 : mBytes 313 = cX10_askCustoms := rfl
theorem mo_313 : mOwn 313 = 10 := rfl
theorem mb_314 : mBytes 314 = cX10_peopleWith := rfl
theorem mo_314 : mOwn 314 = 10 := rfl
theorem mb_315 : mBytes 315 = cJ6_bitCount_0f7a4 := rfl
theorem mo_315 : mOwn 315 = 13 := rfl
theorem mb_316 : mBytes 316 = cJ13_bitCount_95d88 := rfl
theorem mo_316 : mOwn 316 = 14 := rfl
theorem mb_319 : mBytes 319 = cJ7_fill_53178 := rfl
theorem mo_319 : mOwn 319 = 17 := rfl
theorem mb_320 : mBytes 320 = cJ7_fill_d0a16 := rfl
theorem mo_320 : mOwn 320 = 17 := rfl
theorem mb_323 : mBytes 323 = cL_law := rfl
theorem mo_323 : mOwn 323 = 18 := rfl
theorem cv_bipush_m100 : (Int8.ofInt (-100)).toInt32.toInt = (-100) := by decide +kernel
theorem cv_bipush_m14 : (Int8.ofInt (-14)).toInt32.toInt = (-14) := by decide +kernel
theorem cv_bipush_m13 : (Int8.ofInt (-13)).toInt32.toInt = (-13) := by decide +kernel
theorem cv_bipush_m12 : (Int8.ofInt (-12)).toInt32.toInt = (-12) := by decide +kernel
theorem cv_bipush_m11 : (Int8.ofInt (-11)).toInt32.toInt = (-11) := by decide +kernel
theorem cv_bipush_m10 : (Int8.ofInt (-10)).toInt32.toInt = (-10) := by decide +kernel
theorem cv_bipush_m9 : (Int8.ofInt (-9)).toInt32.toInt = (-9) := by decide +kernel
theorem cv_bipush_m5 : (Int8.ofInt (-5)).toInt32.toInt = (-5) := by decide +kernel
theorem cv_bipush_m4 : (Int8.ofInt (-4)).toInt32.toInt = (-4) := by decide +kernel
theorem cv_bipush_m3 : (Int8.ofInt (-3)).toInt32.toInt = (-3) := by decide +kernel
theorem cv_bipush_m2 : (Int8.ofInt (-2)).toInt32.toInt = (-2) := by decide +kernel
theorem cv_bipush_6 : (Int8.ofInt (6)).toInt32.toInt = 6 := by decide +kernel
theorem cv_bipush_7 : (Int8.ofInt (7)).toInt32.toInt = 7 := by decide +kernel
theorem cv_bipush_8 : (Int8.ofInt (8)).toInt32.toInt = 8 := by decide +kernel
theorem cv_bipush_9 : (Int8.ofInt (9)).toInt32.toInt = 9 := by decide +kernel
theorem cv_bipush_10 : (Int8.ofInt (10)).toInt32.toInt = 10 := by decide +kernel
theorem cv_bipush_11 : (Int8.ofInt (11)).toInt32.toInt = 11 := by decide +kernel
theorem cv_bipush_12 : (Int8.ofInt (12)).toInt32.toInt = 12 := by decide +kernel
theorem cv_bipush_15 : (Int8.ofInt (15)).toInt32.toInt = 15 := by decide +kernel
theorem cv_bipush_16 : (Int8.ofInt (16)).toInt32.toInt = 16 := by decide +kernel
theorem cv_bipush_20 : (Int8.ofInt (20)).toInt32.toInt = 20 := by decide +kernel
theorem cv_bipush_24 : (Int8.ofInt (24)).toInt32.toInt = 24 := by decide +kernel
theorem cv_bipush_30 : (Int8.ofInt (30)).toInt32.toInt = 30 := by decide +kernel
theorem cv_bipush_32 : (Int8.ofInt (32)).toInt32.toInt = 32 := by decide +kernel
theorem cv_bipush_40 : (Int8.ofInt (40)).toInt32.toInt = 40 := by decide +kernel
theorem cv_bipush_48 : (Int8.ofInt (48)).toInt32.toInt = 48 := by decide +kernel
theorem cv_bipush_50 : (Int8.ofInt (50)).toInt32.toInt = 50 := by decide +kernel
theorem cv_bipush_51 : (Int8.ofInt (51)).toInt32.toInt = 51 := by decide +kernel
theorem cv_bipush_57 : (Int8.ofInt (57)).toInt32.toInt = 57 := by decide +kernel
theorem cv_bipush_60 : (Int8.ofInt (60)).toInt32.toInt = 60 := by decide +kernel
theorem cv_bipush_61 : (Int8.ofInt (61)).toInt32.toInt = 61 := by decide +kernel
theorem cv_bipush_62 : (Int8.ofInt (62)).toInt32.toInt = 62 := by decide +kernel
theorem cv_bipush_63 : (Int8.ofInt (63)).toInt32.toInt = 63 := by decide +kernel
theorem cv_bipush_64 : (Int8.ofInt (64)).toInt32.toInt = 64 := by decide +kernel
theorem cv_bipush_72 : (Int8.ofInt (72)).toInt32.toInt = 72 := by decide +kernel
theorem cv_bipush_80 : (Int8.ofInt (80)).toInt32.toInt = 80 := by decide +kernel
theorem cv_bipush_90 : (Int8.ofInt (90)).toInt32.toInt = 90 := by decide +kernel
theorem cv_bipush_95 : (Int8.ofInt (95)).toInt32.toInt = 95 := by decide +kernel
theorem cv_bipush_96 : (Int8.ofInt (96)).toInt32.toInt = 96 := by decide +kernel
theorem cv_bipush_97 : (Int8.ofInt (97)).toInt32.toInt = 97 := by decide +kernel
theorem cv_bipush_99 : (Int8.ofInt (99)).toInt32.toInt = 99 := by decide +kernel
theorem cv_bipush_100 : (Int8.ofInt (100)).toInt32.toInt = 100 := by decide +kernel
theorem cv_bipush_101 : (Int8.ofInt (101)).toInt32.toInt = 101 := by decide +kernel
theorem cv_bipush_102 : (Int8.ofInt (102)).toInt32.toInt = 102 := by decide +kernel
theorem cv_bipush_103 : (Int8.ofInt (103)).toInt32.toInt = 103 := by decide +kernel
theorem cv_bipush_104 : (Int8.ofInt (104)).toInt32.toInt = 104 := by decide +kernel
theorem cv_bipush_105 : (Int8.ofInt (105)).toInt32.toInt = 105 := by decide +kernel
theorem cv_bipush_107 : (Int8.ofInt (107)).toInt32.toInt = 107 := by decide +kernel
theorem cv_bipush_108 : (Int8.ofInt (108)).toInt32.toInt = 108 := by decide +kernel
theorem cv_bipush_110 : (Int8.ofInt (110)).toInt32.toInt = 110 := by decide +kernel
theorem cv_bipush_111 : (Int8.ofInt (111)).toInt32.toInt = 111 := by decide +kernel
theorem cv_bipush_114 : (Int8.ofInt (114)).toInt32.toInt = 114 := by decide +kernel
theorem cv_bipush_115 : (Int8.ofInt (115)).toInt32.toInt = 115 := by decide +kernel
theorem cv_bipush_116 : (Int8.ofInt (116)).toInt32.toInt = 116 := by decide +kernel
theorem cv_bipush_117 : (Int8.ofInt (117)).toInt32.toInt = 117 := by decide +kernel
theorem cv_bipush_118 : (Int8.ofInt (118)).toInt32.toInt = 118 := by decide +kernel
theorem cv_bipush_119 : (Int8.ofInt (119)).toInt32.toInt = 119 := by decide +kernel
theorem cv_bipush_120 : (Int8.ofInt (120)).toInt32.toInt = 120 := by decide +kernel
theorem cv_bipush_127 : (Int8.ofInt (127)).toInt32.toInt = 127 := by decide +kernel
theorem cv_iconst_m1 : (Int32.ofInt (-1)).toInt = (-1) := by decide +kernel
theorem cv_iconst_0 : (Int32.ofInt (0)).toInt = 0 := by decide +kernel
theorem cv_iconst_1 : (Int32.ofInt (1)).toInt = 1 := by decide +kernel
theorem cv_iconst_2 : (Int32.ofInt (2)).toInt = 2 := by decide +kernel
theorem cv_iconst_3 : (Int32.ofInt (3)).toInt = 3 := by decide +kernel
theorem cv_iconst_4 : (Int32.ofInt (4)).toInt = 4 := by decide +kernel
theorem cv_iconst_5 : (Int32.ofInt (5)).toInt = 5 := by decide +kernel
theorem cv_sipush_m256 : (Int16.ofInt (-256)).toInt32.toInt = (-256) := by decide +kernel
theorem cv_sipush_199 : (Int16.ofInt (199)).toInt32.toInt = 199 := by decide +kernel
theorem cv_sipush_200 : (Int16.ofInt (200)).toInt32.toInt = 200 := by decide +kernel
theorem cv_sipush_203 : (Int16.ofInt (203)).toInt32.toInt = 203 := by decide +kernel
theorem cv_sipush_243 : (Int16.ofInt (243)).toInt32.toInt = 243 := by decide +kernel
theorem cv_sipush_255 : (Int16.ofInt (255)).toInt32.toInt = 255 := by decide +kernel
theorem cv_sipush_256 : (Int16.ofInt (256)).toInt32.toInt = 256 := by decide +kernel
theorem cv_sipush_384 : (Int16.ofInt (384)).toInt32.toInt = 384 := by decide +kernel
theorem cv_sipush_400 : (Int16.ofInt (400)).toInt32.toInt = 400 := by decide +kernel
theorem cv_sipush_480 : (Int16.ofInt (480)).toInt32.toInt = 480 := by decide +kernel
theorem cv_sipush_500 : (Int16.ofInt (500)).toInt32.toInt = 500 := by decide +kernel
theorem cv_sipush_1000 : (Int16.ofInt (1000)).toInt32.toInt = 1000 := by decide +kernel
theorem cv_sipush_1023 : (Int16.ofInt (1023)).toInt32.toInt = 1023 := by decide +kernel
theorem cv_sipush_1535 : (Int16.ofInt (1535)).toInt32.toInt = 1535 := by decide +kernel
theorem cv_sipush_1536 : (Int16.ofInt (1536)).toInt32.toInt = 1536 := by decide +kernel
theorem cv_sipush_1600 : (Int16.ofInt (1600)).toInt32.toInt = 1600 := by decide +kernel
theorem cv_sipush_3999 : (Int16.ofInt (3999)).toInt32.toInt = 3999 := by decide +kernel
theorem cv_sipush_7680 : (Int16.ofInt (7680)).toInt32.toInt = 7680 := by decide +kernel
theorem cv_sipush_9999 : (Int16.ofInt (9999)).toInt32.toInt = 9999 := by decide +kernel
theorem fs_11 : fSite 0 11 = some (0, 0, false) := by decide +kernel
theorem fs_15 : fSite 0 15 = some (0, 1, false) := by decide +kernel
theorem fs_18 : fSite 0 18 = some (0, 2, false) := by decide +kernel
theorem fs_21 : fSite 0 21 = some (0, 3, false) := by decide +kernel
theorem fs_24 : fSite 0 24 = some (0, 5, false) := by decide +kernel
theorem fs_44 : fSite 0 44 = some (0, 4, false) := by decide +kernel
theorem fs_4107 : fSite 1 11 = some (1, 1, false) := by decide +kernel
theorem fs_4111 : fSite 1 15 = some (1, 2, false) := by decide +kernel
theorem fs_4114 : fSite 1 18 = some (1, 3, false) := by decide +kernel
theorem fs_4117 : fSite 1 21 = some (1, 4, false) := by decide +kernel
theorem fs_4120 : fSite 1 24 = some (1, 5, false) := by decide +kernel
theorem fs_4123 : fSite 1 27 = some (1, 6, false) := by decide +kernel
theorem fs_4126 : fSite 1 30 = some (1, 7, false) := by decide +kernel
theorem fs_4129 : fSite 1 33 = some (1, 0, false) := by decide +kernel
theorem fs_4133 : fSite 1 37 = some (1, 8, false) := by decide +kernel
theorem fs_4151 : fSite 1 55 = some (1, 9, false) := by decide +kernel
theorem fs_8201 : fSite 2 9 = some (2, 0, false) := by decide +kernel
theorem fs_8207 : fSite 2 15 = some (2, 1, false) := by decide +kernel
theorem fs_8210 : fSite 2 18 = some (2, 2, false) := by decide +kernel
theorem fs_8213 : fSite 2 21 = some (2, 3, false) := by decide +kernel
theorem fs_12299 : fSite 3 11 = some (3, 1, false) := by decide +kernel
theorem fs_12303 : fSite 3 15 = some (3, 2, false) := by decide +kernel
theorem fs_12306 : fSite 3 18 = some (3, 3, false) := by decide +kernel
theorem fs_12309 : fSite 3 21 = some (3, 4, false) := by decide +kernel
theorem fs_12312 : fSite 3 24 = some (3, 5, false) := by decide +kernel
theorem fs_12315 : fSite 3 27 = some (3, 6, false) := by decide +kernel
theorem fs_12318 : fSite 3 30 = some (3, 7, false) := by decide +kernel
theorem fs_12321 : fSite 3 33 = some (3, 8, false) := by decide +kernel
theorem fs_12324 : fSite 3 36 = some (3, 0, false) := by decide +kernel
theorem fs_12328 : fSite 3 40 = some (3, 9, false) := by decide +kernel
theorem fs_12382 : fSite 3 94 = some (1, 4, true) := by decide +kernel
theorem fs_16395 : fSite 4 11 = some (4, 7, false) := by decide +kernel
theorem fs_16399 : fSite 4 15 = some (4, 9, false) := by decide +kernel
theorem fs_16403 : fSite 4 19 = some (4, 0, false) := by decide +kernel
theorem fs_16407 : fSite 4 23 = some (4, 1, false) := by decide +kernel
theorem fs_16410 : fSite 4 26 = some (4, 2, false) := by decide +kernel
theorem fs_16413 : fSite 4 29 = some (4, 3, false) := by decide +kernel
theorem fs_16416 : fSite 4 32 = some (4, 4, false) := by decide +kernel
theorem fs_16419 : fSite 4 35 = some (4, 5, false) := by decide +kernel
theorem fs_16422 : fSite 4 38 = some (4, 6, false) := by decide +kernel
theorem fs_16425 : fSite 4 41 = some (4, 10, false) := by decide +kernel
theorem fs_16428 : fSite 4 44 = some (4, 8, false) := by decide +kernel
theorem fs_20493 : fSite 5 13 = some (5, 0, false) := by decide +kernel
theorem fs_20499 : fSite 5 19 = some (5, 1, false) := by decide +kernel
theorem fs_20502 : fSite 5 22 = some (5, 2, false) := by decide +kernel
theorem fs_20506 : fSite 5 26 = some (5, 3, false) := by decide +kernel
theorem fs_20509 : fSite 5 29 = some (5, 4, false) := by decide +kernel
theorem fs_20527 : fSite 5 47 = some (4, 0, true) := by decide +kernel
theorem fs_20531 : fSite 5 51 = some (4, 3, true) := by decide +kernel
theorem fs_20558 : fSite 5 78 = some (9, 4, true) := by decide +kernel
theorem fs_20575 : fSite 5 95 = some (5, 5, false) := by decide +kernel
theorem fs_20578 : fSite 5 98 = some (4, 1, true) := by decide +kernel
theorem fs_24589 : fSite 6 13 = some (6, 0, false) := by decide +kernel
theorem fs_24592 : fSite 6 16 = some (6, 1, false) := by decide +kernel
theorem fs_24596 : fSite 6 20 = some (6, 2, false) := by decide +kernel
theorem fs_28681 : fSite 7 9 = some (7, 0, false) := by decide +kernel
theorem fs_32777 : fSite 8 9 = some (8, 0, false) := by decide +kernel
theorem fs_32783 : fSite 8 15 = some (8, 1, false) := by decide +kernel
theorem fs_32786 : fSite 8 18 = some (8, 2, false) := by decide +kernel
theorem fs_32790 : fSite 8 22 = some (8, 3, false) := by decide +kernel
theorem fs_36875 : fSite 9 11 = some (9, 1, false) := by decide +kernel
theorem fs_36879 : fSite 9 15 = some (9, 2, false) := by decide +kernel
theorem fs_36882 : fSite 9 18 = some (9, 3, false) := by decide +kernel
theorem fs_36889 : fSite 9 25 = some (9, 4, false) := by decide +kernel
theorem fs_36893 : fSite 9 29 = some (9, 0, false) := by decide +kernel
theorem fs_36902 : fSite 9 38 = some (9, 6, false) := by decide +kernel
theorem fs_36906 : fSite 9 42 = some (9, 7, false) := by decide +kernel
theorem fs_36909 : fSite 9 45 = some (9, 9, false) := by decide +kernel
theorem fs_36912 : fSite 9 48 = some (9, 5, false) := by decide +kernel
theorem fs_36930 : fSite 9 66 = some (9, 8, false) := by decide +kernel
theorem fs_40973 : fSite 10 13 = some (10, 2, false) := by decide +kernel
theorem fs_40977 : fSite 10 17 = some (10, 3, false) := by decide +kernel
theorem fs_40981 : fSite 10 21 = some (10, 4, false) := by decide +kernel
theorem fs_40984 : fSite 10 24 = some (10, 5, false) := by decide +kernel
theorem fs_40987 : fSite 10 27 = some (10, 6, false) := by decide +kernel
theorem fs_40990 : fSite 10 30 = some (10, 7, false) := by decide +kernel
theorem fs_40993 : fSite 10 33 = some (10, 9, false) := by decide +kernel
theorem fs_40996 : fSite 10 36 = some (10, 10, false) := by decide +kernel
theorem fs_40999 : fSite 10 39 = some (10, 0, false) := by decide +kernel
theorem fs_41003 : fSite 10 43 = some (10, 1, false) := by decide +kernel
theorem fs_41039 : fSite 10 79 = some (10, 8, false) := by decide +kernel
theorem fs_41065 : fSite 10 105 = some (9, 8, true) := by decide +kernel
theorem fs_41071 : fSite 10 111 = some (9, 4, true) := by decide +kernel
theorem fs_45065 : fSite 11 9 = some (11, 0, false) := by decide +kernel
theorem fs_45072 : fSite 11 16 = some (11, 1, false) := by decide +kernel
theorem fs_45081 : fSite 11 25 = some (11, 2, false) := by decide +kernel
theorem fs_45088 : fSite 11 32 = some (11, 3, false) := by decide +kernel
theorem fs_45097 : fSite 11 41 = some (11, 4, false) := by decide +kernel
theorem fs_45106 : fSite 11 50 = some (11, 5, false) := by decide +kernel
theorem fs_45113 : fSite 11 57 = some (11, 6, false) := by decide +kernel
theorem fs_45120 : fSite 11 64 = some (11, 7, false) := by decide +kernel
theorem fs_45127 : fSite 11 71 = some (11, 8, false) := by decide +kernel
theorem fs_45134 : fSite 11 78 = some (11, 9, false) := by decide +kernel
theorem fs_45143 : fSite 11 87 = some (11, 10, false) := by decide +kernel
theorem fs_45147 : fSite 11 91 = some (11, 13, false) := by decide +kernel
theorem fs_45155 : fSite 11 99 = some (11, 12, false) := by decide +kernel
theorem fs_45158 : fSite 11 102 = some (11, 11, false) := by decide +kernel
theorem fs_45198 : fSite 11 142 = some (4, 1, true) := by decide +kernel
theorem fs_45201 : fSite 11 145 = some (4, 2, true) := by decide +kernel
theorem fs_45204 : fSite 11 148 = some (4, 3, true) := by decide +kernel
theorem fs_45207 : fSite 11 151 = some (4, 4, true) := by decide +kernel
theorem fs_45210 : fSite 11 154 = some (4, 0, true) := by decide +kernel
theorem fs_45213 : fSite 11 157 = some (9, 8, true) := by decide +kernel
theorem fs_45216 : fSite 11 160 = some (9, 9, true) := by decide +kernel
theorem fs_45219 : fSite 11 163 = some (4, 9, true) := by decide +kernel
theorem fs_45225 : fSite 11 169 = some (9, 4, true) := by decide +kernel
theorem fs_45242 : fSite 11 186 = some (1, 3, true) := by decide +kernel
theorem fs_45258 : fSite 11 202 = some (1, 7, true) := by decide +kernel
theorem fs_45261 : fSite 11 205 = some (1, 5, true) := by decide +kernel
theorem fs_45264 : fSite 11 208 = some (1, 6, true) := by decide +kernel
theorem fs_45267 : fSite 11 211 = some (1, 9, true) := by decide +kernel
theorem fs_45295 : fSite 11 239 = some (6, 1, true) := by decide +kernel
theorem fs_45349 : fSite 11 293 = some (3, 1, true) := by decide +kernel
theorem fs_45361 : fSite 11 305 = some (3, 2, true) := by decide +kernel
theorem fs_45364 : fSite 11 308 = some (3, 6, true) := by decide +kernel
theorem fs_45367 : fSite 11 311 = some (3, 7, true) := by decide +kernel
theorem fs_45370 : fSite 11 314 = some (3, 8, true) := by decide +kernel
theorem fs_45382 : fSite 11 326 = some (1, 4, true) := by decide +kernel
theorem fs_45420 : fSite 11 364 = some (8, 3, true) := by decide +kernel
theorem fs_45423 : fSite 11 367 = some (8, 2, true) := by decide +kernel
theorem fs_45426 : fSite 11 370 = some (8, 1, true) := by decide +kernel
theorem fs_45442 : fSite 11 386 = some (2, 0, true) := by decide +kernel
theorem fs_45449 : fSite 11 393 = some (2, 1, true) := by decide +kernel
theorem fs_45455 : fSite 11 399 = some (2, 2, true) := by decide +kernel
theorem fs_45458 : fSite 11 402 = some (1, 8, true) := by decide +kernel
theorem fs_45485 : fSite 11 429 = some (5, 4, true) := by decide +kernel
theorem fs_45486 : fSite 11 430 = some (0, 5, true) := by decide +kernel
theorem fs_45487 : fSite 11 431 = some (3, 9, true) := by decide +kernel
theorem fs_45494 : fSite 11 438 = some (5, 5, true) := by decide +kernel
theorem fs_45507 : fSite 11 451 = some (6, 0, true) := by decide +kernel
theorem fs_45516 : fSite 11 460 = some (0, 1, true) := by decide +kernel
theorem fs_45517 : fSite 11 461 = some (0, 0, true) := by decide +kernel
theorem fs_49159 : fSite 12 7 = some (12, 1, false) := by decide +kernel
theorem fs_49165 : fSite 12 13 = some (12, 3, false) := by decide +kernel
theorem fs_49168 : fSite 12 16 = some (12, 4, false) := by decide +kernel
theorem fs_49172 : fSite 12 20 = some (12, 5, false) := by decide +kernel
theorem fs_49175 : fSite 12 23 = some (12, 6, false) := by decide +kernel
theorem fs_49178 : fSite 12 26 = some (12, 8, false) := by decide +kernel
theorem fs_49181 : fSite 12 29 = some (12, 9, false) := by decide +kernel
theorem fs_49184 : fSite 12 32 = some (12, 10, false) := by decide +kernel
theorem fs_49187 : fSite 12 35 = some (12, 11, false) := by decide +kernel
theorem fs_49190 : fSite 12 38 = some (12, 12, false) := by decide +kernel
theorem fs_49193 : fSite 12 41 = some (12, 13, false) := by decide +kernel
theorem fs_49196 : fSite 12 44 = some (12, 14, false) := by decide +kernel
theorem fs_49199 : fSite 12 47 = some (12, 15, false) := by decide +kernel
theorem fs_49202 : fSite 12 50 = some (12, 16, false) := by decide +kernel
theorem fs_49205 : fSite 12 53 = some (12, 17, false) := by decide +kernel
theorem fs_49208 : fSite 12 56 = some (12, 19, false) := by decide +kernel
theorem fs_49211 : fSite 12 59 = some (12, 20, false) := by decide +kernel
theorem fs_49214 : fSite 12 62 = some (12, 21, false) := by decide +kernel
theorem fs_49217 : fSite 12 65 = some (12, 22, false) := by decide +kernel
theorem fs_49221 : fSite 12 69 = some (12, 24, false) := by decide +kernel
theorem fs_49224 : fSite 12 72 = some (12, 25, false) := by decide +kernel
theorem fs_49227 : fSite 12 75 = some (12, 26, false) := by decide +kernel
theorem fs_49230 : fSite 12 78 = some (12, 28, false) := by decide +kernel
theorem fs_49233 : fSite 12 81 = some (12, 29, false) := by decide +kernel
theorem fs_49236 : fSite 12 84 = some (12, 30, false) := by decide +kernel
theorem fs_49239 : fSite 12 87 = some (12, 32, false) := by decide +kernel
theorem fs_49242 : fSite 12 90 = some (12, 33, false) := by decide +kernel
theorem fs_49245 : fSite 12 93 = some (12, 34, false) := by decide +kernel
theorem fs_49248 : fSite 12 96 = some (12, 35, false) := by decide +kernel
theorem fs_49251 : fSite 12 99 = some (12, 36, false) := by decide +kernel
theorem fs_49254 : fSite 12 102 = some (12, 37, false) := by decide +kernel
theorem fs_49257 : fSite 12 105 = some (12, 38, false) := by decide +kernel
theorem fs_49260 : fSite 12 108 = some (12, 39, false) := by decide +kernel
theorem fs_49263 : fSite 12 111 = some (12, 40, false) := by decide +kernel
theorem fs_49266 : fSite 12 114 = some (12, 41, false) := by decide +kernel
theorem fs_49269 : fSite 12 117 = some (12, 42, false) := by decide +kernel
theorem fs_49272 : fSite 12 120 = some (12, 44, false) := by decide +kernel
theorem fs_49275 : fSite 12 123 = some (12, 46, false) := by decide +kernel
theorem fs_49278 : fSite 12 126 = some (12, 47, false) := by decide +kernel
theorem fs_49281 : fSite 12 129 = some (12, 48, false) := by decide +kernel
theorem fs_49284 : fSite 12 132 = some (12, 49, false) := by decide +kernel
theorem fs_49287 : fSite 12 135 = some (12, 50, false) := by decide +kernel
theorem fs_49290 : fSite 12 138 = some (12, 52, false) := by decide +kernel
theorem fs_49293 : fSite 12 141 = some (12, 53, false) := by decide +kernel
theorem fs_49296 : fSite 12 144 = some (12, 54, false) := by decide +kernel
theorem fs_49299 : fSite 12 147 = some (12, 57, false) := by decide +kernel
theorem fs_49302 : fSite 12 150 = some (12, 59, false) := by decide +kernel
theorem fs_49305 : fSite 12 153 = some (12, 60, false) := by decide +kernel
theorem fs_49308 : fSite 12 156 = some (12, 61, false) := by decide +kernel
theorem fs_49311 : fSite 12 159 = some (12, 62, false) := by decide +kernel
theorem fs_49314 : fSite 12 162 = some (12, 63, false) := by decide +kernel
theorem fs_49317 : fSite 12 165 = some (12, 64, false) := by decide +kernel
theorem fs_49320 : fSite 12 168 = some (12, 65, false) := by decide +kernel
theorem fs_49323 : fSite 12 171 = some (12, 66, false) := by decide +kernel
theorem fs_49326 : fSite 12 174 = some (12, 67, false) := by decide +kernel
theorem fs_49333 : fSite 12 181 = some (12, 7, false) := by decide +kernel
theorem fs_49336 : fSite 12 184 = some (12, 18, false) := by decide +kernel
theorem fs_49346 : fSite 12 194 = some (12, 0, false) := by decide +kernel
theorem fs_49349 : fSite 12 197 = some (12, 2, false) := by decide +kernel
theorem fs_49352 : fSite 12 200 = some (12, 55, false) := by decide +kernel
theorem fs_49355 : fSite 12 203 = some (12, 56, false) := by decide +kernel
theorem fs_49404 : fSite 12 252 = some (12, 58, false) := by decide +kernel
theorem fs_49432 : fSite 12 280 = some (12, 27, false) := by decide +kernel
theorem fs_49439 : fSite 12 287 = some (12, 31, false) := by decide +kernel
theorem fs_49451 : fSite 12 299 = some (12, 23, false) := by decide +kernel
theorem fs_49498 : fSite 12 346 = some (12, 43, false) := by decide +kernel
theorem fs_49501 : fSite 12 349 = some (12, 45, false) := by decide +kernel
theorem fs_49520 : fSite 12 368 = some (12, 51, false) := by decide +kernel
theorem fs_49526 : fSite 12 374 = some (12, 68, false) := by decide +kernel
theorem fk_0_0 : fKind 0 0 = 2 := by decide +kernel
theorem fk_0_1 : fKind 0 1 = 2 := by decide +kernel
theorem fk_0_2 : fKind 0 2 = 2 := by decide +kernel
theorem fk_0_3 : fKind 0 3 = 2 := by decide +kernel
theorem fk_0_4 : fKind 0 4 = 0 := by decide +kernel
theorem fk_0_5 : fKind 0 5 = 0 := by decide +kernel
theorem fk_1_0 : fKind 1 0 = 2 := by decide +kernel
theorem fk_1_1 : fKind 1 1 = 2 := by decide +kernel
theorem fk_1_2 : fKind 1 2 = 2 := by decide +kernel
theorem fk_1_3 : fKind 1 3 = 2 := by decide +kernel
theorem fk_1_4 : fKind 1 4 = 2 := by decide +kernel
theorem fk_1_5 : fKind 1 5 = 2 := by decide +kernel
theorem fk_1_6 : fKind 1 6 = 2 := by decide +kernel
theorem fk_1_7 : fKind 1 7 = 2 := by decide +kernel
theorem fk_1_8 : fKind 1 8 = 0 := by decide +kernel
theorem fk_1_9 : fKind 1 9 = 0 := by decide +kernel
theorem fk_2_0 : fKind 2 0 = 2 := by decide +kernel
theorem fk_2_1 : fKind 2 1 = 2 := by decide +kernel
theorem fk_2_2 : fKind 2 2 = 2 := by decide +kernel
theorem fk_2_3 : fKind 2 3 = 2 := by decide +kernel
theorem fk_3_0 : fKind 3 0 = 2 := by decide +kernel
theorem fk_3_1 : fKind 3 1 = 2 := by decide +kernel
theorem fk_3_2 : fKind 3 2 = 2 := by decide +kernel
theorem fk_3_3 : fKind 3 3 = 2 := by decide +kernel
theorem fk_3_4 : fKind 3 4 = 2 := by decide +kernel
theorem fk_3_5 : fKind 3 5 = 2 := by decide +kernel
theorem fk_3_6 : fKind 3 6 = 2 := by decide +kernel
theorem fk_3_7 : fKind 3 7 = 2 := by decide +kernel
theorem fk_3_8 : fKind 3 8 = 2 := by decide +kernel
theorem fk_3_9 : fKind 3 9 = 0 := by decide +kernel
theorem fk_4_0 : fKind 4 0 = 2 := by decide +kernel
theorem fk_4_1 : fKind 4 1 = 0 := by decide +kernel
theorem fk_4_2 : fKind 4 2 = 0 := by decide +kernel
theorem fk_4_3 : fKind 4 3 = 0 := by decide +kernel
theorem fk_4_4 : fKind 4 4 = 0 := by decide +kernel
theorem fk_4_5 : fKind 4 5 = 0 := by decide +kernel
theorem fk_4_6 : fKind 4 6 = 0 := by decide +kernel
theorem fk_4_7 : fKind 4 7 = 2 := by decide +kernel
theorem fk_4_8 : fKind 4 8 = 0 := by decide +kernel
theorem fk_4_9 : fKind 4 9 = 0 := by decide +kernel
theorem fk_4_10 : fKind 4 10 = 0 := by decide +kernel
theorem fk_5_0 : fKind 5 0 = 2 := by decide +kernel
theorem fk_5_1 : fKind 5 1 = 2 := by decide +kernel
theorem fk_5_2 : fKind 5 2 = 2 := by decide +kernel
theorem fk_5_3 : fKind 5 3 = 2 := by decide +kernel
theorem fk_5_4 : fKind 5 4 = 0 := by decide +kernel
theorem fk_5_5 : fKind 5 5 = 0 := by decide +kernel
theorem fk_6_0 : fKind 6 0 = 2 := by decide +kernel
theorem fk_6_1 : fKind 6 1 = 2 := by decide +kernel
theorem fk_6_2 : fKind 6 2 = 2 := by decide +kernel
theorem fk_7_0 : fKind 7 0 = 2 := by decide +kernel
theorem fk_8_0 : fKind 8 0 = 2 := by decide +kernel
theorem fk_8_1 : fKind 8 1 = 2 := by decide +kernel
theorem fk_8_2 : fKind 8 2 = 0 := by decide +kernel
theorem fk_8_3 : fKind 8 3 = 0 := by decide +kernel
theorem fk_9_0 : fKind 9 0 = 2 := by decide +kernel
theorem fk_9_1 : fKind 9 1 = 2 := by decide +kernel
theorem fk_9_2 : fKind 9 2 = 2 := by decide +kernel
theorem fk_9_3 : fKind 9 3 = 2 := by decide +kernel
theorem fk_9_4 : fKind 9 4 = 2 := by decide +kernel
theorem fk_9_5 : fKind 9 5 = 1 := by decide +kernel
theorem fk_9_6 : fKind 9 6 = 0 := by decide +kernel
theorem fk_9_7 : fKind 9 7 = 0 := by decide +kernel
theorem fk_9_8 : fKind 9 8 = 0 := by decide +kernel
theorem fk_9_9 : fKind 9 9 = 0 := by decide +kernel
theorem fk_10_0 : fKind 10 0 = 2 := by decide +kernel
theorem fk_10_1 : fKind 10 1 = 2 := by decide +kernel
theorem fk_10_2 : fKind 10 2 = 2 := by decide +kernel
theorem fk_10_3 : fKind 10 3 = 2 := by decide +kernel
theorem fk_10_4 : fKind 10 4 = 2 := by decide +kernel
theorem fk_10_5 : fKind 10 5 = 2 := by decide +kernel
theorem fk_10_6 : fKind 10 6 = 2 := by decide +kernel
theorem fk_10_7 : fKind 10 7 = 2 := by decide +kernel
theorem fk_10_8 : fKind 10 8 = 0 := by decide +kernel
theorem fk_10_9 : fKind 10 9 = 2 := by decide +kernel
theorem fk_10_10 : fKind 10 10 = 2 := by decide +kernel
theorem fk_11_0 : fKind 11 0 = 2 := by decide +kernel
theorem fk_11_1 : fKind 11 1 = 2 := by decide +kernel
theorem fk_11_2 : fKind 11 2 = 2 := by decide +kernel
theorem fk_11_3 : fKind 11 3 = 2 := by decide +kernel
theorem fk_11_4 : fKind 11 4 = 2 := by decide +kernel
theorem fk_11_5 : fKind 11 5 = 2 := by decide +kernel
theorem fk_11_6 : fKind 11 6 = 2 := by decide +kernel
theorem fk_11_7 : fKind 11 7 = 2 := by decide +kernel
theorem fk_11_8 : fKind 11 8 = 2 := by decide +kernel
theorem fk_11_9 : fKind 11 9 = 2 := by decide +kernel
theorem fk_11_10 : fKind 11 10 = 2 := by decide +kernel
theorem fk_11_11 : fKind 11 11 = 0 := by decide +kernel
theorem fk_11_12 : fKind 11 12 = 0 := by decide +kernel
theorem fk_11_13 : fKind 11 13 = 0 := by decide +kernel
theorem fk_12_0 : fKind 12 0 = 0 := by decide +kernel
theorem fk_12_1 : fKind 12 1 = 2 := by decide +kernel
theorem fk_12_2 : fKind 12 2 = 0 := by decide +kernel
theorem fk_12_3 : fKind 12 3 = 2 := by decide +kernel
theorem fk_12_4 : fKind 12 4 = 2 := by decide +kernel
theorem fk_12_5 : fKind 12 5 = 2 := by decide +kernel
theorem fk_12_6 : fKind 12 6 = 2 := by decide +kernel
theorem fk_12_7 : fKind 12 7 = 0 := by decide +kernel
theorem fk_12_8 : fKind 12 8 = 2 := by decide +kernel
theorem fk_12_9 : fKind 12 9 = 2 := by decide +kernel
theorem fk_12_10 : fKind 12 10 = 2 := by decide +kernel
theorem fk_12_11 : fKind 12 11 = 2 := by decide +kernel
theorem fk_12_12 : fKind 12 12 = 2 := by decide +kernel
theorem fk_12_13 : fKind 12 13 = 2 := by decide +kernel
theorem fk_12_14 : fKind 12 14 = 2 := by decide +kernel
theorem fk_12_15 : fKind 12 15 = 2 := by decide +kernel
theorem fk_12_16 : fKind 12 16 = 2 := by decide +kernel
theorem fk_12_17 : fKind 12 17 = 2 := by decide +kernel
theorem fk_12_18 : fKind 12 18 = 0 := by decide +kernel
theorem fk_12_19 : fKind 12 19 = 2 := by decide +kernel
theorem fk_12_20 : fKind 12 20 = 2 := by decide +kernel
theorem fk_12_21 : fKind 12 21 = 2 := by decide +kernel
theorem fk_12_22 : fKind 12 22 = 0 := by decide +kernel
theorem fk_12_23 : fKind 12 23 = 0 := by decide +kernel
theorem fk_12_24 : fKind 12 24 = 2 := by decide +kernel
theorem fk_12_25 : fKind 12 25 = 2 := by decide +kernel
theorem fk_12_26 : fKind 12 26 = 2 := by decide +kernel
theorem fk_12_27 : fKind 12 27 = 0 := by decide +kernel
theorem fk_12_28 : fKind 12 28 = 2 := by decide +kernel
theorem fk_12_29 : fKind 12 29 = 2 := by decide +kernel
theorem fk_12_30 : fKind 12 30 = 2 := by decide +kernel
theorem fk_12_31 : fKind 12 31 = 0 := by decide +kernel
theorem fk_12_32 : fKind 12 32 = 2 := by decide +kernel
theorem fk_12_33 : fKind 12 33 = 2 := by decide +kernel
theorem fk_12_34 : fKind 12 34 = 2 := by decide +kernel
theorem fk_12_35 : fKind 12 35 = 2 := by decide +kernel
theorem fk_12_36 : fKind 12 36 = 2 := by decide +kernel
theorem fk_12_37 : fKind 12 37 = 2 := by decide +kernel
theorem fk_12_38 : fKind 12 38 = 2 := by decide +kernel
theorem fk_12_39 : fKind 12 39 = 2 := by decide +kernel
theorem fk_12_40 : fKind 12 40 = 2 := by decide +kernel
theorem fk_12_41 : fKind 12 41 = 2 := by decide +kernel
theorem fk_12_42 : fKind 12 42 = 2 := by decide +kernel
theorem fk_12_43 : fKind 12 43 = 0 := by decide +kernel
theorem fk_12_44 : fKind 12 44 = 2 := by decide +kernel
theorem fk_12_45 : fKind 12 45 = 0 := by decide +kernel
theorem fk_12_46 : fKind 12 46 = 2 := by decide +kernel
theorem fk_12_47 : fKind 12 47 = 2 := by decide +kernel
theorem fk_12_48 : fKind 12 48 = 2 := by decide +kernel
theorem fk_12_49 : fKind 12 49 = 2 := by decide +kernel
theorem fk_12_50 : fKind 12 50 = 2 := by decide +kernel
theorem fk_12_51 : fKind 12 51 = 0 := by decide +kernel
theorem fk_12_52 : fKind 12 52 = 2 := by decide +kernel
theorem fk_12_53 : fKind 12 53 = 2 := by decide +kernel
theorem fk_12_54 : fKind 12 54 = 2 := by decide +kernel
theorem fk_12_55 : fKind 12 55 = 0 := by decide +kernel
theorem fk_12_56 : fKind 12 56 = 1 := by decide +kernel
theorem fk_12_57 : fKind 12 57 = 0 := by decide +kernel
theorem fk_12_58 : fKind 12 58 = 0 := by decide +kernel
theorem fk_12_59 : fKind 12 59 = 2 := by decide +kernel
theorem fk_12_60 : fKind 12 60 = 2 := by decide +kernel
theorem fk_12_61 : fKind 12 61 = 2 := by decide +kernel
theorem fk_12_62 : fKind 12 62 = 2 := by decide +kernel
theorem fk_12_63 : fKind 12 63 = 2 := by decide +kernel
theorem fk_12_64 : fKind 12 64 = 2 := by decide +kernel
theorem fk_12_65 : fKind 12 65 = 2 := by decide +kernel
theorem fk_12_66 : fKind 12 66 = 2 := by decide +kernel
theorem fk_12_67 : fKind 12 67 = 2 := by decide +kernel
theorem fk_12_68 : fKind 12 68 = 0 := by decide +kernel
theorem ff_0_4 : fFin 0 4 = false := by decide +kernel
theorem ff_0_5 : fFin 0 5 = false := by decide +kernel
theorem ff_1_8 : fFin 1 8 = false := by decide +kernel
theorem ff_1_9 : fFin 1 9 = false := by decide +kernel
theorem ff_3_9 : fFin 3 9 = false := by decide +kernel
theorem ff_4_8 : fFin 4 8 = false := by decide +kernel
theorem ff_4_9 : fFin 4 9 = false := by decide +kernel
theorem ff_4_10 : fFin 4 10 = false := by decide +kernel
theorem ff_5_4 : fFin 5 4 = false := by decide +kernel
theorem ff_5_5 : fFin 5 5 = false := by decide +kernel
theorem ff_8_2 : fFin 8 2 = false := by decide +kernel
theorem ff_8_3 : fFin 8 3 = false := by decide +kernel
theorem ff_9_5 : fFin 9 5 = false := by decide +kernel
theorem ff_9_6 : fFin 9 6 = false := by decide +kernel
theorem ff_9_7 : fFin 9 7 = false := by decide +kernel
theorem ff_9_8 : fFin 9 8 = false := by decide +kernel
theorem ff_9_9 : fFin 9 9 = false := by decide +kernel
theorem ff_10_8 : fFin 10 8 = false := by decide +kernel
theorem ff_11_10 : fFin 11 10 = false := by decide +kernel
theorem ff_11_11 : fFin 11 11 = false := by decide +kernel
theorem ff_11_12 : fFin 11 12 = false := by decide +kernel
theorem ff_11_13 : fFin 11 13 = false := by decide +kernel
theorem ff_12_0 : fFin 12 0 = false := by decide +kernel
theorem ff_12_2 : fFin 12 2 = false := by decide +kernel
theorem ff_12_7 : fFin 12 7 = false := by decide +kernel
theorem ff_12_18 : fFin 12 18 = false := by decide +kernel
theorem ff_12_22 : fFin 12 22 = false := by decide +kernel
theorem ff_12_23 : fFin 12 23 = false := by decide +kernel
theorem ff_12_27 : fFin 12 27 = false := by decide +kernel
theorem ff_12_31 : fFin 12 31 = false := by decide +kernel
theorem ff_12_43 : fFin 12 43 = false := by decide +kernel
theorem ff_12_45 : fFin 12 45 = false := by decide +kernel
theorem ff_12_51 : fFin 12 51 = false := by decide +kernel
theorem ff_12_55 : fFin 12 55 = false := by decide +kernel
theorem ff_12_56 : fFin 12 56 = false := by decide +kernel
theorem ff_12_57 : fFin 12 57 = false := by decide +kernel
theorem ff_12_58 : fFin 12 58 = false := by decide +kernel
theorem ff_12_68 : fFin 12 68 = false := by decide +kernel
theorem ls_8222 : lSite 2 30 = some (aI 1000000) := by decide +kernel
theorem ls_36941 : lSite 9 77 = some (aF 7) := by decide +kernel
theorem ls_36947 : lSite 9 83 = some (aF 8) := by decide +kernel
theorem ls_36949 : lSite 9 85 = some (aF 9) := by decide +kernel
theorem ls_36954 : lSite 9 90 = some (aF 10) := by decide +kernel
theorem ls_36963 : lSite 9 99 = some (aF 11) := by decide +kernel
theorem ls_36965 : lSite 9 101 = some (aF 12) := by decide +kernel
theorem ls_36967 : lSite 9 103 = some (aF 13) := by decide +kernel
theorem ls_36976 : lSite 9 112 = some (aF 14) := by decide +kernel
theorem ls_36978 : lSite 9 114 = some (aF 15) := by decide +kernel
theorem ls_36980 : lSite 9 116 = some (aF 16) := by decide +kernel
theorem ls_45527 : lSite 11 471 = some (aF 1) := by decide +kernel
theorem ls_45529 : lSite 11 473 = some (aF 2) := by decide +kernel
theorem ls_45531 : lSite 11 475 = some (aF 3) := by decide +kernel
theorem ls_45533 : lSite 11 477 = some (aF 4) := by decide +kernel
theorem ls_45535 : lSite 11 479 = some (aF 5) := by decide +kernel
theorem ls_45537 : lSite 11 481 = some (aF 6) := by decide +kernel
theorem ls_49510 : lSite 12 358 = some (aI 1000000) := by decide +kernel
theorem ls_53513 : lSite 13 265 = some (aI 1431655765) := by decide +kernel
theorem ls_53514 : lSite 13 266 = some (aI 858993459) := by decide +kernel
theorem ls_53515 : lSite 13 267 = some (aI 252645135) := by decide +kernel
theorem ls_57658 : lSite 14 314 = some (aL 6148914691236517205) := by decide +kernel
theorem ls_57660 : lSite 14 316 = some (aL 3689348814741910323) := by decide +kernel
theorem ls_57662 : lSite 14 318 = some (aL 1085102592571150095) := by decide +kernel
theorem ns_36886 : nSite 9 22 = some 7 := by decide +kernel
theorem ns_45069 : nSite 11 13 = some 5 := by decide +kernel
theorem ns_45076 : nSite 11 20 = some 1 := by decide +kernel
theorem ns_45085 : nSite 11 29 = some 0 := by decide +kernel
theorem ns_45092 : nSite 11 36 = some 3 := by decide +kernel
theorem ns_45101 : nSite 11 45 = some 10 := by decide +kernel
theorem ns_45110 : nSite 11 54 = some 8 := by decide +kernel
theorem ns_45117 : nSite 11 61 = some 2 := by decide +kernel
theorem ns_45124 : nSite 11 68 = some 6 := by decide +kernel
theorem ns_45131 : nSite 11 75 = some 7 := by decide +kernel
theorem ns_45138 : nSite 11 82 = some 9 := by decide +kernel
theorem ns_45161 : nSite 11 105 = some 4 := by decide +kernel
theorem ns_73735 : nSite 18 7 = some 11 := by decide +kernel
theorem ns_73738 : nSite 18 10 = some 12 := by decide +kernel
theorem as_20491 : aSite 5 11 = some 103 := by decide +kernel
theorem as_40971 : aSite 10 11 = some 104 := by decide +kernel
theorem cs_28 : cSite 0 28 = some (182, 1, false) := by decide +kernel
theorem cs_32 : cSite 0 32 = some (180, 1, false) := by decide +kernel
theorem cs_36 : cSite 0 36 = some (177, 1, false) := by decide +kernel
theorem cs_40 : cSite 0 40 = some (59, 0, true) := by decide +kernel
theorem cs_47 : cSite 0 47 = some (318, 0, false) := by decide +kernel
theorem cs_52 : cSite 0 52 = some (179, 1, false) := by decide +kernel
theorem cs_55 : cSite 0 55 = some (319, 0, false) := by decide +kernel
theorem cs_61 : cSite 0 61 = some (181, 1, false) := by decide +kernel
theorem cs_64 : cSite 0 64 = some (58, 0, true) := by decide +kernel
theorem cs_67 : cSite 0 67 = some (61, 0, true) := by decide +kernel
theorem cs_4137 : cSite 1 41 = some (187, 1, false) := by decide +kernel
theorem cs_4141 : cSite 1 45 = some (188, 1, false) := by decide +kernel
theorem cs_4145 : cSite 1 49 = some (238, 1, false) := by decide +kernel
theorem cs_4154 : cSite 1 58 = some (191, 1, false) := by decide +kernel
theorem cs_8216 : cSite 2 24 = some (319, 0, false) := by decide +kernel
theorem cs_8223 : cSite 2 31 = some (202, 1, false) := by decide +kernel
theorem cs_8227 : cSite 2 35 = some (203, 1, false) := by decide +kernel
theorem cs_8231 : cSite 2 39 = some (318, 0, false) := by decide +kernel
theorem cs_8236 : cSite 2 44 = some (199, 1, false) := by decide +kernel
theorem cs_8240 : cSite 2 48 = some (201, 1, false) := by decide +kernel
theorem cs_12332 : cSite 3 44 = some (219, 1, false) := by decide +kernel
theorem cs_12336 : cSite 3 48 = some (215, 1, false) := by decide +kernel
theorem cs_12340 : cSite 3 52 = some (191, 1, false) := by decide +kernel
theorem cs_12346 : cSite 3 58 = some (216, 1, false) := by decide +kernel
theorem cs_12350 : cSite 3 62 = some (212, 1, false) := by decide +kernel
theorem cs_12354 : cSite 3 66 = some (318, 0, false) := by decide +kernel
theorem cs_12359 : cSite 3 71 = some (222, 1, false) := by decide +kernel
theorem cs_12362 : cSite 3 74 = some (217, 1, false) := by decide +kernel
theorem cs_12366 : cSite 3 78 = some (221, 1, false) := by decide +kernel
theorem cs_12369 : cSite 3 81 = some (218, 1, false) := by decide +kernel
theorem cs_12372 : cSite 3 84 = some (220, 1, false) := by decide +kernel
theorem cs_12375 : cSite 3 87 = some (205, 1, false) := by decide +kernel
theorem cs_12379 : cSite 3 91 = some (208, 1, false) := by decide +kernel
theorem cs_16431 : cSite 4 47 = some (229, 1, false) := by decide +kernel
theorem cs_20513 : cSite 5 33 = some (319, 0, false) := by decide +kernel
theorem cs_20519 : cSite 5 39 = some (228, 1, false) := by decide +kernel
theorem cs_20523 : cSite 5 43 = some (224, 1, false) := by decide +kernel
theorem cs_20534 : cSite 5 54 = some (281, 1, false) := by decide +kernel
theorem cs_20540 : cSite 5 60 = some (236, 1, false) := by decide +kernel
theorem cs_20543 : cSite 5 63 = some (235, 1, false) := by decide +kernel
theorem cs_20547 : cSite 5 67 = some (63, 0, true) := by decide +kernel
theorem cs_20551 : cSite 5 71 = some (237, 1, false) := by decide +kernel
theorem cs_20555 : cSite 5 75 = some (62, 0, true) := by decide +kernel
theorem cs_20562 : cSite 5 82 = some (262, 1, false) := by decide +kernel
theorem cs_20568 : cSite 5 88 = some (260, 1, false) := by decide +kernel
theorem cs_20571 : cSite 5 91 = some (261, 1, false) := by decide +kernel
theorem cs_20581 : cSite 5 101 = some (57, 0, true) := by decide +kernel
theorem cs_20584 : cSite 5 104 = some (245, 1, false) := by decide +kernel
theorem cs_20587 : cSite 5 107 = some (246, 1, false) := by decide +kernel
theorem cs_20591 : cSite 5 111 = some (247, 1, false) := by decide +kernel
theorem cs_24599 : cSite 6 23 = some (319, 0, false) := by decide +kernel
theorem cs_24605 : cSite 6 29 = some (58, 0, true) := by decide +kernel
theorem cs_28687 : cSite 7 15 = some (320, 0, false) := by decide +kernel
theorem cs_28693 : cSite 7 21 = some (316, 0, false) := by decide +kernel
theorem cs_28699 : cSite 7 27 = some (262, 1, false) := by decide +kernel
theorem cs_28703 : cSite 7 31 = some (264, 1, false) := by decide +kernel
theorem cs_28707 : cSite 7 35 = some (266, 0, false) := by decide +kernel
theorem cs_28711 : cSite 7 39 = some (315, 0, false) := by decide +kernel
theorem cs_28716 : cSite 7 44 = some (267, 0, false) := by decide +kernel
theorem cs_28720 : cSite 7 48 = some (59, 0, true) := by decide +kernel
theorem cs_32793 : cSite 8 25 = some (278, 1, false) := by decide +kernel
theorem cs_32797 : cSite 8 29 = some (274, 1, false) := by decide +kernel
theorem cs_32801 : cSite 8 33 = some (277, 1, false) := by decide +kernel
theorem cs_32805 : cSite 8 37 = some (276, 1, false) := by decide +kernel
theorem cs_32808 : cSite 8 40 = some (315, 0, false) := by decide +kernel
theorem cs_36888 : cSite 9 24 = some (259, 2, true) := by decide +kernel
theorem cs_36896 : cSite 9 32 = some (318, 0, false) := by decide +kernel
theorem cs_36916 : cSite 9 52 = some (282, 1, false) := by decide +kernel
theorem cs_36920 : cSite 9 56 = some (285, 1, false) := by decide +kernel
theorem cs_36923 : cSite 9 59 = some (294, 1, false) := by decide +kernel
theorem cs_36926 : cSite 9 62 = some (262, 1, false) := by decide +kernel
theorem cs_36933 : cSite 9 69 = some (64, 0, true) := by decide +kernel
theorem cs_36937 : cSite 9 73 = some (291, 1, false) := by decide +kernel
theorem cs_36943 : cSite 9 79 = some (292, 1, false) := by decide +kernel
theorem cs_36951 : cSite 9 87 = some (283, 1, false) := by decide +kernel
theorem cs_36956 : cSite 9 92 = some (284, 1, false) := by decide +kernel
theorem cs_36959 : cSite 9 95 = some (293, 1, false) := by decide +kernel
theorem cs_36969 : cSite 9 105 = some (287, 1, false) := by decide +kernel
theorem cs_36973 : cSite 9 109 = some (286, 1, false) := by decide +kernel
theorem cs_36982 : cSite 9 118 = some (289, 0, false) := by decide +kernel
theorem cs_36986 : cSite 9 122 = some (60, 0, true) := by decide +kernel
theorem cs_36990 : cSite 9 126 = some (290, 0, false) := by decide +kernel
theorem cs_36993 : cSite 9 129 = some (288, 0, false) := by decide +kernel
theorem cs_36997 : cSite 9 133 = some (61, 0, true) := by decide +kernel
theorem cs_37001 : cSite 9 137 = some (321, 1, false) := by decide +kernel
theorem cs_37007 : cSite 9 143 = some (322, 1, false) := by decide +kernel
theorem cs_37009 : cSite 9 145 = some (260, 1, false) := by decide +kernel
theorem cs_37012 : cSite 9 148 = some (295, 1, false) := by decide +kernel
theorem cs_37015 : cSite 9 151 = some (261, 1, false) := by decide +kernel
theorem cs_37019 : cSite 9 155 = some (59, 0, true) := by decide +kernel
theorem cs_41007 : cSite 10 47 = some (311, 0, false) := by decide +kernel
theorem cs_41011 : cSite 10 51 = some (317, 0, false) := by decide +kernel
theorem cs_41016 : cSite 10 56 = some (312, 1, false) := by decide +kernel
theorem cs_41020 : cSite 10 60 = some (313, 1, false) := by decide +kernel
theorem cs_41023 : cSite 10 63 = some (306, 1, false) := by decide +kernel
theorem cs_41026 : cSite 10 66 = some (63, 0, true) := by decide +kernel
theorem cs_41030 : cSite 10 70 = some (314, 1, false) := by decide +kernel
theorem cs_41033 : cSite 10 73 = some (319, 0, false) := by decide +kernel
theorem cs_41043 : cSite 10 83 = some (308, 1, false) := by decide +kernel
theorem cs_41046 : cSite 10 86 = some (307, 1, false) := by decide +kernel
theorem cs_41049 : cSite 10 89 = some (237, 1, false) := by decide +kernel
theorem cs_41054 : cSite 10 94 = some (281, 1, false) := by decide +kernel
theorem cs_41058 : cSite 10 98 = some (310, 1, false) := by decide +kernel
theorem cs_41061 : cSite 10 101 = some (309, 1, false) := by decide +kernel
theorem cs_41068 : cSite 10 108 = some (64, 0, true) := by decide +kernel
theorem cs_41075 : cSite 10 115 = some (262, 1, false) := by decide +kernel
theorem cs_41081 : cSite 10 121 = some (235, 1, false) := by decide +kernel
theorem cs_41085 : cSite 10 125 = some (190, 1, false) := by decide +kernel
theorem cs_45071 : cSite 11 15 = some (230, 2, true) := by decide +kernel
theorem cs_45078 : cSite 11 22 = some (183, 2, false) := by decide +kernel
theorem cs_45087 : cSite 11 31 = some (171, 2, true) := by decide +kernel
theorem cs_45094 : cSite 11 38 = some (204, 2, false) := by decide +kernel
theorem cs_45103 : cSite 11 47 = some (296, 2, false) := by decide +kernel
theorem cs_45112 : cSite 11 56 = some (268, 2, true) := by decide +kernel
theorem cs_45119 : cSite 11 63 = some (197, 2, false) := by decide +kernel
theorem cs_45126 : cSite 11 70 = some (249, 2, false) := by decide +kernel
theorem cs_45133 : cSite 11 77 = some (259, 2, true) := by decide +kernel
theorem cs_45140 : cSite 11 84 = some (279, 2, false) := by decide +kernel
theorem cs_45151 : cSite 11 95 = some (54, 0, false) := by decide +kernel
theorem cs_45163 : cSite 11 107 = some (232, 1, false) := by decide +kernel
theorem cs_45167 : cSite 11 111 = some (280, 1, false) := by decide +kernel
theorem cs_45171 : cSite 11 115 = some (223, 2, false) := by decide +kernel
theorem cs_45174 : cSite 11 118 = some (234, 1, false) := by decide +kernel
theorem cs_45178 : cSite 11 122 = some (231, 1, false) := by decide +kernel
theorem cs_45182 : cSite 11 126 = some (233, 1, false) := by decide +kernel
theorem cs_45186 : cSite 11 130 = some (225, 1, false) := by decide +kernel
theorem cs_45190 : cSite 11 134 = some (226, 1, false) := by decide +kernel
theorem cs_45194 : cSite 11 138 = some (227, 1, false) := by decide +kernel
theorem cs_45222 : cSite 11 166 = some (55, 0, false) := by decide +kernel
theorem cs_45228 : cSite 11 172 = some (262, 1, false) := by decide +kernel
theorem cs_45229 : cSite 11 173 = some (238, 1, false) := by decide +kernel
theorem cs_45233 : cSite 11 177 = some (239, 1, false) := by decide +kernel
theorem cs_45237 : cSite 11 181 = some (185, 1, false) := by decide +kernel
theorem cs_45238 : cSite 11 182 = some (186, 1, false) := by decide +kernel
theorem cs_45241 : cSite 11 185 = some (184, 1, false) := by decide +kernel
theorem cs_45245 : cSite 11 189 = some (191, 1, false) := by decide +kernel
theorem cs_45248 : cSite 11 192 = some (194, 1, false) := by decide +kernel
theorem cs_45251 : cSite 11 195 = some (195, 1, false) := by decide +kernel
theorem cs_45255 : cSite 11 199 = some (193, 1, false) := by decide +kernel
theorem cs_45270 : cSite 11 214 = some (196, 1, false) := by decide +kernel
theorem cs_45273 : cSite 11 217 = some (240, 1, false) := by decide +kernel
theorem cs_45277 : cSite 11 221 = some (52, 0, false) := by decide +kernel
theorem cs_45281 : cSite 11 225 = some (241, 1, false) := by decide +kernel
theorem cs_45284 : cSite 11 228 = some (56, 0, false) := by decide +kernel
theorem cs_45287 : cSite 11 231 = some (172, 1, false) := by decide +kernel
theorem cs_45288 : cSite 11 232 = some (173, 1, false) := by decide +kernel
theorem cs_45290 : cSite 11 234 = some (250, 1, false) := by decide +kernel
theorem cs_45291 : cSite 11 235 = some (251, 1, false) := by decide +kernel
theorem cs_45292 : cSite 11 236 = some (252, 1, false) := by decide +kernel
theorem cs_45298 : cSite 11 242 = some (255, 1, false) := by decide +kernel
theorem cs_45301 : cSite 11 245 = some (258, 1, false) := by decide +kernel
theorem cs_45304 : cSite 11 248 = some (256, 1, false) := by decide +kernel
theorem cs_45307 : cSite 11 251 = some (20, 1, false) := by decide +kernel
theorem cs_45310 : cSite 11 254 = some (174, 1, false) := by decide +kernel
theorem cs_45313 : cSite 11 257 = some (175, 1, false) := by decide +kernel
theorem cs_45316 : cSite 11 260 = some (176, 1, false) := by decide +kernel
theorem cs_45319 : cSite 11 263 = some (177, 1, false) := by decide +kernel
theorem cs_45322 : cSite 11 266 = some (178, 1, false) := by decide +kernel
theorem cs_45325 : cSite 11 269 = some (179, 1, false) := by decide +kernel
theorem cs_45328 : cSite 11 272 = some (242, 1, false) := by decide +kernel
theorem cs_45332 : cSite 11 276 = some (263, 1, false) := by decide +kernel
theorem cs_45335 : cSite 11 279 = some (189, 1, false) := by decide +kernel
theorem cs_45338 : cSite 11 282 = some (51, 1, false) := by decide +kernel
theorem cs_45341 : cSite 11 285 = some (205, 1, false) := by decide +kernel
theorem cs_45342 : cSite 11 286 = some (206, 1, false) := by decide +kernel
theorem cs_45343 : cSite 11 287 = some (207, 1, false) := by decide +kernel
theorem cs_45346 : cSite 11 290 = some (208, 1, false) := by decide +kernel
theorem cs_45352 : cSite 11 296 = some (213, 1, false) := by decide +kernel
theorem cs_45355 : cSite 11 299 = some (214, 1, false) := by decide +kernel
theorem cs_45358 : cSite 11 302 = some (209, 1, false) := by decide +kernel
theorem cs_45373 : cSite 11 317 = some (212, 1, false) := by decide +kernel
theorem cs_45376 : cSite 11 320 = some (211, 1, false) := by decide +kernel
theorem cs_45379 : cSite 11 323 = some (192, 1, false) := by decide +kernel
theorem cs_45385 : cSite 11 329 = some (297, 1, false) := by decide +kernel
theorem cs_45388 : cSite 11 332 = some (298, 1, false) := by decide +kernel
theorem cs_45390 : cSite 11 334 = some (299, 1, false) := by decide +kernel
theorem cs_45393 : cSite 11 337 = some (301, 1, false) := by decide +kernel
theorem cs_45396 : cSite 11 340 = some (302, 1, false) := by decide +kernel
theorem cs_45399 : cSite 11 343 = some (303, 1, false) := by decide +kernel
theorem cs_45402 : cSite 11 346 = some (305, 1, false) := by decide +kernel
theorem cs_45405 : cSite 11 349 = some (304, 1, false) := by decide +kernel
theorem cs_45408 : cSite 11 352 = some (269, 1, false) := by decide +kernel
theorem cs_45411 : cSite 11 355 = some (270, 1, false) := by decide +kernel
theorem cs_45414 : cSite 11 358 = some (271, 1, false) := by decide +kernel
theorem cs_45417 : cSite 11 361 = some (272, 1, false) := by decide +kernel
theorem cs_45430 : cSite 11 374 = some (273, 1, false) := by decide +kernel
theorem cs_45433 : cSite 11 377 = some (274, 1, false) := by decide +kernel
theorem cs_45436 : cSite 11 380 = some (275, 1, false) := by decide +kernel
theorem cs_45439 : cSite 11 383 = some (276, 1, false) := by decide +kernel
theorem cs_45445 : cSite 11 389 = some (53, 0, false) := by decide +kernel
theorem cs_45452 : cSite 11 396 = some (198, 1, false) := by decide +kernel
theorem cs_45460 : cSite 11 404 = some (199, 1, false) := by decide +kernel
theorem cs_45463 : cSite 11 407 = some (200, 1, false) := by decide +kernel
theorem cs_45466 : cSite 11 410 = some (243, 1, false) := by decide +kernel
theorem cs_45469 : cSite 11 413 = some (246, 1, false) := by decide +kernel
theorem cs_45473 : cSite 11 417 = some (247, 1, false) := by decide +kernel
theorem cs_45476 : cSite 11 420 = some (248, 1, false) := by decide +kernel
theorem cs_45479 : cSite 11 423 = some (244, 1, false) := by decide +kernel
theorem cs_45482 : cSite 11 426 = some (57, 0, false) := by decide +kernel
theorem cs_45488 : cSite 11 432 = some (210, 1, false) := by decide +kernel
theorem cs_45491 : cSite 11 435 = some (300, 1, false) := by decide +kernel
theorem cs_45497 : cSite 11 441 = some (253, 1, false) := by decide +kernel
theorem cs_45500 : cSite 11 444 = some (254, 1, false) := by decide +kernel
theorem cs_45504 : cSite 11 448 = some (257, 1, false) := by decide +kernel
theorem cs_45519 : cSite 11 463 = some (188, 1, false) := by decide +kernel
theorem cs_45521 : cSite 11 465 = some (264, 1, false) := by decide +kernel
theorem cs_45524 : cSite 11 468 = some (265, 1, false) := by decide +kernel
theorem cs_49329 : cSite 12 177 = some (66, 0, false) := by decide +kernel
theorem cs_49339 : cSite 12 187 = some (71, 0, false) := by decide +kernel
theorem cs_49343 : cSite 12 191 = some (72, 0, false) := by decide +kernel
theorem cs_49359 : cSite 12 207 = some (76, 1, false) := by decide +kernel
theorem cs_49363 : cSite 12 211 = some (77, 1, false) := by decide +kernel
theorem cs_49367 : cSite 12 215 = some (78, 1, false) := by decide +kernel
theorem cs_49371 : cSite 12 219 = some (79, 1, false) := by decide +kernel
theorem cs_49375 : cSite 12 223 = some (81, 1, false) := by decide +kernel
theorem cs_49378 : cSite 12 226 = some (80, 1, false) := by decide +kernel
theorem cs_49381 : cSite 12 229 = some (82, 1, false) := by decide +kernel
theorem cs_49384 : cSite 12 232 = some (73, 0, false) := by decide +kernel
theorem cs_49387 : cSite 12 235 = some (84, 0, false) := by decide +kernel
theorem cs_49391 : cSite 12 239 = some (83, 1, false) := by decide +kernel
theorem cs_49394 : cSite 12 242 = some (68, 1, false) := by decide +kernel
theorem cs_49398 : cSite 12 246 = some (67, 0, false) := by decide +kernel
theorem cs_49401 : cSite 12 249 = some (85, 1, false) := by decide +kernel
theorem cs_49407 : cSite 12 255 = some (91, 1, false) := by decide +kernel
theorem cs_49410 : cSite 12 258 = some (92, 1, false) := by decide +kernel
theorem cs_49414 : cSite 12 262 = some (94, 0, false) := by decide +kernel
theorem cs_49418 : cSite 12 266 = some (93, 1, false) := by decide +kernel
theorem cs_49422 : cSite 12 270 = some (69, 1, false) := by decide +kernel
theorem cs_49425 : cSite 12 273 = some (99, 1, false) := by decide +kernel
theorem cs_49428 : cSite 12 276 = some (100, 1, false) := by decide +kernel
theorem cs_49435 : cSite 12 283 = some (103, 1, false) := by decide +kernel
theorem cs_49442 : cSite 12 290 = some (110, 0, false) := by decide +kernel
theorem cs_49445 : cSite 12 293 = some (109, 1, false) := by decide +kernel
theorem cs_49448 : cSite 12 296 = some (111, 1, false) := by decide +kernel
theorem cs_49454 : cSite 12 302 = some (70, 0, false) := by decide +kernel
theorem cs_49457 : cSite 12 305 = some (114, 1, false) := by decide +kernel
theorem cs_49460 : cSite 12 308 = some (117, 0, false) := by decide +kernel
theorem cs_49463 : cSite 12 311 = some (118, 1, false) := by decide +kernel
theorem cs_49466 : cSite 12 314 = some (119, 1, false) := by decide +kernel
theorem cs_49469 : cSite 12 317 = some (124, 1, false) := by decide +kernel
theorem cs_49472 : cSite 12 320 = some (127, 1, false) := by decide +kernel
theorem cs_49475 : cSite 12 323 = some (128, 1, false) := by decide +kernel
theorem cs_49478 : cSite 12 326 = some (129, 1, false) := by decide +kernel
theorem cs_49481 : cSite 12 329 = some (130, 1, false) := by decide +kernel
theorem cs_49485 : cSite 12 333 = some (131, 1, false) := by decide +kernel
theorem cs_49488 : cSite 12 336 = some (132, 1, false) := by decide +kernel
theorem cs_49492 : cSite 12 340 = some (138, 1, false) := by decide +kernel
theorem cs_49495 : cSite 12 343 = some (139, 1, false) := by decide +kernel
theorem cs_49504 : cSite 12 352 = some (145, 1, false) := by decide +kernel
theorem cs_49507 : cSite 12 355 = some (148, 1, false) := by decide +kernel
theorem cs_49511 : cSite 12 359 = some (150, 1, false) := by decide +kernel
theorem cs_49514 : cSite 12 362 = some (151, 1, false) := by decide +kernel
theorem cs_49517 : cSite 12 365 = some (152, 1, false) := by decide +kernel
theorem cs_49523 : cSite 12 371 = some (155, 1, false) := by decide +kernel
theorem cs_49529 : cSite 12 377 = some (156, 1, false) := by decide +kernel
theorem cs_49532 : cSite 12 380 = some (157, 1, false) := by decide +kernel
theorem cs_49535 : cSite 12 383 = some (158, 1, false) := by decide +kernel
theorem cs_49538 : cSite 12 386 = some (159, 1, false) := by decide +kernel
theorem cs_49541 : cSite 12 389 = some (160, 1, false) := by decide +kernel
theorem cs_49544 : cSite 12 392 = some (161, 1, false) := by decide +kernel
theorem cs_49547 : cSite 12 395 = some (162, 1, false) := by decide +kernel
theorem cs_49550 : cSite 12 398 = some (165, 0, false) := by decide +kernel
theorem cs_73737 : cSite 18 9 = some (0, 2, false) := by decide +kernel
theorem cs_73740 : cSite 18 12 = some (65, 2, false) := by decide +kernel
theorem cs_73741 : cSite 18 13 = some (1, 1, false) := by decide +kernel
theorem cs_73745 : cSite 18 17 = some (74, 1, false) := by decide +kernel
theorem cs_73746 : cSite 18 18 = some (2, 1, false) := by decide +kernel
theorem cs_73750 : cSite 18 22 = some (75, 1, false) := by decide +kernel
theorem cs_73751 : cSite 18 23 = some (3, 1, false) := by decide +kernel
theorem cs_73755 : cSite 18 27 = some (86, 1, false) := by decide +kernel
theorem cs_73756 : cSite 18 28 = some (4, 1, false) := by decide +kernel
theorem cs_73759 : cSite 18 31 = some (87, 1, false) := by decide +kernel
theorem cs_73760 : cSite 18 32 = some (5, 1, false) := by decide +kernel
theorem cs_73763 : cSite 18 35 = some (88, 1, false) := by decide +kernel
theorem cs_73764 : cSite 18 36 = some (6, 1, false) := by decide +kernel
theorem cs_73767 : cSite 18 39 = some (89, 1, false) := by decide +kernel
theorem cs_73768 : cSite 18 40 = some (7, 1, false) := by decide +kernel
theorem cs_73771 : cSite 18 43 = some (90, 1, false) := by decide +kernel
theorem cs_73772 : cSite 18 44 = some (8, 1, false) := by decide +kernel
theorem cs_73776 : cSite 18 48 = some (95, 1, false) := by decide +kernel
theorem cs_73777 : cSite 18 49 = some (9, 1, false) := by decide +kernel
theorem cs_73780 : cSite 18 52 = some (96, 1, false) := by decide +kernel
theorem cs_73781 : cSite 18 53 = some (10, 1, false) := by decide +kernel
theorem cs_73784 : cSite 18 56 = some (97, 1, false) := by decide +kernel
theorem cs_73785 : cSite 18 57 = some (11, 1, false) := by decide +kernel
theorem cs_73788 : cSite 18 60 = some (98, 1, false) := by decide +kernel
theorem cs_73789 : cSite 18 61 = some (12, 1, false) := by decide +kernel
theorem cs_73792 : cSite 18 64 = some (101, 1, false) := by decide +kernel
theorem cs_73793 : cSite 18 65 = some (13, 1, false) := by decide +kernel
theorem cs_73796 : cSite 18 68 = some (102, 1, false) := by decide +kernel
theorem cs_73797 : cSite 18 69 = some (14, 1, false) := by decide +kernel
theorem cs_73801 : cSite 18 73 = some (104, 1, false) := by decide +kernel
theorem cs_73802 : cSite 18 74 = some (15, 1, false) := by decide +kernel
theorem cs_73805 : cSite 18 77 = some (105, 1, false) := by decide +kernel
theorem cs_73806 : cSite 18 78 = some (16, 1, false) := by decide +kernel
theorem cs_73809 : cSite 18 81 = some (107, 1, false) := by decide +kernel
theorem cs_73810 : cSite 18 82 = some (17, 1, false) := by decide +kernel
theorem cs_73813 : cSite 18 85 = some (108, 1, false) := by decide +kernel
theorem cs_73814 : cSite 18 86 = some (18, 1, false) := by decide +kernel
theorem cs_73817 : cSite 18 89 = some (112, 1, false) := by decide +kernel
theorem cs_73818 : cSite 18 90 = some (19, 1, false) := by decide +kernel
theorem cs_73821 : cSite 18 93 = some (113, 1, false) := by decide +kernel
theorem cs_73822 : cSite 18 94 = some (20, 1, false) := by decide +kernel
theorem cs_73825 : cSite 18 97 = some (115, 1, false) := by decide +kernel
theorem cs_73826 : cSite 18 98 = some (21, 1, false) := by decide +kernel
theorem cs_73829 : cSite 18 101 = some (116, 1, false) := by decide +kernel
theorem cs_73830 : cSite 18 102 = some (22, 1, false) := by decide +kernel
theorem cs_73833 : cSite 18 105 = some (120, 1, false) := by decide +kernel
theorem cs_73834 : cSite 18 106 = some (23, 1, false) := by decide +kernel
theorem cs_73837 : cSite 18 109 = some (121, 1, false) := by decide +kernel
theorem cs_73838 : cSite 18 110 = some (24, 1, false) := by decide +kernel
theorem cs_73841 : cSite 18 113 = some (122, 1, false) := by decide +kernel
theorem cs_73842 : cSite 18 114 = some (25, 1, false) := by decide +kernel
theorem cs_73845 : cSite 18 117 = some (123, 1, false) := by decide +kernel
theorem cs_73846 : cSite 18 118 = some (26, 1, false) := by decide +kernel
theorem cs_73849 : cSite 18 121 = some (125, 1, false) := by decide +kernel
theorem cs_73850 : cSite 18 122 = some (27, 1, false) := by decide +kernel
theorem cs_73854 : cSite 18 126 = some (126, 1, false) := by decide +kernel
theorem cs_73855 : cSite 18 127 = some (28, 1, false) := by decide +kernel
theorem cs_73858 : cSite 18 130 = some (106, 1, false) := by decide +kernel
theorem cs_73859 : cSite 18 131 = some (29, 1, false) := by decide +kernel
theorem cs_73862 : cSite 18 134 = some (133, 1, false) := by decide +kernel
theorem cs_73863 : cSite 18 135 = some (30, 1, false) := by decide +kernel
theorem cs_73866 : cSite 18 138 = some (134, 1, false) := by decide +kernel
theorem cs_73867 : cSite 18 139 = some (31, 1, false) := by decide +kernel
theorem cs_73870 : cSite 18 142 = some (135, 1, false) := by decide +kernel
theorem cs_73871 : cSite 18 143 = some (32, 1, false) := by decide +kernel
theorem cs_73874 : cSite 18 146 = some (136, 1, false) := by decide +kernel
theorem cs_73875 : cSite 18 147 = some (33, 1, false) := by decide +kernel
theorem cs_73878 : cSite 18 150 = some (137, 1, false) := by decide +kernel
theorem cs_73879 : cSite 18 151 = some (34, 1, false) := by decide +kernel
theorem cs_73882 : cSite 18 154 = some (140, 1, false) := by decide +kernel
theorem cs_73883 : cSite 18 155 = some (35, 1, false) := by decide +kernel
theorem cs_73886 : cSite 18 158 = some (141, 1, false) := by decide +kernel
theorem cs_73887 : cSite 18 159 = some (36, 1, false) := by decide +kernel
theorem cs_73890 : cSite 18 162 = some (142, 1, false) := by decide +kernel
theorem cs_73891 : cSite 18 163 = some (37, 1, false) := by decide +kernel
theorem cs_73895 : cSite 18 167 = some (143, 1, false) := by decide +kernel
theorem cs_73896 : cSite 18 168 = some (38, 1, false) := by decide +kernel
theorem cs_73899 : cSite 18 171 = some (144, 1, false) := by decide +kernel
theorem cs_73900 : cSite 18 172 = some (39, 1, false) := by decide +kernel
theorem cs_73903 : cSite 18 175 = some (146, 1, false) := by decide +kernel
theorem cs_73904 : cSite 18 176 = some (40, 1, false) := by decide +kernel
theorem cs_73907 : cSite 18 179 = some (147, 1, false) := by decide +kernel
theorem cs_73908 : cSite 18 180 = some (41, 1, false) := by decide +kernel
theorem cs_73911 : cSite 18 183 = some (149, 1, false) := by decide +kernel
theorem cs_73912 : cSite 18 184 = some (42, 1, false) := by decide +kernel
theorem cs_73915 : cSite 18 187 = some (153, 1, false) := by decide +kernel
theorem cs_73916 : cSite 18 188 = some (43, 1, false) := by decide +kernel
theorem cs_73919 : cSite 18 191 = some (154, 1, false) := by decide +kernel
theorem cs_73920 : cSite 18 192 = some (44, 1, false) := by decide +kernel
theorem cs_73923 : cSite 18 195 = some (163, 1, false) := by decide +kernel
theorem cs_73924 : cSite 18 196 = some (45, 1, false) := by decide +kernel
theorem cs_73927 : cSite 18 199 = some (164, 1, false) := by decide +kernel
theorem cs_73928 : cSite 18 200 = some (46, 1, false) := by decide +kernel
theorem cs_73931 : cSite 18 203 = some (166, 1, false) := by decide +kernel
theorem cs_73932 : cSite 18 204 = some (47, 1, false) := by decide +kernel
theorem cs_73935 : cSite 18 207 = some (167, 1, false) := by decide +kernel
theorem cs_73936 : cSite 18 208 = some (48, 1, false) := by decide +kernel
theorem cs_73939 : cSite 18 211 = some (168, 1, false) := by decide +kernel
theorem cs_73940 : cSite 18 212 = some (49, 1, false) := by decide +kernel
theorem cs_73943 : cSite 18 215 = some (169, 1, false) := by decide +kernel
theorem cs_73944 : cSite 18 216 = some (50, 1, false) := by decide +kernel
theorem cs_73947 : cSite 18 219 = some (170, 1, false) := by decide +kernel
theorem callOf_eq {mi idx ks o cmi : Nat} {nest : Bool} {st as r : List AV} {K : KH} (ho : mOwn mi = o) (hs : cSite o idx = some (cmi, ks, nest)) (h : mLvl cmi < mLvl mi ∧ naOf cmi ks ≤ st.length ∧ catS (st.drop (naOf cmi ks)) ≤ 8 ∧ (mkL (st.take (naOf cmi ks)).reverse).length ≤ mMaxL cmi ∧ (ks = 0 ∨ isMM cmi = false)) (ha : (st.take (naOf cmi ks)).reverse = as) (hr : st.drop (naOf cmi ks) = r) (hv : recvOK cmi ks as K = true) : callOf mi idx ks st K = some (cmi, as, r) := by
  unfold callOf
  rw [ho, hs]
  show (if ks = ks ∧ _ then _ else _) = _
  rw [if_pos ⟨rfl, h.1, h.2.1, h.2.2.1, h.2.2.2.1, h.2.2.2.2, by rw [ha]; exact hv⟩, ha, hr]
theorem recv_st {cmi : Nat} {as : List AV} {K : KH} : recvOK cmi 0 as K = true := by
  unfold recvOK
  split <;> rfl
theorem recv_at {cmi ks a o : Nat} {as : List AV} {K : KH} (hk : K.1 a = o) (ho : mOwn cmi = o) (h13 : o < 13) : recvOK cmi ks (aR (some a) :: as) K = true := by
  show (ks == 0 || (K.1 a == mOwn cmi && decide (mOwn cmi < 13))) = true
  rw [hk, ho]; simp [h13]

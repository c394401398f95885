def im_code (y : Nat) : ByteArray := (bif Nat.blt y 111 then (bif Nat.blt y 55 then (bif Nat.blt y 27 then (bif Nat.blt y 13 then (bif Nat.blt y 6 then (bif Nat.blt y 3 then (bif Nat.blt y 1 then cX0_init else (bif Nat.blt y 2 then cX0_keep else cX1_signs)) else (bif Nat.blt y 4 then cX1_minds else (bif Nat.blt y 5 then cX1_serves else cX1_isOne))) else (bif Nat.blt y 9 then (bif Nat.blt y 7 then cX2_init else (bif Nat.blt y 8 then cX2_come else cX2_become)) else (bif Nat.blt y 11 then (bif Nat.blt y 10 then cX2_signIn else cX3_init) else (bif Nat.blt y 12 then cX3_weigh else cX3_daysOf)))) else (bif Nat.blt y 20 then (bif Nat.blt y 16 then (bif Nat.blt y 14 then cX3_lieBest else (bif Nat.blt y 15 then cX3_lie else cX4_init)) else (bif Nat.blt y 18 then (bif Nat.blt y 17 then cX4_isWatched else cX4_says) else (bif Nat.blt y 19 then cX4_companyIn else cX4_daysIn))) else (bif Nat.blt y 23 then (bif Nat.blt y 21 then cX4_daysOfBothIn else (bif Nat.blt y 22 then cX4_daysOfDay else cX4_isQuiet)) else (bif Nat.blt y 25 then (bif Nat.blt y 24 then cX5_init else cX5_isMissing) else (bif Nat.blt y 26 then cX5_hasPlace else cX5_hasRoom))))) else (bif Nat.blt y 41 then (bif Nat.blt y 34 then (bif Nat.blt y 30 then (bif Nat.blt y 28 then cX5_become else (bif Nat.blt y 29 then cX5_set else cX6_init)) else (bif Nat.blt y 32 then (bif Nat.blt y 31 then cX6_add else cX6_spell) else (bif Nat.blt y 33 then cX6_isDigit else cX6_isLetter))) else (bif Nat.blt y 37 then (bif Nat.blt y 35 then cX6_isBlank else (bif Nat.blt y 36 then cX6_isSign else cX6_spells)) else (bif Nat.blt y 39 then (bif Nat.blt y 38 then cX7_init else cX7_clear) else (bif Nat.blt y 40 then cX7_add else cX7_endPart)))) else (bif Nat.blt y 48 then (bif Nat.blt y 44 then (bif Nat.blt y 42 then cX7_valueOf else (bif Nat.blt y 43 then cX7_named else cX7_turned)) else (bif Nat.blt y 46 then (bif Nat.blt y 45 then cX7_joined else cX8_init) else (bif Nat.blt y 47 then cX8_read else cX8_either))) else (bif Nat.blt y 51 then (bif Nat.blt y 49 then cX8_both else (bif Nat.blt y 50 then cX8_negated else cX8_afterNot)) else (bif Nat.blt y 53 then (bif Nat.blt y 52 then cX8_compared else cX8_sum) else (bif Nat.blt y 54 then cX8_product else cX8_one)))))) else (bif Nat.blt y 83 then (bif Nat.blt y 69 then (bif Nat.blt y 62 then (bif Nat.blt y 58 then (bif Nat.blt y 56 then cX8_afterMinus else (bif Nat.blt y 57 then cX8_inBrackets else cX8_mayOpen)) else (bif Nat.blt y 60 then (bif Nat.blt y 59 then cX8_expect else cX8_refuse) else (bif Nat.blt y 61 then cX8_advance else cX8_takeNumber))) else (bif Nat.blt y 65 then (bif Nat.blt y 63 then cX8_takeWord else (bif Nat.blt y 64 then cX8_word else cX9_init)) else (bif Nat.blt y 67 then (bif Nat.blt y 66 then cX9_count else cX9_watches) else (bif Nat.blt y 68 then cX9_feed else cX9_text)))) else (bif Nat.blt y 76 then (bif Nat.blt y 72 then (bif Nat.blt y 70 then cX9_force else (bif Nat.blt y 71 then cX9_asks else cX9_man)) else (bif Nat.blt y 74 then (bif Nat.blt y 73 then cX9_put else cX9_told) else (bif Nat.blt y 75 then cX9_move else cX9_hour))) else (bif Nat.blt y 79 then (bif Nat.blt y 77 then cX9_day else (bif Nat.blt y 78 then cX9_all else cX9_live)) else (bif Nat.blt y 81 then (bif Nat.blt y 80 then cX9_better else cX9_swap) else (bif Nat.blt y 82 then cX9_beds else cX9_guard))))) else (bif Nat.blt y 97 then (bif Nat.blt y 90 then (bif Nat.blt y 86 then (bif Nat.blt y 84 then cX9_codes else (bif Nat.blt y 85 then cX9_code else cX9_knows)) else (bif Nat.blt y 88 then (bif Nat.blt y 87 then cX9_still else cX9_unseen) else (bif Nat.blt y 89 then cX9_judge else cX9_kinds))) else (bif Nat.blt y 93 then (bif Nat.blt y 91 then cX9_did else (bif Nat.blt y 92 then cX9_laws else cX9_whose)) else (bif Nat.blt y 95 then (bif Nat.blt y 94 then cX9_film else cX9_drawn) else (bif Nat.blt y 96 then cX9_odds else cX9_image)))) else (bif Nat.blt y 104 then (bif Nat.blt y 100 then (bif Nat.blt y 98 then cX9_back else (bif Nat.blt y 99 then cX9_sheet else cX9_cell)) else (bif Nat.blt y 102 then (bif Nat.blt y 101 then cX9_copy else cX9_menBy) else (bif Nat.blt y 103 then cX9_taken else cX9_within))) else (bif Nat.blt y 107 then (bif Nat.blt y 105 then cX9_isByte else (bif Nat.blt y 106 then cX9_has else cX9_noHour)) else (bif Nat.blt y 109 then (bif Nat.blt y 108 then cX9_noSheet else cX9_noMan) else (bif Nat.blt y 110 then cX9_enforce else cX9_mateNumber))))))) else (bif Nat.blt y 166 then (bif Nat.blt y 138 then (bif Nat.blt y 124 then (bif Nat.blt y 117 then (bif Nat.blt y 114 then (bif Nat.blt y 112 then cX9_mateOf else (bif Nat.blt y 113 then cX9_thoughtOf else cX9_doingOtherwise)) else (bif Nat.blt y 115 then cX9_hoursOfCompany else (bif Nat.blt y 116 then cX9_firstCompany else cX9_mostCompany))) else (bif Nat.blt y 120 then (bif Nat.blt y 118 then cX9_allSwapped else (bif Nat.blt y 119 then cX9_placeSwapped else cX9_tellHourDays)) else (bif Nat.blt y 122 then (bif Nat.blt y 121 then cX9_daysWatching else cX9_quietDoings) else (bif Nat.blt y 123 then cX9_leastOf else cX9_inLowestTerms)))) else (bif Nat.blt y 131 then (bif Nat.blt y 127 then (bif Nat.blt y 125 then cX9_commonDivisor else (bif Nat.blt y 126 then cX9_refusesSheetOfDay else cX9_refusesDay)) else (bif Nat.blt y 129 then (bif Nat.blt y 128 then cX9_firstOtherwise else cX9_agreesIf) else (bif Nat.blt y 130 then cX9_allCoughing else cX10_init))) else (bif Nat.blt y 134 then (bif Nat.blt y 132 then cX10_in else (bif Nat.blt y 133 then cX10_within else cX10_isMan)) else (bif Nat.blt y 136 then (bif Nat.blt y 135 then cX10_isHour else cX10_count) else (bif Nat.blt y 137 then cX10_watches else cX10_isByte))))) else (bif Nat.blt y 152 then (bif Nat.blt y 145 then (bif Nat.blt y 141 then (bif Nat.blt y 139 then cX10_feed else (bif Nat.blt y 140 then cX10_wordFrom else cX10_next)) else (bif Nat.blt y 143 then (bif Nat.blt y 142 then cX10_rank else cX10_puts) else (bif Nat.blt y 144 then cX10_unwinds else cX10_holds))) else (bif Nat.blt y 148 then (bif Nat.blt y 146 then cX10_opensOne else (bif Nat.blt y 147 then cX10_between else cX10_signOf)) else (bif Nat.blt y 150 then (bif Nat.blt y 149 then cX10_eRead else cX10_text) else (bif Nat.blt y 151 then cX10_two else cX10_says)))) else (bif Nat.blt y 159 then (bif Nat.blt y 155 then (bif Nat.blt y 153 then cX10_force else (bif Nat.blt y 154 then cX10_mateOf else cX10_signs)) else (bif Nat.blt y 157 then (bif Nat.blt y 156 then cX10_signTo else cX10_asksOf) else (bif Nat.blt y 158 then cX10_asks else cX10_man))) else (bif Nat.blt y 162 then (bif Nat.blt y 160 then cX10_put else (bif Nat.blt y 161 then cX10_told else cX10_changes)) else (bif Nat.blt y 164 then (bif Nat.blt y 163 then cX10_move else cX10_companyOf) else (bif Nat.blt y 165 then cX10_daysOf else cX10_dayOf)))))) else (bif Nat.blt y 194 then (bif Nat.blt y 180 then (bif Nat.blt y 173 then (bif Nat.blt y 169 then (bif Nat.blt y 167 then cX10_allOf else (bif Nat.blt y 168 then cX10_hour else cX10_day)) else (bif Nat.blt y 171 then (bif Nat.blt y 170 then cX10_all else cX10_live) else (bif Nat.blt y 172 then cX10_better else cX10_swap))) else (bif Nat.blt y 176 then (bif Nat.blt y 174 then cX10_tellsPairs else (bif Nat.blt y 175 then cX10_tells else cX10_beds)) else (bif Nat.blt y 178 then (bif Nat.blt y 177 then cX10_ones else cX10_guard) else (bif Nat.blt y 179 then cX10_isQuiet else cX10_quietBy)))) else (bif Nat.blt y 187 then (bif Nat.blt y 183 then (bif Nat.blt y 181 then cX10_codes else (bif Nat.blt y 182 then cX10_lowestOf else cX10_code)) else (bif Nat.blt y 185 then (bif Nat.blt y 184 then cX10_knows else cX10_still) else (bif Nat.blt y 186 then cX10_lowest else cX10_unseen))) else (bif Nat.blt y 190 then (bif Nat.blt y 188 then cX10_sheetWrong else (bif Nat.blt y 189 then cX10_toldWrong else cX10_unlike)) else (bif Nat.blt y 192 then (bif Nat.blt y 191 then cX10_judge else cX10_kinds) else (bif Nat.blt y 193 then cX10_did else cX10_laws))))) else (bif Nat.blt y 208 then (bif Nat.blt y 201 then (bif Nat.blt y 197 then (bif Nat.blt y 195 then cX10_whose else (bif Nat.blt y 196 then cX10_film else cX10_allBy)) else (bif Nat.blt y 199 then (bif Nat.blt y 198 then cX10_drawn else cX10_odds) else (bif Nat.blt y 200 then cX10_image else cX10_back))) else (bif Nat.blt y 204 then (bif Nat.blt y 202 then cX10_sheet else (bif Nat.blt y 203 then cX10_cell else cX10_copy)) else (bif Nat.blt y 206 then (bif Nat.blt y 205 then cX10_menBy else cX10_isUnder) else (bif Nat.blt y 207 then cX10_taken else cJ6_bitCount_0f7a4)))) else (bif Nat.blt y 215 then (bif Nat.blt y 211 then (bif Nat.blt y 209 then cJ9_max_7cf53 else (bif Nat.blt y 210 then cJ9_min_7cf53 else cJ0_length_8abf5)) else (bif Nat.blt y 213 then (bif Nat.blt y 212 then cJ0_charAt_5068e else cJ0_coder_7d493) else (bif Nat.blt y 214 then cJ0_isLatin1_aae02 else cJ0_checkIndex_df160))) else (bif Nat.blt y 218 then (bif Nat.blt y 216 then cJ1_charAt_3b067 else (bif Nat.blt y 217 then cJ2_getChar_3b067 else cJ2_length_9d52b)) else (bif Nat.blt y 220 then (bif Nat.blt y 219 then cJ2_charAt_3b067 else cJ2_checkIndex_2214a) else (bif Nat.blt y 221 then cJ3_checkIndex_8e157 else cL_law))))))))
def im_mn (y : Nat) : MethodName := (bif Nat.blt y 111 then (bif Nat.blt y 55 then (bif Nat.blt y 27 then (bif Nat.blt y 13 then (bif Nat.blt y 6 then (bif Nat.blt y 3 then (bif Nat.blt y 1 then yX0_init else (bif Nat.blt y 2 then yX0_keep else yX1_signs)) else (bif Nat.blt y 4 then yX1_minds else (bif Nat.blt y 5 then yX1_serves else yX1_isOne))) else (bif Nat.blt y 9 then (bif Nat.blt y 7 then yX2_init else (bif Nat.blt y 8 then yX2_come else yX2_become)) else (bif Nat.blt y 11 then (bif Nat.blt y 10 then yX2_signIn else yX3_init) else (bif Nat.blt y 12 then yX3_weigh else yX3_daysOf)))) else (bif Nat.blt y 20 then (bif Nat.blt y 16 then (bif Nat.blt y 14 then yX3_lieBest else (bif Nat.blt y 15 then yX3_lie else yX4_init)) else (bif Nat.blt y 18 then (bif Nat.blt y 17 then yX4_isWatched else yX4_says) else (bif Nat.blt y 19 then yX4_companyIn else yX4_daysIn))) else (bif Nat.blt y 23 then (bif Nat.blt y 21 then yX4_daysOfBothIn else (bif Nat.blt y 22 then yX4_daysOfDay else yX4_isQuiet)) else (bif Nat.blt y 25 then (bif Nat.blt y 24 then yX5_init else yX5_isMissing) else (bif Nat.blt y 26 then yX5_hasPlace else yX5_hasRoom))))) else (bif Nat.blt y 41 then (bif Nat.blt y 34 then (bif Nat.blt y 30 then (bif Nat.blt y 28 then yX5_become else (bif Nat.blt y 29 then yX5_set else yX6_init)) else (bif Nat.blt y 32 then (bif Nat.blt y 31 then yX6_add else yX6_spell) else (bif Nat.blt y 33 then yX6_isDigit else yX6_isLetter))) else (bif Nat.blt y 37 then (bif Nat.blt y 35 then yX6_isBlank else (bif Nat.blt y 36 then yX6_isSign else yX6_spells)) else (bif Nat.blt y 39 then (bif Nat.blt y 38 then yX7_init else yX7_clear) else (bif Nat.blt y 40 then yX7_add else yX7_endPart)))) else (bif Nat.blt y 48 then (bif Nat.blt y 44 then (bif Nat.blt y 42 then yX7_valueOf else (bif Nat.blt y 43 then yX7_named else yX7_turned)) else (bif Nat.blt y 46 then (bif Nat.blt y 45 then yX7_joined else yX8_init) else (bif Nat.blt y 47 then yX8_read else yX8_either))) else (bif Nat.blt y 51 then (bif Nat.blt y 49 then yX8_both else (bif Nat.blt y 50 then yX8_negated else yX8_afterNot)) else (bif Nat.blt y 53 then (bif Nat.blt y 52 then yX8_compared else yX8_sum) else (bif Nat.blt y 54 then yX8_product else yX8_one)))))) else (bif Nat.blt y 83 then (bif Nat.blt y 69 then (bif Nat.blt y 62 then (bif Nat.blt y 58 then (bif Nat.blt y 56 then yX8_afterMinus else (bif Nat.blt y 57 then yX8_inBrackets else yX8_mayOpen)) else (bif Nat.blt y 60 then (bif Nat.blt y 59 then yX8_expect else yX8_refuse) else (bif Nat.blt y 61 then yX8_advance else yX8_takeNumber))) else (bif Nat.blt y 65 then (bif Nat.blt y 63 then yX8_takeWord else (bif Nat.blt y 64 then yX8_word else yX9_init)) else (bif Nat.blt y 67 then (bif Nat.blt y 66 then yX9_count else yX9_watches) else (bif Nat.blt y 68 then yX9_feed else yX9_text)))) else (bif Nat.blt y 76 then (bif Nat.blt y 72 then (bif Nat.blt y 70 then yX9_force else (bif Nat.blt y 71 then yX9_asks else yX9_man)) else (bif Nat.blt y 74 then (bif Nat.blt y 73 then yX9_put else yX9_told) else (bif Nat.blt y 75 then yX9_move else yX9_hour))) else (bif Nat.blt y 79 then (bif Nat.blt y 77 then yX9_day else (bif Nat.blt y 78 then yX9_all else yX9_live)) else (bif Nat.blt y 81 then (bif Nat.blt y 80 then yX9_better else yX9_swap) else (bif Nat.blt y 82 then yX9_beds else yX9_guard))))) else (bif Nat.blt y 97 then (bif Nat.blt y 90 then (bif Nat.blt y 86 then (bif Nat.blt y 84 then yX9_codes else (bif Nat.blt y 85 then yX9_code else yX9_knows)) else (bif Nat.blt y 88 then (bif Nat.blt y 87 then yX9_still else yX9_unseen) else (bif Nat.blt y 89 then yX9_judge else yX9_kinds))) else (bif Nat.blt y 93 then (bif Nat.blt y 91 then yX9_did else (bif Nat.blt y 92 then yX9_laws else yX9_whose)) else (bif Nat.blt y 95 then (bif Nat.blt y 94 then yX9_film else yX9_drawn) else (bif Nat.blt y 96 then yX9_odds else yX9_image)))) else (bif Nat.blt y 104 then (bif Nat.blt y 100 then (bif Nat.blt y 98 then yX9_back else (bif Nat.blt y 99 then yX9_sheet else yX9_cell)) else (bif Nat.blt y 102 then (bif Nat.blt y 101 then yX9_copy else yX9_menBy) else (bif Nat.blt y 103 then yX9_taken else yX9_within))) else (bif Nat.blt y 107 then (bif Nat.blt y 105 then yX9_isByte else (bif Nat.blt y 106 then yX9_has else yX9_noHour)) else (bif Nat.blt y 109 then (bif Nat.blt y 108 then yX9_noSheet else yX9_noMan) else (bif Nat.blt y 110 then yX9_enforce else yX9_mateNumber))))))) else (bif Nat.blt y 166 then (bif Nat.blt y 138 then (bif Nat.blt y 124 then (bif Nat.blt y 117 then (bif Nat.blt y 114 then (bif Nat.blt y 112 then yX9_mateOf else (bif Nat.blt y 113 then yX9_thoughtOf else yX9_doingOtherwise)) else (bif Nat.blt y 115 then yX9_hoursOfCompany else (bif Nat.blt y 116 then yX9_firstCompany else yX9_mostCompany))) else (bif Nat.blt y 120 then (bif Nat.blt y 118 then yX9_allSwapped else (bif Nat.blt y 119 then yX9_placeSwapped else yX9_tellHourDays)) else (bif Nat.blt y 122 then (bif Nat.blt y 121 then yX9_daysWatching else yX9_quietDoings) else (bif Nat.blt y 123 then yX9_leastOf else yX9_inLowestTerms)))) else (bif Nat.blt y 131 then (bif Nat.blt y 127 then (bif Nat.blt y 125 then yX9_commonDivisor else (bif Nat.blt y 126 then yX9_refusesSheetOfDay else yX9_refusesDay)) else (bif Nat.blt y 129 then (bif Nat.blt y 128 then yX9_firstOtherwise else yX9_agreesIf) else (bif Nat.blt y 130 then yX9_allCoughing else yX10_init))) else (bif Nat.blt y 134 then (bif Nat.blt y 132 then yX10_in else (bif Nat.blt y 133 then yX10_within else yX10_isMan)) else (bif Nat.blt y 136 then (bif Nat.blt y 135 then yX10_isHour else yX10_count) else (bif Nat.blt y 137 then yX10_watches else yX10_isByte))))) else (bif Nat.blt y 152 then (bif Nat.blt y 145 then (bif Nat.blt y 141 then (bif Nat.blt y 139 then yX10_feed else (bif Nat.blt y 140 then yX10_wordFrom else yX10_next)) else (bif Nat.blt y 143 then (bif Nat.blt y 142 then yX10_rank else yX10_puts) else (bif Nat.blt y 144 then yX10_unwinds else yX10_holds))) else (bif Nat.blt y 148 then (bif Nat.blt y 146 then yX10_opensOne else (bif Nat.blt y 147 then yX10_between else yX10_signOf)) else (bif Nat.blt y 150 then (bif Nat.blt y 149 then yX10_eRead else yX10_text) else (bif Nat.blt y 151 then yX10_two else yX10_says)))) else (bif Nat.blt y 159 then (bif Nat.blt y 155 then (bif Nat.blt y 153 then yX10_force else (bif Nat.blt y 154 then yX10_mateOf else yX10_signs)) else (bif Nat.blt y 157 then (bif Nat.blt y 156 then yX10_signTo else yX10_asksOf) else (bif Nat.blt y 158 then yX10_asks else yX10_man))) else (bif Nat.blt y 162 then (bif Nat.blt y 160 then yX10_put else (bif Nat.blt y 161 then yX10_told else yX10_changes)) else (bif Nat.blt y 164 then (bif Nat.blt y 163 then yX10_move else yX10_companyOf) else (bif Nat.blt y 165 then yX10_daysOf else yX10_dayOf)))))) else (bif Nat.blt y 194 then (bif Nat.blt y 180 then (bif Nat.blt y 173 then (bif Nat.blt y 169 then (bif Nat.blt y 167 then yX10_allOf else (bif Nat.blt y 168 then yX10_hour else yX10_day)) else (bif Nat.blt y 171 then (bif Nat.blt y 170 then yX10_all else yX10_live) else (bif Nat.blt y 172 then yX10_better else yX10_swap))) else (bif Nat.blt y 176 then (bif Nat.blt y 174 then yX10_tellsPairs else (bif Nat.blt y 175 then yX10_tells else yX10_beds)) else (bif Nat.blt y 178 then (bif Nat.blt y 177 then yX10_ones else yX10_guard) else (bif Nat.blt y 179 then yX10_isQuiet else yX10_quietBy)))) else (bif Nat.blt y 187 then (bif Nat.blt y 183 then (bif Nat.blt y 181 then yX10_codes else (bif Nat.blt y 182 then yX10_lowestOf else yX10_code)) else (bif Nat.blt y 185 then (bif Nat.blt y 184 then yX10_knows else yX10_still) else (bif Nat.blt y 186 then yX10_lowest else yX10_unseen))) else (bif Nat.blt y 190 then (bif Nat.blt y 188 then yX10_sheetWrong else (bif Nat.blt y 189 then yX10_toldWrong else yX10_unlike)) else (bif Nat.blt y 192 then (bif Nat.blt y 191 then yX10_judge else yX10_kinds) else (bif Nat.blt y 193 then yX10_did else yX10_laws))))) else (bif Nat.blt y 208 then (bif Nat.blt y 201 then (bif Nat.blt y 197 then (bif Nat.blt y 195 then yX10_whose else (bif Nat.blt y 196 then yX10_film else yX10_allBy)) else (bif Nat.blt y 199 then (bif Nat.blt y 198 then yX10_drawn else yX10_odds) else (bif Nat.blt y 200 then yX10_image else yX10_back))) else (bif Nat.blt y 204 then (bif Nat.blt y 202 then yX10_sheet else (bif Nat.blt y 203 then yX10_cell else yX10_copy)) else (bif Nat.blt y 206 then (bif Nat.blt y 205 then yX10_menBy else yX10_isUnder) else (bif Nat.blt y 207 then yX10_taken else yJ6_bitCount_0f7a4)))) else (bif Nat.blt y 215 then (bif Nat.blt y 211 then (bif Nat.blt y 209 then yJ9_max_7cf53 else (bif Nat.blt y 210 then yJ9_min_7cf53 else yJ0_length_8abf5)) else (bif Nat.blt y 213 then (bif Nat.blt y 212 then yJ0_charAt_5068e else yJ0_coder_7d493) else (bif Nat.blt y 214 then yJ0_isLatin1_aae02 else yJ0_checkIndex_df160))) else (bif Nat.blt y 218 then (bif Nat.blt y 216 then yJ1_charAt_3b067 else (bif Nat.blt y 217 then yJ2_getChar_3b067 else yJ2_length_9d52b)) else (bif Nat.blt y 220 then (bif Nat.blt y 219 then yJ2_charAt_3b067 else yJ2_checkIndex_2214a) else (bif Nat.blt y 221 then yJ3_checkIndex_8e157 else yL_law))))))))
def im_C (y : Nat) : String := (bif Nat.blt y 5 then (bif Nat.blt y 2 then (bif Nat.blt y 1 then RX0 else RX2) else (bif Nat.blt y 3 then RX3 else (bif Nat.blt y 4 then RX4 else RX5))) else (bif Nat.blt y 7 then (bif Nat.blt y 6 then RX6 else RX7) else (bif Nat.blt y 8 then RX8 else (bif Nat.blt y 9 then RX9 else RX10))))
def im_T (y : Nat) : u_T := (bif Nat.blt y 5 then (bif Nat.blt y 2 then (bif Nat.blt y 1 then TX0 else TX2) else (bif Nat.blt y 3 then TX3 else (bif Nat.blt y 4 then TX4 else TX5))) else (bif Nat.blt y 7 then (bif Nat.blt y 6 then TX6 else TX7) else (bif Nat.blt y 8 then TX8 else (bif Nat.blt y 9 then TX9 else TX10))))
def im_ty (y : Nat) : Nat → FieldType := (bif Nat.blt y 5 then (bif Nat.blt y 2 then (bif Nat.blt y 1 then tyX0 else tyX2) else (bif Nat.blt y 3 then tyX3 else (bif Nat.blt y 4 then tyX4 else tyX5))) else (bif Nat.blt y 7 then (bif Nat.blt y 6 then tyX6 else tyX7) else (bif Nat.blt y 8 then tyX8 else (bif Nat.blt y 9 then tyX9 else tyX10))))
def im_str (y : Nat) : String := (bif Nat.blt y 6 then (bif Nat.blt y 3 then (bif Nat.blt y 1 then "counts mine * his ; pays 9 ; sees 20 ;" else (bif Nat.blt y 2 then "counts" else "pays")) else (bif Nat.blt y 4 then "sees" else (bif Nat.blt y 5 then "or" else "and"))) else (bif Nat.blt y 9 then (bif Nat.blt y 7 then "not" else (bif Nat.blt y 8 then "mine" else "his")) else (bif Nat.blt y 11 then (bif Nat.blt y 10 then "hour" else "term") else (bif Nat.blt y 12 then "more" else "watched"))))
def im_nM : Nat := 221
def im_okw (w : Jvm.Cond) : Bool := goodWord w || (match w with
  | .methodLinkNest _ _ _ _ => true
  | .arrayOver _ => true
  | .stringRef _ _ _ => true
  | _ => false)
def im_ws : List Jvm.Cond := lw_tbl.filter im_okw
def im_at (c : Nat) (w : Jvm.Cond) : Bool := decide (tables_1[c]? = some w) && im_okw w
theorem im_at_mem {c : Nat} {w : Jvm.Cond} (h : im_at c w = true) : w ∈ im_ws := by
  simp only [im_at, Bool.and_eq_true, decide_eq_true_eq] at h
  exact List.mem_filter.mpr ⟨List.mem_append_right _ (List.mem_of_getElem? h.1), h.2⟩
def im_okR (y pc nx a b c : Nat) (ins : Instr) : Bool := match ins with
  | .tableswitch _ _ _ _ => true
  | .lookupswitch _ _ => true
  | .goto o => Nat.beq nx (pc + 3) && decide ((pc : Int) + o = (a : Int))
  | .ifnull o => Nat.beq nx (pc + 3) && decide ((pc : Int) + o = (a : Int))
  | .ifnonnull o => Nat.beq nx (pc + 3) && decide ((pc : Int) + o = (a : Int))
  | .ifCond _ o => Nat.beq nx (pc + 3) && decide ((pc : Int) + o = (a : Int))
  | .if_icmp _ o => Nat.beq nx (pc + 3) && decide ((pc : Int) + o = (a : Int))
  | .getfield i => Nat.beq nx (pc + 3) && (bif Nat.beq a 20 then (bif Nat.beq b 0 then im_at c (.fieldLink (im_mn y).cls i "java/lang/String" "value" "[B") else Nat.beq b 1 && im_at c (.fieldLink (im_mn y).cls i "java/lang/String" "coder" "B"))
    else Nat.blt a 10 && im_at c (.fieldLink (im_mn y).cls i (im_C a) (im_T a b).2.1 (im_T a b).2.2.1))
  | .putfield i => Nat.beq nx (pc + 3) && Nat.blt a 10 && im_at c (.fieldLink (im_mn y).cls i (im_C a) (im_T a b).2.1 (im_T a b).2.2.1) && (!(im_T a b).2.2.2 || (decide ((im_mn y).name = "<init>") && decide ((im_mn y).cls = im_C a)))
  | .getstatic i => Nat.beq nx (pc + 3) && (bif Nat.beq a 30 then im_at c (.fieldLink (im_mn y).cls i "AloneTogether$Kind" "ABOVE" "[I") else bif Nat.beq a 31 then im_at c (.fieldLink (im_mn y).cls i "java/lang/String" "COMPACT_STRINGS" "Z")
    else bif Nat.beq a 32 then im_at c (.fieldLink (im_mn y).cls i "jdk/internal/util/Preconditions" "SIOOBE_FORMATTER" "Ljava/util/function/BiFunction;") else true)
  | .new i => Nat.beq nx (pc + 3) && (!Nat.blt a 10 || im_at c (.classLink (im_mn y).cls i (im_C a)))
  | .anewarray i => Nat.beq nx (pc + 3) && (!Nat.blt a 10 || im_at c (.classLink (im_mn y).cls i (im_C a)))
  | .ldc i => Nat.beq nx (pc + 2) && (bif Nat.beq b 0 then im_at c (.constant (im_mn y).cls i (Int32.ofNat a)) else bif Nat.beq b 1 then Nat.blt a 13 && im_at c (.stringRef (im_mn y).cls i (im_str a)) else true)
  | .ldc_w i => Nat.beq nx (pc + 3) && (bif Nat.beq b 0 then im_at c (.constant (im_mn y).cls i (Int32.ofNat a)) else true)
  | .ldc2_w i => Nat.beq nx (pc + 3) && (bif Nat.beq b 0 then im_at c (.constantLong (im_mn y).cls i (Int64.ofNat a)) else true)
  | .invokevirtual i => Nat.beq nx (pc + 3) && (bif Nat.ble 900 a then !(Nat.beq a 900 || Nat.beq a 901) else Nat.blt a im_nM && Nat.blt 0 (im_rc a) && (bif Nat.beq b 0 then im_at c (.methodLink (im_mn y).cls i (im_mn a)) else im_at c (.methodLinkNest (im_mn y).cls i (im_mn a) "AloneTogether")))
  | .invokespecial i => Nat.beq nx (pc + 3) && (bif Nat.beq a 900 then im_at c (.methodLink (im_mn y).cls i objectInit) else bif Nat.ble 900 a then !(Nat.beq a 901) else Nat.blt a im_nM && decide ((im_mn a).name = "<init>") && (bif Nat.beq b 2 then im_at c (.methodLink (im_mn y).cls i (im_mn a)) else im_at c (.methodLinkNest (im_mn y).cls i (im_mn a) "AloneTogether")))
  | .invokestatic i => Nat.beq nx (pc + 3) && (bif Nat.beq a 901 then im_at c (.methodLink (im_mn y).cls i arraycopyName) else bif Nat.ble 900 a then !(Nat.beq a 900) else Nat.blt a im_nM && Nat.beq (im_rc a) 0 && !decide ((im_mn a).name = "<init>") && (bif Nat.beq b 1 then im_at c (.methodLink (im_mn y).cls i (im_mn a)) else im_at c (.methodLinkNest (im_mn y).cls i (im_mn a) "AloneTogether")))
  | _ => Nat.beq nx (pc + im_len ins)
def im_okB (y : Nat) (e : im_E) : Bool := decide (decode (im_code y) e.1 = .ok (e.2.2.1, e.2.1 - e.1)) && Nat.ble e.1 e.2.1 && im_okR y e.1 e.2.1 e.2.2.2.1 e.2.2.2.2.1 e.2.2.2.2.2 e.2.2.1
def im_okT (y : Nat) : Bool := (im_tabs y).all (fun c => c.2.all (im_okB y))
theorem im_kt0 : (List.range' 0 6).all im_okT = true := by decide +kernel
theorem im_kt1 : (List.range' 6 7).all im_okT = true := by decide +kernel
theorem im_kt2 : (List.range' 13 5).all im_okT = true := by decide +kernel
theorem im_kt3 : (List.range' 18 10).all im_okT = true := by decide +kernel
theorem im_kt4 : (List.range' 28 9).all im_okT = true := by decide +kernel
theorem im_kt5 : (List.range' 37 5).all im_okT = true := by decide +kernel
theorem im_kt6 : (List.range' 42 7).all im_okT = true := by decide +kernel
theorem im_kt7 : (List.range' 49 7).all im_okT = true := by decide +kernel
theorem im_kt8 : (List.range' 56 6).all im_okT = true := by decide +kernel
theorem im_kt9 : (List.range' 62 3).all im_okT = true := by decide +kernel
theorem im_kt10 : (List.range' 65 5).all im_okT = true := by decide +kernel
theorem im_kt11 : (List.range' 70 4).all im_okT = true := by decide +kernel
theorem im_kt12 : (List.range' 74 4).all im_okT = true := by decide +kernel
theorem im_kt13 : (List.range' 78 3).all im_okT = true := by decide +kernel
theorem im_kt14 : (List.range' 81 5).all im_okT = true := by decide +kernel
theorem im_kt15 : (List.range' 86 4).all im_okT = true := by decide +kernel
theorem im_kt16 : (List.range' 90 3).all im_okT = true := by decide +kernel
theorem im_kt17 : (List.range' 93 5).all im_okT = true := by decide +kernel
theorem im_kt18 : (List.range' 98 4).all im_okT = true := by decide +kernel
theorem im_kt19 : (List.range' 102 10).all im_okT = true := by decide +kernel
theorem im_kt20 : (List.range' 112 8).all im_okT = true := by decide +kernel
theorem im_kt21 : (List.range' 120 8).all im_okT = true := by decide +kernel
theorem im_kt22 : (List.range' 128 2).all im_okT = true := by decide +kernel
theorem im_kl130_0 : im_l130_0.2.all (im_okB 130) = true := by decide +kernel
theorem im_kl130_1 : im_l130_1.2.all (im_okB 130) = true := by decide +kernel
theorem im_kl130_2 : im_l130_2.2.all (im_okB 130) = true := by decide +kernel
theorem im_kl130_3 : im_l130_3.2.all (im_okB 130) = true := by decide +kernel
theorem im_kl130_4 : im_l130_4.2.all (im_okB 130) = true := by decide +kernel
theorem im_kl130_5 : im_l130_5.2.all (im_okB 130) = true := by decide +kernel
theorem im_kl130_6 : im_l130_6.2.all (im_okB 130) = true := by decide +kernel
theorem im_kl130_7 : im_l130_7.2.all (im_okB 130) = true := by decide +kernel
theorem im_kl130_8 : im_l130_8.2.all (im_okB 130) = true := by decide +kernel
theorem im_kl130_9 : im_l130_9.2.all (im_okB 130) = true := by decide +kernel
theorem im_kl130_10 : im_l130_10.2.all (im_okB 130) = true := by decide +kernel
theorem im_kl130_11 : im_l130_11.2.all (im_okB 130) = true := by decide +kernel
theorem im_kl130_12 : im_l130_12.2.all (im_okB 130) = true := by decide +kernel
theorem im_kl130_13 : im_l130_13.2.all (im_okB 130) = true := by decide +kernel
theorem im_kl130_14 : im_l130_14.2.all (im_okB 130) = true := by decide +kernel
theorem im_kl130_15 : im_l130_15.2.all (im_okB 130) = true := by decide +kernel
theorem im_kl130_16 : im_l130_16.2.all (im_okB 130) = true := by decide +kernel
theorem im_kl130_17 : im_l130_17.2.all (im_okB 130) = true := by decide +kernel
theorem im_kl130_18 : im_l130_18.2.all (im_okB 130) = true := by decide +kernel
theorem im_kl130_19 : im_l130_19.2.all (im_okB 130) = true := by decide +kernel
theorem im_kl130_20 : im_l130_20.2.all (im_okB 130) = true := by decide +kernel
theorem im_kl130_21 : im_l130_21.2.all (im_okB 130) = true := by decide +kernel
theorem im_kl130_22 : im_l130_22.2.all (im_okB 130) = true := by decide +kernel
theorem im_kb130 : im_okT 130 = true := List.all_eq_true.mpr (show ∀ c ∈ im_t130, (c.2.all (im_okB 130)) = true from List.forall_mem_cons.mpr ⟨im_kl130_0, List.forall_mem_cons.mpr ⟨im_kl130_1, List.forall_mem_cons.mpr ⟨im_kl130_2, List.forall_mem_cons.mpr ⟨im_kl130_3, List.forall_mem_cons.mpr ⟨im_kl130_4, List.forall_mem_cons.mpr ⟨im_kl130_5, List.forall_mem_cons.mpr ⟨im_kl130_6, List.forall_mem_cons.mpr ⟨im_kl130_7, List.forall_mem_cons.mpr ⟨im_kl130_8, List.forall_mem_cons.mpr ⟨im_kl130_9, List.forall_mem_cons.mpr ⟨im_kl130_10, List.forall_mem_cons.mpr ⟨im_kl130_11, List.forall_mem_cons.mpr ⟨im_kl130_12, List.forall_mem_cons.mpr ⟨im_kl130_13, List.forall_mem_cons.mpr ⟨im_kl130_14, List.forall_mem_cons.mpr ⟨im_kl130_15, List.forall_mem_cons.mpr ⟨im_kl130_16, List.forall_mem_cons.mpr ⟨im_kl130_17, List.forall_mem_cons.mpr ⟨im_kl130_18, List.forall_mem_cons.mpr ⟨im_kl130_19, List.forall_mem_cons.mpr ⟨im_kl130_20, List.forall_mem_cons.mpr ⟨im_kl130_21, List.forall_mem_cons.mpr ⟨im_kl130_22, fun _ h => absurd h List.not_mem_nil⟩⟩⟩⟩⟩⟩⟩⟩⟩⟩⟩⟩⟩⟩⟩⟩⟩⟩⟩⟩⟩⟩⟩)
theorem im_kt23 : (List.range' 130 1).all im_okT = true := by simp only [List.range', List.all_cons, List.all_nil, im_kb130, Bool.and_true]
theorem im_kt24 : (List.range' 131 9).all im_okT = true := by decide +kernel
theorem im_kl140_0 : im_l140_0.2.all (im_okB 140) = true := by decide +kernel
theorem im_kl140_1 : im_l140_1.2.all (im_okB 140) = true := by decide +kernel
theorem im_kl140_2 : im_l140_2.2.all (im_okB 140) = true := by decide +kernel
theorem im_kl140_3 : im_l140_3.2.all (im_okB 140) = true := by decide +kernel
theorem im_kl140_4 : im_l140_4.2.all (im_okB 140) = true := by decide +kernel
theorem im_kl140_5 : im_l140_5.2.all (im_okB 140) = true := by decide +kernel
theorem im_kl140_6 : im_l140_6.2.all (im_okB 140) = true := by decide +kernel
theorem im_kl140_7 : im_l140_7.2.all (im_okB 140) = true := by decide +kernel
theorem im_kb140 : im_okT 140 = true := List.all_eq_true.mpr (show ∀ c ∈ im_t140, (c.2.all (im_okB 140)) = true from List.forall_mem_cons.mpr ⟨im_kl140_0, List.forall_mem_cons.mpr ⟨im_kl140_1, List.forall_mem_cons.mpr ⟨im_kl140_2, List.forall_mem_cons.mpr ⟨im_kl140_3, List.forall_mem_cons.mpr ⟨im_kl140_4, List.forall_mem_cons.mpr ⟨im_kl140_5, List.forall_mem_cons.mpr ⟨im_kl140_6, List.forall_mem_cons.mpr ⟨im_kl140_7, fun _ h => absurd h List.not_mem_nil⟩⟩⟩⟩⟩⟩⟩⟩)
theorem im_kt25 : (List.range' 140 1).all im_okT = true := by simp only [List.range', List.all_cons, List.all_nil, im_kb140, Bool.and_true]
theorem im_kt26 : (List.range' 141 6).all im_okT = true := by decide +kernel
theorem im_kt27 : (List.range' 147 2).all im_okT = true := by decide +kernel
theorem im_kt28 : (List.range' 149 3).all im_okT = true := by decide +kernel
theorem im_kt29 : (List.range' 152 5).all im_okT = true := by decide +kernel
theorem im_kt30 : (List.range' 157 4).all im_okT = true := by decide +kernel
theorem im_kt31 : (List.range' 161 4).all im_okT = true := by decide +kernel
theorem im_kt32 : (List.range' 165 6).all im_okT = true := by decide +kernel
theorem im_kt33 : (List.range' 171 2).all im_okT = true := by decide +kernel
theorem im_kt34 : (List.range' 173 2).all im_okT = true := by decide +kernel
theorem im_kt35 : (List.range' 175 3).all im_okT = true := by decide +kernel
theorem im_kt36 : (List.range' 178 5).all im_okT = true := by decide +kernel
theorem im_kt37 : (List.range' 183 4).all im_okT = true := by decide +kernel
theorem im_kt38 : (List.range' 187 5).all im_okT = true := by decide +kernel
theorem im_kt39 : (List.range' 192 3).all im_okT = true := by decide +kernel
theorem im_kt40 : (List.range' 195 3).all im_okT = true := by decide +kernel
theorem im_kt41 : (List.range' 198 4).all im_okT = true := by decide +kernel
theorem im_kt42 : (List.range' 202 2).all im_okT = true := by decide +kernel
theorem im_kt43 : (List.range' 204 3).all im_okT = true := by decide +kernel
theorem im_kt44 : (List.range' 207 12).all im_okT = true := by decide +kernel
theorem im_kt45 : (List.range' 219 2).all im_okT = true := by decide +kernel
theorem im_kl221_0 : im_l221_0.2.all (im_okB 221) = true := by decide +kernel
theorem im_kl221_1 : im_l221_1.2.all (im_okB 221) = true := by decide +kernel
theorem im_kl221_2 : im_l221_2.2.all (im_okB 221) = true := by decide +kernel
theorem im_kl221_3 : im_l221_3.2.all (im_okB 221) = true := by decide +kernel
theorem im_kl221_4 : im_l221_4.2.all (im_okB 221) = true := by decide +kernel
theorem im_kl221_5 : im_l221_5.2.all (im_okB 221) = true := by decide +kernel
theorem im_kl221_6 : im_l221_6.2.all (im_okB 221) = true := by decide +kernel
theorem im_kl221_7 : im_l221_7.2.all (im_okB 221) = true := by decide +kernel
theorem im_kl221_8 : im_l221_8.2.all (im_okB 221) = true := by decide +kernel
theorem im_kl221_9 : im_l221_9.2.all (im_okB 221) = true := by decide +kernel
theorem im_kl221_10 : im_l221_10.2.all (im_okB 221) = true := by decide +kernel
theorem im_kl221_11 : im_l221_11.2.all (im_okB 221) = true := by decide +kernel
theorem im_kl221_12 : im_l221_12.2.all (im_okB 221) = true := by decide +kernel
theorem im_kl221_13 : im_l221_13.2.all (im_okB 221) = true := by decide +kernel
theorem im_kl221_14 : im_l221_14.2.all (im_okB 221) = true := by decide +kernel
theorem im_kl221_15 : im_l221_15.2.all (im_okB 221) = true := by decide +kernel
theorem im_kl221_16 : im_l221_16.2.all (im_okB 221) = true := by decide +kernel
theorem im_kl221_17 : im_l221_17.2.all (im_okB 221) = true := by decide +kernel
theorem im_kl221_18 : im_l221_18.2.all (im_okB 221) = true := by decide +kernel
theorem im_kl221_19 : im_l221_19.2.all (im_okB 221) = true := by decide +kernel
theorem im_kl221_20 : im_l221_20.2.all (im_okB 221) = true := by decide +kernel
theorem im_kl221_21 : im_l221_21.2.all (im_okB 221) = true := by decide +kernel
theorem im_kl221_22 : im_l221_22.2.all (im_okB 221) = true := by decide +kernel
theorem im_kl221_23 : im_l221_23.2.all (im_okB 221) = true := by decide +kernel
theorem im_kl221_24 : im_l221_24.2.all (im_okB 221) = true := by decide +kernel
theorem im_kl221_25 : im_l221_25.2.all (im_okB 221) = true := by decide +kernel
theorem im_kl221_26 : im_l221_26.2.all (im_okB 221) = true := by decide +kernel
theorem im_kl221_27 : im_l221_27.2.all (im_okB 221) = true := by decide +kernel
theorem im_kl221_28 : im_l221_28.2.all (im_okB 221) = true := by decide +kernel
theorem im_kl221_29 : im_l221_29.2.all (im_okB 221) = true := by decide +kernel
theorem im_kl221_30 : im_l221_30.2.all (im_okB 221) = true := by decide +kernel
theorem im_kl221_31 : im_l221_31.2.all (im_okB 221) = true := by decide +kernel
theorem im_kl221_32 : im_l221_32.2.all (im_okB 221) = true := by decide +kernel
theorem im_kl221_33 : im_l221_33.2.all (im_okB 221) = true := by decide +kernel
theorem im_kl221_34 : im_l221_34.2.all (im_okB 221) = true := by decide +kernel
theorem im_kl221_35 : im_l221_35.2.all (im_okB 221) = true := by decide +kernel
theorem im_kl221_36 : im_l221_36.2.all (im_okB 221) = true := by decide +kernel
theorem im_kb221 : im_okT 221 = true := List.all_eq_true.mpr (show ∀ c ∈ im_t221, (c.2.all (im_okB 221)) = true from List.forall_mem_cons.mpr ⟨im_kl221_0, List.forall_mem_cons.mpr ⟨im_kl221_1, List.forall_mem_cons.mpr ⟨im_kl221_2, List.forall_mem_cons.mpr ⟨im_kl221_3, List.forall_mem_cons.mpr ⟨im_kl221_4, List.forall_mem_cons.mpr ⟨im_kl221_5, List.forall_mem_cons.mpr ⟨im_kl221_6, List.forall_mem_cons.mpr ⟨im_kl221_7, List.forall_mem_cons.mpr ⟨im_kl221_8, List.forall_mem_cons.mpr ⟨im_kl221_9, List.forall_mem_cons.mpr ⟨im_kl221_10, List.forall_mem_cons.mpr ⟨im_kl221_11, List.forall_mem_cons.mpr ⟨im_kl221_12, List.forall_mem_cons.mpr ⟨im_kl221_13, List.forall_mem_cons.mpr ⟨im_kl221_14, List.forall_mem_cons.mpr ⟨im_kl221_15, List.forall_mem_cons.mpr ⟨im_kl221_16, List.forall_mem_cons.mpr ⟨im_kl221_17, List.forall_mem_cons.mpr ⟨im_kl221_18, List.forall_mem_cons.mpr ⟨im_kl221_19, List.forall_mem_cons.mpr ⟨im_kl221_20, List.forall_mem_cons.mpr ⟨im_kl221_21, List.forall_mem_cons.mpr ⟨im_kl221_22, List.forall_mem_cons.mpr ⟨im_kl221_23, List.forall_mem_cons.mpr ⟨im_kl221_24, List.forall_mem_cons.mpr ⟨im_kl221_25, List.forall_mem_cons.mpr ⟨im_kl221_26, List.forall_mem_cons.mpr ⟨im_kl221_27, List.forall_mem_cons.mpr ⟨im_kl221_28, List.forall_mem_cons.mpr ⟨im_kl221_29, List.forall_mem_cons.mpr ⟨im_kl221_30, List.forall_mem_cons.mpr ⟨im_kl221_31, List.forall_mem_cons.mpr ⟨im_kl221_32, List.forall_mem_cons.mpr ⟨im_kl221_33, List.forall_mem_cons.mpr ⟨im_kl221_34, List.forall_mem_cons.mpr ⟨im_kl221_35, List.forall_mem_cons.mpr ⟨im_kl221_36, fun _ h => absurd h List.not_mem_nil⟩⟩⟩⟩⟩⟩⟩⟩⟩⟩⟩⟩⟩⟩⟩⟩⟩⟩⟩⟩⟩⟩⟩⟩⟩⟩⟩⟩⟩⟩⟩⟩⟩⟩⟩⟩⟩)
theorem im_kt46 : (List.range' 221 1).all im_okT = true := by simp only [List.range', List.all_cons, List.all_nil, im_kb221, Bool.and_true]
theorem im_kt {y : Nat} (h : y < 222) : im_okT y = true := by
  by_cases h0 : y < 6
  · exact List.all_eq_true.mp im_kt0 y (List.mem_range'_1.mpr ⟨by omega, by omega⟩)
  by_cases h1 : y < 13
  · exact List.all_eq_true.mp im_kt1 y (List.mem_range'_1.mpr ⟨by omega, by omega⟩)
  by_cases h2 : y < 18
  · exact List.all_eq_true.mp im_kt2 y (List.mem_range'_1.mpr ⟨by omega, by omega⟩)
  by_cases h3 : y < 28
  · exact List.all_eq_true.mp im_kt3 y (List.mem_range'_1.mpr ⟨by omega, by omega⟩)
  by_cases h4 : y < 37
  · exact List.all_eq_true.mp im_kt4 y (List.mem_range'_1.mpr ⟨by omega, by omega⟩)
  by_cases h5 : y < 42
  · exact List.all_eq_true.mp im_kt5 y (List.mem_range'_1.mpr ⟨by omega, by omega⟩)
  by_cases h6 : y < 49
  · exact List.all_eq_true.mp im_kt6 y (List.mem_range'_1.mpr ⟨by omega, by omega⟩)
  by_cases h7 : y < 56
  · exact List.all_eq_true.mp im_kt7 y (List.mem_range'_1.mpr ⟨by omega, by omega⟩)
  by_cases h8 : y < 62
  · exact List.all_eq_true.mp im_kt8 y (List.mem_range'_1.mpr ⟨by omega, by omega⟩)
  by_cases h9 : y < 65
  · exact List.all_eq_true.mp im_kt9 y (List.mem_range'_1.mpr ⟨by omega, by omega⟩)
  by_cases h10 : y < 70
  · exact List.all_eq_true.mp im_kt10 y (List.mem_range'_1.mpr ⟨by omega, by omega⟩)
  by_cases h11 : y < 74
  · exact List.all_eq_true.mp im_kt11 y (List.mem_range'_1.mpr ⟨by omega, by omega⟩)
  by_cases h12 : y < 78
  · exact List.all_eq_true.mp im_kt12 y (List.mem_range'_1.mpr ⟨by omega, by omega⟩)
  by_cases h13 : y < 81
  · exact List.all_eq_true.mp im_kt13 y (List.mem_range'_1.mpr ⟨by omega, by omega⟩)
  by_cases h14 : y < 86
  · exact List.all_eq_true.mp im_kt14 y (List.mem_range'_1.mpr ⟨by omega, by omega⟩)
  by_cases h15 : y < 90
  · exact List.all_eq_true.mp im_kt15 y (List.mem_range'_1.mpr ⟨by omega, by omega⟩)
  by_cases h16 : y < 93
  · exact List.all_eq_true.mp im_kt16 y (List.mem_range'_1.mpr ⟨by omega, by omega⟩)
  by_cases h17 : y < 98
  · exact List.all_eq_true.mp im_kt17 y (List.mem_range'_1.mpr ⟨by omega, by omega⟩)
  by_cases h18 : y < 102
  · exact List.all_eq_true.mp im_kt18 y (List.mem_range'_1.mpr ⟨by omega, by omega⟩)
  by_cases h19 : y < 112
  · exact List.all_eq_true.mp im_kt19 y (List.mem_range'_1.mpr ⟨by omega, by omega⟩)
  by_cases h20 : y < 120
  · exact List.all_eq_true.mp im_kt20 y (List.mem_range'_1.mpr ⟨by omega, by omega⟩)
  by_cases h21 : y < 128
  · exact List.all_eq_true.mp im_kt21 y (List.mem_range'_1.mpr ⟨by omega, by omega⟩)
  by_cases h22 : y < 130
  · exact List.all_eq_true.mp im_kt22 y (List.mem_range'_1.mpr ⟨by omega, by omega⟩)
  by_cases h23 : y < 131
  · exact List.all_eq_true.mp im_kt23 y (List.mem_range'_1.mpr ⟨by omega, by omega⟩)
  by_cases h24 : y < 140
  · exact List.all_eq_true.mp im_kt24 y (List.mem_range'_1.mpr ⟨by omega, by omega⟩)
  by_cases h25 : y < 141
  · exact List.all_eq_true.mp im_kt25 y (List.mem_range'_1.mpr ⟨by omega, by omega⟩)
  by_cases h26 : y < 147
  · exact List.all_eq_true.mp im_kt26 y (List.mem_range'_1.mpr ⟨by omega, by omega⟩)
  by_cases h27 : y < 149
  · exact List.all_eq_true.mp im_kt27 y (List.mem_range'_1.mpr ⟨by omega, by omega⟩)
  by_cases h28 : y < 152
  · exact List.all_eq_true.mp im_kt28 y (List.mem_range'_1.mpr ⟨by omega, by omega⟩)
  by_cases h29 : y < 157
  · exact List.all_eq_true.mp im_kt29 y (List.mem_range'_1.mpr ⟨by omega, by omega⟩)
  by_cases h30 : y < 161
  · exact List.all_eq_true.mp im_kt30 y (List.mem_range'_1.mpr ⟨by omega, by omega⟩)
  by_cases h31 : y < 165
  · exact List.all_eq_true.mp im_kt31 y (List.mem_range'_1.mpr ⟨by omega, by omega⟩)
  by_cases h32 : y < 171
  · exact List.all_eq_true.mp im_kt32 y (List.mem_range'_1.mpr ⟨by omega, by omega⟩)
  by_cases h33 : y < 173
  · exact List.all_eq_true.mp im_kt33 y (List.mem_range'_1.mpr ⟨by omega, by omega⟩)
  by_cases h34 : y < 175
  · exact List.all_eq_true.mp im_kt34 y (List.mem_range'_1.mpr ⟨by omega, by omega⟩)
  by_cases h35 : y < 178
  · exact List.all_eq_true.mp im_kt35 y (List.mem_range'_1.mpr ⟨by omega, by omega⟩)
  by_cases h36 : y < 183
  · exact List.all_eq_true.mp im_kt36 y (List.mem_range'_1.mpr ⟨by omega, by omega⟩)
  by_cases h37 : y < 187
  · exact List.all_eq_true.mp im_kt37 y (List.mem_range'_1.mpr ⟨by omega, by omega⟩)
  by_cases h38 : y < 192
  · exact List.all_eq_true.mp im_kt38 y (List.mem_range'_1.mpr ⟨by omega, by omega⟩)
  by_cases h39 : y < 195
  · exact List.all_eq_true.mp im_kt39 y (List.mem_range'_1.mpr ⟨by omega, by omega⟩)
  by_cases h40 : y < 198
  · exact List.all_eq_true.mp im_kt40 y (List.mem_range'_1.mpr ⟨by omega, by omega⟩)
  by_cases h41 : y < 202
  · exact List.all_eq_true.mp im_kt41 y (List.mem_range'_1.mpr ⟨by omega, by omega⟩)
  by_cases h42 : y < 204
  · exact List.all_eq_true.mp im_kt42 y (List.mem_range'_1.mpr ⟨by omega, by omega⟩)
  by_cases h43 : y < 207
  · exact List.all_eq_true.mp im_kt43 y (List.mem_range'_1.mpr ⟨by omega, by omega⟩)
  by_cases h44 : y < 219
  · exact List.all_eq_true.mp im_kt44 y (List.mem_range'_1.mpr ⟨by omega, by omega⟩)
  by_cases h45 : y < 221
  · exact List.all_eq_true.mp im_kt45 y (List.mem_range'_1.mpr ⟨by omega, by omega⟩)
  · exact List.all_eq_true.mp im_kt46 y (List.mem_range'_1.mpr ⟨by omega, by omega⟩)
def im_pl (y : Nat) : Nat × Nat × Nat × Nat × Nat := (bif Nat.blt y 110 then (bif Nat.blt y 55 then (bif Nat.blt y 27 then (bif Nat.blt y 13 then (bif Nat.blt y 6 then (bif Nat.blt y 3 then (bif Nat.blt y 1 then (104, 103, 99999, 99999, 5) else (bif Nat.blt y 2 then (793, 791, 99999, 854, 5) else (492, 99999, 491, 99999, 15))) else (bif Nat.blt y 4 then (552, 99999, 551, 99999, 15) else (bif Nat.blt y 5 then (560, 99999, 559, 99999, 15) else (830, 99999, 829, 99999, 15)))) else (bif Nat.blt y 9 then (bif Nat.blt y 7 then (110, 109, 99999, 99999, 6) else (bif Nat.blt y 8 then (526, 524, 99999, 587, 6) else (599, 597, 99999, 660, 6))) else (bif Nat.blt y 11 then (bif Nat.blt y 10 then (488, 486, 99999, 549, 6) else (80, 79, 99999, 99999, 4)) else (bif Nat.blt y 12 then (624, 622, 99999, 685, 4) else (638, 636, 99999, 699, 4))))) else (bif Nat.blt y 20 then (bif Nat.blt y 16 then (bif Nat.blt y 14 then (647, 645, 99999, 708, 4) else (bif Nat.blt y 15 then (650, 99999, 649, 99999, 4) else (371, 370, 99999, 99999, 13))) else (bif Nat.blt y 18 then (bif Nat.blt y 17 then (496, 494, 99999, 557, 13) else (483, 481, 99999, 544, 13)) else (bif Nat.blt y 19 then (548, 546, 99999, 609, 13) else (556, 554, 99999, 617, 13)))) else (bif Nat.blt y 23 then (bif Nat.blt y 21 then (612, 610, 99999, 673, 13) else (bif Nat.blt y 22 then (569, 567, 99999, 630, 13) else (684, 682, 99999, 745, 13))) else (bif Nat.blt y 25 then (bif Nat.blt y 24 then (177, 176, 99999, 99999, 8) else (729, 727, 99999, 790, 8)) else (bif Nat.blt y 26 then (769, 767, 99999, 830, 8) else (816, 814, 99999, 877, 8)))))) else (bif Nat.blt y 41 then (bif Nat.blt y 34 then (bif Nat.blt y 30 then (bif Nat.blt y 28 then (760, 758, 99999, 821, 8) else (bif Nat.blt y 29 then (765, 763, 99999, 826, 8) else (35, 34, 99999, 99999, 2))) else (bif Nat.blt y 32 then (bif Nat.blt y 31 then (248, 246, 99999, 309, 2) else (196, 194, 99999, 257, 2)) else (bif Nat.blt y 33 then (298, 296, 99999, 359, 2) else (268, 266, 99999, 329, 2)))) else (bif Nat.blt y 37 then (bif Nat.blt y 35 then (264, 262, 99999, 325, 2) else (bif Nat.blt y 36 then (306, 304, 99999, 367, 2) else (294, 292, 99999, 355, 2))) else (bif Nat.blt y 39 then (bif Nat.blt y 38 then (162, 161, 99999, 99999, 7) else (256, 254, 99999, 317, 7)) else (bif Nat.blt y 40 then (338, 336, 99999, 399, 7) else (366, 364, 99999, 427, 7))))) else (bif Nat.blt y 48 then (bif Nat.blt y 44 then (bif Nat.blt y 42 then (503, 501, 99999, 564, 7) else (bif Nat.blt y 43 then (506, 99999, 505, 99999, 7) else (509, 99999, 508, 99999, 7))) else (bif Nat.blt y 46 then (bif Nat.blt y 45 then (512, 99999, 511, 99999, 7) else (52, 51, 99999, 99999, 3)) else (bif Nat.blt y 47 then (252, 250, 99999, 313, 3) else (318, 317, 99999, 5, 3)))) else (bif Nat.blt y 51 then (bif Nat.blt y 49 then (322, 321, 99999, 6, 3) else (bif Nat.blt y 50 then (326, 325, 99999, 7, 3) else (330, 329, 99999, 8, 3))) else (bif Nat.blt y 53 then (bif Nat.blt y 52 then (342, 341, 99999, 10, 3) else (346, 345, 99999, 11, 3)) else (bif Nat.blt y 54 then (350, 349, 99999, 12, 3) else (354, 353, 99999, 13, 3))))))) else (bif Nat.blt y 82 then (bif Nat.blt y 68 then (bif Nat.blt y 61 then (bif Nat.blt y 58 then (bif Nat.blt y 56 then (358, 357, 99999, 14, 3) else (bif Nat.blt y 57 then (362, 361, 99999, 15, 3) else (334, 333, 99999, 9, 3))) else (bif Nat.blt y 59 then (310, 309, 99999, 3, 3) else (bif Nat.blt y 60 then (314, 313, 99999, 4, 3) else (260, 259, 99999, 0, 3)))) else (bif Nat.blt y 64 then (bif Nat.blt y 62 then (302, 301, 99999, 2, 3) else (bif Nat.blt y 63 then (275, 274, 99999, 1, 3) else (278, 99999, 277, 99999, 3))) else (bif Nat.blt y 66 then (bif Nat.blt y 65 then (23, 22, 99999, 99999, 1) else (435, 433, 99999, 496, 1)) else (bif Nat.blt y 67 then (439, 437, 99999, 500, 1) else (444, 442, 99999, 505, 1))))) else (bif Nat.blt y 75 then (bif Nat.blt y 71 then (bif Nat.blt y 69 then (452, 450, 99999, 513, 1) else (bif Nat.blt y 70 then (456, 454, 99999, 517, 1) else (464, 462, 99999, 525, 1))) else (bif Nat.blt y 73 then (bif Nat.blt y 72 then (522, 520, 99999, 583, 1) else (530, 528, 99999, 591, 1)) else (bif Nat.blt y 74 then (534, 532, 99999, 595, 1) else (539, 537, 99999, 600, 1)))) else (bif Nat.blt y 78 then (bif Nat.blt y 76 then (543, 541, 99999, 604, 1) else (bif Nat.blt y 77 then (565, 563, 99999, 626, 1) else (587, 585, 99999, 648, 1))) else (bif Nat.blt y 80 then (bif Nat.blt y 79 then (591, 589, 99999, 652, 1) else (607, 605, 99999, 668, 1)) else (bif Nat.blt y 81 then (620, 618, 99999, 681, 1) else (643, 641, 99999, 704, 1)))))) else (bif Nat.blt y 96 then (bif Nat.blt y 89 then (bif Nat.blt y 85 then (bif Nat.blt y 83 then (656, 654, 99999, 717, 1) else (bif Nat.blt y 84 then (675, 673, 99999, 736, 1) else (688, 686, 99999, 749, 1))) else (bif Nat.blt y 87 then (bif Nat.blt y 86 then (695, 693, 99999, 756, 1) else (699, 697, 99999, 760, 1)) else (bif Nat.blt y 88 then (703, 701, 99999, 764, 1) else (714, 712, 99999, 775, 1)))) else (bif Nat.blt y 92 then (bif Nat.blt y 90 then (736, 734, 99999, 797, 1) else (bif Nat.blt y 91 then (744, 742, 99999, 805, 1) else (748, 746, 99999, 809, 1))) else (bif Nat.blt y 94 then (bif Nat.blt y 93 then (752, 750, 99999, 813, 1) else (756, 754, 99999, 817, 1)) else (bif Nat.blt y 95 then (773, 771, 99999, 834, 1) else (785, 783, 99999, 846, 1))))) else (bif Nat.blt y 103 then (bif Nat.blt y 99 then (bif Nat.blt y 97 then (789, 787, 99999, 850, 1) else (bif Nat.blt y 98 then (799, 797, 99999, 860, 1) else (803, 801, 99999, 864, 1))) else (bif Nat.blt y 101 then (bif Nat.blt y 100 then (807, 805, 99999, 868, 1) else (812, 810, 99999, 873, 1)) else (bif Nat.blt y 102 then (821, 819, 99999, 882, 1) else (826, 824, 99999, 887, 1)))) else (bif Nat.blt y 106 then (bif Nat.blt y 104 then (271, 99999, 270, 99999, 1) else (bif Nat.blt y 105 then (447, 99999, 446, 99999, 1) else (499, 99999, 498, 99999, 1))) else (bif Nat.blt y 108 then (bif Nat.blt y 107 then (471, 99999, 470, 99999, 1) else (725, 99999, 724, 99999, 1)) else (bif Nat.blt y 109 then (468, 467, 99999, 17, 1) else (460, 459, 99999, 16, 1)))))))) else (bif Nat.blt y 165 then (bif Nat.blt y 137 then (bif Nat.blt y 123 then (bif Nat.blt y 116 then (bif Nat.blt y 113 then (bif Nat.blt y 111 then (479, 478, 99999, 19, 1) else (bif Nat.blt y 112 then (475, 474, 99999, 18, 1) else (595, 594, 99999, 23, 1))) else (bif Nat.blt y 114 then (616, 615, 99999, 24, 1) else (bif Nat.blt y 115 then (574, 573, 99999, 20, 1) else (578, 577, 99999, 21, 1)))) else (bif Nat.blt y 119 then (bif Nat.blt y 117 then (582, 581, 99999, 22, 1) else (bif Nat.blt y 118 then (630, 629, 99999, 25, 1) else (634, 633, 99999, 26, 1))) else (bif Nat.blt y 121 then (bif Nat.blt y 120 then (660, 659, 99999, 27, 1) else (670, 669, 99999, 28, 1)) else (bif Nat.blt y 122 then (680, 679, 99999, 29, 1) else (691, 99999, 690, 99999, 1))))) else (bif Nat.blt y 130 then (bif Nat.blt y 126 then (bif Nat.blt y 124 then (707, 99999, 706, 99999, 1) else (bif Nat.blt y 125 then (710, 99999, 709, 99999, 1) else (722, 721, 99999, 31, 1))) else (bif Nat.blt y 128 then (bif Nat.blt y 127 then (718, 717, 99999, 30, 1) else (732, 99999, 731, 99999, 1)) else (bif Nat.blt y 129 then (740, 739, 99999, 32, 1) else (778, 777, 99999, 33, 1)))) else (bif Nat.blt y 133 then (bif Nat.blt y 131 then (838, 837, 99999, 99999, 14) else (bif Nat.blt y 132 then (850, 99999, 849, 99999, 14) else (1044, 99999, 1043, 99999, 14))) else (bif Nat.blt y 135 then (bif Nat.blt y 134 then (1026, 1025, 99999, 43, 14) else (1029, 99999, 1028, 99999, 14)) else (bif Nat.blt y 136 then (1002, 1000, 99999, 1063, 14) else (1006, 1004, 99999, 1067, 14)))))) else (bif Nat.blt y 151 then (bif Nat.blt y 144 then (bif Nat.blt y 140 then (bif Nat.blt y 138 then (1013, 99999, 1012, 99999, 14) else (bif Nat.blt y 139 then (1010, 1008, 99999, 1071, 14) else (854, 853, 99999, 35, 14))) else (bif Nat.blt y 142 then (bif Nat.blt y 141 then (847, 846, 99999, 34, 14) else (870, 99999, 869, 99999, 14)) else (bif Nat.blt y 143 then (863, 862, 99999, 37, 14) else (867, 866, 99999, 38, 14)))) else (bif Nat.blt y 147 then (bif Nat.blt y 145 then (878, 877, 99999, 40, 14) else (bif Nat.blt y 146 then (874, 873, 99999, 39, 14) else (886, 885, 99999, 42, 14))) else (bif Nat.blt y 149 then (bif Nat.blt y 148 then (882, 881, 99999, 41, 14) else (858, 857, 99999, 36, 14)) else (bif Nat.blt y 150 then (843, 841, 99999, 904, 14) else (1055, 99999, 1054, 99999, 14))))) else (bif Nat.blt y 158 then (bif Nat.blt y 154 then (bif Nat.blt y 152 then (1052, 1051, 99999, 48, 14) else (bif Nat.blt y 153 then (1018, 1016, 99999, 1079, 14) else (1041, 1040, 99999, 46, 14))) else (bif Nat.blt y 156 then (bif Nat.blt y 155 then (1048, 1047, 99999, 47, 14) else (1037, 1036, 99999, 45, 14)) else (bif Nat.blt y 157 then (1033, 1032, 99999, 44, 14) else (1022, 1020, 99999, 1083, 14)))) else (bif Nat.blt y 161 then (bif Nat.blt y 159 then (1059, 1057, 99999, 1120, 14) else (bif Nat.blt y 160 then (1063, 1061, 99999, 1124, 14) else (1067, 1065, 99999, 1128, 14))) else (bif Nat.blt y 163 then (bif Nat.blt y 162 then (1075, 1074, 99999, 49, 14) else (1071, 1069, 99999, 1132, 14)) else (bif Nat.blt y 164 then (1083, 1082, 99999, 50, 14) else (1087, 1086, 99999, 51, 14))))))) else (bif Nat.blt y 193 then (bif Nat.blt y 179 then (bif Nat.blt y 172 then (bif Nat.blt y 168 then (bif Nat.blt y 166 then (1095, 1094, 99999, 52, 14) else (bif Nat.blt y 167 then (1103, 1102, 99999, 53, 14) else (1079, 1077, 99999, 1140, 14))) else (bif Nat.blt y 170 then (bif Nat.blt y 169 then (1091, 1089, 99999, 1152, 14) else (1099, 1097, 99999, 1160, 14)) else (bif Nat.blt y 171 then (1107, 1105, 99999, 1168, 14) else (1111, 1109, 99999, 1172, 14)))) else (bif Nat.blt y 175 then (bif Nat.blt y 173 then (1115, 1113, 99999, 1176, 14) else (bif Nat.blt y 174 then (1123, 1122, 99999, 54, 14) else (1127, 1126, 99999, 55, 14))) else (bif Nat.blt y 177 then (bif Nat.blt y 176 then (1119, 1117, 99999, 1180, 14) else (1134, 99999, 1133, 99999, 14)) else (bif Nat.blt y 178 then (1131, 1129, 99999, 1192, 14) else (1147, 1146, 99999, 57, 14))))) else (bif Nat.blt y 186 then (bif Nat.blt y 182 then (bif Nat.blt y 180 then (1143, 1142, 99999, 56, 14) else (bif Nat.blt y 181 then (1138, 1136, 99999, 1199, 14) else (1154, 99999, 1153, 99999, 14))) else (bif Nat.blt y 184 then (bif Nat.blt y 183 then (1151, 1149, 99999, 1212, 14) else (1158, 1156, 99999, 1219, 14)) else (bif Nat.blt y 185 then (1162, 1160, 99999, 1223, 14) else (1170, 99999, 1169, 99999, 14)))) else (bif Nat.blt y 189 then (bif Nat.blt y 187 then (1166, 1164, 99999, 1227, 14) else (bif Nat.blt y 188 then (1182, 1181, 99999, 59, 14) else (1178, 1177, 99999, 58, 14))) else (bif Nat.blt y 191 then (bif Nat.blt y 190 then (1186, 1185, 99999, 60, 14) else (1174, 1172, 99999, 1235, 14)) else (bif Nat.blt y 192 then (1190, 1188, 99999, 1251, 14) else (1194, 1192, 99999, 1255, 14)))))) else (bif Nat.blt y 207 then (bif Nat.blt y 200 then (bif Nat.blt y 196 then (bif Nat.blt y 194 then (1198, 1196, 99999, 1259, 14) else (bif Nat.blt y 195 then (1202, 1200, 99999, 1263, 14) else (1206, 1204, 99999, 1267, 14))) else (bif Nat.blt y 198 then (bif Nat.blt y 197 then (1215, 1214, 99999, 61, 14) else (1210, 1208, 99999, 1271, 14)) else (bif Nat.blt y 199 then (1222, 1220, 99999, 1283, 14) else (1226, 1224, 99999, 1287, 14)))) else (bif Nat.blt y 203 then (bif Nat.blt y 201 then (1230, 1228, 99999, 1291, 14) else (bif Nat.blt y 202 then (1234, 1232, 99999, 1295, 14) else (1238, 1236, 99999, 1299, 14))) else (bif Nat.blt y 205 then (bif Nat.blt y 204 then (1242, 1240, 99999, 1303, 14) else (1246, 1244, 99999, 1307, 14)) else (bif Nat.blt y 206 then (1254, 99999, 1253, 99999, 14) else (1251, 1249, 99999, 1312, 14))))) else (bif Nat.blt y 214 then (bif Nat.blt y 210 then (bif Nat.blt y 208 then (663, 99999, 662, 99999, 18) else (bif Nat.blt y 209 then (518, 99999, 517, 99999, 16) else (515, 99999, 514, 99999, 16))) else (bif Nat.blt y 212 then (bif Nat.blt y 211 then (200, 198, 99999, 261, 9) else (210, 208, 99999, 271, 9)) else (bif Nat.blt y 213 then (204, 202, 99999, 265, 9) else (214, 212, 99999, 275, 9)))) else (bif Nat.blt y 217 then (bif Nat.blt y 215 then (220, 99999, 219, 99999, 9) else (bif Nat.blt y 216 then (217, 99999, 216, 99999, 10) else (238, 99999, 237, 99999, 12))) else (bif Nat.blt y 219 then (bif Nat.blt y 218 then (234, 99999, 233, 99999, 12) else (228, 99999, 227, 99999, 12)) else (bif Nat.blt y 220 then (231, 99999, 230, 99999, 12) else (225, 99999, 224, 99999, 11)))))))))
def im_okM (y : Nat) : Bool :=
  im_at (im_pl y).1 (.code (im_mn y) (im_code y) (im_mx y) (im_rt y)) && im_at (im_pl y).2.2.2.2 (.initialized (im_mn y).cls) && plainName (im_mn y).cls &&
  decide ((im_mn y).cls ≠ "java/lang/invoke/MethodHandle" ∧ (im_mn y).cls ≠ "java/lang/invoke/VarHandle") &&
  decide (im_mx y ≤ 40) &&
  (bif Nat.beq (im_rc y) 0 then (bif decide ((im_mn y).name = "<init>") then im_at (im_pl y).2.1 (.instanceMethod (im_mn y)) && decide ((parseMethodDescriptor (im_mn y).desc).map (fun d => d.parameters.length + 1) = some (im_na y)) && decide (im_rt y = none)
      else im_at (im_pl y).2.2.1 (.static (im_mn y)) && decide ((parseMethodDescriptor (im_mn y).desc).map (fun d => d.parameters.length) = some (im_na y)))
    else im_at (im_pl y).2.1 (.instanceMethod (im_mn y)) && decide (lw_tbl[(im_pl y).2.2.2.1]? = some (.selects (im_mn y).cls (im_mn y) (im_mn y))) && im_okw (.selects (im_mn y).cls (im_mn y) (im_mn y)) &&
      decide ((parseMethodDescriptor (im_mn y).desc).map (fun d => d.parameters.length + 1) = some (im_na y)) && ((Nat.ble (im_rc y) 10 && decide (im_C (im_rc y - 1) = (im_mn y).cls)) || (Nat.beq (im_rc y) 21 && decide ((im_mn y).cls = "java/lang/String"))))
theorem im_km0 : (List.range' 0 12).all im_okM = true := by decide +kernel
theorem im_km12 : (List.range' 12 12).all im_okM = true := by decide +kernel
theorem im_km24 : (List.range' 24 12).all im_okM = true := by decide +kernel
theorem im_km36 : (List.range' 36 12).all im_okM = true := by decide +kernel
theorem im_km48 : (List.range' 48 12).all im_okM = true := by decide +kernel
theorem im_km60 : (List.range' 60 12).all im_okM = true := by decide +kernel
theorem im_km72 : (List.range' 72 12).all im_okM = true := by decide +kernel
theorem im_km84 : (List.range' 84 12).all im_okM = true := by decide +kernel
theorem im_km96 : (List.range' 96 12).all im_okM = true := by decide +kernel
theorem im_km108 : (List.range' 108 12).all im_okM = true := by decide +kernel
theorem im_km120 : (List.range' 120 12).all im_okM = true := by decide +kernel
theorem im_km132 : (List.range' 132 12).all im_okM = true := by decide +kernel
theorem im_km144 : (List.range' 144 12).all im_okM = true := by decide +kernel
theorem im_km156 : (List.range' 156 12).all im_okM = true := by decide +kernel
theorem im_km168 : (List.range' 168 12).all im_okM = true := by decide +kernel
theorem im_km180 : (List.range' 180 12).all im_okM = true := by decide +kernel
theorem im_km192 : (List.range' 192 12).all im_okM = true := by decide +kernel
theorem im_km204 : (List.range' 204 12).all im_okM = true := by decide +kernel
theorem im_km216 : (List.range' 216 5).all im_okM = true := by decide +kernel
theorem im_km {y : Nat} (h : y < im_nM) : im_okM y = true := by
  have h : y < 221 := h
  by_cases h0 : y < 12
  · exact List.all_eq_true.mp im_km0 y (List.mem_range'_1.mpr ⟨by omega, by omega⟩)
  by_cases h12 : y < 24
  · exact List.all_eq_true.mp im_km12 y (List.mem_range'_1.mpr ⟨by omega, by omega⟩)
  by_cases h24 : y < 36
  · exact List.all_eq_true.mp im_km24 y (List.mem_range'_1.mpr ⟨by omega, by omega⟩)
  by_cases h36 : y < 48
  · exact List.all_eq_true.mp im_km36 y (List.mem_range'_1.mpr ⟨by omega, by omega⟩)
  by_cases h48 : y < 60
  · exact List.all_eq_true.mp im_km48 y (List.mem_range'_1.mpr ⟨by omega, by omega⟩)
  by_cases h60 : y < 72
  · exact List.all_eq_true.mp im_km60 y (List.mem_range'_1.mpr ⟨by omega, by omega⟩)
  by_cases h72 : y < 84
  · exact List.all_eq_true.mp im_km72 y (List.mem_range'_1.mpr ⟨by omega, by omega⟩)
  by_cases h84 : y < 96
  · exact List.all_eq_true.mp im_km84 y (List.mem_range'_1.mpr ⟨by omega, by omega⟩)
  by_cases h96 : y < 108
  · exact List.all_eq_true.mp im_km96 y (List.mem_range'_1.mpr ⟨by omega, by omega⟩)
  by_cases h108 : y < 120
  · exact List.all_eq_true.mp im_km108 y (List.mem_range'_1.mpr ⟨by omega, by omega⟩)
  by_cases h120 : y < 132
  · exact List.all_eq_true.mp im_km120 y (List.mem_range'_1.mpr ⟨by omega, by omega⟩)
  by_cases h132 : y < 144
  · exact List.all_eq_true.mp im_km132 y (List.mem_range'_1.mpr ⟨by omega, by omega⟩)
  by_cases h144 : y < 156
  · exact List.all_eq_true.mp im_km144 y (List.mem_range'_1.mpr ⟨by omega, by omega⟩)
  by_cases h156 : y < 168
  · exact List.all_eq_true.mp im_km156 y (List.mem_range'_1.mpr ⟨by omega, by omega⟩)
  by_cases h168 : y < 180
  · exact List.all_eq_true.mp im_km168 y (List.mem_range'_1.mpr ⟨by omega, by omega⟩)
  by_cases h180 : y < 192
  · exact List.all_eq_true.mp im_km180 y (List.mem_range'_1.mpr ⟨by omega, by omega⟩)
  by_cases h192 : y < 204
  · exact List.all_eq_true.mp im_km192 y (List.mem_range'_1.mpr ⟨by omega, by omega⟩)
  by_cases h204 : y < 216
  · exact List.all_eq_true.mp im_km204 y (List.mem_range'_1.mpr ⟨by omega, by omega⟩)
  · exact List.all_eq_true.mp im_km216 y (List.mem_range'_1.mpr ⟨by omega, by omega⟩)

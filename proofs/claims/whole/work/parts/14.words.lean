/-! words of the tables by their places; what a call, a field, an array needs -/
theorem q840 : Cond.fieldLink RX10 61 "EarlyAnswers" "documentReader" "LEarlyAnswers$DocumentReader;" ∈ TG := tg_of (tI2 (List.mem_of_getElem? (i := 221) (by decide +kernel))) (by decide +kernel)
theorem q841 : Cond.fieldLink RX10 120 "EarlyAnswers$DocumentReader" "faultPlace" "I" ∈ TG := tg_of (tI1 (List.mem_of_getElem? (i := 238) (by decide +kernel))) (by decide +kernel)
theorem q842 : Cond.fieldLink RX10 121 "EarlyAnswers$DocumentReader" "text" "[I" ∈ TG := tg_of (tI1 (List.mem_of_getElem? (i := 234) (by decide +kernel))) (by decide +kernel)
theorem q843 : Cond.fieldLink RX10 124 "EarlyAnswers$DocumentReader" "length" "I" ∈ TG := tg_of (tI1 (List.mem_of_getElem? (i := 236) (by decide +kernel))) (by decide +kernel)
theorem q844 : Cond.fieldLink RX10 68 "EarlyAnswers" "questionReader" "LEarlyAnswers$QuestionReader;" ∈ TG := tg_of (tI2 (List.mem_of_getElem? (i := 222) (by decide +kernel))) (by decide +kernel)
theorem q845 : Cond.fieldLink RX10 137 "EarlyAnswers$QuestionReader" "faultPlace" "I" ∈ TG := tg_of (tI2 (List.mem_of_getElem? (i := 20) (by decide +kernel))) (by decide +kernel)
theorem q846 : Cond.fieldLink RX10 54 "EarlyAnswers" "question" "LEarlyAnswers$Question;" ∈ TG := tg_of (tI2 (List.mem_of_getElem? (i := 220) (by decide +kernel))) (by decide +kernel)
theorem q847 : Cond.fieldLink RX10 138 "EarlyAnswers$QuestionReader" "draft" "LEarlyAnswers$Question;" ∈ TG := tg_of (tI2 (List.mem_of_getElem? (i := 18) (by decide +kernel))) (by decide +kernel)
theorem q848 : Cond.fieldLink RX10 145 "EarlyAnswers$Question" "scoredCount" "I" ∈ TG := tg_of (tI1 (List.mem_of_getElem? (i := 172) (by decide +kernel))) (by decide +kernel)
theorem q849 : Cond.fieldLink RX10 29 "EarlyAnswers" "words" "LEarlyAnswers$Words;" ∈ TG := tg_of (tI2 (List.mem_of_getElem? (i := 217) (by decide +kernel))) (by decide +kernel)
theorem q850 : Cond.fieldLink RX10 173 "EarlyAnswers$Library" "size" "I" ∈ TG := tg_of (tI1 (List.mem_of_getElem? (i := 71) (by decide +kernel))) (by decide +kernel)
theorem q851 : Cond.fieldLink RX10 180 "EarlyAnswers$Library" "there" "I" ∈ TG := tg_of (tI1 (List.mem_of_getElem? (i := 67) (by decide +kernel))) (by decide +kernel)
theorem q852 : Cond.fieldLink RX10 183 "EarlyAnswers$Library" "gone" "I" ∈ TG := tg_of (tI1 (List.mem_of_getElem? (i := 69) (by decide +kernel))) (by decide +kernel)
theorem q853 : Cond.fieldLink RX10 186 "EarlyAnswers$Words" "known" "I" ∈ TG := tg_of (tI1 (List.mem_of_getElem? (i := 38) (by decide +kernel))) (by decide +kernel)
theorem q854 : Cond.fieldLink RX10 198 "EarlyAnswers$Question" "parts" "I" ∈ TG := tg_of (tI1 (List.mem_of_getElem? (i := 168) (by decide +kernel))) (by decide +kernel)
theorem q855 : Cond.fieldLink RX10 201 "EarlyAnswers$Library" "lengths" "[I" ∈ TG := tg_of (tI1 (List.mem_of_getElem? (i := 61) (by decide +kernel))) (by decide +kernel)
theorem q856 : Cond.fieldLink RX10 210 "EarlyAnswers$Library" "counts" "[[I" ∈ TG := tg_of (tI1 (List.mem_of_getElem? (i := 75) (by decide +kernel))) (by decide +kernel)
theorem q857 : Cond.fieldLink RX10 214 "EarlyAnswers$Library" "texts" "[[I" ∈ TG := tg_of (tI1 (List.mem_of_getElem? (i := 58) (by decide +kernel))) (by decide +kernel)
theorem q858 : Cond.fieldLink RX10 220 "EarlyAnswers$Library" "postings" "[I" ∈ TG := tg_of (tI1 (List.mem_of_getElem? (i := 85) (by decide +kernel))) (by decide +kernel)
theorem q859 : Cond.fieldLink RX10 251 "EarlyAnswers$Packer" "first" "I" ∈ TG := tg_of (tI1 (List.mem_of_getElem? (i := 123) (by decide +kernel))) (by decide +kernel)
theorem q860 : Cond.fieldLink RX10 254 "EarlyAnswers$Packer" "last" "I" ∈ TG := tg_of (tI1 (List.mem_of_getElem? (i := 126) (by decide +kernel))) (by decide +kernel)
theorem q861 : Cond.fieldLink RX10 257 "EarlyAnswers$Packer" "postings" "I" ∈ TG := tg_of (tI1 (List.mem_of_getElem? (i := 128) (by decide +kernel))) (by decide +kernel)
theorem q862 : Cond.fieldLink RX10 259 "EarlyAnswers$Packer" "top" "I" ∈ TG := tg_of (tI1 (List.mem_of_getElem? (i := 131) (by decide +kernel))) (by decide +kernel)
theorem q863 : Cond.fieldLink RX10 262 "EarlyAnswers$Packer" "sizeInBits" "I" ∈ TG := tg_of (tI1 (List.mem_of_getElem? (i := 133) (by decide +kernel))) (by decide +kernel)
theorem q864 : Cond.fieldLink RX10 265 "EarlyAnswers$Packer" "gapWidth" "I" ∈ TG := tg_of (tI1 (List.mem_of_getElem? (i := 135) (by decide +kernel))) (by decide +kernel)
theorem q865 : Cond.fieldLink RX10 268 "EarlyAnswers$Packer" "countWidth" "I" ∈ TG := tg_of (tI1 (List.mem_of_getElem? (i := 137) (by decide +kernel))) (by decide +kernel)
theorem q866 : Cond.fieldLink RX10 271 "EarlyAnswers$Packer" "jumpWidth" "I" ∈ TG := tg_of (tI1 (List.mem_of_getElem? (i := 139) (by decide +kernel))) (by decide +kernel)
theorem q867 : Cond.fieldLink RX10 277 "EarlyAnswers$Library" "lists" "[[I" ∈ TG := tg_of (tI1 (List.mem_of_getElem? (i := 81) (by decide +kernel))) (by decide +kernel)
theorem q868 : Cond.fieldLink RX10 299 "EarlyAnswers$Question" "scoredWords" "[I" ∈ TG := tg_of (tI1 (List.mem_of_getElem? (i := 176) (by decide +kernel))) (by decide +kernel)
theorem q869 : Cond.fieldLink RX10 302 "EarlyAnswers$Question" "boosts" "[I" ∈ TG := tg_of (tI1 (List.mem_of_getElem? (i := 180) (by decide +kernel))) (by decide +kernel)
theorem q870 : Cond.fieldLink RX10 305 "EarlyAnswers$Question" "musts" "[Z" ∈ TG := tg_of (tI1 (List.mem_of_getElem? (i := 183) (by decide +kernel))) (by decide +kernel)
theorem q871 : Cond.fieldLink RX10 324 "EarlyAnswers$Judge" "windowLength" "I" ∈ TG := tg_of (tI2 (List.mem_of_getElem? (i := 52) (by decide +kernel))) (by decide +kernel)
theorem q872 : Cond.fieldLink RX10 321 "EarlyAnswers$Judge" "windowBegin" "I" ∈ TG := tg_of (tI2 (List.mem_of_getElem? (i := 50) (by decide +kernel))) (by decide +kernel)
theorem q873 : Cond.fieldLink RX10 336 "EarlyAnswers$Ranking" "scores" "[I" ∈ TG := tg_of (tI2 (List.mem_of_getElem? (i := 75) (by decide +kernel))) (by decide +kernel)
theorem q874 : Cond.fieldLink RX10 333 "EarlyAnswers$Ranking" "documents" "[I" ∈ TG := tg_of (tI2 (List.mem_of_getElem? (i := 73) (by decide +kernel))) (by decide +kernel)
theorem q875 : Cond.fieldLink RX10 345 "EarlyAnswers$Hunt" "held" "I" ∈ TG := tg_of (tI2 (List.mem_of_getElem? (i := 174) (by decide +kernel))) (by decide +kernel)
theorem q876 : Cond.fieldLink RX10 351 "EarlyAnswers$Hunt" "turns" "I" ∈ TG := tg_of (tI2 (List.mem_of_getElem? (i := 176) (by decide +kernel))) (by decide +kernel)
theorem q877 : Cond.fieldLink RX10 360 "EarlyAnswers$Hunt" "sought" "I" ∈ TG := tg_of (tI2 (List.mem_of_getElem? (i := 178) (by decide +kernel))) (by decide +kernel)
theorem q878 : Cond.fieldLink RX10 363 "EarlyAnswers$Hunt" "skips" "I" ∈ TG := tg_of (tI2 (List.mem_of_getElem? (i := 180) (by decide +kernel))) (by decide +kernel)
theorem q879 : Cond.fieldLink RX10 366 "EarlyAnswers$Hunt" "lookedAt" "I" ∈ TG := tg_of (tI2 (List.mem_of_getElem? (i := 182) (by decide +kernel))) (by decide +kernel)
theorem q880 : Cond.fieldLink RX10 372 "EarlyAnswers$Hunt" "bestDocuments" "[I" ∈ TG := tg_of (tI2 (List.mem_of_getElem? (i := 171) (by decide +kernel))) (by decide +kernel)
theorem q881 : Cond.fieldLink RX10 378 "EarlyAnswers$Hunt" "cursors" "[LEarlyAnswers$Cursor;" ∈ TG := tg_of (tI2 (List.mem_of_getElem? (i := 165) (by decide +kernel))) (by decide +kernel)
theorem q882 : Cond.fieldLink RX10 382 "EarlyAnswers$Cursor" "openings" "[I" ∈ TG := tg_of (tI2 (List.mem_of_getElem? (i := 109) (by decide +kernel))) (by decide +kernel)
theorem q883 : Cond.fieldLink RX10 402 "EarlyAnswers$Question" "phraseCount" "I" ∈ TG := tg_of (tI1 (List.mem_of_getElem? (i := 192) (by decide +kernel))) (by decide +kernel)
theorem q884 : Cond.fieldLink RX10 90 "EarlyAnswers" "trial" "LEarlyAnswers$Ranking;" ∈ TG := tg_of (tI2 (List.mem_of_getElem? (i := 225) (by decide +kernel))) (by decide +kernel)
theorem q885 : Cond.code yX10_refuseArgument cX10_refuseArgument 1 none ∈ TG := tg_of (tI3 (List.mem_of_getElem? (i := 167) (by decide +kernel))) (by decide +kernel)
theorem q886 : Cond.methodLink RX10 113 yX10_refuseArgument ∈ TG := tg_of (tI3 (List.mem_of_getElem? (i := 164) (by decide +kernel))) (by decide +kernel)
theorem q887 : Cond.instanceMethod yX10_refuseArgument ∈ TG := tg_of (tI3 (List.mem_of_getElem? (i := 166) (by decide +kernel))) (by decide +kernel)
theorem q888 : Cond.selects RX10 yX10_refuseArgument yX10_refuseArgument ∈ TG := tg_of (tS (by decide +kernel)) (by decide +kernel)
theorem q889 : Cond.code yX10_needBetween cX10_needBetween 4 none ∈ TG := tg_of (tI3 (List.mem_of_getElem? (i := 163) (by decide +kernel))) (by decide +kernel)
theorem q890 : Cond.methodLink RX10 106 yX10_needBetween ∈ TG := tg_of (tI3 (List.mem_of_getElem? (i := 160) (by decide +kernel))) (by decide +kernel)
theorem q891 : Cond.instanceMethod yX10_needBetween ∈ TG := tg_of (tI3 (List.mem_of_getElem? (i := 162) (by decide +kernel))) (by decide +kernel)
theorem q892 : Cond.selects RX10 yX10_needBetween yX10_needBetween ∈ TG := tg_of (tS (by decide +kernel)) (by decide +kernel)
theorem q893 : Cond.code yX1_read cX1_read 5 (some .int) ∈ TG := tg_of (tI3 (List.mem_of_getElem? (i := 238) (by decide +kernel))) (by decide +kernel)
theorem q894 : Cond.methodLink RX10 116 yX1_read ∈ TG := tg_of (tI3 (List.mem_of_getElem? (i := 235) (by decide +kernel))) (by decide +kernel)
theorem q895 : Cond.instanceMethod yX1_read ∈ TG := tg_of (tI3 (List.mem_of_getElem? (i := 236) (by decide +kernel))) (by decide +kernel)
theorem q896 : Cond.selects RX1 yX1_read yX1_read ∈ TG := tg_of (tI3 (List.mem_of_getElem? (i := 237) (by decide +kernel))) (by decide +kernel)
theorem q897 : Cond.code yX4_shelve cX4_shelve 5 (some .int) ∈ TG := tg_of (tI4 (List.mem_of_getElem? (i := 29) (by decide +kernel))) (by decide +kernel)
theorem q898 : Cond.methodLink RX10 127 yX4_shelve ∈ TG := tg_of (tI4 (List.mem_of_getElem? (i := 26) (by decide +kernel))) (by decide +kernel)
theorem q899 : Cond.instanceMethod yX4_shelve ∈ TG := tg_of (tI4 (List.mem_of_getElem? (i := 27) (by decide +kernel))) (by decide +kernel)
theorem q900 : Cond.selects RX4 yX4_shelve yX4_shelve ∈ TG := tg_of (tI4 (List.mem_of_getElem? (i := 28) (by decide +kernel))) (by decide +kernel)
theorem q901 : Cond.methodLink RX10 130 Lib.Math.min.name ∈ TG := tg_of (tI4 (List.mem_of_getElem? (i := 41) (by decide +kernel))) (by decide +kernel)
theorem q902 : Cond.code yX7_read cX7_read 5 (some .int) ∈ TG := tg_of (tI4 (List.mem_of_getElem? (i := 45) (by decide +kernel))) (by decide +kernel)
theorem q903 : Cond.methodLink RX10 136 yX7_read ∈ TG := tg_of (tI4 (List.mem_of_getElem? (i := 42) (by decide +kernel))) (by decide +kernel)
theorem q904 : Cond.instanceMethod yX7_read ∈ TG := tg_of (tI4 (List.mem_of_getElem? (i := 43) (by decide +kernel))) (by decide +kernel)
theorem q905 : Cond.selects RX7 yX7_read yX7_read ∈ TG := tg_of (tI4 (List.mem_of_getElem? (i := 44) (by decide +kernel))) (by decide +kernel)
theorem q906 : Cond.code yX6_copyFrom cX6_copyFrom 4 none ∈ TG := tg_of (tI4 (List.mem_of_getElem? (i := 123) (by decide +kernel))) (by decide +kernel)
theorem q907 : Cond.methodLink RX10 141 yX6_copyFrom ∈ TG := tg_of (tI4 (List.mem_of_getElem? (i := 120) (by decide +kernel))) (by decide +kernel)
theorem q908 : Cond.instanceMethod yX6_copyFrom ∈ TG := tg_of (tI4 (List.mem_of_getElem? (i := 121) (by decide +kernel))) (by decide +kernel)
theorem q909 : Cond.selects RX6 yX6_copyFrom yX6_copyFrom ∈ TG := tg_of (tI4 (List.mem_of_getElem? (i := 122) (by decide +kernel))) (by decide +kernel)
theorem q910 : Cond.code yX10_spellingOf cX10_spellingOf 5 (some .long) ∈ TG := tg_of (tI4 (List.mem_of_getElem? (i := 134) (by decide +kernel))) (by decide +kernel)
theorem q911 : Cond.methodLink RX10 148 yX10_spellingOf ∈ TG := tg_of (tI4 (List.mem_of_getElem? (i := 131) (by decide +kernel))) (by decide +kernel)
theorem q912 : Cond.instanceMethod yX10_spellingOf ∈ TG := tg_of (tI4 (List.mem_of_getElem? (i := 133) (by decide +kernel))) (by decide +kernel)
theorem q913 : Cond.selects RX10 yX10_spellingOf yX10_spellingOf ∈ TG := tg_of (tS (by decide +kernel)) (by decide +kernel)
theorem q914 : Cond.methodLink RX10 152 yX9_numberOf ∈ TG := tg_of (tI4 (List.mem_of_getElem? (i := 137) (by decide +kernel))) (by decide +kernel)
theorem q915 : Cond.code yX10_refuseMissing cX10_refuseMissing 1 none ∈ TG := tg_of (tI4 (List.mem_of_getElem? (i := 153) (by decide +kernel))) (by decide +kernel)
theorem q916 : Cond.methodLink RX10 163 yX10_refuseMissing ∈ TG := tg_of (tI4 (List.mem_of_getElem? (i := 150) (by decide +kernel))) (by decide +kernel)
theorem q917 : Cond.instanceMethod yX10_refuseMissing ∈ TG := tg_of (tI4 (List.mem_of_getElem? (i := 152) (by decide +kernel))) (by decide +kernel)
theorem q918 : Cond.selects RX10 yX10_refuseMissing yX10_refuseMissing ∈ TG := tg_of (tS (by decide +kernel)) (by decide +kernel)
theorem q919 : Cond.code yX10_needDocument cX10_needDocument 2 none ∈ TG := tg_of (tI4 (List.mem_of_getElem? (i := 149) (by decide +kernel))) (by decide +kernel)
theorem q920 : Cond.methodLink RX10 156 yX10_needDocument ∈ TG := tg_of (tI4 (List.mem_of_getElem? (i := 146) (by decide +kernel))) (by decide +kernel)
theorem q921 : Cond.instanceMethod yX10_needDocument ∈ TG := tg_of (tI4 (List.mem_of_getElem? (i := 148) (by decide +kernel))) (by decide +kernel)
theorem q922 : Cond.selects RX10 yX10_needDocument yX10_needDocument ∈ TG := tg_of (tS (by decide +kernel)) (by decide +kernel)
theorem q923 : Cond.code yX4_takeAway cX4_takeAway 2 (some .int) ∈ TG := tg_of (tI4 (List.mem_of_getElem? (i := 173) (by decide +kernel))) (by decide +kernel)
theorem q924 : Cond.methodLink RX10 166 yX4_takeAway ∈ TG := tg_of (tI4 (List.mem_of_getElem? (i := 170) (by decide +kernel))) (by decide +kernel)
theorem q925 : Cond.instanceMethod yX4_takeAway ∈ TG := tg_of (tI4 (List.mem_of_getElem? (i := 171) (by decide +kernel))) (by decide +kernel)
theorem q926 : Cond.selects RX4 yX4_takeAway yX4_takeAway ∈ TG := tg_of (tI4 (List.mem_of_getElem? (i := 172) (by decide +kernel))) (by decide +kernel)
theorem q927 : Cond.code yX10_needSize cX10_needSize 2 none ∈ TG := tg_of (tI4 (List.mem_of_getElem? (i := 184) (by decide +kernel))) (by decide +kernel)
theorem q928 : Cond.methodLink RX10 170 yX10_needSize ∈ TG := tg_of (tI4 (List.mem_of_getElem? (i := 181) (by decide +kernel))) (by decide +kernel)
theorem q929 : Cond.instanceMethod yX10_needSize ∈ TG := tg_of (tI4 (List.mem_of_getElem? (i := 183) (by decide +kernel))) (by decide +kernel)
theorem q930 : Cond.selects RX10 yX10_needSize yX10_needSize ∈ TG := tg_of (tS (by decide +kernel)) (by decide +kernel)
theorem q931 : Cond.code yX4_purge cX4_purge 3 (some .int) ∈ TG := tg_of (tI4 (List.mem_of_getElem? (i := 188) (by decide +kernel))) (by decide +kernel)
theorem q932 : Cond.methodLink RX10 176 yX4_purge ∈ TG := tg_of (tI4 (List.mem_of_getElem? (i := 185) (by decide +kernel))) (by decide +kernel)
theorem q933 : Cond.instanceMethod yX4_purge ∈ TG := tg_of (tI4 (List.mem_of_getElem? (i := 186) (by decide +kernel))) (by decide +kernel)
theorem q934 : Cond.selects RX4 yX4_purge yX4_purge ∈ TG := tg_of (tI4 (List.mem_of_getElem? (i := 187) (by decide +kernel))) (by decide +kernel)
theorem q935 : Cond.code yX4_allPostings cX4_allPostings 3 (some .int) ∈ TG := tg_of (tI4 (List.mem_of_getElem? (i := 204) (by decide +kernel))) (by decide +kernel)
theorem q936 : Cond.methodLink RX10 189 yX4_allPostings ∈ TG := tg_of (tI4 (List.mem_of_getElem? (i := 201) (by decide +kernel))) (by decide +kernel)
theorem q937 : Cond.instanceMethod yX4_allPostings ∈ TG := tg_of (tI4 (List.mem_of_getElem? (i := 202) (by decide +kernel))) (by decide +kernel)
theorem q938 : Cond.selects RX4 yX4_allPostings yX4_allPostings ∈ TG := tg_of (tI4 (List.mem_of_getElem? (i := 203) (by decide +kernel))) (by decide +kernel)
theorem q939 : Cond.code yX5_allBlocks cX5_allBlocks 4 (some .int) ∈ TG := tg_of (tI4 (List.mem_of_getElem? (i := 208) (by decide +kernel))) (by decide +kernel)
theorem q940 : Cond.methodLink RX10 192 yX5_allBlocks ∈ TG := tg_of (tI4 (List.mem_of_getElem? (i := 205) (by decide +kernel))) (by decide +kernel)
theorem q941 : Cond.instanceMethod yX5_allBlocks ∈ TG := tg_of (tI4 (List.mem_of_getElem? (i := 206) (by decide +kernel))) (by decide +kernel)
theorem q942 : Cond.selects RX5 yX5_allBlocks yX5_allBlocks ∈ TG := tg_of (tI4 (List.mem_of_getElem? (i := 207) (by decide +kernel))) (by decide +kernel)
theorem q943 : Cond.code yX4_unlikeWords cX4_unlikeWords 2 (some .int) ∈ TG := tg_of (tI4 (List.mem_of_getElem? (i := 219) (by decide +kernel))) (by decide +kernel)
theorem q944 : Cond.methodLink RX10 204 yX4_unlikeWords ∈ TG := tg_of (tI4 (List.mem_of_getElem? (i := 216) (by decide +kernel))) (by decide +kernel)
theorem q945 : Cond.instanceMethod yX4_unlikeWords ∈ TG := tg_of (tI4 (List.mem_of_getElem? (i := 217) (by decide +kernel))) (by decide +kernel)
theorem q946 : Cond.selects RX4 yX4_unlikeWords yX4_unlikeWords ∈ TG := tg_of (tI4 (List.mem_of_getElem? (i := 218) (by decide +kernel))) (by decide +kernel)
theorem q947 : Cond.code yX4_mostOften cX4_mostOften 4 (some .int) ∈ TG := tg_of (tI4 (List.mem_of_getElem? (i := 227) (by decide +kernel))) (by decide +kernel)
theorem q948 : Cond.methodLink RX10 207 yX4_mostOften ∈ TG := tg_of (tI4 (List.mem_of_getElem? (i := 224) (by decide +kernel))) (by decide +kernel)
theorem q949 : Cond.instanceMethod yX4_mostOften ∈ TG := tg_of (tI4 (List.mem_of_getElem? (i := 225) (by decide +kernel))) (by decide +kernel)
theorem q950 : Cond.selects RX4 yX4_mostOften yX4_mostOften ∈ TG := tg_of (tI4 (List.mem_of_getElem? (i := 226) (by decide +kernel))) (by decide +kernel)
theorem q951 : Cond.code yX10_needWord cX10_needWord 2 none ∈ TG := tg_of (tI5 (List.mem_of_getElem? (i := 5) (by decide +kernel))) (by decide +kernel)
theorem q952 : Cond.methodLink RX10 217 yX10_needWord ∈ TG := tg_of (tI5 (List.mem_of_getElem? (i := 2) (by decide +kernel))) (by decide +kernel)
theorem q953 : Cond.instanceMethod yX10_needWord ∈ TG := tg_of (tI5 (List.mem_of_getElem? (i := 4) (by decide +kernel))) (by decide +kernel)
theorem q954 : Cond.selects RX10 yX10_needWord yX10_needWord ∈ TG := tg_of (tS (by decide +kernel)) (by decide +kernel)
theorem q955 : Cond.code yX4_standsOften cX4_standsOften 4 (some .int) ∈ TG := tg_of (tI5 (List.mem_of_getElem? (i := 9) (by decide +kernel))) (by decide +kernel)
theorem q956 : Cond.methodLink RX10 223 yX4_standsOften ∈ TG := tg_of (tI5 (List.mem_of_getElem? (i := 6) (by decide +kernel))) (by decide +kernel)
theorem q957 : Cond.instanceMethod yX4_standsOften ∈ TG := tg_of (tI5 (List.mem_of_getElem? (i := 7) (by decide +kernel))) (by decide +kernel)
theorem q958 : Cond.selects RX4 yX4_standsOften yX4_standsOften ∈ TG := tg_of (tI5 (List.mem_of_getElem? (i := 8) (by decide +kernel))) (by decide +kernel)
theorem q959 : Cond.methodLink RX10 226 yX4_blocksOf ∈ TG := tg_of (tI5 (List.mem_of_getElem? (i := 10) (by decide +kernel))) (by decide +kernel)
theorem q960 : Cond.code yX4_topOf cX4_topOf 4 (some .int) ∈ TG := tg_of (tI5 (List.mem_of_getElem? (i := 14) (by decide +kernel))) (by decide +kernel)
theorem q961 : Cond.methodLink RX10 229 yX4_topOf ∈ TG := tg_of (tI5 (List.mem_of_getElem? (i := 11) (by decide +kernel))) (by decide +kernel)
theorem q962 : Cond.instanceMethod yX4_topOf ∈ TG := tg_of (tI5 (List.mem_of_getElem? (i := 12) (by decide +kernel))) (by decide +kernel)
theorem q963 : Cond.selects RX4 yX4_topOf yX4_topOf ∈ TG := tg_of (tI5 (List.mem_of_getElem? (i := 13) (by decide +kernel))) (by decide +kernel)
theorem q964 : Cond.methodLink RX10 232 yX4_rareOf ∈ TG := tg_of (tI5 (List.mem_of_getElem? (i := 16) (by decide +kernel))) (by decide +kernel)
theorem q965 : Cond.methodLink RX10 235 yX5_bitsOf ∈ TG := tg_of (tI5 (List.mem_of_getElem? (i := 17) (by decide +kernel))) (by decide +kernel)
theorem q966 : Cond.methodLink RX10 238 yX9_lettersOf ∈ TG := tg_of (tI5 (List.mem_of_getElem? (i := 18) (by decide +kernel))) (by decide +kernel)
theorem q967 : Cond.code yX9_letterOf cX9_letterOf 7 (some .int) ∈ TG := tg_of (tI5 (List.mem_of_getElem? (i := 33) (by decide +kernel))) (by decide +kernel)
theorem q968 : Cond.methodLink RX10 241 yX9_letterOf ∈ TG := tg_of (tI5 (List.mem_of_getElem? (i := 30) (by decide +kernel))) (by decide +kernel)
theorem q969 : Cond.instanceMethod yX9_letterOf ∈ TG := tg_of (tI5 (List.mem_of_getElem? (i := 31) (by decide +kernel))) (by decide +kernel)
theorem q970 : Cond.selects RX9 yX9_letterOf yX9_letterOf ∈ TG := tg_of (tI5 (List.mem_of_getElem? (i := 32) (by decide +kernel))) (by decide +kernel)
theorem q971 : Cond.code yX10_needBlock cX10_needBlock 3 none ∈ TG := tg_of (tI5 (List.mem_of_getElem? (i := 45) (by decide +kernel))) (by decide +kernel)
theorem q972 : Cond.methodLink RX10 244 yX10_needBlock ∈ TG := tg_of (tI5 (List.mem_of_getElem? (i := 42) (by decide +kernel))) (by decide +kernel)
theorem q973 : Cond.instanceMethod yX10_needBlock ∈ TG := tg_of (tI5 (List.mem_of_getElem? (i := 44) (by decide +kernel))) (by decide +kernel)
theorem q974 : Cond.selects RX10 yX10_needBlock yX10_needBlock ∈ TG := tg_of (tS (by decide +kernel)) (by decide +kernel)
theorem q975 : Cond.methodLink RX10 248 yX5_measure ∈ TG := tg_of (tI5 (List.mem_of_getElem? (i := 46) (by decide +kernel))) (by decide +kernel)
theorem q976 : Cond.code yX10_needPosting cX10_needPosting 3 none ∈ TG := tg_of (tI5 (List.mem_of_getElem? (i := 57) (by decide +kernel))) (by decide +kernel)
theorem q977 : Cond.methodLink RX10 274 yX10_needPosting ∈ TG := tg_of (tI5 (List.mem_of_getElem? (i := 54) (by decide +kernel))) (by decide +kernel)
theorem q978 : Cond.instanceMethod yX10_needPosting ∈ TG := tg_of (tI5 (List.mem_of_getElem? (i := 56) (by decide +kernel))) (by decide +kernel)
theorem q979 : Cond.selects RX10 yX10_needPosting yX10_needPosting ∈ TG := tg_of (tS (by decide +kernel)) (by decide +kernel)
theorem q980 : Cond.methodLink RX10 280 yX4_gainOf ∈ TG := tg_of (tI5 (List.mem_of_getElem? (i := 58) (by decide +kernel))) (by decide +kernel)
theorem q981 : Cond.code yX4_blockAt cX4_blockAt 2 (some .int) ∈ TG := tg_of (tI5 (List.mem_of_getElem? (i := 62) (by decide +kernel))) (by decide +kernel)
theorem q982 : Cond.methodLink RX10 283 yX4_blockAt ∈ TG := tg_of (tI5 (List.mem_of_getElem? (i := 59) (by decide +kernel))) (by decide +kernel)
theorem q983 : Cond.instanceMethod yX4_blockAt ∈ TG := tg_of (tI5 (List.mem_of_getElem? (i := 60) (by decide +kernel))) (by decide +kernel)
theorem q984 : Cond.selects RX4 yX4_blockAt yX4_blockAt ∈ TG := tg_of (tI5 (List.mem_of_getElem? (i := 61) (by decide +kernel))) (by decide +kernel)
theorem q985 : Cond.code yX4_positionOf cX4_positionOf 6 (some .int) ∈ TG := tg_of (tI5 (List.mem_of_getElem? (i := 73) (by decide +kernel))) (by decide +kernel)
theorem q986 : Cond.methodLink RX10 286 yX4_positionOf ∈ TG := tg_of (tI5 (List.mem_of_getElem? (i := 70) (by decide +kernel))) (by decide +kernel)
theorem q987 : Cond.instanceMethod yX4_positionOf ∈ TG := tg_of (tI5 (List.mem_of_getElem? (i := 71) (by decide +kernel))) (by decide +kernel)
theorem q988 : Cond.selects RX4 yX4_positionOf yX4_positionOf ∈ TG := tg_of (tI5 (List.mem_of_getElem? (i := 72) (by decide +kernel))) (by decide +kernel)
theorem q989 : Cond.code yX4_commonWord cX4_commonWord 5 (some .int) ∈ TG := tg_of (tI5 (List.mem_of_getElem? (i := 84) (by decide +kernel))) (by decide +kernel)
theorem q990 : Cond.methodLink RX10 290 yX4_commonWord ∈ TG := tg_of (tI5 (List.mem_of_getElem? (i := 81) (by decide +kernel))) (by decide +kernel)
theorem q991 : Cond.instanceMethod yX4_commonWord ∈ TG := tg_of (tI5 (List.mem_of_getElem? (i := 82) (by decide +kernel))) (by decide +kernel)
theorem q992 : Cond.selects RX4 yX4_commonWord yX4_commonWord ∈ TG := tg_of (tI5 (List.mem_of_getElem? (i := 83) (by decide +kernel))) (by decide +kernel)
theorem q993 : Cond.methodLink RX10 293 yX4_wordsInBoth ∈ TG := tg_of (tI5 (List.mem_of_getElem? (i := 92) (by decide +kernel))) (by decide +kernel)
theorem q994 : Cond.code yX6_hasScored cX6_hasScored 2 (some .boolean) ∈ TG := tg_of (tI5 (List.mem_of_getElem? (i := 103) (by decide +kernel))) (by decide +kernel)
theorem q995 : Cond.methodLink RX10 296 yX6_hasScored ∈ TG := tg_of (tI5 (List.mem_of_getElem? (i := 100) (by decide +kernel))) (by decide +kernel)
theorem q996 : Cond.instanceMethod yX6_hasScored ∈ TG := tg_of (tI5 (List.mem_of_getElem? (i := 101) (by decide +kernel))) (by decide +kernel)
theorem q997 : Cond.selects RX6 yX6_hasScored yX6_hasScored ∈ TG := tg_of (tI5 (List.mem_of_getElem? (i := 102) (by decide +kernel))) (by decide +kernel)
theorem q998 : Cond.methodLink RX10 309 yX3_whyNot ∈ TG := tg_of (tI5 (List.mem_of_getElem? (i := 111) (by decide +kernel))) (by decide +kernel)
theorem q999 : Cond.methodLink RX10 312 yX3_total ∈ TG := tg_of (tI5 (List.mem_of_getElem? (i := 119) (by decide +kernel))) (by decide +kernel)
theorem q1000 : Cond.methodLink RX10 315 yX3_nearness ∈ TG := tg_of (tI5 (List.mem_of_getElem? (i := 127) (by decide +kernel))) (by decide +kernel)
theorem q1001 : Cond.code yX3_findWindow cX3_findWindow 5 none ∈ TG := tg_of (tI5 (List.mem_of_getElem? (i := 138) (by decide +kernel))) (by decide +kernel)
theorem q1002 : Cond.methodLink RX10 318 yX3_findWindow ∈ TG := tg_of (tI5 (List.mem_of_getElem? (i := 135) (by decide +kernel))) (by decide +kernel)
theorem q1003 : Cond.instanceMethod yX3_findWindow ∈ TG := tg_of (tI5 (List.mem_of_getElem? (i := 136) (by decide +kernel))) (by decide +kernel)
theorem q1004 : Cond.selects RX3 yX3_findWindow yX3_findWindow ∈ TG := tg_of (tI5 (List.mem_of_getElem? (i := 137) (by decide +kernel))) (by decide +kernel)
theorem q1005 : Cond.code yX8_placeOf cX8_placeOf 3 (some .int) ∈ TG := tg_of (tI5 (List.mem_of_getElem? (i := 164) (by decide +kernel))) (by decide +kernel)
theorem q1006 : Cond.methodLink RX10 339 yX8_placeOf ∈ TG := tg_of (tI5 (List.mem_of_getElem? (i := 161) (by decide +kernel))) (by decide +kernel)
theorem q1007 : Cond.instanceMethod yX8_placeOf ∈ TG := tg_of (tI5 (List.mem_of_getElem? (i := 162) (by decide +kernel))) (by decide +kernel)
theorem q1008 : Cond.selects RX8 yX8_placeOf yX8_placeOf ∈ TG := tg_of (tI5 (List.mem_of_getElem? (i := 163) (by decide +kernel))) (by decide +kernel)
theorem q1009 : Cond.methodLink RX10 348 yX2_floorNow ∈ TG := tg_of (tI6 (List.mem_of_getElem? (i := 22) (by decide +kernel))) (by decide +kernel)
theorem q1010 : Cond.code yX2_allOpened cX2_allOpened 3 (some .int) ∈ TG := tg_of (tI6 (List.mem_of_getElem? (i := 26) (by decide +kernel))) (by decide +kernel)
theorem q1011 : Cond.methodLink RX10 354 yX2_allOpened ∈ TG := tg_of (tI6 (List.mem_of_getElem? (i := 23) (by decide +kernel))) (by decide +kernel)
theorem q1012 : Cond.instanceMethod yX2_allOpened ∈ TG := tg_of (tI6 (List.mem_of_getElem? (i := 24) (by decide +kernel))) (by decide +kernel)
theorem q1013 : Cond.selects RX2 yX2_allOpened yX2_allOpened ∈ TG := tg_of (tI6 (List.mem_of_getElem? (i := 25) (by decide +kernel))) (by decide +kernel)
theorem q1014 : Cond.code yX2_spared cX2_spared 4 (some .int) ∈ TG := tg_of (tI6 (List.mem_of_getElem? (i := 34) (by decide +kernel))) (by decide +kernel)
theorem q1015 : Cond.methodLink RX10 369 yX2_spared ∈ TG := tg_of (tI6 (List.mem_of_getElem? (i := 31) (by decide +kernel))) (by decide +kernel)
theorem q1016 : Cond.instanceMethod yX2_spared ∈ TG := tg_of (tI6 (List.mem_of_getElem? (i := 32) (by decide +kernel))) (by decide +kernel)
theorem q1017 : Cond.selects RX2 yX2_spared yX2_spared ∈ TG := tg_of (tI6 (List.mem_of_getElem? (i := 33) (by decide +kernel))) (by decide +kernel)
theorem q1018 : Cond.code yX10_needScoredBlock cX10_needScoredBlock 3 none ∈ TG := tg_of (tI6 (List.mem_of_getElem? (i := 52) (by decide +kernel))) (by decide +kernel)
theorem q1019 : Cond.methodLink RX10 375 yX10_needScoredBlock ∈ TG := tg_of (tI6 (List.mem_of_getElem? (i := 49) (by decide +kernel))) (by decide +kernel)
theorem q1020 : Cond.instanceMethod yX10_needScoredBlock ∈ TG := tg_of (tI6 (List.mem_of_getElem? (i := 51) (by decide +kernel))) (by decide +kernel)
theorem q1021 : Cond.selects RX10 yX10_needScoredBlock yX10_needScoredBlock ∈ TG := tg_of (tS (by decide +kernel)) (by decide +kernel)
theorem q1022 : Cond.methodLink RX10 387 Lib.Math.max.name ∈ TG := tg_of (tI6 (List.mem_of_getElem? (i := 60) (by decide +kernel))) (by decide +kernel)
theorem q1023 : Cond.code yX10_workBy cX10_workBy 3 (some .int) ∈ TG := tg_of (tI6 (List.mem_of_getElem? (i := 78) (by decide +kernel))) (by decide +kernel)
theorem q1024 : Cond.methodLink RX10 390 yX10_workBy ∈ TG := tg_of (tI6 (List.mem_of_getElem? (i := 75) (by decide +kernel))) (by decide +kernel)
theorem q1025 : Cond.instanceMethod yX10_workBy ∈ TG := tg_of (tI6 (List.mem_of_getElem? (i := 77) (by decide +kernel))) (by decide +kernel)
theorem q1026 : Cond.selects RX10 yX10_workBy yX10_workBy ∈ TG := tg_of (tS (by decide +kernel)) (by decide +kernel)
theorem q1027 : Cond.methodLink RX10 399 yX3_pointsOf ∈ TG := tg_of (tI6 (List.mem_of_getElem? (i := 114) (by decide +kernel))) (by decide +kernel)
theorem q1028 : Cond.methodLink RX10 405 yX3_phraseBegins ∈ TG := tg_of (tI6 (List.mem_of_getElem? (i := 122) (by decide +kernel))) (by decide +kernel)
theorem sv_X10_113 : SV RX10 113 RX10 yX10_refuseArgument cX10_refuseArgument 1 none 0 := ⟨q886, q887, q888, q274, q885, rfl, by decide +kernel, by decide +kernel, by decide +kernel⟩
theorem sv_X10_106 : SV RX10 106 RX10 yX10_needBetween cX10_needBetween 4 none 3 := ⟨q890, q891, q892, q274, q889, rfl, by decide +kernel, by decide +kernel, by decide +kernel⟩
theorem sv_X10_116 : SV RX10 116 RX1 yX1_read cX1_read 5 (some .int) 2 := ⟨q894, q895, q896, q271, q893, rfl, by decide +kernel, by decide +kernel, by decide +kernel⟩
theorem sv_X10_127 : SV RX10 127 RX4 yX4_shelve cX4_shelve 5 (some .int) 2 := ⟨q898, q899, q900, q226, q897, rfl, by decide +kernel, by decide +kernel, by decide +kernel⟩
theorem sm_X10_130 : SM RX10 130 Lib.Math.min.name Lib.Math.min.code 2 := ⟨q901, q215, q212, q216⟩
theorem sv_X10_136 : SV RX10 136 RX7 yX7_read cX7_read 5 (some .int) 2 := ⟨q903, q904, q905, q448, q902, rfl, by decide +kernel, by decide +kernel, by decide +kernel⟩
theorem sv_X10_141 : SV RX10 141 RX6 yX6_copyFrom cX6_copyFrom 4 none 1 := ⟨q907, q908, q909, q289, q906, rfl, by decide +kernel, by decide +kernel, by decide +kernel⟩
theorem sv_X10_148 : SV RX10 148 RX10 yX10_spellingOf cX10_spellingOf 5 (some .long) 1 := ⟨q911, q912, q913, q274, q910, rfl, by decide +kernel, by decide +kernel, by decide +kernel⟩
theorem sv_X10_152 : SV RX10 152 RX9 yX9_numberOf cX9_numberOf 4 (some .int) 1 := ⟨q914, q260, q261, q262, q258, rfl, by decide +kernel, by decide +kernel, by decide +kernel⟩
theorem sv_X10_163 : SV RX10 163 RX10 yX10_refuseMissing cX10_refuseMissing 1 none 0 := ⟨q916, q917, q918, q274, q915, rfl, by decide +kernel, by decide +kernel, by decide +kernel⟩
theorem sv_X10_156 : SV RX10 156 RX10 yX10_needDocument cX10_needDocument 2 none 1 := ⟨q920, q921, q922, q274, q919, rfl, by decide +kernel, by decide +kernel, by decide +kernel⟩
theorem sv_X10_166 : SV RX10 166 RX4 yX4_takeAway cX4_takeAway 2 (some .int) 1 := ⟨q924, q925, q926, q226, q923, rfl, by decide +kernel, by decide +kernel, by decide +kernel⟩
theorem sv_X10_170 : SV RX10 170 RX10 yX10_needSize cX10_needSize 2 none 1 := ⟨q928, q929, q930, q274, q927, rfl, by decide +kernel, by decide +kernel, by decide +kernel⟩
theorem sv_X10_176 : SV RX10 176 RX4 yX4_purge cX4_purge 3 (some .int) 0 := ⟨q932, q933, q934, q226, q931, rfl, by decide +kernel, by decide +kernel, by decide +kernel⟩
theorem sv_X10_189 : SV RX10 189 RX4 yX4_allPostings cX4_allPostings 3 (some .int) 0 := ⟨q936, q937, q938, q226, q935, rfl, by decide +kernel, by decide +kernel, by decide +kernel⟩
theorem sv_X10_192 : SV RX10 192 RX5 yX5_allBlocks cX5_allBlocks 4 (some .int) 1 := ⟨q940, q941, q942, q220, q939, rfl, by decide +kernel, by decide +kernel, by decide +kernel⟩
theorem sv_X10_204 : SV RX10 204 RX4 yX4_unlikeWords cX4_unlikeWords 2 (some .int) 1 := ⟨q944, q945, q946, q226, q943, rfl, by decide +kernel, by decide +kernel, by decide +kernel⟩
theorem sv_X10_207 : SV RX10 207 RX4 yX4_mostOften cX4_mostOften 4 (some .int) 1 := ⟨q948, q949, q950, q226, q947, rfl, by decide +kernel, by decide +kernel, by decide +kernel⟩
theorem sv_X10_217 : SV RX10 217 RX10 yX10_needWord cX10_needWord 2 none 1 := ⟨q952, q953, q954, q274, q951, rfl, by decide +kernel, by decide +kernel, by decide +kernel⟩
theorem sv_X10_223 : SV RX10 223 RX4 yX4_standsOften cX4_standsOften 4 (some .int) 1 := ⟨q956, q957, q958, q226, q955, rfl, by decide +kernel, by decide +kernel, by decide +kernel⟩
theorem sv_X10_226 : SV RX10 226 RX4 yX4_blocksOf cX4_blocksOf 3 (some .int) 2 := ⟨q959, q233, q234, q226, q231, rfl, by decide +kernel, by decide +kernel, by decide +kernel⟩
theorem sv_X10_229 : SV RX10 229 RX4 yX4_topOf cX4_topOf 4 (some .int) 1 := ⟨q961, q962, q963, q226, q960, rfl, by decide +kernel, by decide +kernel, by decide +kernel⟩
theorem sv_X10_232 : SV RX10 232 RX4 yX4_rareOf cX4_rareOf 4 (some .int) 1 := ⟨q964, q229, q230, q226, q227, rfl, by decide +kernel, by decide +kernel, by decide +kernel⟩
theorem sv_X10_235 : SV RX10 235 RX5 yX5_bitsOf cX5_bitsOf 6 (some .int) 2 := ⟨q965, q434, q435, q220, q432, rfl, by decide +kernel, by decide +kernel, by decide +kernel⟩
theorem sv_X10_238 : SV RX10 238 RX9 yX9_lettersOf cX9_lettersOf 5 (some .int) 1 := ⟨q966, q519, q520, q262, q517, rfl, by decide +kernel, by decide +kernel, by decide +kernel⟩
theorem sv_X10_241 : SV RX10 241 RX9 yX9_letterOf cX9_letterOf 7 (some .int) 2 := ⟨q968, q969, q970, q262, q967, rfl, by decide +kernel, by decide +kernel, by decide +kernel⟩
theorem sv_X10_244 : SV RX10 244 RX10 yX10_needBlock cX10_needBlock 3 none 2 := ⟨q972, q973, q974, q274, q971, rfl, by decide +kernel, by decide +kernel, by decide +kernel⟩
theorem sv_X10_248 : SV RX10 248 RX5 yX5_measure cX5_measure 14 none 3 := ⟨q975, q237, q238, q220, q235, rfl, by decide +kernel, by decide +kernel, by decide +kernel⟩
theorem sv_X10_274 : SV RX10 274 RX10 yX10_needPosting cX10_needPosting 3 none 2 := ⟨q977, q978, q979, q274, q976, rfl, by decide +kernel, by decide +kernel, by decide +kernel⟩
theorem sv_X10_280 : SV RX10 280 RX4 yX4_gainOf cX4_gainOf 4 (some .int) 2 := ⟨q980, q224, q225, q226, q222, rfl, by decide +kernel, by decide +kernel, by decide +kernel⟩
theorem sv_X10_283 : SV RX10 283 RX4 yX4_blockAt cX4_blockAt 2 (some .int) 1 := ⟨q982, q983, q984, q226, q981, rfl, by decide +kernel, by decide +kernel, by decide +kernel⟩
theorem sv_X10_286 : SV RX10 286 RX4 yX4_positionOf cX4_positionOf 6 (some .int) 3 := ⟨q986, q987, q988, q226, q985, rfl, by decide +kernel, by decide +kernel, by decide +kernel⟩
theorem sv_X10_290 : SV RX10 290 RX4 yX4_commonWord cX4_commonWord 5 (some .int) 1 := ⟨q990, q991, q992, q226, q989, rfl, by decide +kernel, by decide +kernel, by decide +kernel⟩
theorem sv_X10_293 : SV RX10 293 RX4 yX4_wordsInBoth cX4_wordsInBoth 5 (some .int) 2 := ⟨q993, q428, q429, q226, q426, rfl, by decide +kernel, by decide +kernel, by decide +kernel⟩
theorem sv_X10_296 : SV RX10 296 RX6 yX6_hasScored cX6_hasScored 2 (some .boolean) 1 := ⟨q995, q996, q997, q289, q994, rfl, by decide +kernel, by decide +kernel, by decide +kernel⟩
theorem sv_X10_309 : SV RX10 309 RX3 yX3_whyNot cX3_whyNot 3 (some .int) 2 := ⟨q998, q359, q360, q313, q357, rfl, by decide +kernel, by decide +kernel, by decide +kernel⟩
theorem sv_X10_312 : SV RX10 312 RX3 yX3_total cX3_total 5 (some .int) 2 := ⟨q999, q363, q364, q313, q361, rfl, by decide +kernel, by decide +kernel, by decide +kernel⟩
theorem sv_X10_315 : SV RX10 315 RX3 yX3_nearness cX3_nearness 7 (some .int) 2 := ⟨q1000, q351, q352, q313, q349, rfl, by decide +kernel, by decide +kernel, by decide +kernel⟩
theorem sv_X10_318 : SV RX10 318 RX3 yX3_findWindow cX3_findWindow 5 none 1 := ⟨q1002, q1003, q1004, q313, q1001, rfl, by decide +kernel, by decide +kernel, by decide +kernel⟩
theorem sv_X10_339 : SV RX10 339 RX8 yX8_placeOf cX8_placeOf 3 (some .int) 1 := ⟨q1006, q1007, q1008, q516, q1005, rfl, by decide +kernel, by decide +kernel, by decide +kernel⟩
theorem sv_X10_348 : SV RX10 348 RX2 yX2_floorNow cX2_floorNow 1 (some .int) 0 := ⟨q1009, q292, q293, q294, q290, rfl, by decide +kernel, by decide +kernel, by decide +kernel⟩
theorem sv_X10_354 : SV RX10 354 RX2 yX2_allOpened cX2_allOpened 3 (some .int) 0 := ⟨q1011, q1012, q1013, q294, q1010, rfl, by decide +kernel, by decide +kernel, by decide +kernel⟩
theorem sv_X10_369 : SV RX10 369 RX2 yX2_spared cX2_spared 4 (some .int) 0 := ⟨q1015, q1016, q1017, q294, q1014, rfl, by decide +kernel, by decide +kernel, by decide +kernel⟩
theorem sv_X10_375 : SV RX10 375 RX10 yX10_needScoredBlock cX10_needScoredBlock 3 none 2 := ⟨q1019, q1020, q1021, q274, q1018, rfl, by decide +kernel, by decide +kernel, by decide +kernel⟩
theorem sm_X10_387 : SM RX10 387 Lib.Math.max.name Lib.Math.max.code 2 := ⟨q1022, q211, q212, q213⟩
theorem sv_X10_390 : SV RX10 390 RX10 yX10_workBy cX10_workBy 3 (some .int) 2 := ⟨q1024, q1025, q1026, q274, q1023, rfl, by decide +kernel, by decide +kernel, by decide +kernel⟩
theorem sv_X10_399 : SV RX10 399 RX3 yX3_pointsOf cX3_pointsOf 4 (some .int) 2 := ⟨q1027, q355, q356, q313, q353, rfl, by decide +kernel, by decide +kernel, by decide +kernel⟩
theorem sv_X10_405 : SV RX10 405 RX3 yX3_phraseBegins cX3_phraseBegins 9 (some .int) 2 := ⟨q1028, q316, q317, q313, q314, rfl, by decide +kernel, by decide +kernel, by decide +kernel⟩
